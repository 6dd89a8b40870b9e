def m_Mo_fresh : p_Me := (⟨"SortWorksModel", "fresh", "(II)V"⟩, prog_13_method_16_code, 3, none, 2, 40)
theorem mt_Mo_fresh : p_Mt m_Mo_fresh 2 := ⟨p_mem (p_tb7 (List.mem_of_getElem? (i := 68) rfl)) rfl, tw_1_12, by decide +kernel, by decide +kernel, by decide +kernel⟩
def dt_Mo_fresh : List (Nat × Instr × Nat) := [(0, .aload_n 0, 1), (1, .getfield 16, 3), (4, .iload_n 1, 1), (5, .iload_n 2, 1), (6, .iastore, 1), (7, .aload_n 0, 1), (8, .getfield 28, 3), (11, .iload_n 1, 1), (12, .iload_n 2, 1), (13, .invokestatic 247, 3), (16, .iastore, 1), (17, .aload_n 0, 1), (18, .getfield 31, 3), (21, .iload_n 1, 1), (22, .iconst 0, 1), (23, .iastore, 1), (24, .aload_n 0, 1), (25, .getfield 34, 3), (28, .iconst 2, 1), (29, .iload_n 1, 1), (30, .imul, 1), (31, .lconst 0, 1), (32, .lastore, 1), (33, .aload_n 0, 1), (34, .getfield 34, 3), (37, .iconst 2, 1), (38, .iload_n 1, 1), (39, .imul, 1), (40, .iconst 1, 1), (41, .iadd, 1), (42, .lconst 0, 1), (43, .lastore, 1), (44, .aload_n 0, 1), (45, .getfield 38, 3), (48, .iload_n 1, 1), (49, .iconst (-1), 1), (50, .iastore, 1), (51, .aload_n 0, 1), (52, .getfield 41, 3), (55, .iload_n 1, 1), (56, .iconst 0, 1), (57, .iastore, 1), (58, .aload_n 0, 1), (59, .getfield 44, 3), (62, .iload_n 1, 1), (63, .iconst 0, 1), (64, .bastore, 1), (65, .aload_n 0, 1), (66, .getfield 48, 3), (69, .iload_n 1, 1), (70, .iconst 0, 1), (71, .iastore, 1), (72, .aload_n 0, 1), (73, .getfield 51, 3), (76, .iload_n 1, 1), (77, .iconst 0, 1), (78, .iastore, 1), (79, .aload_n 0, 1), (80, .getfield 54, 3), (83, .iload_n 1, 1), (84, .iconst 0, 1), (85, .iastore, 1), (86, .aload_n 0, 1), (87, .getfield 57, 3), (90, .iload_n 1, 1), (91, .iconst 0, 1), (92, .iastore, 1), (93, .aload_n 0, 1), (94, .getfield 60, 3), (97, .iload_n 1, 1), (98, .iconst 0, 1), (99, .iastore, 1), (100, .aload_n 0, 1), (101, .getfield 63, 3), (104, .iload_n 1, 1), (105, .iconst 0, 1), (106, .iastore, 1), (107, .aload_n 0, 1), (108, .getfield 66, 3), (111, .iload_n 1, 1), (112, .iconst 0, 1), (113, .iastore, 1), (114, .return_, 1)]
theorem dk_Mo_fresh (i : Nat) {pc : Nat} {ins : Instr} {len : Nat} (h : dt_Mo_fresh[i]? = some (pc, ins, len)) : decode m_Mo_fresh.2.1 pc = .ok (ins, len) := p_dk (b := m_Mo_fresh.2.1) (t := dt_Mo_fresh) (by decide +kernel) i h
def F_Mo_fresh (v0 : Nat) (v1 : Int) (v2 : Int) (s0 : p_Hp) : Option p_Hp :=
  p_gd (p_is s0 v0 11) <|
  p_gd (p_is s0 (p_R s0 v0 5) 100) <|
  p_gd ((0 : Int) ≤ v1 ∧ v1 < (p_L s0 (p_R s0 v0 5) : Int)) <|
  p_bi (p_wZ s0 (p_R s0 v0 5) (v1 : Int).toNat v2) fun s4 =>
  p_bd (F_Mo_rankOf v2 s4) fun r10 s6 =>
  p_gd (p_is s6 (p_R s4 v0 9) 100) <|
  p_gd ((0 : Int) ≤ v1 ∧ v1 < (p_L s6 (p_R s4 v0 9) : Int)) <|
  p_bi (p_wZ s6 (p_R s4 v0 9) (v1 : Int).toNat r10) fun s13 =>
  p_gd (p_is s13 (p_R s13 v0 10) 100) <|
  p_gd ((0 : Int) ≤ v1 ∧ v1 < (p_L s13 (p_R s13 v0 10) : Int)) <|
  p_bi (p_wZ s13 (p_R s13 v0 10) (v1 : Int).toNat 0) fun s17 =>
  p_gd (p_is s17 (p_R s17 v0 11) 101) <|
  p_gd ((0 : Int) ≤ (p_w (2 * v1)) ∧ (p_w (2 * v1)) < (p_L s17 (p_R s17 v0 11) : Int)) <|
  p_bi (p_wZ s17 (p_R s17 v0 11) ((p_w (2 * v1)) : Int).toNat 0) fun s21 =>
  p_gd (p_is s21 (p_R s21 v0 11) 101) <|
  p_gd ((0 : Int) ≤ (p_w ((p_w (2 * v1)) + 1)) ∧ (p_w ((p_w (2 * v1)) + 1)) < (p_L s21 (p_R s21 v0 11) : Int)) <|
  p_bi (p_wZ s21 (p_R s21 v0 11) ((p_w ((p_w (2 * v1)) + 1)) : Int).toNat 0) fun s25 =>
  p_gd (p_is s25 (p_R s25 v0 12) 100) <|
  p_gd ((0 : Int) ≤ v1 ∧ v1 < (p_L s25 (p_R s25 v0 12) : Int)) <|
  p_bi (p_wZ s25 (p_R s25 v0 12) (v1 : Int).toNat (-1)) fun s29 =>
  p_gd (p_is s29 (p_R s29 v0 13) 100) <|
  p_gd ((0 : Int) ≤ v1 ∧ v1 < (p_L s29 (p_R s29 v0 13) : Int)) <|
  p_bi (p_wZ s29 (p_R s29 v0 13) (v1 : Int).toNat 0) fun s33 =>
  p_gd (p_is s33 (p_R s33 v0 14) 102) <|
  p_gd ((0 : Int) ≤ v1 ∧ v1 < (p_L s33 (p_R s33 v0 14) : Int)) <|
  p_bi (p_wZ s33 (p_R s33 v0 14) (v1 : Int).toNat 0) fun s37 =>
  p_gd (p_is s37 (p_R s37 v0 15) 100) <|
  p_gd ((0 : Int) ≤ v1 ∧ v1 < (p_L s37 (p_R s37 v0 15) : Int)) <|
  p_bi (p_wZ s37 (p_R s37 v0 15) (v1 : Int).toNat 0) fun s41 =>
  p_gd (p_is s41 (p_R s41 v0 16) 100) <|
  p_gd ((0 : Int) ≤ v1 ∧ v1 < (p_L s41 (p_R s41 v0 16) : Int)) <|
  p_bi (p_wZ s41 (p_R s41 v0 16) (v1 : Int).toNat 0) fun s45 =>
  p_gd (p_is s45 (p_R s45 v0 17) 100) <|
  p_gd ((0 : Int) ≤ v1 ∧ v1 < (p_L s45 (p_R s45 v0 17) : Int)) <|
  p_bi (p_wZ s45 (p_R s45 v0 17) (v1 : Int).toNat 0) fun s49 =>
  p_gd (p_is s49 (p_R s49 v0 18) 100) <|
  p_gd ((0 : Int) ≤ v1 ∧ v1 < (p_L s49 (p_R s49 v0 18) : Int)) <|
  p_bi (p_wZ s49 (p_R s49 v0 18) (v1 : Int).toNat 0) fun s53 =>
  p_gd (p_is s53 (p_R s53 v0 19) 100) <|
  p_gd ((0 : Int) ≤ v1 ∧ v1 < (p_L s53 (p_R s53 v0 19) : Int)) <|
  p_bi (p_wZ s53 (p_R s53 v0 19) (v1 : Int).toNat 0) fun s57 =>
  p_gd (p_is s57 (p_R s57 v0 20) 100) <|
  p_gd ((0 : Int) ≤ v1 ∧ v1 < (p_L s57 (p_R s57 v0 20) : Int)) <|
  p_bi (p_wZ s57 (p_R s57 v0 20) (v1 : Int).toNat 0) fun s61 =>
  p_gd (p_is s61 (p_R s61 v0 21) 100) <|
  p_gd ((0 : Int) ≤ v1 ∧ v1 < (p_L s61 (p_R s61 v0 21) : Int)) <|
  p_bi (p_wZ s61 (p_R s61 v0 21) (v1 : Int).toNat 0) fun s65 =>
  some s65
set_option maxRecDepth 100000 in
set_option maxHeartbeats 4000000 in
theorem tF_Mo_fresh (K : p_K) (l : Launch) (v0 : Nat) (v1 : Int) (v2 : Int) (s0 : p_Hp) (r : p_Hp) (h : F_Mo_fresh v0 v1 v2 s0 = some r) : p_Ct K l m_Mo_fresh [p_r v0, p_i v1, p_i v2] s0 (none, r) := by
  refine p_Ct.of (by decide +kernel) (Nat.le_of_ble_eq_true rfl) ?_
  unfold F_Mo_fresh at h
  show p_Go K l m_Mo_fresh 0 [(0, p_r v0), (1, p_i v1), (2, p_i v2)] [] s0 _
  refine g_aload_n (i := 0) (j := 0) (dk_Mo_fresh 0 rfl) rfl rfl ?_
  obtain ⟨c1, h⟩ := p_gdE h
  refine g_getR fl_Mo_16 (Or.inr ⟨_, rfl⟩) (dk_Mo_fresh 1 rfl) c1 ?_
  refine g_iload_n (i := 1) (j := 1) (dk_Mo_fresh 2 rfl) rfl rfl ?_
  refine g_iload_n (i := 2) (j := 2) (dk_Mo_fresh 3 rfl) rfl rfl ?_
  obtain ⟨c2, h⟩ := p_gdE h
  obtain ⟨c3, h⟩ := p_gdE h
  refine g_iastore (dk_Mo_fresh 4 rfl) c2 c3.1 c3.2 ?_
  refine p_ltS (P := fun q => p_Go K l m_Mo_fresh 7 [(0, p_r v0), (1, p_i v1), (2, p_i v2)] [] q _) (p_xZ _ _ _ _) ?_ h
  intro s4 hs5 h
  refine g_aload_n (i := 0) (j := 0) (dk_Mo_fresh 5 rfl) rfl rfl ?_
  refine g_getR fl_Mo_28 (Or.inr ⟨_, rfl⟩) (dk_Mo_fresh 6 rfl) (c1.up hs5) ?_
  refine g_iload_n (i := 1) (j := 1) (dk_Mo_fresh 7 rfl) rfl rfl ?_
  refine g_iload_n (i := 2) (j := 2) (dk_Mo_fresh 8 rfl) rfl rfl ?_
  obtain ⟨r10, s6, q7, h⟩ := p_bdE h
  have t8 := tF_Mo_rankOf K l v2 s4 _ q7
  refine g_callS (av := [p_i v2]) (rest := [p_i v1, p_r (p_R s4 v0 9)]) [p_i r10, p_i v1, p_r (p_R s4 v0 9)] mt_Mo_rankOf tw_7_70 tw_7_69 ⟨Nat.le_of_ble_eq_true rfl, Nat.le_of_ble_eq_true rfl⟩ rfl (Nat.le_of_ble_eq_true rfl) (dk_Mo_fresh 9 rfl) rfl rfl t8 ?_
  have hs9 : p_x s4 s6 := t8.1
  show p_Go K l m_Mo_fresh 16 [(0, p_r v0), (1, p_i v1), (2, p_i v2)] [p_i r10, p_i v1, p_r (p_R s4 v0 9)] s6 _
  obtain ⟨c11, h⟩ := p_gdE h
  obtain ⟨c12, h⟩ := p_gdE h
  refine g_iastore (dk_Mo_fresh 10 rfl) c11 c12.1 c12.2 ?_
  refine p_ltS (P := fun q => p_Go K l m_Mo_fresh 17 [(0, p_r v0), (1, p_i v1), (2, p_i v2)] [] q _) (p_xZ _ _ _ _) ?_ h
  intro s13 hs14 h
  refine g_aload_n (i := 0) (j := 0) (dk_Mo_fresh 11 rfl) rfl rfl ?_
  refine g_getR fl_Mo_31 (Or.inr ⟨_, rfl⟩) (dk_Mo_fresh 12 rfl) (c1.up (hs5.trans (hs9.trans hs14))) ?_
  refine g_iload_n (i := 1) (j := 1) (dk_Mo_fresh 13 rfl) rfl rfl ?_
  refine g_iconst (dk_Mo_fresh 14 rfl) (by decide) ?_
  obtain ⟨c15, h⟩ := p_gdE h
  obtain ⟨c16, h⟩ := p_gdE h
  refine g_iastore (dk_Mo_fresh 15 rfl) c15 c16.1 c16.2 ?_
  refine p_ltS (P := fun q => p_Go K l m_Mo_fresh 24 [(0, p_r v0), (1, p_i v1), (2, p_i v2)] [] q _) (p_xZ _ _ _ _) ?_ h
  intro s17 hs18 h
  refine g_aload_n (i := 0) (j := 0) (dk_Mo_fresh 16 rfl) rfl rfl ?_
  refine g_getR fl_Mo_34 (Or.inr ⟨_, rfl⟩) (dk_Mo_fresh 17 rfl) (c1.up (hs5.trans (hs9.trans (hs14.trans hs18)))) ?_
  refine g_iconst (dk_Mo_fresh 18 rfl) (by decide) ?_
  refine g_iload_n (i := 1) (j := 1) (dk_Mo_fresh 19 rfl) rfl rfl ?_
  refine g_imul (dk_Mo_fresh 20 rfl) ?_
  refine g_lconst (x := 0) (dk_Mo_fresh 21 rfl) rfl (by decide) ?_
  obtain ⟨c19, h⟩ := p_gdE h
  obtain ⟨c20, h⟩ := p_gdE h
  refine g_lastore (dk_Mo_fresh 22 rfl) c19 c20.1 c20.2 ?_
  refine p_ltS (P := fun q => p_Go K l m_Mo_fresh 33 [(0, p_r v0), (1, p_i v1), (2, p_i v2)] [] q _) (p_xZ _ _ _ _) ?_ h
  intro s21 hs22 h
  refine g_aload_n (i := 0) (j := 0) (dk_Mo_fresh 23 rfl) rfl rfl ?_
  refine g_getR fl_Mo_34 (Or.inr ⟨_, rfl⟩) (dk_Mo_fresh 24 rfl) (c1.up (hs5.trans (hs9.trans (hs14.trans (hs18.trans hs22))))) ?_
  refine g_iconst (dk_Mo_fresh 25 rfl) (by decide) ?_
  refine g_iload_n (i := 1) (j := 1) (dk_Mo_fresh 26 rfl) rfl rfl ?_
  refine g_imul (dk_Mo_fresh 27 rfl) ?_
  refine g_iconst (dk_Mo_fresh 28 rfl) (by decide) ?_
  refine g_iadd (dk_Mo_fresh 29 rfl) ?_
  refine g_lconst (x := 0) (dk_Mo_fresh 30 rfl) rfl (by decide) ?_
  obtain ⟨c23, h⟩ := p_gdE h
  obtain ⟨c24, h⟩ := p_gdE h
  refine g_lastore (dk_Mo_fresh 31 rfl) c23 c24.1 c24.2 ?_
  refine p_ltS (P := fun q => p_Go K l m_Mo_fresh 44 [(0, p_r v0), (1, p_i v1), (2, p_i v2)] [] q _) (p_xZ _ _ _ _) ?_ h
  intro s25 hs26 h
  refine g_aload_n (i := 0) (j := 0) (dk_Mo_fresh 32 rfl) rfl rfl ?_
  refine g_getR fl_Mo_38 (Or.inr ⟨_, rfl⟩) (dk_Mo_fresh 33 rfl) (c1.up (hs5.trans (hs9.trans (hs14.trans (hs18.trans (hs22.trans hs26)))))) ?_
  refine g_iload_n (i := 1) (j := 1) (dk_Mo_fresh 34 rfl) rfl rfl ?_
  refine g_iconst (dk_Mo_fresh 35 rfl) (by decide) ?_
  obtain ⟨c27, h⟩ := p_gdE h
  obtain ⟨c28, h⟩ := p_gdE h
  refine g_iastore (dk_Mo_fresh 36 rfl) c27 c28.1 c28.2 ?_
  refine p_ltS (P := fun q => p_Go K l m_Mo_fresh 51 [(0, p_r v0), (1, p_i v1), (2, p_i v2)] [] q _) (p_xZ _ _ _ _) ?_ h
  intro s29 hs30 h
  refine g_aload_n (i := 0) (j := 0) (dk_Mo_fresh 37 rfl) rfl rfl ?_
  refine g_getR fl_Mo_41 (Or.inr ⟨_, rfl⟩) (dk_Mo_fresh 38 rfl) (c1.up (hs5.trans (hs9.trans (hs14.trans (hs18.trans (hs22.trans (hs26.trans hs30))))))) ?_
  refine g_iload_n (i := 1) (j := 1) (dk_Mo_fresh 39 rfl) rfl rfl ?_
  refine g_iconst (dk_Mo_fresh 40 rfl) (by decide) ?_
  obtain ⟨c31, h⟩ := p_gdE h
  obtain ⟨c32, h⟩ := p_gdE h
  refine g_iastore (dk_Mo_fresh 41 rfl) c31 c32.1 c32.2 ?_
  refine p_ltS (P := fun q => p_Go K l m_Mo_fresh 58 [(0, p_r v0), (1, p_i v1), (2, p_i v2)] [] q _) (p_xZ _ _ _ _) ?_ h
  intro s33 hs34 h
  refine g_aload_n (i := 0) (j := 0) (dk_Mo_fresh 42 rfl) rfl rfl ?_
  refine g_getR fl_Mo_44 (Or.inr ⟨_, rfl⟩) (dk_Mo_fresh 43 rfl) (c1.up (hs5.trans (hs9.trans (hs14.trans (hs18.trans (hs22.trans (hs26.trans (hs30.trans hs34)))))))) ?_
  refine g_iload_n (i := 1) (j := 1) (dk_Mo_fresh 44 rfl) rfl rfl ?_
  refine g_iconst (dk_Mo_fresh 45 rfl) (by decide) ?_
  obtain ⟨c35, h⟩ := p_gdE h
  obtain ⟨c36, h⟩ := p_gdE h
  refine g_bastore (dk_Mo_fresh 46 rfl) c35 c36.1 c36.2 (Or.inl rfl) ?_
  refine p_ltS (P := fun q => p_Go K l m_Mo_fresh 65 [(0, p_r v0), (1, p_i v1), (2, p_i v2)] [] q _) (p_xZ _ _ _ _) ?_ h
  intro s37 hs38 h
  refine g_aload_n (i := 0) (j := 0) (dk_Mo_fresh 47 rfl) rfl rfl ?_
  refine g_getR fl_Mo_48 (Or.inr ⟨_, rfl⟩) (dk_Mo_fresh 48 rfl) (c1.up (hs5.trans (hs9.trans (hs14.trans (hs18.trans (hs22.trans (hs26.trans (hs30.trans (hs34.trans hs38))))))))) ?_
  refine g_iload_n (i := 1) (j := 1) (dk_Mo_fresh 49 rfl) rfl rfl ?_
  refine g_iconst (dk_Mo_fresh 50 rfl) (by decide) ?_
  obtain ⟨c39, h⟩ := p_gdE h
  obtain ⟨c40, h⟩ := p_gdE h
  refine g_iastore (dk_Mo_fresh 51 rfl) c39 c40.1 c40.2 ?_
  refine p_ltS (P := fun q => p_Go K l m_Mo_fresh 72 [(0, p_r v0), (1, p_i v1), (2, p_i v2)] [] q _) (p_xZ _ _ _ _) ?_ h
  intro s41 hs42 h
  refine g_aload_n (i := 0) (j := 0) (dk_Mo_fresh 52 rfl) rfl rfl ?_
  refine g_getR fl_Mo_51 (Or.inr ⟨_, rfl⟩) (dk_Mo_fresh 53 rfl) (c1.up (hs5.trans (hs9.trans (hs14.trans (hs18.trans (hs22.trans (hs26.trans (hs30.trans (hs34.trans (hs38.trans hs42)))))))))) ?_
  refine g_iload_n (i := 1) (j := 1) (dk_Mo_fresh 54 rfl) rfl rfl ?_
  refine g_iconst (dk_Mo_fresh 55 rfl) (by decide) ?_
  obtain ⟨c43, h⟩ := p_gdE h
  obtain ⟨c44, h⟩ := p_gdE h
  refine g_iastore (dk_Mo_fresh 56 rfl) c43 c44.1 c44.2 ?_
  refine p_ltS (P := fun q => p_Go K l m_Mo_fresh 79 [(0, p_r v0), (1, p_i v1), (2, p_i v2)] [] q _) (p_xZ _ _ _ _) ?_ h
  intro s45 hs46 h
  refine g_aload_n (i := 0) (j := 0) (dk_Mo_fresh 57 rfl) rfl rfl ?_
  refine g_getR fl_Mo_54 (Or.inr ⟨_, rfl⟩) (dk_Mo_fresh 58 rfl) (c1.up (hs5.trans (hs9.trans (hs14.trans (hs18.trans (hs22.trans (hs26.trans (hs30.trans (hs34.trans (hs38.trans (hs42.trans hs46))))))))))) ?_
  refine g_iload_n (i := 1) (j := 1) (dk_Mo_fresh 59 rfl) rfl rfl ?_
  refine g_iconst (dk_Mo_fresh 60 rfl) (by decide) ?_
  obtain ⟨c47, h⟩ := p_gdE h
  obtain ⟨c48, h⟩ := p_gdE h
  refine g_iastore (dk_Mo_fresh 61 rfl) c47 c48.1 c48.2 ?_
  refine p_ltS (P := fun q => p_Go K l m_Mo_fresh 86 [(0, p_r v0), (1, p_i v1), (2, p_i v2)] [] q _) (p_xZ _ _ _ _) ?_ h
  intro s49 hs50 h
  refine g_aload_n (i := 0) (j := 0) (dk_Mo_fresh 62 rfl) rfl rfl ?_
  refine g_getR fl_Mo_57 (Or.inr ⟨_, rfl⟩) (dk_Mo_fresh 63 rfl) (c1.up (hs5.trans (hs9.trans (hs14.trans (hs18.trans (hs22.trans (hs26.trans (hs30.trans (hs34.trans (hs38.trans (hs42.trans (hs46.trans hs50)))))))))))) ?_
  refine g_iload_n (i := 1) (j := 1) (dk_Mo_fresh 64 rfl) rfl rfl ?_
  refine g_iconst (dk_Mo_fresh 65 rfl) (by decide) ?_
  obtain ⟨c51, h⟩ := p_gdE h
  obtain ⟨c52, h⟩ := p_gdE h
  refine g_iastore (dk_Mo_fresh 66 rfl) c51 c52.1 c52.2 ?_
  refine p_ltS (P := fun q => p_Go K l m_Mo_fresh 93 [(0, p_r v0), (1, p_i v1), (2, p_i v2)] [] q _) (p_xZ _ _ _ _) ?_ h
  intro s53 hs54 h
  refine g_aload_n (i := 0) (j := 0) (dk_Mo_fresh 67 rfl) rfl rfl ?_
  refine g_getR fl_Mo_60 (Or.inr ⟨_, rfl⟩) (dk_Mo_fresh 68 rfl) (c1.up (hs5.trans (hs9.trans (hs14.trans (hs18.trans (hs22.trans (hs26.trans (hs30.trans (hs34.trans (hs38.trans (hs42.trans (hs46.trans (hs50.trans hs54))))))))))))) ?_
  refine g_iload_n (i := 1) (j := 1) (dk_Mo_fresh 69 rfl) rfl rfl ?_
  refine g_iconst (dk_Mo_fresh 70 rfl) (by decide) ?_
  obtain ⟨c55, h⟩ := p_gdE h
  obtain ⟨c56, h⟩ := p_gdE h
  refine g_iastore (dk_Mo_fresh 71 rfl) c55 c56.1 c56.2 ?_
  refine p_ltS (P := fun q => p_Go K l m_Mo_fresh 100 [(0, p_r v0), (1, p_i v1), (2, p_i v2)] [] q _) (p_xZ _ _ _ _) ?_ h
  intro s57 hs58 h
  refine g_aload_n (i := 0) (j := 0) (dk_Mo_fresh 72 rfl) rfl rfl ?_
  refine g_getR fl_Mo_63 (Or.inr ⟨_, rfl⟩) (dk_Mo_fresh 73 rfl) (c1.up (hs5.trans (hs9.trans (hs14.trans (hs18.trans (hs22.trans (hs26.trans (hs30.trans (hs34.trans (hs38.trans (hs42.trans (hs46.trans (hs50.trans (hs54.trans hs58)))))))))))))) ?_
  refine g_iload_n (i := 1) (j := 1) (dk_Mo_fresh 74 rfl) rfl rfl ?_
  refine g_iconst (dk_Mo_fresh 75 rfl) (by decide) ?_
  obtain ⟨c59, h⟩ := p_gdE h
  obtain ⟨c60, h⟩ := p_gdE h
  refine g_iastore (dk_Mo_fresh 76 rfl) c59 c60.1 c60.2 ?_
  refine p_ltS (P := fun q => p_Go K l m_Mo_fresh 107 [(0, p_r v0), (1, p_i v1), (2, p_i v2)] [] q _) (p_xZ _ _ _ _) ?_ h
  intro s61 hs62 h
  refine g_aload_n (i := 0) (j := 0) (dk_Mo_fresh 77 rfl) rfl rfl ?_
  refine g_getR fl_Mo_66 (Or.inr ⟨_, rfl⟩) (dk_Mo_fresh 78 rfl) (c1.up (hs5.trans (hs9.trans (hs14.trans (hs18.trans (hs22.trans (hs26.trans (hs30.trans (hs34.trans (hs38.trans (hs42.trans (hs46.trans (hs50.trans (hs54.trans (hs58.trans hs62))))))))))))))) ?_
  refine g_iload_n (i := 1) (j := 1) (dk_Mo_fresh 79 rfl) rfl rfl ?_
  refine g_iconst (dk_Mo_fresh 80 rfl) (by decide) ?_
  obtain ⟨c63, h⟩ := p_gdE h
  obtain ⟨c64, h⟩ := p_gdE h
  refine g_iastore (dk_Mo_fresh 81 rfl) c63 c64.1 c64.2 ?_
  refine p_ltS (P := fun q => p_Go K l m_Mo_fresh 114 [(0, p_r v0), (1, p_i v1), (2, p_i v2)] [] q _) (p_xZ _ _ _ _) ?_ h
  intro s65 hs66 h
  cases h
  exact g_ret rfl rfl (dk_Mo_fresh 82 rfl) (fun _ => rfl)
def m_Mo_g : p_Me := (⟨"SortWorksModel", "g", "(I)I"⟩, prog_13_method_6_code, 2, (some .int), 0, 0)
theorem mt_Mo_g : p_Mt m_Mo_g 1 := ⟨p_mem (p_tb7 (List.mem_of_getElem? (i := 64) rfl)) rfl, tw_1_12, by decide +kernel, by decide +kernel, by decide +kernel⟩
def dt_Mo_g : List (Nat × Instr × Nat) := [(0, .bipush 40, 2), (2, .aload_n 0, 1), (3, .getfield 227, 3), (6, .imul, 1), (7, .iload_n 1, 1), (8, .iadd, 1), (9, .ireturn, 1)]
theorem dk_Mo_g (i : Nat) {pc : Nat} {ins : Instr} {len : Nat} (h : dt_Mo_g[i]? = some (pc, ins, len)) : decode m_Mo_g.2.1 pc = .ok (ins, len) := p_dk (b := m_Mo_g.2.1) (t := dt_Mo_g) (by decide +kernel) i h
def F_Mo_g (v0 : Nat) (v1 : Int) (s0 : p_Hp) : Option (Int × p_Hp) :=
  p_gd (p_is s0 v0 11) <|
  some ((p_w ((p_w (40 * (p_Z s0 v0 0))) + v1)), s0)
set_option maxRecDepth 100000 in
set_option maxHeartbeats 4000000 in
theorem tF_Mo_g (K : p_K) (l : Launch) (v0 : Nat) (v1 : Int) (s0 : p_Hp) (r : (Int × p_Hp)) (h : F_Mo_g v0 v1 s0 = some r) : p_Ct K l m_Mo_g [p_r v0, p_i v1] s0 (some (p_i r.1), r.2) := by
  refine p_Ct.of (by decide +kernel) (Nat.le_of_ble_eq_true rfl) ?_
  unfold F_Mo_g at h
  show p_Go K l m_Mo_g 0 [(0, p_r v0), (1, p_i v1)] [] s0 _
  refine g_bipush (dk_Mo_g 0 rfl) (by decide +kernel) (by decide) ?_
  refine g_aload_n (i := 0) (j := 0) (dk_Mo_g 1 rfl) rfl rfl ?_
  obtain ⟨c1, h⟩ := p_gdE h
  refine g_getI fl_Mo_227 (Or.inl rfl) (dk_Mo_g 2 rfl) c1 ?_
  refine g_imul (dk_Mo_g 3 rfl) ?_
  refine g_iload_n (i := 1) (j := 1) (dk_Mo_g 4 rfl) rfl rfl ?_
  refine g_iadd (dk_Mo_g 5 rfl) ?_
  cases h
  exact g_ret rfl rfl (dk_Mo_g 6 rfl) (fun os => ⟨_, rfl, p_okh os⟩)
def m_Mo_isTaker : p_Me := (⟨"SortWorksModel", "isTaker", "(I)Z"⟩, prog_13_method_8_code, 1, (some .boolean), 0, 0)
theorem mt_Mo_isTaker : p_Mt m_Mo_isTaker 1 := ⟨p_mem (p_tb7 (List.mem_of_getElem? (i := 59) rfl)) rfl, tw_1_12, by decide +kernel, by decide +kernel, by decide +kernel⟩
def dt_Mo_isTaker : List (Nat × Instr × Nat) := [(0, .iload_n 0, 1), (1, .bipush 9, 2), (3, .if_icmp .ge 7, 3), (6, .iconst 1, 1), (7, .goto 4, 3), (10, .iconst 0, 1), (11, .ireturn, 1)]
theorem dk_Mo_isTaker (i : Nat) {pc : Nat} {ins : Instr} {len : Nat} (h : dt_Mo_isTaker[i]? = some (pc, ins, len)) : decode m_Mo_isTaker.2.1 pc = .ok (ins, len) := p_dk (b := m_Mo_isTaker.2.1) (t := dt_Mo_isTaker) (by decide +kernel) i h
def F_Mo_isTaker (v0 : Int) (s0 : p_Hp) : Option (Int × p_Hp) :=
  if 9 ≤ v0 then
    some (0, s0)
  else
    some (1, s0)
set_option maxRecDepth 100000 in
set_option maxHeartbeats 4000000 in
theorem tF_Mo_isTaker (K : p_K) (l : Launch) (v0 : Int) (s0 : p_Hp) (r : (Int × p_Hp)) (h : F_Mo_isTaker v0 s0 = some r) : p_Ct K l m_Mo_isTaker [p_i v0] s0 (some (p_i r.1), r.2) := by
  refine p_Ct.of (by decide +kernel) (Nat.le_of_ble_eq_true rfl) ?_
  unfold F_Mo_isTaker at h
  show p_Go K l m_Mo_isTaker 0 [(0, p_i v0)] [] s0 _
  refine g_iload_n (i := 0) (j := 0) (dk_Mo_isTaker 0 rfl) rfl rfl ?_
  refine g_bipush (dk_Mo_isTaker 1 rfl) (by decide +kernel) (by decide) ?_
  refine g_icmp_ge 10 (dk_Mo_isTaker 2 rfl) (by decide) (fun b1 => ?_) (fun b1 => ?_)
  · have h := p_ifT b1 h
    refine g_iconst (dk_Mo_isTaker 5 rfl) (by decide) ?_
    cases h
    exact g_ret rfl rfl (dk_Mo_isTaker 6 rfl) (fun _ => ⟨_, rfl, Or.inl rfl⟩)
  · have h := p_ifF b1 h
    refine g_iconst (dk_Mo_isTaker 3 rfl) (by decide) ?_
    refine g_goto 11 (dk_Mo_isTaker 4 rfl) (by decide) ?_
    cases h
    exact g_ret rfl rfl (dk_Mo_isTaker 6 rfl) (fun _ => ⟨_, rfl, Or.inr rfl⟩)
def m_Mo_gear : p_Me := (⟨"SortWorksModel", "gear", "(II)I"⟩, prog_13_method_18_code, 5, (some .int), 3, 62)
theorem mt_Mo_gear : p_Mt m_Mo_gear 2 := ⟨p_mem (p_tb7 (List.mem_of_getElem? (i := 55) rfl)) rfl, tw_1_12, by decide +kernel, by decide +kernel, by decide +kernel⟩
def dt_Mo_gear : List (Nat × Instr × Nat) := [(0, .iload_n 1, 1), (1, .i2l, 1), (2, .lconst 0, 1), (3, .ldc2_w 250, 3), (6, .invokestatic 230, 3), (9, .ifCond .ne 22, 3), (12, .iload_n 1, 1), (13, .invokestatic 252, 3), (16, .ifCond .eq 22, 3), (19, .iload_n 2, 1), (20, .i2l, 1), (21, .lconst 1, 1), (22, .ldc2_w 255, 3), (25, .invokestatic 230, 3), (28, .ifCond .eq 10, 3), (31, .aload_n 0, 1), (32, .bipush (-2), 2), (34, .invokevirtual 240, 3), (37, .ireturn, 1), (38, .aload_n 0, 1), (39, .getfield 7, 3), (42, .aload_n 0, 1), (43, .getfield 227, 3), (46, .iaload, 1), (47, .bipush 40, 2), (49, .if_icmp .ne 10, 3), (52, .aload_n 0, 1), (53, .bipush (-4), 2), (55, .invokevirtual 240, 3), (58, .ireturn, 1), (59, .aload_n 0, 1), (60, .aload_n 0, 1), (61, .getfield 7, 3), (64, .aload_n 0, 1), (65, .getfield 227, 3), (68, .iaload, 1), (69, .invokevirtual 257, 3), (72, .istore_n 3, 1), (73, .aload_n 0, 1), (74, .iload_n 3, 1), (75, .iload_n 1, 1), (76, .invokevirtual 260, 3), (79, .aload_n 0, 1), (80, .getfield 19, 3), (83, .iload_n 3, 1), (84, .iload_n 1, 1), (85, .invokestatic 252, 3), (88, .ifCond .eq 7, 3), (91, .iload_n 2, 1), (92, .goto 4, 3), (95, .iconst 0, 1), (96, .iastore, 1), (97, .aload_n 0, 1), (98, .getfield 22, 3), (101, .iload_n 3, 1), (102, .iconst (-1), 1), (103, .iastore, 1), (104, .iconst 0, 1), (105, .istore 4, 2), (107, .iload 4, 2), (109, .bipush 8, 2), (111, .if_icmp .ge 22, 3), (114, .aload_n 0, 1), (115, .getfield 69, 3), (118, .bipush 8, 2), (120, .iload_n 3, 1), (121, .imul, 1), (122, .iload 4, 2), (124, .iadd, 1), (125, .iconst 0, 1), (126, .iastore, 1), (127, .iinc 4 1, 3), (130, .goto (-23), 3), (133, .aload_n 0, 1), (134, .getfield 7, 3), (137, .aload_n 0, 1), (138, .getfield 227, 3), (141, .dup2, 1), (142, .iaload, 1), (143, .iconst 1, 1), (144, .iadd, 1), (145, .iastore, 1), (146, .aload_n 0, 1), (147, .aload_n 0, 1), (148, .getfield 7, 3), (151, .aload_n 0, 1), (152, .getfield 227, 3), (155, .iaload, 1), (156, .iconst 1, 1), (157, .isub, 1), (158, .invokevirtual 264, 3), (161, .ireturn, 1)]
theorem dk_Mo_gear (i : Nat) {pc : Nat} {ins : Instr} {len : Nat} (h : dt_Mo_gear[i]? = some (pc, ins, len)) : decode m_Mo_gear.2.1 pc = .ok (ins, len) := p_dk (b := m_Mo_gear.2.1) (t := dt_Mo_gear) (by decide +kernel) i h
def B_Mo_gear_31  (v0 : Nat) (s0 : p_Hp) : Option (Int × p_Hp) :=
  p_gd (p_is s0 v0 11) <|
  p_bd (F_Mo_refused v0 (-2) s0) fun r6 s2 =>
  some (r6, s2)
def L_Mo_gear_107 (k107 : Nat → Int → Int → p_Hp → Option (Int × p_Hp)) (v0 : Nat) (v3 : Int) (v4 : Int) (s0 : p_Hp) : Option (Int × p_Hp) :=
  if 8 ≤ v4 then
    p_gd (p_is s0 v0 11) <|
    p_gd (p_is s0 (p_R s0 v0 3) 100) <|
    p_gd ((0 : Int) ≤ (p_Z s0 v0 0) ∧ (p_Z s0 v0 0) < (p_L s0 (p_R s0 v0 3) : Int)) <|
    p_gd ((0 : Int) ≤ (p_Z s0 v0 0) ∧ (p_Z s0 v0 0) < (p_L s0 (p_R s0 v0 3) : Int)) <|
    p_bi (p_wZ s0 (p_R s0 v0 3) ((p_Z s0 v0 0) : Int).toNat (p_w ((p_Z s0 (p_R s0 v0 3) ((p_Z s0 v0 0) : Int).toNat) + 1))) fun s6 =>
    p_gd (p_is s6 (p_R s6 v0 3) 100) <|
    p_gd ((0 : Int) ≤ (p_Z s6 v0 0) ∧ (p_Z s6 v0 0) < (p_L s6 (p_R s6 v0 3) : Int)) <|
    p_bd (F_Mo_built v0 (p_w ((p_Z s6 (p_R s6 v0 3) ((p_Z s6 v0 0) : Int).toNat) - 1)) s6) fun r14 s10 =>
    some (r14, s10)
  else
    p_gd (p_is s0 v0 11) <|
    p_gd (p_is s0 (p_R s0 v0 22) 100) <|
    p_gd ((0 : Int) ≤ (p_w ((p_w (8 * v3)) + v4)) ∧ (p_w ((p_w (8 * v3)) + v4)) < (p_L s0 (p_R s0 v0 22) : Int)) <|
    p_bi (p_wZ s0 (p_R s0 v0 22) ((p_w ((p_w (8 * v3)) + v4)) : Int).toNat 0) fun s18 =>
    p_bi (p_w (v4 + 1)) fun x20 =>
    k107 v0 v3 x20 s18
def O_Mo_gear_107  : Nat → Nat → Int → Int → p_Hp → Option (Int × p_Hp)
  | 0 => fun _ _ _ _ => none
  | n + 1 => L_Mo_gear_107 (O_Mo_gear_107 n)
def B_Mo_gear_96  (v0 : Nat) (v3 : Int) (w0 : Int) (w1 : Int) (w2 : Nat) (s0 : p_Hp) : Option (Int × p_Hp) :=
  p_gd (p_is s0 w2 100) <|
  p_gd ((0 : Int) ≤ w1 ∧ w1 < (p_L s0 w2 : Int)) <|
  p_bi (p_wZ s0 w2 (w1 : Int).toNat w0) fun s3 =>
  p_gd (p_is s3 v0 11) <|
  p_gd (p_is s3 (p_R s3 v0 7) 100) <|
  p_gd ((0 : Int) ≤ v3 ∧ v3 < (p_L s3 (p_R s3 v0 7) : Int)) <|
  p_bi (p_wZ s3 (p_R s3 v0 7) (v3 : Int).toNat (-1)) fun s8 =>
  O_Mo_gear_107 3000 v0 v3 0 s8
def B_Mo_gear_38  (v0 : Nat) (v1 : Int) (v2 : Int) (s0 : p_Hp) : Option (Int × p_Hp) :=
  p_gd (p_is s0 v0 11) <|
  p_gd (p_is s0 (p_R s0 v0 3) 100) <|
  p_gd ((0 : Int) ≤ (p_Z s0 v0 0) ∧ (p_Z s0 v0 0) < (p_L s0 (p_R s0 v0 3) : Int)) <|
  if (p_Z s0 (p_R s0 v0 3) ((p_Z s0 v0 0) : Int).toNat) ≠ 40 then
    p_gd ((0 : Int) ≤ (p_Z s0 v0 0) ∧ (p_Z s0 v0 0) < (p_L s0 (p_R s0 v0 3) : Int)) <|
    p_bd (F_Mo_g v0 (p_Z s0 (p_R s0 v0 3) ((p_Z s0 v0 0) : Int).toNat) s0) fun r10 s6 =>
    p_bv (F_Mo_fresh v0 r10 v1 s6) fun s11 =>
    p_bd (F_Mo_isTaker v1 s11) fun r19 s15 =>
    if r19 = 0 then
      B_Mo_gear_96 v0 r10 0 r10 (p_R s11 v0 6) s15
    else
      B_Mo_gear_96 v0 r10 v2 r10 (p_R s11 v0 6) s15
  else
    p_bd (F_Mo_refused v0 (-4) s0) fun r25 s21 =>
    some (r25, s21)
def F_Mo_gear (v0 : Nat) (v1 : Int) (v2 : Int) (s0 : p_Hp) : Option (Int × p_Hp) :=
  p_bd (F_Mo_beyond v1 0 10 s0) fun r5 s1 =>
  if r5 ≠ 0 then
    B_Mo_gear_31 v0 s1
  else
    p_bd (F_Mo_isTaker v1 s1) fun r11 s7 =>
    if r11 = 0 then
      B_Mo_gear_38 v0 v1 v2 s7
    else
      p_bd (F_Mo_beyond v2 1 8 s7) fun r17 s13 =>
      if r17 = 0 then
        B_Mo_gear_38 v0 v1 v2 s13
      else
        B_Mo_gear_31 v0 s13
set_option maxRecDepth 100000 in
set_option maxHeartbeats 4000000 in
theorem tB_Mo_gear_31 (K : p_K) (l : Launch)  (v0 : Nat) (s0 : p_Hp) (r : (Int × p_Hp)) (h : B_Mo_gear_31 v0 s0 = some r) : p_Go K l m_Mo_gear 31 [(0, p_r v0)] [] s0 (some (p_i r.1), r.2) := by
  unfold B_Mo_gear_31 at h
  refine g_aload_n (i := 0) (j := 0) (dk_Mo_gear 15 rfl) rfl rfl ?_
  refine g_bipush (dk_Mo_gear 16 rfl) (by decide +kernel) (by decide) ?_
  obtain ⟨c1, h⟩ := p_gdE h
  obtain ⟨r6, s2, q3, h⟩ := p_bdE h
  have t4 := tF_Mo_refused K l v0 (-2) s0 _ q3
  refine g_callV (a := v0) (ci := 11) (q0 := (RX11, TX11, 90)) (As := [p_i (-2)]) (rest := []) [p_i r6] mt_Mo_refused rfl rfl tw_7_46 ts_43 tw_7_44 ⟨Nat.le_of_ble_eq_true rfl, Nat.le_of_ble_eq_true rfl⟩ rfl (Nat.le_of_ble_eq_true rfl) (dk_Mo_gear 17 rfl) rfl c1 rfl t4 ?_
  have hs5 : p_x s0 s2 := t4.1
  show p_Go K l m_Mo_gear 37 [(0, p_r v0)] [p_i r6] s2 _
  cases h
  exact g_ret rfl rfl (dk_Mo_gear 18 rfl) (fun os => ⟨_, rfl, p_okh os⟩)
set_option maxRecDepth 100000 in
set_option maxHeartbeats 4000000 in
theorem tL_Mo_gear_107 (K : p_K) (l : Launch) (k107 : Nat → Int → Int → p_Hp → Option (Int × p_Hp)) (hk107 : ∀ (v0 : Nat) (v3 : Int) (v4 : Int)  (s0 : p_Hp) (r : (Int × p_Hp)), k107 v0 v3 v4 s0 = some r → p_Go K l m_Mo_gear 107 [(0, p_r v0), (3, p_i v3), (4, p_i v4)] [] s0 (some (p_i r.1), r.2)) (v0 : Nat) (v3 : Int) (v4 : Int) (s0 : p_Hp) (r : (Int × p_Hp)) (h : L_Mo_gear_107 k107 v0 v3 v4 s0 = some r) : p_Go K l m_Mo_gear 107 [(0, p_r v0), (3, p_i v3), (4, p_i v4)] [] s0 (some (p_i r.1), r.2) := by
  unfold L_Mo_gear_107 at h
  refine g_iload (j := 2) (dk_Mo_gear 59 rfl) rfl ?_
  refine g_bipush (dk_Mo_gear 60 rfl) (by decide +kernel) (by decide) ?_
  refine g_icmp_ge 133 (dk_Mo_gear 61 rfl) (by decide) (fun b1 => ?_) (fun b1 => ?_)
  · have h := p_ifT b1 h
    refine g_aload_n (i := 0) (j := 0) (dk_Mo_gear 73 rfl) rfl rfl ?_
    obtain ⟨c2, h⟩ := p_gdE h
    refine g_getR fl_Mo_7 (Or.inr ⟨_, rfl⟩) (dk_Mo_gear 74 rfl) c2 ?_
    refine g_aload_n (i := 0) (j := 0) (dk_Mo_gear 75 rfl) rfl rfl ?_
    refine g_getI fl_Mo_227 (Or.inl rfl) (dk_Mo_gear 76 rfl) c2 ?_
    refine g_dup2 (dk_Mo_gear 77 rfl) rfl rfl ?_
    obtain ⟨c3, h⟩ := p_gdE h
    obtain ⟨c4, h⟩ := p_gdE h
    refine g_iaload (dk_Mo_gear 78 rfl) c3 c4.1 c4.2 ?_
    refine g_iconst (dk_Mo_gear 79 rfl) (by decide) ?_
    refine g_iadd (dk_Mo_gear 80 rfl) ?_
    obtain ⟨c5, h⟩ := p_gdE h
    refine g_iastore (dk_Mo_gear 81 rfl) c3 c5.1 c5.2 ?_
    refine p_ltS (P := fun q => p_Go K l m_Mo_gear 146 [(0, p_r v0), (3, p_i v3), (4, p_i v4)] [] q _) (p_xZ _ _ _ _) ?_ h
    intro s6 hs7 h
    refine g_aload_n (i := 0) (j := 0) (dk_Mo_gear 82 rfl) rfl rfl ?_
    refine g_aload_n (i := 0) (j := 0) (dk_Mo_gear 83 rfl) rfl rfl ?_
    refine g_getR fl_Mo_7 (Or.inr ⟨_, rfl⟩) (dk_Mo_gear 84 rfl) (c2.up hs7) ?_
    refine g_aload_n (i := 0) (j := 0) (dk_Mo_gear 85 rfl) rfl rfl ?_
    refine g_getI fl_Mo_227 (Or.inl rfl) (dk_Mo_gear 86 rfl) (c2.up hs7) ?_
    obtain ⟨c8, h⟩ := p_gdE h
    obtain ⟨c9, h⟩ := p_gdE h
    refine g_iaload (dk_Mo_gear 87 rfl) c8 c9.1 c9.2 ?_
    refine g_iconst (dk_Mo_gear 88 rfl) (by decide) ?_
    refine g_isub (dk_Mo_gear 89 rfl) ?_
    obtain ⟨r14, s10, q11, h⟩ := p_bdE h
    have t12 := tF_Mo_built K l v0 (p_w ((p_Z s6 (p_R s6 v0 3) ((p_Z s6 v0 0) : Int).toNat) - 1)) s6 _ q11
    refine g_callV (a := v0) (ci := 11) (q0 := (RX11, TX11, 90)) (As := [p_i (p_w ((p_Z s6 (p_R s6 v0 3) ((p_Z s6 v0 0) : Int).toNat) - 1))]) (rest := []) [p_i r14] mt_Mo_built rfl rfl tw_7_77 ts_47 tw_7_75 ⟨Nat.le_of_ble_eq_true rfl, Nat.le_of_ble_eq_true rfl⟩ rfl (Nat.le_of_ble_eq_true rfl) (dk_Mo_gear 90 rfl) rfl (c2.up hs7) rfl t12 ?_
    have hs13 : p_x s6 s10 := t12.1
    show p_Go K l m_Mo_gear 161 [(0, p_r v0), (3, p_i v3), (4, p_i v4)] [p_i r14] s10 _
    cases h
    exact g_ret rfl rfl (dk_Mo_gear 91 rfl) (fun os => ⟨_, rfl, p_okh os⟩)
  · have h := p_ifF b1 h
    refine g_aload_n (i := 0) (j := 0) (dk_Mo_gear 62 rfl) rfl rfl ?_
    obtain ⟨c15, h⟩ := p_gdE h
    refine g_getR fl_Mo_69 (Or.inr ⟨_, rfl⟩) (dk_Mo_gear 63 rfl) c15 ?_
    refine g_bipush (dk_Mo_gear 64 rfl) (by decide +kernel) (by decide) ?_
    refine g_iload_n (i := 3) (j := 1) (dk_Mo_gear 65 rfl) rfl rfl ?_
    refine g_imul (dk_Mo_gear 66 rfl) ?_
    refine g_iload (j := 2) (dk_Mo_gear 67 rfl) rfl ?_
    refine g_iadd (dk_Mo_gear 68 rfl) ?_
    refine g_iconst (dk_Mo_gear 69 rfl) (by decide) ?_
    obtain ⟨c16, h⟩ := p_gdE h
    obtain ⟨c17, h⟩ := p_gdE h
    refine g_iastore (dk_Mo_gear 70 rfl) c16 c17.1 c17.2 ?_
    refine p_ltS (P := fun q => p_Go K l m_Mo_gear 127 [(0, p_r v0), (3, p_i v3), (4, p_i v4)] [] q _) (p_xZ _ _ _ _) ?_ h
    intro s18 hs19 h
    refine g_iinc (j := 2) [(4, p_i (p_w (v4 + 1))), (0, p_r v0), (3, p_i v3)] (dk_Mo_gear 71 rfl) rfl (by decide) rfl ?_
    refine p_ltG (P := fun q => p_Go K l m_Mo_gear 130 [(4, p_i q), (0, p_r v0), (3, p_i v3)] [] s18 _) ?_ h
    intro x20 h
    refine g_goto 107 (dk_Mo_gear 72 rfl) (by decide) ?_
    refine g_sub [(0, p_r v0), (3, p_i v3), (4, p_i x20)] [1, 2, 0] rfl ?_
    exact hk107 v0 v3 x20 s18 _ h
set_option maxRecDepth 100000 in
set_option maxHeartbeats 4000000 in
theorem tO_Mo_gear_107 (K : p_K) (l : Launch)  : ∀ (n : Nat) (v0 : Nat) (v3 : Int) (v4 : Int) (s0 : p_Hp) (r : (Int × p_Hp)), O_Mo_gear_107 n v0 v3 v4 s0 = some r → p_Go K l m_Mo_gear 107 [(0, p_r v0), (3, p_i v3), (4, p_i v4)] [] s0 (some (p_i r.1), r.2) := by
  intro n
  induction n with
  | zero => intro v0 v3 v4 s0 r h; cases (show (none : Option (Int × p_Hp)) = some r from h)
  | succ n ih => intro v0 v3 v4 s0 r h; exact tL_Mo_gear_107 K l _ ih v0 v3 v4 s0 r h
set_option maxRecDepth 100000 in
set_option maxHeartbeats 4000000 in
theorem tB_Mo_gear_96 (K : p_K) (l : Launch)  (v0 : Nat) (v3 : Int) (w0 : Int) (w1 : Int) (w2 : Nat) (s0 : p_Hp) (r : (Int × p_Hp)) (h : B_Mo_gear_96 v0 v3 w0 w1 w2 s0 = some r) : p_Go K l m_Mo_gear 96 [(0, p_r v0), (3, p_i v3)] [p_i w0, p_i w1, p_r w2] s0 (some (p_i r.1), r.2) := by
  unfold B_Mo_gear_96 at h
  obtain ⟨c1, h⟩ := p_gdE h
  obtain ⟨c2, h⟩ := p_gdE h
  refine g_iastore (dk_Mo_gear 51 rfl) c1 c2.1 c2.2 ?_
  refine p_ltS (P := fun q => p_Go K l m_Mo_gear 97 [(0, p_r v0), (3, p_i v3)] [] q _) (p_xZ _ _ _ _) ?_ h
  intro s3 hs4 h
  refine g_aload_n (i := 0) (j := 0) (dk_Mo_gear 52 rfl) rfl rfl ?_
  obtain ⟨c5, h⟩ := p_gdE h
  refine g_getR fl_Mo_22 (Or.inr ⟨_, rfl⟩) (dk_Mo_gear 53 rfl) c5 ?_
  refine g_iload_n (i := 3) (j := 1) (dk_Mo_gear 54 rfl) rfl rfl ?_
  refine g_iconst (dk_Mo_gear 55 rfl) (by decide) ?_
  obtain ⟨c6, h⟩ := p_gdE h
  obtain ⟨c7, h⟩ := p_gdE h
  refine g_iastore (dk_Mo_gear 56 rfl) c6 c7.1 c7.2 ?_
  refine p_ltS (P := fun q => p_Go K l m_Mo_gear 104 [(0, p_r v0), (3, p_i v3)] [] q _) (p_xZ _ _ _ _) ?_ h
  intro s8 hs9 h
  refine g_iconst (dk_Mo_gear 57 rfl) (by decide) ?_
  refine g_istore [(4, p_i 0), (0, p_r v0), (3, p_i v3)] (dk_Mo_gear 58 rfl) (by decide) rfl ?_
  refine g_sub [(0, p_r v0), (3, p_i v3), (4, p_i 0)] [1, 2, 0] rfl ?_
  exact tO_Mo_gear_107 K l 3000 v0 v3 0 s8 _ h
set_option maxRecDepth 100000 in
set_option maxHeartbeats 4000000 in
theorem tB_Mo_gear_38 (K : p_K) (l : Launch)  (v0 : Nat) (v1 : Int) (v2 : Int) (s0 : p_Hp) (r : (Int × p_Hp)) (h : B_Mo_gear_38 v0 v1 v2 s0 = some r) : p_Go K l m_Mo_gear 38 [(0, p_r v0), (1, p_i v1), (2, p_i v2)] [] s0 (some (p_i r.1), r.2) := by
  unfold B_Mo_gear_38 at h
  refine g_aload_n (i := 0) (j := 0) (dk_Mo_gear 19 rfl) rfl rfl ?_
  obtain ⟨c1, h⟩ := p_gdE h
  refine g_getR fl_Mo_7 (Or.inr ⟨_, rfl⟩) (dk_Mo_gear 20 rfl) c1 ?_
  refine g_aload_n (i := 0) (j := 0) (dk_Mo_gear 21 rfl) rfl rfl ?_
  refine g_getI fl_Mo_227 (Or.inl rfl) (dk_Mo_gear 22 rfl) c1 ?_
  obtain ⟨c2, h⟩ := p_gdE h
  obtain ⟨c3, h⟩ := p_gdE h
  refine g_iaload (dk_Mo_gear 23 rfl) c2 c3.1 c3.2 ?_
  refine g_bipush (dk_Mo_gear 24 rfl) (by decide +kernel) (by decide) ?_
  refine g_icmp_ne 59 (dk_Mo_gear 25 rfl) (by decide) (fun b4 => ?_) (fun b4 => ?_)
  · have h := p_ifT b4 h
    refine g_aload_n (i := 0) (j := 0) (dk_Mo_gear 30 rfl) rfl rfl ?_
    refine g_aload_n (i := 0) (j := 0) (dk_Mo_gear 31 rfl) rfl rfl ?_
    refine g_getR fl_Mo_7 (Or.inr ⟨_, rfl⟩) (dk_Mo_gear 32 rfl) c1 ?_
    refine g_aload_n (i := 0) (j := 0) (dk_Mo_gear 33 rfl) rfl rfl ?_
    refine g_getI fl_Mo_227 (Or.inl rfl) (dk_Mo_gear 34 rfl) c1 ?_
    obtain ⟨c5, h⟩ := p_gdE h
    refine g_iaload (dk_Mo_gear 35 rfl) c2 c5.1 c5.2 ?_
    obtain ⟨r10, s6, q7, h⟩ := p_bdE h
    have t8 := tF_Mo_g K l v0 (p_Z s0 (p_R s0 v0 3) ((p_Z s0 v0 0) : Int).toNat) s0 _ q7
    refine g_callV (a := v0) (ci := 11) (q0 := (RX11, TX11, 90)) (As := [p_i (p_Z s0 (p_R s0 v0 3) ((p_Z s0 v0 0) : Int).toNat)]) (rest := []) [p_i r10] mt_Mo_g rfl rfl tw_7_63 ts_45 tw_7_61 ⟨Nat.le_of_ble_eq_true rfl, Nat.le_of_ble_eq_true rfl⟩ rfl (Nat.le_of_ble_eq_true rfl) (dk_Mo_gear 36 rfl) rfl c1 rfl t8 ?_
    have hs9 : p_x s0 s6 := t8.1
    show p_Go K l m_Mo_gear 72 [(0, p_r v0), (1, p_i v1), (2, p_i v2)] [p_i r10] s6 _
    refine g_istore_n (i := 3) [(3, p_i r10), (0, p_r v0), (1, p_i v1), (2, p_i v2)] (dk_Mo_gear 37 rfl) rfl (by decide) rfl ?_
    refine g_aload_n (i := 0) (j := 1) (dk_Mo_gear 38 rfl) rfl rfl ?_
    refine g_iload_n (i := 3) (j := 0) (dk_Mo_gear 39 rfl) rfl rfl ?_
    refine g_iload_n (i := 1) (j := 2) (dk_Mo_gear 40 rfl) rfl rfl ?_
    obtain ⟨s11, q12, h⟩ := p_bvE h
    have t13 := tF_Mo_fresh K l v0 r10 v1 s6 _ q12
    refine g_callV (a := v0) (ci := 11) (q0 := (RX11, TX11, 90)) (As := [p_i r10, p_i v1]) (rest := []) [] mt_Mo_fresh rfl rfl tw_7_67 ts_46 tw_7_65 ⟨Nat.le_of_ble_eq_true rfl, Nat.le_of_ble_eq_true rfl⟩ rfl (Nat.le_of_ble_eq_true rfl) (dk_Mo_gear 41 rfl) rfl (c1.up hs9) rfl t13 ?_
    have hs14 : p_x s6 s11 := t13.1
    show p_Go K l m_Mo_gear 79 [(3, p_i r10), (0, p_r v0), (1, p_i v1), (2, p_i v2)] [] s11 _
    refine g_aload_n (i := 0) (j := 1) (dk_Mo_gear 42 rfl) rfl rfl ?_
    refine g_getR fl_Mo_19 (Or.inr ⟨_, rfl⟩) (dk_Mo_gear 43 rfl) (c1.up (hs9.trans hs14)) ?_
    refine g_iload_n (i := 3) (j := 0) (dk_Mo_gear 44 rfl) rfl rfl ?_
    refine g_iload_n (i := 1) (j := 2) (dk_Mo_gear 45 rfl) rfl rfl ?_
    obtain ⟨r19, s15, q16, h⟩ := p_bdE h
    have t17 := tF_Mo_isTaker K l v1 s11 _ q16
    refine g_callS (av := [p_i v1]) (rest := [p_i r10, p_r (p_R s11 v0 6)]) [p_i r19, p_i r10, p_r (p_R s11 v0 6)] mt_Mo_isTaker tw_7_58 tw_7_57 ⟨Nat.le_of_ble_eq_true rfl, Nat.le_of_ble_eq_true rfl⟩ rfl (Nat.le_of_ble_eq_true rfl) (dk_Mo_gear 46 rfl) rfl rfl t17 ?_
    have hs18 : p_x s11 s15 := t17.1
    show p_Go K l m_Mo_gear 88 [(3, p_i r10), (0, p_r v0), (1, p_i v1), (2, p_i v2)] [p_i r19, p_i r10, p_r (p_R s11 v0 6)] s15 _
    refine g_if_eq 95 (dk_Mo_gear 47 rfl) (by decide) (fun b20 => ?_) (fun b20 => ?_)
    · have h := p_ifT b20 h
      refine g_iconst (dk_Mo_gear 50 rfl) (by decide) ?_
      refine g_sub [(0, p_r v0), (3, p_i r10)] [1, 0] rfl ?_
      exact tB_Mo_gear_96 K l v0 r10 0 r10 (p_R s11 v0 6) s15 _ h
    · have h := p_ifF b20 h
      refine g_iload_n (i := 2) (j := 3) (dk_Mo_gear 48 rfl) rfl rfl ?_
      refine g_goto 96 (dk_Mo_gear 49 rfl) (by decide) ?_
      refine g_sub [(0, p_r v0), (3, p_i r10)] [1, 0] rfl ?_
      exact tB_Mo_gear_96 K l v0 r10 v2 r10 (p_R s11 v0 6) s15 _ h
  · have h := p_ifF b4 h
    refine g_aload_n (i := 0) (j := 0) (dk_Mo_gear 26 rfl) rfl rfl ?_
    refine g_bipush (dk_Mo_gear 27 rfl) (by decide +kernel) (by decide) ?_
    obtain ⟨r25, s21, q22, h⟩ := p_bdE h
    have t23 := tF_Mo_refused K l v0 (-4) s0 _ q22
    refine g_callV (a := v0) (ci := 11) (q0 := (RX11, TX11, 90)) (As := [p_i (-4)]) (rest := []) [p_i r25] mt_Mo_refused rfl rfl tw_7_46 ts_43 tw_7_44 ⟨Nat.le_of_ble_eq_true rfl, Nat.le_of_ble_eq_true rfl⟩ rfl (Nat.le_of_ble_eq_true rfl) (dk_Mo_gear 28 rfl) rfl c1 rfl t23 ?_
    have hs24 : p_x s0 s21 := t23.1
    show p_Go K l m_Mo_gear 58 [(0, p_r v0), (1, p_i v1), (2, p_i v2)] [p_i r25] s21 _
    cases h
    exact g_ret rfl rfl (dk_Mo_gear 29 rfl) (fun os => ⟨_, rfl, p_okh os⟩)
set_option maxRecDepth 100000 in
set_option maxHeartbeats 4000000 in
theorem tF_Mo_gear (K : p_K) (l : Launch) (v0 : Nat) (v1 : Int) (v2 : Int) (s0 : p_Hp) (r : (Int × p_Hp)) (h : F_Mo_gear v0 v1 v2 s0 = some r) : p_Ct K l m_Mo_gear [p_r v0, p_i v1, p_i v2] s0 (some (p_i r.1), r.2) := by
  refine p_Ct.of (by decide +kernel) (Nat.le_of_ble_eq_true rfl) ?_
  unfold F_Mo_gear at h
  show p_Go K l m_Mo_gear 0 [(0, p_r v0), (1, p_i v1), (2, p_i v2)] [] s0 _
  refine g_iload_n (i := 1) (j := 1) (dk_Mo_gear 0 rfl) rfl rfl ?_
  refine g_i2l (dk_Mo_gear 1 rfl) ?_
  refine g_lconst (x := 0) (dk_Mo_gear 2 rfl) rfl (by decide) ?_
  refine g_ldc2_w (x := 10) (dk_Mo_gear 3 rfl) tw_7_56 (by decide) (by decide) ?_
  obtain ⟨r5, s1, q2, h⟩ := p_bdE h
  have t3 := tF_Mo_beyond K l v1 0 10 s0 _ q2
  refine g_callS (av := [p_j v1, p_j 0, p_j 10]) (rest := []) [p_i r5] mt_Mo_beyond tw_7_42 tw_7_41 ⟨Nat.le_of_ble_eq_true rfl, Nat.le_of_ble_eq_true rfl⟩ rfl (Nat.le_of_ble_eq_true rfl) (dk_Mo_gear 4 rfl) rfl rfl t3 ?_
  have hs4 : p_x s0 s1 := t3.1
  show p_Go K l m_Mo_gear 9 [(0, p_r v0), (1, p_i v1), (2, p_i v2)] [p_i r5] s1 _
  refine g_if_ne 31 (dk_Mo_gear 5 rfl) (by decide) (fun b6 => ?_) (fun b6 => ?_)
  · have h := p_ifT b6 h
    refine g_sub [(0, p_r v0)] [0] rfl ?_
    exact tB_Mo_gear_31 K l v0 s1 _ h
  · have h := p_ifF b6 h
    refine g_iload_n (i := 1) (j := 1) (dk_Mo_gear 6 rfl) rfl rfl ?_
    obtain ⟨r11, s7, q8, h⟩ := p_bdE h
    have t9 := tF_Mo_isTaker K l v1 s1 _ q8
    refine g_callS (av := [p_i v1]) (rest := []) [p_i r11] mt_Mo_isTaker tw_7_58 tw_7_57 ⟨Nat.le_of_ble_eq_true rfl, Nat.le_of_ble_eq_true rfl⟩ rfl (Nat.le_of_ble_eq_true rfl) (dk_Mo_gear 7 rfl) rfl rfl t9 ?_
    have hs10 : p_x s1 s7 := t9.1
    show p_Go K l m_Mo_gear 16 [(0, p_r v0), (1, p_i v1), (2, p_i v2)] [p_i r11] s7 _
    refine g_if_eq 38 (dk_Mo_gear 8 rfl) (by decide) (fun b12 => ?_) (fun b12 => ?_)
    · have h := p_ifT b12 h
      exact tB_Mo_gear_38 K l v0 v1 v2 s7 _ h
    · have h := p_ifF b12 h
      refine g_iload_n (i := 2) (j := 2) (dk_Mo_gear 9 rfl) rfl rfl ?_
      refine g_i2l (dk_Mo_gear 10 rfl) ?_
      refine g_lconst (x := 1) (dk_Mo_gear 11 rfl) rfl (by decide) ?_
      refine g_ldc2_w (x := 8) (dk_Mo_gear 12 rfl) tw_7_60 (by decide) (by decide) ?_
      obtain ⟨r17, s13, q14, h⟩ := p_bdE h
      have t15 := tF_Mo_beyond K l v2 1 8 s7 _ q14
      refine g_callS (av := [p_j v2, p_j 1, p_j 8]) (rest := []) [p_i r17] mt_Mo_beyond tw_7_42 tw_7_41 ⟨Nat.le_of_ble_eq_true rfl, Nat.le_of_ble_eq_true rfl⟩ rfl (Nat.le_of_ble_eq_true rfl) (dk_Mo_gear 13 rfl) rfl rfl t15 ?_
      have hs16 : p_x s7 s13 := t15.1
      show p_Go K l m_Mo_gear 28 [(0, p_r v0), (1, p_i v1), (2, p_i v2)] [p_i r17] s13 _
      refine g_if_eq 38 (dk_Mo_gear 14 rfl) (by decide) (fun b18 => ?_) (fun b18 => ?_)
      · have h := p_ifT b18 h
        exact tB_Mo_gear_38 K l v0 v1 v2 s13 _ h
      · have h := p_ifF b18 h
        refine g_sub [(0, p_r v0)] [0] rfl ?_
        exact tB_Mo_gear_31 K l v0 s13 _ h
def m_Mo_faulted : p_Me := (⟨"SortWorksModel", "faulted", "(I)I"⟩, prog_13_method_4_code, 2, (some .int), 0, 0)
theorem mt_Mo_faulted : p_Mt m_Mo_faulted 1 := ⟨p_mem (p_tb7 (List.mem_of_getElem? (i := 90) rfl)) rfl, tw_1_12, by decide +kernel, by decide +kernel, by decide +kernel⟩
def dt_Mo_faulted : List (Nat × Instr × Nat) := [(0, .aload_n 0, 1), (1, .dup, 1), (2, .getfield 224, 3), (5, .iconst 1, 1), (6, .iadd, 1), (7, .putfield 224, 3), (10, .aload_n 0, 1), (11, .bipush (-10), 2), (13, .iload_n 1, 1), (14, .isub, 1), (15, .putfield 220, 3), (18, .aload_n 0, 1), (19, .getfield 220, 3), (22, .ireturn, 1)]
theorem dk_Mo_faulted (i : Nat) {pc : Nat} {ins : Instr} {len : Nat} (h : dt_Mo_faulted[i]? = some (pc, ins, len)) : decode m_Mo_faulted.2.1 pc = .ok (ins, len) := p_dk (b := m_Mo_faulted.2.1) (t := dt_Mo_faulted) (by decide +kernel) i h
def F_Mo_faulted (v0 : Nat) (v1 : Int) (s0 : p_Hp) : Option (Int × p_Hp) :=
  p_gd (p_is s0 v0 11) <|
  p_bi (p_wZ s0 v0 2 (p_w ((p_Z s0 v0 2) + 1))) fun s2 =>
  p_bi (p_wZ s2 v0 1 (p_w ((-10) - v1))) fun s4 =>
  some ((p_Z s4 v0 1), s4)
set_option maxRecDepth 100000 in
set_option maxHeartbeats 4000000 in
theorem tF_Mo_faulted (K : p_K) (l : Launch) (v0 : Nat) (v1 : Int) (s0 : p_Hp) (r : (Int × p_Hp)) (h : F_Mo_faulted v0 v1 s0 = some r) : p_Ct K l m_Mo_faulted [p_r v0, p_i v1] s0 (some (p_i r.1), r.2) := by
  refine p_Ct.of (by decide +kernel) (Nat.le_of_ble_eq_true rfl) ?_
  unfold F_Mo_faulted at h
  show p_Go K l m_Mo_faulted 0 [(0, p_r v0), (1, p_i v1)] [] s0 _
  refine g_aload_n (i := 0) (j := 0) (dk_Mo_faulted 0 rfl) rfl rfl ?_
  refine g_dup (dk_Mo_faulted 1 rfl) rfl ?_
  obtain ⟨c1, h⟩ := p_gdE h
  refine g_getI fl_Mo_224 (Or.inl rfl) (dk_Mo_faulted 2 rfl) c1 ?_
  refine g_iconst (dk_Mo_faulted 3 rfl) (by decide) ?_
  refine g_iadd (dk_Mo_faulted 4 rfl) ?_
  refine g_putI fl_Mo_224 (Or.inl rfl) (dk_Mo_faulted 5 rfl) c1 ?_
  refine p_ltS (P := fun q => p_Go K l m_Mo_faulted 10 [(0, p_r v0), (1, p_i v1)] [] q _) (p_xZ _ _ _ _) ?_ h
  intro s2 hs3 h
  refine g_aload_n (i := 0) (j := 0) (dk_Mo_faulted 6 rfl) rfl rfl ?_
  refine g_bipush (dk_Mo_faulted 7 rfl) (by decide +kernel) (by decide) ?_
  refine g_iload_n (i := 1) (j := 1) (dk_Mo_faulted 8 rfl) rfl rfl ?_
  refine g_isub (dk_Mo_faulted 9 rfl) ?_
  refine g_putI fl_Mo_220 (Or.inl rfl) (dk_Mo_faulted 10 rfl) (c1.up hs3) ?_
  refine p_ltS (P := fun q => p_Go K l m_Mo_faulted 18 [(0, p_r v0), (1, p_i v1)] [] q _) (p_xZ _ _ _ _) ?_ h
  intro s4 hs5 h
  refine g_aload_n (i := 0) (j := 0) (dk_Mo_faulted 11 rfl) rfl rfl ?_
  refine g_getI fl_Mo_220 (Or.inl rfl) (dk_Mo_faulted 12 rfl) (c1.up (hs3.trans hs5)) ?_
  cases h
  exact g_ret rfl rfl (dk_Mo_faulted 13 rfl) (fun os => ⟨_, rfl, p_okh os⟩)
def m_Mo_noGear : p_Me := (⟨"SortWorksModel", "noGear", "(I)Z"⟩, prog_13_method_7_code, 2, (some .boolean), 1, 25)
theorem mt_Mo_noGear : p_Mt m_Mo_noGear 1 := ⟨p_mem (p_tb7 (List.mem_of_getElem? (i := 86) rfl)) rfl, tw_1_12, by decide +kernel, by decide +kernel, by decide +kernel⟩
def dt_Mo_noGear : List (Nat × Instr × Nat) := [(0, .iload_n 1, 1), (1, .i2l, 1), (2, .lconst 0, 1), (3, .aload_n 0, 1), (4, .getfield 7, 3), (7, .aload_n 0, 1), (8, .getfield 227, 3), (11, .iaload, 1), (12, .iconst 1, 1), (13, .isub, 1), (14, .i2l, 1), (15, .invokestatic 230, 3), (18, .ireturn, 1)]
theorem dk_Mo_noGear (i : Nat) {pc : Nat} {ins : Instr} {len : Nat} (h : dt_Mo_noGear[i]? = some (pc, ins, len)) : decode m_Mo_noGear.2.1 pc = .ok (ins, len) := p_dk (b := m_Mo_noGear.2.1) (t := dt_Mo_noGear) (by decide +kernel) i h
def F_Mo_noGear (v0 : Nat) (v1 : Int) (s0 : p_Hp) : Option (Int × p_Hp) :=
  p_gd (p_is s0 v0 11) <|
  p_gd (p_is s0 (p_R s0 v0 3) 100) <|
  p_gd ((0 : Int) ≤ (p_Z s0 v0 0) ∧ (p_Z s0 v0 0) < (p_L s0 (p_R s0 v0 3) : Int)) <|
  p_bd (F_Mo_beyond v1 0 (p_w ((p_Z s0 (p_R s0 v0 3) ((p_Z s0 v0 0) : Int).toNat) - 1)) s0) fun r8 s4 =>
  p_gd (r8 = 0 ∨ r8 = 1) <|
  some (r8, s4)
set_option maxRecDepth 100000 in
set_option maxHeartbeats 4000000 in
theorem tF_Mo_noGear (K : p_K) (l : Launch) (v0 : Nat) (v1 : Int) (s0 : p_Hp) (r : (Int × p_Hp)) (h : F_Mo_noGear v0 v1 s0 = some r) : p_Ct K l m_Mo_noGear [p_r v0, p_i v1] s0 (some (p_i r.1), r.2) := by
  refine p_Ct.of (by decide +kernel) (Nat.le_of_ble_eq_true rfl) ?_
  unfold F_Mo_noGear at h
  show p_Go K l m_Mo_noGear 0 [(0, p_r v0), (1, p_i v1)] [] s0 _
  refine g_iload_n (i := 1) (j := 1) (dk_Mo_noGear 0 rfl) rfl rfl ?_
  refine g_i2l (dk_Mo_noGear 1 rfl) ?_
  refine g_lconst (x := 0) (dk_Mo_noGear 2 rfl) rfl (by decide) ?_
  refine g_aload_n (i := 0) (j := 0) (dk_Mo_noGear 3 rfl) rfl rfl ?_
  obtain ⟨c1, h⟩ := p_gdE h
  refine g_getR fl_Mo_7 (Or.inr ⟨_, rfl⟩) (dk_Mo_noGear 4 rfl) c1 ?_
  refine g_aload_n (i := 0) (j := 0) (dk_Mo_noGear 5 rfl) rfl rfl ?_
  refine g_getI fl_Mo_227 (Or.inl rfl) (dk_Mo_noGear 6 rfl) c1 ?_
  obtain ⟨c2, h⟩ := p_gdE h
  obtain ⟨c3, h⟩ := p_gdE h
  refine g_iaload (dk_Mo_noGear 7 rfl) c2 c3.1 c3.2 ?_
  refine g_iconst (dk_Mo_noGear 8 rfl) (by decide) ?_
  refine g_isub (dk_Mo_noGear 9 rfl) ?_
  refine g_i2l (dk_Mo_noGear 10 rfl) ?_
  obtain ⟨r8, s4, q5, h⟩ := p_bdE h
  have t6 := tF_Mo_beyond K l v1 0 (p_w ((p_Z s0 (p_R s0 v0 3) ((p_Z s0 v0 0) : Int).toNat) - 1)) s0 _ q5
  refine g_callS (av := [p_j v1, p_j 0, p_j (p_w ((p_Z s0 (p_R s0 v0 3) ((p_Z s0 v0 0) : Int).toNat) - 1))]) (rest := []) [p_i r8] mt_Mo_beyond tw_7_42 tw_7_41 ⟨Nat.le_of_ble_eq_true rfl, Nat.le_of_ble_eq_true rfl⟩ rfl (Nat.le_of_ble_eq_true rfl) (dk_Mo_noGear 11 rfl) rfl rfl t6 ?_
  have hs7 : p_x s0 s4 := t6.1
  show p_Go K l m_Mo_noGear 18 [(0, p_r v0), (1, p_i v1)] [p_i r8] s4 _
  obtain ⟨c9, h⟩ := p_gdE h
  cases h
  exact g_ret rfl rfl (dk_Mo_noGear 12 rfl) (fun _ => ⟨_, rfl, c9⟩)
def m_Mo_links : p_Me := (⟨"SortWorksModel", "links", "(II)I"⟩, prog_13_method_19_code, 4, (some .int), 2, 46)
theorem mt_Mo_links : p_Mt m_Mo_links 2 := ⟨p_mem (p_tb7 (List.mem_of_getElem? (i := 82) rfl)) rfl, tw_1_12, by decide +kernel, by decide +kernel, by decide +kernel⟩
def dt_Mo_links : List (Nat × Instr × Nat) := [(0, .aload_n 0, 1), (1, .iload_n 1, 1), (2, .invokevirtual 267, 3), (5, .ifCond .eq 9, 3), (8, .aload_n 0, 1), (9, .iconst (-1), 1), (10, .invokevirtual 240, 3), (13, .ireturn, 1), (14, .iload_n 2, 1), (15, .iconst 3, 1), (16, .if_icmp .le 10, 3), (19, .aload_n 0, 1), (20, .bipush (-2), 2), (22, .invokevirtual 240, 3), (25, .ireturn, 1), (26, .iload_n 2, 1), (27, .iconst (-1), 1), (28, .if_icmp .ge 9, 3), (31, .aload_n 0, 1), (32, .iconst 5, 1), (33, .invokevirtual 270, 3), (36, .ireturn, 1), (37, .aload_n 0, 1), (38, .getfield 22, 3), (41, .aload_n 0, 1), (42, .iload_n 1, 1), (43, .invokevirtual 257, 3), (46, .iload_n 2, 1), (47, .iastore, 1), (48, .iconst 0, 1), (49, .istore_n 3, 1), (50, .iload_n 3, 1), (51, .iconst 3, 1), (52, .if_icmp .ge 24, 3), (55, .aload_n 0, 1), (56, .getfield 25, 3), (59, .iconst 3, 1), (60, .aload_n 0, 1), (61, .iload_n 1, 1), (62, .invokevirtual 257, 3), (65, .imul, 1), (66, .iload_n 3, 1), (67, .iadd, 1), (68, .iconst (-1), 1), (69, .iastore, 1), (70, .iinc 3 1, 3), (73, .goto (-23), 3), (76, .aload_n 0, 1), (77, .iload_n 2, 1), (78, .invokevirtual 264, 3), (81, .ireturn, 1)]
theorem dk_Mo_links (i : Nat) {pc : Nat} {ins : Instr} {len : Nat} (h : dt_Mo_links[i]? = some (pc, ins, len)) : decode m_Mo_links.2.1 pc = .ok (ins, len) := p_dk (b := m_Mo_links.2.1) (t := dt_Mo_links) (by decide +kernel) i h
def L_Mo_links_50 (k50 : Nat → Int → Int → Int → p_Hp → Option (Int × p_Hp)) (v0 : Nat) (v1 : Int) (v2 : Int) (v3 : Int) (s0 : p_Hp) : Option (Int × p_Hp) :=
  if 3 ≤ v3 then
    p_gd (p_is s0 v0 11) <|
    p_bd (F_Mo_built v0 v2 s0) fun r7 s3 =>
    some (r7, s3)
  else
    p_gd (p_is s0 v0 11) <|
    p_bd (F_Mo_g v0 v1 s0) fun r13 s9 =>
    p_gd (p_is s9 (p_R s0 v0 8) 100) <|
    p_gd ((0 : Int) ≤ (p_w ((p_w (3 * r13)) + v3)) ∧ (p_w ((p_w (3 * r13)) + v3)) < (p_L s9 (p_R s0 v0 8) : Int)) <|
    p_bi (p_wZ s9 (p_R s0 v0 8) ((p_w ((p_w (3 * r13)) + v3)) : Int).toNat (-1)) fun s16 =>
    p_bi (p_w (v3 + 1)) fun x18 =>
    k50 v0 v1 v2 x18 s16
def O_Mo_links_50  : Nat → Nat → Int → Int → Int → p_Hp → Option (Int × p_Hp)
  | 0 => fun _ _ _ _ _ => none
  | n + 1 => L_Mo_links_50 (O_Mo_links_50 n)
def F_Mo_links (v0 : Nat) (v1 : Int) (v2 : Int) (s0 : p_Hp) : Option (Int × p_Hp) :=
  p_gd (p_is s0 v0 11) <|
  p_bd (F_Mo_noGear v0 v1 s0) fun r6 s2 =>
  if r6 = 0 then
    if v2 ≤ 3 then
      if (-1) ≤ v2 then
        p_bd (F_Mo_g v0 v1 s2) fun r14 s10 =>
        p_gd (p_is s10 (p_R s2 v0 7) 100) <|
        p_gd ((0 : Int) ≤ r14 ∧ r14 < (p_L s10 (p_R s2 v0 7) : Int)) <|
        p_bi (p_wZ s10 (p_R s2 v0 7) (r14 : Int).toNat v2) fun s17 =>
        O_Mo_links_50 3000 v0 v1 v2 0 s17
      else
        p_bd (F_Mo_faulted v0 5 s2) fun r23 s19 =>
        some (r23, s19)
    else
      p_bd (F_Mo_refused v0 (-2) s2) fun r28 s24 =>
      some (r28, s24)
  else
    p_bd (F_Mo_refused v0 (-1) s2) fun r33 s29 =>
    some (r33, s29)
set_option maxRecDepth 100000 in
set_option maxHeartbeats 4000000 in
theorem tL_Mo_links_50 (K : p_K) (l : Launch) (k50 : Nat → Int → Int → Int → p_Hp → Option (Int × p_Hp)) (hk50 : ∀ (v0 : Nat) (v1 : Int) (v2 : Int) (v3 : Int)  (s0 : p_Hp) (r : (Int × p_Hp)), k50 v0 v1 v2 v3 s0 = some r → p_Go K l m_Mo_links 50 [(0, p_r v0), (1, p_i v1), (2, p_i v2), (3, p_i v3)] [] s0 (some (p_i r.1), r.2)) (v0 : Nat) (v1 : Int) (v2 : Int) (v3 : Int) (s0 : p_Hp) (r : (Int × p_Hp)) (h : L_Mo_links_50 k50 v0 v1 v2 v3 s0 = some r) : p_Go K l m_Mo_links 50 [(0, p_r v0), (1, p_i v1), (2, p_i v2), (3, p_i v3)] [] s0 (some (p_i r.1), r.2) := by
  unfold L_Mo_links_50 at h
  refine g_iload_n (i := 3) (j := 3) (dk_Mo_links 31 rfl) rfl rfl ?_
  refine g_iconst (dk_Mo_links 32 rfl) (by decide) ?_
  refine g_icmp_ge 76 (dk_Mo_links 33 rfl) (by decide) (fun b1 => ?_) (fun b1 => ?_)
  · have h := p_ifT b1 h
    refine g_aload_n (i := 0) (j := 0) (dk_Mo_links 47 rfl) rfl rfl ?_
    refine g_iload_n (i := 2) (j := 2) (dk_Mo_links 48 rfl) rfl rfl ?_
    obtain ⟨c2, h⟩ := p_gdE h
    obtain ⟨r7, s3, q4, h⟩ := p_bdE h
    have t5 := tF_Mo_built K l v0 v2 s0 _ q4
    refine g_callV (a := v0) (ci := 11) (q0 := (RX11, TX11, 90)) (As := [p_i v2]) (rest := []) [p_i r7] mt_Mo_built rfl rfl tw_7_77 ts_47 tw_7_75 ⟨Nat.le_of_ble_eq_true rfl, Nat.le_of_ble_eq_true rfl⟩ rfl (Nat.le_of_ble_eq_true rfl) (dk_Mo_links 49 rfl) rfl c2 rfl t5 ?_
    have hs6 : p_x s0 s3 := t5.1
    show p_Go K l m_Mo_links 81 [(0, p_r v0), (1, p_i v1), (2, p_i v2), (3, p_i v3)] [p_i r7] s3 _
    cases h
    exact g_ret rfl rfl (dk_Mo_links 50 rfl) (fun os => ⟨_, rfl, p_okh os⟩)
  · have h := p_ifF b1 h
    refine g_aload_n (i := 0) (j := 0) (dk_Mo_links 34 rfl) rfl rfl ?_
    obtain ⟨c8, h⟩ := p_gdE h
    refine g_getR fl_Mo_25 (Or.inr ⟨_, rfl⟩) (dk_Mo_links 35 rfl) c8 ?_
    refine g_iconst (dk_Mo_links 36 rfl) (by decide) ?_
    refine g_aload_n (i := 0) (j := 0) (dk_Mo_links 37 rfl) rfl rfl ?_
    refine g_iload_n (i := 1) (j := 1) (dk_Mo_links 38 rfl) rfl rfl ?_
    obtain ⟨r13, s9, q10, h⟩ := p_bdE h
    have t11 := tF_Mo_g K l v0 v1 s0 _ q10
    refine g_callV (a := v0) (ci := 11) (q0 := (RX11, TX11, 90)) (As := [p_i v1]) (rest := [p_i 3, p_r (p_R s0 v0 8)]) [p_i r13, p_i 3, p_r (p_R s0 v0 8)] mt_Mo_g rfl rfl tw_7_63 ts_45 tw_7_61 ⟨Nat.le_of_ble_eq_true rfl, Nat.le_of_ble_eq_true rfl⟩ rfl (Nat.le_of_ble_eq_true rfl) (dk_Mo_links 39 rfl) rfl c8 rfl t11 ?_
    have hs12 : p_x s0 s9 := t11.1
    show p_Go K l m_Mo_links 65 [(0, p_r v0), (1, p_i v1), (2, p_i v2), (3, p_i v3)] [p_i r13, p_i 3, p_r (p_R s0 v0 8)] s9 _
    refine g_imul (dk_Mo_links 40 rfl) ?_
    refine g_iload_n (i := 3) (j := 3) (dk_Mo_links 41 rfl) rfl rfl ?_
    refine g_iadd (dk_Mo_links 42 rfl) ?_
    refine g_iconst (dk_Mo_links 43 rfl) (by decide) ?_
    obtain ⟨c14, h⟩ := p_gdE h
    obtain ⟨c15, h⟩ := p_gdE h
    refine g_iastore (dk_Mo_links 44 rfl) c14 c15.1 c15.2 ?_
    refine p_ltS (P := fun q => p_Go K l m_Mo_links 70 [(0, p_r v0), (1, p_i v1), (2, p_i v2), (3, p_i v3)] [] q _) (p_xZ _ _ _ _) ?_ h
    intro s16 hs17 h
    refine g_iinc (j := 3) [(3, p_i (p_w (v3 + 1))), (0, p_r v0), (1, p_i v1), (2, p_i v2)] (dk_Mo_links 45 rfl) rfl (by decide) rfl ?_
    refine p_ltG (P := fun q => p_Go K l m_Mo_links 73 [(3, p_i q), (0, p_r v0), (1, p_i v1), (2, p_i v2)] [] s16 _) ?_ h
    intro x18 h
    refine g_goto 50 (dk_Mo_links 46 rfl) (by decide) ?_
    refine g_sub [(0, p_r v0), (1, p_i v1), (2, p_i v2), (3, p_i x18)] [1, 2, 3, 0] rfl ?_
    exact hk50 v0 v1 v2 x18 s16 _ h
set_option maxRecDepth 100000 in
set_option maxHeartbeats 4000000 in
theorem tO_Mo_links_50 (K : p_K) (l : Launch)  : ∀ (n : Nat) (v0 : Nat) (v1 : Int) (v2 : Int) (v3 : Int) (s0 : p_Hp) (r : (Int × p_Hp)), O_Mo_links_50 n v0 v1 v2 v3 s0 = some r → p_Go K l m_Mo_links 50 [(0, p_r v0), (1, p_i v1), (2, p_i v2), (3, p_i v3)] [] s0 (some (p_i r.1), r.2) := by
  intro n
  induction n with
  | zero => intro v0 v1 v2 v3 s0 r h; cases (show (none : Option (Int × p_Hp)) = some r from h)
  | succ n ih => intro v0 v1 v2 v3 s0 r h; exact tL_Mo_links_50 K l _ ih v0 v1 v2 v3 s0 r h
set_option maxRecDepth 100000 in
set_option maxHeartbeats 4000000 in
theorem tF_Mo_links (K : p_K) (l : Launch) (v0 : Nat) (v1 : Int) (v2 : Int) (s0 : p_Hp) (r : (Int × p_Hp)) (h : F_Mo_links v0 v1 v2 s0 = some r) : p_Ct K l m_Mo_links [p_r v0, p_i v1, p_i v2] s0 (some (p_i r.1), r.2) := by
  refine p_Ct.of (by decide +kernel) (Nat.le_of_ble_eq_true rfl) ?_
  unfold F_Mo_links at h
  show p_Go K l m_Mo_links 0 [(0, p_r v0), (1, p_i v1), (2, p_i v2)] [] s0 _
  refine g_aload_n (i := 0) (j := 0) (dk_Mo_links 0 rfl) rfl rfl ?_
  refine g_iload_n (i := 1) (j := 1) (dk_Mo_links 1 rfl) rfl rfl ?_
  obtain ⟨c1, h⟩ := p_gdE h
  obtain ⟨r6, s2, q3, h⟩ := p_bdE h
  have t4 := tF_Mo_noGear K l v0 v1 s0 _ q3
  refine g_callV (a := v0) (ci := 11) (q0 := (RX11, TX11, 90)) (As := [p_i v1]) (rest := []) [p_i r6] mt_Mo_noGear rfl rfl tw_7_85 ts_48 tw_7_83 ⟨Nat.le_of_ble_eq_true rfl, Nat.le_of_ble_eq_true rfl⟩ rfl (Nat.le_of_ble_eq_true rfl) (dk_Mo_links 2 rfl) rfl c1 rfl t4 ?_
  have hs5 : p_x s0 s2 := t4.1
  show p_Go K l m_Mo_links 5 [(0, p_r v0), (1, p_i v1), (2, p_i v2)] [p_i r6] s2 _
  refine g_if_eq 14 (dk_Mo_links 3 rfl) (by decide) (fun b7 => ?_) (fun b7 => ?_)
  · have h := p_ifT b7 h
    refine g_iload_n (i := 2) (j := 2) (dk_Mo_links 8 rfl) rfl rfl ?_
    refine g_iconst (dk_Mo_links 9 rfl) (by decide) ?_
    refine g_icmp_le 26 (dk_Mo_links 10 rfl) (by decide) (fun b8 => ?_) (fun b8 => ?_)
    · have h := p_ifT b8 h
      refine g_iload_n (i := 2) (j := 2) (dk_Mo_links 15 rfl) rfl rfl ?_
      refine g_iconst (dk_Mo_links 16 rfl) (by decide) ?_
      refine g_icmp_ge 37 (dk_Mo_links 17 rfl) (by decide) (fun b9 => ?_) (fun b9 => ?_)
      · have h := p_ifT b9 h
        refine g_aload_n (i := 0) (j := 0) (dk_Mo_links 22 rfl) rfl rfl ?_
        refine g_getR fl_Mo_22 (Or.inr ⟨_, rfl⟩) (dk_Mo_links 23 rfl) (c1.up hs5) ?_
        refine g_aload_n (i := 0) (j := 0) (dk_Mo_links 24 rfl) rfl rfl ?_
        refine g_iload_n (i := 1) (j := 1) (dk_Mo_links 25 rfl) rfl rfl ?_
        obtain ⟨r14, s10, q11, h⟩ := p_bdE h
        have t12 := tF_Mo_g K l v0 v1 s2 _ q11
        refine g_callV (a := v0) (ci := 11) (q0 := (RX11, TX11, 90)) (As := [p_i v1]) (rest := [p_r (p_R s2 v0 7)]) [p_i r14, p_r (p_R s2 v0 7)] mt_Mo_g rfl rfl tw_7_63 ts_45 tw_7_61 ⟨Nat.le_of_ble_eq_true rfl, Nat.le_of_ble_eq_true rfl⟩ rfl (Nat.le_of_ble_eq_true rfl) (dk_Mo_links 26 rfl) rfl (c1.up hs5) rfl t12 ?_
        have hs13 : p_x s2 s10 := t12.1
        show p_Go K l m_Mo_links 46 [(0, p_r v0), (1, p_i v1), (2, p_i v2)] [p_i r14, p_r (p_R s2 v0 7)] s10 _
        refine g_iload_n (i := 2) (j := 2) (dk_Mo_links 27 rfl) rfl rfl ?_
        obtain ⟨c15, h⟩ := p_gdE h
        obtain ⟨c16, h⟩ := p_gdE h
        refine g_iastore (dk_Mo_links 28 rfl) c15 c16.1 c16.2 ?_
        refine p_ltS (P := fun q => p_Go K l m_Mo_links 48 [(0, p_r v0), (1, p_i v1), (2, p_i v2)] [] q _) (p_xZ _ _ _ _) ?_ h
        intro s17 hs18 h
        refine g_iconst (dk_Mo_links 29 rfl) (by decide) ?_
        refine g_istore_n (i := 3) [(3, p_i 0), (0, p_r v0), (1, p_i v1), (2, p_i v2)] (dk_Mo_links 30 rfl) rfl (by decide) rfl ?_
        refine g_sub [(0, p_r v0), (1, p_i v1), (2, p_i v2), (3, p_i 0)] [1, 2, 3, 0] rfl ?_
        exact tO_Mo_links_50 K l 3000 v0 v1 v2 0 s17 _ h
      · have h := p_ifF b9 h
        refine g_aload_n (i := 0) (j := 0) (dk_Mo_links 18 rfl) rfl rfl ?_
        refine g_iconst (dk_Mo_links 19 rfl) (by decide) ?_
        obtain ⟨r23, s19, q20, h⟩ := p_bdE h
        have t21 := tF_Mo_faulted K l v0 5 s2 _ q20
        refine g_callV (a := v0) (ci := 11) (q0 := (RX11, TX11, 90)) (As := [p_i 5]) (rest := []) [p_i r23] mt_Mo_faulted rfl rfl tw_7_89 ts_49 tw_7_87 ⟨Nat.le_of_ble_eq_true rfl, Nat.le_of_ble_eq_true rfl⟩ rfl (Nat.le_of_ble_eq_true rfl) (dk_Mo_links 20 rfl) rfl (c1.up hs5) rfl t21 ?_
        have hs22 : p_x s2 s19 := t21.1
        show p_Go K l m_Mo_links 36 [(0, p_r v0), (1, p_i v1), (2, p_i v2)] [p_i r23] s19 _
        cases h
        exact g_ret rfl rfl (dk_Mo_links 21 rfl) (fun os => ⟨_, rfl, p_okh os⟩)
    · have h := p_ifF b8 h
      refine g_aload_n (i := 0) (j := 0) (dk_Mo_links 11 rfl) rfl rfl ?_
      refine g_bipush (dk_Mo_links 12 rfl) (by decide +kernel) (by decide) ?_
      obtain ⟨r28, s24, q25, h⟩ := p_bdE h
      have t26 := tF_Mo_refused K l v0 (-2) s2 _ q25
      refine g_callV (a := v0) (ci := 11) (q0 := (RX11, TX11, 90)) (As := [p_i (-2)]) (rest := []) [p_i r28] mt_Mo_refused rfl rfl tw_7_46 ts_43 tw_7_44 ⟨Nat.le_of_ble_eq_true rfl, Nat.le_of_ble_eq_true rfl⟩ rfl (Nat.le_of_ble_eq_true rfl) (dk_Mo_links 13 rfl) rfl (c1.up hs5) rfl t26 ?_
      have hs27 : p_x s2 s24 := t26.1
      show p_Go K l m_Mo_links 25 [(0, p_r v0), (1, p_i v1), (2, p_i v2)] [p_i r28] s24 _
      cases h
      exact g_ret rfl rfl (dk_Mo_links 14 rfl) (fun os => ⟨_, rfl, p_okh os⟩)
  · have h := p_ifF b7 h
    refine g_aload_n (i := 0) (j := 0) (dk_Mo_links 4 rfl) rfl rfl ?_
    refine g_iconst (dk_Mo_links 5 rfl) (by decide) ?_
    obtain ⟨r33, s29, q30, h⟩ := p_bdE h
    have t31 := tF_Mo_refused K l v0 (-1) s2 _ q30
    refine g_callV (a := v0) (ci := 11) (q0 := (RX11, TX11, 90)) (As := [p_i (-1)]) (rest := []) [p_i r33] mt_Mo_refused rfl rfl tw_7_46 ts_43 tw_7_44 ⟨Nat.le_of_ble_eq_true rfl, Nat.le_of_ble_eq_true rfl⟩ rfl (Nat.le_of_ble_eq_true rfl) (dk_Mo_links 6 rfl) rfl (c1.up hs5) rfl t31 ?_
    have hs32 : p_x s2 s29 := t31.1
    show p_Go K l m_Mo_links 13 [(0, p_r v0), (1, p_i v1), (2, p_i v2)] [p_i r33] s29 _
    cases h
    exact g_ret rfl rfl (dk_Mo_links 7 rfl) (fun os => ⟨_, rfl, p_okh os⟩)
def m_Mo_link : p_Me := (⟨"SortWorksModel", "link", "(III)I"⟩, prog_13_method_20_code, 5, (some .int), 2, 46)
theorem mt_Mo_link : p_Mt m_Mo_link 3 := ⟨p_mem (p_tb7 (List.mem_of_getElem? (i := 94) rfl)) rfl, tw_1_12, by decide +kernel, by decide +kernel, by decide +kernel⟩
def dt_Mo_link : List (Nat × Instr × Nat) := [(0, .aload_n 0, 1), (1, .iload_n 1, 1), (2, .invokevirtual 267, 3), (5, .ifCond .eq 9, 3), (8, .aload_n 0, 1), (9, .iconst (-1), 1), (10, .invokevirtual 240, 3), (13, .ireturn, 1), (14, .iload_n 3, 1), (15, .i2l, 1), (16, .ldc2_w 273, 3), (19, .ldc2_w 275, 3), (22, .invokestatic 230, 3), (25, .ifCond .eq 10, 3), (28, .aload_n 0, 1), (29, .bipush (-2), 2), (31, .invokevirtual 240, 3), (34, .ireturn, 1), (35, .aload_n 0, 1), (36, .iload_n 1, 1), (37, .invokevirtual 257, 3), (40, .istore 4, 2), (42, .aload_n 0, 1), (43, .getfield 22, 3), (46, .iload 4, 2), (48, .iaload, 1), (49, .ifCond .lt 22, 3), (52, .iload_n 2, 1), (53, .i2l, 1), (54, .lconst 0, 1), (55, .aload_n 0, 1), (56, .getfield 22, 3), (59, .iload 4, 2), (61, .iaload, 1), (62, .iconst 1, 1), (63, .isub, 1), (64, .i2l, 1), (65, .invokestatic 230, 3), (68, .ifCond .eq 23, 3), (71, .aload_n 0, 1), (72, .aload_n 0, 1), (73, .getfield 22, 3), (76, .iload 4, 2), (78, .iaload, 1), (79, .ifCond .ge 7, 3), (82, .iconst 1, 1), (83, .goto 4, 3), (86, .iconst 3, 1), (87, .invokevirtual 270, 3), (90, .ireturn, 1), (91, .aload_n 0, 1), (92, .getfield 25, 3), (95, .iconst 3, 1), (96, .iload 4, 2), (98, .imul, 1), (99, .iload_n 2, 1), (100, .iadd, 1), (101, .iload_n 3, 1), (102, .iastore, 1), (103, .aload_n 0, 1), (104, .iconst 1, 1), (105, .invokevirtual 264, 3), (108, .ireturn, 1)]
theorem dk_Mo_link (i : Nat) {pc : Nat} {ins : Instr} {len : Nat} (h : dt_Mo_link[i]? = some (pc, ins, len)) : decode m_Mo_link.2.1 pc = .ok (ins, len) := p_dk (b := m_Mo_link.2.1) (t := dt_Mo_link) (by decide +kernel) i h
def B_Mo_link_87  (w0 : Int) (w1 : Nat) (s0 : p_Hp) : Option (Int × p_Hp) :=
  p_gd (p_is s0 w1 11) <|
  p_bd (F_Mo_faulted w1 w0 s0) fun r6 s2 =>
  some (r6, s2)
def B_Mo_link_71  (v0 : Nat) (v4 : Int) (s0 : p_Hp) : Option (Int × p_Hp) :=
  p_gd (p_is s0 v0 11) <|
  p_gd (p_is s0 (p_R s0 v0 7) 100) <|
  p_gd ((0 : Int) ≤ v4 ∧ v4 < (p_L s0 (p_R s0 v0 7) : Int)) <|
  if 0 ≤ (p_Z s0 (p_R s0 v0 7) (v4 : Int).toNat) then
    B_Mo_link_87 3 v0 s0
  else
    B_Mo_link_87 1 v0 s0
def F_Mo_link (v0 : Nat) (v1 : Int) (v2 : Int) (v3 : Int) (s0 : p_Hp) : Option (Int × p_Hp) :=
  p_gd (p_is s0 v0 11) <|
  p_bd (F_Mo_noGear v0 v1 s0) fun r6 s2 =>
  if r6 = 0 then
    p_bd (F_Mo_beyond v3 (-1) 39 s2) fun r12 s8 =>
    if r12 = 0 then
      p_bd (F_Mo_g v0 v1 s8) fun r18 s14 =>
      p_gd (p_is s14 (p_R s14 v0 7) 100) <|
      p_gd ((0 : Int) ≤ r18 ∧ r18 < (p_L s14 (p_R s14 v0 7) : Int)) <|
      if (p_Z s14 (p_R s14 v0 7) (r18 : Int).toNat) < 0 then
        B_Mo_link_71 v0 r18 s14
      else
        p_gd ((0 : Int) ≤ r18 ∧ r18 < (p_L s14 (p_R s14 v0 7) : Int)) <|
        p_bd (F_Mo_beyond v2 0 (p_w ((p_Z s14 (p_R s14 v0 7) (r18 : Int).toNat) - 1)) s14) fun r27 s23 =>
        if r27 = 0 then
          p_gd (p_is s23 (p_R s23 v0 8) 100) <|
          p_gd ((0 : Int) ≤ (p_w ((p_w (3 * r18)) + v2)) ∧ (p_w ((p_w (3 * r18)) + v2)) < (p_L s23 (p_R s23 v0 8) : Int)) <|
          p_bi (p_wZ s23 (p_R s23 v0 8) ((p_w ((p_w (3 * r18)) + v2)) : Int).toNat v3) fun s31 =>
          p_bd (F_Mo_built v0 1 s31) fun r37 s33 =>
          some (r37, s33)
        else
          B_Mo_link_71 v0 r18 s23
    else
      p_bd (F_Mo_refused v0 (-2) s8) fun r42 s38 =>
      some (r42, s38)
  else
    p_bd (F_Mo_refused v0 (-1) s2) fun r47 s43 =>
    some (r47, s43)
set_option maxRecDepth 100000 in
set_option maxHeartbeats 4000000 in
theorem tB_Mo_link_87 (K : p_K) (l : Launch)  (w0 : Int) (w1 : Nat) (s0 : p_Hp) (r : (Int × p_Hp)) (h : B_Mo_link_87 w0 w1 s0 = some r) : p_Go K l m_Mo_link 87 [] [p_i w0, p_r w1] s0 (some (p_i r.1), r.2) := by
  unfold B_Mo_link_87 at h
  obtain ⟨c1, h⟩ := p_gdE h
  obtain ⟨r6, s2, q3, h⟩ := p_bdE h
  have t4 := tF_Mo_faulted K l w1 w0 s0 _ q3
  refine g_callV (a := w1) (ci := 11) (q0 := (RX11, TX11, 90)) (As := [p_i w0]) (rest := []) [p_i r6] mt_Mo_faulted rfl rfl tw_7_89 ts_49 tw_7_87 ⟨Nat.le_of_ble_eq_true rfl, Nat.le_of_ble_eq_true rfl⟩ rfl (Nat.le_of_ble_eq_true rfl) (dk_Mo_link 48 rfl) rfl c1 rfl t4 ?_
  have hs5 : p_x s0 s2 := t4.1
  show p_Go K l m_Mo_link 90 [] [p_i r6] s2 _
  cases h
  exact g_ret rfl rfl (dk_Mo_link 49 rfl) (fun os => ⟨_, rfl, p_okh os⟩)
set_option maxRecDepth 100000 in
set_option maxHeartbeats 4000000 in
theorem tB_Mo_link_71 (K : p_K) (l : Launch)  (v0 : Nat) (v4 : Int) (s0 : p_Hp) (r : (Int × p_Hp)) (h : B_Mo_link_71 v0 v4 s0 = some r) : p_Go K l m_Mo_link 71 [(0, p_r v0), (4, p_i v4)] [] s0 (some (p_i r.1), r.2) := by
  unfold B_Mo_link_71 at h
  refine g_aload_n (i := 0) (j := 0) (dk_Mo_link 39 rfl) rfl rfl ?_
  refine g_aload_n (i := 0) (j := 0) (dk_Mo_link 40 rfl) rfl rfl ?_
  obtain ⟨c1, h⟩ := p_gdE h
  refine g_getR fl_Mo_22 (Or.inr ⟨_, rfl⟩) (dk_Mo_link 41 rfl) c1 ?_
  refine g_iload (j := 1) (dk_Mo_link 42 rfl) rfl ?_
  obtain ⟨c2, h⟩ := p_gdE h
  obtain ⟨c3, h⟩ := p_gdE h
  refine g_iaload (dk_Mo_link 43 rfl) c2 c3.1 c3.2 ?_
  refine g_if_ge 86 (dk_Mo_link 44 rfl) (by decide) (fun b4 => ?_) (fun b4 => ?_)
  · have h := p_ifT b4 h
    refine g_iconst (dk_Mo_link 47 rfl) (by decide) ?_
    refine g_sub [] [] rfl ?_
    exact tB_Mo_link_87 K l 3 v0 s0 _ h
  · have h := p_ifF b4 h
    refine g_iconst (dk_Mo_link 45 rfl) (by decide) ?_
    refine g_goto 87 (dk_Mo_link 46 rfl) (by decide) ?_
    refine g_sub [] [] rfl ?_
    exact tB_Mo_link_87 K l 1 v0 s0 _ h
set_option maxRecDepth 100000 in
set_option maxHeartbeats 4000000 in
theorem tF_Mo_link (K : p_K) (l : Launch) (v0 : Nat) (v1 : Int) (v2 : Int) (v3 : Int) (s0 : p_Hp) (r : (Int × p_Hp)) (h : F_Mo_link v0 v1 v2 v3 s0 = some r) : p_Ct K l m_Mo_link [p_r v0, p_i v1, p_i v2, p_i v3] s0 (some (p_i r.1), r.2) := by
  refine p_Ct.of (by decide +kernel) (Nat.le_of_ble_eq_true rfl) ?_
  unfold F_Mo_link at h
  show p_Go K l m_Mo_link 0 [(0, p_r v0), (1, p_i v1), (2, p_i v2), (3, p_i v3)] [] s0 _
  refine g_aload_n (i := 0) (j := 0) (dk_Mo_link 0 rfl) rfl rfl ?_
  refine g_iload_n (i := 1) (j := 1) (dk_Mo_link 1 rfl) rfl rfl ?_
  obtain ⟨c1, h⟩ := p_gdE h
  obtain ⟨r6, s2, q3, h⟩ := p_bdE h
  have t4 := tF_Mo_noGear K l v0 v1 s0 _ q3
  refine g_callV (a := v0) (ci := 11) (q0 := (RX11, TX11, 90)) (As := [p_i v1]) (rest := []) [p_i r6] mt_Mo_noGear rfl rfl tw_7_85 ts_48 tw_7_83 ⟨Nat.le_of_ble_eq_true rfl, Nat.le_of_ble_eq_true rfl⟩ rfl (Nat.le_of_ble_eq_true rfl) (dk_Mo_link 2 rfl) rfl c1 rfl t4 ?_
  have hs5 : p_x s0 s2 := t4.1
  show p_Go K l m_Mo_link 5 [(0, p_r v0), (1, p_i v1), (2, p_i v2), (3, p_i v3)] [p_i r6] s2 _
  refine g_if_eq 14 (dk_Mo_link 3 rfl) (by decide) (fun b7 => ?_) (fun b7 => ?_)
  · have h := p_ifT b7 h
    refine g_iload_n (i := 3) (j := 3) (dk_Mo_link 8 rfl) rfl rfl ?_
    refine g_i2l (dk_Mo_link 9 rfl) ?_
    refine g_ldc2_w (x := (-1)) (dk_Mo_link 10 rfl) tw_7_95 (by decide) (by decide) ?_
    refine g_ldc2_w (x := 39) (dk_Mo_link 11 rfl) tw_7_96 (by decide) (by decide) ?_
    obtain ⟨r12, s8, q9, h⟩ := p_bdE h
    have t10 := tF_Mo_beyond K l v3 (-1) 39 s2 _ q9
    refine g_callS (av := [p_j v3, p_j (-1), p_j 39]) (rest := []) [p_i r12] mt_Mo_beyond tw_7_42 tw_7_41 ⟨Nat.le_of_ble_eq_true rfl, Nat.le_of_ble_eq_true rfl⟩ rfl (Nat.le_of_ble_eq_true rfl) (dk_Mo_link 12 rfl) rfl rfl t10 ?_
    have hs11 : p_x s2 s8 := t10.1
    show p_Go K l m_Mo_link 25 [(0, p_r v0), (1, p_i v1), (2, p_i v2), (3, p_i v3)] [p_i r12] s8 _
    refine g_if_eq 35 (dk_Mo_link 13 rfl) (by decide) (fun b13 => ?_) (fun b13 => ?_)
    · have h := p_ifT b13 h
      refine g_aload_n (i := 0) (j := 0) (dk_Mo_link 18 rfl) rfl rfl ?_
      refine g_iload_n (i := 1) (j := 1) (dk_Mo_link 19 rfl) rfl rfl ?_
      obtain ⟨r18, s14, q15, h⟩ := p_bdE h
      have t16 := tF_Mo_g K l v0 v1 s8 _ q15
      refine g_callV (a := v0) (ci := 11) (q0 := (RX11, TX11, 90)) (As := [p_i v1]) (rest := []) [p_i r18] mt_Mo_g rfl rfl tw_7_63 ts_45 tw_7_61 ⟨Nat.le_of_ble_eq_true rfl, Nat.le_of_ble_eq_true rfl⟩ rfl (Nat.le_of_ble_eq_true rfl) (dk_Mo_link 20 rfl) rfl (c1.up (hs5.trans hs11)) rfl t16 ?_
      have hs17 : p_x s8 s14 := t16.1
      show p_Go K l m_Mo_link 40 [(0, p_r v0), (1, p_i v1), (2, p_i v2), (3, p_i v3)] [p_i r18] s14 _
      refine g_istore [(4, p_i r18), (0, p_r v0), (1, p_i v1), (2, p_i v2), (3, p_i v3)] (dk_Mo_link 21 rfl) (by decide) rfl ?_
      refine g_aload_n (i := 0) (j := 1) (dk_Mo_link 22 rfl) rfl rfl ?_
      refine g_getR fl_Mo_22 (Or.inr ⟨_, rfl⟩) (dk_Mo_link 23 rfl) (c1.up (hs5.trans (hs11.trans hs17))) ?_
      refine g_iload (j := 0) (dk_Mo_link 24 rfl) rfl ?_
      obtain ⟨c19, h⟩ := p_gdE h
      obtain ⟨c20, h⟩ := p_gdE h
      refine g_iaload (dk_Mo_link 25 rfl) c19 c20.1 c20.2 ?_
      refine g_if_lt 71 (dk_Mo_link 26 rfl) (by decide) (fun b21 => ?_) (fun b21 => ?_)
      · have h := p_ifT b21 h
        refine g_sub [(0, p_r v0), (4, p_i r18)] [1, 0] rfl ?_
        exact tB_Mo_link_71 K l v0 r18 s14 _ h
      · have h := p_ifF b21 h
        refine g_iload_n (i := 2) (j := 3) (dk_Mo_link 27 rfl) rfl rfl ?_
        refine g_i2l (dk_Mo_link 28 rfl) ?_
        refine g_lconst (x := 0) (dk_Mo_link 29 rfl) rfl (by decide) ?_
        refine g_aload_n (i := 0) (j := 1) (dk_Mo_link 30 rfl) rfl rfl ?_
        refine g_getR fl_Mo_22 (Or.inr ⟨_, rfl⟩) (dk_Mo_link 31 rfl) (c1.up (hs5.trans (hs11.trans hs17))) ?_
        refine g_iload (j := 0) (dk_Mo_link 32 rfl) rfl ?_
        obtain ⟨c22, h⟩ := p_gdE h
        refine g_iaload (dk_Mo_link 33 rfl) c19 c22.1 c22.2 ?_
        refine g_iconst (dk_Mo_link 34 rfl) (by decide) ?_
        refine g_isub (dk_Mo_link 35 rfl) ?_
        refine g_i2l (dk_Mo_link 36 rfl) ?_
        obtain ⟨r27, s23, q24, h⟩ := p_bdE h
        have t25 := tF_Mo_beyond K l v2 0 (p_w ((p_Z s14 (p_R s14 v0 7) (r18 : Int).toNat) - 1)) s14 _ q24
        refine g_callS (av := [p_j v2, p_j 0, p_j (p_w ((p_Z s14 (p_R s14 v0 7) (r18 : Int).toNat) - 1))]) (rest := []) [p_i r27] mt_Mo_beyond tw_7_42 tw_7_41 ⟨Nat.le_of_ble_eq_true rfl, Nat.le_of_ble_eq_true rfl⟩ rfl (Nat.le_of_ble_eq_true rfl) (dk_Mo_link 37 rfl) rfl rfl t25 ?_
        have hs26 : p_x s14 s23 := t25.1
        show p_Go K l m_Mo_link 68 [(4, p_i r18), (0, p_r v0), (1, p_i v1), (2, p_i v2), (3, p_i v3)] [p_i r27] s23 _
        refine g_if_eq 91 (dk_Mo_link 38 rfl) (by decide) (fun b28 => ?_) (fun b28 => ?_)
        · have h := p_ifT b28 h
          refine g_aload_n (i := 0) (j := 1) (dk_Mo_link 50 rfl) rfl rfl ?_
          refine g_getR fl_Mo_25 (Or.inr ⟨_, rfl⟩) (dk_Mo_link 51 rfl) (c1.up (hs5.trans (hs11.trans (hs17.trans hs26)))) ?_
          refine g_iconst (dk_Mo_link 52 rfl) (by decide) ?_
          refine g_iload (j := 0) (dk_Mo_link 53 rfl) rfl ?_
          refine g_imul (dk_Mo_link 54 rfl) ?_
          refine g_iload_n (i := 2) (j := 3) (dk_Mo_link 55 rfl) rfl rfl ?_
          refine g_iadd (dk_Mo_link 56 rfl) ?_
          refine g_iload_n (i := 3) (j := 4) (dk_Mo_link 57 rfl) rfl rfl ?_
          obtain ⟨c29, h⟩ := p_gdE h
          obtain ⟨c30, h⟩ := p_gdE h
          refine g_iastore (dk_Mo_link 58 rfl) c29 c30.1 c30.2 ?_
          refine p_ltS (P := fun q => p_Go K l m_Mo_link 103 [(4, p_i r18), (0, p_r v0), (1, p_i v1), (2, p_i v2), (3, p_i v3)] [] q _) (p_xZ _ _ _ _) ?_ h
          intro s31 hs32 h
          refine g_aload_n (i := 0) (j := 1) (dk_Mo_link 59 rfl) rfl rfl ?_
          refine g_iconst (dk_Mo_link 60 rfl) (by decide) ?_
          obtain ⟨r37, s33, q34, h⟩ := p_bdE h
          have t35 := tF_Mo_built K l v0 1 s31 _ q34
          refine g_callV (a := v0) (ci := 11) (q0 := (RX11, TX11, 90)) (As := [p_i 1]) (rest := []) [p_i r37] mt_Mo_built rfl rfl tw_7_77 ts_47 tw_7_75 ⟨Nat.le_of_ble_eq_true rfl, Nat.le_of_ble_eq_true rfl⟩ rfl (Nat.le_of_ble_eq_true rfl) (dk_Mo_link 61 rfl) rfl (c1.up (hs5.trans (hs11.trans (hs17.trans (hs26.trans hs32))))) rfl t35 ?_
          have hs36 : p_x s31 s33 := t35.1
          show p_Go K l m_Mo_link 108 [(4, p_i r18), (0, p_r v0), (1, p_i v1), (2, p_i v2), (3, p_i v3)] [p_i r37] s33 _
          cases h
          exact g_ret rfl rfl (dk_Mo_link 62 rfl) (fun os => ⟨_, rfl, p_okh os⟩)
        · have h := p_ifF b28 h
          refine g_sub [(0, p_r v0), (4, p_i r18)] [1, 0] rfl ?_
          exact tB_Mo_link_71 K l v0 r18 s23 _ h
    · have h := p_ifF b13 h
      refine g_aload_n (i := 0) (j := 0) (dk_Mo_link 14 rfl) rfl rfl ?_
      refine g_bipush (dk_Mo_link 15 rfl) (by decide +kernel) (by decide) ?_
      obtain ⟨r42, s38, q39, h⟩ := p_bdE h
      have t40 := tF_Mo_refused K l v0 (-2) s8 _ q39
      refine g_callV (a := v0) (ci := 11) (q0 := (RX11, TX11, 90)) (As := [p_i (-2)]) (rest := []) [p_i r42] mt_Mo_refused rfl rfl tw_7_46 ts_43 tw_7_44 ⟨Nat.le_of_ble_eq_true rfl, Nat.le_of_ble_eq_true rfl⟩ rfl (Nat.le_of_ble_eq_true rfl) (dk_Mo_link 16 rfl) rfl (c1.up (hs5.trans hs11)) rfl t40 ?_
      have hs41 : p_x s8 s38 := t40.1
      show p_Go K l m_Mo_link 34 [(0, p_r v0), (1, p_i v1), (2, p_i v2), (3, p_i v3)] [p_i r42] s38 _
      cases h
      exact g_ret rfl rfl (dk_Mo_link 17 rfl) (fun os => ⟨_, rfl, p_okh os⟩)
  · have h := p_ifF b7 h
    refine g_aload_n (i := 0) (j := 0) (dk_Mo_link 4 rfl) rfl rfl ?_
    refine g_iconst (dk_Mo_link 5 rfl) (by decide) ?_
    obtain ⟨r47, s43, q44, h⟩ := p_bdE h
    have t45 := tF_Mo_refused K l v0 (-1) s2 _ q44
    refine g_callV (a := v0) (ci := 11) (q0 := (RX11, TX11, 90)) (As := [p_i (-1)]) (rest := []) [p_i r47] mt_Mo_refused rfl rfl tw_7_46 ts_43 tw_7_44 ⟨Nat.le_of_ble_eq_true rfl, Nat.le_of_ble_eq_true rfl⟩ rfl (Nat.le_of_ble_eq_true rfl) (dk_Mo_link 6 rfl) rfl (c1.up hs5) rfl t45 ?_
    have hs46 : p_x s2 s43 := t45.1
    show p_Go K l m_Mo_link 13 [(0, p_r v0), (1, p_i v1), (2, p_i v2), (3, p_i v3)] [p_i r47] s43 _
    cases h
    exact g_ret rfl rfl (dk_Mo_link 7 rfl) (fun os => ⟨_, rfl, p_okh os⟩)
def m_Mo_sidesOf : p_Me := (⟨"SortWorksModel", "sidesOf", "(I)I"⟩, prog_13_method_11_code, 1, (some .int), 0, 0)
theorem mt_Mo_sidesOf : p_Mt m_Mo_sidesOf 1 := ⟨p_mem (p_tb7 (List.mem_of_getElem? (i := 103) rfl)) rfl, tw_1_12, by decide +kernel, by decide +kernel, by decide +kernel⟩
def dt_Mo_sidesOf : List (Nat × Instr × Nat) := [(0, .iload_n 0, 1), (1, .iconst 5, 1), (2, .if_icmp .ne 7, 3), (5, .iconst 2, 1), (6, .goto 14, 3), (9, .iload_n 0, 1), (10, .bipush 6, 2), (12, .if_icmp .ne 7, 3), (15, .iconst 3, 1), (16, .goto 4, 3), (19, .iconst 0, 1), (20, .ireturn, 1)]
theorem dk_Mo_sidesOf (i : Nat) {pc : Nat} {ins : Instr} {len : Nat} (h : dt_Mo_sidesOf[i]? = some (pc, ins, len)) : decode m_Mo_sidesOf.2.1 pc = .ok (ins, len) := p_dk (b := m_Mo_sidesOf.2.1) (t := dt_Mo_sidesOf) (by decide +kernel) i h
def F_Mo_sidesOf (v0 : Int) (s0 : p_Hp) : Option (Int × p_Hp) :=
  if v0 ≠ 5 then
    if v0 ≠ 6 then
      some (0, s0)
    else
      some (3, s0)
  else
    some (2, s0)
set_option maxRecDepth 100000 in
set_option maxHeartbeats 4000000 in
theorem tF_Mo_sidesOf (K : p_K) (l : Launch) (v0 : Int) (s0 : p_Hp) (r : (Int × p_Hp)) (h : F_Mo_sidesOf v0 s0 = some r) : p_Ct K l m_Mo_sidesOf [p_i v0] s0 (some (p_i r.1), r.2) := by
  refine p_Ct.of (by decide +kernel) (Nat.le_of_ble_eq_true rfl) ?_
  unfold F_Mo_sidesOf at h
  show p_Go K l m_Mo_sidesOf 0 [(0, p_i v0)] [] s0 _
  refine g_iload_n (i := 0) (j := 0) (dk_Mo_sidesOf 0 rfl) rfl rfl ?_
  refine g_iconst (dk_Mo_sidesOf 1 rfl) (by decide) ?_
  refine g_icmp_ne 9 (dk_Mo_sidesOf 2 rfl) (by decide) (fun b1 => ?_) (fun b1 => ?_)
  · have h := p_ifT b1 h
    refine g_iload_n (i := 0) (j := 0) (dk_Mo_sidesOf 5 rfl) rfl rfl ?_
    refine g_bipush (dk_Mo_sidesOf 6 rfl) (by decide +kernel) (by decide) ?_
    refine g_icmp_ne 19 (dk_Mo_sidesOf 7 rfl) (by decide) (fun b2 => ?_) (fun b2 => ?_)
    · have h := p_ifT b2 h
      refine g_iconst (dk_Mo_sidesOf 10 rfl) (by decide) ?_
      cases h
      exact g_ret rfl rfl (dk_Mo_sidesOf 11 rfl) (fun os => ⟨_, rfl, p_okh os⟩)
    · have h := p_ifF b2 h
      refine g_iconst (dk_Mo_sidesOf 8 rfl) (by decide) ?_
      refine g_goto 20 (dk_Mo_sidesOf 9 rfl) (by decide) ?_
      cases h
      exact g_ret rfl rfl (dk_Mo_sidesOf 11 rfl) (fun os => ⟨_, rfl, p_okh os⟩)
  · have h := p_ifF b1 h
    refine g_iconst (dk_Mo_sidesOf 3 rfl) (by decide) ?_
    refine g_goto 20 (dk_Mo_sidesOf 4 rfl) (by decide) ?_
    cases h
    exact g_ret rfl rfl (dk_Mo_sidesOf 11 rfl) (fun os => ⟨_, rfl, p_okh os⟩)
def m_Mo_aim : p_Me := (⟨"SortWorksModel", "aim", "(IIIZ)I"⟩, prog_13_method_21_code, 9, (some .int), 2, 46)
theorem mt_Mo_aim : p_Mt m_Mo_aim 4 := ⟨p_mem (p_tb7 (List.mem_of_getElem? (i := 100) rfl)) rfl, tw_1_12, by decide +kernel, by decide +kernel, by decide +kernel⟩
def dt_Mo_aim : List (Nat × Instr × Nat) := [(0, .aload_n 0, 1), (1, .iload_n 1, 1), (2, .invokevirtual 267, 3), (5, .ifCond .eq 9, 3), (8, .aload_n 0, 1), (9, .iconst (-1), 1), (10, .invokevirtual 240, 3), (13, .ireturn, 1), (14, .iload_n 2, 1), (15, .i2l, 1), (16, .lconst 1, 1), (17, .ldc2_w 238, 3), (20, .invokestatic 230, 3), (23, .ifCond .ne 15, 3), (26, .iload_n 3, 1), (27, .i2l, 1), (28, .lconst 0, 1), (29, .ldc2_w 275, 3), (32, .invokestatic 230, 3), (35, .ifCond .eq 10, 3), (38, .aload_n 0, 1), (39, .bipush (-2), 2), (41, .invokevirtual 240, 3), (44, .ireturn, 1), (45, .aload_n 0, 1), (46, .iload_n 1, 1), (47, .invokevirtual 257, 3), (50, .istore 5, 2), (52, .aload_n 0, 1), (53, .getfield 16, 3), (56, .iload 5, 2), (58, .iaload, 1), (59, .invokestatic 234, 3), (62, .ifCond .eq 17, 3), (65, .iload_n 2, 1), (66, .aload_n 0, 1), (67, .getfield 16, 3), (70, .iload 5, 2), (72, .iaload, 1), (73, .invokestatic 277, 3), (76, .if_icmp .lt 26, 3), (79, .aload_n 0, 1), (80, .aload_n 0, 1), (81, .getfield 16, 3), (84, .iload 5, 2), (86, .iaload, 1), (87, .invokestatic 234, 3), (90, .ifCond .eq 7, 3), (93, .iconst 3, 1), (94, .goto 4, 3), (97, .iconst 2, 1), (98, .invokevirtual 270, 3), (101, .ireturn, 1), (102, .lconst 1, 1), (103, .iload_n 3, 1), (104, .lshl, 1), (105, .lstore 6, 2), (107, .aload_n 0, 1), (108, .getfield 34, 3), (111, .iconst 2, 1), (112, .iload 5, 2), (114, .imul, 1), (115, .iload_n 2, 1), (116, .iadd, 1), (117, .iconst 1, 1), (118, .isub, 1), (119, .laload, 1), (120, .lload 6, 2), (122, .land, 1), (123, .lconst 0, 1), (124, .lcmp, 1), (125, .ifCond .eq 7, 3), (128, .iconst 1, 1), (129, .goto 4, 3), (132, .iconst 0, 1), (133, .istore 8, 2), (135, .iload 8, 2), (137, .iload 4, 2), (139, .if_icmp .eq 21, 3), (142, .aload_n 0, 1), (143, .getfield 34, 3), (146, .iconst 2, 1), (147, .iload 5, 2), (149, .imul, 1), (150, .iload_n 2, 1), (151, .iadd, 1), (152, .iconst 1, 1), (153, .isub, 1), (154, .dup2, 1), (155, .laload, 1), (156, .lload 6, 2), (158, .lxor, 1), (159, .lastore, 1), (160, .aload_n 0, 1), (161, .iload 8, 2), (163, .iload 4, 2), (165, .if_icmp .eq 7, 3), (168, .iconst 1, 1), (169, .goto 4, 3), (172, .iconst 0, 1), (173, .invokevirtual 264, 3), (176, .ireturn, 1)]
theorem dk_Mo_aim (i : Nat) {pc : Nat} {ins : Instr} {len : Nat} (h : dt_Mo_aim[i]? = some (pc, ins, len)) : decode m_Mo_aim.2.1 pc = .ok (ins, len) := p_dk (b := m_Mo_aim.2.1) (t := dt_Mo_aim) (by decide +kernel) i h
def B_Mo_aim_38  (v0 : Nat) (s0 : p_Hp) : Option (Int × p_Hp) :=
  p_gd (p_is s0 v0 11) <|
  p_bd (F_Mo_refused v0 (-2) s0) fun r6 s2 =>
  some (r6, s2)
def B_Mo_aim_98  (w0 : Int) (w1 : Nat) (s0 : p_Hp) : Option (Int × p_Hp) :=
  p_gd (p_is s0 w1 11) <|
  p_bd (F_Mo_faulted w1 w0 s0) fun r6 s2 =>
  some (r6, s2)
def B_Mo_aim_79  (v0 : Nat) (v5 : Int) (s0 : p_Hp) : Option (Int × p_Hp) :=
  p_gd (p_is s0 v0 11) <|
  p_gd (p_is s0 (p_R s0 v0 5) 100) <|
  p_gd ((0 : Int) ≤ v5 ∧ v5 < (p_L s0 (p_R s0 v0 5) : Int)) <|
  p_bd (F_Mo_isDivert (p_Z s0 (p_R s0 v0 5) (v5 : Int).toNat) s0) fun r8 s4 =>
  if r8 = 0 then
    B_Mo_aim_98 2 v0 s4
  else
    B_Mo_aim_98 3 v0 s4
def B_Mo_aim_173  (w0 : Int) (w1 : Nat) (s0 : p_Hp) : Option (Int × p_Hp) :=
  p_gd (p_is s0 w1 11) <|
  p_bd (F_Mo_built w1 w0 s0) fun r6 s2 =>
  some (r6, s2)
def B_Mo_aim_160  (v0 : Nat) (v4 : Int) (v8 : Int) (s0 : p_Hp) : Option (Int × p_Hp) :=
  if v8 = v4 then
    B_Mo_aim_173 0 v0 s0
  else
    B_Mo_aim_173 1 v0 s0
def B_Mo_aim_133  (v0 : Nat) (v2 : Int) (v4 : Int) (v5 : Int) (v6 : Int) (w0 : Int) (s0 : p_Hp) : Option (Int × p_Hp) :=
  if w0 = v4 then
    B_Mo_aim_160 v0 v4 w0 s0
  else
    p_gd (p_is s0 v0 11) <|
    p_gd (p_is s0 (p_R s0 v0 11) 101) <|
    p_gd ((0 : Int) ≤ (p_w ((p_w ((p_w (2 * v5)) + v2)) - 1)) ∧ (p_w ((p_w ((p_w (2 * v5)) + v2)) - 1)) < (p_L s0 (p_R s0 v0 11) : Int)) <|
    p_gd ((0 : Int) ≤ (p_w ((p_w ((p_w (2 * v5)) + v2)) - 1)) ∧ (p_w ((p_w ((p_w (2 * v5)) + v2)) - 1)) < (p_L s0 (p_R s0 v0 11) : Int)) <|
    p_bi (p_wZ s0 (p_R s0 v0 11) ((p_w ((p_w ((p_w (2 * v5)) + v2)) - 1)) : Int).toNat (p_xor6 (p_Z s0 (p_R s0 v0 11) ((p_w ((p_w ((p_w (2 * v5)) + v2)) - 1)) : Int).toNat) v6)) fun s6 =>
    B_Mo_aim_160 v0 v4 w0 s6
def F_Mo_aim (v0 : Nat) (v1 : Int) (v2 : Int) (v3 : Int) (v4 : Int) (s0 : p_Hp) : Option (Int × p_Hp) :=
  p_gd (p_is s0 v0 11) <|
  p_bd (F_Mo_noGear v0 v1 s0) fun r6 s2 =>
  if r6 = 0 then
    p_bd (F_Mo_beyond v2 1 2 s2) fun r12 s8 =>
    if r12 ≠ 0 then
      B_Mo_aim_38 v0 s8
    else
      p_bd (F_Mo_beyond v3 0 39 s8) fun r18 s14 =>
      if r18 = 0 then
        p_bd (F_Mo_g v0 v1 s14) fun r24 s20 =>
        p_gd (p_is s20 (p_R s20 v0 5) 100) <|
        p_gd ((0 : Int) ≤ r24 ∧ r24 < (p_L s20 (p_R s20 v0 5) : Int)) <|
        p_bd (F_Mo_isDivert (p_Z s20 (p_R s20 v0 5) (r24 : Int).toNat) s20) fun r31 s27 =>
        if r31 = 0 then
          B_Mo_aim_79 v0 r24 s27
        else
          p_gd (p_is s27 (p_R s27 v0 5) 100) <|
          p_gd ((0 : Int) ≤ r24 ∧ r24 < (p_L s27 (p_R s27 v0 5) : Int)) <|
          p_bd (F_Mo_sidesOf (p_Z s27 (p_R s27 v0 5) (r24 : Int).toNat) s27) fun r39 s35 =>
          if v2 < r39 then
            p_bi ((p_shl6 1 v3)) fun x41 =>
            p_gd (p_is s35 (p_R s35 v0 11) 101) <|
            p_gd ((0 : Int) ≤ (p_w ((p_w ((p_w (2 * r24)) + v2)) - 1)) ∧ (p_w ((p_w ((p_w (2 * r24)) + v2)) - 1)) < (p_L s35 (p_R s35 v0 11) : Int)) <|
            if (p_cmp (p_and6 (p_Z s35 (p_R s35 v0 11) ((p_w ((p_w ((p_w (2 * r24)) + v2)) - 1)) : Int).toNat) x41) 0) = 0 then
              B_Mo_aim_133 v0 v2 v4 r24 x41 0 s35
            else
              B_Mo_aim_133 v0 v2 v4 r24 x41 1 s35
          else
            B_Mo_aim_79 v0 r24 s35
      else
        B_Mo_aim_38 v0 s14
  else
    p_bd (F_Mo_refused v0 (-1) s2) fun r49 s45 =>
    some (r49, s45)
set_option maxRecDepth 100000 in
set_option maxHeartbeats 4000000 in
theorem tB_Mo_aim_38 (K : p_K) (l : Launch)  (v0 : Nat) (s0 : p_Hp) (r : (Int × p_Hp)) (h : B_Mo_aim_38 v0 s0 = some r) : p_Go K l m_Mo_aim 38 [(0, p_r v0)] [] s0 (some (p_i r.1), r.2) := by
  unfold B_Mo_aim_38 at h
  refine g_aload_n (i := 0) (j := 0) (dk_Mo_aim 20 rfl) rfl rfl ?_
  refine g_bipush (dk_Mo_aim 21 rfl) (by decide +kernel) (by decide) ?_
  obtain ⟨c1, h⟩ := p_gdE h
  obtain ⟨r6, s2, q3, h⟩ := p_bdE h
  have t4 := tF_Mo_refused K l v0 (-2) s0 _ q3
  refine g_callV (a := v0) (ci := 11) (q0 := (RX11, TX11, 90)) (As := [p_i (-2)]) (rest := []) [p_i r6] mt_Mo_refused rfl rfl tw_7_46 ts_43 tw_7_44 ⟨Nat.le_of_ble_eq_true rfl, Nat.le_of_ble_eq_true rfl⟩ rfl (Nat.le_of_ble_eq_true rfl) (dk_Mo_aim 22 rfl) rfl c1 rfl t4 ?_
  have hs5 : p_x s0 s2 := t4.1
  show p_Go K l m_Mo_aim 44 [(0, p_r v0)] [p_i r6] s2 _
  cases h
  exact g_ret rfl rfl (dk_Mo_aim 23 rfl) (fun os => ⟨_, rfl, p_okh os⟩)
set_option maxRecDepth 100000 in
set_option maxHeartbeats 4000000 in
theorem tB_Mo_aim_98 (K : p_K) (l : Launch)  (w0 : Int) (w1 : Nat) (s0 : p_Hp) (r : (Int × p_Hp)) (h : B_Mo_aim_98 w0 w1 s0 = some r) : p_Go K l m_Mo_aim 98 [] [p_i w0, p_r w1] s0 (some (p_i r.1), r.2) := by
  unfold B_Mo_aim_98 at h
  obtain ⟨c1, h⟩ := p_gdE h
  obtain ⟨r6, s2, q3, h⟩ := p_bdE h
  have t4 := tF_Mo_faulted K l w1 w0 s0 _ q3
  refine g_callV (a := w1) (ci := 11) (q0 := (RX11, TX11, 90)) (As := [p_i w0]) (rest := []) [p_i r6] mt_Mo_faulted rfl rfl tw_7_89 ts_49 tw_7_87 ⟨Nat.le_of_ble_eq_true rfl, Nat.le_of_ble_eq_true rfl⟩ rfl (Nat.le_of_ble_eq_true rfl) (dk_Mo_aim 51 rfl) rfl c1 rfl t4 ?_
  have hs5 : p_x s0 s2 := t4.1
  show p_Go K l m_Mo_aim 101 [] [p_i r6] s2 _
  cases h
  exact g_ret rfl rfl (dk_Mo_aim 52 rfl) (fun os => ⟨_, rfl, p_okh os⟩)
set_option maxRecDepth 100000 in
set_option maxHeartbeats 4000000 in
theorem tB_Mo_aim_79 (K : p_K) (l : Launch)  (v0 : Nat) (v5 : Int) (s0 : p_Hp) (r : (Int × p_Hp)) (h : B_Mo_aim_79 v0 v5 s0 = some r) : p_Go K l m_Mo_aim 79 [(0, p_r v0), (5, p_i v5)] [] s0 (some (p_i r.1), r.2) := by
  unfold B_Mo_aim_79 at h
  refine g_aload_n (i := 0) (j := 0) (dk_Mo_aim 41 rfl) rfl rfl ?_
  refine g_aload_n (i := 0) (j := 0) (dk_Mo_aim 42 rfl) rfl rfl ?_
  obtain ⟨c1, h⟩ := p_gdE h
  refine g_getR fl_Mo_16 (Or.inr ⟨_, rfl⟩) (dk_Mo_aim 43 rfl) c1 ?_
  refine g_iload (j := 1) (dk_Mo_aim 44 rfl) rfl ?_
  obtain ⟨c2, h⟩ := p_gdE h
  obtain ⟨c3, h⟩ := p_gdE h
  refine g_iaload (dk_Mo_aim 45 rfl) c2 c3.1 c3.2 ?_
  obtain ⟨r8, s4, q5, h⟩ := p_bdE h
  have t6 := tF_Mo_isDivert K l (p_Z s0 (p_R s0 v0 5) (v5 : Int).toNat) s0 _ q5
  refine g_callS (av := [p_i (p_Z s0 (p_R s0 v0 5) (v5 : Int).toNat)]) (rest := [p_r v0]) [p_i r8, p_r v0] mt_Mo_isDivert tw_7_73 tw_7_72 ⟨Nat.le_of_ble_eq_true rfl, Nat.le_of_ble_eq_true rfl⟩ rfl (Nat.le_of_ble_eq_true rfl) (dk_Mo_aim 46 rfl) rfl rfl t6 ?_
  have hs7 : p_x s0 s4 := t6.1
  show p_Go K l m_Mo_aim 90 [(0, p_r v0), (5, p_i v5)] [p_i r8, p_r v0] s4 _
  refine g_if_eq 97 (dk_Mo_aim 47 rfl) (by decide) (fun b9 => ?_) (fun b9 => ?_)
  · have h := p_ifT b9 h
    refine g_iconst (dk_Mo_aim 50 rfl) (by decide) ?_
    refine g_sub [] [] rfl ?_
    exact tB_Mo_aim_98 K l 2 v0 s4 _ h
  · have h := p_ifF b9 h
    refine g_iconst (dk_Mo_aim 48 rfl) (by decide) ?_
    refine g_goto 98 (dk_Mo_aim 49 rfl) (by decide) ?_
    refine g_sub [] [] rfl ?_
    exact tB_Mo_aim_98 K l 3 v0 s4 _ h
set_option maxRecDepth 100000 in
set_option maxHeartbeats 4000000 in
theorem tB_Mo_aim_173 (K : p_K) (l : Launch)  (w0 : Int) (w1 : Nat) (s0 : p_Hp) (r : (Int × p_Hp)) (h : B_Mo_aim_173 w0 w1 s0 = some r) : p_Go K l m_Mo_aim 173 [] [p_i w0, p_r w1] s0 (some (p_i r.1), r.2) := by
  unfold B_Mo_aim_173 at h
  obtain ⟨c1, h⟩ := p_gdE h
  obtain ⟨r6, s2, q3, h⟩ := p_bdE h
  have t4 := tF_Mo_built K l w1 w0 s0 _ q3
  refine g_callV (a := w1) (ci := 11) (q0 := (RX11, TX11, 90)) (As := [p_i w0]) (rest := []) [p_i r6] mt_Mo_built rfl rfl tw_7_77 ts_47 tw_7_75 ⟨Nat.le_of_ble_eq_true rfl, Nat.le_of_ble_eq_true rfl⟩ rfl (Nat.le_of_ble_eq_true rfl) (dk_Mo_aim 100 rfl) rfl c1 rfl t4 ?_
  have hs5 : p_x s0 s2 := t4.1
  show p_Go K l m_Mo_aim 176 [] [p_i r6] s2 _
  cases h
  exact g_ret rfl rfl (dk_Mo_aim 101 rfl) (fun os => ⟨_, rfl, p_okh os⟩)
set_option maxRecDepth 100000 in
set_option maxHeartbeats 4000000 in
theorem tB_Mo_aim_160 (K : p_K) (l : Launch)  (v0 : Nat) (v4 : Int) (v8 : Int) (s0 : p_Hp) (r : (Int × p_Hp)) (h : B_Mo_aim_160 v0 v4 v8 s0 = some r) : p_Go K l m_Mo_aim 160 [(0, p_r v0), (4, p_i v4), (8, p_i v8)] [] s0 (some (p_i r.1), r.2) := by
  unfold B_Mo_aim_160 at h
  refine g_aload_n (i := 0) (j := 0) (dk_Mo_aim 93 rfl) rfl rfl ?_
  refine g_iload (j := 2) (dk_Mo_aim 94 rfl) rfl ?_
  refine g_iload (j := 1) (dk_Mo_aim 95 rfl) rfl ?_
  refine g_icmp_eq 172 (dk_Mo_aim 96 rfl) (by decide) (fun b1 => ?_) (fun b1 => ?_)
  · have h := p_ifT b1 h
    refine g_iconst (dk_Mo_aim 99 rfl) (by decide) ?_
    refine g_sub [] [] rfl ?_
    exact tB_Mo_aim_173 K l 0 v0 s0 _ h
  · have h := p_ifF b1 h
    refine g_iconst (dk_Mo_aim 97 rfl) (by decide) ?_
    refine g_goto 173 (dk_Mo_aim 98 rfl) (by decide) ?_
    refine g_sub [] [] rfl ?_
    exact tB_Mo_aim_173 K l 1 v0 s0 _ h
set_option maxRecDepth 100000 in
set_option maxHeartbeats 4000000 in
theorem tB_Mo_aim_133 (K : p_K) (l : Launch)  (v0 : Nat) (v2 : Int) (v4 : Int) (v5 : Int) (v6 : Int) (w0 : Int) (s0 : p_Hp) (r : (Int × p_Hp)) (h : B_Mo_aim_133 v0 v2 v4 v5 v6 w0 s0 = some r) : p_Go K l m_Mo_aim 133 [(0, p_r v0), (2, p_i v2), (4, p_i v4), (5, p_i v5), (6, p_j v6)] [p_i w0] s0 (some (p_i r.1), r.2) := by
  unfold B_Mo_aim_133 at h
  refine g_istore [(8, p_i w0), (0, p_r v0), (2, p_i v2), (4, p_i v4), (5, p_i v5), (6, p_j v6)] (dk_Mo_aim 75 rfl) (by decide) rfl ?_
  refine g_iload (j := 0) (dk_Mo_aim 76 rfl) rfl ?_
  refine g_iload (j := 3) (dk_Mo_aim 77 rfl) rfl ?_
  refine g_icmp_eq 160 (dk_Mo_aim 78 rfl) (by decide) (fun b1 => ?_) (fun b1 => ?_)
  · have h := p_ifT b1 h
    refine g_sub [(0, p_r v0), (4, p_i v4), (8, p_i w0)] [1, 3, 0] rfl ?_
    exact tB_Mo_aim_160 K l v0 v4 w0 s0 _ h
  · have h := p_ifF b1 h
    refine g_aload_n (i := 0) (j := 1) (dk_Mo_aim 79 rfl) rfl rfl ?_
    obtain ⟨c2, h⟩ := p_gdE h
    refine g_getR fl_Mo_34 (Or.inr ⟨_, rfl⟩) (dk_Mo_aim 80 rfl) c2 ?_
    refine g_iconst (dk_Mo_aim 81 rfl) (by decide) ?_
    refine g_iload (j := 4) (dk_Mo_aim 82 rfl) rfl ?_
    refine g_imul (dk_Mo_aim 83 rfl) ?_
    refine g_iload_n (i := 2) (j := 2) (dk_Mo_aim 84 rfl) rfl rfl ?_
    refine g_iadd (dk_Mo_aim 85 rfl) ?_
    refine g_iconst (dk_Mo_aim 86 rfl) (by decide) ?_
    refine g_isub (dk_Mo_aim 87 rfl) ?_
    refine g_dup2 (dk_Mo_aim 88 rfl) rfl rfl ?_
    obtain ⟨c3, h⟩ := p_gdE h
    obtain ⟨c4, h⟩ := p_gdE h
    refine g_laload (dk_Mo_aim 89 rfl) c3 c4.1 c4.2 ?_
    refine g_lload (j := 5) (dk_Mo_aim 90 rfl) rfl ?_
    refine g_lxor (dk_Mo_aim 91 rfl) ?_
    obtain ⟨c5, h⟩ := p_gdE h
    refine g_lastore (dk_Mo_aim 92 rfl) c3 c5.1 c5.2 ?_
    refine p_ltS (P := fun q => p_Go K l m_Mo_aim 160 [(8, p_i w0), (0, p_r v0), (2, p_i v2), (4, p_i v4), (5, p_i v5), (6, p_j v6)] [] q _) (p_xZ _ _ _ _) ?_ h
    intro s6 hs7 h
    refine g_sub [(0, p_r v0), (4, p_i v4), (8, p_i w0)] [1, 3, 0] rfl ?_
    exact tB_Mo_aim_160 K l v0 v4 w0 s6 _ h
set_option maxRecDepth 100000 in
set_option maxHeartbeats 4000000 in
theorem tF_Mo_aim (K : p_K) (l : Launch) (v0 : Nat) (v1 : Int) (v2 : Int) (v3 : Int) (v4 : Int) (s0 : p_Hp) (r : (Int × p_Hp)) (h : F_Mo_aim v0 v1 v2 v3 v4 s0 = some r) : p_Ct K l m_Mo_aim [p_r v0, p_i v1, p_i v2, p_i v3, p_i v4] s0 (some (p_i r.1), r.2) := by
  refine p_Ct.of (by decide +kernel) (Nat.le_of_ble_eq_true rfl) ?_
  unfold F_Mo_aim at h
  show p_Go K l m_Mo_aim 0 [(0, p_r v0), (1, p_i v1), (2, p_i v2), (3, p_i v3), (4, p_i v4)] [] s0 _
  refine g_aload_n (i := 0) (j := 0) (dk_Mo_aim 0 rfl) rfl rfl ?_
  refine g_iload_n (i := 1) (j := 1) (dk_Mo_aim 1 rfl) rfl rfl ?_
  obtain ⟨c1, h⟩ := p_gdE h
  obtain ⟨r6, s2, q3, h⟩ := p_bdE h
  have t4 := tF_Mo_noGear K l v0 v1 s0 _ q3
  refine g_callV (a := v0) (ci := 11) (q0 := (RX11, TX11, 90)) (As := [p_i v1]) (rest := []) [p_i r6] mt_Mo_noGear rfl rfl tw_7_85 ts_48 tw_7_83 ⟨Nat.le_of_ble_eq_true rfl, Nat.le_of_ble_eq_true rfl⟩ rfl (Nat.le_of_ble_eq_true rfl) (dk_Mo_aim 2 rfl) rfl c1 rfl t4 ?_
  have hs5 : p_x s0 s2 := t4.1
  show p_Go K l m_Mo_aim 5 [(0, p_r v0), (1, p_i v1), (2, p_i v2), (3, p_i v3), (4, p_i v4)] [p_i r6] s2 _
  refine g_if_eq 14 (dk_Mo_aim 3 rfl) (by decide) (fun b7 => ?_) (fun b7 => ?_)
  · have h := p_ifT b7 h
    refine g_iload_n (i := 2) (j := 2) (dk_Mo_aim 8 rfl) rfl rfl ?_
    refine g_i2l (dk_Mo_aim 9 rfl) ?_
    refine g_lconst (x := 1) (dk_Mo_aim 10 rfl) rfl (by decide) ?_
    refine g_ldc2_w (x := 2) (dk_Mo_aim 11 rfl) tw_7_40 (by decide) (by decide) ?_
    obtain ⟨r12, s8, q9, h⟩ := p_bdE h
    have t10 := tF_Mo_beyond K l v2 1 2 s2 _ q9
    refine g_callS (av := [p_j v2, p_j 1, p_j 2]) (rest := []) [p_i r12] mt_Mo_beyond tw_7_42 tw_7_41 ⟨Nat.le_of_ble_eq_true rfl, Nat.le_of_ble_eq_true rfl⟩ rfl (Nat.le_of_ble_eq_true rfl) (dk_Mo_aim 12 rfl) rfl rfl t10 ?_
    have hs11 : p_x s2 s8 := t10.1
    show p_Go K l m_Mo_aim 23 [(0, p_r v0), (1, p_i v1), (2, p_i v2), (3, p_i v3), (4, p_i v4)] [p_i r12] s8 _
    refine g_if_ne 38 (dk_Mo_aim 13 rfl) (by decide) (fun b13 => ?_) (fun b13 => ?_)
    · have h := p_ifT b13 h
      refine g_sub [(0, p_r v0)] [0] rfl ?_
      exact tB_Mo_aim_38 K l v0 s8 _ h
    · have h := p_ifF b13 h
      refine g_iload_n (i := 3) (j := 3) (dk_Mo_aim 14 rfl) rfl rfl ?_
      refine g_i2l (dk_Mo_aim 15 rfl) ?_
      refine g_lconst (x := 0) (dk_Mo_aim 16 rfl) rfl (by decide) ?_
      refine g_ldc2_w (x := 39) (dk_Mo_aim 17 rfl) tw_7_96 (by decide) (by decide) ?_
      obtain ⟨r18, s14, q15, h⟩ := p_bdE h
      have t16 := tF_Mo_beyond K l v3 0 39 s8 _ q15
      refine g_callS (av := [p_j v3, p_j 0, p_j 39]) (rest := []) [p_i r18] mt_Mo_beyond tw_7_42 tw_7_41 ⟨Nat.le_of_ble_eq_true rfl, Nat.le_of_ble_eq_true rfl⟩ rfl (Nat.le_of_ble_eq_true rfl) (dk_Mo_aim 18 rfl) rfl rfl t16 ?_
      have hs17 : p_x s8 s14 := t16.1
      show p_Go K l m_Mo_aim 35 [(0, p_r v0), (1, p_i v1), (2, p_i v2), (3, p_i v3), (4, p_i v4)] [p_i r18] s14 _
      refine g_if_eq 45 (dk_Mo_aim 19 rfl) (by decide) (fun b19 => ?_) (fun b19 => ?_)
      · have h := p_ifT b19 h
        refine g_aload_n (i := 0) (j := 0) (dk_Mo_aim 24 rfl) rfl rfl ?_
        refine g_iload_n (i := 1) (j := 1) (dk_Mo_aim 25 rfl) rfl rfl ?_
        obtain ⟨r24, s20, q21, h⟩ := p_bdE h
        have t22 := tF_Mo_g K l v0 v1 s14 _ q21
        refine g_callV (a := v0) (ci := 11) (q0 := (RX11, TX11, 90)) (As := [p_i v1]) (rest := []) [p_i r24] mt_Mo_g rfl rfl tw_7_63 ts_45 tw_7_61 ⟨Nat.le_of_ble_eq_true rfl, Nat.le_of_ble_eq_true rfl⟩ rfl (Nat.le_of_ble_eq_true rfl) (dk_Mo_aim 26 rfl) rfl (c1.up (hs5.trans (hs11.trans hs17))) rfl t22 ?_
        have hs23 : p_x s14 s20 := t22.1
        show p_Go K l m_Mo_aim 50 [(0, p_r v0), (1, p_i v1), (2, p_i v2), (3, p_i v3), (4, p_i v4)] [p_i r24] s20 _
        refine g_istore [(5, p_i r24), (0, p_r v0), (1, p_i v1), (2, p_i v2), (3, p_i v3), (4, p_i v4)] (dk_Mo_aim 27 rfl) (by decide) rfl ?_
        refine g_aload_n (i := 0) (j := 1) (dk_Mo_aim 28 rfl) rfl rfl ?_
        refine g_getR fl_Mo_16 (Or.inr ⟨_, rfl⟩) (dk_Mo_aim 29 rfl) (c1.up (hs5.trans (hs11.trans (hs17.trans hs23)))) ?_
        refine g_iload (j := 0) (dk_Mo_aim 30 rfl) rfl ?_
        obtain ⟨c25, h⟩ := p_gdE h
        obtain ⟨c26, h⟩ := p_gdE h
        refine g_iaload (dk_Mo_aim 31 rfl) c25 c26.1 c26.2 ?_
        obtain ⟨r31, s27, q28, h⟩ := p_bdE h
        have t29 := tF_Mo_isDivert K l (p_Z s20 (p_R s20 v0 5) (r24 : Int).toNat) s20 _ q28
        refine g_callS (av := [p_i (p_Z s20 (p_R s20 v0 5) (r24 : Int).toNat)]) (rest := []) [p_i r31] mt_Mo_isDivert tw_7_73 tw_7_72 ⟨Nat.le_of_ble_eq_true rfl, Nat.le_of_ble_eq_true rfl⟩ rfl (Nat.le_of_ble_eq_true rfl) (dk_Mo_aim 32 rfl) rfl rfl t29 ?_
        have hs30 : p_x s20 s27 := t29.1
        show p_Go K l m_Mo_aim 62 [(5, p_i r24), (0, p_r v0), (1, p_i v1), (2, p_i v2), (3, p_i v3), (4, p_i v4)] [p_i r31] s27 _
        refine g_if_eq 79 (dk_Mo_aim 33 rfl) (by decide) (fun b32 => ?_) (fun b32 => ?_)
        · have h := p_ifT b32 h
          refine g_sub [(0, p_r v0), (5, p_i r24)] [1, 0] rfl ?_
          exact tB_Mo_aim_79 K l v0 r24 s27 _ h
        · have h := p_ifF b32 h
          refine g_iload_n (i := 2) (j := 3) (dk_Mo_aim 34 rfl) rfl rfl ?_
          refine g_aload_n (i := 0) (j := 1) (dk_Mo_aim 35 rfl) rfl rfl ?_
          refine g_getR fl_Mo_16 (Or.inr ⟨_, rfl⟩) (dk_Mo_aim 36 rfl) (c1.up (hs5.trans (hs11.trans (hs17.trans (hs23.trans hs30))))) ?_
          refine g_iload (j := 0) (dk_Mo_aim 37 rfl) rfl ?_
          obtain ⟨c33, h⟩ := p_gdE h
          obtain ⟨c34, h⟩ := p_gdE h
          refine g_iaload (dk_Mo_aim 38 rfl) c33 c34.1 c34.2 ?_
          obtain ⟨r39, s35, q36, h⟩ := p_bdE h
          have t37 := tF_Mo_sidesOf K l (p_Z s27 (p_R s27 v0 5) (r24 : Int).toNat) s27 _ q36
          refine g_callS (av := [p_i (p_Z s27 (p_R s27 v0 5) (r24 : Int).toNat)]) (rest := [p_i v2]) [p_i r39, p_i v2] mt_Mo_sidesOf tw_7_102 tw_7_101 ⟨Nat.le_of_ble_eq_true rfl, Nat.le_of_ble_eq_true rfl⟩ rfl (Nat.le_of_ble_eq_true rfl) (dk_Mo_aim 39 rfl) rfl rfl t37 ?_
          have hs38 : p_x s27 s35 := t37.1
          show p_Go K l m_Mo_aim 76 [(5, p_i r24), (0, p_r v0), (1, p_i v1), (2, p_i v2), (3, p_i v3), (4, p_i v4)] [p_i r39, p_i v2] s35 _
          refine g_icmp_lt 102 (dk_Mo_aim 40 rfl) (by decide) (fun b40 => ?_) (fun b40 => ?_)
          · have h := p_ifT b40 h
            refine g_lconst (x := 1) (dk_Mo_aim 53 rfl) rfl (by decide) ?_
            refine g_iload_n (i := 3) (j := 4) (dk_Mo_aim 54 rfl) rfl rfl ?_
            refine g_lshl (dk_Mo_aim 55 rfl) ?_
            refine g_lstore [(6, p_j (p_shl6 1 v3)), (5, p_i r24), (0, p_r v0), (1, p_i v1), (2, p_i v2), (3, p_i v3), (4, p_i v4)] (dk_Mo_aim 56 rfl) (by decide) rfl ?_
            refine p_ltG (P := fun q => p_Go K l m_Mo_aim 107 [(6, p_j q), (5, p_i r24), (0, p_r v0), (1, p_i v1), (2, p_i v2), (3, p_i v3), (4, p_i v4)] [] s35 _) ?_ h
            intro x41 h
            refine g_aload_n (i := 0) (j := 2) (dk_Mo_aim 57 rfl) rfl rfl ?_
            refine g_getR fl_Mo_34 (Or.inr ⟨_, rfl⟩) (dk_Mo_aim 58 rfl) (c1.up (hs5.trans (hs11.trans (hs17.trans (hs23.trans (hs30.trans hs38)))))) ?_
            refine g_iconst (dk_Mo_aim 59 rfl) (by decide) ?_
            refine g_iload (j := 1) (dk_Mo_aim 60 rfl) rfl ?_
            refine g_imul (dk_Mo_aim 61 rfl) ?_
            refine g_iload_n (i := 2) (j := 4) (dk_Mo_aim 62 rfl) rfl rfl ?_
            refine g_iadd (dk_Mo_aim 63 rfl) ?_
            refine g_iconst (dk_Mo_aim 64 rfl) (by decide) ?_
            refine g_isub (dk_Mo_aim 65 rfl) ?_
            obtain ⟨c42, h⟩ := p_gdE h
            obtain ⟨c43, h⟩ := p_gdE h
            refine g_laload (dk_Mo_aim 66 rfl) c42 c43.1 c43.2 ?_
            refine g_lload (j := 0) (dk_Mo_aim 67 rfl) rfl ?_
            refine g_land (dk_Mo_aim 68 rfl) ?_
            refine g_lconst (x := 0) (dk_Mo_aim 69 rfl) rfl (by decide) ?_
            refine g_lcmp (dk_Mo_aim 70 rfl) ?_
            refine g_if_eq 132 (dk_Mo_aim 71 rfl) (by decide) (fun b44 => ?_) (fun b44 => ?_)
            · have h := p_ifT b44 h
              refine g_iconst (dk_Mo_aim 74 rfl) (by decide) ?_
              refine g_sub [(0, p_r v0), (2, p_i v2), (4, p_i v4), (5, p_i r24), (6, p_j x41)] [2, 4, 6, 1, 0] rfl ?_
              exact tB_Mo_aim_133 K l v0 v2 v4 r24 x41 0 s35 _ h
            · have h := p_ifF b44 h
              refine g_iconst (dk_Mo_aim 72 rfl) (by decide) ?_
              refine g_goto 133 (dk_Mo_aim 73 rfl) (by decide) ?_
              refine g_sub [(0, p_r v0), (2, p_i v2), (4, p_i v4), (5, p_i r24), (6, p_j x41)] [2, 4, 6, 1, 0] rfl ?_
              exact tB_Mo_aim_133 K l v0 v2 v4 r24 x41 1 s35 _ h
          · have h := p_ifF b40 h
            refine g_sub [(0, p_r v0), (5, p_i r24)] [1, 0] rfl ?_
            exact tB_Mo_aim_79 K l v0 r24 s35 _ h
      · have h := p_ifF b19 h
        refine g_sub [(0, p_r v0)] [0] rfl ?_
        exact tB_Mo_aim_38 K l v0 s14 _ h
  · have h := p_ifF b7 h
    refine g_aload_n (i := 0) (j := 0) (dk_Mo_aim 4 rfl) rfl rfl ?_
    refine g_iconst (dk_Mo_aim 5 rfl) (by decide) ?_
    obtain ⟨r49, s45, q46, h⟩ := p_bdE h
    have t47 := tF_Mo_refused K l v0 (-1) s2 _ q46
    refine g_callV (a := v0) (ci := 11) (q0 := (RX11, TX11, 90)) (As := [p_i (-1)]) (rest := []) [p_i r49] mt_Mo_refused rfl rfl tw_7_46 ts_43 tw_7_44 ⟨Nat.le_of_ble_eq_true rfl, Nat.le_of_ble_eq_true rfl⟩ rfl (Nat.le_of_ble_eq_true rfl) (dk_Mo_aim 6 rfl) rfl (c1.up hs5) rfl t47 ?_
    have hs48 : p_x s2 s45 := t47.1
    show p_Go K l m_Mo_aim 13 [(0, p_r v0), (1, p_i v1), (2, p_i v2), (3, p_i v3), (4, p_i v4)] [p_i r49] s45 _
    cases h
    exact g_ret rfl rfl (dk_Mo_aim 7 rfl) (fun os => ⟨_, rfl, p_okh os⟩)
def m_Mo_rank : p_Me := (⟨"SortWorksModel", "rank", "(II)I"⟩, prog_13_method_22_code, 4, (some .int), 2, 46)
theorem mt_Mo_rank : p_Mt m_Mo_rank 2 := ⟨p_mem (p_tb7 (List.mem_of_getElem? (i := 107) rfl)) rfl, tw_1_12, by decide +kernel, by decide +kernel, by decide +kernel⟩
def dt_Mo_rank : List (Nat × Instr × Nat) := [(0, .aload_n 0, 1), (1, .iload_n 1, 1), (2, .invokevirtual 267, 3), (5, .ifCond .eq 9, 3), (8, .aload_n 0, 1), (9, .iconst (-1), 1), (10, .invokevirtual 240, 3), (13, .ireturn, 1), (14, .iload_n 2, 1), (15, .i2l, 1), (16, .lconst 0, 1), (17, .ldc2_w 280, 3), (20, .invokestatic 230, 3), (23, .ifCond .eq 10, 3), (26, .aload_n 0, 1), (27, .bipush (-2), 2), (29, .invokevirtual 240, 3), (32, .ireturn, 1), (33, .aload_n 0, 1), (34, .getfield 16, 3), (37, .aload_n 0, 1), (38, .iload_n 1, 1), (39, .invokevirtual 257, 3), (42, .iaload, 1), (43, .invokestatic 252, 3), (46, .ifCond .ne 9, 3), (49, .aload_n 0, 1), (50, .iconst 2, 1), (51, .invokevirtual 270, 3), (54, .ireturn, 1), (55, .aload_n 0, 1), (56, .getfield 28, 3), (59, .aload_n 0, 1), (60, .iload_n 1, 1), (61, .invokevirtual 257, 3), (64, .iaload, 1), (65, .istore_n 3, 1), (66, .aload_n 0, 1), (67, .getfield 28, 3), (70, .aload_n 0, 1), (71, .iload_n 1, 1), (72, .invokevirtual 257, 3), (75, .iload_n 2, 1), (76, .iastore, 1), (77, .aload_n 0, 1), (78, .iload_n 3, 1), (79, .invokevirtual 264, 3), (82, .ireturn, 1)]
theorem dk_Mo_rank (i : Nat) {pc : Nat} {ins : Instr} {len : Nat} (h : dt_Mo_rank[i]? = some (pc, ins, len)) : decode m_Mo_rank.2.1 pc = .ok (ins, len) := p_dk (b := m_Mo_rank.2.1) (t := dt_Mo_rank) (by decide +kernel) i h
def F_Mo_rank (v0 : Nat) (v1 : Int) (v2 : Int) (s0 : p_Hp) : Option (Int × p_Hp) :=
  p_gd (p_is s0 v0 11) <|
  p_bd (F_Mo_noGear v0 v1 s0) fun r6 s2 =>
  if r6 = 0 then
    p_bd (F_Mo_beyond v2 0 9 s2) fun r12 s8 =>
    if r12 = 0 then
      p_bd (F_Mo_g v0 v1 s8) fun r18 s14 =>
      p_gd (p_is s14 (p_R s8 v0 5) 100) <|
      p_gd ((0 : Int) ≤ r18 ∧ r18 < (p_L s14 (p_R s8 v0 5) : Int)) <|
      p_bd (F_Mo_isTaker (p_Z s14 (p_R s8 v0 5) (r18 : Int).toNat) s14) fun r25 s21 =>
      if r25 ≠ 0 then
        p_bd (F_Mo_g v0 v1 s21) fun r31 s27 =>
        p_gd (p_is s27 (p_R s21 v0 9) 100) <|
        p_gd ((0 : Int) ≤ r31 ∧ r31 < (p_L s27 (p_R s21 v0 9) : Int)) <|
        p_bi ((p_Z s27 (p_R s21 v0 9) (r31 : Int).toNat)) fun x34 =>
        p_bd (F_Mo_g v0 v1 s27) fun r39 s35 =>
        p_gd (p_is s35 (p_R s27 v0 9) 100) <|
        p_gd ((0 : Int) ≤ r39 ∧ r39 < (p_L s35 (p_R s27 v0 9) : Int)) <|
        p_bi (p_wZ s35 (p_R s27 v0 9) (r39 : Int).toNat v2) fun s42 =>
        p_bd (F_Mo_built v0 x34 s42) fun r48 s44 =>
        some (r48, s44)
      else
        p_bd (F_Mo_faulted v0 2 s21) fun r53 s49 =>
        some (r53, s49)
    else
      p_bd (F_Mo_refused v0 (-2) s8) fun r58 s54 =>
      some (r58, s54)
  else
    p_bd (F_Mo_refused v0 (-1) s2) fun r63 s59 =>
    some (r63, s59)
set_option maxRecDepth 100000 in
set_option maxHeartbeats 4000000 in
theorem tF_Mo_rank (K : p_K) (l : Launch) (v0 : Nat) (v1 : Int) (v2 : Int) (s0 : p_Hp) (r : (Int × p_Hp)) (h : F_Mo_rank v0 v1 v2 s0 = some r) : p_Ct K l m_Mo_rank [p_r v0, p_i v1, p_i v2] s0 (some (p_i r.1), r.2) := by
  refine p_Ct.of (by decide +kernel) (Nat.le_of_ble_eq_true rfl) ?_
  unfold F_Mo_rank at h
  show p_Go K l m_Mo_rank 0 [(0, p_r v0), (1, p_i v1), (2, p_i v2)] [] s0 _
  refine g_aload_n (i := 0) (j := 0) (dk_Mo_rank 0 rfl) rfl rfl ?_
  refine g_iload_n (i := 1) (j := 1) (dk_Mo_rank 1 rfl) rfl rfl ?_
  obtain ⟨c1, h⟩ := p_gdE h
  obtain ⟨r6, s2, q3, h⟩ := p_bdE h
  have t4 := tF_Mo_noGear K l v0 v1 s0 _ q3
  refine g_callV (a := v0) (ci := 11) (q0 := (RX11, TX11, 90)) (As := [p_i v1]) (rest := []) [p_i r6] mt_Mo_noGear rfl rfl tw_7_85 ts_48 tw_7_83 ⟨Nat.le_of_ble_eq_true rfl, Nat.le_of_ble_eq_true rfl⟩ rfl (Nat.le_of_ble_eq_true rfl) (dk_Mo_rank 2 rfl) rfl c1 rfl t4 ?_
  have hs5 : p_x s0 s2 := t4.1
  show p_Go K l m_Mo_rank 5 [(0, p_r v0), (1, p_i v1), (2, p_i v2)] [p_i r6] s2 _
  refine g_if_eq 14 (dk_Mo_rank 3 rfl) (by decide) (fun b7 => ?_) (fun b7 => ?_)
  · have h := p_ifT b7 h
    refine g_iload_n (i := 2) (j := 2) (dk_Mo_rank 8 rfl) rfl rfl ?_
    refine g_i2l (dk_Mo_rank 9 rfl) ?_
    refine g_lconst (x := 0) (dk_Mo_rank 10 rfl) rfl (by decide) ?_
    refine g_ldc2_w (x := 9) (dk_Mo_rank 11 rfl) tw_7_108 (by decide) (by decide) ?_
    obtain ⟨r12, s8, q9, h⟩ := p_bdE h
    have t10 := tF_Mo_beyond K l v2 0 9 s2 _ q9
    refine g_callS (av := [p_j v2, p_j 0, p_j 9]) (rest := []) [p_i r12] mt_Mo_beyond tw_7_42 tw_7_41 ⟨Nat.le_of_ble_eq_true rfl, Nat.le_of_ble_eq_true rfl⟩ rfl (Nat.le_of_ble_eq_true rfl) (dk_Mo_rank 12 rfl) rfl rfl t10 ?_
    have hs11 : p_x s2 s8 := t10.1
    show p_Go K l m_Mo_rank 23 [(0, p_r v0), (1, p_i v1), (2, p_i v2)] [p_i r12] s8 _
    refine g_if_eq 33 (dk_Mo_rank 13 rfl) (by decide) (fun b13 => ?_) (fun b13 => ?_)
    · have h := p_ifT b13 h
      refine g_aload_n (i := 0) (j := 0) (dk_Mo_rank 18 rfl) rfl rfl ?_
      refine g_getR fl_Mo_16 (Or.inr ⟨_, rfl⟩) (dk_Mo_rank 19 rfl) (c1.up (hs5.trans hs11)) ?_
      refine g_aload_n (i := 0) (j := 0) (dk_Mo_rank 20 rfl) rfl rfl ?_
      refine g_iload_n (i := 1) (j := 1) (dk_Mo_rank 21 rfl) rfl rfl ?_
      obtain ⟨r18, s14, q15, h⟩ := p_bdE h
      have t16 := tF_Mo_g K l v0 v1 s8 _ q15
      refine g_callV (a := v0) (ci := 11) (q0 := (RX11, TX11, 90)) (As := [p_i v1]) (rest := [p_r (p_R s8 v0 5)]) [p_i r18, p_r (p_R s8 v0 5)] mt_Mo_g rfl rfl tw_7_63 ts_45 tw_7_61 ⟨Nat.le_of_ble_eq_true rfl, Nat.le_of_ble_eq_true rfl⟩ rfl (Nat.le_of_ble_eq_true rfl) (dk_Mo_rank 22 rfl) rfl (c1.up (hs5.trans hs11)) rfl t16 ?_
      have hs17 : p_x s8 s14 := t16.1
      show p_Go K l m_Mo_rank 42 [(0, p_r v0), (1, p_i v1), (2, p_i v2)] [p_i r18, p_r (p_R s8 v0 5)] s14 _
      obtain ⟨c19, h⟩ := p_gdE h
      obtain ⟨c20, h⟩ := p_gdE h
      refine g_iaload (dk_Mo_rank 23 rfl) c19 c20.1 c20.2 ?_
      obtain ⟨r25, s21, q22, h⟩ := p_bdE h
      have t23 := tF_Mo_isTaker K l (p_Z s14 (p_R s8 v0 5) (r18 : Int).toNat) s14 _ q22
      refine g_callS (av := [p_i (p_Z s14 (p_R s8 v0 5) (r18 : Int).toNat)]) (rest := []) [p_i r25] mt_Mo_isTaker tw_7_58 tw_7_57 ⟨Nat.le_of_ble_eq_true rfl, Nat.le_of_ble_eq_true rfl⟩ rfl (Nat.le_of_ble_eq_true rfl) (dk_Mo_rank 24 rfl) rfl rfl t23 ?_
      have hs24 : p_x s14 s21 := t23.1
      show p_Go K l m_Mo_rank 46 [(0, p_r v0), (1, p_i v1), (2, p_i v2)] [p_i r25] s21 _
      refine g_if_ne 55 (dk_Mo_rank 25 rfl) (by decide) (fun b26 => ?_) (fun b26 => ?_)
      · have h := p_ifT b26 h
        refine g_aload_n (i := 0) (j := 0) (dk_Mo_rank 30 rfl) rfl rfl ?_
        refine g_getR fl_Mo_28 (Or.inr ⟨_, rfl⟩) (dk_Mo_rank 31 rfl) (c1.up (hs5.trans (hs11.trans (hs17.trans hs24)))) ?_
        refine g_aload_n (i := 0) (j := 0) (dk_Mo_rank 32 rfl) rfl rfl ?_
        refine g_iload_n (i := 1) (j := 1) (dk_Mo_rank 33 rfl) rfl rfl ?_
        obtain ⟨r31, s27, q28, h⟩ := p_bdE h
        have t29 := tF_Mo_g K l v0 v1 s21 _ q28
        refine g_callV (a := v0) (ci := 11) (q0 := (RX11, TX11, 90)) (As := [p_i v1]) (rest := [p_r (p_R s21 v0 9)]) [p_i r31, p_r (p_R s21 v0 9)] mt_Mo_g rfl rfl tw_7_63 ts_45 tw_7_61 ⟨Nat.le_of_ble_eq_true rfl, Nat.le_of_ble_eq_true rfl⟩ rfl (Nat.le_of_ble_eq_true rfl) (dk_Mo_rank 34 rfl) rfl (c1.up (hs5.trans (hs11.trans (hs17.trans hs24)))) rfl t29 ?_
        have hs30 : p_x s21 s27 := t29.1
        show p_Go K l m_Mo_rank 64 [(0, p_r v0), (1, p_i v1), (2, p_i v2)] [p_i r31, p_r (p_R s21 v0 9)] s27 _
        obtain ⟨c32, h⟩ := p_gdE h
        obtain ⟨c33, h⟩ := p_gdE h
        refine g_iaload (dk_Mo_rank 35 rfl) c32 c33.1 c33.2 ?_
        refine g_istore_n (i := 3) [(3, p_i (p_Z s27 (p_R s21 v0 9) (r31 : Int).toNat)), (0, p_r v0), (1, p_i v1), (2, p_i v2)] (dk_Mo_rank 36 rfl) rfl (by decide) rfl ?_
        refine p_ltG (P := fun q => p_Go K l m_Mo_rank 66 [(3, p_i q), (0, p_r v0), (1, p_i v1), (2, p_i v2)] [] s27 _) ?_ h
        intro x34 h
        refine g_aload_n (i := 0) (j := 1) (dk_Mo_rank 37 rfl) rfl rfl ?_
        refine g_getR fl_Mo_28 (Or.inr ⟨_, rfl⟩) (dk_Mo_rank 38 rfl) (c1.up (hs5.trans (hs11.trans (hs17.trans (hs24.trans hs30))))) ?_
        refine g_aload_n (i := 0) (j := 1) (dk_Mo_rank 39 rfl) rfl rfl ?_
        refine g_iload_n (i := 1) (j := 2) (dk_Mo_rank 40 rfl) rfl rfl ?_
        obtain ⟨r39, s35, q36, h⟩ := p_bdE h
        have t37 := tF_Mo_g K l v0 v1 s27 _ q36
        refine g_callV (a := v0) (ci := 11) (q0 := (RX11, TX11, 90)) (As := [p_i v1]) (rest := [p_r (p_R s27 v0 9)]) [p_i r39, p_r (p_R s27 v0 9)] mt_Mo_g rfl rfl tw_7_63 ts_45 tw_7_61 ⟨Nat.le_of_ble_eq_true rfl, Nat.le_of_ble_eq_true rfl⟩ rfl (Nat.le_of_ble_eq_true rfl) (dk_Mo_rank 41 rfl) rfl (c1.up (hs5.trans (hs11.trans (hs17.trans (hs24.trans hs30))))) rfl t37 ?_
        have hs38 : p_x s27 s35 := t37.1
        show p_Go K l m_Mo_rank 75 [(3, p_i x34), (0, p_r v0), (1, p_i v1), (2, p_i v2)] [p_i r39, p_r (p_R s27 v0 9)] s35 _
        refine g_iload_n (i := 2) (j := 3) (dk_Mo_rank 42 rfl) rfl rfl ?_
        obtain ⟨c40, h⟩ := p_gdE h
        obtain ⟨c41, h⟩ := p_gdE h
        refine g_iastore (dk_Mo_rank 43 rfl) c40 c41.1 c41.2 ?_
        refine p_ltS (P := fun q => p_Go K l m_Mo_rank 77 [(3, p_i x34), (0, p_r v0), (1, p_i v1), (2, p_i v2)] [] q _) (p_xZ _ _ _ _) ?_ h
        intro s42 hs43 h
        refine g_aload_n (i := 0) (j := 1) (dk_Mo_rank 44 rfl) rfl rfl ?_
        refine g_iload_n (i := 3) (j := 0) (dk_Mo_rank 45 rfl) rfl rfl ?_
        obtain ⟨r48, s44, q45, h⟩ := p_bdE h
        have t46 := tF_Mo_built K l v0 x34 s42 _ q45
        refine g_callV (a := v0) (ci := 11) (q0 := (RX11, TX11, 90)) (As := [p_i x34]) (rest := []) [p_i r48] mt_Mo_built rfl rfl tw_7_77 ts_47 tw_7_75 ⟨Nat.le_of_ble_eq_true rfl, Nat.le_of_ble_eq_true rfl⟩ rfl (Nat.le_of_ble_eq_true rfl) (dk_Mo_rank 46 rfl) rfl (c1.up (hs5.trans (hs11.trans (hs17.trans (hs24.trans (hs30.trans (hs38.trans hs43))))))) rfl t46 ?_
        have hs47 : p_x s42 s44 := t46.1
        show p_Go K l m_Mo_rank 82 [(3, p_i x34), (0, p_r v0), (1, p_i v1), (2, p_i v2)] [p_i r48] s44 _
        cases h
        exact g_ret rfl rfl (dk_Mo_rank 47 rfl) (fun os => ⟨_, rfl, p_okh os⟩)
      · have h := p_ifF b26 h
        refine g_aload_n (i := 0) (j := 0) (dk_Mo_rank 26 rfl) rfl rfl ?_
        refine g_iconst (dk_Mo_rank 27 rfl) (by decide) ?_
        obtain ⟨r53, s49, q50, h⟩ := p_bdE h
        have t51 := tF_Mo_faulted K l v0 2 s21 _ q50
        refine g_callV (a := v0) (ci := 11) (q0 := (RX11, TX11, 90)) (As := [p_i 2]) (rest := []) [p_i r53] mt_Mo_faulted rfl rfl tw_7_89 ts_49 tw_7_87 ⟨Nat.le_of_ble_eq_true rfl, Nat.le_of_ble_eq_true rfl⟩ rfl (Nat.le_of_ble_eq_true rfl) (dk_Mo_rank 28 rfl) rfl (c1.up (hs5.trans (hs11.trans (hs17.trans hs24)))) rfl t51 ?_
        have hs52 : p_x s21 s49 := t51.1
        show p_Go K l m_Mo_rank 54 [(0, p_r v0), (1, p_i v1), (2, p_i v2)] [p_i r53] s49 _
        cases h
        exact g_ret rfl rfl (dk_Mo_rank 29 rfl) (fun os => ⟨_, rfl, p_okh os⟩)
    · have h := p_ifF b13 h
      refine g_aload_n (i := 0) (j := 0) (dk_Mo_rank 14 rfl) rfl rfl ?_
      refine g_bipush (dk_Mo_rank 15 rfl) (by decide +kernel) (by decide) ?_
      obtain ⟨r58, s54, q55, h⟩ := p_bdE h
      have t56 := tF_Mo_refused K l v0 (-2) s8 _ q55
      refine g_callV (a := v0) (ci := 11) (q0 := (RX11, TX11, 90)) (As := [p_i (-2)]) (rest := []) [p_i r58] mt_Mo_refused rfl rfl tw_7_46 ts_43 tw_7_44 ⟨Nat.le_of_ble_eq_true rfl, Nat.le_of_ble_eq_true rfl⟩ rfl (Nat.le_of_ble_eq_true rfl) (dk_Mo_rank 16 rfl) rfl (c1.up (hs5.trans hs11)) rfl t56 ?_
      have hs57 : p_x s8 s54 := t56.1
      show p_Go K l m_Mo_rank 32 [(0, p_r v0), (1, p_i v1), (2, p_i v2)] [p_i r58] s54 _
      cases h
      exact g_ret rfl rfl (dk_Mo_rank 17 rfl) (fun os => ⟨_, rfl, p_okh os⟩)
  · have h := p_ifF b7 h
    refine g_aload_n (i := 0) (j := 0) (dk_Mo_rank 4 rfl) rfl rfl ?_
    refine g_iconst (dk_Mo_rank 5 rfl) (by decide) ?_
    obtain ⟨r63, s59, q60, h⟩ := p_bdE h
    have t61 := tF_Mo_refused K l v0 (-1) s2 _ q60
    refine g_callV (a := v0) (ci := 11) (q0 := (RX11, TX11, 90)) (As := [p_i (-1)]) (rest := []) [p_i r63] mt_Mo_refused rfl rfl tw_7_46 ts_43 tw_7_44 ⟨Nat.le_of_ble_eq_true rfl, Nat.le_of_ble_eq_true rfl⟩ rfl (Nat.le_of_ble_eq_true rfl) (dk_Mo_rank 6 rfl) rfl (c1.up hs5) rfl t61 ?_
    have hs62 : p_x s2 s59 := t61.1
    show p_Go K l m_Mo_rank 13 [(0, p_r v0), (1, p_i v1), (2, p_i v2)] [p_i r63] s59 _
    cases h
    exact g_ret rfl rfl (dk_Mo_rank 7 rfl) (fun os => ⟨_, rfl, p_okh os⟩)
def m_Mo_loadOf : p_Me := (⟨"SortWorksModel", "loadOf", "(I)I"⟩, prog_13_method_14_code, 4, (some .int), 0, 0)
theorem mt_Mo_loadOf : p_Mt m_Mo_loadOf 1 := ⟨p_mem (p_tb7 (List.mem_of_getElem? (i := 116) rfl)) rfl, tw_1_12, by decide +kernel, by decide +kernel, by decide +kernel⟩
def dt_Mo_loadOf : List (Nat × Instr × Nat) := [(0, .iconst 0, 1), (1, .istore_n 2, 1), (2, .iconst 0, 1), (3, .istore_n 3, 1), (4, .iload_n 3, 1), (5, .aload_n 0, 1), (6, .getfield 19, 3), (9, .iload_n 1, 1), (10, .iaload, 1), (11, .if_icmp .ge 31, 3), (14, .iload_n 2, 1), (15, .aload_n 0, 1), (16, .getfield 69, 3), (19, .bipush 8, 2), (21, .iload_n 1, 1), (22, .imul, 1), (23, .iload_n 3, 1), (24, .iadd, 1), (25, .iaload, 1), (26, .ifCond .le 7, 3), (29, .iconst 1, 1), (30, .goto 4, 3), (33, .iconst 0, 1), (34, .iadd, 1), (35, .istore_n 2, 1), (36, .iinc 3 1, 3), (39, .goto (-35), 3), (42, .iload_n 2, 1), (43, .ireturn, 1)]
theorem dk_Mo_loadOf (i : Nat) {pc : Nat} {ins : Instr} {len : Nat} (h : dt_Mo_loadOf[i]? = some (pc, ins, len)) : decode m_Mo_loadOf.2.1 pc = .ok (ins, len) := p_dk (b := m_Mo_loadOf.2.1) (t := dt_Mo_loadOf) (by decide +kernel) i h
def B_Mo_loadOf_34 (k4 : Nat → Int → Int → Int → p_Hp → Option (Int × p_Hp)) (v0 : Nat) (v1 : Int) (v3 : Int) (w0 : Int) (w1 : Int) (s0 : p_Hp) : Option (Int × p_Hp) :=
  p_bi ((p_w (w1 + w0))) fun x1 =>
  p_bi (p_w (v3 + 1)) fun x2 =>
  k4 v0 v1 x1 x2 s0
def L_Mo_loadOf_4 (k4 : Nat → Int → Int → Int → p_Hp → Option (Int × p_Hp)) (v0 : Nat) (v1 : Int) (v2 : Int) (v3 : Int) (s0 : p_Hp) : Option (Int × p_Hp) :=
  p_gd (p_is s0 v0 11) <|
  p_gd (p_is s0 (p_R s0 v0 6) 100) <|
  p_gd ((0 : Int) ≤ v1 ∧ v1 < (p_L s0 (p_R s0 v0 6) : Int)) <|
  if (p_Z s0 (p_R s0 v0 6) (v1 : Int).toNat) ≤ v3 then
    some (v2, s0)
  else
    p_gd (p_is s0 (p_R s0 v0 22) 100) <|
    p_gd ((0 : Int) ≤ (p_w ((p_w (8 * v1)) + v3)) ∧ (p_w ((p_w (8 * v1)) + v3)) < (p_L s0 (p_R s0 v0 22) : Int)) <|
    if (p_Z s0 (p_R s0 v0 22) ((p_w ((p_w (8 * v1)) + v3)) : Int).toNat) ≤ 0 then
      B_Mo_loadOf_34 k4 v0 v1 v3 0 v2 s0
    else
      B_Mo_loadOf_34 k4 v0 v1 v3 1 v2 s0
def O_Mo_loadOf_4  : Nat → Nat → Int → Int → Int → p_Hp → Option (Int × p_Hp)
  | 0 => fun _ _ _ _ _ => none
  | n + 1 => L_Mo_loadOf_4 (O_Mo_loadOf_4 n)
def F_Mo_loadOf (v0 : Nat) (v1 : Int) (s0 : p_Hp) : Option (Int × p_Hp) :=
  O_Mo_loadOf_4 3000 v0 v1 0 0 s0
set_option maxRecDepth 100000 in
set_option maxHeartbeats 4000000 in
theorem tB_Mo_loadOf_34 (K : p_K) (l : Launch) (k4 : Nat → Int → Int → Int → p_Hp → Option (Int × p_Hp)) (hk4 : ∀ (v0 : Nat) (v1 : Int) (v2 : Int) (v3 : Int)  (s0 : p_Hp) (r : (Int × p_Hp)), k4 v0 v1 v2 v3 s0 = some r → p_Go K l m_Mo_loadOf 4 [(0, p_r v0), (1, p_i v1), (2, p_i v2), (3, p_i v3)] [] s0 (some (p_i r.1), r.2)) (v0 : Nat) (v1 : Int) (v3 : Int) (w0 : Int) (w1 : Int) (s0 : p_Hp) (r : (Int × p_Hp)) (h : B_Mo_loadOf_34 k4 v0 v1 v3 w0 w1 s0 = some r) : p_Go K l m_Mo_loadOf 34 [(0, p_r v0), (1, p_i v1), (3, p_i v3)] [p_i w0, p_i w1] s0 (some (p_i r.1), r.2) := by
  unfold B_Mo_loadOf_34 at h
  refine g_iadd (dk_Mo_loadOf 23 rfl) ?_
  refine g_istore_n (i := 2) [(2, p_i (p_w (w1 + w0))), (0, p_r v0), (1, p_i v1), (3, p_i v3)] (dk_Mo_loadOf 24 rfl) rfl (by decide) rfl ?_
  refine p_ltG (P := fun q => p_Go K l m_Mo_loadOf 36 [(2, p_i q), (0, p_r v0), (1, p_i v1), (3, p_i v3)] [] s0 _) ?_ h
  intro x1 h
  refine g_iinc (j := 3) [(3, p_i (p_w (v3 + 1))), (2, p_i x1), (0, p_r v0), (1, p_i v1)] (dk_Mo_loadOf 25 rfl) rfl (by decide) rfl ?_
  refine p_ltG (P := fun q => p_Go K l m_Mo_loadOf 39 [(3, p_i q), (2, p_i x1), (0, p_r v0), (1, p_i v1)] [] s0 _) ?_ h
  intro x2 h
  refine g_goto 4 (dk_Mo_loadOf 26 rfl) (by decide) ?_
  refine g_sub [(0, p_r v0), (1, p_i v1), (2, p_i x1), (3, p_i x2)] [2, 3, 1, 0] rfl ?_
  exact hk4 v0 v1 x1 x2 s0 _ h
set_option maxRecDepth 100000 in
set_option maxHeartbeats 4000000 in
theorem tL_Mo_loadOf_4 (K : p_K) (l : Launch) (k4 : Nat → Int → Int → Int → p_Hp → Option (Int × p_Hp)) (hk4 : ∀ (v0 : Nat) (v1 : Int) (v2 : Int) (v3 : Int)  (s0 : p_Hp) (r : (Int × p_Hp)), k4 v0 v1 v2 v3 s0 = some r → p_Go K l m_Mo_loadOf 4 [(0, p_r v0), (1, p_i v1), (2, p_i v2), (3, p_i v3)] [] s0 (some (p_i r.1), r.2)) (v0 : Nat) (v1 : Int) (v2 : Int) (v3 : Int) (s0 : p_Hp) (r : (Int × p_Hp)) (h : L_Mo_loadOf_4 k4 v0 v1 v2 v3 s0 = some r) : p_Go K l m_Mo_loadOf 4 [(0, p_r v0), (1, p_i v1), (2, p_i v2), (3, p_i v3)] [] s0 (some (p_i r.1), r.2) := by
  unfold L_Mo_loadOf_4 at h
  refine g_iload_n (i := 3) (j := 3) (dk_Mo_loadOf 4 rfl) rfl rfl ?_
  refine g_aload_n (i := 0) (j := 0) (dk_Mo_loadOf 5 rfl) rfl rfl ?_
  obtain ⟨c1, h⟩ := p_gdE h
  refine g_getR fl_Mo_19 (Or.inr ⟨_, rfl⟩) (dk_Mo_loadOf 6 rfl) c1 ?_
  refine g_iload_n (i := 1) (j := 1) (dk_Mo_loadOf 7 rfl) rfl rfl ?_
  obtain ⟨c2, h⟩ := p_gdE h
  obtain ⟨c3, h⟩ := p_gdE h
  refine g_iaload (dk_Mo_loadOf 8 rfl) c2 c3.1 c3.2 ?_
  refine g_icmp_ge 42 (dk_Mo_loadOf 9 rfl) (by decide) (fun b4 => ?_) (fun b4 => ?_)
  · have h := p_ifT b4 h
    refine g_iload_n (i := 2) (j := 2) (dk_Mo_loadOf 27 rfl) rfl rfl ?_
    cases h
    exact g_ret rfl rfl (dk_Mo_loadOf 28 rfl) (fun os => ⟨_, rfl, p_okh os⟩)
  · have h := p_ifF b4 h
    refine g_iload_n (i := 2) (j := 2) (dk_Mo_loadOf 10 rfl) rfl rfl ?_
    refine g_aload_n (i := 0) (j := 0) (dk_Mo_loadOf 11 rfl) rfl rfl ?_
    refine g_getR fl_Mo_69 (Or.inr ⟨_, rfl⟩) (dk_Mo_loadOf 12 rfl) c1 ?_
    refine g_bipush (dk_Mo_loadOf 13 rfl) (by decide +kernel) (by decide) ?_
    refine g_iload_n (i := 1) (j := 1) (dk_Mo_loadOf 14 rfl) rfl rfl ?_
    refine g_imul (dk_Mo_loadOf 15 rfl) ?_
    refine g_iload_n (i := 3) (j := 3) (dk_Mo_loadOf 16 rfl) rfl rfl ?_
    refine g_iadd (dk_Mo_loadOf 17 rfl) ?_
    obtain ⟨c5, h⟩ := p_gdE h
    obtain ⟨c6, h⟩ := p_gdE h
    refine g_iaload (dk_Mo_loadOf 18 rfl) c5 c6.1 c6.2 ?_
    refine g_if_le 33 (dk_Mo_loadOf 19 rfl) (by decide) (fun b7 => ?_) (fun b7 => ?_)
    · have h := p_ifT b7 h
      refine g_iconst (dk_Mo_loadOf 22 rfl) (by decide) ?_
      refine g_sub [(0, p_r v0), (1, p_i v1), (3, p_i v3)] [0, 1, 3] rfl ?_
      exact tB_Mo_loadOf_34 K l k4 hk4 v0 v1 v3 0 v2 s0 _ h
    · have h := p_ifF b7 h
      refine g_iconst (dk_Mo_loadOf 20 rfl) (by decide) ?_
      refine g_goto 34 (dk_Mo_loadOf 21 rfl) (by decide) ?_
      refine g_sub [(0, p_r v0), (1, p_i v1), (3, p_i v3)] [0, 1, 3] rfl ?_
      exact tB_Mo_loadOf_34 K l k4 hk4 v0 v1 v3 1 v2 s0 _ h
set_option maxRecDepth 100000 in
set_option maxHeartbeats 4000000 in
theorem tO_Mo_loadOf_4 (K : p_K) (l : Launch)  : ∀ (n : Nat) (v0 : Nat) (v1 : Int) (v2 : Int) (v3 : Int) (s0 : p_Hp) (r : (Int × p_Hp)), O_Mo_loadOf_4 n v0 v1 v2 v3 s0 = some r → p_Go K l m_Mo_loadOf 4 [(0, p_r v0), (1, p_i v1), (2, p_i v2), (3, p_i v3)] [] s0 (some (p_i r.1), r.2) := by
  intro n
  induction n with
  | zero => intro v0 v1 v2 v3 s0 r h; cases (show (none : Option (Int × p_Hp)) = some r from h)
  | succ n ih => intro v0 v1 v2 v3 s0 r h; exact tL_Mo_loadOf_4 K l _ ih v0 v1 v2 v3 s0 r h
set_option maxRecDepth 100000 in
set_option maxHeartbeats 4000000 in
theorem tF_Mo_loadOf (K : p_K) (l : Launch) (v0 : Nat) (v1 : Int) (s0 : p_Hp) (r : (Int × p_Hp)) (h : F_Mo_loadOf v0 v1 s0 = some r) : p_Ct K l m_Mo_loadOf [p_r v0, p_i v1] s0 (some (p_i r.1), r.2) := by
  refine p_Ct.of (by decide +kernel) (Nat.le_of_ble_eq_true rfl) ?_
  unfold F_Mo_loadOf at h
  show p_Go K l m_Mo_loadOf 0 [(0, p_r v0), (1, p_i v1)] [] s0 _
  refine g_iconst (dk_Mo_loadOf 0 rfl) (by decide) ?_
  refine g_istore_n (i := 2) [(2, p_i 0), (0, p_r v0), (1, p_i v1)] (dk_Mo_loadOf 1 rfl) rfl (by decide) rfl ?_
  refine g_iconst (dk_Mo_loadOf 2 rfl) (by decide) ?_
  refine g_istore_n (i := 3) [(3, p_i 0), (2, p_i 0), (0, p_r v0), (1, p_i v1)] (dk_Mo_loadOf 3 rfl) rfl (by decide) rfl ?_
  refine g_sub [(0, p_r v0), (1, p_i v1), (2, p_i 0), (3, p_i 0)] [2, 3, 1, 0] rfl ?_
  exact tO_Mo_loadOf_4 K l 3000 v0 v1 0 0 s0 _ h
def m_Mo_refit : p_Me := (⟨"SortWorksModel", "refit", "(II)I"⟩, prog_13_method_23_code, 5, (some .int), 3, 62)
theorem mt_Mo_refit : p_Mt m_Mo_refit 2 := ⟨p_mem (p_tb7 (List.mem_of_getElem? (i := 112) rfl)) rfl, tw_1_12, by decide +kernel, by decide +kernel, by decide +kernel⟩
def dt_Mo_refit : List (Nat × Instr × Nat) := [(0, .aload_n 0, 1), (1, .iload_n 1, 1), (2, .invokevirtual 267, 3), (5, .ifCond .eq 9, 3), (8, .aload_n 0, 1), (9, .iconst (-1), 1), (10, .invokevirtual 240, 3), (13, .ireturn, 1), (14, .iload_n 2, 1), (15, .i2l, 1), (16, .lconst 0, 1), (17, .ldc2_w 250, 3), (20, .invokestatic 230, 3), (23, .ifCond .eq 10, 3), (26, .aload_n 0, 1), (27, .bipush (-2), 2), (29, .invokevirtual 240, 3), (32, .ireturn, 1), (33, .aload_n 0, 1), (34, .iload_n 1, 1), (35, .invokevirtual 257, 3), (38, .istore_n 3, 1), (39, .aload_n 0, 1), (40, .getfield 16, 3), (43, .iload_n 3, 1), (44, .iaload, 1), (45, .istore 4, 2), (47, .iload 4, 2), (49, .invokestatic 252, 3), (52, .iload_n 2, 1), (53, .invokestatic 252, 3), (56, .if_icmp .eq 9, 3), (59, .aload_n 0, 1), (60, .iconst 2, 1), (61, .invokevirtual 270, 3), (64, .ireturn, 1), (65, .aload_n 0, 1), (66, .iload_n 3, 1), (67, .invokevirtual 282, 3), (70, .ifCond .le 10, 3), (73, .aload_n 0, 1), (74, .bipush (-3), 2), (76, .invokevirtual 240, 3), (79, .ireturn, 1), (80, .aload_n 0, 1), (81, .iload_n 3, 1), (82, .iload_n 2, 1), (83, .invokevirtual 260, 3), (86, .aload_n 0, 1), (87, .iload 4, 2), (89, .invokevirtual 264, 3), (92, .ireturn, 1)]
theorem dk_Mo_refit (i : Nat) {pc : Nat} {ins : Instr} {len : Nat} (h : dt_Mo_refit[i]? = some (pc, ins, len)) : decode m_Mo_refit.2.1 pc = .ok (ins, len) := p_dk (b := m_Mo_refit.2.1) (t := dt_Mo_refit) (by decide +kernel) i h
def F_Mo_refit (v0 : Nat) (v1 : Int) (v2 : Int) (s0 : p_Hp) : Option (Int × p_Hp) :=
  p_gd (p_is s0 v0 11) <|
  p_bd (F_Mo_noGear v0 v1 s0) fun r6 s2 =>
  if r6 = 0 then
    p_bd (F_Mo_beyond v2 0 10 s2) fun r12 s8 =>
    if r12 = 0 then
      p_bd (F_Mo_g v0 v1 s8) fun r18 s14 =>
      p_gd (p_is s14 (p_R s14 v0 5) 100) <|
      p_gd ((0 : Int) ≤ r18 ∧ r18 < (p_L s14 (p_R s14 v0 5) : Int)) <|
      p_bi ((p_Z s14 (p_R s14 v0 5) (r18 : Int).toNat)) fun x21 =>
      p_bd (F_Mo_isTaker x21 s14) fun r26 s22 =>
      p_bd (F_Mo_isTaker v2 s22) fun r31 s27 =>
      if r26 = r31 then
        p_bd (F_Mo_loadOf v0 r18 s27) fun r37 s33 =>
        if r37 ≤ 0 then
          p_bv (F_Mo_fresh v0 r18 v2 s33) fun s39 =>
          p_bd (F_Mo_built v0 x21 s39) fun r47 s43 =>
          some (r47, s43)
        else
          p_bd (F_Mo_refused v0 (-3) s33) fun r52 s48 =>
          some (r52, s48)
      else
        p_bd (F_Mo_faulted v0 2 s27) fun r57 s53 =>
        some (r57, s53)
    else
      p_bd (F_Mo_refused v0 (-2) s8) fun r62 s58 =>
      some (r62, s58)
  else
    p_bd (F_Mo_refused v0 (-1) s2) fun r67 s63 =>
    some (r67, s63)
set_option maxRecDepth 100000 in
set_option maxHeartbeats 4000000 in
theorem tF_Mo_refit (K : p_K) (l : Launch) (v0 : Nat) (v1 : Int) (v2 : Int) (s0 : p_Hp) (r : (Int × p_Hp)) (h : F_Mo_refit v0 v1 v2 s0 = some r) : p_Ct K l m_Mo_refit [p_r v0, p_i v1, p_i v2] s0 (some (p_i r.1), r.2) := by
  refine p_Ct.of (by decide +kernel) (Nat.le_of_ble_eq_true rfl) ?_
  unfold F_Mo_refit at h
  show p_Go K l m_Mo_refit 0 [(0, p_r v0), (1, p_i v1), (2, p_i v2)] [] s0 _
  refine g_aload_n (i := 0) (j := 0) (dk_Mo_refit 0 rfl) rfl rfl ?_
  refine g_iload_n (i := 1) (j := 1) (dk_Mo_refit 1 rfl) rfl rfl ?_
  obtain ⟨c1, h⟩ := p_gdE h
  obtain ⟨r6, s2, q3, h⟩ := p_bdE h
  have t4 := tF_Mo_noGear K l v0 v1 s0 _ q3
  refine g_callV (a := v0) (ci := 11) (q0 := (RX11, TX11, 90)) (As := [p_i v1]) (rest := []) [p_i r6] mt_Mo_noGear rfl rfl tw_7_85 ts_48 tw_7_83 ⟨Nat.le_of_ble_eq_true rfl, Nat.le_of_ble_eq_true rfl⟩ rfl (Nat.le_of_ble_eq_true rfl) (dk_Mo_refit 2 rfl) rfl c1 rfl t4 ?_
  have hs5 : p_x s0 s2 := t4.1
  show p_Go K l m_Mo_refit 5 [(0, p_r v0), (1, p_i v1), (2, p_i v2)] [p_i r6] s2 _
  refine g_if_eq 14 (dk_Mo_refit 3 rfl) (by decide) (fun b7 => ?_) (fun b7 => ?_)
  · have h := p_ifT b7 h
    refine g_iload_n (i := 2) (j := 2) (dk_Mo_refit 8 rfl) rfl rfl ?_
    refine g_i2l (dk_Mo_refit 9 rfl) ?_
    refine g_lconst (x := 0) (dk_Mo_refit 10 rfl) rfl (by decide) ?_
    refine g_ldc2_w (x := 10) (dk_Mo_refit 11 rfl) tw_7_56 (by decide) (by decide) ?_
    obtain ⟨r12, s8, q9, h⟩ := p_bdE h
    have t10 := tF_Mo_beyond K l v2 0 10 s2 _ q9
    refine g_callS (av := [p_j v2, p_j 0, p_j 10]) (rest := []) [p_i r12] mt_Mo_beyond tw_7_42 tw_7_41 ⟨Nat.le_of_ble_eq_true rfl, Nat.le_of_ble_eq_true rfl⟩ rfl (Nat.le_of_ble_eq_true rfl) (dk_Mo_refit 12 rfl) rfl rfl t10 ?_
    have hs11 : p_x s2 s8 := t10.1
    show p_Go K l m_Mo_refit 23 [(0, p_r v0), (1, p_i v1), (2, p_i v2)] [p_i r12] s8 _
    refine g_if_eq 33 (dk_Mo_refit 13 rfl) (by decide) (fun b13 => ?_) (fun b13 => ?_)
    · have h := p_ifT b13 h
      refine g_aload_n (i := 0) (j := 0) (dk_Mo_refit 18 rfl) rfl rfl ?_
      refine g_iload_n (i := 1) (j := 1) (dk_Mo_refit 19 rfl) rfl rfl ?_
      obtain ⟨r18, s14, q15, h⟩ := p_bdE h
      have t16 := tF_Mo_g K l v0 v1 s8 _ q15
      refine g_callV (a := v0) (ci := 11) (q0 := (RX11, TX11, 90)) (As := [p_i v1]) (rest := []) [p_i r18] mt_Mo_g rfl rfl tw_7_63 ts_45 tw_7_61 ⟨Nat.le_of_ble_eq_true rfl, Nat.le_of_ble_eq_true rfl⟩ rfl (Nat.le_of_ble_eq_true rfl) (dk_Mo_refit 20 rfl) rfl (c1.up (hs5.trans hs11)) rfl t16 ?_
      have hs17 : p_x s8 s14 := t16.1
      show p_Go K l m_Mo_refit 38 [(0, p_r v0), (1, p_i v1), (2, p_i v2)] [p_i r18] s14 _
      refine g_istore_n (i := 3) [(3, p_i r18), (0, p_r v0), (1, p_i v1), (2, p_i v2)] (dk_Mo_refit 21 rfl) rfl (by decide) rfl ?_
      refine g_aload_n (i := 0) (j := 1) (dk_Mo_refit 22 rfl) rfl rfl ?_
      refine g_getR fl_Mo_16 (Or.inr ⟨_, rfl⟩) (dk_Mo_refit 23 rfl) (c1.up (hs5.trans (hs11.trans hs17))) ?_
      refine g_iload_n (i := 3) (j := 0) (dk_Mo_refit 24 rfl) rfl rfl ?_
      obtain ⟨c19, h⟩ := p_gdE h
      obtain ⟨c20, h⟩ := p_gdE h
      refine g_iaload (dk_Mo_refit 25 rfl) c19 c20.1 c20.2 ?_
      refine g_istore [(4, p_i (p_Z s14 (p_R s14 v0 5) (r18 : Int).toNat)), (3, p_i r18), (0, p_r v0), (1, p_i v1), (2, p_i v2)] (dk_Mo_refit 26 rfl) (by decide) rfl ?_
      refine p_ltG (P := fun q => p_Go K l m_Mo_refit 47 [(4, p_i q), (3, p_i r18), (0, p_r v0), (1, p_i v1), (2, p_i v2)] [] s14 _) ?_ h
      intro x21 h
      refine g_iload (j := 0) (dk_Mo_refit 27 rfl) rfl ?_
      obtain ⟨r26, s22, q23, h⟩ := p_bdE h
      have t24 := tF_Mo_isTaker K l x21 s14 _ q23
      refine g_callS (av := [p_i x21]) (rest := []) [p_i r26] mt_Mo_isTaker tw_7_58 tw_7_57 ⟨Nat.le_of_ble_eq_true rfl, Nat.le_of_ble_eq_true rfl⟩ rfl (Nat.le_of_ble_eq_true rfl) (dk_Mo_refit 28 rfl) rfl rfl t24 ?_
      have hs25 : p_x s14 s22 := t24.1
      show p_Go K l m_Mo_refit 52 [(4, p_i x21), (3, p_i r18), (0, p_r v0), (1, p_i v1), (2, p_i v2)] [p_i r26] s22 _
      refine g_iload_n (i := 2) (j := 4) (dk_Mo_refit 29 rfl) rfl rfl ?_
      obtain ⟨r31, s27, q28, h⟩ := p_bdE h
      have t29 := tF_Mo_isTaker K l v2 s22 _ q28
      refine g_callS (av := [p_i v2]) (rest := [p_i r26]) [p_i r31, p_i r26] mt_Mo_isTaker tw_7_58 tw_7_57 ⟨Nat.le_of_ble_eq_true rfl, Nat.le_of_ble_eq_true rfl⟩ rfl (Nat.le_of_ble_eq_true rfl) (dk_Mo_refit 30 rfl) rfl rfl t29 ?_
      have hs30 : p_x s22 s27 := t29.1
      show p_Go K l m_Mo_refit 56 [(4, p_i x21), (3, p_i r18), (0, p_r v0), (1, p_i v1), (2, p_i v2)] [p_i r31, p_i r26] s27 _
      refine g_icmp_eq 65 (dk_Mo_refit 31 rfl) (by decide) (fun b32 => ?_) (fun b32 => ?_)
      · have h := p_ifT b32 h
        refine g_aload_n (i := 0) (j := 2) (dk_Mo_refit 36 rfl) rfl rfl ?_
        refine g_iload_n (i := 3) (j := 1) (dk_Mo_refit 37 rfl) rfl rfl ?_
        obtain ⟨r37, s33, q34, h⟩ := p_bdE h
        have t35 := tF_Mo_loadOf K l v0 r18 s27 _ q34
        refine g_callV (a := v0) (ci := 11) (q0 := (RX11, TX11, 90)) (As := [p_i r18]) (rest := []) [p_i r37] mt_Mo_loadOf rfl rfl tw_7_115 ts_50 tw_7_113 ⟨Nat.le_of_ble_eq_true rfl, Nat.le_of_ble_eq_true rfl⟩ rfl (Nat.le_of_ble_eq_true rfl) (dk_Mo_refit 38 rfl) rfl (c1.up (hs5.trans (hs11.trans (hs17.trans (hs25.trans hs30))))) rfl t35 ?_
        have hs36 : p_x s27 s33 := t35.1
        show p_Go K l m_Mo_refit 70 [(4, p_i x21), (3, p_i r18), (0, p_r v0), (1, p_i v1), (2, p_i v2)] [p_i r37] s33 _
        refine g_if_le 80 (dk_Mo_refit 39 rfl) (by decide) (fun b38 => ?_) (fun b38 => ?_)
        · have h := p_ifT b38 h
          refine g_aload_n (i := 0) (j := 2) (dk_Mo_refit 44 rfl) rfl rfl ?_
          refine g_iload_n (i := 3) (j := 1) (dk_Mo_refit 45 rfl) rfl rfl ?_
          refine g_iload_n (i := 2) (j := 4) (dk_Mo_refit 46 rfl) rfl rfl ?_
          obtain ⟨s39, q40, h⟩ := p_bvE h
          have t41 := tF_Mo_fresh K l v0 r18 v2 s33 _ q40
          refine g_callV (a := v0) (ci := 11) (q0 := (RX11, TX11, 90)) (As := [p_i r18, p_i v2]) (rest := []) [] mt_Mo_fresh rfl rfl tw_7_67 ts_46 tw_7_65 ⟨Nat.le_of_ble_eq_true rfl, Nat.le_of_ble_eq_true rfl⟩ rfl (Nat.le_of_ble_eq_true rfl) (dk_Mo_refit 47 rfl) rfl (c1.up (hs5.trans (hs11.trans (hs17.trans (hs25.trans (hs30.trans hs36)))))) rfl t41 ?_
          have hs42 : p_x s33 s39 := t41.1
          show p_Go K l m_Mo_refit 86 [(4, p_i x21), (3, p_i r18), (0, p_r v0), (1, p_i v1), (2, p_i v2)] [] s39 _
          refine g_aload_n (i := 0) (j := 2) (dk_Mo_refit 48 rfl) rfl rfl ?_
          refine g_iload (j := 0) (dk_Mo_refit 49 rfl) rfl ?_
          obtain ⟨r47, s43, q44, h⟩ := p_bdE h
          have t45 := tF_Mo_built K l v0 x21 s39 _ q44
          refine g_callV (a := v0) (ci := 11) (q0 := (RX11, TX11, 90)) (As := [p_i x21]) (rest := []) [p_i r47] mt_Mo_built rfl rfl tw_7_77 ts_47 tw_7_75 ⟨Nat.le_of_ble_eq_true rfl, Nat.le_of_ble_eq_true rfl⟩ rfl (Nat.le_of_ble_eq_true rfl) (dk_Mo_refit 50 rfl) rfl (c1.up (hs5.trans (hs11.trans (hs17.trans (hs25.trans (hs30.trans (hs36.trans hs42))))))) rfl t45 ?_
          have hs46 : p_x s39 s43 := t45.1
          show p_Go K l m_Mo_refit 92 [(4, p_i x21), (3, p_i r18), (0, p_r v0), (1, p_i v1), (2, p_i v2)] [p_i r47] s43 _
          cases h
          exact g_ret rfl rfl (dk_Mo_refit 51 rfl) (fun os => ⟨_, rfl, p_okh os⟩)
        · have h := p_ifF b38 h
          refine g_aload_n (i := 0) (j := 2) (dk_Mo_refit 40 rfl) rfl rfl ?_
          refine g_bipush (dk_Mo_refit 41 rfl) (by decide +kernel) (by decide) ?_
          obtain ⟨r52, s48, q49, h⟩ := p_bdE h
          have t50 := tF_Mo_refused K l v0 (-3) s33 _ q49
          refine g_callV (a := v0) (ci := 11) (q0 := (RX11, TX11, 90)) (As := [p_i (-3)]) (rest := []) [p_i r52] mt_Mo_refused rfl rfl tw_7_46 ts_43 tw_7_44 ⟨Nat.le_of_ble_eq_true rfl, Nat.le_of_ble_eq_true rfl⟩ rfl (Nat.le_of_ble_eq_true rfl) (dk_Mo_refit 42 rfl) rfl (c1.up (hs5.trans (hs11.trans (hs17.trans (hs25.trans (hs30.trans hs36)))))) rfl t50 ?_
          have hs51 : p_x s33 s48 := t50.1
          show p_Go K l m_Mo_refit 79 [(4, p_i x21), (3, p_i r18), (0, p_r v0), (1, p_i v1), (2, p_i v2)] [p_i r52] s48 _
          cases h
          exact g_ret rfl rfl (dk_Mo_refit 43 rfl) (fun os => ⟨_, rfl, p_okh os⟩)
      · have h := p_ifF b32 h
        refine g_aload_n (i := 0) (j := 2) (dk_Mo_refit 32 rfl) rfl rfl ?_
        refine g_iconst (dk_Mo_refit 33 rfl) (by decide) ?_
        obtain ⟨r57, s53, q54, h⟩ := p_bdE h
        have t55 := tF_Mo_faulted K l v0 2 s27 _ q54
        refine g_callV (a := v0) (ci := 11) (q0 := (RX11, TX11, 90)) (As := [p_i 2]) (rest := []) [p_i r57] mt_Mo_faulted rfl rfl tw_7_89 ts_49 tw_7_87 ⟨Nat.le_of_ble_eq_true rfl, Nat.le_of_ble_eq_true rfl⟩ rfl (Nat.le_of_ble_eq_true rfl) (dk_Mo_refit 34 rfl) rfl (c1.up (hs5.trans (hs11.trans (hs17.trans (hs25.trans hs30))))) rfl t55 ?_
        have hs56 : p_x s27 s53 := t55.1
        show p_Go K l m_Mo_refit 64 [(4, p_i x21), (3, p_i r18), (0, p_r v0), (1, p_i v1), (2, p_i v2)] [p_i r57] s53 _
        cases h
        exact g_ret rfl rfl (dk_Mo_refit 35 rfl) (fun os => ⟨_, rfl, p_okh os⟩)
    · have h := p_ifF b13 h
      refine g_aload_n (i := 0) (j := 0) (dk_Mo_refit 14 rfl) rfl rfl ?_
      refine g_bipush (dk_Mo_refit 15 rfl) (by decide +kernel) (by decide) ?_
      obtain ⟨r62, s58, q59, h⟩ := p_bdE h
      have t60 := tF_Mo_refused K l v0 (-2) s8 _ q59
      refine g_callV (a := v0) (ci := 11) (q0 := (RX11, TX11, 90)) (As := [p_i (-2)]) (rest := []) [p_i r62] mt_Mo_refused rfl rfl tw_7_46 ts_43 tw_7_44 ⟨Nat.le_of_ble_eq_true rfl, Nat.le_of_ble_eq_true rfl⟩ rfl (Nat.le_of_ble_eq_true rfl) (dk_Mo_refit 16 rfl) rfl (c1.up (hs5.trans hs11)) rfl t60 ?_
      have hs61 : p_x s8 s58 := t60.1
      show p_Go K l m_Mo_refit 32 [(0, p_r v0), (1, p_i v1), (2, p_i v2)] [p_i r62] s58 _
      cases h
      exact g_ret rfl rfl (dk_Mo_refit 17 rfl) (fun os => ⟨_, rfl, p_okh os⟩)
  · have h := p_ifF b7 h
    refine g_aload_n (i := 0) (j := 0) (dk_Mo_refit 4 rfl) rfl rfl ?_
    refine g_iconst (dk_Mo_refit 5 rfl) (by decide) ?_
    obtain ⟨r67, s63, q64, h⟩ := p_bdE h
    have t65 := tF_Mo_refused K l v0 (-1) s2 _ q64
    refine g_callV (a := v0) (ci := 11) (q0 := (RX11, TX11, 90)) (As := [p_i (-1)]) (rest := []) [p_i r67] mt_Mo_refused rfl rfl tw_7_46 ts_43 tw_7_44 ⟨Nat.le_of_ble_eq_true rfl, Nat.le_of_ble_eq_true rfl⟩ rfl (Nat.le_of_ble_eq_true rfl) (dk_Mo_refit 6 rfl) rfl (c1.up hs5) rfl t65 ?_
    have hs66 : p_x s2 s63 := t65.1
    show p_Go K l m_Mo_refit 13 [(0, p_r v0), (1, p_i v1), (2, p_i v2)] [p_i r67] s63 _
    cases h
    exact g_ret rfl rfl (dk_Mo_refit 7 rfl) (fun os => ⟨_, rfl, p_okh os⟩)
def m_Mo_copyGear : p_Me := (⟨"SortWorksModel", "copyGear", "(II)V"⟩, prog_13_method_25_code, 4, none, 3, 62)
theorem mt_Mo_copyGear : p_Mt m_Mo_copyGear 2 := ⟨p_mem (p_tb7 (List.mem_of_getElem? (i := 124) rfl)) rfl, tw_1_12, by decide +kernel, by decide +kernel, by decide +kernel⟩
def dt_Mo_copyGear : List (Nat × Instr × Nat) := [(0, .aload_n 0, 1), (1, .iload_n 2, 1), (2, .aload_n 0, 1), (3, .getfield 16, 3), (6, .iload_n 1, 1), (7, .iaload, 1), (8, .invokevirtual 260, 3), (11, .aload_n 0, 1), (12, .getfield 19, 3), (15, .iload_n 2, 1), (16, .aload_n 0, 1), (17, .getfield 19, 3), (20, .iload_n 1, 1), (21, .iaload, 1), (22, .iastore, 1), (23, .aload_n 0, 1), (24, .getfield 22, 3), (27, .iload_n 2, 1), (28, .aload_n 0, 1), (29, .getfield 22, 3), (32, .iload_n 1, 1), (33, .iaload, 1), (34, .iastore, 1), (35, .aload_n 0, 1), (36, .getfield 28, 3), (39, .iload_n 2, 1), (40, .aload_n 0, 1), (41, .getfield 28, 3), (44, .iload_n 1, 1), (45, .iaload, 1), (46, .iastore, 1), (47, .aload_n 0, 1), (48, .getfield 44, 3), (51, .iload_n 2, 1), (52, .aload_n 0, 1), (53, .getfield 44, 3), (56, .iload_n 1, 1), (57, .baload, 1), (58, .bastore, 1), (59, .iconst 0, 1), (60, .istore_n 3, 1), (61, .iload_n 3, 1), (62, .iconst 3, 1), (63, .if_icmp .ge 29, 3), (66, .aload_n 0, 1), (67, .getfield 25, 3), (70, .iconst 3, 1), (71, .iload_n 2, 1), (72, .imul, 1), (73, .iload_n 3, 1), (74, .iadd, 1), (75, .aload_n 0, 1), (76, .getfield 25, 3), (79, .iconst 3, 1), (80, .iload_n 1, 1), (81, .imul, 1), (82, .iload_n 3, 1), (83, .iadd, 1), (84, .iaload, 1), (85, .iastore, 1), (86, .iinc 3 1, 3), (89, .goto (-28), 3), (92, .iconst 0, 1), (93, .istore_n 3, 1), (94, .iload_n 3, 1), (95, .iconst 2, 1), (96, .if_icmp .ge 29, 3), (99, .aload_n 0, 1), (100, .getfield 34, 3), (103, .iconst 2, 1), (104, .iload_n 2, 1), (105, .imul, 1), (106, .iload_n 3, 1), (107, .iadd, 1), (108, .aload_n 0, 1), (109, .getfield 34, 3), (112, .iconst 2, 1), (113, .iload_n 1, 1), (114, .imul, 1), (115, .iload_n 3, 1), (116, .iadd, 1), (117, .laload, 1), (118, .lastore, 1), (119, .iinc 3 1, 3), (122, .goto (-28), 3), (125, .iconst 0, 1), (126, .istore_n 3, 1), (127, .iload_n 3, 1), (128, .bipush 8, 2), (130, .if_icmp .ge 21, 3), (133, .aload_n 0, 1), (134, .getfield 69, 3), (137, .bipush 8, 2), (139, .iload_n 2, 1), (140, .imul, 1), (141, .iload_n 3, 1), (142, .iadd, 1), (143, .iconst 0, 1), (144, .iastore, 1), (145, .iinc 3 1, 3), (148, .goto (-21), 3), (151, .return_, 1)]
theorem dk_Mo_copyGear (i : Nat) {pc : Nat} {ins : Instr} {len : Nat} (h : dt_Mo_copyGear[i]? = some (pc, ins, len)) : decode m_Mo_copyGear.2.1 pc = .ok (ins, len) := p_dk (b := m_Mo_copyGear.2.1) (t := dt_Mo_copyGear) (by decide +kernel) i h
def L_Mo_copyGear_127 (k127 : Nat → Int → Int → p_Hp → Option p_Hp) (v0 : Nat) (v2 : Int) (v3 : Int) (s0 : p_Hp) : Option p_Hp :=
  if 8 ≤ v3 then
    some s0
  else
    p_gd (p_is s0 v0 11) <|
    p_gd (p_is s0 (p_R s0 v0 22) 100) <|
    p_gd ((0 : Int) ≤ (p_w ((p_w (8 * v2)) + v3)) ∧ (p_w ((p_w (8 * v2)) + v3)) < (p_L s0 (p_R s0 v0 22) : Int)) <|
    p_bi (p_wZ s0 (p_R s0 v0 22) ((p_w ((p_w (8 * v2)) + v3)) : Int).toNat 0) fun s5 =>
    p_bi (p_w (v3 + 1)) fun x7 =>
    k127 v0 v2 x7 s5
def O_Mo_copyGear_127  : Nat → Nat → Int → Int → p_Hp → Option p_Hp
  | 0 => fun _ _ _ _ => none
  | n + 1 => L_Mo_copyGear_127 (O_Mo_copyGear_127 n)
def L_Mo_copyGear_94 (k94 : Nat → Int → Int → Int → p_Hp → Option p_Hp) (v0 : Nat) (v1 : Int) (v2 : Int) (v3 : Int) (s0 : p_Hp) : Option p_Hp :=
  if 2 ≤ v3 then
    O_Mo_copyGear_127 3000 v0 v2 0 s0
  else
    p_gd (p_is s0 v0 11) <|
    p_gd (p_is s0 (p_R s0 v0 11) 101) <|
    p_gd ((0 : Int) ≤ (p_w ((p_w (2 * v1)) + v3)) ∧ (p_w ((p_w (2 * v1)) + v3)) < (p_L s0 (p_R s0 v0 11) : Int)) <|
    p_gd ((0 : Int) ≤ (p_w ((p_w (2 * v2)) + v3)) ∧ (p_w ((p_w (2 * v2)) + v3)) < (p_L s0 (p_R s0 v0 11) : Int)) <|
    p_bi (p_wZ s0 (p_R s0 v0 11) ((p_w ((p_w (2 * v2)) + v3)) : Int).toNat (p_Z s0 (p_R s0 v0 11) ((p_w ((p_w (2 * v1)) + v3)) : Int).toNat)) fun s6 =>
    p_bi (p_w (v3 + 1)) fun x8 =>
    k94 v0 v1 v2 x8 s6
def O_Mo_copyGear_94  : Nat → Nat → Int → Int → Int → p_Hp → Option p_Hp
  | 0 => fun _ _ _ _ _ => none
  | n + 1 => L_Mo_copyGear_94 (O_Mo_copyGear_94 n)
def L_Mo_copyGear_61 (k61 : Nat → Int → Int → Int → p_Hp → Option p_Hp) (v0 : Nat) (v1 : Int) (v2 : Int) (v3 : Int) (s0 : p_Hp) : Option p_Hp :=
  if 3 ≤ v3 then
    O_Mo_copyGear_94 3000 v0 v1 v2 0 s0
  else
    p_gd (p_is s0 v0 11) <|
    p_gd (p_is s0 (p_R s0 v0 8) 100) <|
    p_gd ((0 : Int) ≤ (p_w ((p_w (3 * v1)) + v3)) ∧ (p_w ((p_w (3 * v1)) + v3)) < (p_L s0 (p_R s0 v0 8) : Int)) <|
    p_gd ((0 : Int) ≤ (p_w ((p_w (3 * v2)) + v3)) ∧ (p_w ((p_w (3 * v2)) + v3)) < (p_L s0 (p_R s0 v0 8) : Int)) <|
    p_bi (p_wZ s0 (p_R s0 v0 8) ((p_w ((p_w (3 * v2)) + v3)) : Int).toNat (p_Z s0 (p_R s0 v0 8) ((p_w ((p_w (3 * v1)) + v3)) : Int).toNat)) fun s6 =>
    p_bi (p_w (v3 + 1)) fun x8 =>
    k61 v0 v1 v2 x8 s6
def O_Mo_copyGear_61  : Nat → Nat → Int → Int → Int → p_Hp → Option p_Hp
  | 0 => fun _ _ _ _ _ => none
  | n + 1 => L_Mo_copyGear_61 (O_Mo_copyGear_61 n)
def F_Mo_copyGear (v0 : Nat) (v1 : Int) (v2 : Int) (s0 : p_Hp) : Option p_Hp :=
  p_gd (p_is s0 v0 11) <|
  p_gd (p_is s0 (p_R s0 v0 5) 100) <|
  p_gd ((0 : Int) ≤ v1 ∧ v1 < (p_L s0 (p_R s0 v0 5) : Int)) <|
  p_bv (F_Mo_fresh v0 v2 (p_Z s0 (p_R s0 v0 5) (v1 : Int).toNat) s0) fun s4 =>
  p_gd (p_is s4 (p_R s4 v0 6) 100) <|
  p_gd ((0 : Int) ≤ v1 ∧ v1 < (p_L s4 (p_R s4 v0 6) : Int)) <|
  p_gd ((0 : Int) ≤ v2 ∧ v2 < (p_L s4 (p_R s4 v0 6) : Int)) <|
  p_bi (p_wZ s4 (p_R s4 v0 6) (v2 : Int).toNat (p_Z s4 (p_R s4 v0 6) (v1 : Int).toNat)) fun s11 =>
  p_gd (p_is s11 (p_R s11 v0 7) 100) <|
  p_gd ((0 : Int) ≤ v1 ∧ v1 < (p_L s11 (p_R s11 v0 7) : Int)) <|
  p_gd ((0 : Int) ≤ v2 ∧ v2 < (p_L s11 (p_R s11 v0 7) : Int)) <|
  p_bi (p_wZ s11 (p_R s11 v0 7) (v2 : Int).toNat (p_Z s11 (p_R s11 v0 7) (v1 : Int).toNat)) fun s16 =>
  p_gd (p_is s16 (p_R s16 v0 9) 100) <|
  p_gd ((0 : Int) ≤ v1 ∧ v1 < (p_L s16 (p_R s16 v0 9) : Int)) <|
  p_gd ((0 : Int) ≤ v2 ∧ v2 < (p_L s16 (p_R s16 v0 9) : Int)) <|
  p_bi (p_wZ s16 (p_R s16 v0 9) (v2 : Int).toNat (p_Z s16 (p_R s16 v0 9) (v1 : Int).toNat)) fun s21 =>
  p_gd (p_is s21 (p_R s21 v0 14) 102) <|
  p_gd ((0 : Int) ≤ v1 ∧ v1 < (p_L s21 (p_R s21 v0 14) : Int)) <|
  p_gd ((0 : Int) ≤ v2 ∧ v2 < (p_L s21 (p_R s21 v0 14) : Int)) <|
  p_gd ((p_Z s21 (p_R s21 v0 14) (v1 : Int).toNat) = 0 ∨ (p_Z s21 (p_R s21 v0 14) (v1 : Int).toNat) = 1) <|
  p_bi (p_wZ s21 (p_R s21 v0 14) (v2 : Int).toNat (p_Z s21 (p_R s21 v0 14) (v1 : Int).toNat)) fun s27 =>
  O_Mo_copyGear_61 3000 v0 v1 v2 0 s27
set_option maxRecDepth 100000 in
set_option maxHeartbeats 4000000 in
theorem tL_Mo_copyGear_127 (K : p_K) (l : Launch) (k127 : Nat → Int → Int → p_Hp → Option p_Hp) (hk127 : ∀ (v0 : Nat) (v2 : Int) (v3 : Int)  (s0 : p_Hp) (r : p_Hp), k127 v0 v2 v3 s0 = some r → p_Go K l m_Mo_copyGear 127 [(0, p_r v0), (2, p_i v2), (3, p_i v3)] [] s0 (none, r)) (v0 : Nat) (v2 : Int) (v3 : Int) (s0 : p_Hp) (r : p_Hp) (h : L_Mo_copyGear_127 k127 v0 v2 v3 s0 = some r) : p_Go K l m_Mo_copyGear 127 [(0, p_r v0), (2, p_i v2), (3, p_i v3)] [] s0 (none, r) := by
  unfold L_Mo_copyGear_127 at h
  refine g_iload_n (i := 3) (j := 2) (dk_Mo_copyGear 87 rfl) rfl rfl ?_
  refine g_bipush (dk_Mo_copyGear 88 rfl) (by decide +kernel) (by decide) ?_
  refine g_icmp_ge 151 (dk_Mo_copyGear 89 rfl) (by decide) (fun b1 => ?_) (fun b1 => ?_)
  · have h := p_ifT b1 h
    cases h
    exact g_ret rfl rfl (dk_Mo_copyGear 101 rfl) (fun _ => rfl)
  · have h := p_ifF b1 h
    refine g_aload_n (i := 0) (j := 0) (dk_Mo_copyGear 90 rfl) rfl rfl ?_
    obtain ⟨c2, h⟩ := p_gdE h
    refine g_getR fl_Mo_69 (Or.inr ⟨_, rfl⟩) (dk_Mo_copyGear 91 rfl) c2 ?_
    refine g_bipush (dk_Mo_copyGear 92 rfl) (by decide +kernel) (by decide) ?_
    refine g_iload_n (i := 2) (j := 1) (dk_Mo_copyGear 93 rfl) rfl rfl ?_
    refine g_imul (dk_Mo_copyGear 94 rfl) ?_
    refine g_iload_n (i := 3) (j := 2) (dk_Mo_copyGear 95 rfl) rfl rfl ?_
    refine g_iadd (dk_Mo_copyGear 96 rfl) ?_
    refine g_iconst (dk_Mo_copyGear 97 rfl) (by decide) ?_
    obtain ⟨c3, h⟩ := p_gdE h
    obtain ⟨c4, h⟩ := p_gdE h
    refine g_iastore (dk_Mo_copyGear 98 rfl) c3 c4.1 c4.2 ?_
    refine p_ltS (P := fun q => p_Go K l m_Mo_copyGear 145 [(0, p_r v0), (2, p_i v2), (3, p_i v3)] [] q _) (p_xZ _ _ _ _) ?_ h
    intro s5 hs6 h
    refine g_iinc (j := 2) [(3, p_i (p_w (v3 + 1))), (0, p_r v0), (2, p_i v2)] (dk_Mo_copyGear 99 rfl) rfl (by decide) rfl ?_
    refine p_ltG (P := fun q => p_Go K l m_Mo_copyGear 148 [(3, p_i q), (0, p_r v0), (2, p_i v2)] [] s5 _) ?_ h
    intro x7 h
    refine g_goto 127 (dk_Mo_copyGear 100 rfl) (by decide) ?_
    refine g_sub [(0, p_r v0), (2, p_i v2), (3, p_i x7)] [1, 2, 0] rfl ?_
    exact hk127 v0 v2 x7 s5 _ h
set_option maxRecDepth 100000 in
set_option maxHeartbeats 4000000 in
theorem tO_Mo_copyGear_127 (K : p_K) (l : Launch)  : ∀ (n : Nat) (v0 : Nat) (v2 : Int) (v3 : Int) (s0 : p_Hp) (r : p_Hp), O_Mo_copyGear_127 n v0 v2 v3 s0 = some r → p_Go K l m_Mo_copyGear 127 [(0, p_r v0), (2, p_i v2), (3, p_i v3)] [] s0 (none, r) := by
  intro n
  induction n with
  | zero => intro v0 v2 v3 s0 r h; cases (show (none : Option p_Hp) = some r from h)
  | succ n ih => intro v0 v2 v3 s0 r h; exact tL_Mo_copyGear_127 K l _ ih v0 v2 v3 s0 r h
set_option maxRecDepth 100000 in
set_option maxHeartbeats 4000000 in
theorem tL_Mo_copyGear_94 (K : p_K) (l : Launch) (k94 : Nat → Int → Int → Int → p_Hp → Option p_Hp) (hk94 : ∀ (v0 : Nat) (v1 : Int) (v2 : Int) (v3 : Int)  (s0 : p_Hp) (r : p_Hp), k94 v0 v1 v2 v3 s0 = some r → p_Go K l m_Mo_copyGear 94 [(0, p_r v0), (1, p_i v1), (2, p_i v2), (3, p_i v3)] [] s0 (none, r)) (v0 : Nat) (v1 : Int) (v2 : Int) (v3 : Int) (s0 : p_Hp) (r : p_Hp) (h : L_Mo_copyGear_94 k94 v0 v1 v2 v3 s0 = some r) : p_Go K l m_Mo_copyGear 94 [(0, p_r v0), (1, p_i v1), (2, p_i v2), (3, p_i v3)] [] s0 (none, r) := by
  unfold L_Mo_copyGear_94 at h
  refine g_iload_n (i := 3) (j := 3) (dk_Mo_copyGear 64 rfl) rfl rfl ?_
  refine g_iconst (dk_Mo_copyGear 65 rfl) (by decide) ?_
  refine g_icmp_ge 125 (dk_Mo_copyGear 66 rfl) (by decide) (fun b1 => ?_) (fun b1 => ?_)
  · have h := p_ifT b1 h
    refine g_iconst (dk_Mo_copyGear 85 rfl) (by decide) ?_
    refine g_istore_n (i := 3) [(3, p_i 0), (0, p_r v0), (1, p_i v1), (2, p_i v2)] (dk_Mo_copyGear 86 rfl) rfl (by decide) rfl ?_
    refine g_sub [(0, p_r v0), (2, p_i v2), (3, p_i 0)] [1, 3, 0] rfl ?_
    exact tO_Mo_copyGear_127 K l 3000 v0 v2 0 s0 _ h
  · have h := p_ifF b1 h
    refine g_aload_n (i := 0) (j := 0) (dk_Mo_copyGear 67 rfl) rfl rfl ?_
    obtain ⟨c2, h⟩ := p_gdE h
    refine g_getR fl_Mo_34 (Or.inr ⟨_, rfl⟩) (dk_Mo_copyGear 68 rfl) c2 ?_
    refine g_iconst (dk_Mo_copyGear 69 rfl) (by decide) ?_
    refine g_iload_n (i := 2) (j := 2) (dk_Mo_copyGear 70 rfl) rfl rfl ?_
    refine g_imul (dk_Mo_copyGear 71 rfl) ?_
    refine g_iload_n (i := 3) (j := 3) (dk_Mo_copyGear 72 rfl) rfl rfl ?_
    refine g_iadd (dk_Mo_copyGear 73 rfl) ?_
    refine g_aload_n (i := 0) (j := 0) (dk_Mo_copyGear 74 rfl) rfl rfl ?_
    refine g_getR fl_Mo_34 (Or.inr ⟨_, rfl⟩) (dk_Mo_copyGear 75 rfl) c2 ?_
    refine g_iconst (dk_Mo_copyGear 76 rfl) (by decide) ?_
    refine g_iload_n (i := 1) (j := 1) (dk_Mo_copyGear 77 rfl) rfl rfl ?_
    refine g_imul (dk_Mo_copyGear 78 rfl) ?_
    refine g_iload_n (i := 3) (j := 3) (dk_Mo_copyGear 79 rfl) rfl rfl ?_
    refine g_iadd (dk_Mo_copyGear 80 rfl) ?_
    obtain ⟨c3, h⟩ := p_gdE h
    obtain ⟨c4, h⟩ := p_gdE h
    refine g_laload (dk_Mo_copyGear 81 rfl) c3 c4.1 c4.2 ?_
    obtain ⟨c5, h⟩ := p_gdE h
    refine g_lastore (dk_Mo_copyGear 82 rfl) c3 c5.1 c5.2 ?_
    refine p_ltS (P := fun q => p_Go K l m_Mo_copyGear 119 [(0, p_r v0), (1, p_i v1), (2, p_i v2), (3, p_i v3)] [] q _) (p_xZ _ _ _ _) ?_ h
    intro s6 hs7 h
    refine g_iinc (j := 3) [(3, p_i (p_w (v3 + 1))), (0, p_r v0), (1, p_i v1), (2, p_i v2)] (dk_Mo_copyGear 83 rfl) rfl (by decide) rfl ?_
    refine p_ltG (P := fun q => p_Go K l m_Mo_copyGear 122 [(3, p_i q), (0, p_r v0), (1, p_i v1), (2, p_i v2)] [] s6 _) ?_ h
    intro x8 h
    refine g_goto 94 (dk_Mo_copyGear 84 rfl) (by decide) ?_
    refine g_sub [(0, p_r v0), (1, p_i v1), (2, p_i v2), (3, p_i x8)] [1, 2, 3, 0] rfl ?_
    exact hk94 v0 v1 v2 x8 s6 _ h
set_option maxRecDepth 100000 in
set_option maxHeartbeats 4000000 in
theorem tO_Mo_copyGear_94 (K : p_K) (l : Launch)  : ∀ (n : Nat) (v0 : Nat) (v1 : Int) (v2 : Int) (v3 : Int) (s0 : p_Hp) (r : p_Hp), O_Mo_copyGear_94 n v0 v1 v2 v3 s0 = some r → p_Go K l m_Mo_copyGear 94 [(0, p_r v0), (1, p_i v1), (2, p_i v2), (3, p_i v3)] [] s0 (none, r) := by
  intro n
  induction n with
  | zero => intro v0 v1 v2 v3 s0 r h; cases (show (none : Option p_Hp) = some r from h)
  | succ n ih => intro v0 v1 v2 v3 s0 r h; exact tL_Mo_copyGear_94 K l _ ih v0 v1 v2 v3 s0 r h
set_option maxRecDepth 100000 in
set_option maxHeartbeats 4000000 in
theorem tL_Mo_copyGear_61 (K : p_K) (l : Launch) (k61 : Nat → Int → Int → Int → p_Hp → Option p_Hp) (hk61 : ∀ (v0 : Nat) (v1 : Int) (v2 : Int) (v3 : Int)  (s0 : p_Hp) (r : p_Hp), k61 v0 v1 v2 v3 s0 = some r → p_Go K l m_Mo_copyGear 61 [(0, p_r v0), (1, p_i v1), (2, p_i v2), (3, p_i v3)] [] s0 (none, r)) (v0 : Nat) (v1 : Int) (v2 : Int) (v3 : Int) (s0 : p_Hp) (r : p_Hp) (h : L_Mo_copyGear_61 k61 v0 v1 v2 v3 s0 = some r) : p_Go K l m_Mo_copyGear 61 [(0, p_r v0), (1, p_i v1), (2, p_i v2), (3, p_i v3)] [] s0 (none, r) := by
  unfold L_Mo_copyGear_61 at h
  refine g_iload_n (i := 3) (j := 3) (dk_Mo_copyGear 41 rfl) rfl rfl ?_
  refine g_iconst (dk_Mo_copyGear 42 rfl) (by decide) ?_
  refine g_icmp_ge 92 (dk_Mo_copyGear 43 rfl) (by decide) (fun b1 => ?_) (fun b1 => ?_)
  · have h := p_ifT b1 h
    refine g_iconst (dk_Mo_copyGear 62 rfl) (by decide) ?_
    refine g_istore_n (i := 3) [(3, p_i 0), (0, p_r v0), (1, p_i v1), (2, p_i v2)] (dk_Mo_copyGear 63 rfl) rfl (by decide) rfl ?_
    refine g_sub [(0, p_r v0), (1, p_i v1), (2, p_i v2), (3, p_i 0)] [1, 2, 3, 0] rfl ?_
    exact tO_Mo_copyGear_94 K l 3000 v0 v1 v2 0 s0 _ h
  · have h := p_ifF b1 h
    refine g_aload_n (i := 0) (j := 0) (dk_Mo_copyGear 44 rfl) rfl rfl ?_
    obtain ⟨c2, h⟩ := p_gdE h
    refine g_getR fl_Mo_25 (Or.inr ⟨_, rfl⟩) (dk_Mo_copyGear 45 rfl) c2 ?_
    refine g_iconst (dk_Mo_copyGear 46 rfl) (by decide) ?_
    refine g_iload_n (i := 2) (j := 2) (dk_Mo_copyGear 47 rfl) rfl rfl ?_
    refine g_imul (dk_Mo_copyGear 48 rfl) ?_
    refine g_iload_n (i := 3) (j := 3) (dk_Mo_copyGear 49 rfl) rfl rfl ?_
    refine g_iadd (dk_Mo_copyGear 50 rfl) ?_
    refine g_aload_n (i := 0) (j := 0) (dk_Mo_copyGear 51 rfl) rfl rfl ?_
    refine g_getR fl_Mo_25 (Or.inr ⟨_, rfl⟩) (dk_Mo_copyGear 52 rfl) c2 ?_
    refine g_iconst (dk_Mo_copyGear 53 rfl) (by decide) ?_
    refine g_iload_n (i := 1) (j := 1) (dk_Mo_copyGear 54 rfl) rfl rfl ?_
    refine g_imul (dk_Mo_copyGear 55 rfl) ?_
    refine g_iload_n (i := 3) (j := 3) (dk_Mo_copyGear 56 rfl) rfl rfl ?_
    refine g_iadd (dk_Mo_copyGear 57 rfl) ?_
    obtain ⟨c3, h⟩ := p_gdE h
    obtain ⟨c4, h⟩ := p_gdE h
    refine g_iaload (dk_Mo_copyGear 58 rfl) c3 c4.1 c4.2 ?_
    obtain ⟨c5, h⟩ := p_gdE h
    refine g_iastore (dk_Mo_copyGear 59 rfl) c3 c5.1 c5.2 ?_
    refine p_ltS (P := fun q => p_Go K l m_Mo_copyGear 86 [(0, p_r v0), (1, p_i v1), (2, p_i v2), (3, p_i v3)] [] q _) (p_xZ _ _ _ _) ?_ h
    intro s6 hs7 h
    refine g_iinc (j := 3) [(3, p_i (p_w (v3 + 1))), (0, p_r v0), (1, p_i v1), (2, p_i v2)] (dk_Mo_copyGear 60 rfl) rfl (by decide) rfl ?_
    refine p_ltG (P := fun q => p_Go K l m_Mo_copyGear 89 [(3, p_i q), (0, p_r v0), (1, p_i v1), (2, p_i v2)] [] s6 _) ?_ h
    intro x8 h
    refine g_goto 61 (dk_Mo_copyGear 61 rfl) (by decide) ?_
    refine g_sub [(0, p_r v0), (1, p_i v1), (2, p_i v2), (3, p_i x8)] [1, 2, 3, 0] rfl ?_
    exact hk61 v0 v1 v2 x8 s6 _ h
set_option maxRecDepth 100000 in
set_option maxHeartbeats 4000000 in
theorem tO_Mo_copyGear_61 (K : p_K) (l : Launch)  : ∀ (n : Nat) (v0 : Nat) (v1 : Int) (v2 : Int) (v3 : Int) (s0 : p_Hp) (r : p_Hp), O_Mo_copyGear_61 n v0 v1 v2 v3 s0 = some r → p_Go K l m_Mo_copyGear 61 [(0, p_r v0), (1, p_i v1), (2, p_i v2), (3, p_i v3)] [] s0 (none, r) := by
  intro n
  induction n with
  | zero => intro v0 v1 v2 v3 s0 r h; cases (show (none : Option p_Hp) = some r from h)
  | succ n ih => intro v0 v1 v2 v3 s0 r h; exact tL_Mo_copyGear_61 K l _ ih v0 v1 v2 v3 s0 r h
set_option maxRecDepth 100000 in
set_option maxHeartbeats 4000000 in
theorem tF_Mo_copyGear (K : p_K) (l : Launch) (v0 : Nat) (v1 : Int) (v2 : Int) (s0 : p_Hp) (r : p_Hp) (h : F_Mo_copyGear v0 v1 v2 s0 = some r) : p_Ct K l m_Mo_copyGear [p_r v0, p_i v1, p_i v2] s0 (none, r) := by
  refine p_Ct.of (by decide +kernel) (Nat.le_of_ble_eq_true rfl) ?_
  unfold F_Mo_copyGear at h
  show p_Go K l m_Mo_copyGear 0 [(0, p_r v0), (1, p_i v1), (2, p_i v2)] [] s0 _
  refine g_aload_n (i := 0) (j := 0) (dk_Mo_copyGear 0 rfl) rfl rfl ?_
  refine g_iload_n (i := 2) (j := 2) (dk_Mo_copyGear 1 rfl) rfl rfl ?_
  refine g_aload_n (i := 0) (j := 0) (dk_Mo_copyGear 2 rfl) rfl rfl ?_
  obtain ⟨c1, h⟩ := p_gdE h
  refine g_getR fl_Mo_16 (Or.inr ⟨_, rfl⟩) (dk_Mo_copyGear 3 rfl) c1 ?_
  refine g_iload_n (i := 1) (j := 1) (dk_Mo_copyGear 4 rfl) rfl rfl ?_
  obtain ⟨c2, h⟩ := p_gdE h
  obtain ⟨c3, h⟩ := p_gdE h
  refine g_iaload (dk_Mo_copyGear 5 rfl) c2 c3.1 c3.2 ?_
  obtain ⟨s4, q5, h⟩ := p_bvE h
  have t6 := tF_Mo_fresh K l v0 v2 (p_Z s0 (p_R s0 v0 5) (v1 : Int).toNat) s0 _ q5
  refine g_callV (a := v0) (ci := 11) (q0 := (RX11, TX11, 90)) (As := [p_i v2, p_i (p_Z s0 (p_R s0 v0 5) (v1 : Int).toNat)]) (rest := []) [] mt_Mo_fresh rfl rfl tw_7_67 ts_46 tw_7_65 ⟨Nat.le_of_ble_eq_true rfl, Nat.le_of_ble_eq_true rfl⟩ rfl (Nat.le_of_ble_eq_true rfl) (dk_Mo_copyGear 6 rfl) rfl c1 rfl t6 ?_
  have hs7 : p_x s0 s4 := t6.1
  show p_Go K l m_Mo_copyGear 11 [(0, p_r v0), (1, p_i v1), (2, p_i v2)] [] s4 _
  refine g_aload_n (i := 0) (j := 0) (dk_Mo_copyGear 7 rfl) rfl rfl ?_
  refine g_getR fl_Mo_19 (Or.inr ⟨_, rfl⟩) (dk_Mo_copyGear 8 rfl) (c1.up hs7) ?_
  refine g_iload_n (i := 2) (j := 2) (dk_Mo_copyGear 9 rfl) rfl rfl ?_
  refine g_aload_n (i := 0) (j := 0) (dk_Mo_copyGear 10 rfl) rfl rfl ?_
  refine g_getR fl_Mo_19 (Or.inr ⟨_, rfl⟩) (dk_Mo_copyGear 11 rfl) (c1.up hs7) ?_
  refine g_iload_n (i := 1) (j := 1) (dk_Mo_copyGear 12 rfl) rfl rfl ?_
  obtain ⟨c8, h⟩ := p_gdE h
  obtain ⟨c9, h⟩ := p_gdE h
  refine g_iaload (dk_Mo_copyGear 13 rfl) c8 c9.1 c9.2 ?_
  obtain ⟨c10, h⟩ := p_gdE h
  refine g_iastore (dk_Mo_copyGear 14 rfl) c8 c10.1 c10.2 ?_
  refine p_ltS (P := fun q => p_Go K l m_Mo_copyGear 23 [(0, p_r v0), (1, p_i v1), (2, p_i v2)] [] q _) (p_xZ _ _ _ _) ?_ h
  intro s11 hs12 h
  refine g_aload_n (i := 0) (j := 0) (dk_Mo_copyGear 15 rfl) rfl rfl ?_
  refine g_getR fl_Mo_22 (Or.inr ⟨_, rfl⟩) (dk_Mo_copyGear 16 rfl) (c1.up (hs7.trans hs12)) ?_
  refine g_iload_n (i := 2) (j := 2) (dk_Mo_copyGear 17 rfl) rfl rfl ?_
  refine g_aload_n (i := 0) (j := 0) (dk_Mo_copyGear 18 rfl) rfl rfl ?_
  refine g_getR fl_Mo_22 (Or.inr ⟨_, rfl⟩) (dk_Mo_copyGear 19 rfl) (c1.up (hs7.trans hs12)) ?_
  refine g_iload_n (i := 1) (j := 1) (dk_Mo_copyGear 20 rfl) rfl rfl ?_
  obtain ⟨c13, h⟩ := p_gdE h
  obtain ⟨c14, h⟩ := p_gdE h
  refine g_iaload (dk_Mo_copyGear 21 rfl) c13 c14.1 c14.2 ?_
  obtain ⟨c15, h⟩ := p_gdE h
  refine g_iastore (dk_Mo_copyGear 22 rfl) c13 c15.1 c15.2 ?_
  refine p_ltS (P := fun q => p_Go K l m_Mo_copyGear 35 [(0, p_r v0), (1, p_i v1), (2, p_i v2)] [] q _) (p_xZ _ _ _ _) ?_ h
  intro s16 hs17 h
  refine g_aload_n (i := 0) (j := 0) (dk_Mo_copyGear 23 rfl) rfl rfl ?_
  refine g_getR fl_Mo_28 (Or.inr ⟨_, rfl⟩) (dk_Mo_copyGear 24 rfl) (c1.up (hs7.trans (hs12.trans hs17))) ?_
  refine g_iload_n (i := 2) (j := 2) (dk_Mo_copyGear 25 rfl) rfl rfl ?_
  refine g_aload_n (i := 0) (j := 0) (dk_Mo_copyGear 26 rfl) rfl rfl ?_
  refine g_getR fl_Mo_28 (Or.inr ⟨_, rfl⟩) (dk_Mo_copyGear 27 rfl) (c1.up (hs7.trans (hs12.trans hs17))) ?_
  refine g_iload_n (i := 1) (j := 1) (dk_Mo_copyGear 28 rfl) rfl rfl ?_
  obtain ⟨c18, h⟩ := p_gdE h
  obtain ⟨c19, h⟩ := p_gdE h
  refine g_iaload (dk_Mo_copyGear 29 rfl) c18 c19.1 c19.2 ?_
  obtain ⟨c20, h⟩ := p_gdE h
  refine g_iastore (dk_Mo_copyGear 30 rfl) c18 c20.1 c20.2 ?_
  refine p_ltS (P := fun q => p_Go K l m_Mo_copyGear 47 [(0, p_r v0), (1, p_i v1), (2, p_i v2)] [] q _) (p_xZ _ _ _ _) ?_ h
  intro s21 hs22 h
  refine g_aload_n (i := 0) (j := 0) (dk_Mo_copyGear 31 rfl) rfl rfl ?_
  refine g_getR fl_Mo_44 (Or.inr ⟨_, rfl⟩) (dk_Mo_copyGear 32 rfl) (c1.up (hs7.trans (hs12.trans (hs17.trans hs22)))) ?_
  refine g_iload_n (i := 2) (j := 2) (dk_Mo_copyGear 33 rfl) rfl rfl ?_
  refine g_aload_n (i := 0) (j := 0) (dk_Mo_copyGear 34 rfl) rfl rfl ?_
  refine g_getR fl_Mo_44 (Or.inr ⟨_, rfl⟩) (dk_Mo_copyGear 35 rfl) (c1.up (hs7.trans (hs12.trans (hs17.trans hs22)))) ?_
  refine g_iload_n (i := 1) (j := 1) (dk_Mo_copyGear 36 rfl) rfl rfl ?_
  obtain ⟨c23, h⟩ := p_gdE h
  obtain ⟨c24, h⟩ := p_gdE h
  refine g_baload (dk_Mo_copyGear 37 rfl) c23 c24.1 c24.2 ?_
  obtain ⟨c25, h⟩ := p_gdE h
  obtain ⟨c26, h⟩ := p_gdE h
  refine g_bastore (dk_Mo_copyGear 38 rfl) c23 c25.1 c25.2 c26 ?_
  refine p_ltS (P := fun q => p_Go K l m_Mo_copyGear 59 [(0, p_r v0), (1, p_i v1), (2, p_i v2)] [] q _) (p_xZ _ _ _ _) ?_ h
  intro s27 hs28 h
  refine g_iconst (dk_Mo_copyGear 39 rfl) (by decide) ?_
  refine g_istore_n (i := 3) [(3, p_i 0), (0, p_r v0), (1, p_i v1), (2, p_i v2)] (dk_Mo_copyGear 40 rfl) rfl (by decide) rfl ?_
  refine g_sub [(0, p_r v0), (1, p_i v1), (2, p_i v2), (3, p_i 0)] [1, 2, 3, 0] rfl ?_
  exact tO_Mo_copyGear_61 K l 3000 v0 v1 v2 0 s27 _ h
def m_Mo_copyRule : p_Me := (⟨"SortWorksModel", "copyRule", "(II)V"⟩, prog_13_method_26_code, 4, none, 0, 0)
theorem mt_Mo_copyRule : p_Mt m_Mo_copyRule 2 := ⟨p_mem (p_tb7 (List.mem_of_getElem? (i := 128) rfl)) rfl, tw_1_12, by decide +kernel, by decide +kernel, by decide +kernel⟩
def dt_Mo_copyRule : List (Nat × Instr × Nat) := [(0, .aload_n 0, 1), (1, .getfield 144, 3), (4, .iload_n 2, 1), (5, .aload_n 0, 1), (6, .getfield 144, 3), (9, .iload_n 1, 1), (10, .iaload, 1), (11, .iastore, 1), (12, .aload_n 0, 1), (13, .getfield 147, 3), (16, .iload_n 2, 1), (17, .aload_n 0, 1), (18, .getfield 147, 3), (21, .iload_n 1, 1), (22, .iaload, 1), (23, .iastore, 1), (24, .aload_n 0, 1), (25, .getfield 150, 3), (28, .iload_n 2, 1), (29, .iconst 0, 1), (30, .iastore, 1), (31, .iconst 0, 1), (32, .istore_n 3, 1), (33, .iload_n 3, 1), (34, .iconst 4, 1), (35, .if_icmp .ge 89, 3), (38, .aload_n 0, 1), (39, .getfield 153, 3), (42, .iconst 4, 1), (43, .iload_n 2, 1), (44, .imul, 1), (45, .iload_n 3, 1), (46, .iadd, 1), (47, .aload_n 0, 1), (48, .getfield 153, 3), (51, .iconst 4, 1), (52, .iload_n 1, 1), (53, .imul, 1), (54, .iload_n 3, 1), (55, .iadd, 1), (56, .iaload, 1), (57, .iastore, 1), (58, .aload_n 0, 1), (59, .getfield 156, 3), (62, .iconst 4, 1), (63, .iload_n 2, 1), (64, .imul, 1), (65, .iload_n 3, 1), (66, .iadd, 1), (67, .aload_n 0, 1), (68, .getfield 156, 3), (71, .iconst 4, 1), (72, .iload_n 1, 1), (73, .imul, 1), (74, .iload_n 3, 1), (75, .iadd, 1), (76, .iaload, 1), (77, .iastore, 1), (78, .aload_n 0, 1), (79, .getfield 159, 3), (82, .iconst 4, 1), (83, .iload_n 2, 1), (84, .imul, 1), (85, .iload_n 3, 1), (86, .iadd, 1), (87, .aload_n 0, 1), (88, .getfield 159, 3), (91, .iconst 4, 1), (92, .iload_n 1, 1), (93, .imul, 1), (94, .iload_n 3, 1), (95, .iadd, 1), (96, .iaload, 1), (97, .iastore, 1), (98, .aload_n 0, 1), (99, .getfield 162, 3), (102, .iconst 4, 1), (103, .iload_n 2, 1), (104, .imul, 1), (105, .iload_n 3, 1), (106, .iadd, 1), (107, .aload_n 0, 1), (108, .getfield 162, 3), (111, .iconst 4, 1), (112, .iload_n 1, 1), (113, .imul, 1), (114, .iload_n 3, 1), (115, .iadd, 1), (116, .iaload, 1), (117, .iastore, 1), (118, .iinc 3 1, 3), (121, .goto (-88), 3), (124, .return_, 1)]
theorem dk_Mo_copyRule (i : Nat) {pc : Nat} {ins : Instr} {len : Nat} (h : dt_Mo_copyRule[i]? = some (pc, ins, len)) : decode m_Mo_copyRule.2.1 pc = .ok (ins, len) := p_dk (b := m_Mo_copyRule.2.1) (t := dt_Mo_copyRule) (by decide +kernel) i h
def L_Mo_copyRule_33 (k33 : Nat → Int → Int → Int → p_Hp → Option p_Hp) (v0 : Nat) (v1 : Int) (v2 : Int) (v3 : Int) (s0 : p_Hp) : Option p_Hp :=
  if 4 ≤ v3 then
    some s0
  else
    p_gd (p_is s0 v0 11) <|
    p_gd (p_is s0 (p_R s0 v0 52) 100) <|
    p_gd ((0 : Int) ≤ (p_w ((p_w (4 * v1)) + v3)) ∧ (p_w ((p_w (4 * v1)) + v3)) < (p_L s0 (p_R s0 v0 52) : Int)) <|
    p_gd ((0 : Int) ≤ (p_w ((p_w (4 * v2)) + v3)) ∧ (p_w ((p_w (4 * v2)) + v3)) < (p_L s0 (p_R s0 v0 52) : Int)) <|
    p_bi (p_wZ s0 (p_R s0 v0 52) ((p_w ((p_w (4 * v2)) + v3)) : Int).toNat (p_Z s0 (p_R s0 v0 52) ((p_w ((p_w (4 * v1)) + v3)) : Int).toNat)) fun s6 =>
    p_gd (p_is s6 (p_R s6 v0 53) 100) <|
    p_gd ((0 : Int) ≤ (p_w ((p_w (4 * v1)) + v3)) ∧ (p_w ((p_w (4 * v1)) + v3)) < (p_L s6 (p_R s6 v0 53) : Int)) <|
    p_gd ((0 : Int) ≤ (p_w ((p_w (4 * v2)) + v3)) ∧ (p_w ((p_w (4 * v2)) + v3)) < (p_L s6 (p_R s6 v0 53) : Int)) <|
    p_bi (p_wZ s6 (p_R s6 v0 53) ((p_w ((p_w (4 * v2)) + v3)) : Int).toNat (p_Z s6 (p_R s6 v0 53) ((p_w ((p_w (4 * v1)) + v3)) : Int).toNat)) fun s11 =>
    p_gd (p_is s11 (p_R s11 v0 54) 100) <|
    p_gd ((0 : Int) ≤ (p_w ((p_w (4 * v1)) + v3)) ∧ (p_w ((p_w (4 * v1)) + v3)) < (p_L s11 (p_R s11 v0 54) : Int)) <|
    p_gd ((0 : Int) ≤ (p_w ((p_w (4 * v2)) + v3)) ∧ (p_w ((p_w (4 * v2)) + v3)) < (p_L s11 (p_R s11 v0 54) : Int)) <|
    p_bi (p_wZ s11 (p_R s11 v0 54) ((p_w ((p_w (4 * v2)) + v3)) : Int).toNat (p_Z s11 (p_R s11 v0 54) ((p_w ((p_w (4 * v1)) + v3)) : Int).toNat)) fun s16 =>
    p_gd (p_is s16 (p_R s16 v0 55) 100) <|
    p_gd ((0 : Int) ≤ (p_w ((p_w (4 * v1)) + v3)) ∧ (p_w ((p_w (4 * v1)) + v3)) < (p_L s16 (p_R s16 v0 55) : Int)) <|
    p_gd ((0 : Int) ≤ (p_w ((p_w (4 * v2)) + v3)) ∧ (p_w ((p_w (4 * v2)) + v3)) < (p_L s16 (p_R s16 v0 55) : Int)) <|
    p_bi (p_wZ s16 (p_R s16 v0 55) ((p_w ((p_w (4 * v2)) + v3)) : Int).toNat (p_Z s16 (p_R s16 v0 55) ((p_w ((p_w (4 * v1)) + v3)) : Int).toNat)) fun s21 =>
    p_bi (p_w (v3 + 1)) fun x23 =>
    k33 v0 v1 v2 x23 s21
def O_Mo_copyRule_33  : Nat → Nat → Int → Int → Int → p_Hp → Option p_Hp
  | 0 => fun _ _ _ _ _ => none
  | n + 1 => L_Mo_copyRule_33 (O_Mo_copyRule_33 n)
def F_Mo_copyRule (v0 : Nat) (v1 : Int) (v2 : Int) (s0 : p_Hp) : Option p_Hp :=
  p_gd (p_is s0 v0 11) <|
  p_gd (p_is s0 (p_R s0 v0 49) 100) <|
  p_gd ((0 : Int) ≤ v1 ∧ v1 < (p_L s0 (p_R s0 v0 49) : Int)) <|
  p_gd ((0 : Int) ≤ v2 ∧ v2 < (p_L s0 (p_R s0 v0 49) : Int)) <|
  p_bi (p_wZ s0 (p_R s0 v0 49) (v2 : Int).toNat (p_Z s0 (p_R s0 v0 49) (v1 : Int).toNat)) fun s5 =>
  p_gd (p_is s5 (p_R s5 v0 50) 100) <|
  p_gd ((0 : Int) ≤ v1 ∧ v1 < (p_L s5 (p_R s5 v0 50) : Int)) <|
  p_gd ((0 : Int) ≤ v2 ∧ v2 < (p_L s5 (p_R s5 v0 50) : Int)) <|
  p_bi (p_wZ s5 (p_R s5 v0 50) (v2 : Int).toNat (p_Z s5 (p_R s5 v0 50) (v1 : Int).toNat)) fun s10 =>
  p_gd (p_is s10 (p_R s10 v0 51) 100) <|
  p_gd ((0 : Int) ≤ v2 ∧ v2 < (p_L s10 (p_R s10 v0 51) : Int)) <|
  p_bi (p_wZ s10 (p_R s10 v0 51) (v2 : Int).toNat 0) fun s14 =>
  O_Mo_copyRule_33 3000 v0 v1 v2 0 s14
set_option maxRecDepth 100000 in
set_option maxHeartbeats 4000000 in
theorem tL_Mo_copyRule_33 (K : p_K) (l : Launch) (k33 : Nat → Int → Int → Int → p_Hp → Option p_Hp) (hk33 : ∀ (v0 : Nat) (v1 : Int) (v2 : Int) (v3 : Int)  (s0 : p_Hp) (r : p_Hp), k33 v0 v1 v2 v3 s0 = some r → p_Go K l m_Mo_copyRule 33 [(0, p_r v0), (1, p_i v1), (2, p_i v2), (3, p_i v3)] [] s0 (none, r)) (v0 : Nat) (v1 : Int) (v2 : Int) (v3 : Int) (s0 : p_Hp) (r : p_Hp) (h : L_Mo_copyRule_33 k33 v0 v1 v2 v3 s0 = some r) : p_Go K l m_Mo_copyRule 33 [(0, p_r v0), (1, p_i v1), (2, p_i v2), (3, p_i v3)] [] s0 (none, r) := by
  unfold L_Mo_copyRule_33 at h
  refine g_iload_n (i := 3) (j := 3) (dk_Mo_copyRule 23 rfl) rfl rfl ?_
  refine g_iconst (dk_Mo_copyRule 24 rfl) (by decide) ?_
  refine g_icmp_ge 124 (dk_Mo_copyRule 25 rfl) (by decide) (fun b1 => ?_) (fun b1 => ?_)
  · have h := p_ifT b1 h
    cases h
    exact g_ret rfl rfl (dk_Mo_copyRule 92 rfl) (fun _ => rfl)
  · have h := p_ifF b1 h
    refine g_aload_n (i := 0) (j := 0) (dk_Mo_copyRule 26 rfl) rfl rfl ?_
    obtain ⟨c2, h⟩ := p_gdE h
    refine g_getR fl_Mo_153 (Or.inr ⟨_, rfl⟩) (dk_Mo_copyRule 27 rfl) c2 ?_
    refine g_iconst (dk_Mo_copyRule 28 rfl) (by decide) ?_
    refine g_iload_n (i := 2) (j := 2) (dk_Mo_copyRule 29 rfl) rfl rfl ?_
    refine g_imul (dk_Mo_copyRule 30 rfl) ?_
    refine g_iload_n (i := 3) (j := 3) (dk_Mo_copyRule 31 rfl) rfl rfl ?_
    refine g_iadd (dk_Mo_copyRule 32 rfl) ?_
    refine g_aload_n (i := 0) (j := 0) (dk_Mo_copyRule 33 rfl) rfl rfl ?_
    refine g_getR fl_Mo_153 (Or.inr ⟨_, rfl⟩) (dk_Mo_copyRule 34 rfl) c2 ?_
    refine g_iconst (dk_Mo_copyRule 35 rfl) (by decide) ?_
    refine g_iload_n (i := 1) (j := 1) (dk_Mo_copyRule 36 rfl) rfl rfl ?_
    refine g_imul (dk_Mo_copyRule 37 rfl) ?_
    refine g_iload_n (i := 3) (j := 3) (dk_Mo_copyRule 38 rfl) rfl rfl ?_
    refine g_iadd (dk_Mo_copyRule 39 rfl) ?_
    obtain ⟨c3, h⟩ := p_gdE h
    obtain ⟨c4, h⟩ := p_gdE h
    refine g_iaload (dk_Mo_copyRule 40 rfl) c3 c4.1 c4.2 ?_
    obtain ⟨c5, h⟩ := p_gdE h
    refine g_iastore (dk_Mo_copyRule 41 rfl) c3 c5.1 c5.2 ?_
    refine p_ltS (P := fun q => p_Go K l m_Mo_copyRule 58 [(0, p_r v0), (1, p_i v1), (2, p_i v2), (3, p_i v3)] [] q _) (p_xZ _ _ _ _) ?_ h
    intro s6 hs7 h
    refine g_aload_n (i := 0) (j := 0) (dk_Mo_copyRule 42 rfl) rfl rfl ?_
    refine g_getR fl_Mo_156 (Or.inr ⟨_, rfl⟩) (dk_Mo_copyRule 43 rfl) (c2.up hs7) ?_
    refine g_iconst (dk_Mo_copyRule 44 rfl) (by decide) ?_
    refine g_iload_n (i := 2) (j := 2) (dk_Mo_copyRule 45 rfl) rfl rfl ?_
    refine g_imul (dk_Mo_copyRule 46 rfl) ?_
    refine g_iload_n (i := 3) (j := 3) (dk_Mo_copyRule 47 rfl) rfl rfl ?_
    refine g_iadd (dk_Mo_copyRule 48 rfl) ?_
    refine g_aload_n (i := 0) (j := 0) (dk_Mo_copyRule 49 rfl) rfl rfl ?_
    refine g_getR fl_Mo_156 (Or.inr ⟨_, rfl⟩) (dk_Mo_copyRule 50 rfl) (c2.up hs7) ?_
    refine g_iconst (dk_Mo_copyRule 51 rfl) (by decide) ?_
    refine g_iload_n (i := 1) (j := 1) (dk_Mo_copyRule 52 rfl) rfl rfl ?_
    refine g_imul (dk_Mo_copyRule 53 rfl) ?_
    refine g_iload_n (i := 3) (j := 3) (dk_Mo_copyRule 54 rfl) rfl rfl ?_
    refine g_iadd (dk_Mo_copyRule 55 rfl) ?_
    obtain ⟨c8, h⟩ := p_gdE h
    obtain ⟨c9, h⟩ := p_gdE h
    refine g_iaload (dk_Mo_copyRule 56 rfl) c8 c9.1 c9.2 ?_
    obtain ⟨c10, h⟩ := p_gdE h
    refine g_iastore (dk_Mo_copyRule 57 rfl) c8 c10.1 c10.2 ?_
    refine p_ltS (P := fun q => p_Go K l m_Mo_copyRule 78 [(0, p_r v0), (1, p_i v1), (2, p_i v2), (3, p_i v3)] [] q _) (p_xZ _ _ _ _) ?_ h
    intro s11 hs12 h
    refine g_aload_n (i := 0) (j := 0) (dk_Mo_copyRule 58 rfl) rfl rfl ?_
    refine g_getR fl_Mo_159 (Or.inr ⟨_, rfl⟩) (dk_Mo_copyRule 59 rfl) (c2.up (hs7.trans hs12)) ?_
    refine g_iconst (dk_Mo_copyRule 60 rfl) (by decide) ?_
    refine g_iload_n (i := 2) (j := 2) (dk_Mo_copyRule 61 rfl) rfl rfl ?_
    refine g_imul (dk_Mo_copyRule 62 rfl) ?_
    refine g_iload_n (i := 3) (j := 3) (dk_Mo_copyRule 63 rfl) rfl rfl ?_
    refine g_iadd (dk_Mo_copyRule 64 rfl) ?_
    refine g_aload_n (i := 0) (j := 0) (dk_Mo_copyRule 65 rfl) rfl rfl ?_
    refine g_getR fl_Mo_159 (Or.inr ⟨_, rfl⟩) (dk_Mo_copyRule 66 rfl) (c2.up (hs7.trans hs12)) ?_
    refine g_iconst (dk_Mo_copyRule 67 rfl) (by decide) ?_
    refine g_iload_n (i := 1) (j := 1) (dk_Mo_copyRule 68 rfl) rfl rfl ?_
    refine g_imul (dk_Mo_copyRule 69 rfl) ?_
    refine g_iload_n (i := 3) (j := 3) (dk_Mo_copyRule 70 rfl) rfl rfl ?_
    refine g_iadd (dk_Mo_copyRule 71 rfl) ?_
    obtain ⟨c13, h⟩ := p_gdE h
    obtain ⟨c14, h⟩ := p_gdE h
    refine g_iaload (dk_Mo_copyRule 72 rfl) c13 c14.1 c14.2 ?_
    obtain ⟨c15, h⟩ := p_gdE h
    refine g_iastore (dk_Mo_copyRule 73 rfl) c13 c15.1 c15.2 ?_
    refine p_ltS (P := fun q => p_Go K l m_Mo_copyRule 98 [(0, p_r v0), (1, p_i v1), (2, p_i v2), (3, p_i v3)] [] q _) (p_xZ _ _ _ _) ?_ h
    intro s16 hs17 h
    refine g_aload_n (i := 0) (j := 0) (dk_Mo_copyRule 74 rfl) rfl rfl ?_
    refine g_getR fl_Mo_162 (Or.inr ⟨_, rfl⟩) (dk_Mo_copyRule 75 rfl) (c2.up (hs7.trans (hs12.trans hs17))) ?_
    refine g_iconst (dk_Mo_copyRule 76 rfl) (by decide) ?_
    refine g_iload_n (i := 2) (j := 2) (dk_Mo_copyRule 77 rfl) rfl rfl ?_
    refine g_imul (dk_Mo_copyRule 78 rfl) ?_
    refine g_iload_n (i := 3) (j := 3) (dk_Mo_copyRule 79 rfl) rfl rfl ?_
    refine g_iadd (dk_Mo_copyRule 80 rfl) ?_
    refine g_aload_n (i := 0) (j := 0) (dk_Mo_copyRule 81 rfl) rfl rfl ?_
    refine g_getR fl_Mo_162 (Or.inr ⟨_, rfl⟩) (dk_Mo_copyRule 82 rfl) (c2.up (hs7.trans (hs12.trans hs17))) ?_
    refine g_iconst (dk_Mo_copyRule 83 rfl) (by decide) ?_
    refine g_iload_n (i := 1) (j := 1) (dk_Mo_copyRule 84 rfl) rfl rfl ?_
    refine g_imul (dk_Mo_copyRule 85 rfl) ?_
    refine g_iload_n (i := 3) (j := 3) (dk_Mo_copyRule 86 rfl) rfl rfl ?_
    refine g_iadd (dk_Mo_copyRule 87 rfl) ?_
    obtain ⟨c18, h⟩ := p_gdE h
    obtain ⟨c19, h⟩ := p_gdE h
    refine g_iaload (dk_Mo_copyRule 88 rfl) c18 c19.1 c19.2 ?_
    obtain ⟨c20, h⟩ := p_gdE h
    refine g_iastore (dk_Mo_copyRule 89 rfl) c18 c20.1 c20.2 ?_
    refine p_ltS (P := fun q => p_Go K l m_Mo_copyRule 118 [(0, p_r v0), (1, p_i v1), (2, p_i v2), (3, p_i v3)] [] q _) (p_xZ _ _ _ _) ?_ h
    intro s21 hs22 h
    refine g_iinc (j := 3) [(3, p_i (p_w (v3 + 1))), (0, p_r v0), (1, p_i v1), (2, p_i v2)] (dk_Mo_copyRule 90 rfl) rfl (by decide) rfl ?_
    refine p_ltG (P := fun q => p_Go K l m_Mo_copyRule 121 [(3, p_i q), (0, p_r v0), (1, p_i v1), (2, p_i v2)] [] s21 _) ?_ h
    intro x23 h
    refine g_goto 33 (dk_Mo_copyRule 91 rfl) (by decide) ?_
    refine g_sub [(0, p_r v0), (1, p_i v1), (2, p_i v2), (3, p_i x23)] [1, 2, 3, 0] rfl ?_
    exact hk33 v0 v1 v2 x23 s21 _ h
set_option maxRecDepth 100000 in
set_option maxHeartbeats 4000000 in
theorem tO_Mo_copyRule_33 (K : p_K) (l : Launch)  : ∀ (n : Nat) (v0 : Nat) (v1 : Int) (v2 : Int) (v3 : Int) (s0 : p_Hp) (r : p_Hp), O_Mo_copyRule_33 n v0 v1 v2 v3 s0 = some r → p_Go K l m_Mo_copyRule 33 [(0, p_r v0), (1, p_i v1), (2, p_i v2), (3, p_i v3)] [] s0 (none, r) := by
  intro n
  induction n with
  | zero => intro v0 v1 v2 v3 s0 r h; cases (show (none : Option p_Hp) = some r from h)
  | succ n ih => intro v0 v1 v2 v3 s0 r h; exact tL_Mo_copyRule_33 K l _ ih v0 v1 v2 v3 s0 r h
set_option maxRecDepth 100000 in
set_option maxHeartbeats 4000000 in
theorem tF_Mo_copyRule (K : p_K) (l : Launch) (v0 : Nat) (v1 : Int) (v2 : Int) (s0 : p_Hp) (r : p_Hp) (h : F_Mo_copyRule v0 v1 v2 s0 = some r) : p_Ct K l m_Mo_copyRule [p_r v0, p_i v1, p_i v2] s0 (none, r) := by
  refine p_Ct.of (by decide +kernel) (Nat.le_of_ble_eq_true rfl) ?_
  unfold F_Mo_copyRule at h
  show p_Go K l m_Mo_copyRule 0 [(0, p_r v0), (1, p_i v1), (2, p_i v2)] [] s0 _
  refine g_aload_n (i := 0) (j := 0) (dk_Mo_copyRule 0 rfl) rfl rfl ?_
  obtain ⟨c1, h⟩ := p_gdE h
  refine g_getR fl_Mo_144 (Or.inr ⟨_, rfl⟩) (dk_Mo_copyRule 1 rfl) c1 ?_
  refine g_iload_n (i := 2) (j := 2) (dk_Mo_copyRule 2 rfl) rfl rfl ?_
  refine g_aload_n (i := 0) (j := 0) (dk_Mo_copyRule 3 rfl) rfl rfl ?_
  refine g_getR fl_Mo_144 (Or.inr ⟨_, rfl⟩) (dk_Mo_copyRule 4 rfl) c1 ?_
  refine g_iload_n (i := 1) (j := 1) (dk_Mo_copyRule 5 rfl) rfl rfl ?_
  obtain ⟨c2, h⟩ := p_gdE h
  obtain ⟨c3, h⟩ := p_gdE h
  refine g_iaload (dk_Mo_copyRule 6 rfl) c2 c3.1 c3.2 ?_
  obtain ⟨c4, h⟩ := p_gdE h
  refine g_iastore (dk_Mo_copyRule 7 rfl) c2 c4.1 c4.2 ?_
  refine p_ltS (P := fun q => p_Go K l m_Mo_copyRule 12 [(0, p_r v0), (1, p_i v1), (2, p_i v2)] [] q _) (p_xZ _ _ _ _) ?_ h
  intro s5 hs6 h
  refine g_aload_n (i := 0) (j := 0) (dk_Mo_copyRule 8 rfl) rfl rfl ?_
  refine g_getR fl_Mo_147 (Or.inr ⟨_, rfl⟩) (dk_Mo_copyRule 9 rfl) (c1.up hs6) ?_
  refine g_iload_n (i := 2) (j := 2) (dk_Mo_copyRule 10 rfl) rfl rfl ?_
  refine g_aload_n (i := 0) (j := 0) (dk_Mo_copyRule 11 rfl) rfl rfl ?_
  refine g_getR fl_Mo_147 (Or.inr ⟨_, rfl⟩) (dk_Mo_copyRule 12 rfl) (c1.up hs6) ?_
  refine g_iload_n (i := 1) (j := 1) (dk_Mo_copyRule 13 rfl) rfl rfl ?_
  obtain ⟨c7, h⟩ := p_gdE h
  obtain ⟨c8, h⟩ := p_gdE h
  refine g_iaload (dk_Mo_copyRule 14 rfl) c7 c8.1 c8.2 ?_
  obtain ⟨c9, h⟩ := p_gdE h
  refine g_iastore (dk_Mo_copyRule 15 rfl) c7 c9.1 c9.2 ?_
  refine p_ltS (P := fun q => p_Go K l m_Mo_copyRule 24 [(0, p_r v0), (1, p_i v1), (2, p_i v2)] [] q _) (p_xZ _ _ _ _) ?_ h
  intro s10 hs11 h
  refine g_aload_n (i := 0) (j := 0) (dk_Mo_copyRule 16 rfl) rfl rfl ?_
  refine g_getR fl_Mo_150 (Or.inr ⟨_, rfl⟩) (dk_Mo_copyRule 17 rfl) (c1.up (hs6.trans hs11)) ?_
  refine g_iload_n (i := 2) (j := 2) (dk_Mo_copyRule 18 rfl) rfl rfl ?_
  refine g_iconst (dk_Mo_copyRule 19 rfl) (by decide) ?_
  obtain ⟨c12, h⟩ := p_gdE h
  obtain ⟨c13, h⟩ := p_gdE h
  refine g_iastore (dk_Mo_copyRule 20 rfl) c12 c13.1 c13.2 ?_
  refine p_ltS (P := fun q => p_Go K l m_Mo_copyRule 31 [(0, p_r v0), (1, p_i v1), (2, p_i v2)] [] q _) (p_xZ _ _ _ _) ?_ h
  intro s14 hs15 h
  refine g_iconst (dk_Mo_copyRule 21 rfl) (by decide) ?_
  refine g_istore_n (i := 3) [(3, p_i 0), (0, p_r v0), (1, p_i v1), (2, p_i v2)] (dk_Mo_copyRule 22 rfl) rfl (by decide) rfl ?_
  refine g_sub [(0, p_r v0), (1, p_i v1), (2, p_i v2), (3, p_i 0)] [1, 2, 3, 0] rfl ?_
  exact tO_Mo_copyRule_33 K l 3000 v0 v1 v2 0 s14 _ h
def m_Mo_copy : p_Me := (⟨"SortWorksModel", "copy", "(I)I"⟩, prog_13_method_24_code, 4, (some .int), 4, 85)
theorem mt_Mo_copy : p_Mt m_Mo_copy 1 := ⟨p_mem (p_tb7 (List.mem_of_getElem? (i := 120) rfl)) rfl, tw_1_12, by decide +kernel, by decide +kernel, by decide +kernel⟩
def dt_Mo_copy : List (Nat × Instr × Nat) := [(0, .iload_n 1, 1), (1, .i2l, 1), (2, .lconst 0, 1), (3, .ldc2_w 238, 3), (6, .invokestatic 230, 3), (9, .ifCond .eq 9, 3), (12, .aload_n 0, 1), (13, .iconst (-1), 1), (14, .invokevirtual 240, 3), (17, .ireturn, 1), (18, .aload_n 0, 1), (19, .getfield 7, 3), (22, .aload_n 0, 1), (23, .getfield 227, 3), (26, .iaload, 1), (27, .ifCond .le 10, 3), (30, .aload_n 0, 1), (31, .bipush (-3), 2), (33, .invokevirtual 240, 3), (36, .ireturn, 1), (37, .iconst 0, 1), (38, .istore_n 2, 1), (39, .iload_n 2, 1), (40, .aload_n 0, 1), (41, .getfield 7, 3), (44, .iload_n 1, 1), (45, .iaload, 1), (46, .if_icmp .ge 24, 3), (49, .aload_n 0, 1), (50, .bipush 40, 2), (52, .iload_n 1, 1), (53, .imul, 1), (54, .iload_n 2, 1), (55, .iadd, 1), (56, .aload_n 0, 1), (57, .iload_n 2, 1), (58, .invokevirtual 257, 3), (61, .invokevirtual 285, 3), (64, .iinc 2 1, 3), (67, .goto (-28), 3), (70, .aload_n 0, 1), (71, .getfield 7, 3), (74, .aload_n 0, 1), (75, .getfield 227, 3), (78, .aload_n 0, 1), (79, .getfield 7, 3), (82, .iload_n 1, 1), (83, .iaload, 1), (84, .iastore, 1), (85, .aload_n 0, 1), (86, .getfield 141, 3), (89, .aload_n 0, 1), (90, .getfield 227, 3), (93, .aload_n 0, 1), (94, .getfield 141, 3), (97, .iload_n 1, 1), (98, .iaload, 1), (99, .iastore, 1), (100, .iconst 0, 1), (101, .istore_n 2, 1), (102, .iload_n 2, 1), (103, .aload_n 0, 1), (104, .getfield 141, 3), (107, .iload_n 1, 1), (108, .iaload, 1), (109, .if_icmp .ge 28, 3), (112, .aload_n 0, 1), (113, .bipush 12, 2), (115, .iload_n 1, 1), (116, .imul, 1), (117, .iload_n 2, 1), (118, .iadd, 1), (119, .bipush 12, 2), (121, .aload_n 0, 1), (122, .getfield 227, 3), (125, .imul, 1), (126, .iload_n 2, 1), (127, .iadd, 1), (128, .invokevirtual 288, 3), (131, .iinc 2 1, 3), (134, .goto (-32), 3), (137, .aload_n 0, 1), (138, .getfield 165, 3), (141, .aload_n 0, 1), (142, .getfield 227, 3), (145, .aload_n 0, 1), (146, .getfield 165, 3), (149, .iload_n 1, 1), (150, .iaload, 1), (151, .iastore, 1), (152, .iconst 0, 1), (153, .istore_n 2, 1), (154, .iload_n 2, 1), (155, .bipush 16, 2), (157, .if_icmp .ge 80, 3), (160, .aload_n 0, 1), (161, .getfield 168, 3), (164, .bipush 16, 2), (166, .aload_n 0, 1), (167, .getfield 227, 3), (170, .imul, 1), (171, .iload_n 2, 1), (172, .iadd, 1), (173, .aload_n 0, 1), (174, .getfield 168, 3), (177, .bipush 16, 2), (179, .iload_n 1, 1), (180, .imul, 1), (181, .iload_n 2, 1), (182, .iadd, 1), (183, .iaload, 1), (184, .iastore, 1), (185, .iconst 0, 1), (186, .istore_n 3, 1), (187, .iload_n 3, 1), (188, .iconst 4, 1), (189, .if_icmp .ge 42, 3), (192, .aload_n 0, 1), (193, .getfield 171, 3), (196, .bipush 64, 2), (198, .aload_n 0, 1), (199, .getfield 227, 3), (202, .imul, 1), (203, .iconst 4, 1), (204, .iload_n 2, 1), (205, .imul, 1), (206, .iadd, 1), (207, .iload_n 3, 1), (208, .iadd, 1), (209, .aload_n 0, 1), (210, .getfield 171, 3), (213, .bipush 64, 2), (215, .iload_n 1, 1), (216, .imul, 1), (217, .iconst 4, 1), (218, .iload_n 2, 1), (219, .imul, 1), (220, .iadd, 1), (221, .iload_n 3, 1), (222, .iadd, 1), (223, .iaload, 1), (224, .iastore, 1), (225, .iinc 3 1, 3), (228, .goto (-41), 3), (231, .iinc 2 1, 3), (234, .goto (-80), 3), (237, .aload_n 0, 1), (238, .aload_n 0, 1), (239, .getfield 7, 3), (242, .aload_n 0, 1), (243, .getfield 227, 3), (246, .iaload, 1), (247, .invokevirtual 264, 3), (250, .ireturn, 1)]
theorem dk_Mo_copy (i : Nat) {pc : Nat} {ins : Instr} {len : Nat} (h : dt_Mo_copy[i]? = some (pc, ins, len)) : decode m_Mo_copy.2.1 pc = .ok (ins, len) := p_dk (b := m_Mo_copy.2.1) (t := dt_Mo_copy) (by decide +kernel) i h
def L_Mo_copy_187 (k154 : Nat → Int → Int → p_Hp → Option (Int × p_Hp)) (k187 : Nat → Int → Int → Int → p_Hp → Option (Int × p_Hp)) (v0 : Nat) (v1 : Int) (v2 : Int) (v3 : Int) (s0 : p_Hp) : Option (Int × p_Hp) :=
  if 4 ≤ v3 then
    p_bi (p_w (v2 + 1)) fun x2 =>
    k154 v0 v1 x2 s0
  else
    p_gd (p_is s0 v0 11) <|
    p_gd (p_is s0 (p_R s0 v0 58) 100) <|
    p_gd ((0 : Int) ≤ (p_w ((p_w ((p_w (64 * v1)) + (p_w (4 * v2)))) + v3)) ∧ (p_w ((p_w ((p_w (64 * v1)) + (p_w (4 * v2)))) + v3)) < (p_L s0 (p_R s0 v0 58) : Int)) <|
    p_gd ((0 : Int) ≤ (p_w ((p_w ((p_w (64 * (p_Z s0 v0 0))) + (p_w (4 * v2)))) + v3)) ∧ (p_w ((p_w ((p_w (64 * (p_Z s0 v0 0))) + (p_w (4 * v2)))) + v3)) < (p_L s0 (p_R s0 v0 58) : Int)) <|
    p_bi (p_wZ s0 (p_R s0 v0 58) ((p_w ((p_w ((p_w (64 * (p_Z s0 v0 0))) + (p_w (4 * v2)))) + v3)) : Int).toNat (p_Z s0 (p_R s0 v0 58) ((p_w ((p_w ((p_w (64 * v1)) + (p_w (4 * v2)))) + v3)) : Int).toNat)) fun s7 =>
    p_bi (p_w (v3 + 1)) fun x9 =>
    k187 v0 v1 v2 x9 s7
def O_Mo_copy_187 (k154 : Nat → Int → Int → p_Hp → Option (Int × p_Hp)) : Nat → Nat → Int → Int → Int → p_Hp → Option (Int × p_Hp)
  | 0 => fun _ _ _ _ _ => none
  | n + 1 => L_Mo_copy_187 k154 (O_Mo_copy_187 k154 n)
def L_Mo_copy_154 (k154 : Nat → Int → Int → p_Hp → Option (Int × p_Hp)) (v0 : Nat) (v1 : Int) (v2 : Int) (s0 : p_Hp) : Option (Int × p_Hp) :=
  if 16 ≤ v2 then
    p_gd (p_is s0 v0 11) <|
    p_gd (p_is s0 (p_R s0 v0 3) 100) <|
    p_gd ((0 : Int) ≤ (p_Z s0 v0 0) ∧ (p_Z s0 v0 0) < (p_L s0 (p_R s0 v0 3) : Int)) <|
    p_bd (F_Mo_built v0 (p_Z s0 (p_R s0 v0 3) ((p_Z s0 v0 0) : Int).toNat) s0) fun r9 s5 =>
    some (r9, s5)
  else
    p_gd (p_is s0 v0 11) <|
    p_gd (p_is s0 (p_R s0 v0 57) 100) <|
    p_gd ((0 : Int) ≤ (p_w ((p_w (16 * v1)) + v2)) ∧ (p_w ((p_w (16 * v1)) + v2)) < (p_L s0 (p_R s0 v0 57) : Int)) <|
    p_gd ((0 : Int) ≤ (p_w ((p_w (16 * (p_Z s0 v0 0))) + v2)) ∧ (p_w ((p_w (16 * (p_Z s0 v0 0))) + v2)) < (p_L s0 (p_R s0 v0 57) : Int)) <|
    p_bi (p_wZ s0 (p_R s0 v0 57) ((p_w ((p_w (16 * (p_Z s0 v0 0))) + v2)) : Int).toNat (p_Z s0 (p_R s0 v0 57) ((p_w ((p_w (16 * v1)) + v2)) : Int).toNat)) fun s14 =>
    O_Mo_copy_187 k154 3000 v0 v1 v2 0 s14
def O_Mo_copy_154  : Nat → Nat → Int → Int → p_Hp → Option (Int × p_Hp)
  | 0 => fun _ _ _ _ => none
  | n + 1 => L_Mo_copy_154 (O_Mo_copy_154 n)
def L_Mo_copy_102 (k102 : Nat → Int → Int → p_Hp → Option (Int × p_Hp)) (v0 : Nat) (v1 : Int) (v2 : Int) (s0 : p_Hp) : Option (Int × p_Hp) :=
  p_gd (p_is s0 v0 11) <|
  p_gd (p_is s0 (p_R s0 v0 48) 100) <|
  p_gd ((0 : Int) ≤ v1 ∧ v1 < (p_L s0 (p_R s0 v0 48) : Int)) <|
  if (p_Z s0 (p_R s0 v0 48) (v1 : Int).toNat) ≤ v2 then
    p_gd (p_is s0 (p_R s0 v0 56) 100) <|
    p_gd ((0 : Int) ≤ v1 ∧ v1 < (p_L s0 (p_R s0 v0 56) : Int)) <|
    p_gd ((0 : Int) ≤ (p_Z s0 v0 0) ∧ (p_Z s0 v0 0) < (p_L s0 (p_R s0 v0 56) : Int)) <|
    p_bi (p_wZ s0 (p_R s0 v0 56) ((p_Z s0 v0 0) : Int).toNat (p_Z s0 (p_R s0 v0 56) (v1 : Int).toNat)) fun s8 =>
    O_Mo_copy_154 3000 v0 v1 0 s8
  else
    p_bv (F_Mo_copyRule v0 (p_w ((p_w (12 * v1)) + v2)) (p_w ((p_w (12 * (p_Z s0 v0 0))) + v2)) s0) fun s10 =>
    p_bi (p_w (v2 + 1)) fun x14 =>
    k102 v0 v1 x14 s10
def O_Mo_copy_102  : Nat → Nat → Int → Int → p_Hp → Option (Int × p_Hp)
  | 0 => fun _ _ _ _ => none
  | n + 1 => L_Mo_copy_102 (O_Mo_copy_102 n)
def L_Mo_copy_39 (k39 : Nat → Int → Int → p_Hp → Option (Int × p_Hp)) (v0 : Nat) (v1 : Int) (v2 : Int) (s0 : p_Hp) : Option (Int × p_Hp) :=
  p_gd (p_is s0 v0 11) <|
  p_gd (p_is s0 (p_R s0 v0 3) 100) <|
  p_gd ((0 : Int) ≤ v1 ∧ v1 < (p_L s0 (p_R s0 v0 3) : Int)) <|
  if (p_Z s0 (p_R s0 v0 3) (v1 : Int).toNat) ≤ v2 then
    p_gd ((0 : Int) ≤ v1 ∧ v1 < (p_L s0 (p_R s0 v0 3) : Int)) <|
    p_gd ((0 : Int) ≤ (p_Z s0 v0 0) ∧ (p_Z s0 v0 0) < (p_L s0 (p_R s0 v0 3) : Int)) <|
    p_bi (p_wZ s0 (p_R s0 v0 3) ((p_Z s0 v0 0) : Int).toNat (p_Z s0 (p_R s0 v0 3) (v1 : Int).toNat)) fun s7 =>
    p_gd (p_is s7 (p_R s7 v0 48) 100) <|
    p_gd ((0 : Int) ≤ v1 ∧ v1 < (p_L s7 (p_R s7 v0 48) : Int)) <|
    p_gd ((0 : Int) ≤ (p_Z s7 v0 0) ∧ (p_Z s7 v0 0) < (p_L s7 (p_R s7 v0 48) : Int)) <|
    p_bi (p_wZ s7 (p_R s7 v0 48) ((p_Z s7 v0 0) : Int).toNat (p_Z s7 (p_R s7 v0 48) (v1 : Int).toNat)) fun s12 =>
    O_Mo_copy_102 3000 v0 v1 0 s12
  else
    p_bd (F_Mo_g v0 v2 s0) fun r18 s14 =>
    p_bv (F_Mo_copyGear v0 (p_w ((p_w (40 * v1)) + v2)) r18 s14) fun s19 =>
    p_bi (p_w (v2 + 1)) fun x23 =>
    k39 v0 v1 x23 s19
def O_Mo_copy_39  : Nat → Nat → Int → Int → p_Hp → Option (Int × p_Hp)
  | 0 => fun _ _ _ _ => none
  | n + 1 => L_Mo_copy_39 (O_Mo_copy_39 n)
def F_Mo_copy (v0 : Nat) (v1 : Int) (s0 : p_Hp) : Option (Int × p_Hp) :=
  p_bd (F_Mo_beyond v1 0 2 s0) fun r5 s1 =>
  if r5 = 0 then
    p_gd (p_is s1 v0 11) <|
    p_gd (p_is s1 (p_R s1 v0 3) 100) <|
    p_gd ((0 : Int) ≤ (p_Z s1 v0 0) ∧ (p_Z s1 v0 0) < (p_L s1 (p_R s1 v0 3) : Int)) <|
    if (p_Z s1 (p_R s1 v0 3) ((p_Z s1 v0 0) : Int).toNat) ≤ 0 then
      O_Mo_copy_39 3000 v0 v1 0 s1
    else
      p_bd (F_Mo_refused v0 (-3) s1) fun r15 s11 =>
      some (r15, s11)
  else
    p_gd (p_is s1 v0 11) <|
    p_bd (F_Mo_refused v0 (-1) s1) fun r21 s17 =>
    some (r21, s17)
set_option maxRecDepth 100000 in
set_option maxHeartbeats 4000000 in
theorem tL_Mo_copy_187 (K : p_K) (l : Launch) (k154 : Nat → Int → Int → p_Hp → Option (Int × p_Hp)) (hk154 : ∀ (v0 : Nat) (v1 : Int) (v2 : Int)  (s0 : p_Hp) (r : (Int × p_Hp)), k154 v0 v1 v2 s0 = some r → p_Go K l m_Mo_copy 154 [(0, p_r v0), (1, p_i v1), (2, p_i v2)] [] s0 (some (p_i r.1), r.2)) (k187 : Nat → Int → Int → Int → p_Hp → Option (Int × p_Hp)) (hk187 : ∀ (v0 : Nat) (v1 : Int) (v2 : Int) (v3 : Int)  (s0 : p_Hp) (r : (Int × p_Hp)), k187 v0 v1 v2 v3 s0 = some r → p_Go K l m_Mo_copy 187 [(0, p_r v0), (1, p_i v1), (2, p_i v2), (3, p_i v3)] [] s0 (some (p_i r.1), r.2)) (v0 : Nat) (v1 : Int) (v2 : Int) (v3 : Int) (s0 : p_Hp) (r : (Int × p_Hp)) (h : L_Mo_copy_187 k154 k187 v0 v1 v2 v3 s0 = some r) : p_Go K l m_Mo_copy 187 [(0, p_r v0), (1, p_i v1), (2, p_i v2), (3, p_i v3)] [] s0 (some (p_i r.1), r.2) := by
  unfold L_Mo_copy_187 at h
  refine g_iload_n (i := 3) (j := 3) (dk_Mo_copy 114 rfl) rfl rfl ?_
  refine g_iconst (dk_Mo_copy 115 rfl) (by decide) ?_
  refine g_icmp_ge 231 (dk_Mo_copy 116 rfl) (by decide) (fun b1 => ?_) (fun b1 => ?_)
  · have h := p_ifT b1 h
    refine g_iinc (j := 2) [(2, p_i (p_w (v2 + 1))), (0, p_r v0), (1, p_i v1), (3, p_i v3)] (dk_Mo_copy 144 rfl) rfl (by decide) rfl ?_
    refine p_ltG (P := fun q => p_Go K l m_Mo_copy 234 [(2, p_i q), (0, p_r v0), (1, p_i v1), (3, p_i v3)] [] s0 _) ?_ h
    intro x2 h
    refine g_goto 154 (dk_Mo_copy 145 rfl) (by decide) ?_
    refine g_sub [(0, p_r v0), (1, p_i v1), (2, p_i x2)] [1, 2, 0] rfl ?_
    exact hk154 v0 v1 x2 s0 _ h
  · have h := p_ifF b1 h
    refine g_aload_n (i := 0) (j := 0) (dk_Mo_copy 117 rfl) rfl rfl ?_
    obtain ⟨c3, h⟩ := p_gdE h
    refine g_getR fl_Mo_171 (Or.inr ⟨_, rfl⟩) (dk_Mo_copy 118 rfl) c3 ?_
    refine g_bipush (dk_Mo_copy 119 rfl) (by decide +kernel) (by decide) ?_
    refine g_aload_n (i := 0) (j := 0) (dk_Mo_copy 120 rfl) rfl rfl ?_
    refine g_getI fl_Mo_227 (Or.inl rfl) (dk_Mo_copy 121 rfl) c3 ?_
    refine g_imul (dk_Mo_copy 122 rfl) ?_
    refine g_iconst (dk_Mo_copy 123 rfl) (by decide) ?_
    refine g_iload_n (i := 2) (j := 2) (dk_Mo_copy 124 rfl) rfl rfl ?_
    refine g_imul (dk_Mo_copy 125 rfl) ?_
    refine g_iadd (dk_Mo_copy 126 rfl) ?_
    refine g_iload_n (i := 3) (j := 3) (dk_Mo_copy 127 rfl) rfl rfl ?_
    refine g_iadd (dk_Mo_copy 128 rfl) ?_
    refine g_aload_n (i := 0) (j := 0) (dk_Mo_copy 129 rfl) rfl rfl ?_
    refine g_getR fl_Mo_171 (Or.inr ⟨_, rfl⟩) (dk_Mo_copy 130 rfl) c3 ?_
    refine g_bipush (dk_Mo_copy 131 rfl) (by decide +kernel) (by decide) ?_
    refine g_iload_n (i := 1) (j := 1) (dk_Mo_copy 132 rfl) rfl rfl ?_
    refine g_imul (dk_Mo_copy 133 rfl) ?_
    refine g_iconst (dk_Mo_copy 134 rfl) (by decide) ?_
    refine g_iload_n (i := 2) (j := 2) (dk_Mo_copy 135 rfl) rfl rfl ?_
    refine g_imul (dk_Mo_copy 136 rfl) ?_
    refine g_iadd (dk_Mo_copy 137 rfl) ?_
    refine g_iload_n (i := 3) (j := 3) (dk_Mo_copy 138 rfl) rfl rfl ?_
    refine g_iadd (dk_Mo_copy 139 rfl) ?_
    obtain ⟨c4, h⟩ := p_gdE h
    obtain ⟨c5, h⟩ := p_gdE h
    refine g_iaload (dk_Mo_copy 140 rfl) c4 c5.1 c5.2 ?_
    obtain ⟨c6, h⟩ := p_gdE h
    refine g_iastore (dk_Mo_copy 141 rfl) c4 c6.1 c6.2 ?_
    refine p_ltS (P := fun q => p_Go K l m_Mo_copy 225 [(0, p_r v0), (1, p_i v1), (2, p_i v2), (3, p_i v3)] [] q _) (p_xZ _ _ _ _) ?_ h
    intro s7 hs8 h
    refine g_iinc (j := 3) [(3, p_i (p_w (v3 + 1))), (0, p_r v0), (1, p_i v1), (2, p_i v2)] (dk_Mo_copy 142 rfl) rfl (by decide) rfl ?_
    refine p_ltG (P := fun q => p_Go K l m_Mo_copy 228 [(3, p_i q), (0, p_r v0), (1, p_i v1), (2, p_i v2)] [] s7 _) ?_ h
    intro x9 h
    refine g_goto 187 (dk_Mo_copy 143 rfl) (by decide) ?_
    refine g_sub [(0, p_r v0), (1, p_i v1), (2, p_i v2), (3, p_i x9)] [1, 2, 3, 0] rfl ?_
    exact hk187 v0 v1 v2 x9 s7 _ h
set_option maxRecDepth 100000 in
set_option maxHeartbeats 4000000 in
theorem tO_Mo_copy_187 (K : p_K) (l : Launch) (k154 : Nat → Int → Int → p_Hp → Option (Int × p_Hp)) (hk154 : ∀ (v0 : Nat) (v1 : Int) (v2 : Int)  (s0 : p_Hp) (r : (Int × p_Hp)), k154 v0 v1 v2 s0 = some r → p_Go K l m_Mo_copy 154 [(0, p_r v0), (1, p_i v1), (2, p_i v2)] [] s0 (some (p_i r.1), r.2)) : ∀ (n : Nat) (v0 : Nat) (v1 : Int) (v2 : Int) (v3 : Int) (s0 : p_Hp) (r : (Int × p_Hp)), O_Mo_copy_187 k154 n v0 v1 v2 v3 s0 = some r → p_Go K l m_Mo_copy 187 [(0, p_r v0), (1, p_i v1), (2, p_i v2), (3, p_i v3)] [] s0 (some (p_i r.1), r.2) := by
  intro n
  induction n with
  | zero => intro v0 v1 v2 v3 s0 r h; cases (show (none : Option (Int × p_Hp)) = some r from h)
  | succ n ih => intro v0 v1 v2 v3 s0 r h; exact tL_Mo_copy_187 K l k154 hk154 _ ih v0 v1 v2 v3 s0 r h
set_option maxRecDepth 100000 in
set_option maxHeartbeats 4000000 in
theorem tL_Mo_copy_154 (K : p_K) (l : Launch) (k154 : Nat → Int → Int → p_Hp → Option (Int × p_Hp)) (hk154 : ∀ (v0 : Nat) (v1 : Int) (v2 : Int)  (s0 : p_Hp) (r : (Int × p_Hp)), k154 v0 v1 v2 s0 = some r → p_Go K l m_Mo_copy 154 [(0, p_r v0), (1, p_i v1), (2, p_i v2)] [] s0 (some (p_i r.1), r.2)) (v0 : Nat) (v1 : Int) (v2 : Int) (s0 : p_Hp) (r : (Int × p_Hp)) (h : L_Mo_copy_154 k154 v0 v1 v2 s0 = some r) : p_Go K l m_Mo_copy 154 [(0, p_r v0), (1, p_i v1), (2, p_i v2)] [] s0 (some (p_i r.1), r.2) := by
  unfold L_Mo_copy_154 at h
  refine g_iload_n (i := 2) (j := 2) (dk_Mo_copy 92 rfl) rfl rfl ?_
  refine g_bipush (dk_Mo_copy 93 rfl) (by decide +kernel) (by decide) ?_
  refine g_icmp_ge 237 (dk_Mo_copy 94 rfl) (by decide) (fun b1 => ?_) (fun b1 => ?_)
  · have h := p_ifT b1 h
    refine g_aload_n (i := 0) (j := 0) (dk_Mo_copy 146 rfl) rfl rfl ?_
    refine g_aload_n (i := 0) (j := 0) (dk_Mo_copy 147 rfl) rfl rfl ?_
    obtain ⟨c2, h⟩ := p_gdE h
    refine g_getR fl_Mo_7 (Or.inr ⟨_, rfl⟩) (dk_Mo_copy 148 rfl) c2 ?_
    refine g_aload_n (i := 0) (j := 0) (dk_Mo_copy 149 rfl) rfl rfl ?_
    refine g_getI fl_Mo_227 (Or.inl rfl) (dk_Mo_copy 150 rfl) c2 ?_
    obtain ⟨c3, h⟩ := p_gdE h
    obtain ⟨c4, h⟩ := p_gdE h
    refine g_iaload (dk_Mo_copy 151 rfl) c3 c4.1 c4.2 ?_
    obtain ⟨r9, s5, q6, h⟩ := p_bdE h
    have t7 := tF_Mo_built K l v0 (p_Z s0 (p_R s0 v0 3) ((p_Z s0 v0 0) : Int).toNat) s0 _ q6
    refine g_callV (a := v0) (ci := 11) (q0 := (RX11, TX11, 90)) (As := [p_i (p_Z s0 (p_R s0 v0 3) ((p_Z s0 v0 0) : Int).toNat)]) (rest := []) [p_i r9] mt_Mo_built rfl rfl tw_7_77 ts_47 tw_7_75 ⟨Nat.le_of_ble_eq_true rfl, Nat.le_of_ble_eq_true rfl⟩ rfl (Nat.le_of_ble_eq_true rfl) (dk_Mo_copy 152 rfl) rfl c2 rfl t7 ?_
    have hs8 : p_x s0 s5 := t7.1
    show p_Go K l m_Mo_copy 250 [(0, p_r v0), (1, p_i v1), (2, p_i v2)] [p_i r9] s5 _
    cases h
    exact g_ret rfl rfl (dk_Mo_copy 153 rfl) (fun os => ⟨_, rfl, p_okh os⟩)
  · have h := p_ifF b1 h
    refine g_aload_n (i := 0) (j := 0) (dk_Mo_copy 95 rfl) rfl rfl ?_
    obtain ⟨c10, h⟩ := p_gdE h
    refine g_getR fl_Mo_168 (Or.inr ⟨_, rfl⟩) (dk_Mo_copy 96 rfl) c10 ?_
    refine g_bipush (dk_Mo_copy 97 rfl) (by decide +kernel) (by decide) ?_
    refine g_aload_n (i := 0) (j := 0) (dk_Mo_copy 98 rfl) rfl rfl ?_
    refine g_getI fl_Mo_227 (Or.inl rfl) (dk_Mo_copy 99 rfl) c10 ?_
    refine g_imul (dk_Mo_copy 100 rfl) ?_
    refine g_iload_n (i := 2) (j := 2) (dk_Mo_copy 101 rfl) rfl rfl ?_
    refine g_iadd (dk_Mo_copy 102 rfl) ?_
    refine g_aload_n (i := 0) (j := 0) (dk_Mo_copy 103 rfl) rfl rfl ?_
    refine g_getR fl_Mo_168 (Or.inr ⟨_, rfl⟩) (dk_Mo_copy 104 rfl) c10 ?_
    refine g_bipush (dk_Mo_copy 105 rfl) (by decide +kernel) (by decide) ?_
    refine g_iload_n (i := 1) (j := 1) (dk_Mo_copy 106 rfl) rfl rfl ?_
    refine g_imul (dk_Mo_copy 107 rfl) ?_
    refine g_iload_n (i := 2) (j := 2) (dk_Mo_copy 108 rfl) rfl rfl ?_
    refine g_iadd (dk_Mo_copy 109 rfl) ?_
    obtain ⟨c11, h⟩ := p_gdE h
    obtain ⟨c12, h⟩ := p_gdE h
    refine g_iaload (dk_Mo_copy 110 rfl) c11 c12.1 c12.2 ?_
    obtain ⟨c13, h⟩ := p_gdE h
    refine g_iastore (dk_Mo_copy 111 rfl) c11 c13.1 c13.2 ?_
    refine p_ltS (P := fun q => p_Go K l m_Mo_copy 185 [(0, p_r v0), (1, p_i v1), (2, p_i v2)] [] q _) (p_xZ _ _ _ _) ?_ h
    intro s14 hs15 h
    refine g_iconst (dk_Mo_copy 112 rfl) (by decide) ?_
    refine g_istore_n (i := 3) [(3, p_i 0), (0, p_r v0), (1, p_i v1), (2, p_i v2)] (dk_Mo_copy 113 rfl) rfl (by decide) rfl ?_
    refine g_sub [(0, p_r v0), (1, p_i v1), (2, p_i v2), (3, p_i 0)] [1, 2, 3, 0] rfl ?_
    exact tO_Mo_copy_187 K l k154 hk154 3000 v0 v1 v2 0 s14 _ h
set_option maxRecDepth 100000 in
set_option maxHeartbeats 4000000 in
theorem tO_Mo_copy_154 (K : p_K) (l : Launch)  : ∀ (n : Nat) (v0 : Nat) (v1 : Int) (v2 : Int) (s0 : p_Hp) (r : (Int × p_Hp)), O_Mo_copy_154 n v0 v1 v2 s0 = some r → p_Go K l m_Mo_copy 154 [(0, p_r v0), (1, p_i v1), (2, p_i v2)] [] s0 (some (p_i r.1), r.2) := by
  intro n
  induction n with
  | zero => intro v0 v1 v2 s0 r h; cases (show (none : Option (Int × p_Hp)) = some r from h)
  | succ n ih => intro v0 v1 v2 s0 r h; exact tL_Mo_copy_154 K l _ ih v0 v1 v2 s0 r h
set_option maxRecDepth 100000 in
set_option maxHeartbeats 4000000 in
theorem tL_Mo_copy_102 (K : p_K) (l : Launch) (k102 : Nat → Int → Int → p_Hp → Option (Int × p_Hp)) (hk102 : ∀ (v0 : Nat) (v1 : Int) (v2 : Int)  (s0 : p_Hp) (r : (Int × p_Hp)), k102 v0 v1 v2 s0 = some r → p_Go K l m_Mo_copy 102 [(0, p_r v0), (1, p_i v1), (2, p_i v2)] [] s0 (some (p_i r.1), r.2)) (v0 : Nat) (v1 : Int) (v2 : Int) (s0 : p_Hp) (r : (Int × p_Hp)) (h : L_Mo_copy_102 k102 v0 v1 v2 s0 = some r) : p_Go K l m_Mo_copy 102 [(0, p_r v0), (1, p_i v1), (2, p_i v2)] [] s0 (some (p_i r.1), r.2) := by
  unfold L_Mo_copy_102 at h
  refine g_iload_n (i := 2) (j := 2) (dk_Mo_copy 60 rfl) rfl rfl ?_
  refine g_aload_n (i := 0) (j := 0) (dk_Mo_copy 61 rfl) rfl rfl ?_
  obtain ⟨c1, h⟩ := p_gdE h
  refine g_getR fl_Mo_141 (Or.inr ⟨_, rfl⟩) (dk_Mo_copy 62 rfl) c1 ?_
  refine g_iload_n (i := 1) (j := 1) (dk_Mo_copy 63 rfl) rfl rfl ?_
  obtain ⟨c2, h⟩ := p_gdE h
  obtain ⟨c3, h⟩ := p_gdE h
  refine g_iaload (dk_Mo_copy 64 rfl) c2 c3.1 c3.2 ?_
  refine g_icmp_ge 137 (dk_Mo_copy 65 rfl) (by decide) (fun b4 => ?_) (fun b4 => ?_)
  · have h := p_ifT b4 h
    refine g_aload_n (i := 0) (j := 0) (dk_Mo_copy 81 rfl) rfl rfl ?_
    refine g_getR fl_Mo_165 (Or.inr ⟨_, rfl⟩) (dk_Mo_copy 82 rfl) c1 ?_
    refine g_aload_n (i := 0) (j := 0) (dk_Mo_copy 83 rfl) rfl rfl ?_
    refine g_getI fl_Mo_227 (Or.inl rfl) (dk_Mo_copy 84 rfl) c1 ?_
    refine g_aload_n (i := 0) (j := 0) (dk_Mo_copy 85 rfl) rfl rfl ?_
    refine g_getR fl_Mo_165 (Or.inr ⟨_, rfl⟩) (dk_Mo_copy 86 rfl) c1 ?_
    refine g_iload_n (i := 1) (j := 1) (dk_Mo_copy 87 rfl) rfl rfl ?_
    obtain ⟨c5, h⟩ := p_gdE h
    obtain ⟨c6, h⟩ := p_gdE h
    refine g_iaload (dk_Mo_copy 88 rfl) c5 c6.1 c6.2 ?_
    obtain ⟨c7, h⟩ := p_gdE h
    refine g_iastore (dk_Mo_copy 89 rfl) c5 c7.1 c7.2 ?_
    refine p_ltS (P := fun q => p_Go K l m_Mo_copy 152 [(0, p_r v0), (1, p_i v1), (2, p_i v2)] [] q _) (p_xZ _ _ _ _) ?_ h
    intro s8 hs9 h
    refine g_iconst (dk_Mo_copy 90 rfl) (by decide) ?_
    refine g_istore_n (i := 2) [(2, p_i 0), (0, p_r v0), (1, p_i v1)] (dk_Mo_copy 91 rfl) rfl (by decide) rfl ?_
    refine g_sub [(0, p_r v0), (1, p_i v1), (2, p_i 0)] [1, 2, 0] rfl ?_
    exact tO_Mo_copy_154 K l 3000 v0 v1 0 s8 _ h
  · have h := p_ifF b4 h
    refine g_aload_n (i := 0) (j := 0) (dk_Mo_copy 66 rfl) rfl rfl ?_
    refine g_bipush (dk_Mo_copy 67 rfl) (by decide +kernel) (by decide) ?_
    refine g_iload_n (i := 1) (j := 1) (dk_Mo_copy 68 rfl) rfl rfl ?_
    refine g_imul (dk_Mo_copy 69 rfl) ?_
    refine g_iload_n (i := 2) (j := 2) (dk_Mo_copy 70 rfl) rfl rfl ?_
    refine g_iadd (dk_Mo_copy 71 rfl) ?_
    refine g_bipush (dk_Mo_copy 72 rfl) (by decide +kernel) (by decide) ?_
    refine g_aload_n (i := 0) (j := 0) (dk_Mo_copy 73 rfl) rfl rfl ?_
    refine g_getI fl_Mo_227 (Or.inl rfl) (dk_Mo_copy 74 rfl) c1 ?_
    refine g_imul (dk_Mo_copy 75 rfl) ?_
    refine g_iload_n (i := 2) (j := 2) (dk_Mo_copy 76 rfl) rfl rfl ?_
    refine g_iadd (dk_Mo_copy 77 rfl) ?_
    obtain ⟨s10, q11, h⟩ := p_bvE h
    have t12 := tF_Mo_copyRule K l v0 (p_w ((p_w (12 * v1)) + v2)) (p_w ((p_w (12 * (p_Z s0 v0 0))) + v2)) s0 _ q11
    refine g_callV (a := v0) (ci := 11) (q0 := (RX11, TX11, 90)) (As := [p_i (p_w ((p_w (12 * v1)) + v2)), p_i (p_w ((p_w (12 * (p_Z s0 v0 0))) + v2))]) (rest := []) [] mt_Mo_copyRule rfl rfl tw_7_127 ts_52 tw_7_125 ⟨Nat.le_of_ble_eq_true rfl, Nat.le_of_ble_eq_true rfl⟩ rfl (Nat.le_of_ble_eq_true rfl) (dk_Mo_copy 78 rfl) rfl c1 rfl t12 ?_
    have hs13 : p_x s0 s10 := t12.1
    show p_Go K l m_Mo_copy 131 [(0, p_r v0), (1, p_i v1), (2, p_i v2)] [] s10 _
    refine g_iinc (j := 2) [(2, p_i (p_w (v2 + 1))), (0, p_r v0), (1, p_i v1)] (dk_Mo_copy 79 rfl) rfl (by decide) rfl ?_
    refine p_ltG (P := fun q => p_Go K l m_Mo_copy 134 [(2, p_i q), (0, p_r v0), (1, p_i v1)] [] s10 _) ?_ h
    intro x14 h
    refine g_goto 102 (dk_Mo_copy 80 rfl) (by decide) ?_
    refine g_sub [(0, p_r v0), (1, p_i v1), (2, p_i x14)] [1, 2, 0] rfl ?_
    exact hk102 v0 v1 x14 s10 _ h
set_option maxRecDepth 100000 in
set_option maxHeartbeats 4000000 in
theorem tO_Mo_copy_102 (K : p_K) (l : Launch)  : ∀ (n : Nat) (v0 : Nat) (v1 : Int) (v2 : Int) (s0 : p_Hp) (r : (Int × p_Hp)), O_Mo_copy_102 n v0 v1 v2 s0 = some r → p_Go K l m_Mo_copy 102 [(0, p_r v0), (1, p_i v1), (2, p_i v2)] [] s0 (some (p_i r.1), r.2) := by
  intro n
  induction n with
  | zero => intro v0 v1 v2 s0 r h; cases (show (none : Option (Int × p_Hp)) = some r from h)
  | succ n ih => intro v0 v1 v2 s0 r h; exact tL_Mo_copy_102 K l _ ih v0 v1 v2 s0 r h
set_option maxRecDepth 100000 in
set_option maxHeartbeats 4000000 in
theorem tL_Mo_copy_39 (K : p_K) (l : Launch) (k39 : Nat → Int → Int → p_Hp → Option (Int × p_Hp)) (hk39 : ∀ (v0 : Nat) (v1 : Int) (v2 : Int)  (s0 : p_Hp) (r : (Int × p_Hp)), k39 v0 v1 v2 s0 = some r → p_Go K l m_Mo_copy 39 [(0, p_r v0), (1, p_i v1), (2, p_i v2)] [] s0 (some (p_i r.1), r.2)) (v0 : Nat) (v1 : Int) (v2 : Int) (s0 : p_Hp) (r : (Int × p_Hp)) (h : L_Mo_copy_39 k39 v0 v1 v2 s0 = some r) : p_Go K l m_Mo_copy 39 [(0, p_r v0), (1, p_i v1), (2, p_i v2)] [] s0 (some (p_i r.1), r.2) := by
  unfold L_Mo_copy_39 at h
  refine g_iload_n (i := 2) (j := 2) (dk_Mo_copy 22 rfl) rfl rfl ?_
  refine g_aload_n (i := 0) (j := 0) (dk_Mo_copy 23 rfl) rfl rfl ?_
  obtain ⟨c1, h⟩ := p_gdE h
  refine g_getR fl_Mo_7 (Or.inr ⟨_, rfl⟩) (dk_Mo_copy 24 rfl) c1 ?_
  refine g_iload_n (i := 1) (j := 1) (dk_Mo_copy 25 rfl) rfl rfl ?_
  obtain ⟨c2, h⟩ := p_gdE h
  obtain ⟨c3, h⟩ := p_gdE h
  refine g_iaload (dk_Mo_copy 26 rfl) c2 c3.1 c3.2 ?_
  refine g_icmp_ge 70 (dk_Mo_copy 27 rfl) (by decide) (fun b4 => ?_) (fun b4 => ?_)
  · have h := p_ifT b4 h
    refine g_aload_n (i := 0) (j := 0) (dk_Mo_copy 40 rfl) rfl rfl ?_
    refine g_getR fl_Mo_7 (Or.inr ⟨_, rfl⟩) (dk_Mo_copy 41 rfl) c1 ?_
    refine g_aload_n (i := 0) (j := 0) (dk_Mo_copy 42 rfl) rfl rfl ?_
    refine g_getI fl_Mo_227 (Or.inl rfl) (dk_Mo_copy 43 rfl) c1 ?_
    refine g_aload_n (i := 0) (j := 0) (dk_Mo_copy 44 rfl) rfl rfl ?_
    refine g_getR fl_Mo_7 (Or.inr ⟨_, rfl⟩) (dk_Mo_copy 45 rfl) c1 ?_
    refine g_iload_n (i := 1) (j := 1) (dk_Mo_copy 46 rfl) rfl rfl ?_
    obtain ⟨c5, h⟩ := p_gdE h
    refine g_iaload (dk_Mo_copy 47 rfl) c2 c5.1 c5.2 ?_
    obtain ⟨c6, h⟩ := p_gdE h
    refine g_iastore (dk_Mo_copy 48 rfl) c2 c6.1 c6.2 ?_
    refine p_ltS (P := fun q => p_Go K l m_Mo_copy 85 [(0, p_r v0), (1, p_i v1), (2, p_i v2)] [] q _) (p_xZ _ _ _ _) ?_ h
    intro s7 hs8 h
    refine g_aload_n (i := 0) (j := 0) (dk_Mo_copy 49 rfl) rfl rfl ?_
    refine g_getR fl_Mo_141 (Or.inr ⟨_, rfl⟩) (dk_Mo_copy 50 rfl) (c1.up hs8) ?_
    refine g_aload_n (i := 0) (j := 0) (dk_Mo_copy 51 rfl) rfl rfl ?_
    refine g_getI fl_Mo_227 (Or.inl rfl) (dk_Mo_copy 52 rfl) (c1.up hs8) ?_
    refine g_aload_n (i := 0) (j := 0) (dk_Mo_copy 53 rfl) rfl rfl ?_
    refine g_getR fl_Mo_141 (Or.inr ⟨_, rfl⟩) (dk_Mo_copy 54 rfl) (c1.up hs8) ?_
    refine g_iload_n (i := 1) (j := 1) (dk_Mo_copy 55 rfl) rfl rfl ?_
    obtain ⟨c9, h⟩ := p_gdE h
    obtain ⟨c10, h⟩ := p_gdE h
    refine g_iaload (dk_Mo_copy 56 rfl) c9 c10.1 c10.2 ?_
    obtain ⟨c11, h⟩ := p_gdE h
    refine g_iastore (dk_Mo_copy 57 rfl) c9 c11.1 c11.2 ?_
    refine p_ltS (P := fun q => p_Go K l m_Mo_copy 100 [(0, p_r v0), (1, p_i v1), (2, p_i v2)] [] q _) (p_xZ _ _ _ _) ?_ h
    intro s12 hs13 h
    refine g_iconst (dk_Mo_copy 58 rfl) (by decide) ?_
    refine g_istore_n (i := 2) [(2, p_i 0), (0, p_r v0), (1, p_i v1)] (dk_Mo_copy 59 rfl) rfl (by decide) rfl ?_
    refine g_sub [(0, p_r v0), (1, p_i v1), (2, p_i 0)] [1, 2, 0] rfl ?_
    exact tO_Mo_copy_102 K l 3000 v0 v1 0 s12 _ h
  · have h := p_ifF b4 h
    refine g_aload_n (i := 0) (j := 0) (dk_Mo_copy 28 rfl) rfl rfl ?_
    refine g_bipush (dk_Mo_copy 29 rfl) (by decide +kernel) (by decide) ?_
    refine g_iload_n (i := 1) (j := 1) (dk_Mo_copy 30 rfl) rfl rfl ?_
    refine g_imul (dk_Mo_copy 31 rfl) ?_
    refine g_iload_n (i := 2) (j := 2) (dk_Mo_copy 32 rfl) rfl rfl ?_
    refine g_iadd (dk_Mo_copy 33 rfl) ?_
    refine g_aload_n (i := 0) (j := 0) (dk_Mo_copy 34 rfl) rfl rfl ?_
    refine g_iload_n (i := 2) (j := 2) (dk_Mo_copy 35 rfl) rfl rfl ?_
    obtain ⟨r18, s14, q15, h⟩ := p_bdE h
    have t16 := tF_Mo_g K l v0 v2 s0 _ q15
    refine g_callV (a := v0) (ci := 11) (q0 := (RX11, TX11, 90)) (As := [p_i v2]) (rest := [p_i (p_w ((p_w (40 * v1)) + v2)), p_r v0]) [p_i r18, p_i (p_w ((p_w (40 * v1)) + v2)), p_r v0] mt_Mo_g rfl rfl tw_7_63 ts_45 tw_7_61 ⟨Nat.le_of_ble_eq_true rfl, Nat.le_of_ble_eq_true rfl⟩ rfl (Nat.le_of_ble_eq_true rfl) (dk_Mo_copy 36 rfl) rfl c1 rfl t16 ?_
    have hs17 : p_x s0 s14 := t16.1
    show p_Go K l m_Mo_copy 61 [(0, p_r v0), (1, p_i v1), (2, p_i v2)] [p_i r18, p_i (p_w ((p_w (40 * v1)) + v2)), p_r v0] s14 _
    obtain ⟨s19, q20, h⟩ := p_bvE h
    have t21 := tF_Mo_copyGear K l v0 (p_w ((p_w (40 * v1)) + v2)) r18 s14 _ q20
    refine g_callV (a := v0) (ci := 11) (q0 := (RX11, TX11, 90)) (As := [p_i (p_w ((p_w (40 * v1)) + v2)), p_i r18]) (rest := []) [] mt_Mo_copyGear rfl rfl tw_7_123 ts_51 tw_7_121 ⟨Nat.le_of_ble_eq_true rfl, Nat.le_of_ble_eq_true rfl⟩ rfl (Nat.le_of_ble_eq_true rfl) (dk_Mo_copy 37 rfl) rfl (c1.up hs17) rfl t21 ?_
    have hs22 : p_x s14 s19 := t21.1
    show p_Go K l m_Mo_copy 64 [(0, p_r v0), (1, p_i v1), (2, p_i v2)] [] s19 _
    refine g_iinc (j := 2) [(2, p_i (p_w (v2 + 1))), (0, p_r v0), (1, p_i v1)] (dk_Mo_copy 38 rfl) rfl (by decide) rfl ?_
    refine p_ltG (P := fun q => p_Go K l m_Mo_copy 67 [(2, p_i q), (0, p_r v0), (1, p_i v1)] [] s19 _) ?_ h
    intro x23 h
    refine g_goto 39 (dk_Mo_copy 39 rfl) (by decide) ?_
    refine g_sub [(0, p_r v0), (1, p_i v1), (2, p_i x23)] [1, 2, 0] rfl ?_
    exact hk39 v0 v1 x23 s19 _ h
set_option maxRecDepth 100000 in
set_option maxHeartbeats 4000000 in
theorem tO_Mo_copy_39 (K : p_K) (l : Launch)  : ∀ (n : Nat) (v0 : Nat) (v1 : Int) (v2 : Int) (s0 : p_Hp) (r : (Int × p_Hp)), O_Mo_copy_39 n v0 v1 v2 s0 = some r → p_Go K l m_Mo_copy 39 [(0, p_r v0), (1, p_i v1), (2, p_i v2)] [] s0 (some (p_i r.1), r.2) := by
  intro n
  induction n with
  | zero => intro v0 v1 v2 s0 r h; cases (show (none : Option (Int × p_Hp)) = some r from h)
  | succ n ih => intro v0 v1 v2 s0 r h; exact tL_Mo_copy_39 K l _ ih v0 v1 v2 s0 r h
set_option maxRecDepth 100000 in
set_option maxHeartbeats 4000000 in
theorem tF_Mo_copy (K : p_K) (l : Launch) (v0 : Nat) (v1 : Int) (s0 : p_Hp) (r : (Int × p_Hp)) (h : F_Mo_copy v0 v1 s0 = some r) : p_Ct K l m_Mo_copy [p_r v0, p_i v1] s0 (some (p_i r.1), r.2) := by
  refine p_Ct.of (by decide +kernel) (Nat.le_of_ble_eq_true rfl) ?_
  unfold F_Mo_copy at h
  show p_Go K l m_Mo_copy 0 [(0, p_r v0), (1, p_i v1)] [] s0 _
  refine g_iload_n (i := 1) (j := 1) (dk_Mo_copy 0 rfl) rfl rfl ?_
  refine g_i2l (dk_Mo_copy 1 rfl) ?_
  refine g_lconst (x := 0) (dk_Mo_copy 2 rfl) rfl (by decide) ?_
  refine g_ldc2_w (x := 2) (dk_Mo_copy 3 rfl) tw_7_40 (by decide) (by decide) ?_
  obtain ⟨r5, s1, q2, h⟩ := p_bdE h
  have t3 := tF_Mo_beyond K l v1 0 2 s0 _ q2
  refine g_callS (av := [p_j v1, p_j 0, p_j 2]) (rest := []) [p_i r5] mt_Mo_beyond tw_7_42 tw_7_41 ⟨Nat.le_of_ble_eq_true rfl, Nat.le_of_ble_eq_true rfl⟩ rfl (Nat.le_of_ble_eq_true rfl) (dk_Mo_copy 4 rfl) rfl rfl t3 ?_
  have hs4 : p_x s0 s1 := t3.1
  show p_Go K l m_Mo_copy 9 [(0, p_r v0), (1, p_i v1)] [p_i r5] s1 _
  refine g_if_eq 18 (dk_Mo_copy 5 rfl) (by decide) (fun b6 => ?_) (fun b6 => ?_)
  · have h := p_ifT b6 h
    refine g_aload_n (i := 0) (j := 0) (dk_Mo_copy 10 rfl) rfl rfl ?_
    obtain ⟨c7, h⟩ := p_gdE h
    refine g_getR fl_Mo_7 (Or.inr ⟨_, rfl⟩) (dk_Mo_copy 11 rfl) c7 ?_
    refine g_aload_n (i := 0) (j := 0) (dk_Mo_copy 12 rfl) rfl rfl ?_
    refine g_getI fl_Mo_227 (Or.inl rfl) (dk_Mo_copy 13 rfl) c7 ?_
    obtain ⟨c8, h⟩ := p_gdE h
    obtain ⟨c9, h⟩ := p_gdE h
    refine g_iaload (dk_Mo_copy 14 rfl) c8 c9.1 c9.2 ?_
    refine g_if_le 37 (dk_Mo_copy 15 rfl) (by decide) (fun b10 => ?_) (fun b10 => ?_)
    · have h := p_ifT b10 h
      refine g_iconst (dk_Mo_copy 20 rfl) (by decide) ?_
      refine g_istore_n (i := 2) [(2, p_i 0), (0, p_r v0), (1, p_i v1)] (dk_Mo_copy 21 rfl) rfl (by decide) rfl ?_
      refine g_sub [(0, p_r v0), (1, p_i v1), (2, p_i 0)] [1, 2, 0] rfl ?_
      exact tO_Mo_copy_39 K l 3000 v0 v1 0 s1 _ h
    · have h := p_ifF b10 h
      refine g_aload_n (i := 0) (j := 0) (dk_Mo_copy 16 rfl) rfl rfl ?_
      refine g_bipush (dk_Mo_copy 17 rfl) (by decide +kernel) (by decide) ?_
      obtain ⟨r15, s11, q12, h⟩ := p_bdE h
      have t13 := tF_Mo_refused K l v0 (-3) s1 _ q12
      refine g_callV (a := v0) (ci := 11) (q0 := (RX11, TX11, 90)) (As := [p_i (-3)]) (rest := []) [p_i r15] mt_Mo_refused rfl rfl tw_7_46 ts_43 tw_7_44 ⟨Nat.le_of_ble_eq_true rfl, Nat.le_of_ble_eq_true rfl⟩ rfl (Nat.le_of_ble_eq_true rfl) (dk_Mo_copy 18 rfl) rfl c7 rfl t13 ?_
      have hs14 : p_x s1 s11 := t13.1
      show p_Go K l m_Mo_copy 36 [(0, p_r v0), (1, p_i v1)] [p_i r15] s11 _
      cases h
      exact g_ret rfl rfl (dk_Mo_copy 19 rfl) (fun os => ⟨_, rfl, p_okh os⟩)
  · have h := p_ifF b6 h
    refine g_aload_n (i := 0) (j := 0) (dk_Mo_copy 6 rfl) rfl rfl ?_
    refine g_iconst (dk_Mo_copy 7 rfl) (by decide) ?_
    obtain ⟨c16, h⟩ := p_gdE h
    obtain ⟨r21, s17, q18, h⟩ := p_bdE h
    have t19 := tF_Mo_refused K l v0 (-1) s1 _ q18
    refine g_callV (a := v0) (ci := 11) (q0 := (RX11, TX11, 90)) (As := [p_i (-1)]) (rest := []) [p_i r21] mt_Mo_refused rfl rfl tw_7_46 ts_43 tw_7_44 ⟨Nat.le_of_ble_eq_true rfl, Nat.le_of_ble_eq_true rfl⟩ rfl (Nat.le_of_ble_eq_true rfl) (dk_Mo_copy 8 rfl) rfl c16 rfl t19 ?_
    have hs20 : p_x s1 s17 := t19.1
    show p_Go K l m_Mo_copy 17 [(0, p_r v0), (1, p_i v1)] [p_i r21] s17 _
    cases h
    exact g_ret rfl rfl (dk_Mo_copy 9 rfl) (fun os => ⟨_, rfl, p_okh os⟩)
def m_Mo_letter : p_Me := (⟨"SortWorksModel", "letter", "(I)I"⟩, prog_13_method_27_code, 2, (some .int), 1, 25)
theorem mt_Mo_letter : p_Mt m_Mo_letter 1 := ⟨p_mem (p_tb7 (List.mem_of_getElem? (i := 132) rfl)) rfl, tw_1_12, by decide +kernel, by decide +kernel, by decide +kernel⟩
def dt_Mo_letter : List (Nat × Instr × Nat) := [(0, .iload_n 1, 1), (1, .i2l, 1), (2, .ldc2_w 291, 3), (5, .ldc2_w 293, 3), (8, .invokestatic 230, 3), (11, .ifCond .eq 10, 3), (14, .aload_n 0, 1), (15, .bipush (-2), 2), (17, .invokevirtual 240, 3), (20, .ireturn, 1), (21, .aload_n 0, 1), (22, .getfield 295, 3), (25, .sipush 200, 3), (28, .if_icmp .ne 10, 3), (31, .aload_n 0, 1), (32, .bipush (-4), 2), (34, .invokevirtual 240, 3), (37, .ireturn, 1), (38, .aload_n 0, 1), (39, .getfield 138, 3), (42, .aload_n 0, 1), (43, .getfield 295, 3), (46, .iload_n 1, 1), (47, .iastore, 1), (48, .aload_n 0, 1), (49, .dup, 1), (50, .getfield 295, 3), (53, .iconst 1, 1), (54, .iadd, 1), (55, .putfield 295, 3), (58, .aload_n 0, 1), (59, .aload_n 0, 1), (60, .getfield 295, 3), (63, .invokevirtual 244, 3), (66, .ireturn, 1)]
theorem dk_Mo_letter (i : Nat) {pc : Nat} {ins : Instr} {len : Nat} (h : dt_Mo_letter[i]? = some (pc, ins, len)) : decode m_Mo_letter.2.1 pc = .ok (ins, len) := p_dk (b := m_Mo_letter.2.1) (t := dt_Mo_letter) (by decide +kernel) i h
def F_Mo_letter (v0 : Nat) (v1 : Int) (s0 : p_Hp) : Option (Int × p_Hp) :=
  p_bd (F_Mo_beyond v1 33 126 s0) fun r5 s1 =>
  if r5 = 0 then
    p_gd (p_is s1 v0 11) <|
    if (p_Z s1 v0 47) ≠ 200 then
      p_gd (p_is s1 (p_R s1 v0 46) 100) <|
      p_gd ((0 : Int) ≤ (p_Z s1 v0 47) ∧ (p_Z s1 v0 47) < (p_L s1 (p_R s1 v0 46) : Int)) <|
      p_bi (p_wZ s1 (p_R s1 v0 46) ((p_Z s1 v0 47) : Int).toNat v1) fun s11 =>
      p_bi (p_wZ s11 v0 47 (p_w ((p_Z s11 v0 47) + 1))) fun s13 =>
      p_bd (F_Mo_well v0 (p_Z s13 v0 47) s13) fun r19 s15 =>
      some (r19, s15)
    else
      p_bd (F_Mo_refused v0 (-4) s1) fun r24 s20 =>
      some (r24, s20)
  else
    p_gd (p_is s1 v0 11) <|
    p_bd (F_Mo_refused v0 (-2) s1) fun r30 s26 =>
    some (r30, s26)
set_option maxRecDepth 100000 in
set_option maxHeartbeats 4000000 in
theorem tF_Mo_letter (K : p_K) (l : Launch) (v0 : Nat) (v1 : Int) (s0 : p_Hp) (r : (Int × p_Hp)) (h : F_Mo_letter v0 v1 s0 = some r) : p_Ct K l m_Mo_letter [p_r v0, p_i v1] s0 (some (p_i r.1), r.2) := by
  refine p_Ct.of (by decide +kernel) (Nat.le_of_ble_eq_true rfl) ?_
  unfold F_Mo_letter at h
  show p_Go K l m_Mo_letter 0 [(0, p_r v0), (1, p_i v1)] [] s0 _
  refine g_iload_n (i := 1) (j := 1) (dk_Mo_letter 0 rfl) rfl rfl ?_
  refine g_i2l (dk_Mo_letter 1 rfl) ?_
  refine g_ldc2_w (x := 33) (dk_Mo_letter 2 rfl) tw_7_133 (by decide) (by decide) ?_
  refine g_ldc2_w (x := 126) (dk_Mo_letter 3 rfl) tw_7_134 (by decide) (by decide) ?_
  obtain ⟨r5, s1, q2, h⟩ := p_bdE h
  have t3 := tF_Mo_beyond K l v1 33 126 s0 _ q2
  refine g_callS (av := [p_j v1, p_j 33, p_j 126]) (rest := []) [p_i r5] mt_Mo_beyond tw_7_42 tw_7_41 ⟨Nat.le_of_ble_eq_true rfl, Nat.le_of_ble_eq_true rfl⟩ rfl (Nat.le_of_ble_eq_true rfl) (dk_Mo_letter 4 rfl) rfl rfl t3 ?_
  have hs4 : p_x s0 s1 := t3.1
  show p_Go K l m_Mo_letter 11 [(0, p_r v0), (1, p_i v1)] [p_i r5] s1 _
  refine g_if_eq 21 (dk_Mo_letter 5 rfl) (by decide) (fun b6 => ?_) (fun b6 => ?_)
  · have h := p_ifT b6 h
    refine g_aload_n (i := 0) (j := 0) (dk_Mo_letter 10 rfl) rfl rfl ?_
    obtain ⟨c7, h⟩ := p_gdE h
    refine g_getI fl_Mo_295 (Or.inl rfl) (dk_Mo_letter 11 rfl) c7 ?_
    refine g_sipush (dk_Mo_letter 12 rfl) (by decide +kernel) (by decide) ?_
    refine g_icmp_ne 38 (dk_Mo_letter 13 rfl) (by decide) (fun b8 => ?_) (fun b8 => ?_)
    · have h := p_ifT b8 h
      refine g_aload_n (i := 0) (j := 0) (dk_Mo_letter 18 rfl) rfl rfl ?_
      refine g_getR fl_Mo_138 (Or.inr ⟨_, rfl⟩) (dk_Mo_letter 19 rfl) c7 ?_
      refine g_aload_n (i := 0) (j := 0) (dk_Mo_letter 20 rfl) rfl rfl ?_
      refine g_getI fl_Mo_295 (Or.inl rfl) (dk_Mo_letter 21 rfl) c7 ?_
      refine g_iload_n (i := 1) (j := 1) (dk_Mo_letter 22 rfl) rfl rfl ?_
      obtain ⟨c9, h⟩ := p_gdE h
      obtain ⟨c10, h⟩ := p_gdE h
      refine g_iastore (dk_Mo_letter 23 rfl) c9 c10.1 c10.2 ?_
      refine p_ltS (P := fun q => p_Go K l m_Mo_letter 48 [(0, p_r v0), (1, p_i v1)] [] q _) (p_xZ _ _ _ _) ?_ h
      intro s11 hs12 h
      refine g_aload_n (i := 0) (j := 0) (dk_Mo_letter 24 rfl) rfl rfl ?_
      refine g_dup (dk_Mo_letter 25 rfl) rfl ?_
      refine g_getI fl_Mo_295 (Or.inl rfl) (dk_Mo_letter 26 rfl) (c7.up hs12) ?_
      refine g_iconst (dk_Mo_letter 27 rfl) (by decide) ?_
      refine g_iadd (dk_Mo_letter 28 rfl) ?_
      refine g_putI fl_Mo_295 (Or.inl rfl) (dk_Mo_letter 29 rfl) (c7.up hs12) ?_
      refine p_ltS (P := fun q => p_Go K l m_Mo_letter 58 [(0, p_r v0), (1, p_i v1)] [] q _) (p_xZ _ _ _ _) ?_ h
      intro s13 hs14 h
      refine g_aload_n (i := 0) (j := 0) (dk_Mo_letter 30 rfl) rfl rfl ?_
      refine g_aload_n (i := 0) (j := 0) (dk_Mo_letter 31 rfl) rfl rfl ?_
      refine g_getI fl_Mo_295 (Or.inl rfl) (dk_Mo_letter 32 rfl) (c7.up (hs12.trans hs14)) ?_
      obtain ⟨r19, s15, q16, h⟩ := p_bdE h
      have t17 := tF_Mo_well K l v0 (p_Z s13 v0 47) s13 _ q16
      refine g_callV (a := v0) (ci := 11) (q0 := (RX11, TX11, 90)) (As := [p_i (p_Z s13 v0 47)]) (rest := []) [p_i r19] mt_Mo_well rfl rfl tw_7_50 ts_44 tw_7_48 ⟨Nat.le_of_ble_eq_true rfl, Nat.le_of_ble_eq_true rfl⟩ rfl (Nat.le_of_ble_eq_true rfl) (dk_Mo_letter 33 rfl) rfl (c7.up (hs12.trans hs14)) rfl t17 ?_
      have hs18 : p_x s13 s15 := t17.1
      show p_Go K l m_Mo_letter 66 [(0, p_r v0), (1, p_i v1)] [p_i r19] s15 _
      cases h
      exact g_ret rfl rfl (dk_Mo_letter 34 rfl) (fun os => ⟨_, rfl, p_okh os⟩)
    · have h := p_ifF b8 h
      refine g_aload_n (i := 0) (j := 0) (dk_Mo_letter 14 rfl) rfl rfl ?_
      refine g_bipush (dk_Mo_letter 15 rfl) (by decide +kernel) (by decide) ?_
      obtain ⟨r24, s20, q21, h⟩ := p_bdE h
      have t22 := tF_Mo_refused K l v0 (-4) s1 _ q21
      refine g_callV (a := v0) (ci := 11) (q0 := (RX11, TX11, 90)) (As := [p_i (-4)]) (rest := []) [p_i r24] mt_Mo_refused rfl rfl tw_7_46 ts_43 tw_7_44 ⟨Nat.le_of_ble_eq_true rfl, Nat.le_of_ble_eq_true rfl⟩ rfl (Nat.le_of_ble_eq_true rfl) (dk_Mo_letter 16 rfl) rfl c7 rfl t22 ?_
      have hs23 : p_x s1 s20 := t22.1
      show p_Go K l m_Mo_letter 37 [(0, p_r v0), (1, p_i v1)] [p_i r24] s20 _
      cases h
      exact g_ret rfl rfl (dk_Mo_letter 17 rfl) (fun os => ⟨_, rfl, p_okh os⟩)
  · have h := p_ifF b6 h
    refine g_aload_n (i := 0) (j := 0) (dk_Mo_letter 6 rfl) rfl rfl ?_
    refine g_bipush (dk_Mo_letter 7 rfl) (by decide +kernel) (by decide) ?_
    obtain ⟨c25, h⟩ := p_gdE h
    obtain ⟨r30, s26, q27, h⟩ := p_bdE h
    have t28 := tF_Mo_refused K l v0 (-2) s1 _ q27
    refine g_callV (a := v0) (ci := 11) (q0 := (RX11, TX11, 90)) (As := [p_i (-2)]) (rest := []) [p_i r30] mt_Mo_refused rfl rfl tw_7_46 ts_43 tw_7_44 ⟨Nat.le_of_ble_eq_true rfl, Nat.le_of_ble_eq_true rfl⟩ rfl (Nat.le_of_ble_eq_true rfl) (dk_Mo_letter 8 rfl) rfl c25 rfl t28 ?_
    have hs29 : p_x s1 s26 := t28.1
    show p_Go K l m_Mo_letter 20 [(0, p_r v0), (1, p_i v1)] [p_i r30] s26 _
    cases h
    exact g_ret rfl rfl (dk_Mo_letter 9 rfl) (fun os => ⟨_, rfl, p_okh os⟩)
def m_Mo_here : p_Me := (⟨"SortWorksModel", "here", "()I"⟩, prog_13_method_28_code, 1, (some .int), 0, 0)
theorem mt_Mo_here : p_Mt m_Mo_here 0 := ⟨p_mem (p_tb7 (List.mem_of_getElem? (i := 150) rfl)) rfl, tw_1_12, by decide +kernel, by decide +kernel, by decide +kernel⟩
def dt_Mo_here : List (Nat × Instr × Nat) := [(0, .aload_n 0, 1), (1, .getfield 298, 3), (4, .aload_n 0, 1), (5, .getfield 295, 3), (8, .if_icmp .ge 15, 3), (11, .aload_n 0, 1), (12, .getfield 138, 3), (15, .aload_n 0, 1), (16, .getfield 298, 3), (19, .iaload, 1), (20, .goto 4, 3), (23, .iconst 0, 1), (24, .ireturn, 1)]
theorem dk_Mo_here (i : Nat) {pc : Nat} {ins : Instr} {len : Nat} (h : dt_Mo_here[i]? = some (pc, ins, len)) : decode m_Mo_here.2.1 pc = .ok (ins, len) := p_dk (b := m_Mo_here.2.1) (t := dt_Mo_here) (by decide +kernel) i h
def F_Mo_here (v0 : Nat) (s0 : p_Hp) : Option (Int × p_Hp) :=
  p_gd (p_is s0 v0 11) <|
  if (p_Z s0 v0 47) ≤ (p_Z s0 v0 68) then
    some (0, s0)
  else
    p_gd (p_is s0 (p_R s0 v0 46) 100) <|
    p_gd ((0 : Int) ≤ (p_Z s0 v0 68) ∧ (p_Z s0 v0 68) < (p_L s0 (p_R s0 v0 46) : Int)) <|
    some ((p_Z s0 (p_R s0 v0 46) ((p_Z s0 v0 68) : Int).toNat), s0)
set_option maxRecDepth 100000 in
set_option maxHeartbeats 4000000 in
theorem tF_Mo_here (K : p_K) (l : Launch) (v0 : Nat) (s0 : p_Hp) (r : (Int × p_Hp)) (h : F_Mo_here v0 s0 = some r) : p_Ct K l m_Mo_here [p_r v0] s0 (some (p_i r.1), r.2) := by
  refine p_Ct.of (by decide +kernel) (Nat.le_of_ble_eq_true rfl) ?_
  unfold F_Mo_here at h
  show p_Go K l m_Mo_here 0 [(0, p_r v0)] [] s0 _
  refine g_aload_n (i := 0) (j := 0) (dk_Mo_here 0 rfl) rfl rfl ?_
  obtain ⟨c1, h⟩ := p_gdE h
  refine g_getI fl_Mo_298 (Or.inl rfl) (dk_Mo_here 1 rfl) c1 ?_
  refine g_aload_n (i := 0) (j := 0) (dk_Mo_here 2 rfl) rfl rfl ?_
  refine g_getI fl_Mo_295 (Or.inl rfl) (dk_Mo_here 3 rfl) c1 ?_
  refine g_icmp_ge 23 (dk_Mo_here 4 rfl) (by decide) (fun b2 => ?_) (fun b2 => ?_)
  · have h := p_ifT b2 h
    refine g_iconst (dk_Mo_here 11 rfl) (by decide) ?_
    cases h
    exact g_ret rfl rfl (dk_Mo_here 12 rfl) (fun os => ⟨_, rfl, p_okh os⟩)
  · have h := p_ifF b2 h
    refine g_aload_n (i := 0) (j := 0) (dk_Mo_here 5 rfl) rfl rfl ?_
    refine g_getR fl_Mo_138 (Or.inr ⟨_, rfl⟩) (dk_Mo_here 6 rfl) c1 ?_
    refine g_aload_n (i := 0) (j := 0) (dk_Mo_here 7 rfl) rfl rfl ?_
    refine g_getI fl_Mo_298 (Or.inl rfl) (dk_Mo_here 8 rfl) c1 ?_
    obtain ⟨c3, h⟩ := p_gdE h
    obtain ⟨c4, h⟩ := p_gdE h
    refine g_iaload (dk_Mo_here 9 rfl) c3 c4.1 c4.2 ?_
    refine g_goto 24 (dk_Mo_here 10 rfl) (by decide) ?_
    cases h
    exact g_ret rfl rfl (dk_Mo_here 12 rfl) (fun os => ⟨_, rfl, p_okh os⟩)
def m_Mo_isDigit : p_Me := (⟨"SortWorksModel", "isDigit", "(I)Z"⟩, prog_13_method_30_code, 1, (some .boolean), 0, 0)
theorem mt_Mo_isDigit : p_Mt m_Mo_isDigit 1 := ⟨p_mem (p_tb7 (List.mem_of_getElem? (i := 161) rfl)) rfl, tw_1_12, by decide +kernel, by decide +kernel, by decide +kernel⟩
def dt_Mo_isDigit : List (Nat × Instr × Nat) := [(0, .iload_n 0, 1), (1, .bipush 48, 2), (3, .if_icmp .lt 13, 3), (6, .iload_n 0, 1), (7, .bipush 57, 2), (9, .if_icmp .gt 7, 3), (12, .iconst 1, 1), (13, .goto 4, 3), (16, .iconst 0, 1), (17, .ireturn, 1)]
theorem dk_Mo_isDigit (i : Nat) {pc : Nat} {ins : Instr} {len : Nat} (h : dt_Mo_isDigit[i]? = some (pc, ins, len)) : decode m_Mo_isDigit.2.1 pc = .ok (ins, len) := p_dk (b := m_Mo_isDigit.2.1) (t := dt_Mo_isDigit) (by decide +kernel) i h
def F_Mo_isDigit (v0 : Int) (s0 : p_Hp) : Option (Int × p_Hp) :=
  if v0 < 48 then
    some (0, s0)
  else
    if 57 < v0 then
      some (0, s0)
    else
      some (1, s0)
set_option maxRecDepth 100000 in
set_option maxHeartbeats 4000000 in
theorem tF_Mo_isDigit (K : p_K) (l : Launch) (v0 : Int) (s0 : p_Hp) (r : (Int × p_Hp)) (h : F_Mo_isDigit v0 s0 = some r) : p_Ct K l m_Mo_isDigit [p_i v0] s0 (some (p_i r.1), r.2) := by
  refine p_Ct.of (by decide +kernel) (Nat.le_of_ble_eq_true rfl) ?_
  unfold F_Mo_isDigit at h
  show p_Go K l m_Mo_isDigit 0 [(0, p_i v0)] [] s0 _
  refine g_iload_n (i := 0) (j := 0) (dk_Mo_isDigit 0 rfl) rfl rfl ?_
  refine g_bipush (dk_Mo_isDigit 1 rfl) (by decide +kernel) (by decide) ?_
  refine g_icmp_lt 16 (dk_Mo_isDigit 2 rfl) (by decide) (fun b1 => ?_) (fun b1 => ?_)
  · have h := p_ifT b1 h
    refine g_iconst (dk_Mo_isDigit 8 rfl) (by decide) ?_
    cases h
    exact g_ret rfl rfl (dk_Mo_isDigit 9 rfl) (fun _ => ⟨_, rfl, Or.inl rfl⟩)
  · have h := p_ifF b1 h
    refine g_iload_n (i := 0) (j := 0) (dk_Mo_isDigit 3 rfl) rfl rfl ?_
    refine g_bipush (dk_Mo_isDigit 4 rfl) (by decide +kernel) (by decide) ?_
    refine g_icmp_gt 16 (dk_Mo_isDigit 5 rfl) (by decide) (fun b2 => ?_) (fun b2 => ?_)
    · have h := p_ifT b2 h
      refine g_iconst (dk_Mo_isDigit 8 rfl) (by decide) ?_
      cases h
      exact g_ret rfl rfl (dk_Mo_isDigit 9 rfl) (fun _ => ⟨_, rfl, Or.inl rfl⟩)
    · have h := p_ifF b2 h
      refine g_iconst (dk_Mo_isDigit 6 rfl) (by decide) ?_
      refine g_goto 17 (dk_Mo_isDigit 7 rfl) (by decide) ?_
      cases h
      exact g_ret rfl rfl (dk_Mo_isDigit 9 rfl) (fun _ => ⟨_, rfl, Or.inr rfl⟩)
def m_Mo_wrong : p_Me := (⟨"SortWorksModel", "wrong", "(I)Z"⟩, prog_13_method_29_code, 2, (some .boolean), 0, 0)
theorem mt_Mo_wrong : p_Mt m_Mo_wrong 1 := ⟨p_mem (p_tb7 (List.mem_of_getElem? (i := 146) rfl)) rfl, tw_1_12, by decide +kernel, by decide +kernel, by decide +kernel⟩
def dt_Mo_wrong : List (Nat × Instr × Nat) := [(0, .aload_n 0, 1), (1, .iload_n 1, 1), (2, .putfield 301, 3), (5, .iconst 0, 1), (6, .ireturn, 1)]
theorem dk_Mo_wrong (i : Nat) {pc : Nat} {ins : Instr} {len : Nat} (h : dt_Mo_wrong[i]? = some (pc, ins, len)) : decode m_Mo_wrong.2.1 pc = .ok (ins, len) := p_dk (b := m_Mo_wrong.2.1) (t := dt_Mo_wrong) (by decide +kernel) i h
def F_Mo_wrong (v0 : Nat) (v1 : Int) (s0 : p_Hp) : Option (Int × p_Hp) :=
  p_gd (p_is s0 v0 11) <|
  p_bi (p_wZ s0 v0 69 v1) fun s2 =>
  some (0, s2)
set_option maxRecDepth 100000 in
set_option maxHeartbeats 4000000 in
theorem tF_Mo_wrong (K : p_K) (l : Launch) (v0 : Nat) (v1 : Int) (s0 : p_Hp) (r : (Int × p_Hp)) (h : F_Mo_wrong v0 v1 s0 = some r) : p_Ct K l m_Mo_wrong [p_r v0, p_i v1] s0 (some (p_i r.1), r.2) := by
  refine p_Ct.of (by decide +kernel) (Nat.le_of_ble_eq_true rfl) ?_
  unfold F_Mo_wrong at h
  show p_Go K l m_Mo_wrong 0 [(0, p_r v0), (1, p_i v1)] [] s0 _
  refine g_aload_n (i := 0) (j := 0) (dk_Mo_wrong 0 rfl) rfl rfl ?_
  refine g_iload_n (i := 1) (j := 1) (dk_Mo_wrong 1 rfl) rfl rfl ?_
  obtain ⟨c1, h⟩ := p_gdE h
  refine g_putI fl_Mo_301 (Or.inl rfl) (dk_Mo_wrong 2 rfl) c1 ?_
  refine p_ltS (P := fun q => p_Go K l m_Mo_wrong 5 [(0, p_r v0), (1, p_i v1)] [] q _) (p_xZ _ _ _ _) ?_ h
  intro s2 hs3 h
  refine g_iconst (dk_Mo_wrong 3 rfl) (by decide) ?_
  cases h
  exact g_ret rfl rfl (dk_Mo_wrong 4 rfl) (fun _ => ⟨_, rfl, Or.inl rfl⟩)
def m_Mo_number : p_Me := (⟨"SortWorksModel", "number", "()Z"⟩, prog_13_method_31_code, 2, (some .boolean), 1, 21)
theorem mt_Mo_number : p_Mt m_Mo_number 0 := ⟨p_mem (p_tb7 (List.mem_of_getElem? (i := 158) rfl)) rfl, tw_1_12, by decide +kernel, by decide +kernel, by decide +kernel⟩
def dt_Mo_number : List (Nat × Instr × Nat) := [(0, .aload_n 0, 1), (1, .invokevirtual 304, 3), (4, .invokestatic 308, 3), (7, .ifCond .ne 12, 3), (10, .aload_n 0, 1), (11, .aload_n 0, 1), (12, .getfield 298, 3), (15, .invokevirtual 311, 3), (18, .ireturn, 1), (19, .aload_n 0, 1), (20, .iconst 0, 1), (21, .putfield 314, 3), (24, .iconst 0, 1), (25, .istore_n 1, 1), (26, .iload_n 1, 1), (27, .iconst 4, 1), (28, .if_icmp .ge 48, 3), (31, .aload_n 0, 1), (32, .invokevirtual 304, 3), (35, .invokestatic 308, 3), (38, .ifCond .eq 38, 3), (41, .aload_n 0, 1), (42, .bipush 10, 2), (44, .aload_n 0, 1), (45, .getfield 314, 3), (48, .imul, 1), (49, .aload_n 0, 1), (50, .invokevirtual 304, 3), (53, .iadd, 1), (54, .bipush 48, 2), (56, .isub, 1), (57, .putfield 314, 3), (60, .aload_n 0, 1), (61, .dup, 1), (62, .getfield 298, 3), (65, .iconst 1, 1), (66, .iadd, 1), (67, .putfield 298, 3), (70, .iinc 1 1, 3), (73, .goto (-47), 3), (76, .iconst 1, 1), (77, .ireturn, 1)]
theorem dk_Mo_number (i : Nat) {pc : Nat} {ins : Instr} {len : Nat} (h : dt_Mo_number[i]? = some (pc, ins, len)) : decode m_Mo_number.2.1 pc = .ok (ins, len) := p_dk (b := m_Mo_number.2.1) (t := dt_Mo_number) (by decide +kernel) i h
def L_Mo_number_26 (k26 : Nat → Int → p_Hp → Option (Int × p_Hp)) (v0 : Nat) (v1 : Int) (s0 : p_Hp) : Option (Int × p_Hp) :=
  if 4 ≤ v1 then
    some (1, s0)
  else
    p_gd (p_is s0 v0 11) <|
    p_bd (F_Mo_here v0 s0) fun r7 s3 =>
    p_bd (F_Mo_isDigit r7 s3) fun r12 s8 =>
    if r12 = 0 then
      some (1, s8)
    else
      p_bd (F_Mo_here v0 s8) fun r18 s14 =>
      p_bi (p_wZ s14 v0 70 (p_w ((p_w ((p_w (10 * (p_Z s8 v0 70))) + r18)) - 48))) fun s19 =>
      p_bi (p_wZ s19 v0 68 (p_w ((p_Z s19 v0 68) + 1))) fun s21 =>
      p_bi (p_w (v1 + 1)) fun x23 =>
      k26 v0 x23 s21
def O_Mo_number_26  : Nat → Nat → Int → p_Hp → Option (Int × p_Hp)
  | 0 => fun _ _ _ => none
  | n + 1 => L_Mo_number_26 (O_Mo_number_26 n)
def F_Mo_number (v0 : Nat) (s0 : p_Hp) : Option (Int × p_Hp) :=
  p_gd (p_is s0 v0 11) <|
  p_bd (F_Mo_here v0 s0) fun r6 s2 =>
  p_bd (F_Mo_isDigit r6 s2) fun r11 s7 =>
  if r11 ≠ 0 then
    p_bi (p_wZ s7 v0 70 0) fun s13 =>
    O_Mo_number_26 3000 v0 0 s13
  else
    p_bd (F_Mo_wrong v0 (p_Z s7 v0 68) s7) fun r19 s15 =>
    p_gd (r19 = 0 ∨ r19 = 1) <|
    some (r19, s15)
set_option maxRecDepth 100000 in
set_option maxHeartbeats 4000000 in
theorem tL_Mo_number_26 (K : p_K) (l : Launch) (k26 : Nat → Int → p_Hp → Option (Int × p_Hp)) (hk26 : ∀ (v0 : Nat) (v1 : Int)  (s0 : p_Hp) (r : (Int × p_Hp)), k26 v0 v1 s0 = some r → p_Go K l m_Mo_number 26 [(0, p_r v0), (1, p_i v1)] [] s0 (some (p_i r.1), r.2)) (v0 : Nat) (v1 : Int) (s0 : p_Hp) (r : (Int × p_Hp)) (h : L_Mo_number_26 k26 v0 v1 s0 = some r) : p_Go K l m_Mo_number 26 [(0, p_r v0), (1, p_i v1)] [] s0 (some (p_i r.1), r.2) := by
  unfold L_Mo_number_26 at h
  refine g_iload_n (i := 1) (j := 1) (dk_Mo_number 14 rfl) rfl rfl ?_
  refine g_iconst (dk_Mo_number 15 rfl) (by decide) ?_
  refine g_icmp_ge 76 (dk_Mo_number 16 rfl) (by decide) (fun b1 => ?_) (fun b1 => ?_)
  · have h := p_ifT b1 h
    refine g_iconst (dk_Mo_number 40 rfl) (by decide) ?_
    cases h
    exact g_ret rfl rfl (dk_Mo_number 41 rfl) (fun _ => ⟨_, rfl, Or.inr rfl⟩)
  · have h := p_ifF b1 h
    refine g_aload_n (i := 0) (j := 0) (dk_Mo_number 17 rfl) rfl rfl ?_
    obtain ⟨c2, h⟩ := p_gdE h
    obtain ⟨r7, s3, q4, h⟩ := p_bdE h
    have t5 := tF_Mo_here K l v0 s0 _ q4
    refine g_callV (a := v0) (ci := 11) (q0 := (RX11, TX11, 90)) (As := []) (rest := []) [p_i r7] mt_Mo_here rfl rfl tw_7_149 ts_55 tw_7_147 ⟨Nat.le_of_ble_eq_true rfl, Nat.le_of_ble_eq_true rfl⟩ rfl (Nat.le_of_ble_eq_true rfl) (dk_Mo_number 18 rfl) rfl c2 rfl t5 ?_
    have hs6 : p_x s0 s3 := t5.1
    show p_Go K l m_Mo_number 35 [(0, p_r v0), (1, p_i v1)] [p_i r7] s3 _
    obtain ⟨r12, s8, q9, h⟩ := p_bdE h
    have t10 := tF_Mo_isDigit K l r7 s3 _ q9
    refine g_callS (av := [p_i r7]) (rest := []) [p_i r12] mt_Mo_isDigit tw_7_160 tw_7_159 ⟨Nat.le_of_ble_eq_true rfl, Nat.le_of_ble_eq_true rfl⟩ rfl (Nat.le_of_ble_eq_true rfl) (dk_Mo_number 19 rfl) rfl rfl t10 ?_
    have hs11 : p_x s3 s8 := t10.1
    show p_Go K l m_Mo_number 38 [(0, p_r v0), (1, p_i v1)] [p_i r12] s8 _
    refine g_if_eq 76 (dk_Mo_number 20 rfl) (by decide) (fun b13 => ?_) (fun b13 => ?_)
    · have h := p_ifT b13 h
      refine g_iconst (dk_Mo_number 40 rfl) (by decide) ?_
      cases h
      exact g_ret rfl rfl (dk_Mo_number 41 rfl) (fun _ => ⟨_, rfl, Or.inr rfl⟩)
    · have h := p_ifF b13 h
      refine g_aload_n (i := 0) (j := 0) (dk_Mo_number 21 rfl) rfl rfl ?_
      refine g_bipush (dk_Mo_number 22 rfl) (by decide +kernel) (by decide) ?_
      refine g_aload_n (i := 0) (j := 0) (dk_Mo_number 23 rfl) rfl rfl ?_
      refine g_getI fl_Mo_314 (Or.inl rfl) (dk_Mo_number 24 rfl) (c2.up (hs6.trans hs11)) ?_
      refine g_imul (dk_Mo_number 25 rfl) ?_
      refine g_aload_n (i := 0) (j := 0) (dk_Mo_number 26 rfl) rfl rfl ?_
      obtain ⟨r18, s14, q15, h⟩ := p_bdE h
      have t16 := tF_Mo_here K l v0 s8 _ q15
      refine g_callV (a := v0) (ci := 11) (q0 := (RX11, TX11, 90)) (As := []) (rest := [p_i (p_w (10 * (p_Z s8 v0 70))), p_r v0]) [p_i r18, p_i (p_w (10 * (p_Z s8 v0 70))), p_r v0] mt_Mo_here rfl rfl tw_7_149 ts_55 tw_7_147 ⟨Nat.le_of_ble_eq_true rfl, Nat.le_of_ble_eq_true rfl⟩ rfl (Nat.le_of_ble_eq_true rfl) (dk_Mo_number 27 rfl) rfl (c2.up (hs6.trans hs11)) rfl t16 ?_
      have hs17 : p_x s8 s14 := t16.1
      show p_Go K l m_Mo_number 53 [(0, p_r v0), (1, p_i v1)] [p_i r18, p_i (p_w (10 * (p_Z s8 v0 70))), p_r v0] s14 _
      refine g_iadd (dk_Mo_number 28 rfl) ?_
      refine g_bipush (dk_Mo_number 29 rfl) (by decide +kernel) (by decide) ?_
      refine g_isub (dk_Mo_number 30 rfl) ?_
      refine g_putI fl_Mo_314 (Or.inl rfl) (dk_Mo_number 31 rfl) (c2.up (hs6.trans (hs11.trans hs17))) ?_
      refine p_ltS (P := fun q => p_Go K l m_Mo_number 60 [(0, p_r v0), (1, p_i v1)] [] q _) (p_xZ _ _ _ _) ?_ h
      intro s19 hs20 h
      refine g_aload_n (i := 0) (j := 0) (dk_Mo_number 32 rfl) rfl rfl ?_
      refine g_dup (dk_Mo_number 33 rfl) rfl ?_
      refine g_getI fl_Mo_298 (Or.inl rfl) (dk_Mo_number 34 rfl) (c2.up (hs6.trans (hs11.trans (hs17.trans hs20)))) ?_
      refine g_iconst (dk_Mo_number 35 rfl) (by decide) ?_
      refine g_iadd (dk_Mo_number 36 rfl) ?_
      refine g_putI fl_Mo_298 (Or.inl rfl) (dk_Mo_number 37 rfl) (c2.up (hs6.trans (hs11.trans (hs17.trans hs20)))) ?_
      refine p_ltS (P := fun q => p_Go K l m_Mo_number 70 [(0, p_r v0), (1, p_i v1)] [] q _) (p_xZ _ _ _ _) ?_ h
      intro s21 hs22 h
      refine g_iinc (j := 1) [(1, p_i (p_w (v1 + 1))), (0, p_r v0)] (dk_Mo_number 38 rfl) rfl (by decide) rfl ?_
      refine p_ltG (P := fun q => p_Go K l m_Mo_number 73 [(1, p_i q), (0, p_r v0)] [] s21 _) ?_ h
      intro x23 h
      refine g_goto 26 (dk_Mo_number 39 rfl) (by decide) ?_
      refine g_sub [(0, p_r v0), (1, p_i x23)] [1, 0] rfl ?_
      exact hk26 v0 x23 s21 _ h
set_option maxRecDepth 100000 in
set_option maxHeartbeats 4000000 in
theorem tO_Mo_number_26 (K : p_K) (l : Launch)  : ∀ (n : Nat) (v0 : Nat) (v1 : Int) (s0 : p_Hp) (r : (Int × p_Hp)), O_Mo_number_26 n v0 v1 s0 = some r → p_Go K l m_Mo_number 26 [(0, p_r v0), (1, p_i v1)] [] s0 (some (p_i r.1), r.2) := by
  intro n
  induction n with
  | zero => intro v0 v1 s0 r h; cases (show (none : Option (Int × p_Hp)) = some r from h)
  | succ n ih => intro v0 v1 s0 r h; exact tL_Mo_number_26 K l _ ih v0 v1 s0 r h
set_option maxRecDepth 100000 in
set_option maxHeartbeats 4000000 in
theorem tF_Mo_number (K : p_K) (l : Launch) (v0 : Nat) (s0 : p_Hp) (r : (Int × p_Hp)) (h : F_Mo_number v0 s0 = some r) : p_Ct K l m_Mo_number [p_r v0] s0 (some (p_i r.1), r.2) := by
  refine p_Ct.of (by decide +kernel) (Nat.le_of_ble_eq_true rfl) ?_
  unfold F_Mo_number at h
  show p_Go K l m_Mo_number 0 [(0, p_r v0)] [] s0 _
  refine g_aload_n (i := 0) (j := 0) (dk_Mo_number 0 rfl) rfl rfl ?_
  obtain ⟨c1, h⟩ := p_gdE h
  obtain ⟨r6, s2, q3, h⟩ := p_bdE h
  have t4 := tF_Mo_here K l v0 s0 _ q3
  refine g_callV (a := v0) (ci := 11) (q0 := (RX11, TX11, 90)) (As := []) (rest := []) [p_i r6] mt_Mo_here rfl rfl tw_7_149 ts_55 tw_7_147 ⟨Nat.le_of_ble_eq_true rfl, Nat.le_of_ble_eq_true rfl⟩ rfl (Nat.le_of_ble_eq_true rfl) (dk_Mo_number 1 rfl) rfl c1 rfl t4 ?_
  have hs5 : p_x s0 s2 := t4.1
  show p_Go K l m_Mo_number 4 [(0, p_r v0)] [p_i r6] s2 _
  obtain ⟨r11, s7, q8, h⟩ := p_bdE h
  have t9 := tF_Mo_isDigit K l r6 s2 _ q8
  refine g_callS (av := [p_i r6]) (rest := []) [p_i r11] mt_Mo_isDigit tw_7_160 tw_7_159 ⟨Nat.le_of_ble_eq_true rfl, Nat.le_of_ble_eq_true rfl⟩ rfl (Nat.le_of_ble_eq_true rfl) (dk_Mo_number 2 rfl) rfl rfl t9 ?_
  have hs10 : p_x s2 s7 := t9.1
  show p_Go K l m_Mo_number 7 [(0, p_r v0)] [p_i r11] s7 _
  refine g_if_ne 19 (dk_Mo_number 3 rfl) (by decide) (fun b12 => ?_) (fun b12 => ?_)
  · have h := p_ifT b12 h
    refine g_aload_n (i := 0) (j := 0) (dk_Mo_number 9 rfl) rfl rfl ?_
    refine g_iconst (dk_Mo_number 10 rfl) (by decide) ?_
    refine g_putI fl_Mo_314 (Or.inl rfl) (dk_Mo_number 11 rfl) (c1.up (hs5.trans hs10)) ?_
    refine p_ltS (P := fun q => p_Go K l m_Mo_number 24 [(0, p_r v0)] [] q _) (p_xZ _ _ _ _) ?_ h
    intro s13 hs14 h
    refine g_iconst (dk_Mo_number 12 rfl) (by decide) ?_
    refine g_istore_n (i := 1) [(1, p_i 0), (0, p_r v0)] (dk_Mo_number 13 rfl) rfl (by decide) rfl ?_
    refine g_sub [(0, p_r v0), (1, p_i 0)] [1, 0] rfl ?_
    exact tO_Mo_number_26 K l 3000 v0 0 s13 _ h
  · have h := p_ifF b12 h
    refine g_aload_n (i := 0) (j := 0) (dk_Mo_number 4 rfl) rfl rfl ?_
    refine g_aload_n (i := 0) (j := 0) (dk_Mo_number 5 rfl) rfl rfl ?_
    refine g_getI fl_Mo_298 (Or.inl rfl) (dk_Mo_number 6 rfl) (c1.up (hs5.trans hs10)) ?_
    obtain ⟨r19, s15, q16, h⟩ := p_bdE h
    have t17 := tF_Mo_wrong K l v0 (p_Z s7 v0 68) s7 _ q16
    refine g_callV (a := v0) (ci := 11) (q0 := (RX11, TX11, 90)) (As := [p_i (p_Z s7 v0 68)]) (rest := []) [p_i r19] mt_Mo_wrong rfl rfl tw_7_145 ts_54 tw_7_143 ⟨Nat.le_of_ble_eq_true rfl, Nat.le_of_ble_eq_true rfl⟩ rfl (Nat.le_of_ble_eq_true rfl) (dk_Mo_number 7 rfl) rfl (c1.up (hs5.trans hs10)) rfl t17 ?_
    have hs18 : p_x s7 s15 := t17.1
    show p_Go K l m_Mo_number 18 [(0, p_r v0)] [p_i r19] s15 _
    obtain ⟨c20, h⟩ := p_gdE h
    cases h
    exact g_ret rfl rfl (dk_Mo_number 8 rfl) (fun _ => ⟨_, rfl, c20⟩)
