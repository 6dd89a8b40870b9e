def m_Mo_goOver : p_Me := (⟨"SortWorksModel", "goOver", "(I)V"⟩, prog_13_method_90_code, 4, none, 2, 45)
theorem mt_Mo_goOver : p_Mt m_Mo_goOver 1 := ⟨p_mem (p_tb8 (List.mem_of_getElem? (i := 62) rfl)) rfl, tw_1_12, by decide +kernel, by decide +kernel, by decide +kernel⟩
def dt_Mo_goOver : List (Nat × Instr × Nat) := [(0, .aload_n 0, 1), (1, .sipush 2600, 3), (4, .bipush 30, 2), (6, .aload_n 0, 1), (7, .getfield 227, 3), (10, .imul, 1), (11, .iload_n 1, 1), (12, .iadd, 1), (13, .imul, 1), (14, .putfield 500, 3), (17, .aload_n 0, 1), (18, .getfield 13, 3), (21, .aload_n 0, 1), (22, .getfield 227, 3), (25, .aload_n 0, 1), (26, .aload_n 0, 1), (27, .getfield 13, 3), (30, .aload_n 0, 1), (31, .getfield 227, 3), (34, .iaload, 1), (35, .invokevirtual 506, 3), (38, .iastore, 1), (39, .aload_n 0, 1), (40, .getfield 114, 3), (43, .aload_n 0, 1), (44, .getfield 227, 3), (47, .aload_n 0, 1), (48, .aload_n 0, 1), (49, .getfield 114, 3), (52, .aload_n 0, 1), (53, .getfield 227, 3), (56, .iaload, 1), (57, .invokevirtual 506, 3), (60, .iastore, 1), (61, .aload_n 0, 1), (62, .getfield 117, 3), (65, .aload_n 0, 1), (66, .getfield 227, 3), (69, .aload_n 0, 1), (70, .aload_n 0, 1), (71, .getfield 117, 3), (74, .aload_n 0, 1), (75, .getfield 227, 3), (78, .iaload, 1), (79, .invokevirtual 506, 3), (82, .iastore, 1), (83, .aload_n 0, 1), (84, .getfield 120, 3), (87, .aload_n 0, 1), (88, .getfield 227, 3), (91, .aload_n 0, 1), (92, .aload_n 0, 1), (93, .getfield 120, 3), (96, .aload_n 0, 1), (97, .getfield 227, 3), (100, .iaload, 1), (101, .invokevirtual 506, 3), (104, .iastore, 1), (105, .aload_n 0, 1), (106, .getfield 126, 3), (109, .aload_n 0, 1), (110, .getfield 227, 3), (113, .aload_n 0, 1), (114, .aload_n 0, 1), (115, .getfield 126, 3), (118, .aload_n 0, 1), (119, .getfield 227, 3), (122, .iaload, 1), (123, .invokevirtual 506, 3), (126, .iastore, 1), (127, .aload_n 0, 1), (128, .aload_n 0, 1), (129, .getfield 334, 3), (132, .invokevirtual 506, 3), (135, .istore_n 2, 1), (136, .bipush 40, 2), (138, .aload_n 0, 1), (139, .getfield 227, 3), (142, .imul, 1), (143, .istore_n 3, 1), (144, .iload_n 3, 1), (145, .bipush 40, 2), (147, .aload_n 0, 1), (148, .getfield 227, 3), (151, .imul, 1), (152, .aload_n 0, 1), (153, .getfield 7, 3), (156, .aload_n 0, 1), (157, .getfield 227, 3), (160, .iaload, 1), (161, .iadd, 1), (162, .if_icmp .ge 14, 3), (165, .aload_n 0, 1), (166, .iload_n 3, 1), (167, .invokevirtual 509, 3), (170, .iinc 3 1, 3), (173, .goto (-29), 3), (176, .bipush 120, 2), (178, .aload_n 0, 1), (179, .getfield 227, 3), (182, .imul, 1), (183, .istore_n 3, 1), (184, .iload_n 3, 1), (185, .bipush 120, 2), (187, .aload_n 0, 1), (188, .getfield 227, 3), (191, .imul, 1), (192, .bipush 120, 2), (194, .iadd, 1), (195, .if_icmp .ge 25, 3), (198, .aload_n 0, 1), (199, .getfield 123, 3), (202, .iload_n 3, 1), (203, .aload_n 0, 1), (204, .aload_n 0, 1), (205, .getfield 123, 3), (208, .iload_n 3, 1), (209, .iaload, 1), (210, .invokevirtual 506, 3), (213, .iastore, 1), (214, .iinc 3 1, 3), (217, .goto (-33), 3), (220, .sipush 200, 3), (223, .aload_n 0, 1), (224, .getfield 227, 3), (227, .imul, 1), (228, .istore_n 3, 1), (229, .iload_n 3, 1), (230, .sipush 200, 3), (233, .aload_n 0, 1), (234, .getfield 227, 3), (237, .imul, 1), (238, .sipush 200, 3), (241, .iadd, 1), (242, .if_icmp .ge 25, 3), (245, .aload_n 0, 1), (246, .getfield 129, 3), (249, .iload_n 3, 1), (250, .aload_n 0, 1), (251, .aload_n 0, 1), (252, .getfield 129, 3), (255, .iload_n 3, 1), (256, .iaload, 1), (257, .invokevirtual 506, 3), (260, .iastore, 1), (261, .iinc 3 1, 3), (264, .goto (-35), 3), (267, .bipush 12, 2), (269, .aload_n 0, 1), (270, .getfield 227, 3), (273, .imul, 1), (274, .istore_n 3, 1), (275, .iload_n 3, 1), (276, .bipush 12, 2), (278, .aload_n 0, 1), (279, .getfield 227, 3), (282, .imul, 1), (283, .bipush 12, 2), (285, .iadd, 1), (286, .if_icmp .ge 25, 3), (289, .aload_n 0, 1), (290, .getfield 150, 3), (293, .iload_n 3, 1), (294, .aload_n 0, 1), (295, .aload_n 0, 1), (296, .getfield 150, 3), (299, .iload_n 3, 1), (300, .iaload, 1), (301, .invokevirtual 506, 3), (304, .iastore, 1), (305, .iinc 3 1, 3), (308, .goto (-33), 3), (311, .aload_n 0, 1), (312, .getfield 496, 3), (315, .ifCond .ne 54, 3), (318, .iconst 1, 1), (319, .istore_n 3, 1), (320, .iload_n 3, 1), (321, .aload_n 0, 1), (322, .getfield 334, 3), (325, .if_icmp .gt 44, 3), (328, .aload_n 0, 1), (329, .getfield 72, 3), (332, .iload_n 3, 1), (333, .iaload, 1), (334, .aload_n 0, 1), (335, .getfield 227, 3), (338, .if_icmp .ne 25, 3), (341, .iload_n 3, 1), (342, .iload_n 2, 1), (343, .if_icmp .gt 13, 3), (346, .aload_n 0, 1), (347, .getfield 75, 3), (350, .iload_n 3, 1), (351, .iaload, 1), (352, .iconst 1, 1), (353, .if_icmp .ne 10, 3), (356, .aload_n 0, 1), (357, .getfield 75, 3), (360, .iload_n 3, 1), (361, .iconst 0, 1), (362, .iastore, 1), (363, .iinc 3 1, 3), (366, .goto (-46), 3), (369, .aload_n 0, 1), (370, .invokevirtual 512, 3), (373, .return_, 1)]
theorem dk_Mo_goOver (i : Nat) {pc : Nat} {ins : Instr} {len : Nat} (h : dt_Mo_goOver[i]? = some (pc, ins, len)) : decode m_Mo_goOver.2.1 pc = .ok (ins, len) := p_dk (b := m_Mo_goOver.2.1) (t := dt_Mo_goOver) (by decide +kernel) i h
def B_Mo_goOver_363 (k320 : Nat → Int → Int → p_Hp → Option p_Hp) (v0 : Nat) (v2 : Int) (v3 : Int) (s0 : p_Hp) : Option p_Hp :=
  p_bi (p_w (v3 + 1)) fun x1 =>
  k320 v0 v2 x1 s0
def B_Mo_goOver_356 (k320 : Nat → Int → Int → p_Hp → Option p_Hp) (v0 : Nat) (v2 : Int) (v3 : Int) (s0 : p_Hp) : Option p_Hp :=
  p_gd (p_is s0 v0 11) <|
  p_gd (p_is s0 (p_R s0 v0 25) 100) <|
  p_gd ((0 : Int) ≤ v3 ∧ v3 < (p_L s0 (p_R s0 v0 25) : Int)) <|
  p_bi (p_wZ s0 (p_R s0 v0 25) (v3 : Int).toNat 0) fun s4 =>
  B_Mo_goOver_363 k320 v0 v2 v3 s4
def B_Mo_goOver_369  (v0 : Nat) (s0 : p_Hp) : Option p_Hp :=
  p_gd (p_is s0 v0 11) <|
  p_bv (F_Mo_goOverParcels v0 s0) fun s2 =>
  some s2
def L_Mo_goOver_320 (k320 : Nat → Int → Int → p_Hp → Option p_Hp) (v0 : Nat) (v2 : Int) (v3 : Int) (s0 : p_Hp) : Option p_Hp :=
  p_gd (p_is s0 v0 11) <|
  if (p_Z s0 v0 23) < v3 then
    B_Mo_goOver_369 v0 s0
  else
    p_gd (p_is s0 (p_R s0 v0 24) 100) <|
    p_gd ((0 : Int) ≤ v3 ∧ v3 < (p_L s0 (p_R s0 v0 24) : Int)) <|
    if (p_Z s0 (p_R s0 v0 24) (v3 : Int).toNat) ≠ (p_Z s0 v0 0) then
      B_Mo_goOver_363 k320 v0 v2 v3 s0
    else
      if v2 < v3 then
        B_Mo_goOver_356 k320 v0 v2 v3 s0
      else
        p_gd (p_is s0 (p_R s0 v0 25) 100) <|
        p_gd ((0 : Int) ≤ v3 ∧ v3 < (p_L s0 (p_R s0 v0 25) : Int)) <|
        if (p_Z s0 (p_R s0 v0 25) (v3 : Int).toNat) ≠ 1 then
          B_Mo_goOver_363 k320 v0 v2 v3 s0
        else
          B_Mo_goOver_356 k320 v0 v2 v3 s0
def O_Mo_goOver_320  : Nat → Nat → Int → Int → p_Hp → Option p_Hp
  | 0 => fun _ _ _ _ => none
  | n + 1 => L_Mo_goOver_320 (O_Mo_goOver_320 n)
def L_Mo_goOver_275 (k275 : Nat → Int → Int → p_Hp → Option p_Hp) (v0 : Nat) (v2 : Int) (v3 : Int) (s0 : p_Hp) : Option p_Hp :=
  p_gd (p_is s0 v0 11) <|
  if (p_w ((p_w (12 * (p_Z s0 v0 0))) + 12)) ≤ v3 then
    if (p_Z s0 v0 85) ≠ 0 then
      B_Mo_goOver_369 v0 s0
    else
      O_Mo_goOver_320 3000 v0 v2 1 s0
  else
    p_gd (p_is s0 (p_R s0 v0 51) 100) <|
    p_gd ((0 : Int) ≤ v3 ∧ v3 < (p_L s0 (p_R s0 v0 51) : Int)) <|
    p_bd (F_Mo_both v0 (p_Z s0 (p_R s0 v0 51) (v3 : Int).toNat) s0) fun r10 s6 =>
    p_gd ((0 : Int) ≤ v3 ∧ v3 < (p_L s6 (p_R s0 v0 51) : Int)) <|
    p_bi (p_wZ s6 (p_R s0 v0 51) (v3 : Int).toNat r10) fun s12 =>
    p_bi (p_w (v3 + 1)) fun x14 =>
    k275 v0 v2 x14 s12
def O_Mo_goOver_275  : Nat → Nat → Int → Int → p_Hp → Option p_Hp
  | 0 => fun _ _ _ _ => none
  | n + 1 => L_Mo_goOver_275 (O_Mo_goOver_275 n)
def L_Mo_goOver_229 (k229 : Nat → Int → Int → p_Hp → Option p_Hp) (v0 : Nat) (v2 : Int) (v3 : Int) (s0 : p_Hp) : Option p_Hp :=
  p_gd (p_is s0 v0 11) <|
  if (p_w ((p_w (200 * (p_Z s0 v0 0))) + 200)) ≤ v3 then
    p_bi ((p_w (12 * (p_Z s0 v0 0)))) fun x3 =>
    O_Mo_goOver_275 3000 v0 v2 x3 s0
  else
    p_gd (p_is s0 (p_R s0 v0 43) 100) <|
    p_gd ((0 : Int) ≤ v3 ∧ v3 < (p_L s0 (p_R s0 v0 43) : Int)) <|
    p_bd (F_Mo_both v0 (p_Z s0 (p_R s0 v0 43) (v3 : Int).toNat) s0) fun r10 s6 =>
    p_gd ((0 : Int) ≤ v3 ∧ v3 < (p_L s6 (p_R s0 v0 43) : Int)) <|
    p_bi (p_wZ s6 (p_R s0 v0 43) (v3 : Int).toNat r10) fun s12 =>
    p_bi (p_w (v3 + 1)) fun x14 =>
    k229 v0 v2 x14 s12
def O_Mo_goOver_229  : Nat → Nat → Int → Int → p_Hp → Option p_Hp
  | 0 => fun _ _ _ _ => none
  | n + 1 => L_Mo_goOver_229 (O_Mo_goOver_229 n)
def L_Mo_goOver_184 (k184 : Nat → Int → Int → p_Hp → Option p_Hp) (v0 : Nat) (v2 : Int) (v3 : Int) (s0 : p_Hp) : Option p_Hp :=
  p_gd (p_is s0 v0 11) <|
  if (p_w ((p_w (120 * (p_Z s0 v0 0))) + 120)) ≤ v3 then
    p_bi ((p_w (200 * (p_Z s0 v0 0)))) fun x3 =>
    O_Mo_goOver_229 3000 v0 v2 x3 s0
  else
    p_gd (p_is s0 (p_R s0 v0 41) 100) <|
    p_gd ((0 : Int) ≤ v3 ∧ v3 < (p_L s0 (p_R s0 v0 41) : Int)) <|
    p_bd (F_Mo_both v0 (p_Z s0 (p_R s0 v0 41) (v3 : Int).toNat) s0) fun r10 s6 =>
    p_gd ((0 : Int) ≤ v3 ∧ v3 < (p_L s6 (p_R s0 v0 41) : Int)) <|
    p_bi (p_wZ s6 (p_R s0 v0 41) (v3 : Int).toNat r10) fun s12 =>
    p_bi (p_w (v3 + 1)) fun x14 =>
    k184 v0 v2 x14 s12
def O_Mo_goOver_184  : Nat → Nat → Int → Int → p_Hp → Option p_Hp
  | 0 => fun _ _ _ _ => none
  | n + 1 => L_Mo_goOver_184 (O_Mo_goOver_184 n)
def L_Mo_goOver_144 (k144 : Nat → Int → Int → p_Hp → Option p_Hp) (v0 : Nat) (v2 : Int) (v3 : Int) (s0 : p_Hp) : Option p_Hp :=
  p_gd (p_is s0 v0 11) <|
  p_gd (p_is s0 (p_R s0 v0 3) 100) <|
  p_gd ((0 : Int) ≤ (p_Z s0 v0 0) ∧ (p_Z s0 v0 0) < (p_L s0 (p_R s0 v0 3) : Int)) <|
  if (p_w ((p_w (40 * (p_Z s0 v0 0))) + (p_Z s0 (p_R s0 v0 3) ((p_Z s0 v0 0) : Int).toNat))) ≤ v3 then
    p_bi ((p_w (120 * (p_Z s0 v0 0)))) fun x5 =>
    O_Mo_goOver_184 3000 v0 v2 x5 s0
  else
    p_bv (F_Mo_goOverGear v0 v3 s0) fun s6 =>
    p_bi (p_w (v3 + 1)) fun x10 =>
    k144 v0 v2 x10 s6
def O_Mo_goOver_144  : Nat → Nat → Int → Int → p_Hp → Option p_Hp
  | 0 => fun _ _ _ _ => none
  | n + 1 => L_Mo_goOver_144 (O_Mo_goOver_144 n)
def F_Mo_goOver (v0 : Nat) (v1 : Int) (s0 : p_Hp) : Option p_Hp :=
  p_gd (p_is s0 v0 11) <|
  p_bi (p_wZ s0 v0 84 (p_w (2600 * (p_w ((p_w (30 * (p_Z s0 v0 0))) + v1))))) fun s2 =>
  p_gd (p_is s2 (p_R s2 v0 4) 100) <|
  p_gd ((0 : Int) ≤ (p_Z s2 v0 0) ∧ (p_Z s2 v0 0) < (p_L s2 (p_R s2 v0 4) : Int)) <|
  p_bd (F_Mo_both v0 (p_Z s2 (p_R s2 v0 4) ((p_Z s2 v0 0) : Int).toNat) s2) fun r10 s6 =>
  p_gd ((0 : Int) ≤ (p_Z s2 v0 0) ∧ (p_Z s2 v0 0) < (p_L s6 (p_R s2 v0 4) : Int)) <|
  p_bi (p_wZ s6 (p_R s2 v0 4) ((p_Z s2 v0 0) : Int).toNat r10) fun s12 =>
  p_gd (p_is s12 (p_R s12 v0 38) 100) <|
  p_gd ((0 : Int) ≤ (p_Z s12 v0 0) ∧ (p_Z s12 v0 0) < (p_L s12 (p_R s12 v0 38) : Int)) <|
  p_bd (F_Mo_both v0 (p_Z s12 (p_R s12 v0 38) ((p_Z s12 v0 0) : Int).toNat) s12) fun r20 s16 =>
  p_gd ((0 : Int) ≤ (p_Z s12 v0 0) ∧ (p_Z s12 v0 0) < (p_L s16 (p_R s12 v0 38) : Int)) <|
  p_bi (p_wZ s16 (p_R s12 v0 38) ((p_Z s12 v0 0) : Int).toNat r20) fun s22 =>
  p_gd (p_is s22 (p_R s22 v0 39) 100) <|
  p_gd ((0 : Int) ≤ (p_Z s22 v0 0) ∧ (p_Z s22 v0 0) < (p_L s22 (p_R s22 v0 39) : Int)) <|
  p_bd (F_Mo_both v0 (p_Z s22 (p_R s22 v0 39) ((p_Z s22 v0 0) : Int).toNat) s22) fun r30 s26 =>
  p_gd ((0 : Int) ≤ (p_Z s22 v0 0) ∧ (p_Z s22 v0 0) < (p_L s26 (p_R s22 v0 39) : Int)) <|
  p_bi (p_wZ s26 (p_R s22 v0 39) ((p_Z s22 v0 0) : Int).toNat r30) fun s32 =>
  p_gd (p_is s32 (p_R s32 v0 40) 100) <|
  p_gd ((0 : Int) ≤ (p_Z s32 v0 0) ∧ (p_Z s32 v0 0) < (p_L s32 (p_R s32 v0 40) : Int)) <|
  p_bd (F_Mo_both v0 (p_Z s32 (p_R s32 v0 40) ((p_Z s32 v0 0) : Int).toNat) s32) fun r40 s36 =>
  p_gd ((0 : Int) ≤ (p_Z s32 v0 0) ∧ (p_Z s32 v0 0) < (p_L s36 (p_R s32 v0 40) : Int)) <|
  p_bi (p_wZ s36 (p_R s32 v0 40) ((p_Z s32 v0 0) : Int).toNat r40) fun s42 =>
  p_gd (p_is s42 (p_R s42 v0 42) 100) <|
  p_gd ((0 : Int) ≤ (p_Z s42 v0 0) ∧ (p_Z s42 v0 0) < (p_L s42 (p_R s42 v0 42) : Int)) <|
  p_bd (F_Mo_both v0 (p_Z s42 (p_R s42 v0 42) ((p_Z s42 v0 0) : Int).toNat) s42) fun r50 s46 =>
  p_gd ((0 : Int) ≤ (p_Z s42 v0 0) ∧ (p_Z s42 v0 0) < (p_L s46 (p_R s42 v0 42) : Int)) <|
  p_bi (p_wZ s46 (p_R s42 v0 42) ((p_Z s42 v0 0) : Int).toNat r50) fun s52 =>
  p_bd (F_Mo_both v0 (p_Z s52 v0 23) s52) fun r58 s54 =>
  p_bi ((p_w (40 * (p_Z s54 v0 0)))) fun x59 =>
  O_Mo_goOver_144 3000 v0 r58 x59 s54
set_option maxRecDepth 100000 in
set_option maxHeartbeats 4000000 in
theorem tB_Mo_goOver_363 (K : p_K) (l : Launch) (k320 : Nat → Int → Int → p_Hp → Option p_Hp) (hk320 : ∀ (v0 : Nat) (v2 : Int) (v3 : Int)  (s0 : p_Hp) (r : p_Hp), k320 v0 v2 v3 s0 = some r → p_Go K l m_Mo_goOver 320 [(0, p_r v0), (2, p_i v2), (3, p_i v3)] [] s0 (none, r)) (v0 : Nat) (v2 : Int) (v3 : Int) (s0 : p_Hp) (r : p_Hp) (h : B_Mo_goOver_363 k320 v0 v2 v3 s0 = some r) : p_Go K l m_Mo_goOver 363 [(0, p_r v0), (2, p_i v2), (3, p_i v3)] [] s0 (none, r) := by
  unfold B_Mo_goOver_363 at h
  refine g_iinc (j := 2) [(3, p_i (p_w (v3 + 1))), (0, p_r v0), (2, p_i v2)] (dk_Mo_goOver 202 rfl) rfl (by decide) rfl ?_
  refine p_ltG (P := fun q => p_Go K l m_Mo_goOver 366 [(3, p_i q), (0, p_r v0), (2, p_i v2)] [] s0 _) ?_ h
  intro x1 h
  refine g_goto 320 (dk_Mo_goOver 203 rfl) (by decide) ?_
  refine g_sub [(0, p_r v0), (2, p_i v2), (3, p_i x1)] [1, 2, 0] rfl ?_
  exact hk320 v0 v2 x1 s0 _ h
set_option maxRecDepth 100000 in
set_option maxHeartbeats 4000000 in
theorem tB_Mo_goOver_356 (K : p_K) (l : Launch) (k320 : Nat → Int → Int → p_Hp → Option p_Hp) (hk320 : ∀ (v0 : Nat) (v2 : Int) (v3 : Int)  (s0 : p_Hp) (r : p_Hp), k320 v0 v2 v3 s0 = some r → p_Go K l m_Mo_goOver 320 [(0, p_r v0), (2, p_i v2), (3, p_i v3)] [] s0 (none, r)) (v0 : Nat) (v2 : Int) (v3 : Int) (s0 : p_Hp) (r : p_Hp) (h : B_Mo_goOver_356 k320 v0 v2 v3 s0 = some r) : p_Go K l m_Mo_goOver 356 [(0, p_r v0), (2, p_i v2), (3, p_i v3)] [] s0 (none, r) := by
  unfold B_Mo_goOver_356 at h
  refine g_aload_n (i := 0) (j := 0) (dk_Mo_goOver 197 rfl) rfl rfl ?_
  obtain ⟨c1, h⟩ := p_gdE h
  refine g_getR fl_Mo_75 (Or.inr ⟨_, rfl⟩) (dk_Mo_goOver 198 rfl) c1 ?_
  refine g_iload_n (i := 3) (j := 2) (dk_Mo_goOver 199 rfl) rfl rfl ?_
  refine g_iconst (dk_Mo_goOver 200 rfl) (by decide) ?_
  obtain ⟨c2, h⟩ := p_gdE h
  obtain ⟨c3, h⟩ := p_gdE h
  refine g_iastore (dk_Mo_goOver 201 rfl) c2 c3.1 c3.2 ?_
  refine p_ltS (P := fun q => p_Go K l m_Mo_goOver 363 [(0, p_r v0), (2, p_i v2), (3, p_i v3)] [] q _) (p_xZ _ _ _ _) ?_ h
  intro s4 hs5 h
  exact tB_Mo_goOver_363 K l k320 hk320 v0 v2 v3 s4 _ h
set_option maxRecDepth 100000 in
set_option maxHeartbeats 4000000 in
theorem tB_Mo_goOver_369 (K : p_K) (l : Launch)  (v0 : Nat) (s0 : p_Hp) (r : p_Hp) (h : B_Mo_goOver_369 v0 s0 = some r) : p_Go K l m_Mo_goOver 369 [(0, p_r v0)] [] s0 (none, r) := by
  unfold B_Mo_goOver_369 at h
  refine g_aload_n (i := 0) (j := 0) (dk_Mo_goOver 204 rfl) rfl rfl ?_
  obtain ⟨c1, h⟩ := p_gdE h
  obtain ⟨s2, q3, h⟩ := p_bvE h
  have t4 := tF_Mo_goOverParcels K l v0 s0 _ q3
  refine g_callV (a := v0) (ci := 11) (q0 := (RX11, TX11, 90)) (As := []) (rest := []) [] mt_Mo_goOverParcels rfl rfl tw_8_73 ts_73 tw_8_71 ⟨Nat.le_of_ble_eq_true rfl, Nat.le_of_ble_eq_true rfl⟩ rfl (Nat.le_of_ble_eq_true rfl) (dk_Mo_goOver 205 rfl) rfl c1 rfl t4 ?_
  have hs5 : p_x s0 s2 := t4.1
  show p_Go K l m_Mo_goOver 373 [(0, p_r v0)] [] s2 _
  cases h
  exact g_ret rfl rfl (dk_Mo_goOver 206 rfl) (fun _ => rfl)
set_option maxRecDepth 100000 in
set_option maxHeartbeats 4000000 in
theorem tL_Mo_goOver_320 (K : p_K) (l : Launch) (k320 : Nat → Int → Int → p_Hp → Option p_Hp) (hk320 : ∀ (v0 : Nat) (v2 : Int) (v3 : Int)  (s0 : p_Hp) (r : p_Hp), k320 v0 v2 v3 s0 = some r → p_Go K l m_Mo_goOver 320 [(0, p_r v0), (2, p_i v2), (3, p_i v3)] [] s0 (none, r)) (v0 : Nat) (v2 : Int) (v3 : Int) (s0 : p_Hp) (r : p_Hp) (h : L_Mo_goOver_320 k320 v0 v2 v3 s0 = some r) : p_Go K l m_Mo_goOver 320 [(0, p_r v0), (2, p_i v2), (3, p_i v3)] [] s0 (none, r) := by
  unfold L_Mo_goOver_320 at h
  refine g_iload_n (i := 3) (j := 2) (dk_Mo_goOver 177 rfl) rfl rfl ?_
  refine g_aload_n (i := 0) (j := 0) (dk_Mo_goOver 178 rfl) rfl rfl ?_
  obtain ⟨c1, h⟩ := p_gdE h
  refine g_getI fl_Mo_334 (Or.inl rfl) (dk_Mo_goOver 179 rfl) c1 ?_
  refine g_icmp_gt 369 (dk_Mo_goOver 180 rfl) (by decide) (fun b2 => ?_) (fun b2 => ?_)
  · have h := p_ifT b2 h
    refine g_sub [(0, p_r v0)] [0] rfl ?_
    exact tB_Mo_goOver_369 K l v0 s0 _ h
  · have h := p_ifF b2 h
    refine g_aload_n (i := 0) (j := 0) (dk_Mo_goOver 181 rfl) rfl rfl ?_
    refine g_getR fl_Mo_72 (Or.inr ⟨_, rfl⟩) (dk_Mo_goOver 182 rfl) c1 ?_
    refine g_iload_n (i := 3) (j := 2) (dk_Mo_goOver 183 rfl) rfl rfl ?_
    obtain ⟨c3, h⟩ := p_gdE h
    obtain ⟨c4, h⟩ := p_gdE h
    refine g_iaload (dk_Mo_goOver 184 rfl) c3 c4.1 c4.2 ?_
    refine g_aload_n (i := 0) (j := 0) (dk_Mo_goOver 185 rfl) rfl rfl ?_
    refine g_getI fl_Mo_227 (Or.inl rfl) (dk_Mo_goOver 186 rfl) c1 ?_
    refine g_icmp_ne 363 (dk_Mo_goOver 187 rfl) (by decide) (fun b5 => ?_) (fun b5 => ?_)
    · have h := p_ifT b5 h
      exact tB_Mo_goOver_363 K l k320 hk320 v0 v2 v3 s0 _ h
    · have h := p_ifF b5 h
      refine g_iload_n (i := 3) (j := 2) (dk_Mo_goOver 188 rfl) rfl rfl ?_
      refine g_iload_n (i := 2) (j := 1) (dk_Mo_goOver 189 rfl) rfl rfl ?_
      refine g_icmp_gt 356 (dk_Mo_goOver 190 rfl) (by decide) (fun b6 => ?_) (fun b6 => ?_)
      · have h := p_ifT b6 h
        exact tB_Mo_goOver_356 K l k320 hk320 v0 v2 v3 s0 _ h
      · have h := p_ifF b6 h
        refine g_aload_n (i := 0) (j := 0) (dk_Mo_goOver 191 rfl) rfl rfl ?_
        refine g_getR fl_Mo_75 (Or.inr ⟨_, rfl⟩) (dk_Mo_goOver 192 rfl) c1 ?_
        refine g_iload_n (i := 3) (j := 2) (dk_Mo_goOver 193 rfl) rfl rfl ?_
        obtain ⟨c7, h⟩ := p_gdE h
        obtain ⟨c8, h⟩ := p_gdE h
        refine g_iaload (dk_Mo_goOver 194 rfl) c7 c8.1 c8.2 ?_
        refine g_iconst (dk_Mo_goOver 195 rfl) (by decide) ?_
        refine g_icmp_ne 363 (dk_Mo_goOver 196 rfl) (by decide) (fun b9 => ?_) (fun b9 => ?_)
        · have h := p_ifT b9 h
          exact tB_Mo_goOver_363 K l k320 hk320 v0 v2 v3 s0 _ h
        · have h := p_ifF b9 h
          exact tB_Mo_goOver_356 K l k320 hk320 v0 v2 v3 s0 _ h
set_option maxRecDepth 100000 in
set_option maxHeartbeats 4000000 in
theorem tO_Mo_goOver_320 (K : p_K) (l : Launch)  : ∀ (n : Nat) (v0 : Nat) (v2 : Int) (v3 : Int) (s0 : p_Hp) (r : p_Hp), O_Mo_goOver_320 n v0 v2 v3 s0 = some r → p_Go K l m_Mo_goOver 320 [(0, p_r v0), (2, p_i v2), (3, p_i v3)] [] s0 (none, r) := by
  intro n
  induction n with
  | zero => intro v0 v2 v3 s0 r h; cases (show (none : Option p_Hp) = some r from h)
  | succ n ih => intro v0 v2 v3 s0 r h; exact tL_Mo_goOver_320 K l _ ih v0 v2 v3 s0 r h
set_option maxRecDepth 100000 in
set_option maxHeartbeats 4000000 in
theorem tL_Mo_goOver_275 (K : p_K) (l : Launch) (k275 : Nat → Int → Int → p_Hp → Option p_Hp) (hk275 : ∀ (v0 : Nat) (v2 : Int) (v3 : Int)  (s0 : p_Hp) (r : p_Hp), k275 v0 v2 v3 s0 = some r → p_Go K l m_Mo_goOver 275 [(0, p_r v0), (2, p_i v2), (3, p_i v3)] [] s0 (none, r)) (v0 : Nat) (v2 : Int) (v3 : Int) (s0 : p_Hp) (r : p_Hp) (h : L_Mo_goOver_275 k275 v0 v2 v3 s0 = some r) : p_Go K l m_Mo_goOver 275 [(0, p_r v0), (2, p_i v2), (3, p_i v3)] [] s0 (none, r) := by
  unfold L_Mo_goOver_275 at h
  refine g_iload_n (i := 3) (j := 2) (dk_Mo_goOver 152 rfl) rfl rfl ?_
  refine g_bipush (dk_Mo_goOver 153 rfl) (by decide +kernel) (by decide) ?_
  refine g_aload_n (i := 0) (j := 0) (dk_Mo_goOver 154 rfl) rfl rfl ?_
  obtain ⟨c1, h⟩ := p_gdE h
  refine g_getI fl_Mo_227 (Or.inl rfl) (dk_Mo_goOver 155 rfl) c1 ?_
  refine g_imul (dk_Mo_goOver 156 rfl) ?_
  refine g_bipush (dk_Mo_goOver 157 rfl) (by decide +kernel) (by decide) ?_
  refine g_iadd (dk_Mo_goOver 158 rfl) ?_
  refine g_icmp_ge 311 (dk_Mo_goOver 159 rfl) (by decide) (fun b2 => ?_) (fun b2 => ?_)
  · have h := p_ifT b2 h
    refine g_aload_n (i := 0) (j := 0) (dk_Mo_goOver 172 rfl) rfl rfl ?_
    refine g_getI fl_Mo_496 (Or.inr rfl) (dk_Mo_goOver 173 rfl) c1 ?_
    refine g_if_ne 369 (dk_Mo_goOver 174 rfl) (by decide) (fun b3 => ?_) (fun b3 => ?_)
    · have h := p_ifT b3 h
      refine g_sub [(0, p_r v0)] [0] rfl ?_
      exact tB_Mo_goOver_369 K l v0 s0 _ h
    · have h := p_ifF b3 h
      refine g_iconst (dk_Mo_goOver 175 rfl) (by decide) ?_
      refine g_istore_n (i := 3) [(3, p_i 1), (0, p_r v0), (2, p_i v2)] (dk_Mo_goOver 176 rfl) rfl (by decide) rfl ?_
      refine g_sub [(0, p_r v0), (2, p_i v2), (3, p_i 1)] [1, 2, 0] rfl ?_
      exact tO_Mo_goOver_320 K l 3000 v0 v2 1 s0 _ h
  · have h := p_ifF b2 h
    refine g_aload_n (i := 0) (j := 0) (dk_Mo_goOver 160 rfl) rfl rfl ?_
    refine g_getR fl_Mo_150 (Or.inr ⟨_, rfl⟩) (dk_Mo_goOver 161 rfl) c1 ?_
    refine g_iload_n (i := 3) (j := 2) (dk_Mo_goOver 162 rfl) rfl rfl ?_
    refine g_aload_n (i := 0) (j := 0) (dk_Mo_goOver 163 rfl) rfl rfl ?_
    refine g_aload_n (i := 0) (j := 0) (dk_Mo_goOver 164 rfl) rfl rfl ?_
    refine g_getR fl_Mo_150 (Or.inr ⟨_, rfl⟩) (dk_Mo_goOver 165 rfl) c1 ?_
    refine g_iload_n (i := 3) (j := 2) (dk_Mo_goOver 166 rfl) rfl rfl ?_
    obtain ⟨c4, h⟩ := p_gdE h
    obtain ⟨c5, h⟩ := p_gdE h
    refine g_iaload (dk_Mo_goOver 167 rfl) c4 c5.1 c5.2 ?_
    obtain ⟨r10, s6, q7, h⟩ := p_bdE h
    have t8 := tF_Mo_both K l v0 (p_Z s0 (p_R s0 v0 51) (v3 : Int).toNat) s0 _ q7
    refine g_callV (a := v0) (ci := 11) (q0 := (RX11, TX11, 90)) (As := [p_i (p_Z s0 (p_R s0 v0 51) (v3 : Int).toNat)]) (rest := [p_i v3, p_r (p_R s0 v0 51)]) [p_i r10, p_i v3, p_r (p_R s0 v0 51)] mt_Mo_both rfl rfl tw_8_65 ts_71 tw_8_63 ⟨Nat.le_of_ble_eq_true rfl, Nat.le_of_ble_eq_true rfl⟩ rfl (Nat.le_of_ble_eq_true rfl) (dk_Mo_goOver 168 rfl) rfl c1 rfl t8 ?_
    have hs9 : p_x s0 s6 := t8.1
    show p_Go K l m_Mo_goOver 304 [(0, p_r v0), (2, p_i v2), (3, p_i v3)] [p_i r10, p_i v3, p_r (p_R s0 v0 51)] s6 _
    obtain ⟨c11, h⟩ := p_gdE h
    refine g_iastore (dk_Mo_goOver 169 rfl) (c4.up hs9) c11.1 c11.2 ?_
    refine p_ltS (P := fun q => p_Go K l m_Mo_goOver 305 [(0, p_r v0), (2, p_i v2), (3, p_i v3)] [] q _) (p_xZ _ _ _ _) ?_ h
    intro s12 hs13 h
    refine g_iinc (j := 2) [(3, p_i (p_w (v3 + 1))), (0, p_r v0), (2, p_i v2)] (dk_Mo_goOver 170 rfl) rfl (by decide) rfl ?_
    refine p_ltG (P := fun q => p_Go K l m_Mo_goOver 308 [(3, p_i q), (0, p_r v0), (2, p_i v2)] [] s12 _) ?_ h
    intro x14 h
    refine g_goto 275 (dk_Mo_goOver 171 rfl) (by decide) ?_
    refine g_sub [(0, p_r v0), (2, p_i v2), (3, p_i x14)] [1, 2, 0] rfl ?_
    exact hk275 v0 v2 x14 s12 _ h
set_option maxRecDepth 100000 in
set_option maxHeartbeats 4000000 in
theorem tO_Mo_goOver_275 (K : p_K) (l : Launch)  : ∀ (n : Nat) (v0 : Nat) (v2 : Int) (v3 : Int) (s0 : p_Hp) (r : p_Hp), O_Mo_goOver_275 n v0 v2 v3 s0 = some r → p_Go K l m_Mo_goOver 275 [(0, p_r v0), (2, p_i v2), (3, p_i v3)] [] s0 (none, r) := by
  intro n
  induction n with
  | zero => intro v0 v2 v3 s0 r h; cases (show (none : Option p_Hp) = some r from h)
  | succ n ih => intro v0 v2 v3 s0 r h; exact tL_Mo_goOver_275 K l _ ih v0 v2 v3 s0 r h
set_option maxRecDepth 100000 in
set_option maxHeartbeats 4000000 in
theorem tL_Mo_goOver_229 (K : p_K) (l : Launch) (k229 : Nat → Int → Int → p_Hp → Option p_Hp) (hk229 : ∀ (v0 : Nat) (v2 : Int) (v3 : Int)  (s0 : p_Hp) (r : p_Hp), k229 v0 v2 v3 s0 = some r → p_Go K l m_Mo_goOver 229 [(0, p_r v0), (2, p_i v2), (3, p_i v3)] [] s0 (none, r)) (v0 : Nat) (v2 : Int) (v3 : Int) (s0 : p_Hp) (r : p_Hp) (h : L_Mo_goOver_229 k229 v0 v2 v3 s0 = some r) : p_Go K l m_Mo_goOver 229 [(0, p_r v0), (2, p_i v2), (3, p_i v3)] [] s0 (none, r) := by
  unfold L_Mo_goOver_229 at h
  refine g_iload_n (i := 3) (j := 2) (dk_Mo_goOver 127 rfl) rfl rfl ?_
  refine g_sipush (dk_Mo_goOver 128 rfl) (by decide +kernel) (by decide) ?_
  refine g_aload_n (i := 0) (j := 0) (dk_Mo_goOver 129 rfl) rfl rfl ?_
  obtain ⟨c1, h⟩ := p_gdE h
  refine g_getI fl_Mo_227 (Or.inl rfl) (dk_Mo_goOver 130 rfl) c1 ?_
  refine g_imul (dk_Mo_goOver 131 rfl) ?_
  refine g_sipush (dk_Mo_goOver 132 rfl) (by decide +kernel) (by decide) ?_
  refine g_iadd (dk_Mo_goOver 133 rfl) ?_
  refine g_icmp_ge 267 (dk_Mo_goOver 134 rfl) (by decide) (fun b2 => ?_) (fun b2 => ?_)
  · have h := p_ifT b2 h
    refine g_bipush (dk_Mo_goOver 147 rfl) (by decide +kernel) (by decide) ?_
    refine g_aload_n (i := 0) (j := 0) (dk_Mo_goOver 148 rfl) rfl rfl ?_
    refine g_getI fl_Mo_227 (Or.inl rfl) (dk_Mo_goOver 149 rfl) c1 ?_
    refine g_imul (dk_Mo_goOver 150 rfl) ?_
    refine g_istore_n (i := 3) [(3, p_i (p_w (12 * (p_Z s0 v0 0)))), (0, p_r v0), (2, p_i v2)] (dk_Mo_goOver 151 rfl) rfl (by decide) rfl ?_
    refine p_ltG (P := fun q => p_Go K l m_Mo_goOver 275 [(3, p_i q), (0, p_r v0), (2, p_i v2)] [] s0 _) ?_ h
    intro x3 h
    refine g_sub [(0, p_r v0), (2, p_i v2), (3, p_i x3)] [1, 2, 0] rfl ?_
    exact tO_Mo_goOver_275 K l 3000 v0 v2 x3 s0 _ h
  · have h := p_ifF b2 h
    refine g_aload_n (i := 0) (j := 0) (dk_Mo_goOver 135 rfl) rfl rfl ?_
    refine g_getR fl_Mo_129 (Or.inr ⟨_, rfl⟩) (dk_Mo_goOver 136 rfl) c1 ?_
    refine g_iload_n (i := 3) (j := 2) (dk_Mo_goOver 137 rfl) rfl rfl ?_
    refine g_aload_n (i := 0) (j := 0) (dk_Mo_goOver 138 rfl) rfl rfl ?_
    refine g_aload_n (i := 0) (j := 0) (dk_Mo_goOver 139 rfl) rfl rfl ?_
    refine g_getR fl_Mo_129 (Or.inr ⟨_, rfl⟩) (dk_Mo_goOver 140 rfl) c1 ?_
    refine g_iload_n (i := 3) (j := 2) (dk_Mo_goOver 141 rfl) rfl rfl ?_
    obtain ⟨c4, h⟩ := p_gdE h
    obtain ⟨c5, h⟩ := p_gdE h
    refine g_iaload (dk_Mo_goOver 142 rfl) c4 c5.1 c5.2 ?_
    obtain ⟨r10, s6, q7, h⟩ := p_bdE h
    have t8 := tF_Mo_both K l v0 (p_Z s0 (p_R s0 v0 43) (v3 : Int).toNat) s0 _ q7
    refine g_callV (a := v0) (ci := 11) (q0 := (RX11, TX11, 90)) (As := [p_i (p_Z s0 (p_R s0 v0 43) (v3 : Int).toNat)]) (rest := [p_i v3, p_r (p_R s0 v0 43)]) [p_i r10, p_i v3, p_r (p_R s0 v0 43)] mt_Mo_both rfl rfl tw_8_65 ts_71 tw_8_63 ⟨Nat.le_of_ble_eq_true rfl, Nat.le_of_ble_eq_true rfl⟩ rfl (Nat.le_of_ble_eq_true rfl) (dk_Mo_goOver 143 rfl) rfl c1 rfl t8 ?_
    have hs9 : p_x s0 s6 := t8.1
    show p_Go K l m_Mo_goOver 260 [(0, p_r v0), (2, p_i v2), (3, p_i v3)] [p_i r10, p_i v3, p_r (p_R s0 v0 43)] s6 _
    obtain ⟨c11, h⟩ := p_gdE h
    refine g_iastore (dk_Mo_goOver 144 rfl) (c4.up hs9) c11.1 c11.2 ?_
    refine p_ltS (P := fun q => p_Go K l m_Mo_goOver 261 [(0, p_r v0), (2, p_i v2), (3, p_i v3)] [] q _) (p_xZ _ _ _ _) ?_ h
    intro s12 hs13 h
    refine g_iinc (j := 2) [(3, p_i (p_w (v3 + 1))), (0, p_r v0), (2, p_i v2)] (dk_Mo_goOver 145 rfl) rfl (by decide) rfl ?_
    refine p_ltG (P := fun q => p_Go K l m_Mo_goOver 264 [(3, p_i q), (0, p_r v0), (2, p_i v2)] [] s12 _) ?_ h
    intro x14 h
    refine g_goto 229 (dk_Mo_goOver 146 rfl) (by decide) ?_
    refine g_sub [(0, p_r v0), (2, p_i v2), (3, p_i x14)] [1, 2, 0] rfl ?_
    exact hk229 v0 v2 x14 s12 _ h
set_option maxRecDepth 100000 in
set_option maxHeartbeats 4000000 in
theorem tO_Mo_goOver_229 (K : p_K) (l : Launch)  : ∀ (n : Nat) (v0 : Nat) (v2 : Int) (v3 : Int) (s0 : p_Hp) (r : p_Hp), O_Mo_goOver_229 n v0 v2 v3 s0 = some r → p_Go K l m_Mo_goOver 229 [(0, p_r v0), (2, p_i v2), (3, p_i v3)] [] s0 (none, r) := by
  intro n
  induction n with
  | zero => intro v0 v2 v3 s0 r h; cases (show (none : Option p_Hp) = some r from h)
  | succ n ih => intro v0 v2 v3 s0 r h; exact tL_Mo_goOver_229 K l _ ih v0 v2 v3 s0 r h
set_option maxRecDepth 100000 in
set_option maxHeartbeats 4000000 in
theorem tL_Mo_goOver_184 (K : p_K) (l : Launch) (k184 : Nat → Int → Int → p_Hp → Option p_Hp) (hk184 : ∀ (v0 : Nat) (v2 : Int) (v3 : Int)  (s0 : p_Hp) (r : p_Hp), k184 v0 v2 v3 s0 = some r → p_Go K l m_Mo_goOver 184 [(0, p_r v0), (2, p_i v2), (3, p_i v3)] [] s0 (none, r)) (v0 : Nat) (v2 : Int) (v3 : Int) (s0 : p_Hp) (r : p_Hp) (h : L_Mo_goOver_184 k184 v0 v2 v3 s0 = some r) : p_Go K l m_Mo_goOver 184 [(0, p_r v0), (2, p_i v2), (3, p_i v3)] [] s0 (none, r) := by
  unfold L_Mo_goOver_184 at h
  refine g_iload_n (i := 3) (j := 2) (dk_Mo_goOver 102 rfl) rfl rfl ?_
  refine g_bipush (dk_Mo_goOver 103 rfl) (by decide +kernel) (by decide) ?_
  refine g_aload_n (i := 0) (j := 0) (dk_Mo_goOver 104 rfl) rfl rfl ?_
  obtain ⟨c1, h⟩ := p_gdE h
  refine g_getI fl_Mo_227 (Or.inl rfl) (dk_Mo_goOver 105 rfl) c1 ?_
  refine g_imul (dk_Mo_goOver 106 rfl) ?_
  refine g_bipush (dk_Mo_goOver 107 rfl) (by decide +kernel) (by decide) ?_
  refine g_iadd (dk_Mo_goOver 108 rfl) ?_
  refine g_icmp_ge 220 (dk_Mo_goOver 109 rfl) (by decide) (fun b2 => ?_) (fun b2 => ?_)
  · have h := p_ifT b2 h
    refine g_sipush (dk_Mo_goOver 122 rfl) (by decide +kernel) (by decide) ?_
    refine g_aload_n (i := 0) (j := 0) (dk_Mo_goOver 123 rfl) rfl rfl ?_
    refine g_getI fl_Mo_227 (Or.inl rfl) (dk_Mo_goOver 124 rfl) c1 ?_
    refine g_imul (dk_Mo_goOver 125 rfl) ?_
    refine g_istore_n (i := 3) [(3, p_i (p_w (200 * (p_Z s0 v0 0)))), (0, p_r v0), (2, p_i v2)] (dk_Mo_goOver 126 rfl) rfl (by decide) rfl ?_
    refine p_ltG (P := fun q => p_Go K l m_Mo_goOver 229 [(3, p_i q), (0, p_r v0), (2, p_i v2)] [] s0 _) ?_ h
    intro x3 h
    refine g_sub [(0, p_r v0), (2, p_i v2), (3, p_i x3)] [1, 2, 0] rfl ?_
    exact tO_Mo_goOver_229 K l 3000 v0 v2 x3 s0 _ h
  · have h := p_ifF b2 h
    refine g_aload_n (i := 0) (j := 0) (dk_Mo_goOver 110 rfl) rfl rfl ?_
    refine g_getR fl_Mo_123 (Or.inr ⟨_, rfl⟩) (dk_Mo_goOver 111 rfl) c1 ?_
    refine g_iload_n (i := 3) (j := 2) (dk_Mo_goOver 112 rfl) rfl rfl ?_
    refine g_aload_n (i := 0) (j := 0) (dk_Mo_goOver 113 rfl) rfl rfl ?_
    refine g_aload_n (i := 0) (j := 0) (dk_Mo_goOver 114 rfl) rfl rfl ?_
    refine g_getR fl_Mo_123 (Or.inr ⟨_, rfl⟩) (dk_Mo_goOver 115 rfl) c1 ?_
    refine g_iload_n (i := 3) (j := 2) (dk_Mo_goOver 116 rfl) rfl rfl ?_
    obtain ⟨c4, h⟩ := p_gdE h
    obtain ⟨c5, h⟩ := p_gdE h
    refine g_iaload (dk_Mo_goOver 117 rfl) c4 c5.1 c5.2 ?_
    obtain ⟨r10, s6, q7, h⟩ := p_bdE h
    have t8 := tF_Mo_both K l v0 (p_Z s0 (p_R s0 v0 41) (v3 : Int).toNat) s0 _ q7
    refine g_callV (a := v0) (ci := 11) (q0 := (RX11, TX11, 90)) (As := [p_i (p_Z s0 (p_R s0 v0 41) (v3 : Int).toNat)]) (rest := [p_i v3, p_r (p_R s0 v0 41)]) [p_i r10, p_i v3, p_r (p_R s0 v0 41)] mt_Mo_both rfl rfl tw_8_65 ts_71 tw_8_63 ⟨Nat.le_of_ble_eq_true rfl, Nat.le_of_ble_eq_true rfl⟩ rfl (Nat.le_of_ble_eq_true rfl) (dk_Mo_goOver 118 rfl) rfl c1 rfl t8 ?_
    have hs9 : p_x s0 s6 := t8.1
    show p_Go K l m_Mo_goOver 213 [(0, p_r v0), (2, p_i v2), (3, p_i v3)] [p_i r10, p_i v3, p_r (p_R s0 v0 41)] s6 _
    obtain ⟨c11, h⟩ := p_gdE h
    refine g_iastore (dk_Mo_goOver 119 rfl) (c4.up hs9) c11.1 c11.2 ?_
    refine p_ltS (P := fun q => p_Go K l m_Mo_goOver 214 [(0, p_r v0), (2, p_i v2), (3, p_i v3)] [] q _) (p_xZ _ _ _ _) ?_ h
    intro s12 hs13 h
    refine g_iinc (j := 2) [(3, p_i (p_w (v3 + 1))), (0, p_r v0), (2, p_i v2)] (dk_Mo_goOver 120 rfl) rfl (by decide) rfl ?_
    refine p_ltG (P := fun q => p_Go K l m_Mo_goOver 217 [(3, p_i q), (0, p_r v0), (2, p_i v2)] [] s12 _) ?_ h
    intro x14 h
    refine g_goto 184 (dk_Mo_goOver 121 rfl) (by decide) ?_
    refine g_sub [(0, p_r v0), (2, p_i v2), (3, p_i x14)] [1, 2, 0] rfl ?_
    exact hk184 v0 v2 x14 s12 _ h
set_option maxRecDepth 100000 in
set_option maxHeartbeats 4000000 in
theorem tO_Mo_goOver_184 (K : p_K) (l : Launch)  : ∀ (n : Nat) (v0 : Nat) (v2 : Int) (v3 : Int) (s0 : p_Hp) (r : p_Hp), O_Mo_goOver_184 n v0 v2 v3 s0 = some r → p_Go K l m_Mo_goOver 184 [(0, p_r v0), (2, p_i v2), (3, p_i v3)] [] s0 (none, r) := by
  intro n
  induction n with
  | zero => intro v0 v2 v3 s0 r h; cases (show (none : Option p_Hp) = some r from h)
  | succ n ih => intro v0 v2 v3 s0 r h; exact tL_Mo_goOver_184 K l _ ih v0 v2 v3 s0 r h
set_option maxRecDepth 100000 in
set_option maxHeartbeats 4000000 in
theorem tL_Mo_goOver_144 (K : p_K) (l : Launch) (k144 : Nat → Int → Int → p_Hp → Option p_Hp) (hk144 : ∀ (v0 : Nat) (v2 : Int) (v3 : Int)  (s0 : p_Hp) (r : p_Hp), k144 v0 v2 v3 s0 = some r → p_Go K l m_Mo_goOver 144 [(0, p_r v0), (2, p_i v2), (3, p_i v3)] [] s0 (none, r)) (v0 : Nat) (v2 : Int) (v3 : Int) (s0 : p_Hp) (r : p_Hp) (h : L_Mo_goOver_144 k144 v0 v2 v3 s0 = some r) : p_Go K l m_Mo_goOver 144 [(0, p_r v0), (2, p_i v2), (3, p_i v3)] [] s0 (none, r) := by
  unfold L_Mo_goOver_144 at h
  refine g_iload_n (i := 3) (j := 2) (dk_Mo_goOver 80 rfl) rfl rfl ?_
  refine g_bipush (dk_Mo_goOver 81 rfl) (by decide +kernel) (by decide) ?_
  refine g_aload_n (i := 0) (j := 0) (dk_Mo_goOver 82 rfl) rfl rfl ?_
  obtain ⟨c1, h⟩ := p_gdE h
  refine g_getI fl_Mo_227 (Or.inl rfl) (dk_Mo_goOver 83 rfl) c1 ?_
  refine g_imul (dk_Mo_goOver 84 rfl) ?_
  refine g_aload_n (i := 0) (j := 0) (dk_Mo_goOver 85 rfl) rfl rfl ?_
  refine g_getR fl_Mo_7 (Or.inr ⟨_, rfl⟩) (dk_Mo_goOver 86 rfl) c1 ?_
  refine g_aload_n (i := 0) (j := 0) (dk_Mo_goOver 87 rfl) rfl rfl ?_
  refine g_getI fl_Mo_227 (Or.inl rfl) (dk_Mo_goOver 88 rfl) c1 ?_
  obtain ⟨c2, h⟩ := p_gdE h
  obtain ⟨c3, h⟩ := p_gdE h
  refine g_iaload (dk_Mo_goOver 89 rfl) c2 c3.1 c3.2 ?_
  refine g_iadd (dk_Mo_goOver 90 rfl) ?_
  refine g_icmp_ge 176 (dk_Mo_goOver 91 rfl) (by decide) (fun b4 => ?_) (fun b4 => ?_)
  · have h := p_ifT b4 h
    refine g_bipush (dk_Mo_goOver 97 rfl) (by decide +kernel) (by decide) ?_
    refine g_aload_n (i := 0) (j := 0) (dk_Mo_goOver 98 rfl) rfl rfl ?_
    refine g_getI fl_Mo_227 (Or.inl rfl) (dk_Mo_goOver 99 rfl) c1 ?_
    refine g_imul (dk_Mo_goOver 100 rfl) ?_
    refine g_istore_n (i := 3) [(3, p_i (p_w (120 * (p_Z s0 v0 0)))), (0, p_r v0), (2, p_i v2)] (dk_Mo_goOver 101 rfl) rfl (by decide) rfl ?_
    refine p_ltG (P := fun q => p_Go K l m_Mo_goOver 184 [(3, p_i q), (0, p_r v0), (2, p_i v2)] [] s0 _) ?_ h
    intro x5 h
    refine g_sub [(0, p_r v0), (2, p_i v2), (3, p_i x5)] [1, 2, 0] rfl ?_
    exact tO_Mo_goOver_184 K l 3000 v0 v2 x5 s0 _ h
  · have h := p_ifF b4 h
    refine g_aload_n (i := 0) (j := 0) (dk_Mo_goOver 92 rfl) rfl rfl ?_
    refine g_iload_n (i := 3) (j := 2) (dk_Mo_goOver 93 rfl) rfl rfl ?_
    obtain ⟨s6, q7, h⟩ := p_bvE h
    have t8 := tF_Mo_goOverGear K l v0 v3 s0 _ q7
    refine g_callV (a := v0) (ci := 11) (q0 := (RX11, TX11, 90)) (As := [p_i v3]) (rest := []) [] mt_Mo_goOverGear rfl rfl tw_8_69 ts_72 tw_8_67 ⟨Nat.le_of_ble_eq_true rfl, Nat.le_of_ble_eq_true rfl⟩ rfl (Nat.le_of_ble_eq_true rfl) (dk_Mo_goOver 94 rfl) rfl c1 rfl t8 ?_
    have hs9 : p_x s0 s6 := t8.1
    show p_Go K l m_Mo_goOver 170 [(0, p_r v0), (2, p_i v2), (3, p_i v3)] [] s6 _
    refine g_iinc (j := 2) [(3, p_i (p_w (v3 + 1))), (0, p_r v0), (2, p_i v2)] (dk_Mo_goOver 95 rfl) rfl (by decide) rfl ?_
    refine p_ltG (P := fun q => p_Go K l m_Mo_goOver 173 [(3, p_i q), (0, p_r v0), (2, p_i v2)] [] s6 _) ?_ h
    intro x10 h
    refine g_goto 144 (dk_Mo_goOver 96 rfl) (by decide) ?_
    refine g_sub [(0, p_r v0), (2, p_i v2), (3, p_i x10)] [1, 2, 0] rfl ?_
    exact hk144 v0 v2 x10 s6 _ h
set_option maxRecDepth 100000 in
set_option maxHeartbeats 4000000 in
theorem tO_Mo_goOver_144 (K : p_K) (l : Launch)  : ∀ (n : Nat) (v0 : Nat) (v2 : Int) (v3 : Int) (s0 : p_Hp) (r : p_Hp), O_Mo_goOver_144 n v0 v2 v3 s0 = some r → p_Go K l m_Mo_goOver 144 [(0, p_r v0), (2, p_i v2), (3, p_i v3)] [] s0 (none, r) := by
  intro n
  induction n with
  | zero => intro v0 v2 v3 s0 r h; cases (show (none : Option p_Hp) = some r from h)
  | succ n ih => intro v0 v2 v3 s0 r h; exact tL_Mo_goOver_144 K l _ ih v0 v2 v3 s0 r h
set_option maxRecDepth 100000 in
set_option maxHeartbeats 4000000 in
theorem tF_Mo_goOver (K : p_K) (l : Launch) (v0 : Nat) (v1 : Int) (s0 : p_Hp) (r : p_Hp) (h : F_Mo_goOver v0 v1 s0 = some r) : p_Ct K l m_Mo_goOver [p_r v0, p_i v1] s0 (none, r) := by
  refine p_Ct.of (by decide +kernel) (Nat.le_of_ble_eq_true rfl) ?_
  unfold F_Mo_goOver at h
  show p_Go K l m_Mo_goOver 0 [(0, p_r v0), (1, p_i v1)] [] s0 _
  refine g_aload_n (i := 0) (j := 0) (dk_Mo_goOver 0 rfl) rfl rfl ?_
  refine g_sipush (dk_Mo_goOver 1 rfl) (by decide +kernel) (by decide) ?_
  refine g_bipush (dk_Mo_goOver 2 rfl) (by decide +kernel) (by decide) ?_
  refine g_aload_n (i := 0) (j := 0) (dk_Mo_goOver 3 rfl) rfl rfl ?_
  obtain ⟨c1, h⟩ := p_gdE h
  refine g_getI fl_Mo_227 (Or.inl rfl) (dk_Mo_goOver 4 rfl) c1 ?_
  refine g_imul (dk_Mo_goOver 5 rfl) ?_
  refine g_iload_n (i := 1) (j := 1) (dk_Mo_goOver 6 rfl) rfl rfl ?_
  refine g_iadd (dk_Mo_goOver 7 rfl) ?_
  refine g_imul (dk_Mo_goOver 8 rfl) ?_
  refine g_putI fl_Mo_500 (Or.inl rfl) (dk_Mo_goOver 9 rfl) c1 ?_
  refine p_ltS (P := fun q => p_Go K l m_Mo_goOver 17 [(0, p_r v0), (1, p_i v1)] [] q _) (p_xZ _ _ _ _) ?_ h
  intro s2 hs3 h
  refine g_aload_n (i := 0) (j := 0) (dk_Mo_goOver 10 rfl) rfl rfl ?_
  refine g_getR fl_Mo_13 (Or.inr ⟨_, rfl⟩) (dk_Mo_goOver 11 rfl) (c1.up hs3) ?_
  refine g_aload_n (i := 0) (j := 0) (dk_Mo_goOver 12 rfl) rfl rfl ?_
  refine g_getI fl_Mo_227 (Or.inl rfl) (dk_Mo_goOver 13 rfl) (c1.up hs3) ?_
  refine g_aload_n (i := 0) (j := 0) (dk_Mo_goOver 14 rfl) rfl rfl ?_
  refine g_aload_n (i := 0) (j := 0) (dk_Mo_goOver 15 rfl) rfl rfl ?_
  refine g_getR fl_Mo_13 (Or.inr ⟨_, rfl⟩) (dk_Mo_goOver 16 rfl) (c1.up hs3) ?_
  refine g_aload_n (i := 0) (j := 0) (dk_Mo_goOver 17 rfl) rfl rfl ?_
  refine g_getI fl_Mo_227 (Or.inl rfl) (dk_Mo_goOver 18 rfl) (c1.up hs3) ?_
  obtain ⟨c4, h⟩ := p_gdE h
  obtain ⟨c5, h⟩ := p_gdE h
  refine g_iaload (dk_Mo_goOver 19 rfl) c4 c5.1 c5.2 ?_
  obtain ⟨r10, s6, q7, h⟩ := p_bdE h
  have t8 := tF_Mo_both K l v0 (p_Z s2 (p_R s2 v0 4) ((p_Z s2 v0 0) : Int).toNat) s2 _ q7
  refine g_callV (a := v0) (ci := 11) (q0 := (RX11, TX11, 90)) (As := [p_i (p_Z s2 (p_R s2 v0 4) ((p_Z s2 v0 0) : Int).toNat)]) (rest := [p_i (p_Z s2 v0 0), p_r (p_R s2 v0 4)]) [p_i r10, p_i (p_Z s2 v0 0), p_r (p_R s2 v0 4)] mt_Mo_both rfl rfl tw_8_65 ts_71 tw_8_63 ⟨Nat.le_of_ble_eq_true rfl, Nat.le_of_ble_eq_true rfl⟩ rfl (Nat.le_of_ble_eq_true rfl) (dk_Mo_goOver 20 rfl) rfl (c1.up hs3) rfl t8 ?_
  have hs9 : p_x s2 s6 := t8.1
  show p_Go K l m_Mo_goOver 38 [(0, p_r v0), (1, p_i v1)] [p_i r10, p_i (p_Z s2 v0 0), p_r (p_R s2 v0 4)] s6 _
  obtain ⟨c11, h⟩ := p_gdE h
  refine g_iastore (dk_Mo_goOver 21 rfl) (c4.up hs9) c11.1 c11.2 ?_
  refine p_ltS (P := fun q => p_Go K l m_Mo_goOver 39 [(0, p_r v0), (1, p_i v1)] [] q _) (p_xZ _ _ _ _) ?_ h
  intro s12 hs13 h
  refine g_aload_n (i := 0) (j := 0) (dk_Mo_goOver 22 rfl) rfl rfl ?_
  refine g_getR fl_Mo_114 (Or.inr ⟨_, rfl⟩) (dk_Mo_goOver 23 rfl) (c1.up (hs3.trans (hs9.trans hs13))) ?_
  refine g_aload_n (i := 0) (j := 0) (dk_Mo_goOver 24 rfl) rfl rfl ?_
  refine g_getI fl_Mo_227 (Or.inl rfl) (dk_Mo_goOver 25 rfl) (c1.up (hs3.trans (hs9.trans hs13))) ?_
  refine g_aload_n (i := 0) (j := 0) (dk_Mo_goOver 26 rfl) rfl rfl ?_
  refine g_aload_n (i := 0) (j := 0) (dk_Mo_goOver 27 rfl) rfl rfl ?_
  refine g_getR fl_Mo_114 (Or.inr ⟨_, rfl⟩) (dk_Mo_goOver 28 rfl) (c1.up (hs3.trans (hs9.trans hs13))) ?_
  refine g_aload_n (i := 0) (j := 0) (dk_Mo_goOver 29 rfl) rfl rfl ?_
  refine g_getI fl_Mo_227 (Or.inl rfl) (dk_Mo_goOver 30 rfl) (c1.up (hs3.trans (hs9.trans hs13))) ?_
  obtain ⟨c14, h⟩ := p_gdE h
  obtain ⟨c15, h⟩ := p_gdE h
  refine g_iaload (dk_Mo_goOver 31 rfl) c14 c15.1 c15.2 ?_
  obtain ⟨r20, s16, q17, h⟩ := p_bdE h
  have t18 := tF_Mo_both K l v0 (p_Z s12 (p_R s12 v0 38) ((p_Z s12 v0 0) : Int).toNat) s12 _ q17
  refine g_callV (a := v0) (ci := 11) (q0 := (RX11, TX11, 90)) (As := [p_i (p_Z s12 (p_R s12 v0 38) ((p_Z s12 v0 0) : Int).toNat)]) (rest := [p_i (p_Z s12 v0 0), p_r (p_R s12 v0 38)]) [p_i r20, p_i (p_Z s12 v0 0), p_r (p_R s12 v0 38)] mt_Mo_both rfl rfl tw_8_65 ts_71 tw_8_63 ⟨Nat.le_of_ble_eq_true rfl, Nat.le_of_ble_eq_true rfl⟩ rfl (Nat.le_of_ble_eq_true rfl) (dk_Mo_goOver 32 rfl) rfl (c1.up (hs3.trans (hs9.trans hs13))) rfl t18 ?_
  have hs19 : p_x s12 s16 := t18.1
  show p_Go K l m_Mo_goOver 60 [(0, p_r v0), (1, p_i v1)] [p_i r20, p_i (p_Z s12 v0 0), p_r (p_R s12 v0 38)] s16 _
  obtain ⟨c21, h⟩ := p_gdE h
  refine g_iastore (dk_Mo_goOver 33 rfl) (c14.up hs19) c21.1 c21.2 ?_
  refine p_ltS (P := fun q => p_Go K l m_Mo_goOver 61 [(0, p_r v0), (1, p_i v1)] [] q _) (p_xZ _ _ _ _) ?_ h
  intro s22 hs23 h
  refine g_aload_n (i := 0) (j := 0) (dk_Mo_goOver 34 rfl) rfl rfl ?_
  refine g_getR fl_Mo_117 (Or.inr ⟨_, rfl⟩) (dk_Mo_goOver 35 rfl) (c1.up (hs3.trans (hs9.trans (hs13.trans (hs19.trans hs23))))) ?_
  refine g_aload_n (i := 0) (j := 0) (dk_Mo_goOver 36 rfl) rfl rfl ?_
  refine g_getI fl_Mo_227 (Or.inl rfl) (dk_Mo_goOver 37 rfl) (c1.up (hs3.trans (hs9.trans (hs13.trans (hs19.trans hs23))))) ?_
  refine g_aload_n (i := 0) (j := 0) (dk_Mo_goOver 38 rfl) rfl rfl ?_
  refine g_aload_n (i := 0) (j := 0) (dk_Mo_goOver 39 rfl) rfl rfl ?_
  refine g_getR fl_Mo_117 (Or.inr ⟨_, rfl⟩) (dk_Mo_goOver 40 rfl) (c1.up (hs3.trans (hs9.trans (hs13.trans (hs19.trans hs23))))) ?_
  refine g_aload_n (i := 0) (j := 0) (dk_Mo_goOver 41 rfl) rfl rfl ?_
  refine g_getI fl_Mo_227 (Or.inl rfl) (dk_Mo_goOver 42 rfl) (c1.up (hs3.trans (hs9.trans (hs13.trans (hs19.trans hs23))))) ?_
  obtain ⟨c24, h⟩ := p_gdE h
  obtain ⟨c25, h⟩ := p_gdE h
  refine g_iaload (dk_Mo_goOver 43 rfl) c24 c25.1 c25.2 ?_
  obtain ⟨r30, s26, q27, h⟩ := p_bdE h
  have t28 := tF_Mo_both K l v0 (p_Z s22 (p_R s22 v0 39) ((p_Z s22 v0 0) : Int).toNat) s22 _ q27
  refine g_callV (a := v0) (ci := 11) (q0 := (RX11, TX11, 90)) (As := [p_i (p_Z s22 (p_R s22 v0 39) ((p_Z s22 v0 0) : Int).toNat)]) (rest := [p_i (p_Z s22 v0 0), p_r (p_R s22 v0 39)]) [p_i r30, p_i (p_Z s22 v0 0), p_r (p_R s22 v0 39)] mt_Mo_both rfl rfl tw_8_65 ts_71 tw_8_63 ⟨Nat.le_of_ble_eq_true rfl, Nat.le_of_ble_eq_true rfl⟩ rfl (Nat.le_of_ble_eq_true rfl) (dk_Mo_goOver 44 rfl) rfl (c1.up (hs3.trans (hs9.trans (hs13.trans (hs19.trans hs23))))) rfl t28 ?_
  have hs29 : p_x s22 s26 := t28.1
  show p_Go K l m_Mo_goOver 82 [(0, p_r v0), (1, p_i v1)] [p_i r30, p_i (p_Z s22 v0 0), p_r (p_R s22 v0 39)] s26 _
  obtain ⟨c31, h⟩ := p_gdE h
  refine g_iastore (dk_Mo_goOver 45 rfl) (c24.up hs29) c31.1 c31.2 ?_
  refine p_ltS (P := fun q => p_Go K l m_Mo_goOver 83 [(0, p_r v0), (1, p_i v1)] [] q _) (p_xZ _ _ _ _) ?_ h
  intro s32 hs33 h
  refine g_aload_n (i := 0) (j := 0) (dk_Mo_goOver 46 rfl) rfl rfl ?_
  refine g_getR fl_Mo_120 (Or.inr ⟨_, rfl⟩) (dk_Mo_goOver 47 rfl) (c1.up (hs3.trans (hs9.trans (hs13.trans (hs19.trans (hs23.trans (hs29.trans hs33))))))) ?_
  refine g_aload_n (i := 0) (j := 0) (dk_Mo_goOver 48 rfl) rfl rfl ?_
  refine g_getI fl_Mo_227 (Or.inl rfl) (dk_Mo_goOver 49 rfl) (c1.up (hs3.trans (hs9.trans (hs13.trans (hs19.trans (hs23.trans (hs29.trans hs33))))))) ?_
  refine g_aload_n (i := 0) (j := 0) (dk_Mo_goOver 50 rfl) rfl rfl ?_
  refine g_aload_n (i := 0) (j := 0) (dk_Mo_goOver 51 rfl) rfl rfl ?_
  refine g_getR fl_Mo_120 (Or.inr ⟨_, rfl⟩) (dk_Mo_goOver 52 rfl) (c1.up (hs3.trans (hs9.trans (hs13.trans (hs19.trans (hs23.trans (hs29.trans hs33))))))) ?_
  refine g_aload_n (i := 0) (j := 0) (dk_Mo_goOver 53 rfl) rfl rfl ?_
  refine g_getI fl_Mo_227 (Or.inl rfl) (dk_Mo_goOver 54 rfl) (c1.up (hs3.trans (hs9.trans (hs13.trans (hs19.trans (hs23.trans (hs29.trans hs33))))))) ?_
  obtain ⟨c34, h⟩ := p_gdE h
  obtain ⟨c35, h⟩ := p_gdE h
  refine g_iaload (dk_Mo_goOver 55 rfl) c34 c35.1 c35.2 ?_
  obtain ⟨r40, s36, q37, h⟩ := p_bdE h
  have t38 := tF_Mo_both K l v0 (p_Z s32 (p_R s32 v0 40) ((p_Z s32 v0 0) : Int).toNat) s32 _ q37
  refine g_callV (a := v0) (ci := 11) (q0 := (RX11, TX11, 90)) (As := [p_i (p_Z s32 (p_R s32 v0 40) ((p_Z s32 v0 0) : Int).toNat)]) (rest := [p_i (p_Z s32 v0 0), p_r (p_R s32 v0 40)]) [p_i r40, p_i (p_Z s32 v0 0), p_r (p_R s32 v0 40)] mt_Mo_both rfl rfl tw_8_65 ts_71 tw_8_63 ⟨Nat.le_of_ble_eq_true rfl, Nat.le_of_ble_eq_true rfl⟩ rfl (Nat.le_of_ble_eq_true rfl) (dk_Mo_goOver 56 rfl) rfl (c1.up (hs3.trans (hs9.trans (hs13.trans (hs19.trans (hs23.trans (hs29.trans hs33))))))) rfl t38 ?_
  have hs39 : p_x s32 s36 := t38.1
  show p_Go K l m_Mo_goOver 104 [(0, p_r v0), (1, p_i v1)] [p_i r40, p_i (p_Z s32 v0 0), p_r (p_R s32 v0 40)] s36 _
  obtain ⟨c41, h⟩ := p_gdE h
  refine g_iastore (dk_Mo_goOver 57 rfl) (c34.up hs39) c41.1 c41.2 ?_
  refine p_ltS (P := fun q => p_Go K l m_Mo_goOver 105 [(0, p_r v0), (1, p_i v1)] [] q _) (p_xZ _ _ _ _) ?_ h
  intro s42 hs43 h
  refine g_aload_n (i := 0) (j := 0) (dk_Mo_goOver 58 rfl) rfl rfl ?_
  refine g_getR fl_Mo_126 (Or.inr ⟨_, rfl⟩) (dk_Mo_goOver 59 rfl) (c1.up (hs3.trans (hs9.trans (hs13.trans (hs19.trans (hs23.trans (hs29.trans (hs33.trans (hs39.trans hs43))))))))) ?_
  refine g_aload_n (i := 0) (j := 0) (dk_Mo_goOver 60 rfl) rfl rfl ?_
  refine g_getI fl_Mo_227 (Or.inl rfl) (dk_Mo_goOver 61 rfl) (c1.up (hs3.trans (hs9.trans (hs13.trans (hs19.trans (hs23.trans (hs29.trans (hs33.trans (hs39.trans hs43))))))))) ?_
  refine g_aload_n (i := 0) (j := 0) (dk_Mo_goOver 62 rfl) rfl rfl ?_
  refine g_aload_n (i := 0) (j := 0) (dk_Mo_goOver 63 rfl) rfl rfl ?_
  refine g_getR fl_Mo_126 (Or.inr ⟨_, rfl⟩) (dk_Mo_goOver 64 rfl) (c1.up (hs3.trans (hs9.trans (hs13.trans (hs19.trans (hs23.trans (hs29.trans (hs33.trans (hs39.trans hs43))))))))) ?_
  refine g_aload_n (i := 0) (j := 0) (dk_Mo_goOver 65 rfl) rfl rfl ?_
  refine g_getI fl_Mo_227 (Or.inl rfl) (dk_Mo_goOver 66 rfl) (c1.up (hs3.trans (hs9.trans (hs13.trans (hs19.trans (hs23.trans (hs29.trans (hs33.trans (hs39.trans hs43))))))))) ?_
  obtain ⟨c44, h⟩ := p_gdE h
  obtain ⟨c45, h⟩ := p_gdE h
  refine g_iaload (dk_Mo_goOver 67 rfl) c44 c45.1 c45.2 ?_
  obtain ⟨r50, s46, q47, h⟩ := p_bdE h
  have t48 := tF_Mo_both K l v0 (p_Z s42 (p_R s42 v0 42) ((p_Z s42 v0 0) : Int).toNat) s42 _ q47
  refine g_callV (a := v0) (ci := 11) (q0 := (RX11, TX11, 90)) (As := [p_i (p_Z s42 (p_R s42 v0 42) ((p_Z s42 v0 0) : Int).toNat)]) (rest := [p_i (p_Z s42 v0 0), p_r (p_R s42 v0 42)]) [p_i r50, p_i (p_Z s42 v0 0), p_r (p_R s42 v0 42)] mt_Mo_both rfl rfl tw_8_65 ts_71 tw_8_63 ⟨Nat.le_of_ble_eq_true rfl, Nat.le_of_ble_eq_true rfl⟩ rfl (Nat.le_of_ble_eq_true rfl) (dk_Mo_goOver 68 rfl) rfl (c1.up (hs3.trans (hs9.trans (hs13.trans (hs19.trans (hs23.trans (hs29.trans (hs33.trans (hs39.trans hs43))))))))) rfl t48 ?_
  have hs49 : p_x s42 s46 := t48.1
  show p_Go K l m_Mo_goOver 126 [(0, p_r v0), (1, p_i v1)] [p_i r50, p_i (p_Z s42 v0 0), p_r (p_R s42 v0 42)] s46 _
  obtain ⟨c51, h⟩ := p_gdE h
  refine g_iastore (dk_Mo_goOver 69 rfl) (c44.up hs49) c51.1 c51.2 ?_
  refine p_ltS (P := fun q => p_Go K l m_Mo_goOver 127 [(0, p_r v0), (1, p_i v1)] [] q _) (p_xZ _ _ _ _) ?_ h
  intro s52 hs53 h
  refine g_aload_n (i := 0) (j := 0) (dk_Mo_goOver 70 rfl) rfl rfl ?_
  refine g_aload_n (i := 0) (j := 0) (dk_Mo_goOver 71 rfl) rfl rfl ?_
  refine g_getI fl_Mo_334 (Or.inl rfl) (dk_Mo_goOver 72 rfl) (c1.up (hs3.trans (hs9.trans (hs13.trans (hs19.trans (hs23.trans (hs29.trans (hs33.trans (hs39.trans (hs43.trans (hs49.trans hs53))))))))))) ?_
  obtain ⟨r58, s54, q55, h⟩ := p_bdE h
  have t56 := tF_Mo_both K l v0 (p_Z s52 v0 23) s52 _ q55
  refine g_callV (a := v0) (ci := 11) (q0 := (RX11, TX11, 90)) (As := [p_i (p_Z s52 v0 23)]) (rest := []) [p_i r58] mt_Mo_both rfl rfl tw_8_65 ts_71 tw_8_63 ⟨Nat.le_of_ble_eq_true rfl, Nat.le_of_ble_eq_true rfl⟩ rfl (Nat.le_of_ble_eq_true rfl) (dk_Mo_goOver 73 rfl) rfl (c1.up (hs3.trans (hs9.trans (hs13.trans (hs19.trans (hs23.trans (hs29.trans (hs33.trans (hs39.trans (hs43.trans (hs49.trans hs53))))))))))) rfl t56 ?_
  have hs57 : p_x s52 s54 := t56.1
  show p_Go K l m_Mo_goOver 135 [(0, p_r v0), (1, p_i v1)] [p_i r58] s54 _
  refine g_istore_n (i := 2) [(2, p_i r58), (0, p_r v0), (1, p_i v1)] (dk_Mo_goOver 74 rfl) rfl (by decide) rfl ?_
  refine g_bipush (dk_Mo_goOver 75 rfl) (by decide +kernel) (by decide) ?_
  refine g_aload_n (i := 0) (j := 1) (dk_Mo_goOver 76 rfl) rfl rfl ?_
  refine g_getI fl_Mo_227 (Or.inl rfl) (dk_Mo_goOver 77 rfl) (c1.up (hs3.trans (hs9.trans (hs13.trans (hs19.trans (hs23.trans (hs29.trans (hs33.trans (hs39.trans (hs43.trans (hs49.trans (hs53.trans hs57)))))))))))) ?_
  refine g_imul (dk_Mo_goOver 78 rfl) ?_
  refine g_istore_n (i := 3) [(3, p_i (p_w (40 * (p_Z s54 v0 0)))), (2, p_i r58), (0, p_r v0), (1, p_i v1)] (dk_Mo_goOver 79 rfl) rfl (by decide) rfl ?_
  refine p_ltG (P := fun q => p_Go K l m_Mo_goOver 144 [(3, p_i q), (2, p_i r58), (0, p_r v0), (1, p_i v1)] [] s54 _) ?_ h
  intro x59 h
  refine g_sub [(0, p_r v0), (2, p_i r58), (3, p_i x59)] [2, 1, 0] rfl ?_
  exact tO_Mo_goOver_144 K l 3000 v0 r58 x59 s54 _ h
def m_Mo_keep : p_Me := (⟨"SortWorksModel", "keep", "()V"⟩, prog_13_method_89_code, 1, none, 3, 68)
theorem mt_Mo_keep : p_Mt m_Mo_keep 0 := ⟨p_mem (p_tb8 (List.mem_of_getElem? (i := 58) rfl)) rfl, tw_1_12, by decide +kernel, by decide +kernel, by decide +kernel⟩
def dt_Mo_keep : List (Nat × Instr × Nat) := [(0, .aload_n 0, 1), (1, .getfield 207, 3), (4, .aload_n 0, 1), (5, .getfield 227, 3), (8, .iaload, 1), (9, .bipush 30, 2), (11, .if_icmp .ne 39, 3), (14, .aload_n 0, 1), (15, .getfield 210, 3), (18, .aload_n 0, 1), (19, .getfield 227, 3), (22, .aload_n 0, 1), (23, .getfield 210, 3), (26, .aload_n 0, 1), (27, .getfield 227, 3), (30, .iaload, 1), (31, .iconst 1, 1), (32, .iadd, 1), (33, .bipush 30, 2), (35, .irem, 1), (36, .iastore, 1), (37, .aload_n 0, 1), (38, .getfield 207, 3), (41, .aload_n 0, 1), (42, .getfield 227, 3), (45, .dup2, 1), (46, .iaload, 1), (47, .iconst 1, 1), (48, .isub, 1), (49, .iastore, 1), (50, .aload_n 0, 1), (51, .iconst 1, 1), (52, .putfield 496, 3), (55, .aload_n 0, 1), (56, .aload_n 0, 1), (57, .getfield 210, 3), (60, .aload_n 0, 1), (61, .getfield 227, 3), (64, .iaload, 1), (65, .aload_n 0, 1), (66, .getfield 207, 3), (69, .aload_n 0, 1), (70, .getfield 227, 3), (73, .iaload, 1), (74, .iadd, 1), (75, .bipush 30, 2), (77, .irem, 1), (78, .invokevirtual 503, 3), (81, .aload_n 0, 1), (82, .getfield 207, 3), (85, .aload_n 0, 1), (86, .getfield 227, 3), (89, .dup2, 1), (90, .iaload, 1), (91, .iconst 1, 1), (92, .iadd, 1), (93, .iastore, 1), (94, .return_, 1)]
theorem dk_Mo_keep (i : Nat) {pc : Nat} {ins : Instr} {len : Nat} (h : dt_Mo_keep[i]? = some (pc, ins, len)) : decode m_Mo_keep.2.1 pc = .ok (ins, len) := p_dk (b := m_Mo_keep.2.1) (t := dt_Mo_keep) (by decide +kernel) i h
def B_Mo_keep_50  (v0 : Nat) (s0 : p_Hp) : Option p_Hp :=
  p_gd (p_is s0 v0 11) <|
  p_bi (p_wZ s0 v0 85 1) fun s2 =>
  p_gd (p_is s2 (p_R s2 v0 82) 100) <|
  p_gd ((0 : Int) ≤ (p_Z s2 v0 0) ∧ (p_Z s2 v0 0) < (p_L s2 (p_R s2 v0 82) : Int)) <|
  p_gd (p_is s2 (p_R s2 v0 81) 100) <|
  p_gd ((0 : Int) ≤ (p_Z s2 v0 0) ∧ (p_Z s2 v0 0) < (p_L s2 (p_R s2 v0 81) : Int)) <|
  p_bv (F_Mo_goOver v0 (p_rem (p_w ((p_Z s2 (p_R s2 v0 82) ((p_Z s2 v0 0) : Int).toNat) + (p_Z s2 (p_R s2 v0 81) ((p_Z s2 v0 0) : Int).toNat))) 30) s2) fun s8 =>
  p_gd (p_is s8 (p_R s8 v0 81) 100) <|
  p_gd ((0 : Int) ≤ (p_Z s8 v0 0) ∧ (p_Z s8 v0 0) < (p_L s8 (p_R s8 v0 81) : Int)) <|
  p_gd ((0 : Int) ≤ (p_Z s8 v0 0) ∧ (p_Z s8 v0 0) < (p_L s8 (p_R s8 v0 81) : Int)) <|
  p_bi (p_wZ s8 (p_R s8 v0 81) ((p_Z s8 v0 0) : Int).toNat (p_w ((p_Z s8 (p_R s8 v0 81) ((p_Z s8 v0 0) : Int).toNat) + 1))) fun s15 =>
  some s15
def F_Mo_keep (v0 : Nat) (s0 : p_Hp) : Option p_Hp :=
  p_gd (p_is s0 v0 11) <|
  p_gd (p_is s0 (p_R s0 v0 81) 100) <|
  p_gd ((0 : Int) ≤ (p_Z s0 v0 0) ∧ (p_Z s0 v0 0) < (p_L s0 (p_R s0 v0 81) : Int)) <|
  if (p_Z s0 (p_R s0 v0 81) ((p_Z s0 v0 0) : Int).toNat) ≠ 30 then
    B_Mo_keep_50 v0 s0
  else
    p_gd (p_is s0 (p_R s0 v0 82) 100) <|
    p_gd ((0 : Int) ≤ (p_Z s0 v0 0) ∧ (p_Z s0 v0 0) < (p_L s0 (p_R s0 v0 82) : Int)) <|
    p_gd ((0 : Int) ≤ (p_Z s0 v0 0) ∧ (p_Z s0 v0 0) < (p_L s0 (p_R s0 v0 82) : Int)) <|
    p_bi (p_wZ s0 (p_R s0 v0 82) ((p_Z s0 v0 0) : Int).toNat (p_rem (p_w ((p_Z s0 (p_R s0 v0 82) ((p_Z s0 v0 0) : Int).toNat) + 1)) 30)) fun s8 =>
    p_gd (p_is s8 (p_R s8 v0 81) 100) <|
    p_gd ((0 : Int) ≤ (p_Z s8 v0 0) ∧ (p_Z s8 v0 0) < (p_L s8 (p_R s8 v0 81) : Int)) <|
    p_gd ((0 : Int) ≤ (p_Z s8 v0 0) ∧ (p_Z s8 v0 0) < (p_L s8 (p_R s8 v0 81) : Int)) <|
    p_bi (p_wZ s8 (p_R s8 v0 81) ((p_Z s8 v0 0) : Int).toNat (p_w ((p_Z s8 (p_R s8 v0 81) ((p_Z s8 v0 0) : Int).toNat) - 1))) fun s13 =>
    B_Mo_keep_50 v0 s13
set_option maxRecDepth 100000 in
set_option maxHeartbeats 4000000 in
theorem tB_Mo_keep_50 (K : p_K) (l : Launch)  (v0 : Nat) (s0 : p_Hp) (r : p_Hp) (h : B_Mo_keep_50 v0 s0 = some r) : p_Go K l m_Mo_keep 50 [(0, p_r v0)] [] s0 (none, r) := by
  unfold B_Mo_keep_50 at h
  refine g_aload_n (i := 0) (j := 0) (dk_Mo_keep 30 rfl) rfl rfl ?_
  refine g_iconst (dk_Mo_keep 31 rfl) (by decide) ?_
  obtain ⟨c1, h⟩ := p_gdE h
  refine g_putB fl_Mo_496 (Or.inl rfl) (dk_Mo_keep 32 rfl) c1 (Or.inr rfl) ?_
  refine p_ltS (P := fun q => p_Go K l m_Mo_keep 55 [(0, p_r v0)] [] q _) (p_xZ _ _ _ _) ?_ h
  intro s2 hs3 h
  refine g_aload_n (i := 0) (j := 0) (dk_Mo_keep 33 rfl) rfl rfl ?_
  refine g_aload_n (i := 0) (j := 0) (dk_Mo_keep 34 rfl) rfl rfl ?_
  refine g_getR fl_Mo_210 (Or.inr ⟨_, rfl⟩) (dk_Mo_keep 35 rfl) (c1.up hs3) ?_
  refine g_aload_n (i := 0) (j := 0) (dk_Mo_keep 36 rfl) rfl rfl ?_
  refine g_getI fl_Mo_227 (Or.inl rfl) (dk_Mo_keep 37 rfl) (c1.up hs3) ?_
  obtain ⟨c4, h⟩ := p_gdE h
  obtain ⟨c5, h⟩ := p_gdE h
  refine g_iaload (dk_Mo_keep 38 rfl) c4 c5.1 c5.2 ?_
  refine g_aload_n (i := 0) (j := 0) (dk_Mo_keep 39 rfl) rfl rfl ?_
  refine g_getR fl_Mo_207 (Or.inr ⟨_, rfl⟩) (dk_Mo_keep 40 rfl) (c1.up hs3) ?_
  refine g_aload_n (i := 0) (j := 0) (dk_Mo_keep 41 rfl) rfl rfl ?_
  refine g_getI fl_Mo_227 (Or.inl rfl) (dk_Mo_keep 42 rfl) (c1.up hs3) ?_
  obtain ⟨c6, h⟩ := p_gdE h
  obtain ⟨c7, h⟩ := p_gdE h
  refine g_iaload (dk_Mo_keep 43 rfl) c6 c7.1 c7.2 ?_
  refine g_iadd (dk_Mo_keep 44 rfl) ?_
  refine g_bipush (dk_Mo_keep 45 rfl) (by decide +kernel) (by decide) ?_
  refine g_irem (dk_Mo_keep 46 rfl) (by decide) ?_
  obtain ⟨s8, q9, h⟩ := p_bvE h
  have t10 := tF_Mo_goOver K l v0 (p_rem (p_w ((p_Z s2 (p_R s2 v0 82) ((p_Z s2 v0 0) : Int).toNat) + (p_Z s2 (p_R s2 v0 81) ((p_Z s2 v0 0) : Int).toNat))) 30) s2 _ q9
  refine g_callV (a := v0) (ci := 11) (q0 := (RX11, TX11, 90)) (As := [p_i (p_rem (p_w ((p_Z s2 (p_R s2 v0 82) ((p_Z s2 v0 0) : Int).toNat) + (p_Z s2 (p_R s2 v0 81) ((p_Z s2 v0 0) : Int).toNat))) 30)]) (rest := []) [] mt_Mo_goOver rfl rfl tw_8_61 ts_70 tw_8_59 ⟨Nat.le_of_ble_eq_true rfl, Nat.le_of_ble_eq_true rfl⟩ rfl (Nat.le_of_ble_eq_true rfl) (dk_Mo_keep 47 rfl) rfl (c1.up hs3) rfl t10 ?_
  have hs11 : p_x s2 s8 := t10.1
  show p_Go K l m_Mo_keep 81 [(0, p_r v0)] [] s8 _
  refine g_aload_n (i := 0) (j := 0) (dk_Mo_keep 48 rfl) rfl rfl ?_
  refine g_getR fl_Mo_207 (Or.inr ⟨_, rfl⟩) (dk_Mo_keep 49 rfl) (c1.up (hs3.trans hs11)) ?_
  refine g_aload_n (i := 0) (j := 0) (dk_Mo_keep 50 rfl) rfl rfl ?_
  refine g_getI fl_Mo_227 (Or.inl rfl) (dk_Mo_keep 51 rfl) (c1.up (hs3.trans hs11)) ?_
  refine g_dup2 (dk_Mo_keep 52 rfl) rfl rfl ?_
  obtain ⟨c12, h⟩ := p_gdE h
  obtain ⟨c13, h⟩ := p_gdE h
  refine g_iaload (dk_Mo_keep 53 rfl) c12 c13.1 c13.2 ?_
  refine g_iconst (dk_Mo_keep 54 rfl) (by decide) ?_
  refine g_iadd (dk_Mo_keep 55 rfl) ?_
  obtain ⟨c14, h⟩ := p_gdE h
  refine g_iastore (dk_Mo_keep 56 rfl) c12 c14.1 c14.2 ?_
  refine p_ltS (P := fun q => p_Go K l m_Mo_keep 94 [(0, p_r v0)] [] q _) (p_xZ _ _ _ _) ?_ h
  intro s15 hs16 h
  cases h
  exact g_ret rfl rfl (dk_Mo_keep 57 rfl) (fun _ => rfl)
set_option maxRecDepth 100000 in
set_option maxHeartbeats 4000000 in
theorem tF_Mo_keep (K : p_K) (l : Launch) (v0 : Nat) (s0 : p_Hp) (r : p_Hp) (h : F_Mo_keep v0 s0 = some r) : p_Ct K l m_Mo_keep [p_r v0] s0 (none, r) := by
  refine p_Ct.of (by decide +kernel) (Nat.le_of_ble_eq_true rfl) ?_
  unfold F_Mo_keep at h
  show p_Go K l m_Mo_keep 0 [(0, p_r v0)] [] s0 _
  refine g_aload_n (i := 0) (j := 0) (dk_Mo_keep 0 rfl) rfl rfl ?_
  obtain ⟨c1, h⟩ := p_gdE h
  refine g_getR fl_Mo_207 (Or.inr ⟨_, rfl⟩) (dk_Mo_keep 1 rfl) c1 ?_
  refine g_aload_n (i := 0) (j := 0) (dk_Mo_keep 2 rfl) rfl rfl ?_
  refine g_getI fl_Mo_227 (Or.inl rfl) (dk_Mo_keep 3 rfl) c1 ?_
  obtain ⟨c2, h⟩ := p_gdE h
  obtain ⟨c3, h⟩ := p_gdE h
  refine g_iaload (dk_Mo_keep 4 rfl) c2 c3.1 c3.2 ?_
  refine g_bipush (dk_Mo_keep 5 rfl) (by decide +kernel) (by decide) ?_
  refine g_icmp_ne 50 (dk_Mo_keep 6 rfl) (by decide) (fun b4 => ?_) (fun b4 => ?_)
  · have h := p_ifT b4 h
    exact tB_Mo_keep_50 K l v0 s0 _ h
  · have h := p_ifF b4 h
    refine g_aload_n (i := 0) (j := 0) (dk_Mo_keep 7 rfl) rfl rfl ?_
    refine g_getR fl_Mo_210 (Or.inr ⟨_, rfl⟩) (dk_Mo_keep 8 rfl) c1 ?_
    refine g_aload_n (i := 0) (j := 0) (dk_Mo_keep 9 rfl) rfl rfl ?_
    refine g_getI fl_Mo_227 (Or.inl rfl) (dk_Mo_keep 10 rfl) c1 ?_
    refine g_aload_n (i := 0) (j := 0) (dk_Mo_keep 11 rfl) rfl rfl ?_
    refine g_getR fl_Mo_210 (Or.inr ⟨_, rfl⟩) (dk_Mo_keep 12 rfl) c1 ?_
    refine g_aload_n (i := 0) (j := 0) (dk_Mo_keep 13 rfl) rfl rfl ?_
    refine g_getI fl_Mo_227 (Or.inl rfl) (dk_Mo_keep 14 rfl) c1 ?_
    obtain ⟨c5, h⟩ := p_gdE h
    obtain ⟨c6, h⟩ := p_gdE h
    refine g_iaload (dk_Mo_keep 15 rfl) c5 c6.1 c6.2 ?_
    refine g_iconst (dk_Mo_keep 16 rfl) (by decide) ?_
    refine g_iadd (dk_Mo_keep 17 rfl) ?_
    refine g_bipush (dk_Mo_keep 18 rfl) (by decide +kernel) (by decide) ?_
    refine g_irem (dk_Mo_keep 19 rfl) (by decide) ?_
    obtain ⟨c7, h⟩ := p_gdE h
    refine g_iastore (dk_Mo_keep 20 rfl) c5 c7.1 c7.2 ?_
    refine p_ltS (P := fun q => p_Go K l m_Mo_keep 37 [(0, p_r v0)] [] q _) (p_xZ _ _ _ _) ?_ h
    intro s8 hs9 h
    refine g_aload_n (i := 0) (j := 0) (dk_Mo_keep 21 rfl) rfl rfl ?_
    refine g_getR fl_Mo_207 (Or.inr ⟨_, rfl⟩) (dk_Mo_keep 22 rfl) (c1.up hs9) ?_
    refine g_aload_n (i := 0) (j := 0) (dk_Mo_keep 23 rfl) rfl rfl ?_
    refine g_getI fl_Mo_227 (Or.inl rfl) (dk_Mo_keep 24 rfl) (c1.up hs9) ?_
    refine g_dup2 (dk_Mo_keep 25 rfl) rfl rfl ?_
    obtain ⟨c10, h⟩ := p_gdE h
    obtain ⟨c11, h⟩ := p_gdE h
    refine g_iaload (dk_Mo_keep 26 rfl) c10 c11.1 c11.2 ?_
    refine g_iconst (dk_Mo_keep 27 rfl) (by decide) ?_
    refine g_isub (dk_Mo_keep 28 rfl) ?_
    obtain ⟨c12, h⟩ := p_gdE h
    refine g_iastore (dk_Mo_keep 29 rfl) c10 c12.1 c12.2 ?_
    refine p_ltS (P := fun q => p_Go K l m_Mo_keep 50 [(0, p_r v0)] [] q _) (p_xZ _ _ _ _) ?_ h
    intro s13 hs14 h
    exact tB_Mo_keep_50 K l v0 s13 _ h
def m_Mo_steps : p_Me := (⟨"SortWorksModel", "steps", "()V"⟩, prog_13_method_84_code, 2, none, 8, 195)
theorem mt_Mo_steps : p_Mt m_Mo_steps 0 := ⟨p_mem (p_tb8 (List.mem_of_getElem? (i := 54) rfl)) rfl, tw_1_12, by decide +kernel, by decide +kernel, by decide +kernel⟩
def dt_Mo_steps : List (Nat × Instr × Nat) := [(0, .aload_n 0, 1), (1, .invokevirtual 474, 3), (4, .aload_n 0, 1), (5, .getfield 13, 3), (8, .aload_n 0, 1), (9, .getfield 227, 3), (12, .dup2, 1), (13, .iaload, 1), (14, .iconst 1, 1), (15, .iadd, 1), (16, .iastore, 1), (17, .aload_n 0, 1), (18, .getfield 132, 3), (21, .aload_n 0, 1), (22, .getfield 227, 3), (25, .iconst 0, 1), (26, .iastore, 1), (27, .iconst 1, 1), (28, .istore_n 1, 1), (29, .iload_n 1, 1), (30, .aload_n 0, 1), (31, .getfield 334, 3), (34, .if_icmp .gt 29, 3), (37, .aload_n 0, 1), (38, .getfield 72, 3), (41, .iload_n 1, 1), (42, .iaload, 1), (43, .aload_n 0, 1), (44, .getfield 227, 3), (47, .if_icmp .ne 10, 3), (50, .aload_n 0, 1), (51, .getfield 108, 3), (54, .iload_n 1, 1), (55, .iconst 0, 1), (56, .bastore, 1), (57, .iinc 1 1, 3), (60, .goto (-31), 3), (63, .aload_n 0, 1), (64, .invokevirtual 477, 3), (67, .aload_n 0, 1), (68, .invokevirtual 480, 3), (71, .iconst 0, 1), (72, .istore_n 1, 1), (73, .iload_n 1, 1), (74, .aload_n 0, 1), (75, .getfield 7, 3), (78, .aload_n 0, 1), (79, .getfield 227, 3), (82, .iaload, 1), (83, .if_icmp .ge 26, 3), (86, .aload_n 0, 1), (87, .aload_n 0, 1), (88, .iload_n 1, 1), (89, .invokevirtual 257, 3), (92, .invokevirtual 404, 3), (95, .ifCond .eq 8, 3), (98, .aload_n 0, 1), (99, .iload_n 1, 1), (100, .invokevirtual 483, 3), (103, .iinc 1 1, 3), (106, .goto (-33), 3), (109, .return_, 1)]
theorem dk_Mo_steps (i : Nat) {pc : Nat} {ins : Instr} {len : Nat} (h : dt_Mo_steps[i]? = some (pc, ins, len)) : decode m_Mo_steps.2.1 pc = .ok (ins, len) := p_dk (b := m_Mo_steps.2.1) (t := dt_Mo_steps) (by decide +kernel) i h
def B_Mo_steps_57 (k29 : Nat → Int → p_Hp → Option p_Hp) (v0 : Nat) (v1 : Int) (s0 : p_Hp) : Option p_Hp :=
  p_bi (p_w (v1 + 1)) fun x1 =>
  k29 v0 x1 s0
def B_Mo_steps_103 (k73 : Nat → Int → p_Hp → Option p_Hp) (v0 : Nat) (v1 : Int) (s0 : p_Hp) : Option p_Hp :=
  p_bi (p_w (v1 + 1)) fun x1 =>
  k73 v0 x1 s0
def L_Mo_steps_73 (k73 : Nat → Int → p_Hp → Option p_Hp) (v0 : Nat) (v1 : Int) (s0 : p_Hp) : Option p_Hp :=
  p_gd (p_is s0 v0 11) <|
  p_gd (p_is s0 (p_R s0 v0 3) 100) <|
  p_gd ((0 : Int) ≤ (p_Z s0 v0 0) ∧ (p_Z s0 v0 0) < (p_L s0 (p_R s0 v0 3) : Int)) <|
  if (p_Z s0 (p_R s0 v0 3) ((p_Z s0 v0 0) : Int).toNat) ≤ v1 then
    some s0
  else
    p_bd (F_Mo_g v0 v1 s0) fun r9 s5 =>
    p_bd (F_Mo_isActing v0 r9 s5) fun r14 s10 =>
    if r14 = 0 then
      B_Mo_steps_103 k73 v0 v1 s10
    else
      p_bv (F_Mo_act v0 v1 s10) fun s16 =>
      B_Mo_steps_103 k73 v0 v1 s16
def O_Mo_steps_73  : Nat → Nat → Int → p_Hp → Option p_Hp
  | 0 => fun _ _ _ => none
  | n + 1 => L_Mo_steps_73 (O_Mo_steps_73 n)
def L_Mo_steps_29 (k29 : Nat → Int → p_Hp → Option p_Hp) (v0 : Nat) (v1 : Int) (s0 : p_Hp) : Option p_Hp :=
  p_gd (p_is s0 v0 11) <|
  if (p_Z s0 v0 23) < v1 then
    p_bv (F_Mo_doPlans v0 s0) fun s3 =>
    p_bv (F_Mo_choose v0 s3) fun s7 =>
    O_Mo_steps_73 3000 v0 0 s7
  else
    p_gd (p_is s0 (p_R s0 v0 24) 100) <|
    p_gd ((0 : Int) ≤ v1 ∧ v1 < (p_L s0 (p_R s0 v0 24) : Int)) <|
    if (p_Z s0 (p_R s0 v0 24) (v1 : Int).toNat) ≠ (p_Z s0 v0 0) then
      B_Mo_steps_57 k29 v0 v1 s0
    else
      p_gd (p_is s0 (p_R s0 v0 36) 102) <|
      p_gd ((0 : Int) ≤ v1 ∧ v1 < (p_L s0 (p_R s0 v0 36) : Int)) <|
      p_bi (p_wZ s0 (p_R s0 v0 36) (v1 : Int).toNat 0) fun s16 =>
      B_Mo_steps_57 k29 v0 v1 s16
def O_Mo_steps_29  : Nat → Nat → Int → p_Hp → Option p_Hp
  | 0 => fun _ _ _ => none
  | n + 1 => L_Mo_steps_29 (O_Mo_steps_29 n)
def F_Mo_steps (v0 : Nat) (s0 : p_Hp) : Option p_Hp :=
  p_gd (p_is s0 v0 11) <|
  p_bv (F_Mo_keep v0 s0) fun s2 =>
  p_gd (p_is s2 (p_R s2 v0 4) 100) <|
  p_gd ((0 : Int) ≤ (p_Z s2 v0 0) ∧ (p_Z s2 v0 0) < (p_L s2 (p_R s2 v0 4) : Int)) <|
  p_gd ((0 : Int) ≤ (p_Z s2 v0 0) ∧ (p_Z s2 v0 0) < (p_L s2 (p_R s2 v0 4) : Int)) <|
  p_bi (p_wZ s2 (p_R s2 v0 4) ((p_Z s2 v0 0) : Int).toNat (p_w ((p_Z s2 (p_R s2 v0 4) ((p_Z s2 v0 0) : Int).toNat) + 1))) fun s9 =>
  p_gd (p_is s9 (p_R s9 v0 44) 100) <|
  p_gd ((0 : Int) ≤ (p_Z s9 v0 0) ∧ (p_Z s9 v0 0) < (p_L s9 (p_R s9 v0 44) : Int)) <|
  p_bi (p_wZ s9 (p_R s9 v0 44) ((p_Z s9 v0 0) : Int).toNat 0) fun s13 =>
  O_Mo_steps_29 3000 v0 1 s13
set_option maxRecDepth 100000 in
set_option maxHeartbeats 4000000 in
theorem tB_Mo_steps_57 (K : p_K) (l : Launch) (k29 : Nat → Int → p_Hp → Option p_Hp) (hk29 : ∀ (v0 : Nat) (v1 : Int)  (s0 : p_Hp) (r : p_Hp), k29 v0 v1 s0 = some r → p_Go K l m_Mo_steps 29 [(0, p_r v0), (1, p_i v1)] [] s0 (none, r)) (v0 : Nat) (v1 : Int) (s0 : p_Hp) (r : p_Hp) (h : B_Mo_steps_57 k29 v0 v1 s0 = some r) : p_Go K l m_Mo_steps 57 [(0, p_r v0), (1, p_i v1)] [] s0 (none, r) := by
  unfold B_Mo_steps_57 at h
  refine g_iinc (j := 1) [(1, p_i (p_w (v1 + 1))), (0, p_r v0)] (dk_Mo_steps 35 rfl) rfl (by decide) rfl ?_
  refine p_ltG (P := fun q => p_Go K l m_Mo_steps 60 [(1, p_i q), (0, p_r v0)] [] s0 _) ?_ h
  intro x1 h
  refine g_goto 29 (dk_Mo_steps 36 rfl) (by decide) ?_
  refine g_sub [(0, p_r v0), (1, p_i x1)] [1, 0] rfl ?_
  exact hk29 v0 x1 s0 _ h
set_option maxRecDepth 100000 in
set_option maxHeartbeats 4000000 in
theorem tB_Mo_steps_103 (K : p_K) (l : Launch) (k73 : Nat → Int → p_Hp → Option p_Hp) (hk73 : ∀ (v0 : Nat) (v1 : Int)  (s0 : p_Hp) (r : p_Hp), k73 v0 v1 s0 = some r → p_Go K l m_Mo_steps 73 [(0, p_r v0), (1, p_i v1)] [] s0 (none, r)) (v0 : Nat) (v1 : Int) (s0 : p_Hp) (r : p_Hp) (h : B_Mo_steps_103 k73 v0 v1 s0 = some r) : p_Go K l m_Mo_steps 103 [(0, p_r v0), (1, p_i v1)] [] s0 (none, r) := by
  unfold B_Mo_steps_103 at h
  refine g_iinc (j := 1) [(1, p_i (p_w (v1 + 1))), (0, p_r v0)] (dk_Mo_steps 59 rfl) rfl (by decide) rfl ?_
  refine p_ltG (P := fun q => p_Go K l m_Mo_steps 106 [(1, p_i q), (0, p_r v0)] [] s0 _) ?_ h
  intro x1 h
  refine g_goto 73 (dk_Mo_steps 60 rfl) (by decide) ?_
  refine g_sub [(0, p_r v0), (1, p_i x1)] [1, 0] rfl ?_
  exact hk73 v0 x1 s0 _ h
set_option maxRecDepth 100000 in
set_option maxHeartbeats 4000000 in
theorem tL_Mo_steps_73 (K : p_K) (l : Launch) (k73 : Nat → Int → p_Hp → Option p_Hp) (hk73 : ∀ (v0 : Nat) (v1 : Int)  (s0 : p_Hp) (r : p_Hp), k73 v0 v1 s0 = some r → p_Go K l m_Mo_steps 73 [(0, p_r v0), (1, p_i v1)] [] s0 (none, r)) (v0 : Nat) (v1 : Int) (s0 : p_Hp) (r : p_Hp) (h : L_Mo_steps_73 k73 v0 v1 s0 = some r) : p_Go K l m_Mo_steps 73 [(0, p_r v0), (1, p_i v1)] [] s0 (none, r) := by
  unfold L_Mo_steps_73 at h
  refine g_iload_n (i := 1) (j := 1) (dk_Mo_steps 43 rfl) rfl rfl ?_
  refine g_aload_n (i := 0) (j := 0) (dk_Mo_steps 44 rfl) rfl rfl ?_
  obtain ⟨c1, h⟩ := p_gdE h
  refine g_getR fl_Mo_7 (Or.inr ⟨_, rfl⟩) (dk_Mo_steps 45 rfl) c1 ?_
  refine g_aload_n (i := 0) (j := 0) (dk_Mo_steps 46 rfl) rfl rfl ?_
  refine g_getI fl_Mo_227 (Or.inl rfl) (dk_Mo_steps 47 rfl) c1 ?_
  obtain ⟨c2, h⟩ := p_gdE h
  obtain ⟨c3, h⟩ := p_gdE h
  refine g_iaload (dk_Mo_steps 48 rfl) c2 c3.1 c3.2 ?_
  refine g_icmp_ge 109 (dk_Mo_steps 49 rfl) (by decide) (fun b4 => ?_) (fun b4 => ?_)
  · have h := p_ifT b4 h
    cases h
    exact g_ret rfl rfl (dk_Mo_steps 61 rfl) (fun _ => rfl)
  · have h := p_ifF b4 h
    refine g_aload_n (i := 0) (j := 0) (dk_Mo_steps 50 rfl) rfl rfl ?_
    refine g_aload_n (i := 0) (j := 0) (dk_Mo_steps 51 rfl) rfl rfl ?_
    refine g_iload_n (i := 1) (j := 1) (dk_Mo_steps 52 rfl) rfl rfl ?_
    obtain ⟨r9, s5, q6, h⟩ := p_bdE h
    have t7 := tF_Mo_g K l v0 v1 s0 _ q6
    refine g_callV (a := v0) (ci := 11) (q0 := (RX11, TX11, 90)) (As := [p_i v1]) (rest := [p_r v0]) [p_i r9, p_r v0] mt_Mo_g rfl rfl tw_7_84 ts_45 tw_7_82 ⟨Nat.le_of_ble_eq_true rfl, Nat.le_of_ble_eq_true rfl⟩ rfl (Nat.le_of_ble_eq_true rfl) (dk_Mo_steps 53 rfl) rfl c1 rfl t7 ?_
    have hs8 : p_x s0 s5 := t7.1
    show p_Go K l m_Mo_steps 92 [(0, p_r v0), (1, p_i v1)] [p_i r9, p_r v0] s5 _
    obtain ⟨r14, s10, q11, h⟩ := p_bdE h
    have t12 := tF_Mo_isActing K l v0 r9 s5 _ q11
    refine g_callV (a := v0) (ci := 11) (q0 := (RX11, TX11, 90)) (As := [p_i r9]) (rest := []) [p_i r14] mt_Mo_isActing rfl rfl tw_8_97 ts_79 tw_8_95 ⟨Nat.le_of_ble_eq_true rfl, Nat.le_of_ble_eq_true rfl⟩ rfl (Nat.le_of_ble_eq_true rfl) (dk_Mo_steps 54 rfl) rfl (c1.up hs8) rfl t12 ?_
    have hs13 : p_x s5 s10 := t12.1
    show p_Go K l m_Mo_steps 95 [(0, p_r v0), (1, p_i v1)] [p_i r14] s10 _
    refine g_if_eq 103 (dk_Mo_steps 55 rfl) (by decide) (fun b15 => ?_) (fun b15 => ?_)
    · have h := p_ifT b15 h
      exact tB_Mo_steps_103 K l k73 hk73 v0 v1 s10 _ h
    · have h := p_ifF b15 h
      refine g_aload_n (i := 0) (j := 0) (dk_Mo_steps 56 rfl) rfl rfl ?_
      refine g_iload_n (i := 1) (j := 1) (dk_Mo_steps 57 rfl) rfl rfl ?_
      obtain ⟨s16, q17, h⟩ := p_bvE h
      have t18 := tF_Mo_act K l v0 v1 s10 _ q17
      refine g_callV (a := v0) (ci := 11) (q0 := (RX11, TX11, 90)) (As := [p_i v1]) (rest := []) [] mt_Mo_act rfl rfl tw_8_116 ts_83 tw_8_114 ⟨Nat.le_of_ble_eq_true rfl, Nat.le_of_ble_eq_true rfl⟩ rfl (Nat.le_of_ble_eq_true rfl) (dk_Mo_steps 58 rfl) rfl (c1.up (hs8.trans hs13)) rfl t18 ?_
      have hs19 : p_x s10 s16 := t18.1
      show p_Go K l m_Mo_steps 103 [(0, p_r v0), (1, p_i v1)] [] s16 _
      exact tB_Mo_steps_103 K l k73 hk73 v0 v1 s16 _ h
set_option maxRecDepth 100000 in
set_option maxHeartbeats 4000000 in
theorem tO_Mo_steps_73 (K : p_K) (l : Launch)  : ∀ (n : Nat) (v0 : Nat) (v1 : Int) (s0 : p_Hp) (r : p_Hp), O_Mo_steps_73 n v0 v1 s0 = some r → p_Go K l m_Mo_steps 73 [(0, p_r v0), (1, p_i v1)] [] s0 (none, r) := by
  intro n
  induction n with
  | zero => intro v0 v1 s0 r h; cases (show (none : Option p_Hp) = some r from h)
  | succ n ih => intro v0 v1 s0 r h; exact tL_Mo_steps_73 K l _ ih v0 v1 s0 r h
set_option maxRecDepth 100000 in
set_option maxHeartbeats 4000000 in
theorem tL_Mo_steps_29 (K : p_K) (l : Launch) (k29 : Nat → Int → p_Hp → Option p_Hp) (hk29 : ∀ (v0 : Nat) (v1 : Int)  (s0 : p_Hp) (r : p_Hp), k29 v0 v1 s0 = some r → p_Go K l m_Mo_steps 29 [(0, p_r v0), (1, p_i v1)] [] s0 (none, r)) (v0 : Nat) (v1 : Int) (s0 : p_Hp) (r : p_Hp) (h : L_Mo_steps_29 k29 v0 v1 s0 = some r) : p_Go K l m_Mo_steps 29 [(0, p_r v0), (1, p_i v1)] [] s0 (none, r) := by
  unfold L_Mo_steps_29 at h
  refine g_iload_n (i := 1) (j := 1) (dk_Mo_steps 19 rfl) rfl rfl ?_
  refine g_aload_n (i := 0) (j := 0) (dk_Mo_steps 20 rfl) rfl rfl ?_
  obtain ⟨c1, h⟩ := p_gdE h
  refine g_getI fl_Mo_334 (Or.inl rfl) (dk_Mo_steps 21 rfl) c1 ?_
  refine g_icmp_gt 63 (dk_Mo_steps 22 rfl) (by decide) (fun b2 => ?_) (fun b2 => ?_)
  · have h := p_ifT b2 h
    refine g_aload_n (i := 0) (j := 0) (dk_Mo_steps 37 rfl) rfl rfl ?_
    obtain ⟨s3, q4, h⟩ := p_bvE h
    have t5 := tF_Mo_doPlans K l v0 s0 _ q4
    refine g_callV (a := v0) (ci := 11) (q0 := (RX11, TX11, 90)) (As := []) (rest := []) [] mt_Mo_doPlans rfl rfl tw_8_77 ts_74 tw_8_75 ⟨Nat.le_of_ble_eq_true rfl, Nat.le_of_ble_eq_true rfl⟩ rfl (Nat.le_of_ble_eq_true rfl) (dk_Mo_steps 38 rfl) rfl c1 rfl t5 ?_
    have hs6 : p_x s0 s3 := t5.1
    show p_Go K l m_Mo_steps 67 [(0, p_r v0), (1, p_i v1)] [] s3 _
    refine g_aload_n (i := 0) (j := 0) (dk_Mo_steps 39 rfl) rfl rfl ?_
    obtain ⟨s7, q8, h⟩ := p_bvE h
    have t9 := tF_Mo_choose K l v0 s3 _ q8
    refine g_callV (a := v0) (ci := 11) (q0 := (RX11, TX11, 90)) (As := []) (rest := []) [] mt_Mo_choose rfl rfl tw_8_89 ts_77 tw_8_87 ⟨Nat.le_of_ble_eq_true rfl, Nat.le_of_ble_eq_true rfl⟩ rfl (Nat.le_of_ble_eq_true rfl) (dk_Mo_steps 40 rfl) rfl (c1.up hs6) rfl t9 ?_
    have hs10 : p_x s3 s7 := t9.1
    show p_Go K l m_Mo_steps 71 [(0, p_r v0), (1, p_i v1)] [] s7 _
    refine g_iconst (dk_Mo_steps 41 rfl) (by decide) ?_
    refine g_istore_n (i := 1) [(1, p_i 0), (0, p_r v0)] (dk_Mo_steps 42 rfl) rfl (by decide) rfl ?_
    refine g_sub [(0, p_r v0), (1, p_i 0)] [1, 0] rfl ?_
    exact tO_Mo_steps_73 K l 3000 v0 0 s7 _ h
  · have h := p_ifF b2 h
    refine g_aload_n (i := 0) (j := 0) (dk_Mo_steps 23 rfl) rfl rfl ?_
    refine g_getR fl_Mo_72 (Or.inr ⟨_, rfl⟩) (dk_Mo_steps 24 rfl) c1 ?_
    refine g_iload_n (i := 1) (j := 1) (dk_Mo_steps 25 rfl) rfl rfl ?_
    obtain ⟨c11, h⟩ := p_gdE h
    obtain ⟨c12, h⟩ := p_gdE h
    refine g_iaload (dk_Mo_steps 26 rfl) c11 c12.1 c12.2 ?_
    refine g_aload_n (i := 0) (j := 0) (dk_Mo_steps 27 rfl) rfl rfl ?_
    refine g_getI fl_Mo_227 (Or.inl rfl) (dk_Mo_steps 28 rfl) c1 ?_
    refine g_icmp_ne 57 (dk_Mo_steps 29 rfl) (by decide) (fun b13 => ?_) (fun b13 => ?_)
    · have h := p_ifT b13 h
      exact tB_Mo_steps_57 K l k29 hk29 v0 v1 s0 _ h
    · have h := p_ifF b13 h
      refine g_aload_n (i := 0) (j := 0) (dk_Mo_steps 30 rfl) rfl rfl ?_
      refine g_getR fl_Mo_108 (Or.inr ⟨_, rfl⟩) (dk_Mo_steps 31 rfl) c1 ?_
      refine g_iload_n (i := 1) (j := 1) (dk_Mo_steps 32 rfl) rfl rfl ?_
      refine g_iconst (dk_Mo_steps 33 rfl) (by decide) ?_
      obtain ⟨c14, h⟩ := p_gdE h
      obtain ⟨c15, h⟩ := p_gdE h
      refine g_bastore (dk_Mo_steps 34 rfl) c14 c15.1 c15.2 (Or.inl rfl) ?_
      refine p_ltS (P := fun q => p_Go K l m_Mo_steps 57 [(0, p_r v0), (1, p_i v1)] [] q _) (p_xZ _ _ _ _) ?_ h
      intro s16 hs17 h
      exact tB_Mo_steps_57 K l k29 hk29 v0 v1 s16 _ h
set_option maxRecDepth 100000 in
set_option maxHeartbeats 4000000 in
theorem tO_Mo_steps_29 (K : p_K) (l : Launch)  : ∀ (n : Nat) (v0 : Nat) (v1 : Int) (s0 : p_Hp) (r : p_Hp), O_Mo_steps_29 n v0 v1 s0 = some r → p_Go K l m_Mo_steps 29 [(0, p_r v0), (1, p_i v1)] [] s0 (none, r) := by
  intro n
  induction n with
  | zero => intro v0 v1 s0 r h; cases (show (none : Option p_Hp) = some r from h)
  | succ n ih => intro v0 v1 s0 r h; exact tL_Mo_steps_29 K l _ ih v0 v1 s0 r h
set_option maxRecDepth 100000 in
set_option maxHeartbeats 4000000 in
theorem tF_Mo_steps (K : p_K) (l : Launch) (v0 : Nat) (s0 : p_Hp) (r : p_Hp) (h : F_Mo_steps v0 s0 = some r) : p_Ct K l m_Mo_steps [p_r v0] s0 (none, r) := by
  refine p_Ct.of (by decide +kernel) (Nat.le_of_ble_eq_true rfl) ?_
  unfold F_Mo_steps at h
  show p_Go K l m_Mo_steps 0 [(0, p_r v0)] [] s0 _
  refine g_aload_n (i := 0) (j := 0) (dk_Mo_steps 0 rfl) rfl rfl ?_
  obtain ⟨c1, h⟩ := p_gdE h
  obtain ⟨s2, q3, h⟩ := p_bvE h
  have t4 := tF_Mo_keep K l v0 s0 _ q3
  refine g_callV (a := v0) (ci := 11) (q0 := (RX11, TX11, 90)) (As := []) (rest := []) [] mt_Mo_keep rfl rfl tw_8_57 ts_69 tw_8_55 ⟨Nat.le_of_ble_eq_true rfl, Nat.le_of_ble_eq_true rfl⟩ rfl (Nat.le_of_ble_eq_true rfl) (dk_Mo_steps 1 rfl) rfl c1 rfl t4 ?_
  have hs5 : p_x s0 s2 := t4.1
  show p_Go K l m_Mo_steps 4 [(0, p_r v0)] [] s2 _
  refine g_aload_n (i := 0) (j := 0) (dk_Mo_steps 2 rfl) rfl rfl ?_
  refine g_getR fl_Mo_13 (Or.inr ⟨_, rfl⟩) (dk_Mo_steps 3 rfl) (c1.up hs5) ?_
  refine g_aload_n (i := 0) (j := 0) (dk_Mo_steps 4 rfl) rfl rfl ?_
  refine g_getI fl_Mo_227 (Or.inl rfl) (dk_Mo_steps 5 rfl) (c1.up hs5) ?_
  refine g_dup2 (dk_Mo_steps 6 rfl) rfl rfl ?_
  obtain ⟨c6, h⟩ := p_gdE h
  obtain ⟨c7, h⟩ := p_gdE h
  refine g_iaload (dk_Mo_steps 7 rfl) c6 c7.1 c7.2 ?_
  refine g_iconst (dk_Mo_steps 8 rfl) (by decide) ?_
  refine g_iadd (dk_Mo_steps 9 rfl) ?_
  obtain ⟨c8, h⟩ := p_gdE h
  refine g_iastore (dk_Mo_steps 10 rfl) c6 c8.1 c8.2 ?_
  refine p_ltS (P := fun q => p_Go K l m_Mo_steps 17 [(0, p_r v0)] [] q _) (p_xZ _ _ _ _) ?_ h
  intro s9 hs10 h
  refine g_aload_n (i := 0) (j := 0) (dk_Mo_steps 11 rfl) rfl rfl ?_
  refine g_getR fl_Mo_132 (Or.inr ⟨_, rfl⟩) (dk_Mo_steps 12 rfl) (c1.up (hs5.trans hs10)) ?_
  refine g_aload_n (i := 0) (j := 0) (dk_Mo_steps 13 rfl) rfl rfl ?_
  refine g_getI fl_Mo_227 (Or.inl rfl) (dk_Mo_steps 14 rfl) (c1.up (hs5.trans hs10)) ?_
  refine g_iconst (dk_Mo_steps 15 rfl) (by decide) ?_
  obtain ⟨c11, h⟩ := p_gdE h
  obtain ⟨c12, h⟩ := p_gdE h
  refine g_iastore (dk_Mo_steps 16 rfl) c11 c12.1 c12.2 ?_
  refine p_ltS (P := fun q => p_Go K l m_Mo_steps 27 [(0, p_r v0)] [] q _) (p_xZ _ _ _ _) ?_ h
  intro s13 hs14 h
  refine g_iconst (dk_Mo_steps 17 rfl) (by decide) ?_
  refine g_istore_n (i := 1) [(1, p_i 1), (0, p_r v0)] (dk_Mo_steps 18 rfl) rfl (by decide) rfl ?_
  refine g_sub [(0, p_r v0), (1, p_i 1)] [1, 0] rfl ?_
  exact tO_Mo_steps_29 K l 3000 v0 1 s13 _ h
def m_Mo_step : p_Me := (⟨"SortWorksModel", "step", "()I"⟩, prog_13_method_85_code, 1, (some .int), 9, 216)
theorem mt_Mo_step : p_Mt m_Mo_step 0 := ⟨p_mem (p_tb8 (List.mem_of_getElem? (i := 46) rfl)) rfl, tw_1_12, by decide +kernel, by decide +kernel, by decide +kernel⟩
def dt_Mo_step : List (Nat × Instr × Nat) := [(0, .aload_n 0, 1), (1, .invokevirtual 486, 3), (4, .ifCond .eq 10, 3), (7, .aload_n 0, 1), (8, .bipush (-4), 2), (10, .invokevirtual 240, 3), (13, .ireturn, 1), (14, .aload_n 0, 1), (15, .invokevirtual 489, 3), (18, .aload_n 0, 1), (19, .aload_n 0, 1), (20, .getfield 13, 3), (23, .aload_n 0, 1), (24, .getfield 227, 3), (27, .iaload, 1), (28, .invokevirtual 244, 3), (31, .ireturn, 1)]
theorem dk_Mo_step (i : Nat) {pc : Nat} {ins : Instr} {len : Nat} (h : dt_Mo_step[i]? = some (pc, ins, len)) : decode m_Mo_step.2.1 pc = .ok (ins, len) := p_dk (b := m_Mo_step.2.1) (t := dt_Mo_step) (by decide +kernel) i h
def F_Mo_step (v0 : Nat) (s0 : p_Hp) : Option (Int × p_Hp) :=
  p_gd (p_is s0 v0 11) <|
  p_bd (F_Mo_isFull v0 s0) fun r6 s2 =>
  if r6 = 0 then
    p_bv (F_Mo_steps v0 s2) fun s8 =>
    p_gd (p_is s8 (p_R s8 v0 4) 100) <|
    p_gd ((0 : Int) ≤ (p_Z s8 v0 0) ∧ (p_Z s8 v0 0) < (p_L s8 (p_R s8 v0 4) : Int)) <|
    p_bd (F_Mo_well v0 (p_Z s8 (p_R s8 v0 4) ((p_Z s8 v0 0) : Int).toNat) s8) fun r18 s14 =>
    some (r18, s14)
  else
    p_bd (F_Mo_refused v0 (-4) s2) fun r23 s19 =>
    some (r23, s19)
set_option maxRecDepth 100000 in
set_option maxHeartbeats 4000000 in
theorem tF_Mo_step (K : p_K) (l : Launch) (v0 : Nat) (s0 : p_Hp) (r : (Int × p_Hp)) (h : F_Mo_step v0 s0 = some r) : p_Ct K l m_Mo_step [p_r v0] s0 (some (p_i r.1), r.2) := by
  refine p_Ct.of (by decide +kernel) (Nat.le_of_ble_eq_true rfl) ?_
  unfold F_Mo_step at h
  show p_Go K l m_Mo_step 0 [(0, p_r v0)] [] s0 _
  refine g_aload_n (i := 0) (j := 0) (dk_Mo_step 0 rfl) rfl rfl ?_
  obtain ⟨c1, h⟩ := p_gdE h
  obtain ⟨r6, s2, q3, h⟩ := p_bdE h
  have t4 := tF_Mo_isFull K l v0 s0 _ q3
  refine g_callV (a := v0) (ci := 11) (q0 := (RX11, TX11, 90)) (As := []) (rest := []) [p_i r6] mt_Mo_isFull rfl rfl tw_8_49 ts_67 tw_8_47 ⟨Nat.le_of_ble_eq_true rfl, Nat.le_of_ble_eq_true rfl⟩ rfl (Nat.le_of_ble_eq_true rfl) (dk_Mo_step 1 rfl) rfl c1 rfl t4 ?_
  have hs5 : p_x s0 s2 := t4.1
  show p_Go K l m_Mo_step 4 [(0, p_r v0)] [p_i r6] s2 _
  refine g_if_eq 14 (dk_Mo_step 2 rfl) (by decide) (fun b7 => ?_) (fun b7 => ?_)
  · have h := p_ifT b7 h
    refine g_aload_n (i := 0) (j := 0) (dk_Mo_step 7 rfl) rfl rfl ?_
    obtain ⟨s8, q9, h⟩ := p_bvE h
    have t10 := tF_Mo_steps K l v0 s2 _ q9
    refine g_callV (a := v0) (ci := 11) (q0 := (RX11, TX11, 90)) (As := []) (rest := []) [] mt_Mo_steps rfl rfl tw_8_53 ts_68 tw_8_51 ⟨Nat.le_of_ble_eq_true rfl, Nat.le_of_ble_eq_true rfl⟩ rfl (Nat.le_of_ble_eq_true rfl) (dk_Mo_step 8 rfl) rfl (c1.up hs5) rfl t10 ?_
    have hs11 : p_x s2 s8 := t10.1
    show p_Go K l m_Mo_step 18 [(0, p_r v0)] [] s8 _
    refine g_aload_n (i := 0) (j := 0) (dk_Mo_step 9 rfl) rfl rfl ?_
    refine g_aload_n (i := 0) (j := 0) (dk_Mo_step 10 rfl) rfl rfl ?_
    refine g_getR fl_Mo_13 (Or.inr ⟨_, rfl⟩) (dk_Mo_step 11 rfl) (c1.up (hs5.trans hs11)) ?_
    refine g_aload_n (i := 0) (j := 0) (dk_Mo_step 12 rfl) rfl rfl ?_
    refine g_getI fl_Mo_227 (Or.inl rfl) (dk_Mo_step 13 rfl) (c1.up (hs5.trans hs11)) ?_
    obtain ⟨c12, h⟩ := p_gdE h
    obtain ⟨c13, h⟩ := p_gdE h
    refine g_iaload (dk_Mo_step 14 rfl) c12 c13.1 c13.2 ?_
    obtain ⟨r18, s14, q15, h⟩ := p_bdE h
    have t16 := tF_Mo_well K l v0 (p_Z s8 (p_R s8 v0 4) ((p_Z s8 v0 0) : Int).toNat) s8 _ q15
    refine g_callV (a := v0) (ci := 11) (q0 := (RX11, TX11, 90)) (As := [p_i (p_Z s8 (p_R s8 v0 4) ((p_Z s8 v0 0) : Int).toNat)]) (rest := []) [p_i r18] mt_Mo_well rfl rfl tw_7_71 ts_44 tw_7_69 ⟨Nat.le_of_ble_eq_true rfl, Nat.le_of_ble_eq_true rfl⟩ rfl (Nat.le_of_ble_eq_true rfl) (dk_Mo_step 15 rfl) rfl (c1.up (hs5.trans hs11)) rfl t16 ?_
    have hs17 : p_x s8 s14 := t16.1
    show p_Go K l m_Mo_step 31 [(0, p_r v0)] [p_i r18] s14 _
    cases h
    exact g_ret rfl rfl (dk_Mo_step 16 rfl) (fun os => ⟨_, rfl, p_okh os⟩)
  · have h := p_ifF b7 h
    refine g_aload_n (i := 0) (j := 0) (dk_Mo_step 3 rfl) rfl rfl ?_
    refine g_bipush (dk_Mo_step 4 rfl) (by decide +kernel) (by decide) ?_
    obtain ⟨r23, s19, q20, h⟩ := p_bdE h
    have t21 := tF_Mo_refused K l v0 (-4) s2 _ q20
    refine g_callV (a := v0) (ci := 11) (q0 := (RX11, TX11, 90)) (As := [p_i (-4)]) (rest := []) [p_i r23] mt_Mo_refused rfl rfl tw_7_67 ts_43 tw_7_65 ⟨Nat.le_of_ble_eq_true rfl, Nat.le_of_ble_eq_true rfl⟩ rfl (Nat.le_of_ble_eq_true rfl) (dk_Mo_step 5 rfl) rfl (c1.up hs5) rfl t21 ?_
    have hs22 : p_x s2 s19 := t21.1
    show p_Go K l m_Mo_step 13 [(0, p_r v0)] [p_i r23] s19 _
    cases h
    exact g_ret rfl rfl (dk_Mo_step 6 rfl) (fun os => ⟨_, rfl, p_okh os⟩)
def m_Mo_spoils : p_Me := (⟨"SortWorksModel", "spoils", "(II)V"⟩, prog_13_method_87_code, 6, none, 1, 23)
theorem mt_Mo_spoils : p_Mt m_Mo_spoils 2 := ⟨p_mem (p_tb8 (List.mem_of_getElem? (i := 186) rfl)) rfl, tw_1_12, by decide +kernel, by decide +kernel, by decide +kernel⟩
def dt_Mo_spoils : List (Nat × Instr × Nat) := [(0, .bipush 12, 2), (2, .iload_n 1, 1), (3, .imul, 1), (4, .istore_n 3, 1), (5, .iload_n 2, 1), (6, .bipush 8, 2), (8, .irem, 1), (9, .tableswitch 122 0 2 #[27, 36, 83], 27), (36, .aload_n 0, 1), (37, .iload_n 1, 1), (38, .iconst (-1), 1), (39, .invokevirtual 355, 3), (42, .goto 89, 3), (45, .iload_n 2, 1), (46, .bipush 8, 2), (48, .idiv, 1), (49, .bipush 6, 2), (51, .irem, 1), (52, .istore 4, 2), (54, .iload 4, 2), (56, .istore 5, 2), (58, .iload 5, 2), (60, .bipush 12, 2), (62, .if_icmp .ge 19, 3), (65, .aload_n 0, 1), (66, .getfield 96, 3), (69, .iload_n 3, 1), (70, .iload 5, 2), (72, .iadd, 1), (73, .iconst 0, 1), (74, .iastore, 1), (75, .iinc 5 1, 3), (78, .goto (-20), 3), (81, .aload_n 0, 1), (82, .getfield 93, 3), (85, .iload_n 1, 1), (86, .iload 4, 2), (88, .iastore, 1), (89, .goto 42, 3), (92, .aload_n 0, 1), (93, .getfield 96, 3), (96, .iload_n 3, 1), (97, .aload_n 0, 1), (98, .getfield 93, 3), (101, .iload_n 1, 1), (102, .iaload, 1), (103, .iadd, 1), (104, .iconst 1, 1), (105, .isub, 1), (106, .aload_n 0, 1), (107, .getfield 96, 3), (110, .iload_n 3, 1), (111, .aload_n 0, 1), (112, .getfield 93, 3), (115, .iload_n 1, 1), (116, .iaload, 1), (117, .iadd, 1), (118, .iconst 1, 1), (119, .isub, 1), (120, .iaload, 1), (121, .iconst 1, 1), (122, .iadd, 1), (123, .sipush 255, 3), (126, .iand, 1), (127, .iastore, 1), (128, .goto 3, 3), (131, .return_, 1)]
theorem dk_Mo_spoils (i : Nat) {pc : Nat} {ins : Instr} {len : Nat} (h : dt_Mo_spoils[i]? = some (pc, ins, len)) : decode m_Mo_spoils.2.1 pc = .ok (ins, len) := p_dk (b := m_Mo_spoils.2.1) (t := dt_Mo_spoils) (by decide +kernel) i h
def L_Mo_spoils_58 (k58 : Nat → Int → Int → Int → Int → p_Hp → Option p_Hp) (v0 : Nat) (v1 : Int) (v3 : Int) (v4 : Int) (v5 : Int) (s0 : p_Hp) : Option p_Hp :=
  if 12 ≤ v5 then
    p_gd (p_is s0 v0 11) <|
    p_gd (p_is s0 (p_R s0 v0 31) 100) <|
    p_gd ((0 : Int) ≤ v1 ∧ v1 < (p_L s0 (p_R s0 v0 31) : Int)) <|
    p_bi (p_wZ s0 (p_R s0 v0 31) (v1 : Int).toNat v4) fun s5 =>
    some s5
  else
    p_gd (p_is s0 v0 11) <|
    p_gd (p_is s0 (p_R s0 v0 32) 100) <|
    p_gd ((0 : Int) ≤ (p_w (v3 + v5)) ∧ (p_w (v3 + v5)) < (p_L s0 (p_R s0 v0 32) : Int)) <|
    p_bi (p_wZ s0 (p_R s0 v0 32) ((p_w (v3 + v5)) : Int).toNat 0) fun s10 =>
    p_bi (p_w (v5 + 1)) fun x12 =>
    k58 v0 v1 v3 v4 x12 s10
def O_Mo_spoils_58  : Nat → Nat → Int → Int → Int → Int → p_Hp → Option p_Hp
  | 0 => fun _ _ _ _ _ _ => none
  | n + 1 => L_Mo_spoils_58 (O_Mo_spoils_58 n)
def F_Mo_spoils (v0 : Nat) (v1 : Int) (v2 : Int) (s0 : p_Hp) : Option p_Hp :=
  p_bi ((p_w (12 * v1))) fun x1 =>
  if (p_rem v2 8) = 0 then
    p_gd (p_is s0 v0 11) <|
    p_bv (F_Mo_newLabel v0 v1 (-1) s0) fun s4 =>
    some s4
  else if (p_rem v2 8) = 1 then
    p_bi ((p_rem (p_div v2 8) 6)) fun x9 =>
    O_Mo_spoils_58 3000 v0 v1 x1 x9 x9 s0
  else if (p_rem v2 8) = 2 then
    p_gd (p_is s0 v0 11) <|
    p_gd (p_is s0 (p_R s0 v0 31) 100) <|
    p_gd ((0 : Int) ≤ v1 ∧ v1 < (p_L s0 (p_R s0 v0 31) : Int)) <|
    p_gd ((0 : Int) ≤ v1 ∧ v1 < (p_L s0 (p_R s0 v0 31) : Int)) <|
    p_gd (p_is s0 (p_R s0 v0 32) 100) <|
    p_gd ((0 : Int) ≤ (p_w ((p_w (x1 + (p_Z s0 (p_R s0 v0 31) (v1 : Int).toNat))) - 1)) ∧ (p_w ((p_w (x1 + (p_Z s0 (p_R s0 v0 31) (v1 : Int).toNat))) - 1)) < (p_L s0 (p_R s0 v0 32) : Int)) <|
    p_gd ((0 : Int) ≤ (p_w ((p_w (x1 + (p_Z s0 (p_R s0 v0 31) (v1 : Int).toNat))) - 1)) ∧ (p_w ((p_w (x1 + (p_Z s0 (p_R s0 v0 31) (v1 : Int).toNat))) - 1)) < (p_L s0 (p_R s0 v0 32) : Int)) <|
    p_bi (p_wZ s0 (p_R s0 v0 32) ((p_w ((p_w (x1 + (p_Z s0 (p_R s0 v0 31) (v1 : Int).toNat))) - 1)) : Int).toNat (p_and (p_w ((p_Z s0 (p_R s0 v0 32) ((p_w ((p_w (x1 + (p_Z s0 (p_R s0 v0 31) (v1 : Int).toNat))) - 1)) : Int).toNat) + 1)) 255)) fun s18 =>
    some s18
  else 
  some s0
set_option maxRecDepth 100000 in
set_option maxHeartbeats 4000000 in
theorem tL_Mo_spoils_58 (K : p_K) (l : Launch) (k58 : Nat → Int → Int → Int → Int → p_Hp → Option p_Hp) (hk58 : ∀ (v0 : Nat) (v1 : Int) (v3 : Int) (v4 : Int) (v5 : Int)  (s0 : p_Hp) (r : p_Hp), k58 v0 v1 v3 v4 v5 s0 = some r → p_Go K l m_Mo_spoils 58 [(0, p_r v0), (1, p_i v1), (3, p_i v3), (4, p_i v4), (5, p_i v5)] [] s0 (none, r)) (v0 : Nat) (v1 : Int) (v3 : Int) (v4 : Int) (v5 : Int) (s0 : p_Hp) (r : p_Hp) (h : L_Mo_spoils_58 k58 v0 v1 v3 v4 v5 s0 = some r) : p_Go K l m_Mo_spoils 58 [(0, p_r v0), (1, p_i v1), (3, p_i v3), (4, p_i v4), (5, p_i v5)] [] s0 (none, r) := by
  unfold L_Mo_spoils_58 at h
  refine g_iload (j := 4) (dk_Mo_spoils 21 rfl) rfl ?_
  refine g_bipush (dk_Mo_spoils 22 rfl) (by decide +kernel) (by decide) ?_
  refine g_icmp_ge 81 (dk_Mo_spoils 23 rfl) (by decide) (fun b1 => ?_) (fun b1 => ?_)
  · have h := p_ifT b1 h
    refine g_aload_n (i := 0) (j := 0) (dk_Mo_spoils 33 rfl) rfl rfl ?_
    obtain ⟨c2, h⟩ := p_gdE h
    refine g_getR fl_Mo_93 (Or.inr ⟨_, rfl⟩) (dk_Mo_spoils 34 rfl) c2 ?_
    refine g_iload_n (i := 1) (j := 1) (dk_Mo_spoils 35 rfl) rfl rfl ?_
    refine g_iload (j := 3) (dk_Mo_spoils 36 rfl) rfl ?_
    obtain ⟨c3, h⟩ := p_gdE h
    obtain ⟨c4, h⟩ := p_gdE h
    refine g_iastore (dk_Mo_spoils 37 rfl) c3 c4.1 c4.2 ?_
    refine p_ltS (P := fun q => p_Go K l m_Mo_spoils 89 [(0, p_r v0), (1, p_i v1), (3, p_i v3), (4, p_i v4), (5, p_i v5)] [] q _) (p_xZ _ _ _ _) ?_ h
    intro s5 hs6 h
    refine g_goto 131 (dk_Mo_spoils 38 rfl) (by decide) ?_
    cases h
    exact g_ret rfl rfl (dk_Mo_spoils 66 rfl) (fun _ => rfl)
  · have h := p_ifF b1 h
    refine g_aload_n (i := 0) (j := 0) (dk_Mo_spoils 24 rfl) rfl rfl ?_
    obtain ⟨c7, h⟩ := p_gdE h
    refine g_getR fl_Mo_96 (Or.inr ⟨_, rfl⟩) (dk_Mo_spoils 25 rfl) c7 ?_
    refine g_iload_n (i := 3) (j := 2) (dk_Mo_spoils 26 rfl) rfl rfl ?_
    refine g_iload (j := 4) (dk_Mo_spoils 27 rfl) rfl ?_
    refine g_iadd (dk_Mo_spoils 28 rfl) ?_
    refine g_iconst (dk_Mo_spoils 29 rfl) (by decide) ?_
    obtain ⟨c8, h⟩ := p_gdE h
    obtain ⟨c9, h⟩ := p_gdE h
    refine g_iastore (dk_Mo_spoils 30 rfl) c8 c9.1 c9.2 ?_
    refine p_ltS (P := fun q => p_Go K l m_Mo_spoils 75 [(0, p_r v0), (1, p_i v1), (3, p_i v3), (4, p_i v4), (5, p_i v5)] [] q _) (p_xZ _ _ _ _) ?_ h
    intro s10 hs11 h
    refine g_iinc (j := 4) [(5, p_i (p_w (v5 + 1))), (0, p_r v0), (1, p_i v1), (3, p_i v3), (4, p_i v4)] (dk_Mo_spoils 31 rfl) rfl (by decide) rfl ?_
    refine p_ltG (P := fun q => p_Go K l m_Mo_spoils 78 [(5, p_i q), (0, p_r v0), (1, p_i v1), (3, p_i v3), (4, p_i v4)] [] s10 _) ?_ h
    intro x12 h
    refine g_goto 58 (dk_Mo_spoils 32 rfl) (by decide) ?_
    refine g_sub [(0, p_r v0), (1, p_i v1), (3, p_i v3), (4, p_i v4), (5, p_i x12)] [1, 2, 3, 4, 0] rfl ?_
    exact hk58 v0 v1 v3 v4 x12 s10 _ h
set_option maxRecDepth 100000 in
set_option maxHeartbeats 4000000 in
theorem tO_Mo_spoils_58 (K : p_K) (l : Launch)  : ∀ (n : Nat) (v0 : Nat) (v1 : Int) (v3 : Int) (v4 : Int) (v5 : Int) (s0 : p_Hp) (r : p_Hp), O_Mo_spoils_58 n v0 v1 v3 v4 v5 s0 = some r → p_Go K l m_Mo_spoils 58 [(0, p_r v0), (1, p_i v1), (3, p_i v3), (4, p_i v4), (5, p_i v5)] [] s0 (none, r) := by
  intro n
  induction n with
  | zero => intro v0 v1 v3 v4 v5 s0 r h; cases (show (none : Option p_Hp) = some r from h)
  | succ n ih => intro v0 v1 v3 v4 v5 s0 r h; exact tL_Mo_spoils_58 K l _ ih v0 v1 v3 v4 v5 s0 r h
set_option maxRecDepth 100000 in
set_option maxHeartbeats 4000000 in
theorem tF_Mo_spoils (K : p_K) (l : Launch) (v0 : Nat) (v1 : Int) (v2 : Int) (s0 : p_Hp) (r : p_Hp) (h : F_Mo_spoils v0 v1 v2 s0 = some r) : p_Ct K l m_Mo_spoils [p_r v0, p_i v1, p_i v2] s0 (none, r) := by
  refine p_Ct.of (by decide +kernel) (Nat.le_of_ble_eq_true rfl) ?_
  unfold F_Mo_spoils at h
  show p_Go K l m_Mo_spoils 0 [(0, p_r v0), (1, p_i v1), (2, p_i v2)] [] s0 _
  refine g_bipush (dk_Mo_spoils 0 rfl) (by decide +kernel) (by decide) ?_
  refine g_iload_n (i := 1) (j := 1) (dk_Mo_spoils 1 rfl) rfl rfl ?_
  refine g_imul (dk_Mo_spoils 2 rfl) ?_
  refine g_istore_n (i := 3) [(3, p_i (p_w (12 * v1))), (0, p_r v0), (1, p_i v1), (2, p_i v2)] (dk_Mo_spoils 3 rfl) rfl (by decide) rfl ?_
  refine p_ltG (P := fun q => p_Go K l m_Mo_spoils 5 [(3, p_i q), (0, p_r v0), (1, p_i v1), (2, p_i v2)] [] s0 _) ?_ h
  intro x1 h
  refine g_iload_n (i := 2) (j := 3) (dk_Mo_spoils 4 rfl) rfl rfl ?_
  refine g_bipush (dk_Mo_spoils 5 rfl) (by decide +kernel) (by decide) ?_
  refine g_irem (dk_Mo_spoils 6 rfl) (by decide) ?_
  rcases p_iteE h with ⟨b2, h⟩ | ⟨b2, h⟩
  · refine g_tableIn 36 (dk_Mo_spoils 7 rfl) (by omega) (by omega) (by rw [b2]; rfl) (by decide) ?_
    refine g_aload_n (i := 0) (j := 1) (dk_Mo_spoils 8 rfl) rfl rfl ?_
    refine g_iload_n (i := 1) (j := 2) (dk_Mo_spoils 9 rfl) rfl rfl ?_
    refine g_iconst (dk_Mo_spoils 10 rfl) (by decide) ?_
    obtain ⟨c3, h⟩ := p_gdE h
    obtain ⟨s4, q5, h⟩ := p_bvE h
    have t6 := tF_Mo_newLabel K l v0 v1 (-1) s0 _ q5
    refine g_callV (a := v0) (ci := 11) (q0 := (RX11, TX11, 90)) (As := [p_i v1, p_i (-1)]) (rest := []) [] mt_Mo_newLabel rfl rfl tw_7_223 ts_63 tw_7_221 ⟨Nat.le_of_ble_eq_true rfl, Nat.le_of_ble_eq_true rfl⟩ rfl (Nat.le_of_ble_eq_true rfl) (dk_Mo_spoils 11 rfl) rfl c3 rfl t6 ?_
    have hs7 : p_x s0 s4 := t6.1
    show p_Go K l m_Mo_spoils 42 [(3, p_i x1), (0, p_r v0), (1, p_i v1), (2, p_i v2)] [] s4 _
    refine g_goto 131 (dk_Mo_spoils 12 rfl) (by decide) ?_
    cases h
    exact g_ret rfl rfl (dk_Mo_spoils 66 rfl) (fun _ => rfl)
  rcases p_iteE h with ⟨b8, h⟩ | ⟨b8, h⟩
  · refine g_tableIn 45 (dk_Mo_spoils 7 rfl) (by omega) (by omega) (by rw [b8]; rfl) (by decide) ?_
    refine g_iload_n (i := 2) (j := 3) (dk_Mo_spoils 13 rfl) rfl rfl ?_
    refine g_bipush (dk_Mo_spoils 14 rfl) (by decide +kernel) (by decide) ?_
    refine g_idiv (dk_Mo_spoils 15 rfl) (by decide) ?_
    refine g_bipush (dk_Mo_spoils 16 rfl) (by decide +kernel) (by decide) ?_
    refine g_irem (dk_Mo_spoils 17 rfl) (by decide) ?_
    refine g_istore [(4, p_i (p_rem (p_div v2 8) 6)), (3, p_i x1), (0, p_r v0), (1, p_i v1), (2, p_i v2)] (dk_Mo_spoils 18 rfl) (by decide) rfl ?_
    refine p_ltG (P := fun q => p_Go K l m_Mo_spoils 54 [(4, p_i q), (3, p_i x1), (0, p_r v0), (1, p_i v1), (2, p_i v2)] [] s0 _) ?_ h
    intro x9 h
    refine g_iload (j := 0) (dk_Mo_spoils 19 rfl) rfl ?_
    refine g_istore [(5, p_i x9), (4, p_i x9), (3, p_i x1), (0, p_r v0), (1, p_i v1), (2, p_i v2)] (dk_Mo_spoils 20 rfl) (by decide) rfl ?_
    refine g_sub [(0, p_r v0), (1, p_i v1), (3, p_i x1), (4, p_i x9), (5, p_i x9)] [3, 4, 2, 1, 0] rfl ?_
    exact tO_Mo_spoils_58 K l 3000 v0 v1 x1 x9 x9 s0 _ h
  rcases p_iteE h with ⟨b10, h⟩ | ⟨b10, h⟩
  · refine g_tableIn 92 (dk_Mo_spoils 7 rfl) (by omega) (by omega) (by rw [b10]; rfl) (by decide) ?_
    refine g_aload_n (i := 0) (j := 1) (dk_Mo_spoils 39 rfl) rfl rfl ?_
    obtain ⟨c11, h⟩ := p_gdE h
    refine g_getR fl_Mo_96 (Or.inr ⟨_, rfl⟩) (dk_Mo_spoils 40 rfl) c11 ?_
    refine g_iload_n (i := 3) (j := 0) (dk_Mo_spoils 41 rfl) rfl rfl ?_
    refine g_aload_n (i := 0) (j := 1) (dk_Mo_spoils 42 rfl) rfl rfl ?_
    refine g_getR fl_Mo_93 (Or.inr ⟨_, rfl⟩) (dk_Mo_spoils 43 rfl) c11 ?_
    refine g_iload_n (i := 1) (j := 2) (dk_Mo_spoils 44 rfl) rfl rfl ?_
    obtain ⟨c12, h⟩ := p_gdE h
    obtain ⟨c13, h⟩ := p_gdE h
    refine g_iaload (dk_Mo_spoils 45 rfl) c12 c13.1 c13.2 ?_
    refine g_iadd (dk_Mo_spoils 46 rfl) ?_
    refine g_iconst (dk_Mo_spoils 47 rfl) (by decide) ?_
    refine g_isub (dk_Mo_spoils 48 rfl) ?_
    refine g_aload_n (i := 0) (j := 1) (dk_Mo_spoils 49 rfl) rfl rfl ?_
    refine g_getR fl_Mo_96 (Or.inr ⟨_, rfl⟩) (dk_Mo_spoils 50 rfl) c11 ?_
    refine g_iload_n (i := 3) (j := 0) (dk_Mo_spoils 51 rfl) rfl rfl ?_
    refine g_aload_n (i := 0) (j := 1) (dk_Mo_spoils 52 rfl) rfl rfl ?_
    refine g_getR fl_Mo_93 (Or.inr ⟨_, rfl⟩) (dk_Mo_spoils 53 rfl) c11 ?_
    refine g_iload_n (i := 1) (j := 2) (dk_Mo_spoils 54 rfl) rfl rfl ?_
    obtain ⟨c14, h⟩ := p_gdE h
    refine g_iaload (dk_Mo_spoils 55 rfl) c12 c14.1 c14.2 ?_
    refine g_iadd (dk_Mo_spoils 56 rfl) ?_
    refine g_iconst (dk_Mo_spoils 57 rfl) (by decide) ?_
    refine g_isub (dk_Mo_spoils 58 rfl) ?_
    obtain ⟨c15, h⟩ := p_gdE h
    obtain ⟨c16, h⟩ := p_gdE h
    refine g_iaload (dk_Mo_spoils 59 rfl) c15 c16.1 c16.2 ?_
    refine g_iconst (dk_Mo_spoils 60 rfl) (by decide) ?_
    refine g_iadd (dk_Mo_spoils 61 rfl) ?_
    refine g_sipush (dk_Mo_spoils 62 rfl) (by decide +kernel) (by decide) ?_
    refine g_iand (dk_Mo_spoils 63 rfl) ?_
    obtain ⟨c17, h⟩ := p_gdE h
    refine g_iastore (dk_Mo_spoils 64 rfl) c15 c17.1 c17.2 ?_
    refine p_ltS (P := fun q => p_Go K l m_Mo_spoils 128 [(3, p_i x1), (0, p_r v0), (1, p_i v1), (2, p_i v2)] [] q _) (p_xZ _ _ _ _) ?_ h
    intro s18 hs19 h
    refine g_goto 131 (dk_Mo_spoils 65 rfl) (by decide) ?_
    cases h
    exact g_ret rfl rfl (dk_Mo_spoils 66 rfl) (fun _ => rfl)
  refine g_tableOut 131 (dk_Mo_spoils 7 rfl) (by omega) (by decide) ?_
  cases h
  exact g_ret rfl rfl (dk_Mo_spoils 66 rfl) (fun _ => rfl)
def m_Mo_night : p_Me := (⟨"SortWorksModel", "night", "(II)I"⟩, prog_13_method_86_code, 10, (some .int), 9, 216)
theorem mt_Mo_night : p_Mt m_Mo_night 2 := ⟨p_mem (p_tb8 (List.mem_of_getElem? (i := 181) rfl)) rfl, tw_1_12, by decide +kernel, by decide +kernel, by decide +kernel⟩
def dt_Mo_night : List (Nat × Instr × Nat) := [(0, .iload_n 2, 1), (1, .i2l, 1), (2, .lconst 1, 1), (3, .ldc2_w 364, 3), (6, .invokestatic 230, 3), (9, .ifCond .eq 10, 3), (12, .aload_n 0, 1), (13, .bipush (-2), 2), (15, .invokevirtual 240, 3), (18, .ireturn, 1), (19, .iload_n 1, 1), (20, .istore_n 3, 1), (21, .iconst 0, 1), (22, .istore 4, 2), (24, .iconst 0, 1), (25, .istore 5, 2), (27, .iload 5, 2), (29, .iload_n 2, 1), (30, .if_icmp .ge 195, 3), (33, .iload_n 3, 1), (34, .ldc_w 492, 3), (37, .imul, 1), (38, .sipush 12345, 3), (41, .iadd, 1), (42, .istore_n 3, 1), (43, .iload_n 3, 1), (44, .bipush 16, 2), (46, .iushr, 1), (47, .istore 6, 2), (49, .iload_n 3, 1), (50, .ldc_w 492, 3), (53, .imul, 1), (54, .sipush 12345, 3), (57, .iadd, 1), (58, .istore_n 3, 1), (59, .iload_n 3, 1), (60, .bipush 16, 2), (62, .iushr, 1), (63, .istore 7, 2), (65, .iload_n 3, 1), (66, .ldc_w 492, 3), (69, .imul, 1), (70, .sipush 12345, 3), (73, .iadd, 1), (74, .istore_n 3, 1), (75, .iload_n 3, 1), (76, .bipush 16, 2), (78, .iushr, 1), (79, .istore 8, 2), (81, .aload_n 0, 1), (82, .getfield 7, 3), (85, .aload_n 0, 1), (86, .getfield 227, 3), (89, .iaload, 1), (90, .ifCond .le 111, 3), (93, .aload_n 0, 1), (94, .getfield 16, 3), (97, .aload_n 0, 1), (98, .iconst 0, 1), (99, .invokevirtual 257, 3), (102, .iaload, 1), (103, .invokestatic 252, 3), (106, .ifCond .eq 95, 3), (109, .aload_n 0, 1), (110, .getfield 16, 3), (113, .aload_n 0, 1), (114, .iconst 0, 1), (115, .invokevirtual 257, 3), (118, .iaload, 1), (119, .invokestatic 342, 3), (122, .ifCond .ne 79, 3), (125, .aload_n 0, 1), (126, .getfield 69, 3), (129, .bipush 8, 2), (131, .aload_n 0, 1), (132, .iconst 0, 1), (133, .invokevirtual 257, 3), (136, .imul, 1), (137, .iaload, 1), (138, .ifCond .ne 63, 3), (141, .aload_n 0, 1), (142, .invokevirtual 345, 3), (145, .ifCond .ne 56, 3), (148, .aload_n 0, 1), (149, .iconst 0, 1), (150, .iconst 1, 1), (151, .iload 6, 2), (153, .sipush 200, 3), (156, .irem, 1), (157, .iadd, 1), (158, .iload 6, 2), (160, .sipush 200, 3), (163, .idiv, 1), (164, .bipush 10, 2), (166, .irem, 1), (167, .invokevirtual 348, 3), (170, .istore 9, 2), (172, .iinc 4 1, 3), (175, .aload_n 0, 1), (176, .iload 9, 2), (178, .iload 7, 2), (180, .bipush 100, 2), (182, .idiv, 1), (183, .iconst 2, 1), (184, .irem, 1), (185, .iload 7, 2), (187, .bipush 100, 2), (189, .irem, 1), (190, .invokevirtual 360, 3), (193, .aload_n 0, 1), (194, .iload 9, 2), (196, .iload 8, 2), (198, .invokevirtual 493, 3), (201, .aload_n 0, 1), (202, .invokevirtual 486, 3), (205, .ifCond .eq 10, 3), (208, .aload_n 0, 1), (209, .iload 4, 2), (211, .invokevirtual 244, 3), (214, .ireturn, 1), (215, .aload_n 0, 1), (216, .invokevirtual 489, 3), (219, .iinc 5 1, 3), (222, .goto (-195), 3), (225, .aload_n 0, 1), (226, .iload 4, 2), (228, .invokevirtual 244, 3), (231, .ireturn, 1)]
theorem dk_Mo_night (i : Nat) {pc : Nat} {ins : Instr} {len : Nat} (h : dt_Mo_night[i]? = some (pc, ins, len)) : decode m_Mo_night.2.1 pc = .ok (ins, len) := p_dk (b := m_Mo_night.2.1) (t := dt_Mo_night) (by decide +kernel) i h
def B_Mo_night_201 (k27 : Nat → Int → Int → Int → Int → p_Hp → Option (Int × p_Hp)) (v0 : Nat) (v2 : Int) (v3 : Int) (v4 : Int) (v5 : Int) (s0 : p_Hp) : Option (Int × p_Hp) :=
  p_gd (p_is s0 v0 11) <|
  p_bd (F_Mo_isFull v0 s0) fun r6 s2 =>
  if r6 = 0 then
    p_bv (F_Mo_steps v0 s2) fun s8 =>
    p_bi (p_w (v5 + 1)) fun x12 =>
    k27 v0 v2 v3 v4 x12 s8
  else
    p_bd (F_Mo_well v0 v4 s2) fun r17 s13 =>
    some (r17, s13)
def L_Mo_night_27 (k27 : Nat → Int → Int → Int → Int → p_Hp → Option (Int × p_Hp)) (v0 : Nat) (v2 : Int) (v3 : Int) (v4 : Int) (v5 : Int) (s0 : p_Hp) : Option (Int × p_Hp) :=
  if v2 ≤ v5 then
    p_gd (p_is s0 v0 11) <|
    p_bd (F_Mo_well v0 v4 s0) fun r7 s3 =>
    some (r7, s3)
  else
    p_bi ((p_w ((p_w (v3 * 1103515245)) + 12345))) fun x8 =>
    p_bi ((p_ushr x8 16)) fun x9 =>
    p_bi ((p_w ((p_w (x8 * 1103515245)) + 12345))) fun x10 =>
    p_bi ((p_ushr x10 16)) fun x11 =>
    p_bi ((p_w ((p_w (x10 * 1103515245)) + 12345))) fun x12 =>
    p_bi ((p_ushr x12 16)) fun x13 =>
    p_gd (p_is s0 v0 11) <|
    p_gd (p_is s0 (p_R s0 v0 3) 100) <|
    p_gd ((0 : Int) ≤ (p_Z s0 v0 0) ∧ (p_Z s0 v0 0) < (p_L s0 (p_R s0 v0 3) : Int)) <|
    if (p_Z s0 (p_R s0 v0 3) ((p_Z s0 v0 0) : Int).toNat) ≤ 0 then
      B_Mo_night_201 k27 v0 v2 x12 v4 v5 s0
    else
      p_bd (F_Mo_g v0 0 s0) fun r22 s18 =>
      p_gd (p_is s18 (p_R s0 v0 5) 100) <|
      p_gd ((0 : Int) ≤ r22 ∧ r22 < (p_L s18 (p_R s0 v0 5) : Int)) <|
      p_bd (F_Mo_isTaker (p_Z s18 (p_R s0 v0 5) (r22 : Int).toNat) s18) fun r29 s25 =>
      if r29 = 0 then
        B_Mo_night_201 k27 v0 v2 x12 v4 v5 s25
      else
        p_bd (F_Mo_g v0 0 s25) fun r35 s31 =>
        p_gd (p_is s31 (p_R s25 v0 5) 100) <|
        p_gd ((0 : Int) ≤ r35 ∧ r35 < (p_L s31 (p_R s25 v0 5) : Int)) <|
        p_bd (F_Mo_isChute (p_Z s31 (p_R s25 v0 5) (r35 : Int).toNat) s31) fun r42 s38 =>
        if r42 ≠ 0 then
          B_Mo_night_201 k27 v0 v2 x12 v4 v5 s38
        else
          p_bd (F_Mo_g v0 0 s38) fun r48 s44 =>
          p_gd (p_is s44 (p_R s38 v0 22) 100) <|
          p_gd ((0 : Int) ≤ (p_w (8 * r48)) ∧ (p_w (8 * r48)) < (p_L s44 (p_R s38 v0 22) : Int)) <|
          if (p_Z s44 (p_R s38 v0 22) ((p_w (8 * r48)) : Int).toNat) ≠ 0 then
            B_Mo_night_201 k27 v0 v2 x12 v4 v5 s44
          else
            p_bd (F_Mo_comesFull v0 s44) fun r56 s52 =>
            if r56 ≠ 0 then
              B_Mo_night_201 k27 v0 v2 x12 v4 v5 s52
            else
              p_bd (F_Mo_newParcel v0 0 (p_w (1 + (p_rem x9 200))) (p_rem (p_div x9 200) 10) s52) fun r62 s58 =>
              p_bi (p_w (v4 + 1)) fun x63 =>
              p_bv (F_Mo_tags v0 r62 (p_rem (p_div x11 100) 2) (p_rem x11 100) s58) fun s64 =>
              p_bv (F_Mo_spoils v0 r62 x13 s64) fun s68 =>
              B_Mo_night_201 k27 v0 v2 x12 x63 v5 s68
def O_Mo_night_27  : Nat → Nat → Int → Int → Int → Int → p_Hp → Option (Int × p_Hp)
  | 0 => fun _ _ _ _ _ _ => none
  | n + 1 => L_Mo_night_27 (O_Mo_night_27 n)
def F_Mo_night (v0 : Nat) (v1 : Int) (v2 : Int) (s0 : p_Hp) : Option (Int × p_Hp) :=
  p_bd (F_Mo_beyond v2 1 20 s0) fun r5 s1 =>
  if r5 = 0 then
    O_Mo_night_27 3000 v0 v2 v1 0 0 s1
  else
    p_gd (p_is s1 v0 11) <|
    p_bd (F_Mo_refused v0 (-2) s1) fun r12 s8 =>
    some (r12, s8)
set_option maxRecDepth 100000 in
set_option maxHeartbeats 4000000 in
theorem tB_Mo_night_201 (K : p_K) (l : Launch) (k27 : Nat → Int → Int → Int → Int → p_Hp → Option (Int × p_Hp)) (hk27 : ∀ (v0 : Nat) (v2 : Int) (v3 : Int) (v4 : Int) (v5 : Int)  (s0 : p_Hp) (r : (Int × p_Hp)), k27 v0 v2 v3 v4 v5 s0 = some r → p_Go K l m_Mo_night 27 [(0, p_r v0), (2, p_i v2), (3, p_i v3), (4, p_i v4), (5, p_i v5)] [] s0 (some (p_i r.1), r.2)) (v0 : Nat) (v2 : Int) (v3 : Int) (v4 : Int) (v5 : Int) (s0 : p_Hp) (r : (Int × p_Hp)) (h : B_Mo_night_201 k27 v0 v2 v3 v4 v5 s0 = some r) : p_Go K l m_Mo_night 201 [(0, p_r v0), (2, p_i v2), (3, p_i v3), (4, p_i v4), (5, p_i v5)] [] s0 (some (p_i r.1), r.2) := by
  unfold B_Mo_night_201 at h
  refine g_aload_n (i := 0) (j := 0) (dk_Mo_night 113 rfl) rfl rfl ?_
  obtain ⟨c1, h⟩ := p_gdE h
  obtain ⟨r6, s2, q3, h⟩ := p_bdE h
  have t4 := tF_Mo_isFull K l v0 s0 _ q3
  refine g_callV (a := v0) (ci := 11) (q0 := (RX11, TX11, 90)) (As := []) (rest := []) [p_i r6] mt_Mo_isFull rfl rfl tw_8_49 ts_67 tw_8_47 ⟨Nat.le_of_ble_eq_true rfl, Nat.le_of_ble_eq_true rfl⟩ rfl (Nat.le_of_ble_eq_true rfl) (dk_Mo_night 114 rfl) rfl c1 rfl t4 ?_
  have hs5 : p_x s0 s2 := t4.1
  show p_Go K l m_Mo_night 205 [(0, p_r v0), (2, p_i v2), (3, p_i v3), (4, p_i v4), (5, p_i v5)] [p_i r6] s2 _
  refine g_if_eq 215 (dk_Mo_night 115 rfl) (by decide) (fun b7 => ?_) (fun b7 => ?_)
  · have h := p_ifT b7 h
    refine g_aload_n (i := 0) (j := 0) (dk_Mo_night 120 rfl) rfl rfl ?_
    obtain ⟨s8, q9, h⟩ := p_bvE h
    have t10 := tF_Mo_steps K l v0 s2 _ q9
    refine g_callV (a := v0) (ci := 11) (q0 := (RX11, TX11, 90)) (As := []) (rest := []) [] mt_Mo_steps rfl rfl tw_8_53 ts_68 tw_8_51 ⟨Nat.le_of_ble_eq_true rfl, Nat.le_of_ble_eq_true rfl⟩ rfl (Nat.le_of_ble_eq_true rfl) (dk_Mo_night 121 rfl) rfl (c1.up hs5) rfl t10 ?_
    have hs11 : p_x s2 s8 := t10.1
    show p_Go K l m_Mo_night 219 [(0, p_r v0), (2, p_i v2), (3, p_i v3), (4, p_i v4), (5, p_i v5)] [] s8 _
    refine g_iinc (j := 4) [(5, p_i (p_w (v5 + 1))), (0, p_r v0), (2, p_i v2), (3, p_i v3), (4, p_i v4)] (dk_Mo_night 122 rfl) rfl (by decide) rfl ?_
    refine p_ltG (P := fun q => p_Go K l m_Mo_night 222 [(5, p_i q), (0, p_r v0), (2, p_i v2), (3, p_i v3), (4, p_i v4)] [] s8 _) ?_ h
    intro x12 h
    refine g_goto 27 (dk_Mo_night 123 rfl) (by decide) ?_
    refine g_sub [(0, p_r v0), (2, p_i v2), (3, p_i v3), (4, p_i v4), (5, p_i x12)] [1, 2, 3, 4, 0] rfl ?_
    exact hk27 v0 v2 v3 v4 x12 s8 _ h
  · have h := p_ifF b7 h
    refine g_aload_n (i := 0) (j := 0) (dk_Mo_night 116 rfl) rfl rfl ?_
    refine g_iload (j := 3) (dk_Mo_night 117 rfl) rfl ?_
    obtain ⟨r17, s13, q14, h⟩ := p_bdE h
    have t15 := tF_Mo_well K l v0 v4 s2 _ q14
    refine g_callV (a := v0) (ci := 11) (q0 := (RX11, TX11, 90)) (As := [p_i v4]) (rest := []) [p_i r17] mt_Mo_well rfl rfl tw_7_71 ts_44 tw_7_69 ⟨Nat.le_of_ble_eq_true rfl, Nat.le_of_ble_eq_true rfl⟩ rfl (Nat.le_of_ble_eq_true rfl) (dk_Mo_night 118 rfl) rfl (c1.up hs5) rfl t15 ?_
    have hs16 : p_x s2 s13 := t15.1
    show p_Go K l m_Mo_night 214 [(0, p_r v0), (2, p_i v2), (3, p_i v3), (4, p_i v4), (5, p_i v5)] [p_i r17] s13 _
    cases h
    exact g_ret rfl rfl (dk_Mo_night 119 rfl) (fun os => ⟨_, rfl, p_okh os⟩)
set_option maxRecDepth 100000 in
set_option maxHeartbeats 4000000 in
theorem tL_Mo_night_27 (K : p_K) (l : Launch) (k27 : Nat → Int → Int → Int → Int → p_Hp → Option (Int × p_Hp)) (hk27 : ∀ (v0 : Nat) (v2 : Int) (v3 : Int) (v4 : Int) (v5 : Int)  (s0 : p_Hp) (r : (Int × p_Hp)), k27 v0 v2 v3 v4 v5 s0 = some r → p_Go K l m_Mo_night 27 [(0, p_r v0), (2, p_i v2), (3, p_i v3), (4, p_i v4), (5, p_i v5)] [] s0 (some (p_i r.1), r.2)) (v0 : Nat) (v2 : Int) (v3 : Int) (v4 : Int) (v5 : Int) (s0 : p_Hp) (r : (Int × p_Hp)) (h : L_Mo_night_27 k27 v0 v2 v3 v4 v5 s0 = some r) : p_Go K l m_Mo_night 27 [(0, p_r v0), (2, p_i v2), (3, p_i v3), (4, p_i v4), (5, p_i v5)] [] s0 (some (p_i r.1), r.2) := by
  unfold L_Mo_night_27 at h
  refine g_iload (j := 4) (dk_Mo_night 16 rfl) rfl ?_
  refine g_iload_n (i := 2) (j := 1) (dk_Mo_night 17 rfl) rfl rfl ?_
  refine g_icmp_ge 225 (dk_Mo_night 18 rfl) (by decide) (fun b1 => ?_) (fun b1 => ?_)
  · have h := p_ifT b1 h
    refine g_aload_n (i := 0) (j := 0) (dk_Mo_night 124 rfl) rfl rfl ?_
    refine g_iload (j := 3) (dk_Mo_night 125 rfl) rfl ?_
    obtain ⟨c2, h⟩ := p_gdE h
    obtain ⟨r7, s3, q4, h⟩ := p_bdE h
    have t5 := tF_Mo_well K l v0 v4 s0 _ q4
    refine g_callV (a := v0) (ci := 11) (q0 := (RX11, TX11, 90)) (As := [p_i v4]) (rest := []) [p_i r7] mt_Mo_well rfl rfl tw_7_71 ts_44 tw_7_69 ⟨Nat.le_of_ble_eq_true rfl, Nat.le_of_ble_eq_true rfl⟩ rfl (Nat.le_of_ble_eq_true rfl) (dk_Mo_night 126 rfl) rfl c2 rfl t5 ?_
    have hs6 : p_x s0 s3 := t5.1
    show p_Go K l m_Mo_night 231 [(0, p_r v0), (2, p_i v2), (3, p_i v3), (4, p_i v4), (5, p_i v5)] [p_i r7] s3 _
    cases h
    exact g_ret rfl rfl (dk_Mo_night 127 rfl) (fun os => ⟨_, rfl, p_okh os⟩)
  · have h := p_ifF b1 h
    refine g_iload_n (i := 3) (j := 2) (dk_Mo_night 19 rfl) rfl rfl ?_
    refine g_ldc_w (x := 1103515245) (dk_Mo_night 20 rfl) tw_8_182 (by decide) (by decide) ?_
    refine g_imul (dk_Mo_night 21 rfl) ?_
    refine g_sipush (dk_Mo_night 22 rfl) (by decide +kernel) (by decide) ?_
    refine g_iadd (dk_Mo_night 23 rfl) ?_
    refine g_istore_n (i := 3) [(3, p_i (p_w ((p_w (v3 * 1103515245)) + 12345))), (0, p_r v0), (2, p_i v2), (4, p_i v4), (5, p_i v5)] (dk_Mo_night 24 rfl) rfl (by decide) rfl ?_
    refine p_ltG (P := fun q => p_Go K l m_Mo_night 43 [(3, p_i q), (0, p_r v0), (2, p_i v2), (4, p_i v4), (5, p_i v5)] [] s0 _) ?_ h
    intro x8 h
    refine g_iload_n (i := 3) (j := 0) (dk_Mo_night 25 rfl) rfl rfl ?_
    refine g_bipush (dk_Mo_night 26 rfl) (by decide +kernel) (by decide) ?_
    refine g_iushr (dk_Mo_night 27 rfl) ?_
    refine g_istore [(6, p_i (p_ushr x8 16)), (3, p_i x8), (0, p_r v0), (2, p_i v2), (4, p_i v4), (5, p_i v5)] (dk_Mo_night 28 rfl) (by decide) rfl ?_
    refine p_ltG (P := fun q => p_Go K l m_Mo_night 49 [(6, p_i q), (3, p_i x8), (0, p_r v0), (2, p_i v2), (4, p_i v4), (5, p_i v5)] [] s0 _) ?_ h
    intro x9 h
    refine g_iload_n (i := 3) (j := 1) (dk_Mo_night 29 rfl) rfl rfl ?_
    refine g_ldc_w (x := 1103515245) (dk_Mo_night 30 rfl) tw_8_182 (by decide) (by decide) ?_
    refine g_imul (dk_Mo_night 31 rfl) ?_
    refine g_sipush (dk_Mo_night 32 rfl) (by decide +kernel) (by decide) ?_
    refine g_iadd (dk_Mo_night 33 rfl) ?_
    refine g_istore_n (i := 3) [(3, p_i (p_w ((p_w (x8 * 1103515245)) + 12345))), (6, p_i x9), (0, p_r v0), (2, p_i v2), (4, p_i v4), (5, p_i v5)] (dk_Mo_night 34 rfl) rfl (by decide) rfl ?_
    refine p_ltG (P := fun q => p_Go K l m_Mo_night 59 [(3, p_i q), (6, p_i x9), (0, p_r v0), (2, p_i v2), (4, p_i v4), (5, p_i v5)] [] s0 _) ?_ h
    intro x10 h
    refine g_iload_n (i := 3) (j := 0) (dk_Mo_night 35 rfl) rfl rfl ?_
    refine g_bipush (dk_Mo_night 36 rfl) (by decide +kernel) (by decide) ?_
    refine g_iushr (dk_Mo_night 37 rfl) ?_
    refine g_istore [(7, p_i (p_ushr x10 16)), (3, p_i x10), (6, p_i x9), (0, p_r v0), (2, p_i v2), (4, p_i v4), (5, p_i v5)] (dk_Mo_night 38 rfl) (by decide) rfl ?_
    refine p_ltG (P := fun q => p_Go K l m_Mo_night 65 [(7, p_i q), (3, p_i x10), (6, p_i x9), (0, p_r v0), (2, p_i v2), (4, p_i v4), (5, p_i v5)] [] s0 _) ?_ h
    intro x11 h
    refine g_iload_n (i := 3) (j := 1) (dk_Mo_night 39 rfl) rfl rfl ?_
    refine g_ldc_w (x := 1103515245) (dk_Mo_night 40 rfl) tw_8_182 (by decide) (by decide) ?_
    refine g_imul (dk_Mo_night 41 rfl) ?_
    refine g_sipush (dk_Mo_night 42 rfl) (by decide +kernel) (by decide) ?_
    refine g_iadd (dk_Mo_night 43 rfl) ?_
    refine g_istore_n (i := 3) [(3, p_i (p_w ((p_w (x10 * 1103515245)) + 12345))), (7, p_i x11), (6, p_i x9), (0, p_r v0), (2, p_i v2), (4, p_i v4), (5, p_i v5)] (dk_Mo_night 44 rfl) rfl (by decide) rfl ?_
    refine p_ltG (P := fun q => p_Go K l m_Mo_night 75 [(3, p_i q), (7, p_i x11), (6, p_i x9), (0, p_r v0), (2, p_i v2), (4, p_i v4), (5, p_i v5)] [] s0 _) ?_ h
    intro x12 h
    refine g_iload_n (i := 3) (j := 0) (dk_Mo_night 45 rfl) rfl rfl ?_
    refine g_bipush (dk_Mo_night 46 rfl) (by decide +kernel) (by decide) ?_
    refine g_iushr (dk_Mo_night 47 rfl) ?_
    refine g_istore [(8, p_i (p_ushr x12 16)), (3, p_i x12), (7, p_i x11), (6, p_i x9), (0, p_r v0), (2, p_i v2), (4, p_i v4), (5, p_i v5)] (dk_Mo_night 48 rfl) (by decide) rfl ?_
    refine p_ltG (P := fun q => p_Go K l m_Mo_night 81 [(8, p_i q), (3, p_i x12), (7, p_i x11), (6, p_i x9), (0, p_r v0), (2, p_i v2), (4, p_i v4), (5, p_i v5)] [] s0 _) ?_ h
    intro x13 h
    refine g_aload_n (i := 0) (j := 4) (dk_Mo_night 49 rfl) rfl rfl ?_
    obtain ⟨c14, h⟩ := p_gdE h
    refine g_getR fl_Mo_7 (Or.inr ⟨_, rfl⟩) (dk_Mo_night 50 rfl) c14 ?_
    refine g_aload_n (i := 0) (j := 4) (dk_Mo_night 51 rfl) rfl rfl ?_
    refine g_getI fl_Mo_227 (Or.inl rfl) (dk_Mo_night 52 rfl) c14 ?_
    obtain ⟨c15, h⟩ := p_gdE h
    obtain ⟨c16, h⟩ := p_gdE h
    refine g_iaload (dk_Mo_night 53 rfl) c15 c16.1 c16.2 ?_
    refine g_if_le 201 (dk_Mo_night 54 rfl) (by decide) (fun b17 => ?_) (fun b17 => ?_)
    · have h := p_ifT b17 h
      refine g_sub [(0, p_r v0), (2, p_i v2), (3, p_i x12), (4, p_i v4), (5, p_i v5)] [4, 5, 1, 6, 7] rfl ?_
      exact tB_Mo_night_201 K l k27 hk27 v0 v2 x12 v4 v5 s0 _ h
    · have h := p_ifF b17 h
      refine g_aload_n (i := 0) (j := 4) (dk_Mo_night 55 rfl) rfl rfl ?_
      refine g_getR fl_Mo_16 (Or.inr ⟨_, rfl⟩) (dk_Mo_night 56 rfl) c14 ?_
      refine g_aload_n (i := 0) (j := 4) (dk_Mo_night 57 rfl) rfl rfl ?_
      refine g_iconst (dk_Mo_night 58 rfl) (by decide) ?_
      obtain ⟨r22, s18, q19, h⟩ := p_bdE h
      have t20 := tF_Mo_g K l v0 0 s0 _ q19
      refine g_callV (a := v0) (ci := 11) (q0 := (RX11, TX11, 90)) (As := [p_i 0]) (rest := [p_r (p_R s0 v0 5)]) [p_i r22, p_r (p_R s0 v0 5)] mt_Mo_g rfl rfl tw_7_84 ts_45 tw_7_82 ⟨Nat.le_of_ble_eq_true rfl, Nat.le_of_ble_eq_true rfl⟩ rfl (Nat.le_of_ble_eq_true rfl) (dk_Mo_night 59 rfl) rfl c14 rfl t20 ?_
      have hs21 : p_x s0 s18 := t20.1
      show p_Go K l m_Mo_night 102 [(8, p_i x13), (3, p_i x12), (7, p_i x11), (6, p_i x9), (0, p_r v0), (2, p_i v2), (4, p_i v4), (5, p_i v5)] [p_i r22, p_r (p_R s0 v0 5)] s18 _
      obtain ⟨c23, h⟩ := p_gdE h
      obtain ⟨c24, h⟩ := p_gdE h
      refine g_iaload (dk_Mo_night 60 rfl) c23 c24.1 c24.2 ?_
      obtain ⟨r29, s25, q26, h⟩ := p_bdE h
      have t27 := tF_Mo_isTaker K l (p_Z s18 (p_R s0 v0 5) (r22 : Int).toNat) s18 _ q26
      refine g_callS (av := [p_i (p_Z s18 (p_R s0 v0 5) (r22 : Int).toNat)]) (rest := []) [p_i r29] mt_Mo_isTaker tw_7_79 tw_7_78 ⟨Nat.le_of_ble_eq_true rfl, Nat.le_of_ble_eq_true rfl⟩ rfl (Nat.le_of_ble_eq_true rfl) (dk_Mo_night 61 rfl) rfl rfl t27 ?_
      have hs28 : p_x s18 s25 := t27.1
      show p_Go K l m_Mo_night 106 [(8, p_i x13), (3, p_i x12), (7, p_i x11), (6, p_i x9), (0, p_r v0), (2, p_i v2), (4, p_i v4), (5, p_i v5)] [p_i r29] s25 _
      refine g_if_eq 201 (dk_Mo_night 62 rfl) (by decide) (fun b30 => ?_) (fun b30 => ?_)
      · have h := p_ifT b30 h
        refine g_sub [(0, p_r v0), (2, p_i v2), (3, p_i x12), (4, p_i v4), (5, p_i v5)] [4, 5, 1, 6, 7] rfl ?_
        exact tB_Mo_night_201 K l k27 hk27 v0 v2 x12 v4 v5 s25 _ h
      · have h := p_ifF b30 h
        refine g_aload_n (i := 0) (j := 4) (dk_Mo_night 63 rfl) rfl rfl ?_
        refine g_getR fl_Mo_16 (Or.inr ⟨_, rfl⟩) (dk_Mo_night 64 rfl) (c14.up (hs21.trans hs28)) ?_
        refine g_aload_n (i := 0) (j := 4) (dk_Mo_night 65 rfl) rfl rfl ?_
        refine g_iconst (dk_Mo_night 66 rfl) (by decide) ?_
        obtain ⟨r35, s31, q32, h⟩ := p_bdE h
        have t33 := tF_Mo_g K l v0 0 s25 _ q32
        refine g_callV (a := v0) (ci := 11) (q0 := (RX11, TX11, 90)) (As := [p_i 0]) (rest := [p_r (p_R s25 v0 5)]) [p_i r35, p_r (p_R s25 v0 5)] mt_Mo_g rfl rfl tw_7_84 ts_45 tw_7_82 ⟨Nat.le_of_ble_eq_true rfl, Nat.le_of_ble_eq_true rfl⟩ rfl (Nat.le_of_ble_eq_true rfl) (dk_Mo_night 67 rfl) rfl (c14.up (hs21.trans hs28)) rfl t33 ?_
        have hs34 : p_x s25 s31 := t33.1
        show p_Go K l m_Mo_night 118 [(8, p_i x13), (3, p_i x12), (7, p_i x11), (6, p_i x9), (0, p_r v0), (2, p_i v2), (4, p_i v4), (5, p_i v5)] [p_i r35, p_r (p_R s25 v0 5)] s31 _
        obtain ⟨c36, h⟩ := p_gdE h
        obtain ⟨c37, h⟩ := p_gdE h
        refine g_iaload (dk_Mo_night 68 rfl) c36 c37.1 c37.2 ?_
        obtain ⟨r42, s38, q39, h⟩ := p_bdE h
        have t40 := tF_Mo_isChute K l (p_Z s31 (p_R s25 v0 5) (r35 : Int).toNat) s31 _ q39
        refine g_callS (av := [p_i (p_Z s31 (p_R s25 v0 5) (r35 : Int).toNat)]) (rest := []) [p_i r42] mt_Mo_isChute tw_7_199 tw_7_198 ⟨Nat.le_of_ble_eq_true rfl, Nat.le_of_ble_eq_true rfl⟩ rfl (Nat.le_of_ble_eq_true rfl) (dk_Mo_night 69 rfl) rfl rfl t40 ?_
        have hs41 : p_x s31 s38 := t40.1
        show p_Go K l m_Mo_night 122 [(8, p_i x13), (3, p_i x12), (7, p_i x11), (6, p_i x9), (0, p_r v0), (2, p_i v2), (4, p_i v4), (5, p_i v5)] [p_i r42] s38 _
        refine g_if_ne 201 (dk_Mo_night 70 rfl) (by decide) (fun b43 => ?_) (fun b43 => ?_)
        · have h := p_ifT b43 h
          refine g_sub [(0, p_r v0), (2, p_i v2), (3, p_i x12), (4, p_i v4), (5, p_i v5)] [4, 5, 1, 6, 7] rfl ?_
          exact tB_Mo_night_201 K l k27 hk27 v0 v2 x12 v4 v5 s38 _ h
        · have h := p_ifF b43 h
          refine g_aload_n (i := 0) (j := 4) (dk_Mo_night 71 rfl) rfl rfl ?_
          refine g_getR fl_Mo_69 (Or.inr ⟨_, rfl⟩) (dk_Mo_night 72 rfl) (c14.up (hs21.trans (hs28.trans (hs34.trans hs41)))) ?_
          refine g_bipush (dk_Mo_night 73 rfl) (by decide +kernel) (by decide) ?_
          refine g_aload_n (i := 0) (j := 4) (dk_Mo_night 74 rfl) rfl rfl ?_
          refine g_iconst (dk_Mo_night 75 rfl) (by decide) ?_
          obtain ⟨r48, s44, q45, h⟩ := p_bdE h
          have t46 := tF_Mo_g K l v0 0 s38 _ q45
          refine g_callV (a := v0) (ci := 11) (q0 := (RX11, TX11, 90)) (As := [p_i 0]) (rest := [p_i 8, p_r (p_R s38 v0 22)]) [p_i r48, p_i 8, p_r (p_R s38 v0 22)] mt_Mo_g rfl rfl tw_7_84 ts_45 tw_7_82 ⟨Nat.le_of_ble_eq_true rfl, Nat.le_of_ble_eq_true rfl⟩ rfl (Nat.le_of_ble_eq_true rfl) (dk_Mo_night 76 rfl) rfl (c14.up (hs21.trans (hs28.trans (hs34.trans hs41)))) rfl t46 ?_
          have hs47 : p_x s38 s44 := t46.1
          show p_Go K l m_Mo_night 136 [(8, p_i x13), (3, p_i x12), (7, p_i x11), (6, p_i x9), (0, p_r v0), (2, p_i v2), (4, p_i v4), (5, p_i v5)] [p_i r48, p_i 8, p_r (p_R s38 v0 22)] s44 _
          refine g_imul (dk_Mo_night 77 rfl) ?_
          obtain ⟨c49, h⟩ := p_gdE h
          obtain ⟨c50, h⟩ := p_gdE h
          refine g_iaload (dk_Mo_night 78 rfl) c49 c50.1 c50.2 ?_
          refine g_if_ne 201 (dk_Mo_night 79 rfl) (by decide) (fun b51 => ?_) (fun b51 => ?_)
          · have h := p_ifT b51 h
            refine g_sub [(0, p_r v0), (2, p_i v2), (3, p_i x12), (4, p_i v4), (5, p_i v5)] [4, 5, 1, 6, 7] rfl ?_
            exact tB_Mo_night_201 K l k27 hk27 v0 v2 x12 v4 v5 s44 _ h
          · have h := p_ifF b51 h
            refine g_aload_n (i := 0) (j := 4) (dk_Mo_night 80 rfl) rfl rfl ?_
            obtain ⟨r56, s52, q53, h⟩ := p_bdE h
            have t54 := tF_Mo_comesFull K l v0 s44 _ q53
            refine g_callV (a := v0) (ci := 11) (q0 := (RX11, TX11, 90)) (As := []) (rest := []) [p_i r56] mt_Mo_comesFull rfl rfl tw_7_203 ts_59 tw_7_201 ⟨Nat.le_of_ble_eq_true rfl, Nat.le_of_ble_eq_true rfl⟩ rfl (Nat.le_of_ble_eq_true rfl) (dk_Mo_night 81 rfl) rfl (c14.up (hs21.trans (hs28.trans (hs34.trans (hs41.trans hs47))))) rfl t54 ?_
            have hs55 : p_x s44 s52 := t54.1
            show p_Go K l m_Mo_night 145 [(8, p_i x13), (3, p_i x12), (7, p_i x11), (6, p_i x9), (0, p_r v0), (2, p_i v2), (4, p_i v4), (5, p_i v5)] [p_i r56] s52 _
            refine g_if_ne 201 (dk_Mo_night 82 rfl) (by decide) (fun b57 => ?_) (fun b57 => ?_)
            · have h := p_ifT b57 h
              refine g_sub [(0, p_r v0), (2, p_i v2), (3, p_i x12), (4, p_i v4), (5, p_i v5)] [4, 5, 1, 6, 7] rfl ?_
              exact tB_Mo_night_201 K l k27 hk27 v0 v2 x12 v4 v5 s52 _ h
            · have h := p_ifF b57 h
              refine g_aload_n (i := 0) (j := 4) (dk_Mo_night 83 rfl) rfl rfl ?_
              refine g_iconst (dk_Mo_night 84 rfl) (by decide) ?_
              refine g_iconst (dk_Mo_night 85 rfl) (by decide) ?_
              refine g_iload (j := 3) (dk_Mo_night 86 rfl) rfl ?_
              refine g_sipush (dk_Mo_night 87 rfl) (by decide +kernel) (by decide) ?_
              refine g_irem (dk_Mo_night 88 rfl) (by decide) ?_
              refine g_iadd (dk_Mo_night 89 rfl) ?_
              refine g_iload (j := 3) (dk_Mo_night 90 rfl) rfl ?_
              refine g_sipush (dk_Mo_night 91 rfl) (by decide +kernel) (by decide) ?_
              refine g_idiv (dk_Mo_night 92 rfl) (by decide) ?_
              refine g_bipush (dk_Mo_night 93 rfl) (by decide +kernel) (by decide) ?_
              refine g_irem (dk_Mo_night 94 rfl) (by decide) ?_
              obtain ⟨r62, s58, q59, h⟩ := p_bdE h
              have t60 := tF_Mo_newParcel K l v0 0 (p_w (1 + (p_rem x9 200))) (p_rem (p_div x9 200) 10) s52 _ q59
              refine g_callV (a := v0) (ci := 11) (q0 := (RX11, TX11, 90)) (As := [p_i 0, p_i (p_w (1 + (p_rem x9 200))), p_i (p_rem (p_div x9 200) 10)]) (rest := []) [p_i r62] mt_Mo_newParcel rfl rfl tw_7_207 ts_60 tw_7_205 ⟨Nat.le_of_ble_eq_true rfl, Nat.le_of_ble_eq_true rfl⟩ rfl (Nat.le_of_ble_eq_true rfl) (dk_Mo_night 95 rfl) rfl (c14.up (hs21.trans (hs28.trans (hs34.trans (hs41.trans (hs47.trans hs55)))))) rfl t60 ?_
              have hs61 : p_x s52 s58 := t60.1
              show p_Go K l m_Mo_night 170 [(8, p_i x13), (3, p_i x12), (7, p_i x11), (6, p_i x9), (0, p_r v0), (2, p_i v2), (4, p_i v4), (5, p_i v5)] [p_i r62] s58 _
              refine g_istore [(9, p_i r62), (8, p_i x13), (3, p_i x12), (7, p_i x11), (6, p_i x9), (0, p_r v0), (2, p_i v2), (4, p_i v4), (5, p_i v5)] (dk_Mo_night 96 rfl) (by decide) rfl ?_
              refine g_iinc (j := 7) [(4, p_i (p_w (v4 + 1))), (9, p_i r62), (8, p_i x13), (3, p_i x12), (7, p_i x11), (6, p_i x9), (0, p_r v0), (2, p_i v2), (5, p_i v5)] (dk_Mo_night 97 rfl) rfl (by decide) rfl ?_
              refine p_ltG (P := fun q => p_Go K l m_Mo_night 175 [(4, p_i q), (9, p_i r62), (8, p_i x13), (3, p_i x12), (7, p_i x11), (6, p_i x9), (0, p_r v0), (2, p_i v2), (5, p_i v5)] [] s58 _) ?_ h
              intro x63 h
              refine g_aload_n (i := 0) (j := 6) (dk_Mo_night 98 rfl) rfl rfl ?_
              refine g_iload (j := 1) (dk_Mo_night 99 rfl) rfl ?_
              refine g_iload (j := 4) (dk_Mo_night 100 rfl) rfl ?_
              refine g_bipush (dk_Mo_night 101 rfl) (by decide +kernel) (by decide) ?_
              refine g_idiv (dk_Mo_night 102 rfl) (by decide) ?_
              refine g_iconst (dk_Mo_night 103 rfl) (by decide) ?_
              refine g_irem (dk_Mo_night 104 rfl) (by decide) ?_
              refine g_iload (j := 4) (dk_Mo_night 105 rfl) rfl ?_
              refine g_bipush (dk_Mo_night 106 rfl) (by decide +kernel) (by decide) ?_
              refine g_irem (dk_Mo_night 107 rfl) (by decide) ?_
              obtain ⟨s64, q65, h⟩ := p_bvE h
              have t66 := tF_Mo_tags K l v0 r62 (p_rem (p_div x11 100) 2) (p_rem x11 100) s58 _ q65
              refine g_callV (a := v0) (ci := 11) (q0 := (RX11, TX11, 90)) (As := [p_i r62, p_i (p_rem (p_div x11 100) 2), p_i (p_rem x11 100)]) (rest := []) [] mt_Mo_tags rfl rfl tw_7_236 ts_64 tw_7_234 ⟨Nat.le_of_ble_eq_true rfl, Nat.le_of_ble_eq_true rfl⟩ rfl (Nat.le_of_ble_eq_true rfl) (dk_Mo_night 108 rfl) rfl (c14.up (hs21.trans (hs28.trans (hs34.trans (hs41.trans (hs47.trans (hs55.trans hs61))))))) rfl t66 ?_
              have hs67 : p_x s58 s64 := t66.1
              show p_Go K l m_Mo_night 193 [(4, p_i x63), (9, p_i r62), (8, p_i x13), (3, p_i x12), (7, p_i x11), (6, p_i x9), (0, p_r v0), (2, p_i v2), (5, p_i v5)] [] s64 _
              refine g_aload_n (i := 0) (j := 6) (dk_Mo_night 109 rfl) rfl rfl ?_
              refine g_iload (j := 1) (dk_Mo_night 110 rfl) rfl ?_
              refine g_iload (j := 2) (dk_Mo_night 111 rfl) rfl ?_
              obtain ⟨s68, q69, h⟩ := p_bvE h
              have t70 := tF_Mo_spoils K l v0 r62 x13 s64 _ q69
              refine g_callV (a := v0) (ci := 11) (q0 := (RX11, TX11, 90)) (As := [p_i r62, p_i x13]) (rest := []) [] mt_Mo_spoils rfl rfl tw_8_185 ts_99 tw_8_183 ⟨Nat.le_of_ble_eq_true rfl, Nat.le_of_ble_eq_true rfl⟩ rfl (Nat.le_of_ble_eq_true rfl) (dk_Mo_night 112 rfl) rfl (c14.up (hs21.trans (hs28.trans (hs34.trans (hs41.trans (hs47.trans (hs55.trans (hs61.trans hs67)))))))) rfl t70 ?_
              have hs71 : p_x s64 s68 := t70.1
              show p_Go K l m_Mo_night 201 [(4, p_i x63), (9, p_i r62), (8, p_i x13), (3, p_i x12), (7, p_i x11), (6, p_i x9), (0, p_r v0), (2, p_i v2), (5, p_i v5)] [] s68 _
              refine g_sub [(0, p_r v0), (2, p_i v2), (3, p_i x12), (4, p_i x63), (5, p_i v5)] [6, 7, 3, 0, 8] rfl ?_
              exact tB_Mo_night_201 K l k27 hk27 v0 v2 x12 x63 v5 s68 _ h
set_option maxRecDepth 100000 in
set_option maxHeartbeats 4000000 in
theorem tO_Mo_night_27 (K : p_K) (l : Launch)  : ∀ (n : Nat) (v0 : Nat) (v2 : Int) (v3 : Int) (v4 : Int) (v5 : Int) (s0 : p_Hp) (r : (Int × p_Hp)), O_Mo_night_27 n v0 v2 v3 v4 v5 s0 = some r → p_Go K l m_Mo_night 27 [(0, p_r v0), (2, p_i v2), (3, p_i v3), (4, p_i v4), (5, p_i v5)] [] s0 (some (p_i r.1), r.2) := by
  intro n
  induction n with
  | zero => intro v0 v2 v3 v4 v5 s0 r h; cases (show (none : Option (Int × p_Hp)) = some r from h)
  | succ n ih => intro v0 v2 v3 v4 v5 s0 r h; exact tL_Mo_night_27 K l _ ih v0 v2 v3 v4 v5 s0 r h
set_option maxRecDepth 100000 in
set_option maxHeartbeats 4000000 in
theorem tF_Mo_night (K : p_K) (l : Launch) (v0 : Nat) (v1 : Int) (v2 : Int) (s0 : p_Hp) (r : (Int × p_Hp)) (h : F_Mo_night v0 v1 v2 s0 = some r) : p_Ct K l m_Mo_night [p_r v0, p_i v1, p_i v2] s0 (some (p_i r.1), r.2) := by
  refine p_Ct.of (by decide +kernel) (Nat.le_of_ble_eq_true rfl) ?_
  unfold F_Mo_night at h
  show p_Go K l m_Mo_night 0 [(0, p_r v0), (1, p_i v1), (2, p_i v2)] [] s0 _
  refine g_iload_n (i := 2) (j := 2) (dk_Mo_night 0 rfl) rfl rfl ?_
  refine g_i2l (dk_Mo_night 1 rfl) ?_
  refine g_lconst (x := 1) (dk_Mo_night 2 rfl) rfl (by decide) ?_
  refine g_ldc2_w (x := 20) (dk_Mo_night 3 rfl) tw_8_10 (by decide) (by decide) ?_
  obtain ⟨r5, s1, q2, h⟩ := p_bdE h
  have t3 := tF_Mo_beyond K l v2 1 20 s0 _ q2
  refine g_callS (av := [p_j v2, p_j 1, p_j 20]) (rest := []) [p_i r5] mt_Mo_beyond tw_7_63 tw_7_62 ⟨Nat.le_of_ble_eq_true rfl, Nat.le_of_ble_eq_true rfl⟩ rfl (Nat.le_of_ble_eq_true rfl) (dk_Mo_night 4 rfl) rfl rfl t3 ?_
  have hs4 : p_x s0 s1 := t3.1
  show p_Go K l m_Mo_night 9 [(0, p_r v0), (1, p_i v1), (2, p_i v2)] [p_i r5] s1 _
  refine g_if_eq 19 (dk_Mo_night 5 rfl) (by decide) (fun b6 => ?_) (fun b6 => ?_)
  · have h := p_ifT b6 h
    refine g_iload_n (i := 1) (j := 1) (dk_Mo_night 10 rfl) rfl rfl ?_
    refine g_istore_n (i := 3) [(3, p_i v1), (0, p_r v0), (1, p_i v1), (2, p_i v2)] (dk_Mo_night 11 rfl) rfl (by decide) rfl ?_
    refine g_iconst (dk_Mo_night 12 rfl) (by decide) ?_
    refine g_istore [(4, p_i 0), (3, p_i v1), (0, p_r v0), (1, p_i v1), (2, p_i v2)] (dk_Mo_night 13 rfl) (by decide) rfl ?_
    refine g_iconst (dk_Mo_night 14 rfl) (by decide) ?_
    refine g_istore [(5, p_i 0), (4, p_i 0), (3, p_i v1), (0, p_r v0), (1, p_i v1), (2, p_i v2)] (dk_Mo_night 15 rfl) (by decide) rfl ?_
    refine g_sub [(0, p_r v0), (2, p_i v2), (3, p_i v1), (4, p_i 0), (5, p_i 0)] [3, 5, 2, 1, 0] rfl ?_
    exact tO_Mo_night_27 K l 3000 v0 v2 v1 0 0 s1 _ h
  · have h := p_ifF b6 h
    refine g_aload_n (i := 0) (j := 0) (dk_Mo_night 6 rfl) rfl rfl ?_
    refine g_bipush (dk_Mo_night 7 rfl) (by decide +kernel) (by decide) ?_
    obtain ⟨c7, h⟩ := p_gdE h
    obtain ⟨r12, s8, q9, h⟩ := p_bdE h
    have t10 := tF_Mo_refused K l v0 (-2) s1 _ q9
    refine g_callV (a := v0) (ci := 11) (q0 := (RX11, TX11, 90)) (As := [p_i (-2)]) (rest := []) [p_i r12] mt_Mo_refused rfl rfl tw_7_67 ts_43 tw_7_65 ⟨Nat.le_of_ble_eq_true rfl, Nat.le_of_ble_eq_true rfl⟩ rfl (Nat.le_of_ble_eq_true rfl) (dk_Mo_night 8 rfl) rfl c7 rfl t10 ?_
    have hs11 : p_x s1 s8 := t10.1
    show p_Go K l m_Mo_night 18 [(0, p_r v0), (1, p_i v1), (2, p_i v2)] [p_i r12] s8 _
    cases h
    exact g_ret rfl rfl (dk_Mo_night 9 rfl) (fun os => ⟨_, rfl, p_okh os⟩)
def m_Mo_back : p_Me := (⟨"SortWorksModel", "back", "(I)I"⟩, prog_13_method_93_code, 2, (some .int), 3, 68)
theorem mt_Mo_back : p_Mt m_Mo_back 1 := ⟨p_mem (p_tb8 (List.mem_of_getElem? (i := 190) rfl)) rfl, tw_1_12, by decide +kernel, by decide +kernel, by decide +kernel⟩
def dt_Mo_back : List (Nat × Instr × Nat) := [(0, .iload_n 1, 1), (1, .i2l, 1), (2, .lconst 1, 1), (3, .ldc2_w 515, 3), (6, .invokestatic 230, 3), (9, .ifCond .eq 10, 3), (12, .aload_n 0, 1), (13, .bipush (-2), 2), (15, .invokevirtual 240, 3), (18, .ireturn, 1), (19, .iload_n 1, 1), (20, .aload_n 0, 1), (21, .getfield 207, 3), (24, .aload_n 0, 1), (25, .getfield 227, 3), (28, .iaload, 1), (29, .if_icmp .le 10, 3), (32, .aload_n 0, 1), (33, .bipush (-3), 2), (35, .invokevirtual 240, 3), (38, .ireturn, 1), (39, .aload_n 0, 1), (40, .getfield 207, 3), (43, .aload_n 0, 1), (44, .getfield 227, 3), (47, .dup2, 1), (48, .iaload, 1), (49, .iload_n 1, 1), (50, .isub, 1), (51, .iastore, 1), (52, .aload_n 0, 1), (53, .iconst 0, 1), (54, .putfield 496, 3), (57, .aload_n 0, 1), (58, .aload_n 0, 1), (59, .getfield 210, 3), (62, .aload_n 0, 1), (63, .getfield 227, 3), (66, .iaload, 1), (67, .aload_n 0, 1), (68, .getfield 207, 3), (71, .aload_n 0, 1), (72, .getfield 227, 3), (75, .iaload, 1), (76, .iadd, 1), (77, .bipush 30, 2), (79, .irem, 1), (80, .invokevirtual 503, 3), (83, .aload_n 0, 1), (84, .getfield 132, 3), (87, .aload_n 0, 1), (88, .getfield 227, 3), (91, .iconst 0, 1), (92, .iastore, 1), (93, .aload_n 0, 1), (94, .aload_n 0, 1), (95, .getfield 13, 3), (98, .aload_n 0, 1), (99, .getfield 227, 3), (102, .iaload, 1), (103, .invokevirtual 244, 3), (106, .ireturn, 1)]
theorem dk_Mo_back (i : Nat) {pc : Nat} {ins : Instr} {len : Nat} (h : dt_Mo_back[i]? = some (pc, ins, len)) : decode m_Mo_back.2.1 pc = .ok (ins, len) := p_dk (b := m_Mo_back.2.1) (t := dt_Mo_back) (by decide +kernel) i h
def F_Mo_back (v0 : Nat) (v1 : Int) (s0 : p_Hp) : Option (Int × p_Hp) :=
  p_bd (F_Mo_beyond v1 1 30 s0) fun r5 s1 =>
  if r5 = 0 then
    p_gd (p_is s1 v0 11) <|
    p_gd (p_is s1 (p_R s1 v0 81) 100) <|
    p_gd ((0 : Int) ≤ (p_Z s1 v0 0) ∧ (p_Z s1 v0 0) < (p_L s1 (p_R s1 v0 81) : Int)) <|
    if v1 ≤ (p_Z s1 (p_R s1 v0 81) ((p_Z s1 v0 0) : Int).toNat) then
      p_gd ((0 : Int) ≤ (p_Z s1 v0 0) ∧ (p_Z s1 v0 0) < (p_L s1 (p_R s1 v0 81) : Int)) <|
      p_gd ((0 : Int) ≤ (p_Z s1 v0 0) ∧ (p_Z s1 v0 0) < (p_L s1 (p_R s1 v0 81) : Int)) <|
      p_bi (p_wZ s1 (p_R s1 v0 81) ((p_Z s1 v0 0) : Int).toNat (p_w ((p_Z s1 (p_R s1 v0 81) ((p_Z s1 v0 0) : Int).toNat) - v1))) fun s13 =>
      p_bi (p_wZ s13 v0 85 0) fun s15 =>
      p_gd (p_is s15 (p_R s15 v0 82) 100) <|
      p_gd ((0 : Int) ≤ (p_Z s15 v0 0) ∧ (p_Z s15 v0 0) < (p_L s15 (p_R s15 v0 82) : Int)) <|
      p_gd (p_is s15 (p_R s15 v0 81) 100) <|
      p_gd ((0 : Int) ≤ (p_Z s15 v0 0) ∧ (p_Z s15 v0 0) < (p_L s15 (p_R s15 v0 81) : Int)) <|
      p_bv (F_Mo_goOver v0 (p_rem (p_w ((p_Z s15 (p_R s15 v0 82) ((p_Z s15 v0 0) : Int).toNat) + (p_Z s15 (p_R s15 v0 81) ((p_Z s15 v0 0) : Int).toNat))) 30) s15) fun s21 =>
      p_gd (p_is s21 (p_R s21 v0 44) 100) <|
      p_gd ((0 : Int) ≤ (p_Z s21 v0 0) ∧ (p_Z s21 v0 0) < (p_L s21 (p_R s21 v0 44) : Int)) <|
      p_bi (p_wZ s21 (p_R s21 v0 44) ((p_Z s21 v0 0) : Int).toNat 0) fun s27 =>
      p_gd (p_is s27 (p_R s27 v0 4) 100) <|
      p_gd ((0 : Int) ≤ (p_Z s27 v0 0) ∧ (p_Z s27 v0 0) < (p_L s27 (p_R s27 v0 4) : Int)) <|
      p_bd (F_Mo_well v0 (p_Z s27 (p_R s27 v0 4) ((p_Z s27 v0 0) : Int).toNat) s27) fun r35 s31 =>
      some (r35, s31)
    else
      p_bd (F_Mo_refused v0 (-3) s1) fun r40 s36 =>
      some (r40, s36)
  else
    p_gd (p_is s1 v0 11) <|
    p_bd (F_Mo_refused v0 (-2) s1) fun r46 s42 =>
    some (r46, s42)
set_option maxRecDepth 100000 in
set_option maxHeartbeats 4000000 in
theorem tF_Mo_back (K : p_K) (l : Launch) (v0 : Nat) (v1 : Int) (s0 : p_Hp) (r : (Int × p_Hp)) (h : F_Mo_back v0 v1 s0 = some r) : p_Ct K l m_Mo_back [p_r v0, p_i v1] s0 (some (p_i r.1), r.2) := by
  refine p_Ct.of (by decide +kernel) (Nat.le_of_ble_eq_true rfl) ?_
  unfold F_Mo_back at h
  show p_Go K l m_Mo_back 0 [(0, p_r v0), (1, p_i v1)] [] s0 _
  refine g_iload_n (i := 1) (j := 1) (dk_Mo_back 0 rfl) rfl rfl ?_
  refine g_i2l (dk_Mo_back 1 rfl) ?_
  refine g_lconst (x := 1) (dk_Mo_back 2 rfl) rfl (by decide) ?_
  refine g_ldc2_w (x := 30) (dk_Mo_back 3 rfl) tw_8_191 (by decide) (by decide) ?_
  obtain ⟨r5, s1, q2, h⟩ := p_bdE h
  have t3 := tF_Mo_beyond K l v1 1 30 s0 _ q2
  refine g_callS (av := [p_j v1, p_j 1, p_j 30]) (rest := []) [p_i r5] mt_Mo_beyond tw_7_63 tw_7_62 ⟨Nat.le_of_ble_eq_true rfl, Nat.le_of_ble_eq_true rfl⟩ rfl (Nat.le_of_ble_eq_true rfl) (dk_Mo_back 4 rfl) rfl rfl t3 ?_
  have hs4 : p_x s0 s1 := t3.1
  show p_Go K l m_Mo_back 9 [(0, p_r v0), (1, p_i v1)] [p_i r5] s1 _
  refine g_if_eq 19 (dk_Mo_back 5 rfl) (by decide) (fun b6 => ?_) (fun b6 => ?_)
  · have h := p_ifT b6 h
    refine g_iload_n (i := 1) (j := 1) (dk_Mo_back 10 rfl) rfl rfl ?_
    refine g_aload_n (i := 0) (j := 0) (dk_Mo_back 11 rfl) rfl rfl ?_
    obtain ⟨c7, h⟩ := p_gdE h
    refine g_getR fl_Mo_207 (Or.inr ⟨_, rfl⟩) (dk_Mo_back 12 rfl) c7 ?_
    refine g_aload_n (i := 0) (j := 0) (dk_Mo_back 13 rfl) rfl rfl ?_
    refine g_getI fl_Mo_227 (Or.inl rfl) (dk_Mo_back 14 rfl) c7 ?_
    obtain ⟨c8, h⟩ := p_gdE h
    obtain ⟨c9, h⟩ := p_gdE h
    refine g_iaload (dk_Mo_back 15 rfl) c8 c9.1 c9.2 ?_
    refine g_icmp_le 39 (dk_Mo_back 16 rfl) (by decide) (fun b10 => ?_) (fun b10 => ?_)
    · have h := p_ifT b10 h
      refine g_aload_n (i := 0) (j := 0) (dk_Mo_back 21 rfl) rfl rfl ?_
      refine g_getR fl_Mo_207 (Or.inr ⟨_, rfl⟩) (dk_Mo_back 22 rfl) c7 ?_
      refine g_aload_n (i := 0) (j := 0) (dk_Mo_back 23 rfl) rfl rfl ?_
      refine g_getI fl_Mo_227 (Or.inl rfl) (dk_Mo_back 24 rfl) c7 ?_
      refine g_dup2 (dk_Mo_back 25 rfl) rfl rfl ?_
      obtain ⟨c11, h⟩ := p_gdE h
      refine g_iaload (dk_Mo_back 26 rfl) c8 c11.1 c11.2 ?_
      refine g_iload_n (i := 1) (j := 1) (dk_Mo_back 27 rfl) rfl rfl ?_
      refine g_isub (dk_Mo_back 28 rfl) ?_
      obtain ⟨c12, h⟩ := p_gdE h
      refine g_iastore (dk_Mo_back 29 rfl) c8 c12.1 c12.2 ?_
      refine p_ltS (P := fun q => p_Go K l m_Mo_back 52 [(0, p_r v0), (1, p_i v1)] [] q _) (p_xZ _ _ _ _) ?_ h
      intro s13 hs14 h
      refine g_aload_n (i := 0) (j := 0) (dk_Mo_back 30 rfl) rfl rfl ?_
      refine g_iconst (dk_Mo_back 31 rfl) (by decide) ?_
      refine g_putB fl_Mo_496 (Or.inl rfl) (dk_Mo_back 32 rfl) (c7.up hs14) (Or.inl rfl) ?_
      refine p_ltS (P := fun q => p_Go K l m_Mo_back 57 [(0, p_r v0), (1, p_i v1)] [] q _) (p_xZ _ _ _ _) ?_ h
      intro s15 hs16 h
      refine g_aload_n (i := 0) (j := 0) (dk_Mo_back 33 rfl) rfl rfl ?_
      refine g_aload_n (i := 0) (j := 0) (dk_Mo_back 34 rfl) rfl rfl ?_
      refine g_getR fl_Mo_210 (Or.inr ⟨_, rfl⟩) (dk_Mo_back 35 rfl) (c7.up (hs14.trans hs16)) ?_
      refine g_aload_n (i := 0) (j := 0) (dk_Mo_back 36 rfl) rfl rfl ?_
      refine g_getI fl_Mo_227 (Or.inl rfl) (dk_Mo_back 37 rfl) (c7.up (hs14.trans hs16)) ?_
      obtain ⟨c17, h⟩ := p_gdE h
      obtain ⟨c18, h⟩ := p_gdE h
      refine g_iaload (dk_Mo_back 38 rfl) c17 c18.1 c18.2 ?_
      refine g_aload_n (i := 0) (j := 0) (dk_Mo_back 39 rfl) rfl rfl ?_
      refine g_getR fl_Mo_207 (Or.inr ⟨_, rfl⟩) (dk_Mo_back 40 rfl) (c7.up (hs14.trans hs16)) ?_
      refine g_aload_n (i := 0) (j := 0) (dk_Mo_back 41 rfl) rfl rfl ?_
      refine g_getI fl_Mo_227 (Or.inl rfl) (dk_Mo_back 42 rfl) (c7.up (hs14.trans hs16)) ?_
      obtain ⟨c19, h⟩ := p_gdE h
      obtain ⟨c20, h⟩ := p_gdE h
      refine g_iaload (dk_Mo_back 43 rfl) c19 c20.1 c20.2 ?_
      refine g_iadd (dk_Mo_back 44 rfl) ?_
      refine g_bipush (dk_Mo_back 45 rfl) (by decide +kernel) (by decide) ?_
      refine g_irem (dk_Mo_back 46 rfl) (by decide) ?_
      obtain ⟨s21, q22, h⟩ := p_bvE h
      have t23 := tF_Mo_goOver K l v0 (p_rem (p_w ((p_Z s15 (p_R s15 v0 82) ((p_Z s15 v0 0) : Int).toNat) + (p_Z s15 (p_R s15 v0 81) ((p_Z s15 v0 0) : Int).toNat))) 30) s15 _ q22
      refine g_callV (a := v0) (ci := 11) (q0 := (RX11, TX11, 90)) (As := [p_i (p_rem (p_w ((p_Z s15 (p_R s15 v0 82) ((p_Z s15 v0 0) : Int).toNat) + (p_Z s15 (p_R s15 v0 81) ((p_Z s15 v0 0) : Int).toNat))) 30)]) (rest := []) [] mt_Mo_goOver rfl rfl tw_8_61 ts_70 tw_8_59 ⟨Nat.le_of_ble_eq_true rfl, Nat.le_of_ble_eq_true rfl⟩ rfl (Nat.le_of_ble_eq_true rfl) (dk_Mo_back 47 rfl) rfl (c7.up (hs14.trans hs16)) rfl t23 ?_
      have hs24 : p_x s15 s21 := t23.1
      show p_Go K l m_Mo_back 83 [(0, p_r v0), (1, p_i v1)] [] s21 _
      refine g_aload_n (i := 0) (j := 0) (dk_Mo_back 48 rfl) rfl rfl ?_
      refine g_getR fl_Mo_132 (Or.inr ⟨_, rfl⟩) (dk_Mo_back 49 rfl) (c7.up (hs14.trans (hs16.trans hs24))) ?_
      refine g_aload_n (i := 0) (j := 0) (dk_Mo_back 50 rfl) rfl rfl ?_
      refine g_getI fl_Mo_227 (Or.inl rfl) (dk_Mo_back 51 rfl) (c7.up (hs14.trans (hs16.trans hs24))) ?_
      refine g_iconst (dk_Mo_back 52 rfl) (by decide) ?_
      obtain ⟨c25, h⟩ := p_gdE h
      obtain ⟨c26, h⟩ := p_gdE h
      refine g_iastore (dk_Mo_back 53 rfl) c25 c26.1 c26.2 ?_
      refine p_ltS (P := fun q => p_Go K l m_Mo_back 93 [(0, p_r v0), (1, p_i v1)] [] q _) (p_xZ _ _ _ _) ?_ h
      intro s27 hs28 h
      refine g_aload_n (i := 0) (j := 0) (dk_Mo_back 54 rfl) rfl rfl ?_
      refine g_aload_n (i := 0) (j := 0) (dk_Mo_back 55 rfl) rfl rfl ?_
      refine g_getR fl_Mo_13 (Or.inr ⟨_, rfl⟩) (dk_Mo_back 56 rfl) (c7.up (hs14.trans (hs16.trans (hs24.trans hs28)))) ?_
      refine g_aload_n (i := 0) (j := 0) (dk_Mo_back 57 rfl) rfl rfl ?_
      refine g_getI fl_Mo_227 (Or.inl rfl) (dk_Mo_back 58 rfl) (c7.up (hs14.trans (hs16.trans (hs24.trans hs28)))) ?_
      obtain ⟨c29, h⟩ := p_gdE h
      obtain ⟨c30, h⟩ := p_gdE h
      refine g_iaload (dk_Mo_back 59 rfl) c29 c30.1 c30.2 ?_
      obtain ⟨r35, s31, q32, h⟩ := p_bdE h
      have t33 := tF_Mo_well K l v0 (p_Z s27 (p_R s27 v0 4) ((p_Z s27 v0 0) : Int).toNat) s27 _ q32
      refine g_callV (a := v0) (ci := 11) (q0 := (RX11, TX11, 90)) (As := [p_i (p_Z s27 (p_R s27 v0 4) ((p_Z s27 v0 0) : Int).toNat)]) (rest := []) [p_i r35] mt_Mo_well rfl rfl tw_7_71 ts_44 tw_7_69 ⟨Nat.le_of_ble_eq_true rfl, Nat.le_of_ble_eq_true rfl⟩ rfl (Nat.le_of_ble_eq_true rfl) (dk_Mo_back 60 rfl) rfl (c7.up (hs14.trans (hs16.trans (hs24.trans hs28)))) rfl t33 ?_
      have hs34 : p_x s27 s31 := t33.1
      show p_Go K l m_Mo_back 106 [(0, p_r v0), (1, p_i v1)] [p_i r35] s31 _
      cases h
      exact g_ret rfl rfl (dk_Mo_back 61 rfl) (fun os => ⟨_, rfl, p_okh os⟩)
    · have h := p_ifF b10 h
      refine g_aload_n (i := 0) (j := 0) (dk_Mo_back 17 rfl) rfl rfl ?_
      refine g_bipush (dk_Mo_back 18 rfl) (by decide +kernel) (by decide) ?_
      obtain ⟨r40, s36, q37, h⟩ := p_bdE h
      have t38 := tF_Mo_refused K l v0 (-3) s1 _ q37
      refine g_callV (a := v0) (ci := 11) (q0 := (RX11, TX11, 90)) (As := [p_i (-3)]) (rest := []) [p_i r40] mt_Mo_refused rfl rfl tw_7_67 ts_43 tw_7_65 ⟨Nat.le_of_ble_eq_true rfl, Nat.le_of_ble_eq_true rfl⟩ rfl (Nat.le_of_ble_eq_true rfl) (dk_Mo_back 19 rfl) rfl c7 rfl t38 ?_
      have hs39 : p_x s1 s36 := t38.1
      show p_Go K l m_Mo_back 38 [(0, p_r v0), (1, p_i v1)] [p_i r40] s36 _
      cases h
      exact g_ret rfl rfl (dk_Mo_back 20 rfl) (fun os => ⟨_, rfl, p_okh os⟩)
  · have h := p_ifF b6 h
    refine g_aload_n (i := 0) (j := 0) (dk_Mo_back 6 rfl) rfl rfl ?_
    refine g_bipush (dk_Mo_back 7 rfl) (by decide +kernel) (by decide) ?_
    obtain ⟨c41, h⟩ := p_gdE h
    obtain ⟨r46, s42, q43, h⟩ := p_bdE h
    have t44 := tF_Mo_refused K l v0 (-2) s1 _ q43
    refine g_callV (a := v0) (ci := 11) (q0 := (RX11, TX11, 90)) (As := [p_i (-2)]) (rest := []) [p_i r46] mt_Mo_refused rfl rfl tw_7_67 ts_43 tw_7_65 ⟨Nat.le_of_ble_eq_true rfl, Nat.le_of_ble_eq_true rfl⟩ rfl (Nat.le_of_ble_eq_true rfl) (dk_Mo_back 8 rfl) rfl c41 rfl t44 ?_
    have hs45 : p_x s1 s42 := t44.1
    show p_Go K l m_Mo_back 18 [(0, p_r v0), (1, p_i v1)] [p_i r46] s42 _
    cases h
    exact g_ret rfl rfl (dk_Mo_back 9 rfl) (fun os => ⟨_, rfl, p_okh os⟩)
def m_Mo_status : p_Me := (⟨"SortWorksModel", "status", "()I"⟩, prog_13_method_94_code, 1, (some .int), 0, 0)
theorem mt_Mo_status : p_Mt m_Mo_status 0 := ⟨p_mem (p_tb8 (List.mem_of_getElem? (i := 195) rfl)) rfl, tw_1_12, by decide +kernel, by decide +kernel, by decide +kernel⟩
def dt_Mo_status : List (Nat × Instr × Nat) := [(0, .aload_n 0, 1), (1, .getfield 220, 3), (4, .ireturn, 1)]
theorem dk_Mo_status (i : Nat) {pc : Nat} {ins : Instr} {len : Nat} (h : dt_Mo_status[i]? = some (pc, ins, len)) : decode m_Mo_status.2.1 pc = .ok (ins, len) := p_dk (b := m_Mo_status.2.1) (t := dt_Mo_status) (by decide +kernel) i h
def F_Mo_status (v0 : Nat) (s0 : p_Hp) : Option (Int × p_Hp) :=
  p_gd (p_is s0 v0 11) <|
  some ((p_Z s0 v0 1), s0)
set_option maxRecDepth 100000 in
set_option maxHeartbeats 4000000 in
theorem tF_Mo_status (K : p_K) (l : Launch) (v0 : Nat) (s0 : p_Hp) (r : (Int × p_Hp)) (h : F_Mo_status v0 s0 = some r) : p_Ct K l m_Mo_status [p_r v0] s0 (some (p_i r.1), r.2) := by
  refine p_Ct.of (by decide +kernel) (Nat.le_of_ble_eq_true rfl) ?_
  unfold F_Mo_status at h
  show p_Go K l m_Mo_status 0 [(0, p_r v0)] [] s0 _
  refine g_aload_n (i := 0) (j := 0) (dk_Mo_status 0 rfl) rfl rfl ?_
  obtain ⟨c1, h⟩ := p_gdE h
  refine g_getI fl_Mo_220 (Or.inl rfl) (dk_Mo_status 1 rfl) c1 ?_
  cases h
  exact g_ret rfl rfl (dk_Mo_status 2 rfl) (fun os => ⟨_, rfl, p_okh os⟩)
def m_Mo_toldMore : p_Me := (⟨"SortWorksModel", "toldMore", "(II)I"⟩, prog_13_method_96_code, 3, (some .int), 1, 23)
theorem mt_Mo_toldMore : p_Mt m_Mo_toldMore 2 := ⟨p_mem (p_tb8 (List.mem_of_getElem? (i := 203) rfl)) rfl, tw_1_12, by decide +kernel, by decide +kernel, by decide +kernel⟩
def dt_Mo_toldMore : List (Nat × Instr × Nat) := [(0, .iload_n 2, 1), (1, .tableswitch 137 8 15 #[47, 54, 60, 67, 90, 100, 109, 116], 47), (48, .aload_n 0, 1), (49, .getfield 66, 3), (52, .iload_n 1, 1), (53, .iaload, 1), (54, .ireturn, 1), (55, .aload_n 0, 1), (56, .iload_n 1, 1), (57, .invokevirtual 282, 3), (60, .ireturn, 1), (61, .aload_n 0, 1), (62, .getfield 41, 3), (65, .iload_n 1, 1), (66, .iaload, 1), (67, .ireturn, 1), (68, .aload_n 0, 1), (69, .getfield 16, 3), (72, .iload_n 1, 1), (73, .iaload, 1), (74, .invokestatic 252, 3), (77, .ifCond .eq 12, 3), (80, .aload_n 0, 1), (81, .getfield 28, 3), (84, .iload_n 1, 1), (85, .iaload, 1), (86, .goto 4, 3), (89, .iconst 0, 1), (90, .ireturn, 1), (91, .aload_n 0, 1), (92, .getfield 16, 3), (95, .iload_n 1, 1), (96, .iaload, 1), (97, .invokestatic 398, 3), (100, .ireturn, 1), (101, .aload_n 0, 1), (102, .getfield 38, 3), (105, .iload_n 1, 1), (106, .iaload, 1), (107, .iconst 1, 1), (108, .iadd, 1), (109, .ireturn, 1), (110, .aload_n 0, 1), (111, .getfield 48, 3), (114, .iload_n 1, 1), (115, .iaload, 1), (116, .ireturn, 1), (117, .aload_n 0, 1), (118, .getfield 22, 3), (121, .iload_n 1, 1), (122, .iaload, 1), (123, .ifCond .ge 8, 3), (126, .bipush (-9), 2), (128, .goto 9, 3), (131, .aload_n 0, 1), (132, .getfield 22, 3), (135, .iload_n 1, 1), (136, .iaload, 1), (137, .ireturn, 1), (138, .bipush (-2), 2), (140, .ireturn, 1)]
theorem dk_Mo_toldMore (i : Nat) {pc : Nat} {ins : Instr} {len : Nat} (h : dt_Mo_toldMore[i]? = some (pc, ins, len)) : decode m_Mo_toldMore.2.1 pc = .ok (ins, len) := p_dk (b := m_Mo_toldMore.2.1) (t := dt_Mo_toldMore) (by decide +kernel) i h
def F_Mo_toldMore (v0 : Nat) (v1 : Int) (v2 : Int) (s0 : p_Hp) : Option (Int × p_Hp) :=
  if v2 = 8 then
    p_gd (p_is s0 v0 11) <|
    p_gd (p_is s0 (p_R s0 v0 21) 100) <|
    p_gd ((0 : Int) ≤ v1 ∧ v1 < (p_L s0 (p_R s0 v0 21) : Int)) <|
    some ((p_Z s0 (p_R s0 v0 21) (v1 : Int).toNat), s0)
  else if v2 = 9 then
    p_gd (p_is s0 v0 11) <|
    p_bd (F_Mo_loadOf v0 v1 s0) fun r11 s7 =>
    some (r11, s7)
  else if v2 = 10 then
    p_gd (p_is s0 v0 11) <|
    p_gd (p_is s0 (p_R s0 v0 13) 100) <|
    p_gd ((0 : Int) ≤ v1 ∧ v1 < (p_L s0 (p_R s0 v0 13) : Int)) <|
    some ((p_Z s0 (p_R s0 v0 13) (v1 : Int).toNat), s0)
  else if v2 = 11 then
    p_gd (p_is s0 v0 11) <|
    p_gd (p_is s0 (p_R s0 v0 5) 100) <|
    p_gd ((0 : Int) ≤ v1 ∧ v1 < (p_L s0 (p_R s0 v0 5) : Int)) <|
    p_bd (F_Mo_isTaker (p_Z s0 (p_R s0 v0 5) (v1 : Int).toNat) s0) fun r24 s20 =>
    if r24 = 0 then
      some (0, s20)
    else
      p_gd (p_is s20 (p_R s20 v0 9) 100) <|
      p_gd ((0 : Int) ≤ v1 ∧ v1 < (p_L s20 (p_R s20 v0 9) : Int)) <|
      some ((p_Z s20 (p_R s20 v0 9) (v1 : Int).toNat), s20)
  else if v2 = 12 then
    p_gd (p_is s0 v0 11) <|
    p_gd (p_is s0 (p_R s0 v0 5) 100) <|
    p_gd ((0 : Int) ≤ v1 ∧ v1 < (p_L s0 (p_R s0 v0 5) : Int)) <|
    p_bd (F_Mo_paceOf (p_Z s0 (p_R s0 v0 5) (v1 : Int).toNat) s0) fun r36 s32 =>
    some (r36, s32)
  else if v2 = 13 then
    p_gd (p_is s0 v0 11) <|
    p_gd (p_is s0 (p_R s0 v0 12) 100) <|
    p_gd ((0 : Int) ≤ v1 ∧ v1 < (p_L s0 (p_R s0 v0 12) : Int)) <|
    some ((p_w ((p_Z s0 (p_R s0 v0 12) (v1 : Int).toNat) + 1)), s0)
  else if v2 = 14 then
    p_gd (p_is s0 v0 11) <|
    p_gd (p_is s0 (p_R s0 v0 15) 100) <|
    p_gd ((0 : Int) ≤ v1 ∧ v1 < (p_L s0 (p_R s0 v0 15) : Int)) <|
    some ((p_Z s0 (p_R s0 v0 15) (v1 : Int).toNat), s0)
  else if v2 = 15 then
    p_gd (p_is s0 v0 11) <|
    p_gd (p_is s0 (p_R s0 v0 7) 100) <|
    p_gd ((0 : Int) ≤ v1 ∧ v1 < (p_L s0 (p_R s0 v0 7) : Int)) <|
    if 0 ≤ (p_Z s0 (p_R s0 v0 7) (v1 : Int).toNat) then
      p_gd ((0 : Int) ≤ v1 ∧ v1 < (p_L s0 (p_R s0 v0 7) : Int)) <|
      some ((p_Z s0 (p_R s0 v0 7) (v1 : Int).toNat), s0)
    else
      some ((-9), s0)
  else 
  some ((-2), s0)
set_option maxRecDepth 100000 in
set_option maxHeartbeats 4000000 in
theorem tF_Mo_toldMore (K : p_K) (l : Launch) (v0 : Nat) (v1 : Int) (v2 : Int) (s0 : p_Hp) (r : (Int × p_Hp)) (h : F_Mo_toldMore v0 v1 v2 s0 = some r) : p_Ct K l m_Mo_toldMore [p_r v0, p_i v1, p_i v2] s0 (some (p_i r.1), r.2) := by
  refine p_Ct.of (by decide +kernel) (Nat.le_of_ble_eq_true rfl) ?_
  unfold F_Mo_toldMore at h
  show p_Go K l m_Mo_toldMore 0 [(0, p_r v0), (1, p_i v1), (2, p_i v2)] [] s0 _
  refine g_iload_n (i := 2) (j := 2) (dk_Mo_toldMore 0 rfl) rfl rfl ?_
  rcases p_iteE h with ⟨b1, h⟩ | ⟨b1, h⟩
  · refine g_tableIn 48 (dk_Mo_toldMore 1 rfl) (by omega) (by omega) (by rw [b1]; rfl) (by decide) ?_
    refine g_aload_n (i := 0) (j := 0) (dk_Mo_toldMore 2 rfl) rfl rfl ?_
    obtain ⟨c2, h⟩ := p_gdE h
    refine g_getR fl_Mo_66 (Or.inr ⟨_, rfl⟩) (dk_Mo_toldMore 3 rfl) c2 ?_
    refine g_iload_n (i := 1) (j := 1) (dk_Mo_toldMore 4 rfl) rfl rfl ?_
    obtain ⟨c3, h⟩ := p_gdE h
    obtain ⟨c4, h⟩ := p_gdE h
    refine g_iaload (dk_Mo_toldMore 5 rfl) c3 c4.1 c4.2 ?_
    cases h
    exact g_ret rfl rfl (dk_Mo_toldMore 6 rfl) (fun os => ⟨_, rfl, p_okh os⟩)
  rcases p_iteE h with ⟨b5, h⟩ | ⟨b5, h⟩
  · refine g_tableIn 55 (dk_Mo_toldMore 1 rfl) (by omega) (by omega) (by rw [b5]; rfl) (by decide) ?_
    refine g_aload_n (i := 0) (j := 0) (dk_Mo_toldMore 7 rfl) rfl rfl ?_
    refine g_iload_n (i := 1) (j := 1) (dk_Mo_toldMore 8 rfl) rfl rfl ?_
    obtain ⟨c6, h⟩ := p_gdE h
    obtain ⟨r11, s7, q8, h⟩ := p_bdE h
    have t9 := tF_Mo_loadOf K l v0 v1 s0 _ q8
    refine g_callV (a := v0) (ci := 11) (q0 := (RX11, TX11, 90)) (As := [p_i v1]) (rest := []) [p_i r11] mt_Mo_loadOf rfl rfl tw_7_136 ts_50 tw_7_134 ⟨Nat.le_of_ble_eq_true rfl, Nat.le_of_ble_eq_true rfl⟩ rfl (Nat.le_of_ble_eq_true rfl) (dk_Mo_toldMore 9 rfl) rfl c6 rfl t9 ?_
    have hs10 : p_x s0 s7 := t9.1
    show p_Go K l m_Mo_toldMore 60 [(0, p_r v0), (1, p_i v1), (2, p_i v2)] [p_i r11] s7 _
    cases h
    exact g_ret rfl rfl (dk_Mo_toldMore 10 rfl) (fun os => ⟨_, rfl, p_okh os⟩)
  rcases p_iteE h with ⟨b12, h⟩ | ⟨b12, h⟩
  · refine g_tableIn 61 (dk_Mo_toldMore 1 rfl) (by omega) (by omega) (by rw [b12]; rfl) (by decide) ?_
    refine g_aload_n (i := 0) (j := 0) (dk_Mo_toldMore 11 rfl) rfl rfl ?_
    obtain ⟨c13, h⟩ := p_gdE h
    refine g_getR fl_Mo_41 (Or.inr ⟨_, rfl⟩) (dk_Mo_toldMore 12 rfl) c13 ?_
    refine g_iload_n (i := 1) (j := 1) (dk_Mo_toldMore 13 rfl) rfl rfl ?_
    obtain ⟨c14, h⟩ := p_gdE h
    obtain ⟨c15, h⟩ := p_gdE h
    refine g_iaload (dk_Mo_toldMore 14 rfl) c14 c15.1 c15.2 ?_
    cases h
    exact g_ret rfl rfl (dk_Mo_toldMore 15 rfl) (fun os => ⟨_, rfl, p_okh os⟩)
  rcases p_iteE h with ⟨b16, h⟩ | ⟨b16, h⟩
  · refine g_tableIn 68 (dk_Mo_toldMore 1 rfl) (by omega) (by omega) (by rw [b16]; rfl) (by decide) ?_
    refine g_aload_n (i := 0) (j := 0) (dk_Mo_toldMore 16 rfl) rfl rfl ?_
    obtain ⟨c17, h⟩ := p_gdE h
    refine g_getR fl_Mo_16 (Or.inr ⟨_, rfl⟩) (dk_Mo_toldMore 17 rfl) c17 ?_
    refine g_iload_n (i := 1) (j := 1) (dk_Mo_toldMore 18 rfl) rfl rfl ?_
    obtain ⟨c18, h⟩ := p_gdE h
    obtain ⟨c19, h⟩ := p_gdE h
    refine g_iaload (dk_Mo_toldMore 19 rfl) c18 c19.1 c19.2 ?_
    obtain ⟨r24, s20, q21, h⟩ := p_bdE h
    have t22 := tF_Mo_isTaker K l (p_Z s0 (p_R s0 v0 5) (v1 : Int).toNat) s0 _ q21
    refine g_callS (av := [p_i (p_Z s0 (p_R s0 v0 5) (v1 : Int).toNat)]) (rest := []) [p_i r24] mt_Mo_isTaker tw_7_79 tw_7_78 ⟨Nat.le_of_ble_eq_true rfl, Nat.le_of_ble_eq_true rfl⟩ rfl (Nat.le_of_ble_eq_true rfl) (dk_Mo_toldMore 20 rfl) rfl rfl t22 ?_
    have hs23 : p_x s0 s20 := t22.1
    show p_Go K l m_Mo_toldMore 77 [(0, p_r v0), (1, p_i v1), (2, p_i v2)] [p_i r24] s20 _
    refine g_if_eq 89 (dk_Mo_toldMore 21 rfl) (by decide) (fun b25 => ?_) (fun b25 => ?_)
    · have h := p_ifT b25 h
      refine g_iconst (dk_Mo_toldMore 27 rfl) (by decide) ?_
      cases h
      exact g_ret rfl rfl (dk_Mo_toldMore 28 rfl) (fun os => ⟨_, rfl, p_okh os⟩)
    · have h := p_ifF b25 h
      refine g_aload_n (i := 0) (j := 0) (dk_Mo_toldMore 22 rfl) rfl rfl ?_
      refine g_getR fl_Mo_28 (Or.inr ⟨_, rfl⟩) (dk_Mo_toldMore 23 rfl) (c17.up hs23) ?_
      refine g_iload_n (i := 1) (j := 1) (dk_Mo_toldMore 24 rfl) rfl rfl ?_
      obtain ⟨c26, h⟩ := p_gdE h
      obtain ⟨c27, h⟩ := p_gdE h
      refine g_iaload (dk_Mo_toldMore 25 rfl) c26 c27.1 c27.2 ?_
      refine g_goto 90 (dk_Mo_toldMore 26 rfl) (by decide) ?_
      cases h
      exact g_ret rfl rfl (dk_Mo_toldMore 28 rfl) (fun os => ⟨_, rfl, p_okh os⟩)
  rcases p_iteE h with ⟨b28, h⟩ | ⟨b28, h⟩
  · refine g_tableIn 91 (dk_Mo_toldMore 1 rfl) (by omega) (by omega) (by rw [b28]; rfl) (by decide) ?_
    refine g_aload_n (i := 0) (j := 0) (dk_Mo_toldMore 29 rfl) rfl rfl ?_
    obtain ⟨c29, h⟩ := p_gdE h
    refine g_getR fl_Mo_16 (Or.inr ⟨_, rfl⟩) (dk_Mo_toldMore 30 rfl) c29 ?_
    refine g_iload_n (i := 1) (j := 1) (dk_Mo_toldMore 31 rfl) rfl rfl ?_
    obtain ⟨c30, h⟩ := p_gdE h
    obtain ⟨c31, h⟩ := p_gdE h
    refine g_iaload (dk_Mo_toldMore 32 rfl) c30 c31.1 c31.2 ?_
    obtain ⟨r36, s32, q33, h⟩ := p_bdE h
    have t34 := tF_Mo_paceOf K l (p_Z s0 (p_R s0 v0 5) (v1 : Int).toNat) s0 _ q33
    refine g_callS (av := [p_i (p_Z s0 (p_R s0 v0 5) (v1 : Int).toNat)]) (rest := []) [p_i r36] mt_Mo_paceOf tw_8_100 tw_8_99 ⟨Nat.le_of_ble_eq_true rfl, Nat.le_of_ble_eq_true rfl⟩ rfl (Nat.le_of_ble_eq_true rfl) (dk_Mo_toldMore 33 rfl) rfl rfl t34 ?_
    have hs35 : p_x s0 s32 := t34.1
    show p_Go K l m_Mo_toldMore 100 [(0, p_r v0), (1, p_i v1), (2, p_i v2)] [p_i r36] s32 _
    cases h
    exact g_ret rfl rfl (dk_Mo_toldMore 34 rfl) (fun os => ⟨_, rfl, p_okh os⟩)
  rcases p_iteE h with ⟨b37, h⟩ | ⟨b37, h⟩
  · refine g_tableIn 101 (dk_Mo_toldMore 1 rfl) (by omega) (by omega) (by rw [b37]; rfl) (by decide) ?_
    refine g_aload_n (i := 0) (j := 0) (dk_Mo_toldMore 35 rfl) rfl rfl ?_
    obtain ⟨c38, h⟩ := p_gdE h
    refine g_getR fl_Mo_38 (Or.inr ⟨_, rfl⟩) (dk_Mo_toldMore 36 rfl) c38 ?_
    refine g_iload_n (i := 1) (j := 1) (dk_Mo_toldMore 37 rfl) rfl rfl ?_
    obtain ⟨c39, h⟩ := p_gdE h
    obtain ⟨c40, h⟩ := p_gdE h
    refine g_iaload (dk_Mo_toldMore 38 rfl) c39 c40.1 c40.2 ?_
    refine g_iconst (dk_Mo_toldMore 39 rfl) (by decide) ?_
    refine g_iadd (dk_Mo_toldMore 40 rfl) ?_
    cases h
    exact g_ret rfl rfl (dk_Mo_toldMore 41 rfl) (fun os => ⟨_, rfl, p_okh os⟩)
  rcases p_iteE h with ⟨b41, h⟩ | ⟨b41, h⟩
  · refine g_tableIn 110 (dk_Mo_toldMore 1 rfl) (by omega) (by omega) (by rw [b41]; rfl) (by decide) ?_
    refine g_aload_n (i := 0) (j := 0) (dk_Mo_toldMore 42 rfl) rfl rfl ?_
    obtain ⟨c42, h⟩ := p_gdE h
    refine g_getR fl_Mo_48 (Or.inr ⟨_, rfl⟩) (dk_Mo_toldMore 43 rfl) c42 ?_
    refine g_iload_n (i := 1) (j := 1) (dk_Mo_toldMore 44 rfl) rfl rfl ?_
    obtain ⟨c43, h⟩ := p_gdE h
    obtain ⟨c44, h⟩ := p_gdE h
    refine g_iaload (dk_Mo_toldMore 45 rfl) c43 c44.1 c44.2 ?_
    cases h
    exact g_ret rfl rfl (dk_Mo_toldMore 46 rfl) (fun os => ⟨_, rfl, p_okh os⟩)
  rcases p_iteE h with ⟨b45, h⟩ | ⟨b45, h⟩
  · refine g_tableIn 117 (dk_Mo_toldMore 1 rfl) (by omega) (by omega) (by rw [b45]; rfl) (by decide) ?_
    refine g_aload_n (i := 0) (j := 0) (dk_Mo_toldMore 47 rfl) rfl rfl ?_
    obtain ⟨c46, h⟩ := p_gdE h
    refine g_getR fl_Mo_22 (Or.inr ⟨_, rfl⟩) (dk_Mo_toldMore 48 rfl) c46 ?_
    refine g_iload_n (i := 1) (j := 1) (dk_Mo_toldMore 49 rfl) rfl rfl ?_
    obtain ⟨c47, h⟩ := p_gdE h
    obtain ⟨c48, h⟩ := p_gdE h
    refine g_iaload (dk_Mo_toldMore 50 rfl) c47 c48.1 c48.2 ?_
    refine g_if_ge 131 (dk_Mo_toldMore 51 rfl) (by decide) (fun b49 => ?_) (fun b49 => ?_)
    · have h := p_ifT b49 h
      refine g_aload_n (i := 0) (j := 0) (dk_Mo_toldMore 54 rfl) rfl rfl ?_
      refine g_getR fl_Mo_22 (Or.inr ⟨_, rfl⟩) (dk_Mo_toldMore 55 rfl) c46 ?_
      refine g_iload_n (i := 1) (j := 1) (dk_Mo_toldMore 56 rfl) rfl rfl ?_
      obtain ⟨c50, h⟩ := p_gdE h
      refine g_iaload (dk_Mo_toldMore 57 rfl) c47 c50.1 c50.2 ?_
      cases h
      exact g_ret rfl rfl (dk_Mo_toldMore 58 rfl) (fun os => ⟨_, rfl, p_okh os⟩)
    · have h := p_ifF b49 h
      refine g_bipush (dk_Mo_toldMore 52 rfl) (by decide +kernel) (by decide) ?_
      refine g_goto 137 (dk_Mo_toldMore 53 rfl) (by decide) ?_
      cases h
      exact g_ret rfl rfl (dk_Mo_toldMore 58 rfl) (fun os => ⟨_, rfl, p_okh os⟩)
  refine g_tableOut 138 (dk_Mo_toldMore 1 rfl) (by omega) (by decide) ?_
  refine g_bipush (dk_Mo_toldMore 59 rfl) (by decide +kernel) (by decide) ?_
  cases h
  exact g_ret rfl rfl (dk_Mo_toldMore 60 rfl) (fun os => ⟨_, rfl, p_okh os⟩)
def m_Mo_told : p_Me := (⟨"SortWorksModel", "told", "(II)I"⟩, prog_13_method_95_code, 4, (some .int), 2, 46)
theorem mt_Mo_told : p_Mt m_Mo_told 2 := ⟨p_mem (p_tb8 (List.mem_of_getElem? (i := 199) rfl)) rfl, tw_1_12, by decide +kernel, by decide +kernel, by decide +kernel⟩
def dt_Mo_told : List (Nat × Instr × Nat) := [(0, .aload_n 0, 1), (1, .iload_n 1, 1), (2, .invokevirtual 267, 3), (5, .ifCond .eq 5, 3), (8, .iconst (-1), 1), (9, .ireturn, 1), (10, .aload_n 0, 1), (11, .iload_n 1, 1), (12, .invokevirtual 257, 3), (15, .istore_n 3, 1), (16, .iload_n 2, 1), (17, .tableswitch 131 0 7 #[47, 54, 61, 96, 103, 110, 117, 124], 47), (64, .aload_n 0, 1), (65, .getfield 16, 3), (68, .iload_n 3, 1), (69, .iaload, 1), (70, .ireturn, 1), (71, .aload_n 0, 1), (72, .getfield 19, 3), (75, .iload_n 3, 1), (76, .iaload, 1), (77, .ireturn, 1), (78, .aload_n 0, 1), (79, .getfield 16, 3), (82, .iload_n 3, 1), (83, .iaload, 1), (84, .bipush 9, 2), (86, .if_icmp .ne 20, 3), (89, .aload_n 0, 1), (90, .getfield 44, 3), (93, .iload_n 3, 1), (94, .baload, 1), (95, .ifCond .eq 7, 3), (98, .iconst 1, 1), (99, .goto 13, 3), (102, .iconst 0, 1), (103, .goto 9, 3), (106, .aload_n 0, 1), (107, .getfield 31, 3), (110, .iload_n 3, 1), (111, .iaload, 1), (112, .ireturn, 1), (113, .aload_n 0, 1), (114, .getfield 51, 3), (117, .iload_n 3, 1), (118, .iaload, 1), (119, .ireturn, 1), (120, .aload_n 0, 1), (121, .getfield 54, 3), (124, .iload_n 3, 1), (125, .iaload, 1), (126, .ireturn, 1), (127, .aload_n 0, 1), (128, .getfield 57, 3), (131, .iload_n 3, 1), (132, .iaload, 1), (133, .ireturn, 1), (134, .aload_n 0, 1), (135, .getfield 60, 3), (138, .iload_n 3, 1), (139, .iaload, 1), (140, .ireturn, 1), (141, .aload_n 0, 1), (142, .getfield 63, 3), (145, .iload_n 3, 1), (146, .iaload, 1), (147, .ireturn, 1), (148, .aload_n 0, 1), (149, .iload_n 3, 1), (150, .iload_n 2, 1), (151, .invokevirtual 517, 3), (154, .ireturn, 1)]
theorem dk_Mo_told (i : Nat) {pc : Nat} {ins : Instr} {len : Nat} (h : dt_Mo_told[i]? = some (pc, ins, len)) : decode m_Mo_told.2.1 pc = .ok (ins, len) := p_dk (b := m_Mo_told.2.1) (t := dt_Mo_told) (by decide +kernel) i h
def F_Mo_told (v0 : Nat) (v1 : Int) (v2 : Int) (s0 : p_Hp) : Option (Int × p_Hp) :=
  p_gd (p_is s0 v0 11) <|
  p_bd (F_Mo_noGear v0 v1 s0) fun r6 s2 =>
  if r6 = 0 then
    p_bd (F_Mo_g v0 v1 s2) fun r12 s8 =>
    if v2 = 0 then
      p_gd (p_is s8 (p_R s8 v0 5) 100) <|
      p_gd ((0 : Int) ≤ r12 ∧ r12 < (p_L s8 (p_R s8 v0 5) : Int)) <|
      some ((p_Z s8 (p_R s8 v0 5) (r12 : Int).toNat), s8)
    else if v2 = 1 then
      p_gd (p_is s8 (p_R s8 v0 6) 100) <|
      p_gd ((0 : Int) ≤ r12 ∧ r12 < (p_L s8 (p_R s8 v0 6) : Int)) <|
      some ((p_Z s8 (p_R s8 v0 6) (r12 : Int).toNat), s8)
    else if v2 = 2 then
      p_gd (p_is s8 (p_R s8 v0 5) 100) <|
      p_gd ((0 : Int) ≤ r12 ∧ r12 < (p_L s8 (p_R s8 v0 5) : Int)) <|
      if (p_Z s8 (p_R s8 v0 5) (r12 : Int).toNat) ≠ 9 then
        p_gd (p_is s8 (p_R s8 v0 10) 100) <|
        p_gd ((0 : Int) ≤ r12 ∧ r12 < (p_L s8 (p_R s8 v0 10) : Int)) <|
        some ((p_Z s8 (p_R s8 v0 10) (r12 : Int).toNat), s8)
      else
        p_gd (p_is s8 (p_R s8 v0 14) 102) <|
        p_gd ((0 : Int) ≤ r12 ∧ r12 < (p_L s8 (p_R s8 v0 14) : Int)) <|
        if (p_Z s8 (p_R s8 v0 14) (r12 : Int).toNat) = 0 then
          some (0, s8)
        else
          some (1, s8)
    else if v2 = 3 then
      p_gd (p_is s8 (p_R s8 v0 16) 100) <|
      p_gd ((0 : Int) ≤ r12 ∧ r12 < (p_L s8 (p_R s8 v0 16) : Int)) <|
      some ((p_Z s8 (p_R s8 v0 16) (r12 : Int).toNat), s8)
    else if v2 = 4 then
      p_gd (p_is s8 (p_R s8 v0 17) 100) <|
      p_gd ((0 : Int) ≤ r12 ∧ r12 < (p_L s8 (p_R s8 v0 17) : Int)) <|
      some ((p_Z s8 (p_R s8 v0 17) (r12 : Int).toNat), s8)
    else if v2 = 5 then
      p_gd (p_is s8 (p_R s8 v0 18) 100) <|
      p_gd ((0 : Int) ≤ r12 ∧ r12 < (p_L s8 (p_R s8 v0 18) : Int)) <|
      some ((p_Z s8 (p_R s8 v0 18) (r12 : Int).toNat), s8)
    else if v2 = 6 then
      p_gd (p_is s8 (p_R s8 v0 19) 100) <|
      p_gd ((0 : Int) ≤ r12 ∧ r12 < (p_L s8 (p_R s8 v0 19) : Int)) <|
      some ((p_Z s8 (p_R s8 v0 19) (r12 : Int).toNat), s8)
    else if v2 = 7 then
      p_gd (p_is s8 (p_R s8 v0 20) 100) <|
      p_gd ((0 : Int) ≤ r12 ∧ r12 < (p_L s8 (p_R s8 v0 20) : Int)) <|
      some ((p_Z s8 (p_R s8 v0 20) (r12 : Int).toNat), s8)
    else 
    p_bd (F_Mo_toldMore v0 r12 v2 s8) fun r47 s43 =>
    some (r47, s43)
  else
    some ((-1), s2)
set_option maxRecDepth 100000 in
set_option maxHeartbeats 4000000 in
theorem tF_Mo_told (K : p_K) (l : Launch) (v0 : Nat) (v1 : Int) (v2 : Int) (s0 : p_Hp) (r : (Int × p_Hp)) (h : F_Mo_told v0 v1 v2 s0 = some r) : p_Ct K l m_Mo_told [p_r v0, p_i v1, p_i v2] s0 (some (p_i r.1), r.2) := by
  refine p_Ct.of (by decide +kernel) (Nat.le_of_ble_eq_true rfl) ?_
  unfold F_Mo_told at h
  show p_Go K l m_Mo_told 0 [(0, p_r v0), (1, p_i v1), (2, p_i v2)] [] s0 _
  refine g_aload_n (i := 0) (j := 0) (dk_Mo_told 0 rfl) rfl rfl ?_
  refine g_iload_n (i := 1) (j := 1) (dk_Mo_told 1 rfl) rfl rfl ?_
  obtain ⟨c1, h⟩ := p_gdE h
  obtain ⟨r6, s2, q3, h⟩ := p_bdE h
  have t4 := tF_Mo_noGear K l v0 v1 s0 _ q3
  refine g_callV (a := v0) (ci := 11) (q0 := (RX11, TX11, 90)) (As := [p_i v1]) (rest := []) [p_i r6] mt_Mo_noGear rfl rfl tw_7_106 ts_48 tw_7_104 ⟨Nat.le_of_ble_eq_true rfl, Nat.le_of_ble_eq_true rfl⟩ rfl (Nat.le_of_ble_eq_true rfl) (dk_Mo_told 2 rfl) rfl c1 rfl t4 ?_
  have hs5 : p_x s0 s2 := t4.1
  show p_Go K l m_Mo_told 5 [(0, p_r v0), (1, p_i v1), (2, p_i v2)] [p_i r6] s2 _
  refine g_if_eq 10 (dk_Mo_told 3 rfl) (by decide) (fun b7 => ?_) (fun b7 => ?_)
  · have h := p_ifT b7 h
    refine g_aload_n (i := 0) (j := 0) (dk_Mo_told 6 rfl) rfl rfl ?_
    refine g_iload_n (i := 1) (j := 1) (dk_Mo_told 7 rfl) rfl rfl ?_
    obtain ⟨r12, s8, q9, h⟩ := p_bdE h
    have t10 := tF_Mo_g K l v0 v1 s2 _ q9
    refine g_callV (a := v0) (ci := 11) (q0 := (RX11, TX11, 90)) (As := [p_i v1]) (rest := []) [p_i r12] mt_Mo_g rfl rfl tw_7_84 ts_45 tw_7_82 ⟨Nat.le_of_ble_eq_true rfl, Nat.le_of_ble_eq_true rfl⟩ rfl (Nat.le_of_ble_eq_true rfl) (dk_Mo_told 8 rfl) rfl (c1.up hs5) rfl t10 ?_
    have hs11 : p_x s2 s8 := t10.1
    show p_Go K l m_Mo_told 15 [(0, p_r v0), (1, p_i v1), (2, p_i v2)] [p_i r12] s8 _
    refine g_istore_n (i := 3) [(3, p_i r12), (0, p_r v0), (1, p_i v1), (2, p_i v2)] (dk_Mo_told 9 rfl) rfl (by decide) rfl ?_
    refine g_iload_n (i := 2) (j := 3) (dk_Mo_told 10 rfl) rfl rfl ?_
    rcases p_iteE h with ⟨b13, h⟩ | ⟨b13, h⟩
    · refine g_tableIn 64 (dk_Mo_told 11 rfl) (by omega) (by omega) (by rw [b13]; rfl) (by decide) ?_
      refine g_aload_n (i := 0) (j := 1) (dk_Mo_told 12 rfl) rfl rfl ?_
      refine g_getR fl_Mo_16 (Or.inr ⟨_, rfl⟩) (dk_Mo_told 13 rfl) (c1.up (hs5.trans hs11)) ?_
      refine g_iload_n (i := 3) (j := 0) (dk_Mo_told 14 rfl) rfl rfl ?_
      obtain ⟨c14, h⟩ := p_gdE h
      obtain ⟨c15, h⟩ := p_gdE h
      refine g_iaload (dk_Mo_told 15 rfl) c14 c15.1 c15.2 ?_
      cases h
      exact g_ret rfl rfl (dk_Mo_told 16 rfl) (fun os => ⟨_, rfl, p_okh os⟩)
    rcases p_iteE h with ⟨b16, h⟩ | ⟨b16, h⟩
    · refine g_tableIn 71 (dk_Mo_told 11 rfl) (by omega) (by omega) (by rw [b16]; rfl) (by decide) ?_
      refine g_aload_n (i := 0) (j := 1) (dk_Mo_told 17 rfl) rfl rfl ?_
      refine g_getR fl_Mo_19 (Or.inr ⟨_, rfl⟩) (dk_Mo_told 18 rfl) (c1.up (hs5.trans hs11)) ?_
      refine g_iload_n (i := 3) (j := 0) (dk_Mo_told 19 rfl) rfl rfl ?_
      obtain ⟨c17, h⟩ := p_gdE h
      obtain ⟨c18, h⟩ := p_gdE h
      refine g_iaload (dk_Mo_told 20 rfl) c17 c18.1 c18.2 ?_
      cases h
      exact g_ret rfl rfl (dk_Mo_told 21 rfl) (fun os => ⟨_, rfl, p_okh os⟩)
    rcases p_iteE h with ⟨b19, h⟩ | ⟨b19, h⟩
    · refine g_tableIn 78 (dk_Mo_told 11 rfl) (by omega) (by omega) (by rw [b19]; rfl) (by decide) ?_
      refine g_aload_n (i := 0) (j := 1) (dk_Mo_told 22 rfl) rfl rfl ?_
      refine g_getR fl_Mo_16 (Or.inr ⟨_, rfl⟩) (dk_Mo_told 23 rfl) (c1.up (hs5.trans hs11)) ?_
      refine g_iload_n (i := 3) (j := 0) (dk_Mo_told 24 rfl) rfl rfl ?_
      obtain ⟨c20, h⟩ := p_gdE h
      obtain ⟨c21, h⟩ := p_gdE h
      refine g_iaload (dk_Mo_told 25 rfl) c20 c21.1 c21.2 ?_
      refine g_bipush (dk_Mo_told 26 rfl) (by decide +kernel) (by decide) ?_
      refine g_icmp_ne 106 (dk_Mo_told 27 rfl) (by decide) (fun b22 => ?_) (fun b22 => ?_)
      · have h := p_ifT b22 h
        refine g_aload_n (i := 0) (j := 1) (dk_Mo_told 37 rfl) rfl rfl ?_
        refine g_getR fl_Mo_31 (Or.inr ⟨_, rfl⟩) (dk_Mo_told 38 rfl) (c1.up (hs5.trans hs11)) ?_
        refine g_iload_n (i := 3) (j := 0) (dk_Mo_told 39 rfl) rfl rfl ?_
        obtain ⟨c23, h⟩ := p_gdE h
        obtain ⟨c24, h⟩ := p_gdE h
        refine g_iaload (dk_Mo_told 40 rfl) c23 c24.1 c24.2 ?_
        cases h
        exact g_ret rfl rfl (dk_Mo_told 41 rfl) (fun os => ⟨_, rfl, p_okh os⟩)
      · have h := p_ifF b22 h
        refine g_aload_n (i := 0) (j := 1) (dk_Mo_told 28 rfl) rfl rfl ?_
        refine g_getR fl_Mo_44 (Or.inr ⟨_, rfl⟩) (dk_Mo_told 29 rfl) (c1.up (hs5.trans hs11)) ?_
        refine g_iload_n (i := 3) (j := 0) (dk_Mo_told 30 rfl) rfl rfl ?_
        obtain ⟨c25, h⟩ := p_gdE h
        obtain ⟨c26, h⟩ := p_gdE h
        refine g_baload (dk_Mo_told 31 rfl) c25 c26.1 c26.2 ?_
        refine g_if_eq 102 (dk_Mo_told 32 rfl) (by decide) (fun b27 => ?_) (fun b27 => ?_)
        · have h := p_ifT b27 h
          refine g_iconst (dk_Mo_told 35 rfl) (by decide) ?_
          refine g_goto 112 (dk_Mo_told 36 rfl) (by decide) ?_
          cases h
          exact g_ret rfl rfl (dk_Mo_told 41 rfl) (fun os => ⟨_, rfl, p_okh os⟩)
        · have h := p_ifF b27 h
          refine g_iconst (dk_Mo_told 33 rfl) (by decide) ?_
          refine g_goto 112 (dk_Mo_told 34 rfl) (by decide) ?_
          cases h
          exact g_ret rfl rfl (dk_Mo_told 41 rfl) (fun os => ⟨_, rfl, p_okh os⟩)
    rcases p_iteE h with ⟨b28, h⟩ | ⟨b28, h⟩
    · refine g_tableIn 113 (dk_Mo_told 11 rfl) (by omega) (by omega) (by rw [b28]; rfl) (by decide) ?_
      refine g_aload_n (i := 0) (j := 1) (dk_Mo_told 42 rfl) rfl rfl ?_
      refine g_getR fl_Mo_51 (Or.inr ⟨_, rfl⟩) (dk_Mo_told 43 rfl) (c1.up (hs5.trans hs11)) ?_
      refine g_iload_n (i := 3) (j := 0) (dk_Mo_told 44 rfl) rfl rfl ?_
      obtain ⟨c29, h⟩ := p_gdE h
      obtain ⟨c30, h⟩ := p_gdE h
      refine g_iaload (dk_Mo_told 45 rfl) c29 c30.1 c30.2 ?_
      cases h
      exact g_ret rfl rfl (dk_Mo_told 46 rfl) (fun os => ⟨_, rfl, p_okh os⟩)
    rcases p_iteE h with ⟨b31, h⟩ | ⟨b31, h⟩
    · refine g_tableIn 120 (dk_Mo_told 11 rfl) (by omega) (by omega) (by rw [b31]; rfl) (by decide) ?_
      refine g_aload_n (i := 0) (j := 1) (dk_Mo_told 47 rfl) rfl rfl ?_
      refine g_getR fl_Mo_54 (Or.inr ⟨_, rfl⟩) (dk_Mo_told 48 rfl) (c1.up (hs5.trans hs11)) ?_
      refine g_iload_n (i := 3) (j := 0) (dk_Mo_told 49 rfl) rfl rfl ?_
      obtain ⟨c32, h⟩ := p_gdE h
      obtain ⟨c33, h⟩ := p_gdE h
      refine g_iaload (dk_Mo_told 50 rfl) c32 c33.1 c33.2 ?_
      cases h
      exact g_ret rfl rfl (dk_Mo_told 51 rfl) (fun os => ⟨_, rfl, p_okh os⟩)
    rcases p_iteE h with ⟨b34, h⟩ | ⟨b34, h⟩
    · refine g_tableIn 127 (dk_Mo_told 11 rfl) (by omega) (by omega) (by rw [b34]; rfl) (by decide) ?_
      refine g_aload_n (i := 0) (j := 1) (dk_Mo_told 52 rfl) rfl rfl ?_
      refine g_getR fl_Mo_57 (Or.inr ⟨_, rfl⟩) (dk_Mo_told 53 rfl) (c1.up (hs5.trans hs11)) ?_
      refine g_iload_n (i := 3) (j := 0) (dk_Mo_told 54 rfl) rfl rfl ?_
      obtain ⟨c35, h⟩ := p_gdE h
      obtain ⟨c36, h⟩ := p_gdE h
      refine g_iaload (dk_Mo_told 55 rfl) c35 c36.1 c36.2 ?_
      cases h
      exact g_ret rfl rfl (dk_Mo_told 56 rfl) (fun os => ⟨_, rfl, p_okh os⟩)
    rcases p_iteE h with ⟨b37, h⟩ | ⟨b37, h⟩
    · refine g_tableIn 134 (dk_Mo_told 11 rfl) (by omega) (by omega) (by rw [b37]; rfl) (by decide) ?_
      refine g_aload_n (i := 0) (j := 1) (dk_Mo_told 57 rfl) rfl rfl ?_
      refine g_getR fl_Mo_60 (Or.inr ⟨_, rfl⟩) (dk_Mo_told 58 rfl) (c1.up (hs5.trans hs11)) ?_
      refine g_iload_n (i := 3) (j := 0) (dk_Mo_told 59 rfl) rfl rfl ?_
      obtain ⟨c38, h⟩ := p_gdE h
      obtain ⟨c39, h⟩ := p_gdE h
      refine g_iaload (dk_Mo_told 60 rfl) c38 c39.1 c39.2 ?_
      cases h
      exact g_ret rfl rfl (dk_Mo_told 61 rfl) (fun os => ⟨_, rfl, p_okh os⟩)
    rcases p_iteE h with ⟨b40, h⟩ | ⟨b40, h⟩
    · refine g_tableIn 141 (dk_Mo_told 11 rfl) (by omega) (by omega) (by rw [b40]; rfl) (by decide) ?_
      refine g_aload_n (i := 0) (j := 1) (dk_Mo_told 62 rfl) rfl rfl ?_
      refine g_getR fl_Mo_63 (Or.inr ⟨_, rfl⟩) (dk_Mo_told 63 rfl) (c1.up (hs5.trans hs11)) ?_
      refine g_iload_n (i := 3) (j := 0) (dk_Mo_told 64 rfl) rfl rfl ?_
      obtain ⟨c41, h⟩ := p_gdE h
      obtain ⟨c42, h⟩ := p_gdE h
      refine g_iaload (dk_Mo_told 65 rfl) c41 c42.1 c42.2 ?_
      cases h
      exact g_ret rfl rfl (dk_Mo_told 66 rfl) (fun os => ⟨_, rfl, p_okh os⟩)
    refine g_tableOut 148 (dk_Mo_told 11 rfl) (by omega) (by decide) ?_
    refine g_aload_n (i := 0) (j := 1) (dk_Mo_told 67 rfl) rfl rfl ?_
    refine g_iload_n (i := 3) (j := 0) (dk_Mo_told 68 rfl) rfl rfl ?_
    refine g_iload_n (i := 2) (j := 3) (dk_Mo_told 69 rfl) rfl rfl ?_
    obtain ⟨r47, s43, q44, h⟩ := p_bdE h
    have t45 := tF_Mo_toldMore K l v0 r12 v2 s8 _ q44
    refine g_callV (a := v0) (ci := 11) (q0 := (RX11, TX11, 90)) (As := [p_i r12, p_i v2]) (rest := []) [p_i r47] mt_Mo_toldMore rfl rfl tw_8_202 ts_100 tw_8_200 ⟨Nat.le_of_ble_eq_true rfl, Nat.le_of_ble_eq_true rfl⟩ rfl (Nat.le_of_ble_eq_true rfl) (dk_Mo_told 70 rfl) rfl (c1.up (hs5.trans hs11)) rfl t45 ?_
    have hs46 : p_x s8 s43 := t45.1
    show p_Go K l m_Mo_told 154 [(3, p_i r12), (0, p_r v0), (1, p_i v1), (2, p_i v2)] [p_i r47] s43 _
    cases h
    exact g_ret rfl rfl (dk_Mo_told 71 rfl) (fun os => ⟨_, rfl, p_okh os⟩)
  · have h := p_ifF b7 h
    refine g_iconst (dk_Mo_told 4 rfl) (by decide) ?_
    cases h
    exact g_ret rfl rfl (dk_Mo_told 5 rfl) (fun os => ⟨_, rfl, p_okh os⟩)
def m_Mo_slot : p_Me := (⟨"SortWorksModel", "slot", "(II)I"⟩, prog_13_method_97_code, 3, (some .int), 2, 46)
theorem mt_Mo_slot : p_Mt m_Mo_slot 2 := ⟨p_mem (p_tb8 (List.mem_of_getElem? (i := 207) rfl)) rfl, tw_1_12, by decide +kernel, by decide +kernel, by decide +kernel⟩
def dt_Mo_slot : List (Nat × Instr × Nat) := [(0, .aload_n 0, 1), (1, .iload_n 1, 1), (2, .invokevirtual 267, 3), (5, .ifCond .eq 7, 3), (8, .iconst (-1), 1), (9, .goto 45, 3), (12, .iload_n 2, 1), (13, .i2l, 1), (14, .lconst 0, 1), (15, .aload_n 0, 1), (16, .getfield 19, 3), (19, .aload_n 0, 1), (20, .iload_n 1, 1), (21, .invokevirtual 257, 3), (24, .iaload, 1), (25, .iconst 1, 1), (26, .isub, 1), (27, .i2l, 1), (28, .invokestatic 230, 3), (31, .ifCond .eq 8, 3), (34, .bipush (-2), 2), (36, .goto 18, 3), (39, .aload_n 0, 1), (40, .getfield 69, 3), (43, .bipush 8, 2), (45, .aload_n 0, 1), (46, .iload_n 1, 1), (47, .invokevirtual 257, 3), (50, .imul, 1), (51, .iload_n 2, 1), (52, .iadd, 1), (53, .iaload, 1), (54, .ireturn, 1)]
theorem dk_Mo_slot (i : Nat) {pc : Nat} {ins : Instr} {len : Nat} (h : dt_Mo_slot[i]? = some (pc, ins, len)) : decode m_Mo_slot.2.1 pc = .ok (ins, len) := p_dk (b := m_Mo_slot.2.1) (t := dt_Mo_slot) (by decide +kernel) i h
def F_Mo_slot (v0 : Nat) (v1 : Int) (v2 : Int) (s0 : p_Hp) : Option (Int × p_Hp) :=
  p_gd (p_is s0 v0 11) <|
  p_bd (F_Mo_noGear v0 v1 s0) fun r6 s2 =>
  if r6 = 0 then
    p_bd (F_Mo_g v0 v1 s2) fun r12 s8 =>
    p_gd (p_is s8 (p_R s2 v0 6) 100) <|
    p_gd ((0 : Int) ≤ r12 ∧ r12 < (p_L s8 (p_R s2 v0 6) : Int)) <|
    p_bd (F_Mo_beyond v2 0 (p_w ((p_Z s8 (p_R s2 v0 6) (r12 : Int).toNat) - 1)) s8) fun r19 s15 =>
    if r19 = 0 then
      p_bd (F_Mo_g v0 v1 s15) fun r25 s21 =>
      p_gd (p_is s21 (p_R s15 v0 22) 100) <|
      p_gd ((0 : Int) ≤ (p_w ((p_w (8 * r25)) + v2)) ∧ (p_w ((p_w (8 * r25)) + v2)) < (p_L s21 (p_R s15 v0 22) : Int)) <|
      some ((p_Z s21 (p_R s15 v0 22) ((p_w ((p_w (8 * r25)) + v2)) : Int).toNat), s21)
    else
      some ((-2), s15)
  else
    some ((-1), s2)
set_option maxRecDepth 100000 in
set_option maxHeartbeats 4000000 in
theorem tF_Mo_slot (K : p_K) (l : Launch) (v0 : Nat) (v1 : Int) (v2 : Int) (s0 : p_Hp) (r : (Int × p_Hp)) (h : F_Mo_slot v0 v1 v2 s0 = some r) : p_Ct K l m_Mo_slot [p_r v0, p_i v1, p_i v2] s0 (some (p_i r.1), r.2) := by
  refine p_Ct.of (by decide +kernel) (Nat.le_of_ble_eq_true rfl) ?_
  unfold F_Mo_slot at h
  show p_Go K l m_Mo_slot 0 [(0, p_r v0), (1, p_i v1), (2, p_i v2)] [] s0 _
  refine g_aload_n (i := 0) (j := 0) (dk_Mo_slot 0 rfl) rfl rfl ?_
  refine g_iload_n (i := 1) (j := 1) (dk_Mo_slot 1 rfl) rfl rfl ?_
  obtain ⟨c1, h⟩ := p_gdE h
  obtain ⟨r6, s2, q3, h⟩ := p_bdE h
  have t4 := tF_Mo_noGear K l v0 v1 s0 _ q3
  refine g_callV (a := v0) (ci := 11) (q0 := (RX11, TX11, 90)) (As := [p_i v1]) (rest := []) [p_i r6] mt_Mo_noGear rfl rfl tw_7_106 ts_48 tw_7_104 ⟨Nat.le_of_ble_eq_true rfl, Nat.le_of_ble_eq_true rfl⟩ rfl (Nat.le_of_ble_eq_true rfl) (dk_Mo_slot 2 rfl) rfl c1 rfl t4 ?_
  have hs5 : p_x s0 s2 := t4.1
  show p_Go K l m_Mo_slot 5 [(0, p_r v0), (1, p_i v1), (2, p_i v2)] [p_i r6] s2 _
  refine g_if_eq 12 (dk_Mo_slot 3 rfl) (by decide) (fun b7 => ?_) (fun b7 => ?_)
  · have h := p_ifT b7 h
    refine g_iload_n (i := 2) (j := 2) (dk_Mo_slot 6 rfl) rfl rfl ?_
    refine g_i2l (dk_Mo_slot 7 rfl) ?_
    refine g_lconst (x := 0) (dk_Mo_slot 8 rfl) rfl (by decide) ?_
    refine g_aload_n (i := 0) (j := 0) (dk_Mo_slot 9 rfl) rfl rfl ?_
    refine g_getR fl_Mo_19 (Or.inr ⟨_, rfl⟩) (dk_Mo_slot 10 rfl) (c1.up hs5) ?_
    refine g_aload_n (i := 0) (j := 0) (dk_Mo_slot 11 rfl) rfl rfl ?_
    refine g_iload_n (i := 1) (j := 1) (dk_Mo_slot 12 rfl) rfl rfl ?_
    obtain ⟨r12, s8, q9, h⟩ := p_bdE h
    have t10 := tF_Mo_g K l v0 v1 s2 _ q9
    refine g_callV (a := v0) (ci := 11) (q0 := (RX11, TX11, 90)) (As := [p_i v1]) (rest := [p_r (p_R s2 v0 6), p_j 0, p_j v2]) [p_i r12, p_r (p_R s2 v0 6), p_j 0, p_j v2] mt_Mo_g rfl rfl tw_7_84 ts_45 tw_7_82 ⟨Nat.le_of_ble_eq_true rfl, Nat.le_of_ble_eq_true rfl⟩ rfl (Nat.le_of_ble_eq_true rfl) (dk_Mo_slot 13 rfl) rfl (c1.up hs5) rfl t10 ?_
    have hs11 : p_x s2 s8 := t10.1
    show p_Go K l m_Mo_slot 24 [(0, p_r v0), (1, p_i v1), (2, p_i v2)] [p_i r12, p_r (p_R s2 v0 6), p_j 0, p_j v2] s8 _
    obtain ⟨c13, h⟩ := p_gdE h
    obtain ⟨c14, h⟩ := p_gdE h
    refine g_iaload (dk_Mo_slot 14 rfl) c13 c14.1 c14.2 ?_
    refine g_iconst (dk_Mo_slot 15 rfl) (by decide) ?_
    refine g_isub (dk_Mo_slot 16 rfl) ?_
    refine g_i2l (dk_Mo_slot 17 rfl) ?_
    obtain ⟨r19, s15, q16, h⟩ := p_bdE h
    have t17 := tF_Mo_beyond K l v2 0 (p_w ((p_Z s8 (p_R s2 v0 6) (r12 : Int).toNat) - 1)) s8 _ q16
    refine g_callS (av := [p_j v2, p_j 0, p_j (p_w ((p_Z s8 (p_R s2 v0 6) (r12 : Int).toNat) - 1))]) (rest := []) [p_i r19] mt_Mo_beyond tw_7_63 tw_7_62 ⟨Nat.le_of_ble_eq_true rfl, Nat.le_of_ble_eq_true rfl⟩ rfl (Nat.le_of_ble_eq_true rfl) (dk_Mo_slot 18 rfl) rfl rfl t17 ?_
    have hs18 : p_x s8 s15 := t17.1
    show p_Go K l m_Mo_slot 31 [(0, p_r v0), (1, p_i v1), (2, p_i v2)] [p_i r19] s15 _
    refine g_if_eq 39 (dk_Mo_slot 19 rfl) (by decide) (fun b20 => ?_) (fun b20 => ?_)
    · have h := p_ifT b20 h
      refine g_aload_n (i := 0) (j := 0) (dk_Mo_slot 22 rfl) rfl rfl ?_
      refine g_getR fl_Mo_69 (Or.inr ⟨_, rfl⟩) (dk_Mo_slot 23 rfl) (c1.up (hs5.trans (hs11.trans hs18))) ?_
      refine g_bipush (dk_Mo_slot 24 rfl) (by decide +kernel) (by decide) ?_
      refine g_aload_n (i := 0) (j := 0) (dk_Mo_slot 25 rfl) rfl rfl ?_
      refine g_iload_n (i := 1) (j := 1) (dk_Mo_slot 26 rfl) rfl rfl ?_
      obtain ⟨r25, s21, q22, h⟩ := p_bdE h
      have t23 := tF_Mo_g K l v0 v1 s15 _ q22
      refine g_callV (a := v0) (ci := 11) (q0 := (RX11, TX11, 90)) (As := [p_i v1]) (rest := [p_i 8, p_r (p_R s15 v0 22)]) [p_i r25, p_i 8, p_r (p_R s15 v0 22)] mt_Mo_g rfl rfl tw_7_84 ts_45 tw_7_82 ⟨Nat.le_of_ble_eq_true rfl, Nat.le_of_ble_eq_true rfl⟩ rfl (Nat.le_of_ble_eq_true rfl) (dk_Mo_slot 27 rfl) rfl (c1.up (hs5.trans (hs11.trans hs18))) rfl t23 ?_
      have hs24 : p_x s15 s21 := t23.1
      show p_Go K l m_Mo_slot 50 [(0, p_r v0), (1, p_i v1), (2, p_i v2)] [p_i r25, p_i 8, p_r (p_R s15 v0 22)] s21 _
      refine g_imul (dk_Mo_slot 28 rfl) ?_
      refine g_iload_n (i := 2) (j := 2) (dk_Mo_slot 29 rfl) rfl rfl ?_
      refine g_iadd (dk_Mo_slot 30 rfl) ?_
      obtain ⟨c26, h⟩ := p_gdE h
      obtain ⟨c27, h⟩ := p_gdE h
      refine g_iaload (dk_Mo_slot 31 rfl) c26 c27.1 c27.2 ?_
      cases h
      exact g_ret rfl rfl (dk_Mo_slot 32 rfl) (fun os => ⟨_, rfl, p_okh os⟩)
    · have h := p_ifF b20 h
      refine g_bipush (dk_Mo_slot 20 rfl) (by decide +kernel) (by decide) ?_
      refine g_goto 54 (dk_Mo_slot 21 rfl) (by decide) ?_
      cases h
      exact g_ret rfl rfl (dk_Mo_slot 32 rfl) (fun os => ⟨_, rfl, p_okh os⟩)
  · have h := p_ifF b7 h
    refine g_iconst (dk_Mo_slot 4 rfl) (by decide) ?_
    refine g_goto 54 (dk_Mo_slot 5 rfl) (by decide) ?_
    cases h
    exact g_ret rfl rfl (dk_Mo_slot 32 rfl) (fun os => ⟨_, rfl, p_okh os⟩)
def m_Mo_linkOf : p_Me := (⟨"SortWorksModel", "linkOf", "(II)I"⟩, prog_13_method_98_code, 3, (some .int), 2, 46)
theorem mt_Mo_linkOf : p_Mt m_Mo_linkOf 2 := ⟨p_mem (p_tb8 (List.mem_of_getElem? (i := 211) rfl)) rfl, tw_1_12, by decide +kernel, by decide +kernel, by decide +kernel⟩
def dt_Mo_linkOf : List (Nat × Instr × Nat) := [(0, .aload_n 0, 1), (1, .iload_n 1, 1), (2, .invokevirtual 267, 3), (5, .ifCond .eq 7, 3), (8, .iconst (-1), 1), (9, .goto 46, 3), (12, .iload_n 2, 1), (13, .i2l, 1), (14, .lconst 0, 1), (15, .aload_n 0, 1), (16, .getfield 22, 3), (19, .aload_n 0, 1), (20, .iload_n 1, 1), (21, .invokevirtual 257, 3), (24, .iaload, 1), (25, .iconst 1, 1), (26, .isub, 1), (27, .i2l, 1), (28, .invokestatic 230, 3), (31, .ifCond .eq 8, 3), (34, .bipush (-9), 2), (36, .goto 19, 3), (39, .aload_n 0, 1), (40, .getfield 25, 3), (43, .iconst 3, 1), (44, .aload_n 0, 1), (45, .iload_n 1, 1), (46, .invokevirtual 257, 3), (49, .imul, 1), (50, .iload_n 2, 1), (51, .iadd, 1), (52, .iaload, 1), (53, .iconst 1, 1), (54, .iadd, 1), (55, .ireturn, 1)]
theorem dk_Mo_linkOf (i : Nat) {pc : Nat} {ins : Instr} {len : Nat} (h : dt_Mo_linkOf[i]? = some (pc, ins, len)) : decode m_Mo_linkOf.2.1 pc = .ok (ins, len) := p_dk (b := m_Mo_linkOf.2.1) (t := dt_Mo_linkOf) (by decide +kernel) i h
def F_Mo_linkOf (v0 : Nat) (v1 : Int) (v2 : Int) (s0 : p_Hp) : Option (Int × p_Hp) :=
  p_gd (p_is s0 v0 11) <|
  p_bd (F_Mo_noGear v0 v1 s0) fun r6 s2 =>
  if r6 = 0 then
    p_bd (F_Mo_g v0 v1 s2) fun r12 s8 =>
    p_gd (p_is s8 (p_R s2 v0 7) 100) <|
    p_gd ((0 : Int) ≤ r12 ∧ r12 < (p_L s8 (p_R s2 v0 7) : Int)) <|
    p_bd (F_Mo_beyond v2 0 (p_w ((p_Z s8 (p_R s2 v0 7) (r12 : Int).toNat) - 1)) s8) fun r19 s15 =>
    if r19 = 0 then
      p_bd (F_Mo_g v0 v1 s15) fun r25 s21 =>
      p_gd (p_is s21 (p_R s15 v0 8) 100) <|
      p_gd ((0 : Int) ≤ (p_w ((p_w (3 * r25)) + v2)) ∧ (p_w ((p_w (3 * r25)) + v2)) < (p_L s21 (p_R s15 v0 8) : Int)) <|
      some ((p_w ((p_Z s21 (p_R s15 v0 8) ((p_w ((p_w (3 * r25)) + v2)) : Int).toNat) + 1)), s21)
    else
      some ((-9), s15)
  else
    some ((-1), s2)
set_option maxRecDepth 100000 in
set_option maxHeartbeats 4000000 in
theorem tF_Mo_linkOf (K : p_K) (l : Launch) (v0 : Nat) (v1 : Int) (v2 : Int) (s0 : p_Hp) (r : (Int × p_Hp)) (h : F_Mo_linkOf v0 v1 v2 s0 = some r) : p_Ct K l m_Mo_linkOf [p_r v0, p_i v1, p_i v2] s0 (some (p_i r.1), r.2) := by
  refine p_Ct.of (by decide +kernel) (Nat.le_of_ble_eq_true rfl) ?_
  unfold F_Mo_linkOf at h
  show p_Go K l m_Mo_linkOf 0 [(0, p_r v0), (1, p_i v1), (2, p_i v2)] [] s0 _
  refine g_aload_n (i := 0) (j := 0) (dk_Mo_linkOf 0 rfl) rfl rfl ?_
  refine g_iload_n (i := 1) (j := 1) (dk_Mo_linkOf 1 rfl) rfl rfl ?_
  obtain ⟨c1, h⟩ := p_gdE h
  obtain ⟨r6, s2, q3, h⟩ := p_bdE h
  have t4 := tF_Mo_noGear K l v0 v1 s0 _ q3
  refine g_callV (a := v0) (ci := 11) (q0 := (RX11, TX11, 90)) (As := [p_i v1]) (rest := []) [p_i r6] mt_Mo_noGear rfl rfl tw_7_106 ts_48 tw_7_104 ⟨Nat.le_of_ble_eq_true rfl, Nat.le_of_ble_eq_true rfl⟩ rfl (Nat.le_of_ble_eq_true rfl) (dk_Mo_linkOf 2 rfl) rfl c1 rfl t4 ?_
  have hs5 : p_x s0 s2 := t4.1
  show p_Go K l m_Mo_linkOf 5 [(0, p_r v0), (1, p_i v1), (2, p_i v2)] [p_i r6] s2 _
  refine g_if_eq 12 (dk_Mo_linkOf 3 rfl) (by decide) (fun b7 => ?_) (fun b7 => ?_)
  · have h := p_ifT b7 h
    refine g_iload_n (i := 2) (j := 2) (dk_Mo_linkOf 6 rfl) rfl rfl ?_
    refine g_i2l (dk_Mo_linkOf 7 rfl) ?_
    refine g_lconst (x := 0) (dk_Mo_linkOf 8 rfl) rfl (by decide) ?_
    refine g_aload_n (i := 0) (j := 0) (dk_Mo_linkOf 9 rfl) rfl rfl ?_
    refine g_getR fl_Mo_22 (Or.inr ⟨_, rfl⟩) (dk_Mo_linkOf 10 rfl) (c1.up hs5) ?_
    refine g_aload_n (i := 0) (j := 0) (dk_Mo_linkOf 11 rfl) rfl rfl ?_
    refine g_iload_n (i := 1) (j := 1) (dk_Mo_linkOf 12 rfl) rfl rfl ?_
    obtain ⟨r12, s8, q9, h⟩ := p_bdE h
    have t10 := tF_Mo_g K l v0 v1 s2 _ q9
    refine g_callV (a := v0) (ci := 11) (q0 := (RX11, TX11, 90)) (As := [p_i v1]) (rest := [p_r (p_R s2 v0 7), p_j 0, p_j v2]) [p_i r12, p_r (p_R s2 v0 7), p_j 0, p_j v2] mt_Mo_g rfl rfl tw_7_84 ts_45 tw_7_82 ⟨Nat.le_of_ble_eq_true rfl, Nat.le_of_ble_eq_true rfl⟩ rfl (Nat.le_of_ble_eq_true rfl) (dk_Mo_linkOf 13 rfl) rfl (c1.up hs5) rfl t10 ?_
    have hs11 : p_x s2 s8 := t10.1
    show p_Go K l m_Mo_linkOf 24 [(0, p_r v0), (1, p_i v1), (2, p_i v2)] [p_i r12, p_r (p_R s2 v0 7), p_j 0, p_j v2] s8 _
    obtain ⟨c13, h⟩ := p_gdE h
    obtain ⟨c14, h⟩ := p_gdE h
    refine g_iaload (dk_Mo_linkOf 14 rfl) c13 c14.1 c14.2 ?_
    refine g_iconst (dk_Mo_linkOf 15 rfl) (by decide) ?_
    refine g_isub (dk_Mo_linkOf 16 rfl) ?_
    refine g_i2l (dk_Mo_linkOf 17 rfl) ?_
    obtain ⟨r19, s15, q16, h⟩ := p_bdE h
    have t17 := tF_Mo_beyond K l v2 0 (p_w ((p_Z s8 (p_R s2 v0 7) (r12 : Int).toNat) - 1)) s8 _ q16
    refine g_callS (av := [p_j v2, p_j 0, p_j (p_w ((p_Z s8 (p_R s2 v0 7) (r12 : Int).toNat) - 1))]) (rest := []) [p_i r19] mt_Mo_beyond tw_7_63 tw_7_62 ⟨Nat.le_of_ble_eq_true rfl, Nat.le_of_ble_eq_true rfl⟩ rfl (Nat.le_of_ble_eq_true rfl) (dk_Mo_linkOf 18 rfl) rfl rfl t17 ?_
    have hs18 : p_x s8 s15 := t17.1
    show p_Go K l m_Mo_linkOf 31 [(0, p_r v0), (1, p_i v1), (2, p_i v2)] [p_i r19] s15 _
    refine g_if_eq 39 (dk_Mo_linkOf 19 rfl) (by decide) (fun b20 => ?_) (fun b20 => ?_)
    · have h := p_ifT b20 h
      refine g_aload_n (i := 0) (j := 0) (dk_Mo_linkOf 22 rfl) rfl rfl ?_
      refine g_getR fl_Mo_25 (Or.inr ⟨_, rfl⟩) (dk_Mo_linkOf 23 rfl) (c1.up (hs5.trans (hs11.trans hs18))) ?_
      refine g_iconst (dk_Mo_linkOf 24 rfl) (by decide) ?_
      refine g_aload_n (i := 0) (j := 0) (dk_Mo_linkOf 25 rfl) rfl rfl ?_
      refine g_iload_n (i := 1) (j := 1) (dk_Mo_linkOf 26 rfl) rfl rfl ?_
      obtain ⟨r25, s21, q22, h⟩ := p_bdE h
      have t23 := tF_Mo_g K l v0 v1 s15 _ q22
      refine g_callV (a := v0) (ci := 11) (q0 := (RX11, TX11, 90)) (As := [p_i v1]) (rest := [p_i 3, p_r (p_R s15 v0 8)]) [p_i r25, p_i 3, p_r (p_R s15 v0 8)] mt_Mo_g rfl rfl tw_7_84 ts_45 tw_7_82 ⟨Nat.le_of_ble_eq_true rfl, Nat.le_of_ble_eq_true rfl⟩ rfl (Nat.le_of_ble_eq_true rfl) (dk_Mo_linkOf 27 rfl) rfl (c1.up (hs5.trans (hs11.trans hs18))) rfl t23 ?_
      have hs24 : p_x s15 s21 := t23.1
      show p_Go K l m_Mo_linkOf 49 [(0, p_r v0), (1, p_i v1), (2, p_i v2)] [p_i r25, p_i 3, p_r (p_R s15 v0 8)] s21 _
      refine g_imul (dk_Mo_linkOf 28 rfl) ?_
      refine g_iload_n (i := 2) (j := 2) (dk_Mo_linkOf 29 rfl) rfl rfl ?_
      refine g_iadd (dk_Mo_linkOf 30 rfl) ?_
      obtain ⟨c26, h⟩ := p_gdE h
      obtain ⟨c27, h⟩ := p_gdE h
      refine g_iaload (dk_Mo_linkOf 31 rfl) c26 c27.1 c27.2 ?_
      refine g_iconst (dk_Mo_linkOf 32 rfl) (by decide) ?_
      refine g_iadd (dk_Mo_linkOf 33 rfl) ?_
      cases h
      exact g_ret rfl rfl (dk_Mo_linkOf 34 rfl) (fun os => ⟨_, rfl, p_okh os⟩)
    · have h := p_ifF b20 h
      refine g_bipush (dk_Mo_linkOf 20 rfl) (by decide +kernel) (by decide) ?_
      refine g_goto 55 (dk_Mo_linkOf 21 rfl) (by decide) ?_
      cases h
      exact g_ret rfl rfl (dk_Mo_linkOf 34 rfl) (fun os => ⟨_, rfl, p_okh os⟩)
  · have h := p_ifF b7 h
    refine g_iconst (dk_Mo_linkOf 4 rfl) (by decide) ?_
    refine g_goto 55 (dk_Mo_linkOf 5 rfl) (by decide) ?_
    cases h
    exact g_ret rfl rfl (dk_Mo_linkOf 34 rfl) (fun os => ⟨_, rfl, p_okh os⟩)
def m_Mo_parcel : p_Me := (⟨"SortWorksModel", "parcel", "(II)I"⟩, prog_13_method_99_code, 3, (some .int), 2, 46)
theorem mt_Mo_parcel : p_Mt m_Mo_parcel 2 := ⟨p_mem (p_tb8 (List.mem_of_getElem? (i := 215) rfl)) rfl, tw_1_12, by decide +kernel, by decide +kernel, by decide +kernel⟩
def dt_Mo_parcel : List (Nat × Instr × Nat) := [(0, .aload_n 0, 1), (1, .iload_n 1, 1), (2, .invokevirtual 352, 3), (5, .ifCond .eq 5, 3), (8, .iconst (-1), 1), (9, .ireturn, 1), (10, .iload_n 2, 1), (11, .tableswitch 123 0 7 #[45, 52, 59, 66, 73, 80, 87, 108], 45), (56, .aload_n 0, 1), (57, .getfield 78, 3), (60, .iload_n 1, 1), (61, .iaload, 1), (62, .ireturn, 1), (63, .aload_n 0, 1), (64, .getfield 81, 3), (67, .iload_n 1, 1), (68, .iaload, 1), (69, .ireturn, 1), (70, .aload_n 0, 1), (71, .getfield 84, 3), (74, .iload_n 1, 1), (75, .iaload, 1), (76, .ireturn, 1), (77, .aload_n 0, 1), (78, .getfield 87, 3), (81, .iload_n 1, 1), (82, .iaload, 1), (83, .ireturn, 1), (84, .aload_n 0, 1), (85, .getfield 90, 3), (88, .iload_n 1, 1), (89, .iaload, 1), (90, .ireturn, 1), (91, .aload_n 0, 1), (92, .getfield 99, 3), (95, .iload_n 1, 1), (96, .iaload, 1), (97, .ireturn, 1), (98, .aload_n 0, 1), (99, .getfield 93, 3), (102, .iload_n 1, 1), (103, .iaload, 1), (104, .ifCond .ge 8, 3), (107, .bipush (-9), 2), (109, .goto 9, 3), (112, .aload_n 0, 1), (113, .getfield 93, 3), (116, .iload_n 1, 1), (117, .iaload, 1), (118, .ireturn, 1), (119, .aload_n 0, 1), (120, .getfield 105, 3), (123, .iload_n 1, 1), (124, .baload, 1), (125, .ifCond .eq 7, 3), (128, .iconst 1, 1), (129, .goto 4, 3), (132, .iconst 0, 1), (133, .ireturn, 1), (134, .bipush (-2), 2), (136, .ireturn, 1)]
theorem dk_Mo_parcel (i : Nat) {pc : Nat} {ins : Instr} {len : Nat} (h : dt_Mo_parcel[i]? = some (pc, ins, len)) : decode m_Mo_parcel.2.1 pc = .ok (ins, len) := p_dk (b := m_Mo_parcel.2.1) (t := dt_Mo_parcel) (by decide +kernel) i h
def F_Mo_parcel (v0 : Nat) (v1 : Int) (v2 : Int) (s0 : p_Hp) : Option (Int × p_Hp) :=
  p_gd (p_is s0 v0 11) <|
  p_bd (F_Mo_noParcel v0 v1 s0) fun r6 s2 =>
  if r6 = 0 then
    if v2 = 0 then
      p_gd (p_is s2 (p_R s2 v0 26) 100) <|
      p_gd ((0 : Int) ≤ v1 ∧ v1 < (p_L s2 (p_R s2 v0 26) : Int)) <|
      some ((p_Z s2 (p_R s2 v0 26) (v1 : Int).toNat), s2)
    else if v2 = 1 then
      p_gd (p_is s2 (p_R s2 v0 27) 100) <|
      p_gd ((0 : Int) ≤ v1 ∧ v1 < (p_L s2 (p_R s2 v0 27) : Int)) <|
      some ((p_Z s2 (p_R s2 v0 27) (v1 : Int).toNat), s2)
    else if v2 = 2 then
      p_gd (p_is s2 (p_R s2 v0 28) 100) <|
      p_gd ((0 : Int) ≤ v1 ∧ v1 < (p_L s2 (p_R s2 v0 28) : Int)) <|
      some ((p_Z s2 (p_R s2 v0 28) (v1 : Int).toNat), s2)
    else if v2 = 3 then
      p_gd (p_is s2 (p_R s2 v0 29) 100) <|
      p_gd ((0 : Int) ≤ v1 ∧ v1 < (p_L s2 (p_R s2 v0 29) : Int)) <|
      some ((p_Z s2 (p_R s2 v0 29) (v1 : Int).toNat), s2)
    else if v2 = 4 then
      p_gd (p_is s2 (p_R s2 v0 30) 100) <|
      p_gd ((0 : Int) ≤ v1 ∧ v1 < (p_L s2 (p_R s2 v0 30) : Int)) <|
      some ((p_Z s2 (p_R s2 v0 30) (v1 : Int).toNat), s2)
    else if v2 = 5 then
      p_gd (p_is s2 (p_R s2 v0 33) 100) <|
      p_gd ((0 : Int) ≤ v1 ∧ v1 < (p_L s2 (p_R s2 v0 33) : Int)) <|
      some ((p_Z s2 (p_R s2 v0 33) (v1 : Int).toNat), s2)
    else if v2 = 6 then
      p_gd (p_is s2 (p_R s2 v0 31) 100) <|
      p_gd ((0 : Int) ≤ v1 ∧ v1 < (p_L s2 (p_R s2 v0 31) : Int)) <|
      if 0 ≤ (p_Z s2 (p_R s2 v0 31) (v1 : Int).toNat) then
        p_gd ((0 : Int) ≤ v1 ∧ v1 < (p_L s2 (p_R s2 v0 31) : Int)) <|
        some ((p_Z s2 (p_R s2 v0 31) (v1 : Int).toNat), s2)
      else
        some ((-9), s2)
    else if v2 = 7 then
      p_gd (p_is s2 (p_R s2 v0 35) 102) <|
      p_gd ((0 : Int) ≤ v1 ∧ v1 < (p_L s2 (p_R s2 v0 35) : Int)) <|
      if (p_Z s2 (p_R s2 v0 35) (v1 : Int).toNat) = 0 then
        some (0, s2)
      else
        some (1, s2)
    else 
    some ((-2), s2)
  else
    some ((-1), s2)
set_option maxRecDepth 100000 in
set_option maxHeartbeats 4000000 in
theorem tF_Mo_parcel (K : p_K) (l : Launch) (v0 : Nat) (v1 : Int) (v2 : Int) (s0 : p_Hp) (r : (Int × p_Hp)) (h : F_Mo_parcel v0 v1 v2 s0 = some r) : p_Ct K l m_Mo_parcel [p_r v0, p_i v1, p_i v2] s0 (some (p_i r.1), r.2) := by
  refine p_Ct.of (by decide +kernel) (Nat.le_of_ble_eq_true rfl) ?_
  unfold F_Mo_parcel at h
  show p_Go K l m_Mo_parcel 0 [(0, p_r v0), (1, p_i v1), (2, p_i v2)] [] s0 _
  refine g_aload_n (i := 0) (j := 0) (dk_Mo_parcel 0 rfl) rfl rfl ?_
  refine g_iload_n (i := 1) (j := 1) (dk_Mo_parcel 1 rfl) rfl rfl ?_
  obtain ⟨c1, h⟩ := p_gdE h
  obtain ⟨r6, s2, q3, h⟩ := p_bdE h
  have t4 := tF_Mo_noParcel K l v0 v1 s0 _ q3
  refine g_callV (a := v0) (ci := 11) (q0 := (RX11, TX11, 90)) (As := [p_i v1]) (rest := []) [p_i r6] mt_Mo_noParcel rfl rfl tw_7_219 ts_62 tw_7_217 ⟨Nat.le_of_ble_eq_true rfl, Nat.le_of_ble_eq_true rfl⟩ rfl (Nat.le_of_ble_eq_true rfl) (dk_Mo_parcel 2 rfl) rfl c1 rfl t4 ?_
  have hs5 : p_x s0 s2 := t4.1
  show p_Go K l m_Mo_parcel 5 [(0, p_r v0), (1, p_i v1), (2, p_i v2)] [p_i r6] s2 _
  refine g_if_eq 10 (dk_Mo_parcel 3 rfl) (by decide) (fun b7 => ?_) (fun b7 => ?_)
  · have h := p_ifT b7 h
    refine g_iload_n (i := 2) (j := 2) (dk_Mo_parcel 6 rfl) rfl rfl ?_
    rcases p_iteE h with ⟨b8, h⟩ | ⟨b8, h⟩
    · refine g_tableIn 56 (dk_Mo_parcel 7 rfl) (by omega) (by omega) (by rw [b8]; rfl) (by decide) ?_
      refine g_aload_n (i := 0) (j := 0) (dk_Mo_parcel 8 rfl) rfl rfl ?_
      refine g_getR fl_Mo_78 (Or.inr ⟨_, rfl⟩) (dk_Mo_parcel 9 rfl) (c1.up hs5) ?_
      refine g_iload_n (i := 1) (j := 1) (dk_Mo_parcel 10 rfl) rfl rfl ?_
      obtain ⟨c9, h⟩ := p_gdE h
      obtain ⟨c10, h⟩ := p_gdE h
      refine g_iaload (dk_Mo_parcel 11 rfl) c9 c10.1 c10.2 ?_
      cases h
      exact g_ret rfl rfl (dk_Mo_parcel 12 rfl) (fun os => ⟨_, rfl, p_okh os⟩)
    rcases p_iteE h with ⟨b11, h⟩ | ⟨b11, h⟩
    · refine g_tableIn 63 (dk_Mo_parcel 7 rfl) (by omega) (by omega) (by rw [b11]; rfl) (by decide) ?_
      refine g_aload_n (i := 0) (j := 0) (dk_Mo_parcel 13 rfl) rfl rfl ?_
      refine g_getR fl_Mo_81 (Or.inr ⟨_, rfl⟩) (dk_Mo_parcel 14 rfl) (c1.up hs5) ?_
      refine g_iload_n (i := 1) (j := 1) (dk_Mo_parcel 15 rfl) rfl rfl ?_
      obtain ⟨c12, h⟩ := p_gdE h
      obtain ⟨c13, h⟩ := p_gdE h
      refine g_iaload (dk_Mo_parcel 16 rfl) c12 c13.1 c13.2 ?_
      cases h
      exact g_ret rfl rfl (dk_Mo_parcel 17 rfl) (fun os => ⟨_, rfl, p_okh os⟩)
    rcases p_iteE h with ⟨b14, h⟩ | ⟨b14, h⟩
    · refine g_tableIn 70 (dk_Mo_parcel 7 rfl) (by omega) (by omega) (by rw [b14]; rfl) (by decide) ?_
      refine g_aload_n (i := 0) (j := 0) (dk_Mo_parcel 18 rfl) rfl rfl ?_
      refine g_getR fl_Mo_84 (Or.inr ⟨_, rfl⟩) (dk_Mo_parcel 19 rfl) (c1.up hs5) ?_
      refine g_iload_n (i := 1) (j := 1) (dk_Mo_parcel 20 rfl) rfl rfl ?_
      obtain ⟨c15, h⟩ := p_gdE h
      obtain ⟨c16, h⟩ := p_gdE h
      refine g_iaload (dk_Mo_parcel 21 rfl) c15 c16.1 c16.2 ?_
      cases h
      exact g_ret rfl rfl (dk_Mo_parcel 22 rfl) (fun os => ⟨_, rfl, p_okh os⟩)
    rcases p_iteE h with ⟨b17, h⟩ | ⟨b17, h⟩
    · refine g_tableIn 77 (dk_Mo_parcel 7 rfl) (by omega) (by omega) (by rw [b17]; rfl) (by decide) ?_
      refine g_aload_n (i := 0) (j := 0) (dk_Mo_parcel 23 rfl) rfl rfl ?_
      refine g_getR fl_Mo_87 (Or.inr ⟨_, rfl⟩) (dk_Mo_parcel 24 rfl) (c1.up hs5) ?_
      refine g_iload_n (i := 1) (j := 1) (dk_Mo_parcel 25 rfl) rfl rfl ?_
      obtain ⟨c18, h⟩ := p_gdE h
      obtain ⟨c19, h⟩ := p_gdE h
      refine g_iaload (dk_Mo_parcel 26 rfl) c18 c19.1 c19.2 ?_
      cases h
      exact g_ret rfl rfl (dk_Mo_parcel 27 rfl) (fun os => ⟨_, rfl, p_okh os⟩)
    rcases p_iteE h with ⟨b20, h⟩ | ⟨b20, h⟩
    · refine g_tableIn 84 (dk_Mo_parcel 7 rfl) (by omega) (by omega) (by rw [b20]; rfl) (by decide) ?_
      refine g_aload_n (i := 0) (j := 0) (dk_Mo_parcel 28 rfl) rfl rfl ?_
      refine g_getR fl_Mo_90 (Or.inr ⟨_, rfl⟩) (dk_Mo_parcel 29 rfl) (c1.up hs5) ?_
      refine g_iload_n (i := 1) (j := 1) (dk_Mo_parcel 30 rfl) rfl rfl ?_
      obtain ⟨c21, h⟩ := p_gdE h
      obtain ⟨c22, h⟩ := p_gdE h
      refine g_iaload (dk_Mo_parcel 31 rfl) c21 c22.1 c22.2 ?_
      cases h
      exact g_ret rfl rfl (dk_Mo_parcel 32 rfl) (fun os => ⟨_, rfl, p_okh os⟩)
    rcases p_iteE h with ⟨b23, h⟩ | ⟨b23, h⟩
    · refine g_tableIn 91 (dk_Mo_parcel 7 rfl) (by omega) (by omega) (by rw [b23]; rfl) (by decide) ?_
      refine g_aload_n (i := 0) (j := 0) (dk_Mo_parcel 33 rfl) rfl rfl ?_
      refine g_getR fl_Mo_99 (Or.inr ⟨_, rfl⟩) (dk_Mo_parcel 34 rfl) (c1.up hs5) ?_
      refine g_iload_n (i := 1) (j := 1) (dk_Mo_parcel 35 rfl) rfl rfl ?_
      obtain ⟨c24, h⟩ := p_gdE h
      obtain ⟨c25, h⟩ := p_gdE h
      refine g_iaload (dk_Mo_parcel 36 rfl) c24 c25.1 c25.2 ?_
      cases h
      exact g_ret rfl rfl (dk_Mo_parcel 37 rfl) (fun os => ⟨_, rfl, p_okh os⟩)
    rcases p_iteE h with ⟨b26, h⟩ | ⟨b26, h⟩
    · refine g_tableIn 98 (dk_Mo_parcel 7 rfl) (by omega) (by omega) (by rw [b26]; rfl) (by decide) ?_
      refine g_aload_n (i := 0) (j := 0) (dk_Mo_parcel 38 rfl) rfl rfl ?_
      refine g_getR fl_Mo_93 (Or.inr ⟨_, rfl⟩) (dk_Mo_parcel 39 rfl) (c1.up hs5) ?_
      refine g_iload_n (i := 1) (j := 1) (dk_Mo_parcel 40 rfl) rfl rfl ?_
      obtain ⟨c27, h⟩ := p_gdE h
      obtain ⟨c28, h⟩ := p_gdE h
      refine g_iaload (dk_Mo_parcel 41 rfl) c27 c28.1 c28.2 ?_
      refine g_if_ge 112 (dk_Mo_parcel 42 rfl) (by decide) (fun b29 => ?_) (fun b29 => ?_)
      · have h := p_ifT b29 h
        refine g_aload_n (i := 0) (j := 0) (dk_Mo_parcel 45 rfl) rfl rfl ?_
        refine g_getR fl_Mo_93 (Or.inr ⟨_, rfl⟩) (dk_Mo_parcel 46 rfl) (c1.up hs5) ?_
        refine g_iload_n (i := 1) (j := 1) (dk_Mo_parcel 47 rfl) rfl rfl ?_
        obtain ⟨c30, h⟩ := p_gdE h
        refine g_iaload (dk_Mo_parcel 48 rfl) c27 c30.1 c30.2 ?_
        cases h
        exact g_ret rfl rfl (dk_Mo_parcel 49 rfl) (fun os => ⟨_, rfl, p_okh os⟩)
      · have h := p_ifF b29 h
        refine g_bipush (dk_Mo_parcel 43 rfl) (by decide +kernel) (by decide) ?_
        refine g_goto 118 (dk_Mo_parcel 44 rfl) (by decide) ?_
        cases h
        exact g_ret rfl rfl (dk_Mo_parcel 49 rfl) (fun os => ⟨_, rfl, p_okh os⟩)
    rcases p_iteE h with ⟨b31, h⟩ | ⟨b31, h⟩
    · refine g_tableIn 119 (dk_Mo_parcel 7 rfl) (by omega) (by omega) (by rw [b31]; rfl) (by decide) ?_
      refine g_aload_n (i := 0) (j := 0) (dk_Mo_parcel 50 rfl) rfl rfl ?_
      refine g_getR fl_Mo_105 (Or.inr ⟨_, rfl⟩) (dk_Mo_parcel 51 rfl) (c1.up hs5) ?_
      refine g_iload_n (i := 1) (j := 1) (dk_Mo_parcel 52 rfl) rfl rfl ?_
      obtain ⟨c32, h⟩ := p_gdE h
      obtain ⟨c33, h⟩ := p_gdE h
      refine g_baload (dk_Mo_parcel 53 rfl) c32 c33.1 c33.2 ?_
      refine g_if_eq 132 (dk_Mo_parcel 54 rfl) (by decide) (fun b34 => ?_) (fun b34 => ?_)
      · have h := p_ifT b34 h
        refine g_iconst (dk_Mo_parcel 57 rfl) (by decide) ?_
        cases h
        exact g_ret rfl rfl (dk_Mo_parcel 58 rfl) (fun os => ⟨_, rfl, p_okh os⟩)
      · have h := p_ifF b34 h
        refine g_iconst (dk_Mo_parcel 55 rfl) (by decide) ?_
        refine g_goto 133 (dk_Mo_parcel 56 rfl) (by decide) ?_
        cases h
        exact g_ret rfl rfl (dk_Mo_parcel 58 rfl) (fun os => ⟨_, rfl, p_okh os⟩)
    refine g_tableOut 134 (dk_Mo_parcel 7 rfl) (by omega) (by decide) ?_
    refine g_bipush (dk_Mo_parcel 59 rfl) (by decide +kernel) (by decide) ?_
    cases h
    exact g_ret rfl rfl (dk_Mo_parcel 60 rfl) (fun os => ⟨_, rfl, p_okh os⟩)
  · have h := p_ifF b7 h
    refine g_iconst (dk_Mo_parcel 4 rfl) (by decide) ?_
    cases h
    exact g_ret rfl rfl (dk_Mo_parcel 5 rfl) (fun os => ⟨_, rfl, p_okh os⟩)
def m_Mo_way : p_Me := (⟨"SortWorksModel", "way", "(II)I"⟩, prog_13_method_100_code, 3, (some .int), 2, 46)
theorem mt_Mo_way : p_Mt m_Mo_way 2 := ⟨p_mem (p_tb8 (List.mem_of_getElem? (i := 219) rfl)) rfl, tw_1_12, by decide +kernel, by decide +kernel, by decide +kernel⟩
def dt_Mo_way : List (Nat × Instr × Nat) := [(0, .aload_n 0, 1), (1, .iload_n 1, 1), (2, .invokevirtual 352, 3), (5, .ifCond .eq 7, 3), (8, .iconst (-1), 1), (9, .goto 53, 3), (12, .iload_n 2, 1), (13, .i2l, 1), (14, .lconst 0, 1), (15, .aload_n 0, 1), (16, .getfield 99, 3), (19, .iload_n 1, 1), (20, .iaload, 1), (21, .bipush 16, 2), (23, .if_icmp .ge 12, 3), (26, .aload_n 0, 1), (27, .getfield 99, 3), (30, .iload_n 1, 1), (31, .iaload, 1), (32, .goto 5, 3), (35, .bipush 16, 2), (37, .iconst 1, 1), (38, .isub, 1), (39, .i2l, 1), (40, .invokestatic 230, 3), (43, .ifCond .eq 8, 3), (46, .bipush (-9), 2), (48, .goto 14, 3), (51, .aload_n 0, 1), (52, .getfield 102, 3), (55, .bipush 16, 2), (57, .iload_n 1, 1), (58, .imul, 1), (59, .iload_n 2, 1), (60, .iadd, 1), (61, .iaload, 1), (62, .ireturn, 1)]
theorem dk_Mo_way (i : Nat) {pc : Nat} {ins : Instr} {len : Nat} (h : dt_Mo_way[i]? = some (pc, ins, len)) : decode m_Mo_way.2.1 pc = .ok (ins, len) := p_dk (b := m_Mo_way.2.1) (t := dt_Mo_way) (by decide +kernel) i h
def B_Mo_way_37  (v0 : Nat) (v1 : Int) (v2 : Int) (w0 : Int) (w1 : Int) (w2 : Int) (s0 : p_Hp) : Option (Int × p_Hp) :=
  p_bd (F_Mo_beyond w2 w1 (p_w (w0 - 1)) s0) fun r5 s1 =>
  if r5 = 0 then
    p_gd (p_is s1 v0 11) <|
    p_gd (p_is s1 (p_R s1 v0 34) 100) <|
    p_gd ((0 : Int) ≤ (p_w ((p_w (16 * v1)) + v2)) ∧ (p_w ((p_w (16 * v1)) + v2)) < (p_L s1 (p_R s1 v0 34) : Int)) <|
    some ((p_Z s1 (p_R s1 v0 34) ((p_w ((p_w (16 * v1)) + v2)) : Int).toNat), s1)
  else
    some ((-9), s1)
def F_Mo_way (v0 : Nat) (v1 : Int) (v2 : Int) (s0 : p_Hp) : Option (Int × p_Hp) :=
  p_gd (p_is s0 v0 11) <|
  p_bd (F_Mo_noParcel v0 v1 s0) fun r6 s2 =>
  if r6 = 0 then
    p_gd (p_is s2 (p_R s2 v0 33) 100) <|
    p_gd ((0 : Int) ≤ v1 ∧ v1 < (p_L s2 (p_R s2 v0 33) : Int)) <|
    if 16 ≤ (p_Z s2 (p_R s2 v0 33) (v1 : Int).toNat) then
      B_Mo_way_37 v0 v1 v2 16 0 v2 s2
    else
      p_gd ((0 : Int) ≤ v1 ∧ v1 < (p_L s2 (p_R s2 v0 33) : Int)) <|
      B_Mo_way_37 v0 v1 v2 (p_Z s2 (p_R s2 v0 33) (v1 : Int).toNat) 0 v2 s2
  else
    some ((-1), s2)
set_option maxRecDepth 100000 in
set_option maxHeartbeats 4000000 in
theorem tB_Mo_way_37 (K : p_K) (l : Launch)  (v0 : Nat) (v1 : Int) (v2 : Int) (w0 : Int) (w1 : Int) (w2 : Int) (s0 : p_Hp) (r : (Int × p_Hp)) (h : B_Mo_way_37 v0 v1 v2 w0 w1 w2 s0 = some r) : p_Go K l m_Mo_way 37 [(0, p_r v0), (1, p_i v1), (2, p_i v2)] [p_i w0, p_j w1, p_j w2] s0 (some (p_i r.1), r.2) := by
  unfold B_Mo_way_37 at h
  refine g_iconst (dk_Mo_way 21 rfl) (by decide) ?_
  refine g_isub (dk_Mo_way 22 rfl) ?_
  refine g_i2l (dk_Mo_way 23 rfl) ?_
  obtain ⟨r5, s1, q2, h⟩ := p_bdE h
  have t3 := tF_Mo_beyond K l w2 w1 (p_w (w0 - 1)) s0 _ q2
  refine g_callS (av := [p_j w2, p_j w1, p_j (p_w (w0 - 1))]) (rest := []) [p_i r5] mt_Mo_beyond tw_7_63 tw_7_62 ⟨Nat.le_of_ble_eq_true rfl, Nat.le_of_ble_eq_true rfl⟩ rfl (Nat.le_of_ble_eq_true rfl) (dk_Mo_way 24 rfl) rfl rfl t3 ?_
  have hs4 : p_x s0 s1 := t3.1
  show p_Go K l m_Mo_way 43 [(0, p_r v0), (1, p_i v1), (2, p_i v2)] [p_i r5] s1 _
  refine g_if_eq 51 (dk_Mo_way 25 rfl) (by decide) (fun b6 => ?_) (fun b6 => ?_)
  · have h := p_ifT b6 h
    refine g_aload_n (i := 0) (j := 0) (dk_Mo_way 28 rfl) rfl rfl ?_
    obtain ⟨c7, h⟩ := p_gdE h
    refine g_getR fl_Mo_102 (Or.inr ⟨_, rfl⟩) (dk_Mo_way 29 rfl) c7 ?_
    refine g_bipush (dk_Mo_way 30 rfl) (by decide +kernel) (by decide) ?_
    refine g_iload_n (i := 1) (j := 1) (dk_Mo_way 31 rfl) rfl rfl ?_
    refine g_imul (dk_Mo_way 32 rfl) ?_
    refine g_iload_n (i := 2) (j := 2) (dk_Mo_way 33 rfl) rfl rfl ?_
    refine g_iadd (dk_Mo_way 34 rfl) ?_
    obtain ⟨c8, h⟩ := p_gdE h
    obtain ⟨c9, h⟩ := p_gdE h
    refine g_iaload (dk_Mo_way 35 rfl) c8 c9.1 c9.2 ?_
    cases h
    exact g_ret rfl rfl (dk_Mo_way 36 rfl) (fun os => ⟨_, rfl, p_okh os⟩)
  · have h := p_ifF b6 h
    refine g_bipush (dk_Mo_way 26 rfl) (by decide +kernel) (by decide) ?_
    refine g_goto 62 (dk_Mo_way 27 rfl) (by decide) ?_
    cases h
    exact g_ret rfl rfl (dk_Mo_way 36 rfl) (fun os => ⟨_, rfl, p_okh os⟩)
set_option maxRecDepth 100000 in
set_option maxHeartbeats 4000000 in
theorem tF_Mo_way (K : p_K) (l : Launch) (v0 : Nat) (v1 : Int) (v2 : Int) (s0 : p_Hp) (r : (Int × p_Hp)) (h : F_Mo_way v0 v1 v2 s0 = some r) : p_Ct K l m_Mo_way [p_r v0, p_i v1, p_i v2] s0 (some (p_i r.1), r.2) := by
  refine p_Ct.of (by decide +kernel) (Nat.le_of_ble_eq_true rfl) ?_
  unfold F_Mo_way at h
  show p_Go K l m_Mo_way 0 [(0, p_r v0), (1, p_i v1), (2, p_i v2)] [] s0 _
  refine g_aload_n (i := 0) (j := 0) (dk_Mo_way 0 rfl) rfl rfl ?_
  refine g_iload_n (i := 1) (j := 1) (dk_Mo_way 1 rfl) rfl rfl ?_
  obtain ⟨c1, h⟩ := p_gdE h
  obtain ⟨r6, s2, q3, h⟩ := p_bdE h
  have t4 := tF_Mo_noParcel K l v0 v1 s0 _ q3
  refine g_callV (a := v0) (ci := 11) (q0 := (RX11, TX11, 90)) (As := [p_i v1]) (rest := []) [p_i r6] mt_Mo_noParcel rfl rfl tw_7_219 ts_62 tw_7_217 ⟨Nat.le_of_ble_eq_true rfl, Nat.le_of_ble_eq_true rfl⟩ rfl (Nat.le_of_ble_eq_true rfl) (dk_Mo_way 2 rfl) rfl c1 rfl t4 ?_
  have hs5 : p_x s0 s2 := t4.1
  show p_Go K l m_Mo_way 5 [(0, p_r v0), (1, p_i v1), (2, p_i v2)] [p_i r6] s2 _
  refine g_if_eq 12 (dk_Mo_way 3 rfl) (by decide) (fun b7 => ?_) (fun b7 => ?_)
  · have h := p_ifT b7 h
    refine g_iload_n (i := 2) (j := 2) (dk_Mo_way 6 rfl) rfl rfl ?_
    refine g_i2l (dk_Mo_way 7 rfl) ?_
    refine g_lconst (x := 0) (dk_Mo_way 8 rfl) rfl (by decide) ?_
    refine g_aload_n (i := 0) (j := 0) (dk_Mo_way 9 rfl) rfl rfl ?_
    refine g_getR fl_Mo_99 (Or.inr ⟨_, rfl⟩) (dk_Mo_way 10 rfl) (c1.up hs5) ?_
    refine g_iload_n (i := 1) (j := 1) (dk_Mo_way 11 rfl) rfl rfl ?_
    obtain ⟨c8, h⟩ := p_gdE h
    obtain ⟨c9, h⟩ := p_gdE h
    refine g_iaload (dk_Mo_way 12 rfl) c8 c9.1 c9.2 ?_
    refine g_bipush (dk_Mo_way 13 rfl) (by decide +kernel) (by decide) ?_
    refine g_icmp_ge 35 (dk_Mo_way 14 rfl) (by decide) (fun b10 => ?_) (fun b10 => ?_)
    · have h := p_ifT b10 h
      refine g_bipush (dk_Mo_way 20 rfl) (by decide +kernel) (by decide) ?_
      exact tB_Mo_way_37 K l v0 v1 v2 16 0 v2 s2 _ h
    · have h := p_ifF b10 h
      refine g_aload_n (i := 0) (j := 0) (dk_Mo_way 15 rfl) rfl rfl ?_
      refine g_getR fl_Mo_99 (Or.inr ⟨_, rfl⟩) (dk_Mo_way 16 rfl) (c1.up hs5) ?_
      refine g_iload_n (i := 1) (j := 1) (dk_Mo_way 17 rfl) rfl rfl ?_
      obtain ⟨c11, h⟩ := p_gdE h
      refine g_iaload (dk_Mo_way 18 rfl) c8 c11.1 c11.2 ?_
      refine g_goto 37 (dk_Mo_way 19 rfl) (by decide) ?_
      exact tB_Mo_way_37 K l v0 v1 v2 (p_Z s2 (p_R s2 v0 33) (v1 : Int).toNat) 0 v2 s2 _ h
  · have h := p_ifF b7 h
    refine g_iconst (dk_Mo_way 4 rfl) (by decide) ?_
    refine g_goto 62 (dk_Mo_way 5 rfl) (by decide) ?_
    cases h
    exact g_ret rfl rfl (dk_Mo_way 36 rfl) (fun os => ⟨_, rfl, p_okh os⟩)
def m_Mo_byteOf : p_Me := (⟨"SortWorksModel", "byteOf", "(II)I"⟩, prog_13_method_101_code, 3, (some .int), 2, 46)
theorem mt_Mo_byteOf : p_Mt m_Mo_byteOf 2 := ⟨p_mem (p_tb8 (List.mem_of_getElem? (i := 223) rfl)) rfl, tw_1_12, by decide +kernel, by decide +kernel, by decide +kernel⟩
def dt_Mo_byteOf : List (Nat × Instr × Nat) := [(0, .aload_n 0, 1), (1, .iload_n 1, 1), (2, .invokevirtual 352, 3), (5, .ifCond .eq 7, 3), (8, .iconst (-1), 1), (9, .goto 37, 3), (12, .iload_n 2, 1), (13, .i2l, 1), (14, .lconst 0, 1), (15, .aload_n 0, 1), (16, .getfield 93, 3), (19, .iload_n 1, 1), (20, .iaload, 1), (21, .iconst 1, 1), (22, .isub, 1), (23, .i2l, 1), (24, .invokestatic 230, 3), (27, .ifCond .eq 8, 3), (30, .bipush (-9), 2), (32, .goto 14, 3), (35, .aload_n 0, 1), (36, .getfield 96, 3), (39, .bipush 12, 2), (41, .iload_n 1, 1), (42, .imul, 1), (43, .iload_n 2, 1), (44, .iadd, 1), (45, .iaload, 1), (46, .ireturn, 1)]
theorem dk_Mo_byteOf (i : Nat) {pc : Nat} {ins : Instr} {len : Nat} (h : dt_Mo_byteOf[i]? = some (pc, ins, len)) : decode m_Mo_byteOf.2.1 pc = .ok (ins, len) := p_dk (b := m_Mo_byteOf.2.1) (t := dt_Mo_byteOf) (by decide +kernel) i h
def F_Mo_byteOf (v0 : Nat) (v1 : Int) (v2 : Int) (s0 : p_Hp) : Option (Int × p_Hp) :=
  p_gd (p_is s0 v0 11) <|
  p_bd (F_Mo_noParcel v0 v1 s0) fun r6 s2 =>
  if r6 = 0 then
    p_gd (p_is s2 (p_R s2 v0 31) 100) <|
    p_gd ((0 : Int) ≤ v1 ∧ v1 < (p_L s2 (p_R s2 v0 31) : Int)) <|
    p_bd (F_Mo_beyond v2 0 (p_w ((p_Z s2 (p_R s2 v0 31) (v1 : Int).toNat) - 1)) s2) fun r14 s10 =>
    if r14 = 0 then
      p_gd (p_is s10 (p_R s10 v0 32) 100) <|
      p_gd ((0 : Int) ≤ (p_w ((p_w (12 * v1)) + v2)) ∧ (p_w ((p_w (12 * v1)) + v2)) < (p_L s10 (p_R s10 v0 32) : Int)) <|
      some ((p_Z s10 (p_R s10 v0 32) ((p_w ((p_w (12 * v1)) + v2)) : Int).toNat), s10)
    else
      some ((-9), s10)
  else
    some ((-1), s2)
set_option maxRecDepth 100000 in
set_option maxHeartbeats 4000000 in
theorem tF_Mo_byteOf (K : p_K) (l : Launch) (v0 : Nat) (v1 : Int) (v2 : Int) (s0 : p_Hp) (r : (Int × p_Hp)) (h : F_Mo_byteOf v0 v1 v2 s0 = some r) : p_Ct K l m_Mo_byteOf [p_r v0, p_i v1, p_i v2] s0 (some (p_i r.1), r.2) := by
  refine p_Ct.of (by decide +kernel) (Nat.le_of_ble_eq_true rfl) ?_
  unfold F_Mo_byteOf at h
  show p_Go K l m_Mo_byteOf 0 [(0, p_r v0), (1, p_i v1), (2, p_i v2)] [] s0 _
  refine g_aload_n (i := 0) (j := 0) (dk_Mo_byteOf 0 rfl) rfl rfl ?_
  refine g_iload_n (i := 1) (j := 1) (dk_Mo_byteOf 1 rfl) rfl rfl ?_
  obtain ⟨c1, h⟩ := p_gdE h
  obtain ⟨r6, s2, q3, h⟩ := p_bdE h
  have t4 := tF_Mo_noParcel K l v0 v1 s0 _ q3
  refine g_callV (a := v0) (ci := 11) (q0 := (RX11, TX11, 90)) (As := [p_i v1]) (rest := []) [p_i r6] mt_Mo_noParcel rfl rfl tw_7_219 ts_62 tw_7_217 ⟨Nat.le_of_ble_eq_true rfl, Nat.le_of_ble_eq_true rfl⟩ rfl (Nat.le_of_ble_eq_true rfl) (dk_Mo_byteOf 2 rfl) rfl c1 rfl t4 ?_
  have hs5 : p_x s0 s2 := t4.1
  show p_Go K l m_Mo_byteOf 5 [(0, p_r v0), (1, p_i v1), (2, p_i v2)] [p_i r6] s2 _
  refine g_if_eq 12 (dk_Mo_byteOf 3 rfl) (by decide) (fun b7 => ?_) (fun b7 => ?_)
  · have h := p_ifT b7 h
    refine g_iload_n (i := 2) (j := 2) (dk_Mo_byteOf 6 rfl) rfl rfl ?_
    refine g_i2l (dk_Mo_byteOf 7 rfl) ?_
    refine g_lconst (x := 0) (dk_Mo_byteOf 8 rfl) rfl (by decide) ?_
    refine g_aload_n (i := 0) (j := 0) (dk_Mo_byteOf 9 rfl) rfl rfl ?_
    refine g_getR fl_Mo_93 (Or.inr ⟨_, rfl⟩) (dk_Mo_byteOf 10 rfl) (c1.up hs5) ?_
    refine g_iload_n (i := 1) (j := 1) (dk_Mo_byteOf 11 rfl) rfl rfl ?_
    obtain ⟨c8, h⟩ := p_gdE h
    obtain ⟨c9, h⟩ := p_gdE h
    refine g_iaload (dk_Mo_byteOf 12 rfl) c8 c9.1 c9.2 ?_
    refine g_iconst (dk_Mo_byteOf 13 rfl) (by decide) ?_
    refine g_isub (dk_Mo_byteOf 14 rfl) ?_
    refine g_i2l (dk_Mo_byteOf 15 rfl) ?_
    obtain ⟨r14, s10, q11, h⟩ := p_bdE h
    have t12 := tF_Mo_beyond K l v2 0 (p_w ((p_Z s2 (p_R s2 v0 31) (v1 : Int).toNat) - 1)) s2 _ q11
    refine g_callS (av := [p_j v2, p_j 0, p_j (p_w ((p_Z s2 (p_R s2 v0 31) (v1 : Int).toNat) - 1))]) (rest := []) [p_i r14] mt_Mo_beyond tw_7_63 tw_7_62 ⟨Nat.le_of_ble_eq_true rfl, Nat.le_of_ble_eq_true rfl⟩ rfl (Nat.le_of_ble_eq_true rfl) (dk_Mo_byteOf 16 rfl) rfl rfl t12 ?_
    have hs13 : p_x s2 s10 := t12.1
    show p_Go K l m_Mo_byteOf 27 [(0, p_r v0), (1, p_i v1), (2, p_i v2)] [p_i r14] s10 _
    refine g_if_eq 35 (dk_Mo_byteOf 17 rfl) (by decide) (fun b15 => ?_) (fun b15 => ?_)
    · have h := p_ifT b15 h
      refine g_aload_n (i := 0) (j := 0) (dk_Mo_byteOf 20 rfl) rfl rfl ?_
      refine g_getR fl_Mo_96 (Or.inr ⟨_, rfl⟩) (dk_Mo_byteOf 21 rfl) (c1.up (hs5.trans hs13)) ?_
      refine g_bipush (dk_Mo_byteOf 22 rfl) (by decide +kernel) (by decide) ?_
      refine g_iload_n (i := 1) (j := 1) (dk_Mo_byteOf 23 rfl) rfl rfl ?_
      refine g_imul (dk_Mo_byteOf 24 rfl) ?_
      refine g_iload_n (i := 2) (j := 2) (dk_Mo_byteOf 25 rfl) rfl rfl ?_
      refine g_iadd (dk_Mo_byteOf 26 rfl) ?_
      obtain ⟨c16, h⟩ := p_gdE h
      obtain ⟨c17, h⟩ := p_gdE h
      refine g_iaload (dk_Mo_byteOf 27 rfl) c16 c17.1 c17.2 ?_
      cases h
      exact g_ret rfl rfl (dk_Mo_byteOf 28 rfl) (fun os => ⟨_, rfl, p_okh os⟩)
    · have h := p_ifF b15 h
      refine g_bipush (dk_Mo_byteOf 18 rfl) (by decide +kernel) (by decide) ?_
      refine g_goto 46 (dk_Mo_byteOf 19 rfl) (by decide) ?_
      cases h
      exact g_ret rfl rfl (dk_Mo_byteOf 28 rfl) (fun os => ⟨_, rfl, p_okh os⟩)
  · have h := p_ifF b7 h
    refine g_iconst (dk_Mo_byteOf 4 rfl) (by decide) ?_
    refine g_goto 46 (dk_Mo_byteOf 5 rfl) (by decide) ?_
    cases h
    exact g_ret rfl rfl (dk_Mo_byteOf 28 rfl) (fun os => ⟨_, rfl, p_okh os⟩)
def m_Mo_left : p_Me := (⟨"SortWorksModel", "left", "(I)I"⟩, prog_13_method_102_code, 2, (some .int), 1, 25)
theorem mt_Mo_left : p_Mt m_Mo_left 1 := ⟨p_mem (p_tb8 (List.mem_of_getElem? (i := 227) rfl)) rfl, tw_1_12, by decide +kernel, by decide +kernel, by decide +kernel⟩
def dt_Mo_left : List (Nat × Instr × Nat) := [(0, .iload_n 1, 1), (1, .i2l, 1), (2, .lconst 1, 1), (3, .aload_n 0, 1), (4, .getfield 334, 3), (7, .i2l, 1), (8, .invokestatic 230, 3), (11, .ifCond .eq 5, 3), (14, .iconst (-1), 1), (15, .ireturn, 1), (16, .aload_n 0, 1), (17, .getfield 75, 3), (20, .iload_n 1, 1), (21, .iaload, 1), (22, .ifCond .ne 8, 3), (25, .bipush (-9), 2), (27, .goto 42, 3), (30, .aload_n 0, 1), (31, .getfield 75, 3), (34, .iload_n 1, 1), (35, .iaload, 1), (36, .iconst 1, 1), (37, .if_icmp .ne 15, 3), (40, .bipush (-10), 2), (42, .aload_n 0, 1), (43, .getfield 72, 3), (46, .iload_n 1, 1), (47, .iaload, 1), (48, .isub, 1), (49, .goto 20, 3), (52, .sipush 1000, 3), (55, .aload_n 0, 1), (56, .getfield 72, 3), (59, .iload_n 1, 1), (60, .iaload, 1), (61, .imul, 1), (62, .aload_n 0, 1), (63, .getfield 111, 3), (66, .iload_n 1, 1), (67, .iaload, 1), (68, .iadd, 1), (69, .ireturn, 1)]
theorem dk_Mo_left (i : Nat) {pc : Nat} {ins : Instr} {len : Nat} (h : dt_Mo_left[i]? = some (pc, ins, len)) : decode m_Mo_left.2.1 pc = .ok (ins, len) := p_dk (b := m_Mo_left.2.1) (t := dt_Mo_left) (by decide +kernel) i h
def F_Mo_left (v0 : Nat) (v1 : Int) (s0 : p_Hp) : Option (Int × p_Hp) :=
  p_gd (p_is s0 v0 11) <|
  p_bd (F_Mo_beyond v1 1 (p_Z s0 v0 23) s0) fun r6 s2 =>
  if r6 = 0 then
    p_gd (p_is s2 (p_R s2 v0 25) 100) <|
    p_gd ((0 : Int) ≤ v1 ∧ v1 < (p_L s2 (p_R s2 v0 25) : Int)) <|
    if (p_Z s2 (p_R s2 v0 25) (v1 : Int).toNat) ≠ 0 then
      p_gd ((0 : Int) ≤ v1 ∧ v1 < (p_L s2 (p_R s2 v0 25) : Int)) <|
      if (p_Z s2 (p_R s2 v0 25) (v1 : Int).toNat) ≠ 1 then
        p_gd (p_is s2 (p_R s2 v0 24) 100) <|
        p_gd ((0 : Int) ≤ v1 ∧ v1 < (p_L s2 (p_R s2 v0 24) : Int)) <|
        p_gd (p_is s2 (p_R s2 v0 37) 100) <|
        p_gd ((0 : Int) ≤ v1 ∧ v1 < (p_L s2 (p_R s2 v0 37) : Int)) <|
        some ((p_w ((p_w (1000 * (p_Z s2 (p_R s2 v0 24) (v1 : Int).toNat))) + (p_Z s2 (p_R s2 v0 37) (v1 : Int).toNat))), s2)
      else
        p_gd (p_is s2 (p_R s2 v0 24) 100) <|
        p_gd ((0 : Int) ≤ v1 ∧ v1 < (p_L s2 (p_R s2 v0 24) : Int)) <|
        some ((p_w ((-10) - (p_Z s2 (p_R s2 v0 24) (v1 : Int).toNat))), s2)
    else
      some ((-9), s2)
  else
    some ((-1), s2)
set_option maxRecDepth 100000 in
set_option maxHeartbeats 4000000 in
theorem tF_Mo_left (K : p_K) (l : Launch) (v0 : Nat) (v1 : Int) (s0 : p_Hp) (r : (Int × p_Hp)) (h : F_Mo_left v0 v1 s0 = some r) : p_Ct K l m_Mo_left [p_r v0, p_i v1] s0 (some (p_i r.1), r.2) := by
  refine p_Ct.of (by decide +kernel) (Nat.le_of_ble_eq_true rfl) ?_
  unfold F_Mo_left at h
  show p_Go K l m_Mo_left 0 [(0, p_r v0), (1, p_i v1)] [] s0 _
  refine g_iload_n (i := 1) (j := 1) (dk_Mo_left 0 rfl) rfl rfl ?_
  refine g_i2l (dk_Mo_left 1 rfl) ?_
  refine g_lconst (x := 1) (dk_Mo_left 2 rfl) rfl (by decide) ?_
  refine g_aload_n (i := 0) (j := 0) (dk_Mo_left 3 rfl) rfl rfl ?_
  obtain ⟨c1, h⟩ := p_gdE h
  refine g_getI fl_Mo_334 (Or.inl rfl) (dk_Mo_left 4 rfl) c1 ?_
  refine g_i2l (dk_Mo_left 5 rfl) ?_
  obtain ⟨r6, s2, q3, h⟩ := p_bdE h
  have t4 := tF_Mo_beyond K l v1 1 (p_Z s0 v0 23) s0 _ q3
  refine g_callS (av := [p_j v1, p_j 1, p_j (p_Z s0 v0 23)]) (rest := []) [p_i r6] mt_Mo_beyond tw_7_63 tw_7_62 ⟨Nat.le_of_ble_eq_true rfl, Nat.le_of_ble_eq_true rfl⟩ rfl (Nat.le_of_ble_eq_true rfl) (dk_Mo_left 6 rfl) rfl rfl t4 ?_
  have hs5 : p_x s0 s2 := t4.1
  show p_Go K l m_Mo_left 11 [(0, p_r v0), (1, p_i v1)] [p_i r6] s2 _
  refine g_if_eq 16 (dk_Mo_left 7 rfl) (by decide) (fun b7 => ?_) (fun b7 => ?_)
  · have h := p_ifT b7 h
    refine g_aload_n (i := 0) (j := 0) (dk_Mo_left 10 rfl) rfl rfl ?_
    refine g_getR fl_Mo_75 (Or.inr ⟨_, rfl⟩) (dk_Mo_left 11 rfl) (c1.up hs5) ?_
    refine g_iload_n (i := 1) (j := 1) (dk_Mo_left 12 rfl) rfl rfl ?_
    obtain ⟨c8, h⟩ := p_gdE h
    obtain ⟨c9, h⟩ := p_gdE h
    refine g_iaload (dk_Mo_left 13 rfl) c8 c9.1 c9.2 ?_
    refine g_if_ne 30 (dk_Mo_left 14 rfl) (by decide) (fun b10 => ?_) (fun b10 => ?_)
    · have h := p_ifT b10 h
      refine g_aload_n (i := 0) (j := 0) (dk_Mo_left 17 rfl) rfl rfl ?_
      refine g_getR fl_Mo_75 (Or.inr ⟨_, rfl⟩) (dk_Mo_left 18 rfl) (c1.up hs5) ?_
      refine g_iload_n (i := 1) (j := 1) (dk_Mo_left 19 rfl) rfl rfl ?_
      obtain ⟨c11, h⟩ := p_gdE h
      refine g_iaload (dk_Mo_left 20 rfl) c8 c11.1 c11.2 ?_
      refine g_iconst (dk_Mo_left 21 rfl) (by decide) ?_
      refine g_icmp_ne 52 (dk_Mo_left 22 rfl) (by decide) (fun b12 => ?_) (fun b12 => ?_)
      · have h := p_ifT b12 h
        refine g_sipush (dk_Mo_left 30 rfl) (by decide +kernel) (by decide) ?_
        refine g_aload_n (i := 0) (j := 0) (dk_Mo_left 31 rfl) rfl rfl ?_
        refine g_getR fl_Mo_72 (Or.inr ⟨_, rfl⟩) (dk_Mo_left 32 rfl) (c1.up hs5) ?_
        refine g_iload_n (i := 1) (j := 1) (dk_Mo_left 33 rfl) rfl rfl ?_
        obtain ⟨c13, h⟩ := p_gdE h
        obtain ⟨c14, h⟩ := p_gdE h
        refine g_iaload (dk_Mo_left 34 rfl) c13 c14.1 c14.2 ?_
        refine g_imul (dk_Mo_left 35 rfl) ?_
        refine g_aload_n (i := 0) (j := 0) (dk_Mo_left 36 rfl) rfl rfl ?_
        refine g_getR fl_Mo_111 (Or.inr ⟨_, rfl⟩) (dk_Mo_left 37 rfl) (c1.up hs5) ?_
        refine g_iload_n (i := 1) (j := 1) (dk_Mo_left 38 rfl) rfl rfl ?_
        obtain ⟨c15, h⟩ := p_gdE h
        obtain ⟨c16, h⟩ := p_gdE h
        refine g_iaload (dk_Mo_left 39 rfl) c15 c16.1 c16.2 ?_
        refine g_iadd (dk_Mo_left 40 rfl) ?_
        cases h
        exact g_ret rfl rfl (dk_Mo_left 41 rfl) (fun os => ⟨_, rfl, p_okh os⟩)
      · have h := p_ifF b12 h
        refine g_bipush (dk_Mo_left 23 rfl) (by decide +kernel) (by decide) ?_
        refine g_aload_n (i := 0) (j := 0) (dk_Mo_left 24 rfl) rfl rfl ?_
        refine g_getR fl_Mo_72 (Or.inr ⟨_, rfl⟩) (dk_Mo_left 25 rfl) (c1.up hs5) ?_
        refine g_iload_n (i := 1) (j := 1) (dk_Mo_left 26 rfl) rfl rfl ?_
        obtain ⟨c17, h⟩ := p_gdE h
        obtain ⟨c18, h⟩ := p_gdE h
        refine g_iaload (dk_Mo_left 27 rfl) c17 c18.1 c18.2 ?_
        refine g_isub (dk_Mo_left 28 rfl) ?_
        refine g_goto 69 (dk_Mo_left 29 rfl) (by decide) ?_
        cases h
        exact g_ret rfl rfl (dk_Mo_left 41 rfl) (fun os => ⟨_, rfl, p_okh os⟩)
    · have h := p_ifF b10 h
      refine g_bipush (dk_Mo_left 15 rfl) (by decide +kernel) (by decide) ?_
      refine g_goto 69 (dk_Mo_left 16 rfl) (by decide) ?_
      cases h
      exact g_ret rfl rfl (dk_Mo_left 41 rfl) (fun os => ⟨_, rfl, p_okh os⟩)
  · have h := p_ifF b7 h
    refine g_iconst (dk_Mo_left 8 rfl) (by decide) ?_
    cases h
    exact g_ret rfl rfl (dk_Mo_left 9 rfl) (fun os => ⟨_, rfl, p_okh os⟩)
def m_Mo_out : p_Me := (⟨"SortWorksModel", "out", "(II)I"⟩, prog_13_method_103_code, 3, (some .int), 1, 25)
theorem mt_Mo_out : p_Mt m_Mo_out 2 := ⟨p_mem (p_tb8 (List.mem_of_getElem? (i := 231) rfl)) rfl, tw_1_12, by decide +kernel, by decide +kernel, by decide +kernel⟩
def dt_Mo_out : List (Nat × Instr × Nat) := [(0, .iload_n 1, 1), (1, .ifCond .lt 34, 3), (4, .iload_n 1, 1), (5, .bipush 30, 2), (7, .if_icmp .ge 28, 3), (10, .iload_n 1, 1), (11, .aload_n 0, 1), (12, .getfield 120, 3), (15, .aload_n 0, 1), (16, .getfield 227, 3), (19, .iaload, 1), (20, .if_icmp .ge 15, 3), (23, .iload_n 2, 1), (24, .i2l, 1), (25, .lconst 0, 1), (26, .ldc2_w 373, 3), (29, .invokestatic 230, 3), (32, .ifCond .eq 6, 3), (35, .bipush (-9), 2), (37, .ireturn, 1), (38, .aload_n 0, 1), (39, .getfield 123, 3), (42, .iconst 4, 1), (43, .bipush 30, 2), (45, .aload_n 0, 1), (46, .getfield 227, 3), (49, .imul, 1), (50, .aload_n 0, 1), (51, .getfield 120, 3), (54, .aload_n 0, 1), (55, .getfield 227, 3), (58, .iaload, 1), (59, .iconst 1, 1), (60, .isub, 1), (61, .iload_n 1, 1), (62, .isub, 1), (63, .bipush 30, 2), (65, .irem, 1), (66, .iadd, 1), (67, .imul, 1), (68, .iload_n 2, 1), (69, .iadd, 1), (70, .iaload, 1), (71, .ireturn, 1)]
theorem dk_Mo_out (i : Nat) {pc : Nat} {ins : Instr} {len : Nat} (h : dt_Mo_out[i]? = some (pc, ins, len)) : decode m_Mo_out.2.1 pc = .ok (ins, len) := p_dk (b := m_Mo_out.2.1) (t := dt_Mo_out) (by decide +kernel) i h
def F_Mo_out (v0 : Nat) (v1 : Int) (v2 : Int) (s0 : p_Hp) : Option (Int × p_Hp) :=
  if v1 < 0 then
    some ((-9), s0)
  else
    if 30 ≤ v1 then
      some ((-9), s0)
    else
      p_gd (p_is s0 v0 11) <|
      p_gd (p_is s0 (p_R s0 v0 40) 100) <|
      p_gd ((0 : Int) ≤ (p_Z s0 v0 0) ∧ (p_Z s0 v0 0) < (p_L s0 (p_R s0 v0 40) : Int)) <|
      if (p_Z s0 (p_R s0 v0 40) ((p_Z s0 v0 0) : Int).toNat) ≤ v1 then
        some ((-9), s0)
      else
        p_bd (F_Mo_beyond v2 0 3 s0) fun r11 s7 =>
        if r11 = 0 then
          p_gd (p_is s7 (p_R s7 v0 40) 100) <|
          p_gd ((0 : Int) ≤ (p_Z s7 v0 0) ∧ (p_Z s7 v0 0) < (p_L s7 (p_R s7 v0 40) : Int)) <|
          p_gd (p_is s7 (p_R s7 v0 41) 100) <|
          p_gd ((0 : Int) ≤ (p_w ((p_w (4 * (p_w ((p_w (30 * (p_Z s7 v0 0))) + (p_rem (p_w ((p_w ((p_Z s7 (p_R s7 v0 40) ((p_Z s7 v0 0) : Int).toNat) - 1)) - v1)) 30))))) + v2)) ∧ (p_w ((p_w (4 * (p_w ((p_w (30 * (p_Z s7 v0 0))) + (p_rem (p_w ((p_w ((p_Z s7 (p_R s7 v0 40) ((p_Z s7 v0 0) : Int).toNat) - 1)) - v1)) 30))))) + v2)) < (p_L s7 (p_R s7 v0 41) : Int)) <|
          some ((p_Z s7 (p_R s7 v0 41) ((p_w ((p_w (4 * (p_w ((p_w (30 * (p_Z s7 v0 0))) + (p_rem (p_w ((p_w ((p_Z s7 (p_R s7 v0 40) ((p_Z s7 v0 0) : Int).toNat) - 1)) - v1)) 30))))) + v2)) : Int).toNat), s7)
        else
          some ((-9), s7)
set_option maxRecDepth 100000 in
set_option maxHeartbeats 4000000 in
theorem tF_Mo_out (K : p_K) (l : Launch) (v0 : Nat) (v1 : Int) (v2 : Int) (s0 : p_Hp) (r : (Int × p_Hp)) (h : F_Mo_out v0 v1 v2 s0 = some r) : p_Ct K l m_Mo_out [p_r v0, p_i v1, p_i v2] s0 (some (p_i r.1), r.2) := by
  refine p_Ct.of (by decide +kernel) (Nat.le_of_ble_eq_true rfl) ?_
  unfold F_Mo_out at h
  show p_Go K l m_Mo_out 0 [(0, p_r v0), (1, p_i v1), (2, p_i v2)] [] s0 _
  refine g_iload_n (i := 1) (j := 1) (dk_Mo_out 0 rfl) rfl rfl ?_
  refine g_if_lt 35 (dk_Mo_out 1 rfl) (by decide) (fun b1 => ?_) (fun b1 => ?_)
  · have h := p_ifT b1 h
    refine g_bipush (dk_Mo_out 18 rfl) (by decide +kernel) (by decide) ?_
    cases h
    exact g_ret rfl rfl (dk_Mo_out 19 rfl) (fun os => ⟨_, rfl, p_okh os⟩)
  · have h := p_ifF b1 h
    refine g_iload_n (i := 1) (j := 1) (dk_Mo_out 2 rfl) rfl rfl ?_
    refine g_bipush (dk_Mo_out 3 rfl) (by decide +kernel) (by decide) ?_
    refine g_icmp_ge 35 (dk_Mo_out 4 rfl) (by decide) (fun b2 => ?_) (fun b2 => ?_)
    · have h := p_ifT b2 h
      refine g_bipush (dk_Mo_out 18 rfl) (by decide +kernel) (by decide) ?_
      cases h
      exact g_ret rfl rfl (dk_Mo_out 19 rfl) (fun os => ⟨_, rfl, p_okh os⟩)
    · have h := p_ifF b2 h
      refine g_iload_n (i := 1) (j := 1) (dk_Mo_out 5 rfl) rfl rfl ?_
      refine g_aload_n (i := 0) (j := 0) (dk_Mo_out 6 rfl) rfl rfl ?_
      obtain ⟨c3, h⟩ := p_gdE h
      refine g_getR fl_Mo_120 (Or.inr ⟨_, rfl⟩) (dk_Mo_out 7 rfl) c3 ?_
      refine g_aload_n (i := 0) (j := 0) (dk_Mo_out 8 rfl) rfl rfl ?_
      refine g_getI fl_Mo_227 (Or.inl rfl) (dk_Mo_out 9 rfl) c3 ?_
      obtain ⟨c4, h⟩ := p_gdE h
      obtain ⟨c5, h⟩ := p_gdE h
      refine g_iaload (dk_Mo_out 10 rfl) c4 c5.1 c5.2 ?_
      refine g_icmp_ge 35 (dk_Mo_out 11 rfl) (by decide) (fun b6 => ?_) (fun b6 => ?_)
      · have h := p_ifT b6 h
        refine g_bipush (dk_Mo_out 18 rfl) (by decide +kernel) (by decide) ?_
        cases h
        exact g_ret rfl rfl (dk_Mo_out 19 rfl) (fun os => ⟨_, rfl, p_okh os⟩)
      · have h := p_ifF b6 h
        refine g_iload_n (i := 2) (j := 2) (dk_Mo_out 12 rfl) rfl rfl ?_
        refine g_i2l (dk_Mo_out 13 rfl) ?_
        refine g_lconst (x := 0) (dk_Mo_out 14 rfl) rfl (by decide) ?_
        refine g_ldc2_w (x := 3) (dk_Mo_out 15 rfl) tw_8_31 (by decide) (by decide) ?_
        obtain ⟨r11, s7, q8, h⟩ := p_bdE h
        have t9 := tF_Mo_beyond K l v2 0 3 s0 _ q8
        refine g_callS (av := [p_j v2, p_j 0, p_j 3]) (rest := []) [p_i r11] mt_Mo_beyond tw_7_63 tw_7_62 ⟨Nat.le_of_ble_eq_true rfl, Nat.le_of_ble_eq_true rfl⟩ rfl (Nat.le_of_ble_eq_true rfl) (dk_Mo_out 16 rfl) rfl rfl t9 ?_
        have hs10 : p_x s0 s7 := t9.1
        show p_Go K l m_Mo_out 32 [(0, p_r v0), (1, p_i v1), (2, p_i v2)] [p_i r11] s7 _
        refine g_if_eq 38 (dk_Mo_out 17 rfl) (by decide) (fun b12 => ?_) (fun b12 => ?_)
        · have h := p_ifT b12 h
          refine g_aload_n (i := 0) (j := 0) (dk_Mo_out 20 rfl) rfl rfl ?_
          refine g_getR fl_Mo_123 (Or.inr ⟨_, rfl⟩) (dk_Mo_out 21 rfl) (c3.up hs10) ?_
          refine g_iconst (dk_Mo_out 22 rfl) (by decide) ?_
          refine g_bipush (dk_Mo_out 23 rfl) (by decide +kernel) (by decide) ?_
          refine g_aload_n (i := 0) (j := 0) (dk_Mo_out 24 rfl) rfl rfl ?_
          refine g_getI fl_Mo_227 (Or.inl rfl) (dk_Mo_out 25 rfl) (c3.up hs10) ?_
          refine g_imul (dk_Mo_out 26 rfl) ?_
          refine g_aload_n (i := 0) (j := 0) (dk_Mo_out 27 rfl) rfl rfl ?_
          refine g_getR fl_Mo_120 (Or.inr ⟨_, rfl⟩) (dk_Mo_out 28 rfl) (c3.up hs10) ?_
          refine g_aload_n (i := 0) (j := 0) (dk_Mo_out 29 rfl) rfl rfl ?_
          refine g_getI fl_Mo_227 (Or.inl rfl) (dk_Mo_out 30 rfl) (c3.up hs10) ?_
          obtain ⟨c13, h⟩ := p_gdE h
          obtain ⟨c14, h⟩ := p_gdE h
          refine g_iaload (dk_Mo_out 31 rfl) c13 c14.1 c14.2 ?_
          refine g_iconst (dk_Mo_out 32 rfl) (by decide) ?_
          refine g_isub (dk_Mo_out 33 rfl) ?_
          refine g_iload_n (i := 1) (j := 1) (dk_Mo_out 34 rfl) rfl rfl ?_
          refine g_isub (dk_Mo_out 35 rfl) ?_
          refine g_bipush (dk_Mo_out 36 rfl) (by decide +kernel) (by decide) ?_
          refine g_irem (dk_Mo_out 37 rfl) (by decide) ?_
          refine g_iadd (dk_Mo_out 38 rfl) ?_
          refine g_imul (dk_Mo_out 39 rfl) ?_
          refine g_iload_n (i := 2) (j := 2) (dk_Mo_out 40 rfl) rfl rfl ?_
          refine g_iadd (dk_Mo_out 41 rfl) ?_
          obtain ⟨c15, h⟩ := p_gdE h
          obtain ⟨c16, h⟩ := p_gdE h
          refine g_iaload (dk_Mo_out 42 rfl) c15 c16.1 c16.2 ?_
          cases h
          exact g_ret rfl rfl (dk_Mo_out 43 rfl) (fun os => ⟨_, rfl, p_okh os⟩)
        · have h := p_ifF b12 h
          refine g_bipush (dk_Mo_out 18 rfl) (by decide +kernel) (by decide) ?_
          cases h
          exact g_ret rfl rfl (dk_Mo_out 19 rfl) (fun os => ⟨_, rfl, p_okh os⟩)
