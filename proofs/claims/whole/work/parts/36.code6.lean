def m_Mo_init : p_Me := (⟨"SortWorksModel", "<init>", "()V"⟩, prog_13_method_1_code, 2, none, 1, 20)
theorem mt_Mo_init : p_Mt m_Mo_init 0 := ⟨p_mem (p_tb6 (List.mem_of_getElem? (i := 22) rfl)) rfl, tw_1_12, by decide +kernel, by decide +kernel, by decide +kernel⟩
def dt_Mo_init : List (Nat × Instr × Nat) := [(0, .aload_n 0, 1), (1, .invokespecial 1, 3), (4, .aload_n 0, 1), (5, .iconst 3, 1), (6, .newarray .int, 2), (8, .putfield 7, 3), (11, .aload_n 0, 1), (12, .iconst 3, 1), (13, .newarray .int, 2), (15, .putfield 13, 3), (18, .aload_n 0, 1), (19, .bipush 120, 2), (21, .newarray .int, 2), (23, .putfield 16, 3), (26, .aload_n 0, 1), (27, .bipush 120, 2), (29, .newarray .int, 2), (31, .putfield 19, 3), (34, .aload_n 0, 1), (35, .bipush 120, 2), (37, .newarray .int, 2), (39, .putfield 22, 3), (42, .aload_n 0, 1), (43, .sipush 360, 3), (46, .newarray .int, 2), (48, .putfield 25, 3), (51, .aload_n 0, 1), (52, .bipush 120, 2), (54, .newarray .int, 2), (56, .putfield 28, 3), (59, .aload_n 0, 1), (60, .bipush 120, 2), (62, .newarray .int, 2), (64, .putfield 31, 3), (67, .aload_n 0, 1), (68, .sipush 240, 3), (71, .newarray .long, 2), (73, .putfield 34, 3), (76, .aload_n 0, 1), (77, .bipush 120, 2), (79, .newarray .int, 2), (81, .putfield 38, 3), (84, .aload_n 0, 1), (85, .bipush 120, 2), (87, .newarray .int, 2), (89, .putfield 41, 3), (92, .aload_n 0, 1), (93, .bipush 120, 2), (95, .newarray .boolean, 2), (97, .putfield 44, 3), (100, .aload_n 0, 1), (101, .bipush 120, 2), (103, .newarray .int, 2), (105, .putfield 48, 3), (108, .aload_n 0, 1), (109, .bipush 120, 2), (111, .newarray .int, 2), (113, .putfield 51, 3), (116, .aload_n 0, 1), (117, .bipush 120, 2), (119, .newarray .int, 2), (121, .putfield 54, 3), (124, .aload_n 0, 1), (125, .bipush 120, 2), (127, .newarray .int, 2), (129, .putfield 57, 3), (132, .aload_n 0, 1), (133, .bipush 120, 2), (135, .newarray .int, 2), (137, .putfield 60, 3), (140, .aload_n 0, 1), (141, .bipush 120, 2), (143, .newarray .int, 2), (145, .putfield 63, 3), (148, .aload_n 0, 1), (149, .bipush 120, 2), (151, .newarray .int, 2), (153, .putfield 66, 3), (156, .aload_n 0, 1), (157, .sipush 960, 3), (160, .newarray .int, 2), (162, .putfield 69, 3), (165, .aload_n 0, 1), (166, .sipush 2001, 3), (169, .newarray .int, 2), (171, .putfield 72, 3), (174, .aload_n 0, 1), (175, .sipush 2001, 3), (178, .newarray .int, 2), (180, .putfield 75, 3), (183, .aload_n 0, 1), (184, .sipush 2001, 3), (187, .newarray .int, 2), (189, .putfield 78, 3), (192, .aload_n 0, 1), (193, .sipush 2001, 3), (196, .newarray .int, 2), (198, .putfield 81, 3), (201, .aload_n 0, 1), (202, .sipush 2001, 3), (205, .newarray .int, 2), (207, .putfield 84, 3), (210, .aload_n 0, 1), (211, .sipush 2001, 3), (214, .newarray .int, 2), (216, .putfield 87, 3), (219, .aload_n 0, 1), (220, .sipush 2001, 3), (223, .newarray .int, 2), (225, .putfield 90, 3), (228, .aload_n 0, 1), (229, .sipush 2001, 3), (232, .newarray .int, 2), (234, .putfield 93, 3), (237, .aload_n 0, 1), (238, .sipush 24012, 3), (241, .newarray .int, 2), (243, .putfield 96, 3), (246, .aload_n 0, 1), (247, .sipush 2001, 3), (250, .newarray .int, 2), (252, .putfield 99, 3), (255, .aload_n 0, 1), (256, .sipush 32016, 3), (259, .newarray .int, 2), (261, .putfield 102, 3), (264, .aload_n 0, 1), (265, .sipush 2001, 3), (268, .newarray .boolean, 2), (270, .putfield 105, 3), (273, .aload_n 0, 1), (274, .sipush 2001, 3), (277, .newarray .boolean, 2), (279, .putfield 108, 3), (282, .aload_n 0, 1), (283, .sipush 2001, 3), (286, .newarray .int, 2), (288, .putfield 111, 3), (291, .aload_n 0, 1), (292, .iconst 3, 1), (293, .newarray .int, 2), (295, .putfield 114, 3), (298, .aload_n 0, 1), (299, .iconst 3, 1), (300, .newarray .int, 2), (302, .putfield 117, 3), (305, .aload_n 0, 1), (306, .iconst 3, 1), (307, .newarray .int, 2), (309, .putfield 120, 3), (312, .aload_n 0, 1), (313, .sipush 360, 3), (316, .newarray .int, 2), (318, .putfield 123, 3), (321, .aload_n 0, 1), (322, .iconst 3, 1), (323, .newarray .int, 2), (325, .putfield 126, 3), (328, .aload_n 0, 1), (329, .sipush 600, 3), (332, .newarray .int, 2), (334, .putfield 129, 3), (337, .aload_n 0, 1), (338, .iconst 3, 1), (339, .newarray .int, 2), (341, .putfield 132, 3), (344, .aload_n 0, 1), (345, .sipush 180, 3), (348, .newarray .int, 2), (350, .putfield 135, 3), (353, .aload_n 0, 1), (354, .sipush 200, 3), (357, .newarray .int, 2), (359, .putfield 138, 3), (362, .aload_n 0, 1), (363, .iconst 3, 1), (364, .newarray .int, 2), (366, .putfield 141, 3), (369, .aload_n 0, 1), (370, .bipush 36, 2), (372, .newarray .int, 2), (374, .putfield 144, 3), (377, .aload_n 0, 1), (378, .bipush 36, 2), (380, .newarray .int, 2), (382, .putfield 147, 3), (385, .aload_n 0, 1), (386, .bipush 36, 2), (388, .newarray .int, 2), (390, .putfield 150, 3), (393, .aload_n 0, 1), (394, .sipush 144, 3), (397, .newarray .int, 2), (399, .putfield 153, 3), (402, .aload_n 0, 1), (403, .sipush 144, 3), (406, .newarray .int, 2), (408, .putfield 156, 3), (411, .aload_n 0, 1), (412, .sipush 144, 3), (415, .newarray .int, 2), (417, .putfield 159, 3), (420, .aload_n 0, 1), (421, .sipush 144, 3), (424, .newarray .int, 2), (426, .putfield 162, 3), (429, .aload_n 0, 1), (430, .iconst 3, 1), (431, .newarray .int, 2), (433, .putfield 165, 3), (436, .aload_n 0, 1), (437, .bipush 48, 2), (439, .newarray .int, 2), (441, .putfield 168, 3), (444, .aload_n 0, 1), (445, .sipush 192, 3), (448, .newarray .int, 2), (450, .putfield 171, 3), (453, .aload_n 0, 1), (454, .bipush 12, 2), (456, .newarray .int, 2), (458, .putfield 174, 3), (461, .aload_n 0, 1), (462, .bipush 12, 2), (464, .newarray .int, 2), (466, .putfield 177, 3), (469, .aload_n 0, 1), (470, .bipush 96, 2), (472, .newarray .int, 2), (474, .putfield 180, 3), (477, .aload_n 0, 1), (478, .bipush 12, 2), (480, .newarray .int, 2), (482, .putfield 183, 3), (485, .aload_n 0, 1), (486, .bipush 12, 2), (488, .newarray .int, 2), (490, .putfield 186, 3), (493, .aload_n 0, 1), (494, .bipush 48, 2), (496, .newarray .int, 2), (498, .putfield 189, 3), (501, .aload_n 0, 1), (502, .bipush 48, 2), (504, .newarray .int, 2), (506, .putfield 192, 3), (509, .aload_n 0, 1), (510, .bipush 48, 2), (512, .newarray .int, 2), (514, .putfield 195, 3), (517, .aload_n 0, 1), (518, .bipush 48, 2), (520, .newarray .int, 2), (522, .putfield 198, 3), (525, .aload_n 0, 1), (526, .bipush 40, 2), (528, .newarray .int, 2), (530, .putfield 201, 3), (533, .aload_n 0, 1), (534, .bipush 8, 2), (536, .newarray .int, 2), (538, .putfield 204, 3), (541, .aload_n 0, 1), (542, .iconst 3, 1), (543, .newarray .int, 2), (545, .putfield 207, 3), (548, .aload_n 0, 1), (549, .iconst 3, 1), (550, .newarray .int, 2), (552, .putfield 210, 3), (555, .aload_n 0, 1), (556, .ldc 213, 2), (558, .newarray .int, 2), (560, .putfield 214, 3), (563, .aload_n 0, 1), (564, .bipush 40, 2), (566, .newarray .int, 2), (568, .putfield 217, 3), (571, .iconst 0, 1), (572, .istore_n 1, 1), (573, .iload_n 1, 1), (574, .bipush 12, 2), (576, .if_icmp .ge 16, 3), (579, .aload_n 0, 1), (580, .getfield 174, 3), (583, .iload_n 1, 1), (584, .iconst (-1), 1), (585, .iastore, 1), (586, .iinc 1 1, 3), (589, .goto (-16), 3), (592, .return_, 1)]
theorem dk_Mo_init (i : Nat) {pc : Nat} {ins : Instr} {len : Nat} (h : dt_Mo_init[i]? = some (pc, ins, len)) : decode m_Mo_init.2.1 pc = .ok (ins, len) := p_dk (b := m_Mo_init.2.1) (t := dt_Mo_init) (by decide +kernel) i h
def L_Mo_init_573 (k573 : Nat → Int → p_Hp → Option p_Hp) (v0 : Nat) (v1 : Int) (s0 : p_Hp) : Option p_Hp :=
  if 12 ≤ v1 then
    some s0
  else
    p_gd (p_is s0 v0 11) <|
    p_gd (p_is s0 (p_R s0 v0 59) 100) <|
    p_gd ((0 : Int) ≤ v1 ∧ v1 < (p_L s0 (p_R s0 v0 59) : Int)) <|
    p_bi (p_wZ s0 (p_R s0 v0 59) (v1 : Int).toNat (-1)) fun s5 =>
    p_bi (p_w (v1 + 1)) fun x7 =>
    k573 v0 x7 s5
def O_Mo_init_573  : Nat → Nat → Int → p_Hp → Option p_Hp
  | 0 => fun _ _ _ => none
  | n + 1 => L_Mo_init_573 (O_Mo_init_573 n)
def B_Mo_init_420  (v0 : Nat) (s0 : p_Hp) : Option p_Hp :=
  p_bi (p_nw s0 100 144) fun s1 =>
  p_gd (p_is s1 v0 11) <|
  p_bi (p_wR s1 v0 55 (p_N s0 + 1)) fun s4 =>
  p_bi (p_nw s4 100 3) fun s6 =>
  p_bi (p_wR s6 v0 56 (p_N s4 + 1)) fun s8 =>
  p_bi (p_nw s8 100 48) fun s10 =>
  p_bi (p_wR s10 v0 57 (p_N s8 + 1)) fun s12 =>
  p_bi (p_nw s12 100 192) fun s14 =>
  p_bi (p_wR s14 v0 58 (p_N s12 + 1)) fun s16 =>
  p_bi (p_nw s16 100 12) fun s18 =>
  p_bi (p_wR s18 v0 59 (p_N s16 + 1)) fun s20 =>
  p_bi (p_nw s20 100 12) fun s22 =>
  p_bi (p_wR s22 v0 60 (p_N s20 + 1)) fun s24 =>
  p_bi (p_nw s24 100 96) fun s26 =>
  p_bi (p_wR s26 v0 61 (p_N s24 + 1)) fun s28 =>
  p_bi (p_nw s28 100 12) fun s30 =>
  p_bi (p_wR s30 v0 62 (p_N s28 + 1)) fun s32 =>
  p_bi (p_nw s32 100 12) fun s34 =>
  p_bi (p_wR s34 v0 63 (p_N s32 + 1)) fun s36 =>
  p_bi (p_nw s36 100 48) fun s38 =>
  p_bi (p_wR s38 v0 64 (p_N s36 + 1)) fun s40 =>
  p_bi (p_nw s40 100 48) fun s42 =>
  p_bi (p_wR s42 v0 65 (p_N s40 + 1)) fun s44 =>
  p_bi (p_nw s44 100 48) fun s46 =>
  p_bi (p_wR s46 v0 66 (p_N s44 + 1)) fun s48 =>
  p_bi (p_nw s48 100 48) fun s50 =>
  p_bi (p_wR s50 v0 67 (p_N s48 + 1)) fun s52 =>
  p_bi (p_nw s52 100 40) fun s54 =>
  p_bi (p_wR s54 v0 74 (p_N s52 + 1)) fun s56 =>
  p_bi (p_nw s56 100 8) fun s58 =>
  p_bi (p_wR s58 v0 79 (p_N s56 + 1)) fun s60 =>
  p_bi (p_nw s60 100 3) fun s62 =>
  p_bi (p_wR s62 v0 81 (p_N s60 + 1)) fun s64 =>
  p_bi (p_nw s64 100 3) fun s66 =>
  p_bi (p_wR s66 v0 82 (p_N s64 + 1)) fun s68 =>
  p_bi (p_nw s68 100 234000) fun s70 =>
  p_bi (p_wR s70 v0 83 (p_N s68 + 1)) fun s72 =>
  p_bi (p_nw s72 100 40) fun s74 =>
  p_bi (p_wR s74 v0 88 (p_N s72 + 1)) fun s76 =>
  O_Mo_init_573 3000 v0 0 s76
def B_Mo_init_210  (v0 : Nat) (s0 : p_Hp) : Option p_Hp :=
  p_bi (p_nw s0 100 2001) fun s1 =>
  p_gd (p_is s1 v0 11) <|
  p_bi (p_wR s1 v0 29 (p_N s0 + 1)) fun s4 =>
  p_bi (p_nw s4 100 2001) fun s6 =>
  p_bi (p_wR s6 v0 30 (p_N s4 + 1)) fun s8 =>
  p_bi (p_nw s8 100 2001) fun s10 =>
  p_bi (p_wR s10 v0 31 (p_N s8 + 1)) fun s12 =>
  p_bi (p_nw s12 100 24012) fun s14 =>
  p_bi (p_wR s14 v0 32 (p_N s12 + 1)) fun s16 =>
  p_bi (p_nw s16 100 2001) fun s18 =>
  p_bi (p_wR s18 v0 33 (p_N s16 + 1)) fun s20 =>
  p_bi (p_nw s20 100 32016) fun s22 =>
  p_bi (p_wR s22 v0 34 (p_N s20 + 1)) fun s24 =>
  p_bi (p_nw s24 102 2001) fun s26 =>
  p_bi (p_wR s26 v0 35 (p_N s24 + 1)) fun s28 =>
  p_bi (p_nw s28 102 2001) fun s30 =>
  p_bi (p_wR s30 v0 36 (p_N s28 + 1)) fun s32 =>
  p_bi (p_nw s32 100 2001) fun s34 =>
  p_bi (p_wR s34 v0 37 (p_N s32 + 1)) fun s36 =>
  p_bi (p_nw s36 100 3) fun s38 =>
  p_bi (p_wR s38 v0 38 (p_N s36 + 1)) fun s40 =>
  p_bi (p_nw s40 100 3) fun s42 =>
  p_bi (p_wR s42 v0 39 (p_N s40 + 1)) fun s44 =>
  p_bi (p_nw s44 100 3) fun s46 =>
  p_bi (p_wR s46 v0 40 (p_N s44 + 1)) fun s48 =>
  p_bi (p_nw s48 100 360) fun s50 =>
  p_bi (p_wR s50 v0 41 (p_N s48 + 1)) fun s52 =>
  p_bi (p_nw s52 100 3) fun s54 =>
  p_bi (p_wR s54 v0 42 (p_N s52 + 1)) fun s56 =>
  p_bi (p_nw s56 100 600) fun s58 =>
  p_bi (p_wR s58 v0 43 (p_N s56 + 1)) fun s60 =>
  p_bi (p_nw s60 100 3) fun s62 =>
  p_bi (p_wR s62 v0 44 (p_N s60 + 1)) fun s64 =>
  p_bi (p_nw s64 100 180) fun s66 =>
  p_bi (p_wR s66 v0 45 (p_N s64 + 1)) fun s68 =>
  p_bi (p_nw s68 100 200) fun s70 =>
  p_bi (p_wR s70 v0 46 (p_N s68 + 1)) fun s72 =>
  p_bi (p_nw s72 100 3) fun s74 =>
  p_bi (p_wR s74 v0 48 (p_N s72 + 1)) fun s76 =>
  p_bi (p_nw s76 100 36) fun s78 =>
  p_bi (p_wR s78 v0 49 (p_N s76 + 1)) fun s80 =>
  p_bi (p_nw s80 100 36) fun s82 =>
  p_bi (p_wR s82 v0 50 (p_N s80 + 1)) fun s84 =>
  p_bi (p_nw s84 100 36) fun s86 =>
  p_bi (p_wR s86 v0 51 (p_N s84 + 1)) fun s88 =>
  p_bi (p_nw s88 100 144) fun s90 =>
  p_bi (p_wR s90 v0 52 (p_N s88 + 1)) fun s92 =>
  p_bi (p_nw s92 100 144) fun s94 =>
  p_bi (p_wR s94 v0 53 (p_N s92 + 1)) fun s96 =>
  p_bi (p_nw s96 100 144) fun s98 =>
  p_bi (p_wR s98 v0 54 (p_N s96 + 1)) fun s100 =>
  B_Mo_init_420 v0 s100
def F_Mo_init (v0 : Nat) (s0 : p_Hp) : Option p_Hp :=
  p_gd (1 ≤ v0) <|
  p_bi (p_nw s0 100 3) fun s2 =>
  p_gd (p_is s2 v0 11) <|
  p_bi (p_wR s2 v0 3 (p_N s0 + 1)) fun s5 =>
  p_bi (p_nw s5 100 3) fun s7 =>
  p_bi (p_wR s7 v0 4 (p_N s5 + 1)) fun s9 =>
  p_bi (p_nw s9 100 120) fun s11 =>
  p_bi (p_wR s11 v0 5 (p_N s9 + 1)) fun s13 =>
  p_bi (p_nw s13 100 120) fun s15 =>
  p_bi (p_wR s15 v0 6 (p_N s13 + 1)) fun s17 =>
  p_bi (p_nw s17 100 120) fun s19 =>
  p_bi (p_wR s19 v0 7 (p_N s17 + 1)) fun s21 =>
  p_bi (p_nw s21 100 360) fun s23 =>
  p_bi (p_wR s23 v0 8 (p_N s21 + 1)) fun s25 =>
  p_bi (p_nw s25 100 120) fun s27 =>
  p_bi (p_wR s27 v0 9 (p_N s25 + 1)) fun s29 =>
  p_bi (p_nw s29 100 120) fun s31 =>
  p_bi (p_wR s31 v0 10 (p_N s29 + 1)) fun s33 =>
  p_bi (p_nw s33 101 240) fun s35 =>
  p_bi (p_wR s35 v0 11 (p_N s33 + 1)) fun s37 =>
  p_bi (p_nw s37 100 120) fun s39 =>
  p_bi (p_wR s39 v0 12 (p_N s37 + 1)) fun s41 =>
  p_bi (p_nw s41 100 120) fun s43 =>
  p_bi (p_wR s43 v0 13 (p_N s41 + 1)) fun s45 =>
  p_bi (p_nw s45 102 120) fun s47 =>
  p_bi (p_wR s47 v0 14 (p_N s45 + 1)) fun s49 =>
  p_bi (p_nw s49 100 120) fun s51 =>
  p_bi (p_wR s51 v0 15 (p_N s49 + 1)) fun s53 =>
  p_bi (p_nw s53 100 120) fun s55 =>
  p_bi (p_wR s55 v0 16 (p_N s53 + 1)) fun s57 =>
  p_bi (p_nw s57 100 120) fun s59 =>
  p_bi (p_wR s59 v0 17 (p_N s57 + 1)) fun s61 =>
  p_bi (p_nw s61 100 120) fun s63 =>
  p_bi (p_wR s63 v0 18 (p_N s61 + 1)) fun s65 =>
  p_bi (p_nw s65 100 120) fun s67 =>
  p_bi (p_wR s67 v0 19 (p_N s65 + 1)) fun s69 =>
  p_bi (p_nw s69 100 120) fun s71 =>
  p_bi (p_wR s71 v0 20 (p_N s69 + 1)) fun s73 =>
  p_bi (p_nw s73 100 120) fun s75 =>
  p_bi (p_wR s75 v0 21 (p_N s73 + 1)) fun s77 =>
  p_bi (p_nw s77 100 960) fun s79 =>
  p_bi (p_wR s79 v0 22 (p_N s77 + 1)) fun s81 =>
  p_bi (p_nw s81 100 2001) fun s83 =>
  p_bi (p_wR s83 v0 24 (p_N s81 + 1)) fun s85 =>
  p_bi (p_nw s85 100 2001) fun s87 =>
  p_bi (p_wR s87 v0 25 (p_N s85 + 1)) fun s89 =>
  p_bi (p_nw s89 100 2001) fun s91 =>
  p_bi (p_wR s91 v0 26 (p_N s89 + 1)) fun s93 =>
  p_bi (p_nw s93 100 2001) fun s95 =>
  p_bi (p_wR s95 v0 27 (p_N s93 + 1)) fun s97 =>
  p_bi (p_nw s97 100 2001) fun s99 =>
  p_bi (p_wR s99 v0 28 (p_N s97 + 1)) fun s101 =>
  B_Mo_init_210 v0 s101
set_option maxRecDepth 100000 in
set_option maxHeartbeats 4000000 in
theorem tL_Mo_init_573 (K : p_K) (l : Launch) (k573 : Nat → Int → p_Hp → Option p_Hp) (hk573 : ∀ (v0 : Nat) (v1 : Int)  (s0 : p_Hp) (r : p_Hp), k573 v0 v1 s0 = some r → p_Go K l m_Mo_init 573 [(0, p_r v0), (1, p_i v1)] [] s0 (none, r)) (v0 : Nat) (v1 : Int) (s0 : p_Hp) (r : p_Hp) (h : L_Mo_init_573 k573 v0 v1 s0 = some r) : p_Go K l m_Mo_init 573 [(0, p_r v0), (1, p_i v1)] [] s0 (none, r) := by
  unfold L_Mo_init_573 at h
  refine g_iload_n (i := 1) (j := 1) (dk_Mo_init 280 rfl) rfl rfl ?_
  refine g_bipush (dk_Mo_init 281 rfl) (by decide +kernel) (by decide) ?_
  refine g_icmp_ge 592 (dk_Mo_init 282 rfl) (by decide) (fun b1 => ?_) (fun b1 => ?_)
  · have h := p_ifT b1 h
    cases h
    exact g_ret rfl rfl (dk_Mo_init 290 rfl) (fun _ => rfl)
  · have h := p_ifF b1 h
    refine g_aload_n (i := 0) (j := 0) (dk_Mo_init 283 rfl) rfl rfl ?_
    obtain ⟨c2, h⟩ := p_gdE h
    refine g_getR fl_Mo_174 (Or.inr ⟨_, rfl⟩) (dk_Mo_init 284 rfl) c2 ?_
    refine g_iload_n (i := 1) (j := 1) (dk_Mo_init 285 rfl) rfl rfl ?_
    refine g_iconst (dk_Mo_init 286 rfl) (by decide) ?_
    obtain ⟨c3, h⟩ := p_gdE h
    obtain ⟨c4, h⟩ := p_gdE h
    refine g_iastore (dk_Mo_init 287 rfl) c3 c4.1 c4.2 ?_
    refine p_ltS (P := fun q => p_Go K l m_Mo_init 586 [(0, p_r v0), (1, p_i v1)] [] q _) (p_xZ _ _ _ _) ?_ h
    intro s5 hs6 h
    refine g_iinc (j := 1) [(1, p_i (p_w (v1 + 1))), (0, p_r v0)] (dk_Mo_init 288 rfl) rfl (by decide) rfl ?_
    refine p_ltG (P := fun q => p_Go K l m_Mo_init 589 [(1, p_i q), (0, p_r v0)] [] s5 _) ?_ h
    intro x7 h
    refine g_goto 573 (dk_Mo_init 289 rfl) (by decide) ?_
    refine g_sub [(0, p_r v0), (1, p_i x7)] [1, 0] rfl ?_
    exact hk573 v0 x7 s5 _ h
set_option maxRecDepth 100000 in
set_option maxHeartbeats 4000000 in
theorem tO_Mo_init_573 (K : p_K) (l : Launch)  : ∀ (n : Nat) (v0 : Nat) (v1 : Int) (s0 : p_Hp) (r : p_Hp), O_Mo_init_573 n v0 v1 s0 = some r → p_Go K l m_Mo_init 573 [(0, p_r v0), (1, p_i v1)] [] s0 (none, r) := by
  intro n
  induction n with
  | zero => intro v0 v1 s0 r h; cases (show (none : Option p_Hp) = some r from h)
  | succ n ih => intro v0 v1 s0 r h; exact tL_Mo_init_573 K l _ ih v0 v1 s0 r h
set_option maxRecDepth 100000 in
set_option maxHeartbeats 4000000 in
theorem tB_Mo_init_420 (K : p_K) (l : Launch)  (v0 : Nat) (s0 : p_Hp) (r : p_Hp) (h : B_Mo_init_420 v0 s0 = some r) : p_Go K l m_Mo_init 420 [(0, p_r v0)] [] s0 (none, r) := by
  unfold B_Mo_init_420 at h
  refine g_aload_n (i := 0) (j := 0) (dk_Mo_init 202 rfl) rfl rfl ?_
  refine g_sipush (dk_Mo_init 203 rfl) (by decide +kernel) (by decide) ?_
  refine g_newarray (i := 0) (t := 100) (n := 144) rfl (by decide +kernel) rfl rfl tw_1_69 (dk_Mo_init 204 rfl) (by decide) (by decide) ?_
  refine p_ltS (P := fun q => p_Go K l m_Mo_init 426 [(0, p_r v0)] [p_r (p_N s0 + 1), p_r v0] q _) (p_x_nw _ _ _) ?_ h
  intro s1 hs2 h
  obtain ⟨c3, h⟩ := p_gdE h
  refine g_putR fl_Mo_162 (Or.inr ⟨_, rfl⟩) (Or.inr ⟨rfl, rfl⟩) (dk_Mo_init 205 rfl) c3 ?_
  refine p_ltS (P := fun q => p_Go K l m_Mo_init 429 [(0, p_r v0)] [] q _) (p_xR _ _ _ _) ?_ h
  intro s4 hs5 h
  refine g_aload_n (i := 0) (j := 0) (dk_Mo_init 206 rfl) rfl rfl ?_
  refine g_iconst (dk_Mo_init 207 rfl) (by decide) ?_
  refine g_newarray (i := 0) (t := 100) (n := 3) rfl (by decide +kernel) rfl rfl tw_1_69 (dk_Mo_init 208 rfl) (by decide) (by decide) ?_
  refine p_ltS (P := fun q => p_Go K l m_Mo_init 433 [(0, p_r v0)] [p_r (p_N s4 + 1), p_r v0] q _) (p_x_nw _ _ _) ?_ h
  intro s6 hs7 h
  refine g_putR fl_Mo_165 (Or.inr ⟨_, rfl⟩) (Or.inr ⟨rfl, rfl⟩) (dk_Mo_init 209 rfl) (c3.up (hs5.trans hs7)) ?_
  refine p_ltS (P := fun q => p_Go K l m_Mo_init 436 [(0, p_r v0)] [] q _) (p_xR _ _ _ _) ?_ h
  intro s8 hs9 h
  refine g_aload_n (i := 0) (j := 0) (dk_Mo_init 210 rfl) rfl rfl ?_
  refine g_bipush (dk_Mo_init 211 rfl) (by decide +kernel) (by decide) ?_
  refine g_newarray (i := 0) (t := 100) (n := 48) rfl (by decide +kernel) rfl rfl tw_1_69 (dk_Mo_init 212 rfl) (by decide) (by decide) ?_
  refine p_ltS (P := fun q => p_Go K l m_Mo_init 441 [(0, p_r v0)] [p_r (p_N s8 + 1), p_r v0] q _) (p_x_nw _ _ _) ?_ h
  intro s10 hs11 h
  refine g_putR fl_Mo_168 (Or.inr ⟨_, rfl⟩) (Or.inr ⟨rfl, rfl⟩) (dk_Mo_init 213 rfl) (c3.up (hs5.trans (hs7.trans (hs9.trans hs11)))) ?_
  refine p_ltS (P := fun q => p_Go K l m_Mo_init 444 [(0, p_r v0)] [] q _) (p_xR _ _ _ _) ?_ h
  intro s12 hs13 h
  refine g_aload_n (i := 0) (j := 0) (dk_Mo_init 214 rfl) rfl rfl ?_
  refine g_sipush (dk_Mo_init 215 rfl) (by decide +kernel) (by decide) ?_
  refine g_newarray (i := 0) (t := 100) (n := 192) rfl (by decide +kernel) rfl rfl tw_1_69 (dk_Mo_init 216 rfl) (by decide) (by decide) ?_
  refine p_ltS (P := fun q => p_Go K l m_Mo_init 450 [(0, p_r v0)] [p_r (p_N s12 + 1), p_r v0] q _) (p_x_nw _ _ _) ?_ h
  intro s14 hs15 h
  refine g_putR fl_Mo_171 (Or.inr ⟨_, rfl⟩) (Or.inr ⟨rfl, rfl⟩) (dk_Mo_init 217 rfl) (c3.up (hs5.trans (hs7.trans (hs9.trans (hs11.trans (hs13.trans hs15)))))) ?_
  refine p_ltS (P := fun q => p_Go K l m_Mo_init 453 [(0, p_r v0)] [] q _) (p_xR _ _ _ _) ?_ h
  intro s16 hs17 h
  refine g_aload_n (i := 0) (j := 0) (dk_Mo_init 218 rfl) rfl rfl ?_
  refine g_bipush (dk_Mo_init 219 rfl) (by decide +kernel) (by decide) ?_
  refine g_newarray (i := 0) (t := 100) (n := 12) rfl (by decide +kernel) rfl rfl tw_1_69 (dk_Mo_init 220 rfl) (by decide) (by decide) ?_
  refine p_ltS (P := fun q => p_Go K l m_Mo_init 458 [(0, p_r v0)] [p_r (p_N s16 + 1), p_r v0] q _) (p_x_nw _ _ _) ?_ h
  intro s18 hs19 h
  refine g_putR fl_Mo_174 (Or.inr ⟨_, rfl⟩) (Or.inr ⟨rfl, rfl⟩) (dk_Mo_init 221 rfl) (c3.up (hs5.trans (hs7.trans (hs9.trans (hs11.trans (hs13.trans (hs15.trans (hs17.trans hs19)))))))) ?_
  refine p_ltS (P := fun q => p_Go K l m_Mo_init 461 [(0, p_r v0)] [] q _) (p_xR _ _ _ _) ?_ h
  intro s20 hs21 h
  refine g_aload_n (i := 0) (j := 0) (dk_Mo_init 222 rfl) rfl rfl ?_
  refine g_bipush (dk_Mo_init 223 rfl) (by decide +kernel) (by decide) ?_
  refine g_newarray (i := 0) (t := 100) (n := 12) rfl (by decide +kernel) rfl rfl tw_1_69 (dk_Mo_init 224 rfl) (by decide) (by decide) ?_
  refine p_ltS (P := fun q => p_Go K l m_Mo_init 466 [(0, p_r v0)] [p_r (p_N s20 + 1), p_r v0] q _) (p_x_nw _ _ _) ?_ h
  intro s22 hs23 h
  refine g_putR fl_Mo_177 (Or.inr ⟨_, rfl⟩) (Or.inr ⟨rfl, rfl⟩) (dk_Mo_init 225 rfl) (c3.up (hs5.trans (hs7.trans (hs9.trans (hs11.trans (hs13.trans (hs15.trans (hs17.trans (hs19.trans (hs21.trans hs23)))))))))) ?_
  refine p_ltS (P := fun q => p_Go K l m_Mo_init 469 [(0, p_r v0)] [] q _) (p_xR _ _ _ _) ?_ h
  intro s24 hs25 h
  refine g_aload_n (i := 0) (j := 0) (dk_Mo_init 226 rfl) rfl rfl ?_
  refine g_bipush (dk_Mo_init 227 rfl) (by decide +kernel) (by decide) ?_
  refine g_newarray (i := 0) (t := 100) (n := 96) rfl (by decide +kernel) rfl rfl tw_1_69 (dk_Mo_init 228 rfl) (by decide) (by decide) ?_
  refine p_ltS (P := fun q => p_Go K l m_Mo_init 474 [(0, p_r v0)] [p_r (p_N s24 + 1), p_r v0] q _) (p_x_nw _ _ _) ?_ h
  intro s26 hs27 h
  refine g_putR fl_Mo_180 (Or.inr ⟨_, rfl⟩) (Or.inr ⟨rfl, rfl⟩) (dk_Mo_init 229 rfl) (c3.up (hs5.trans (hs7.trans (hs9.trans (hs11.trans (hs13.trans (hs15.trans (hs17.trans (hs19.trans (hs21.trans (hs23.trans (hs25.trans hs27)))))))))))) ?_
  refine p_ltS (P := fun q => p_Go K l m_Mo_init 477 [(0, p_r v0)] [] q _) (p_xR _ _ _ _) ?_ h
  intro s28 hs29 h
  refine g_aload_n (i := 0) (j := 0) (dk_Mo_init 230 rfl) rfl rfl ?_
  refine g_bipush (dk_Mo_init 231 rfl) (by decide +kernel) (by decide) ?_
  refine g_newarray (i := 0) (t := 100) (n := 12) rfl (by decide +kernel) rfl rfl tw_1_69 (dk_Mo_init 232 rfl) (by decide) (by decide) ?_
  refine p_ltS (P := fun q => p_Go K l m_Mo_init 482 [(0, p_r v0)] [p_r (p_N s28 + 1), p_r v0] q _) (p_x_nw _ _ _) ?_ h
  intro s30 hs31 h
  refine g_putR fl_Mo_183 (Or.inr ⟨_, rfl⟩) (Or.inr ⟨rfl, rfl⟩) (dk_Mo_init 233 rfl) (c3.up (hs5.trans (hs7.trans (hs9.trans (hs11.trans (hs13.trans (hs15.trans (hs17.trans (hs19.trans (hs21.trans (hs23.trans (hs25.trans (hs27.trans (hs29.trans hs31)))))))))))))) ?_
  refine p_ltS (P := fun q => p_Go K l m_Mo_init 485 [(0, p_r v0)] [] q _) (p_xR _ _ _ _) ?_ h
  intro s32 hs33 h
  refine g_aload_n (i := 0) (j := 0) (dk_Mo_init 234 rfl) rfl rfl ?_
  refine g_bipush (dk_Mo_init 235 rfl) (by decide +kernel) (by decide) ?_
  refine g_newarray (i := 0) (t := 100) (n := 12) rfl (by decide +kernel) rfl rfl tw_1_69 (dk_Mo_init 236 rfl) (by decide) (by decide) ?_
  refine p_ltS (P := fun q => p_Go K l m_Mo_init 490 [(0, p_r v0)] [p_r (p_N s32 + 1), p_r v0] q _) (p_x_nw _ _ _) ?_ h
  intro s34 hs35 h
  refine g_putR fl_Mo_186 (Or.inr ⟨_, rfl⟩) (Or.inr ⟨rfl, rfl⟩) (dk_Mo_init 237 rfl) (c3.up (hs5.trans (hs7.trans (hs9.trans (hs11.trans (hs13.trans (hs15.trans (hs17.trans (hs19.trans (hs21.trans (hs23.trans (hs25.trans (hs27.trans (hs29.trans (hs31.trans (hs33.trans hs35)))))))))))))))) ?_
  refine p_ltS (P := fun q => p_Go K l m_Mo_init 493 [(0, p_r v0)] [] q _) (p_xR _ _ _ _) ?_ h
  intro s36 hs37 h
  refine g_aload_n (i := 0) (j := 0) (dk_Mo_init 238 rfl) rfl rfl ?_
  refine g_bipush (dk_Mo_init 239 rfl) (by decide +kernel) (by decide) ?_
  refine g_newarray (i := 0) (t := 100) (n := 48) rfl (by decide +kernel) rfl rfl tw_1_69 (dk_Mo_init 240 rfl) (by decide) (by decide) ?_
  refine p_ltS (P := fun q => p_Go K l m_Mo_init 498 [(0, p_r v0)] [p_r (p_N s36 + 1), p_r v0] q _) (p_x_nw _ _ _) ?_ h
  intro s38 hs39 h
  refine g_putR fl_Mo_189 (Or.inr ⟨_, rfl⟩) (Or.inr ⟨rfl, rfl⟩) (dk_Mo_init 241 rfl) (c3.up (hs5.trans (hs7.trans (hs9.trans (hs11.trans (hs13.trans (hs15.trans (hs17.trans (hs19.trans (hs21.trans (hs23.trans (hs25.trans (hs27.trans (hs29.trans (hs31.trans (hs33.trans (hs35.trans (hs37.trans hs39)))))))))))))))))) ?_
  refine p_ltS (P := fun q => p_Go K l m_Mo_init 501 [(0, p_r v0)] [] q _) (p_xR _ _ _ _) ?_ h
  intro s40 hs41 h
  refine g_aload_n (i := 0) (j := 0) (dk_Mo_init 242 rfl) rfl rfl ?_
  refine g_bipush (dk_Mo_init 243 rfl) (by decide +kernel) (by decide) ?_
  refine g_newarray (i := 0) (t := 100) (n := 48) rfl (by decide +kernel) rfl rfl tw_1_69 (dk_Mo_init 244 rfl) (by decide) (by decide) ?_
  refine p_ltS (P := fun q => p_Go K l m_Mo_init 506 [(0, p_r v0)] [p_r (p_N s40 + 1), p_r v0] q _) (p_x_nw _ _ _) ?_ h
  intro s42 hs43 h
  refine g_putR fl_Mo_192 (Or.inr ⟨_, rfl⟩) (Or.inr ⟨rfl, rfl⟩) (dk_Mo_init 245 rfl) (c3.up (hs5.trans (hs7.trans (hs9.trans (hs11.trans (hs13.trans (hs15.trans (hs17.trans (hs19.trans (hs21.trans (hs23.trans (hs25.trans (hs27.trans (hs29.trans (hs31.trans (hs33.trans (hs35.trans (hs37.trans (hs39.trans (hs41.trans hs43)))))))))))))))))))) ?_
  refine p_ltS (P := fun q => p_Go K l m_Mo_init 509 [(0, p_r v0)] [] q _) (p_xR _ _ _ _) ?_ h
  intro s44 hs45 h
  refine g_aload_n (i := 0) (j := 0) (dk_Mo_init 246 rfl) rfl rfl ?_
  refine g_bipush (dk_Mo_init 247 rfl) (by decide +kernel) (by decide) ?_
  refine g_newarray (i := 0) (t := 100) (n := 48) rfl (by decide +kernel) rfl rfl tw_1_69 (dk_Mo_init 248 rfl) (by decide) (by decide) ?_
  refine p_ltS (P := fun q => p_Go K l m_Mo_init 514 [(0, p_r v0)] [p_r (p_N s44 + 1), p_r v0] q _) (p_x_nw _ _ _) ?_ h
  intro s46 hs47 h
  refine g_putR fl_Mo_195 (Or.inr ⟨_, rfl⟩) (Or.inr ⟨rfl, rfl⟩) (dk_Mo_init 249 rfl) (c3.up (hs5.trans (hs7.trans (hs9.trans (hs11.trans (hs13.trans (hs15.trans (hs17.trans (hs19.trans (hs21.trans (hs23.trans (hs25.trans (hs27.trans (hs29.trans (hs31.trans (hs33.trans (hs35.trans (hs37.trans (hs39.trans (hs41.trans (hs43.trans (hs45.trans hs47)))))))))))))))))))))) ?_
  refine p_ltS (P := fun q => p_Go K l m_Mo_init 517 [(0, p_r v0)] [] q _) (p_xR _ _ _ _) ?_ h
  intro s48 hs49 h
  refine g_aload_n (i := 0) (j := 0) (dk_Mo_init 250 rfl) rfl rfl ?_
  refine g_bipush (dk_Mo_init 251 rfl) (by decide +kernel) (by decide) ?_
  refine g_newarray (i := 0) (t := 100) (n := 48) rfl (by decide +kernel) rfl rfl tw_1_69 (dk_Mo_init 252 rfl) (by decide) (by decide) ?_
  refine p_ltS (P := fun q => p_Go K l m_Mo_init 522 [(0, p_r v0)] [p_r (p_N s48 + 1), p_r v0] q _) (p_x_nw _ _ _) ?_ h
  intro s50 hs51 h
  refine g_putR fl_Mo_198 (Or.inr ⟨_, rfl⟩) (Or.inr ⟨rfl, rfl⟩) (dk_Mo_init 253 rfl) (c3.up (hs5.trans (hs7.trans (hs9.trans (hs11.trans (hs13.trans (hs15.trans (hs17.trans (hs19.trans (hs21.trans (hs23.trans (hs25.trans (hs27.trans (hs29.trans (hs31.trans (hs33.trans (hs35.trans (hs37.trans (hs39.trans (hs41.trans (hs43.trans (hs45.trans (hs47.trans (hs49.trans hs51)))))))))))))))))))))))) ?_
  refine p_ltS (P := fun q => p_Go K l m_Mo_init 525 [(0, p_r v0)] [] q _) (p_xR _ _ _ _) ?_ h
  intro s52 hs53 h
  refine g_aload_n (i := 0) (j := 0) (dk_Mo_init 254 rfl) rfl rfl ?_
  refine g_bipush (dk_Mo_init 255 rfl) (by decide +kernel) (by decide) ?_
  refine g_newarray (i := 0) (t := 100) (n := 40) rfl (by decide +kernel) rfl rfl tw_1_69 (dk_Mo_init 256 rfl) (by decide) (by decide) ?_
  refine p_ltS (P := fun q => p_Go K l m_Mo_init 530 [(0, p_r v0)] [p_r (p_N s52 + 1), p_r v0] q _) (p_x_nw _ _ _) ?_ h
  intro s54 hs55 h
  refine g_putR fl_Mo_201 (Or.inr ⟨_, rfl⟩) (Or.inr ⟨rfl, rfl⟩) (dk_Mo_init 257 rfl) (c3.up (hs5.trans (hs7.trans (hs9.trans (hs11.trans (hs13.trans (hs15.trans (hs17.trans (hs19.trans (hs21.trans (hs23.trans (hs25.trans (hs27.trans (hs29.trans (hs31.trans (hs33.trans (hs35.trans (hs37.trans (hs39.trans (hs41.trans (hs43.trans (hs45.trans (hs47.trans (hs49.trans (hs51.trans (hs53.trans hs55)))))))))))))))))))))))))) ?_
  refine p_ltS (P := fun q => p_Go K l m_Mo_init 533 [(0, p_r v0)] [] q _) (p_xR _ _ _ _) ?_ h
  intro s56 hs57 h
  refine g_aload_n (i := 0) (j := 0) (dk_Mo_init 258 rfl) rfl rfl ?_
  refine g_bipush (dk_Mo_init 259 rfl) (by decide +kernel) (by decide) ?_
  refine g_newarray (i := 0) (t := 100) (n := 8) rfl (by decide +kernel) rfl rfl tw_1_69 (dk_Mo_init 260 rfl) (by decide) (by decide) ?_
  refine p_ltS (P := fun q => p_Go K l m_Mo_init 538 [(0, p_r v0)] [p_r (p_N s56 + 1), p_r v0] q _) (p_x_nw _ _ _) ?_ h
  intro s58 hs59 h
  refine g_putR fl_Mo_204 (Or.inr ⟨_, rfl⟩) (Or.inr ⟨rfl, rfl⟩) (dk_Mo_init 261 rfl) (c3.up (hs5.trans (hs7.trans (hs9.trans (hs11.trans (hs13.trans (hs15.trans (hs17.trans (hs19.trans (hs21.trans (hs23.trans (hs25.trans (hs27.trans (hs29.trans (hs31.trans (hs33.trans (hs35.trans (hs37.trans (hs39.trans (hs41.trans (hs43.trans (hs45.trans (hs47.trans (hs49.trans (hs51.trans (hs53.trans (hs55.trans (hs57.trans hs59)))))))))))))))))))))))))))) ?_
  refine p_ltS (P := fun q => p_Go K l m_Mo_init 541 [(0, p_r v0)] [] q _) (p_xR _ _ _ _) ?_ h
  intro s60 hs61 h
  refine g_aload_n (i := 0) (j := 0) (dk_Mo_init 262 rfl) rfl rfl ?_
  refine g_iconst (dk_Mo_init 263 rfl) (by decide) ?_
  refine g_newarray (i := 0) (t := 100) (n := 3) rfl (by decide +kernel) rfl rfl tw_1_69 (dk_Mo_init 264 rfl) (by decide) (by decide) ?_
  refine p_ltS (P := fun q => p_Go K l m_Mo_init 545 [(0, p_r v0)] [p_r (p_N s60 + 1), p_r v0] q _) (p_x_nw _ _ _) ?_ h
  intro s62 hs63 h
  refine g_putR fl_Mo_207 (Or.inr ⟨_, rfl⟩) (Or.inr ⟨rfl, rfl⟩) (dk_Mo_init 265 rfl) (c3.up (hs5.trans (hs7.trans (hs9.trans (hs11.trans (hs13.trans (hs15.trans (hs17.trans (hs19.trans (hs21.trans (hs23.trans (hs25.trans (hs27.trans (hs29.trans (hs31.trans (hs33.trans (hs35.trans (hs37.trans (hs39.trans (hs41.trans (hs43.trans (hs45.trans (hs47.trans (hs49.trans (hs51.trans (hs53.trans (hs55.trans (hs57.trans (hs59.trans (hs61.trans hs63)))))))))))))))))))))))))))))) ?_
  refine p_ltS (P := fun q => p_Go K l m_Mo_init 548 [(0, p_r v0)] [] q _) (p_xR _ _ _ _) ?_ h
  intro s64 hs65 h
  refine g_aload_n (i := 0) (j := 0) (dk_Mo_init 266 rfl) rfl rfl ?_
  refine g_iconst (dk_Mo_init 267 rfl) (by decide) ?_
  refine g_newarray (i := 0) (t := 100) (n := 3) rfl (by decide +kernel) rfl rfl tw_1_69 (dk_Mo_init 268 rfl) (by decide) (by decide) ?_
  refine p_ltS (P := fun q => p_Go K l m_Mo_init 552 [(0, p_r v0)] [p_r (p_N s64 + 1), p_r v0] q _) (p_x_nw _ _ _) ?_ h
  intro s66 hs67 h
  refine g_putR fl_Mo_210 (Or.inr ⟨_, rfl⟩) (Or.inr ⟨rfl, rfl⟩) (dk_Mo_init 269 rfl) (c3.up (hs5.trans (hs7.trans (hs9.trans (hs11.trans (hs13.trans (hs15.trans (hs17.trans (hs19.trans (hs21.trans (hs23.trans (hs25.trans (hs27.trans (hs29.trans (hs31.trans (hs33.trans (hs35.trans (hs37.trans (hs39.trans (hs41.trans (hs43.trans (hs45.trans (hs47.trans (hs49.trans (hs51.trans (hs53.trans (hs55.trans (hs57.trans (hs59.trans (hs61.trans (hs63.trans (hs65.trans hs67)))))))))))))))))))))))))))))))) ?_
  refine p_ltS (P := fun q => p_Go K l m_Mo_init 555 [(0, p_r v0)] [] q _) (p_xR _ _ _ _) ?_ h
  intro s68 hs69 h
  refine g_aload_n (i := 0) (j := 0) (dk_Mo_init 270 rfl) rfl rfl ?_
  refine g_ldc (x := 234000) (dk_Mo_init 271 rfl) tw_6_24 (by decide) (by decide) ?_
  refine g_newarray (i := 0) (t := 100) (n := 234000) rfl (by decide +kernel) rfl rfl tw_1_69 (dk_Mo_init 272 rfl) (by decide) (by decide) ?_
  refine p_ltS (P := fun q => p_Go K l m_Mo_init 560 [(0, p_r v0)] [p_r (p_N s68 + 1), p_r v0] q _) (p_x_nw _ _ _) ?_ h
  intro s70 hs71 h
  refine g_putR fl_Mo_214 (Or.inr ⟨_, rfl⟩) (Or.inr ⟨rfl, rfl⟩) (dk_Mo_init 273 rfl) (c3.up (hs5.trans (hs7.trans (hs9.trans (hs11.trans (hs13.trans (hs15.trans (hs17.trans (hs19.trans (hs21.trans (hs23.trans (hs25.trans (hs27.trans (hs29.trans (hs31.trans (hs33.trans (hs35.trans (hs37.trans (hs39.trans (hs41.trans (hs43.trans (hs45.trans (hs47.trans (hs49.trans (hs51.trans (hs53.trans (hs55.trans (hs57.trans (hs59.trans (hs61.trans (hs63.trans (hs65.trans (hs67.trans (hs69.trans hs71)))))))))))))))))))))))))))))))))) ?_
  refine p_ltS (P := fun q => p_Go K l m_Mo_init 563 [(0, p_r v0)] [] q _) (p_xR _ _ _ _) ?_ h
  intro s72 hs73 h
  refine g_aload_n (i := 0) (j := 0) (dk_Mo_init 274 rfl) rfl rfl ?_
  refine g_bipush (dk_Mo_init 275 rfl) (by decide +kernel) (by decide) ?_
  refine g_newarray (i := 0) (t := 100) (n := 40) rfl (by decide +kernel) rfl rfl tw_1_69 (dk_Mo_init 276 rfl) (by decide) (by decide) ?_
  refine p_ltS (P := fun q => p_Go K l m_Mo_init 568 [(0, p_r v0)] [p_r (p_N s72 + 1), p_r v0] q _) (p_x_nw _ _ _) ?_ h
  intro s74 hs75 h
  refine g_putR fl_Mo_217 (Or.inr ⟨_, rfl⟩) (Or.inr ⟨rfl, rfl⟩) (dk_Mo_init 277 rfl) (c3.up (hs5.trans (hs7.trans (hs9.trans (hs11.trans (hs13.trans (hs15.trans (hs17.trans (hs19.trans (hs21.trans (hs23.trans (hs25.trans (hs27.trans (hs29.trans (hs31.trans (hs33.trans (hs35.trans (hs37.trans (hs39.trans (hs41.trans (hs43.trans (hs45.trans (hs47.trans (hs49.trans (hs51.trans (hs53.trans (hs55.trans (hs57.trans (hs59.trans (hs61.trans (hs63.trans (hs65.trans (hs67.trans (hs69.trans (hs71.trans (hs73.trans hs75)))))))))))))))))))))))))))))))))))) ?_
  refine p_ltS (P := fun q => p_Go K l m_Mo_init 571 [(0, p_r v0)] [] q _) (p_xR _ _ _ _) ?_ h
  intro s76 hs77 h
  refine g_iconst (dk_Mo_init 278 rfl) (by decide) ?_
  refine g_istore_n (i := 1) [(1, p_i 0), (0, p_r v0)] (dk_Mo_init 279 rfl) rfl (by decide) rfl ?_
  refine g_sub [(0, p_r v0), (1, p_i 0)] [1, 0] rfl ?_
  exact tO_Mo_init_573 K l 3000 v0 0 s76 _ h
set_option maxRecDepth 100000 in
set_option maxHeartbeats 4000000 in
theorem tB_Mo_init_210 (K : p_K) (l : Launch)  (v0 : Nat) (s0 : p_Hp) (r : p_Hp) (h : B_Mo_init_210 v0 s0 = some r) : p_Go K l m_Mo_init 210 [(0, p_r v0)] [] s0 (none, r) := by
  unfold B_Mo_init_210 at h
  refine g_aload_n (i := 0) (j := 0) (dk_Mo_init 102 rfl) rfl rfl ?_
  refine g_sipush (dk_Mo_init 103 rfl) (by decide +kernel) (by decide) ?_
  refine g_newarray (i := 0) (t := 100) (n := 2001) rfl (by decide +kernel) rfl rfl tw_1_69 (dk_Mo_init 104 rfl) (by decide) (by decide) ?_
  refine p_ltS (P := fun q => p_Go K l m_Mo_init 216 [(0, p_r v0)] [p_r (p_N s0 + 1), p_r v0] q _) (p_x_nw _ _ _) ?_ h
  intro s1 hs2 h
  obtain ⟨c3, h⟩ := p_gdE h
  refine g_putR fl_Mo_87 (Or.inr ⟨_, rfl⟩) (Or.inr ⟨rfl, rfl⟩) (dk_Mo_init 105 rfl) c3 ?_
  refine p_ltS (P := fun q => p_Go K l m_Mo_init 219 [(0, p_r v0)] [] q _) (p_xR _ _ _ _) ?_ h
  intro s4 hs5 h
  refine g_aload_n (i := 0) (j := 0) (dk_Mo_init 106 rfl) rfl rfl ?_
  refine g_sipush (dk_Mo_init 107 rfl) (by decide +kernel) (by decide) ?_
  refine g_newarray (i := 0) (t := 100) (n := 2001) rfl (by decide +kernel) rfl rfl tw_1_69 (dk_Mo_init 108 rfl) (by decide) (by decide) ?_
  refine p_ltS (P := fun q => p_Go K l m_Mo_init 225 [(0, p_r v0)] [p_r (p_N s4 + 1), p_r v0] q _) (p_x_nw _ _ _) ?_ h
  intro s6 hs7 h
  refine g_putR fl_Mo_90 (Or.inr ⟨_, rfl⟩) (Or.inr ⟨rfl, rfl⟩) (dk_Mo_init 109 rfl) (c3.up (hs5.trans hs7)) ?_
  refine p_ltS (P := fun q => p_Go K l m_Mo_init 228 [(0, p_r v0)] [] q _) (p_xR _ _ _ _) ?_ h
  intro s8 hs9 h
  refine g_aload_n (i := 0) (j := 0) (dk_Mo_init 110 rfl) rfl rfl ?_
  refine g_sipush (dk_Mo_init 111 rfl) (by decide +kernel) (by decide) ?_
  refine g_newarray (i := 0) (t := 100) (n := 2001) rfl (by decide +kernel) rfl rfl tw_1_69 (dk_Mo_init 112 rfl) (by decide) (by decide) ?_
  refine p_ltS (P := fun q => p_Go K l m_Mo_init 234 [(0, p_r v0)] [p_r (p_N s8 + 1), p_r v0] q _) (p_x_nw _ _ _) ?_ h
  intro s10 hs11 h
  refine g_putR fl_Mo_93 (Or.inr ⟨_, rfl⟩) (Or.inr ⟨rfl, rfl⟩) (dk_Mo_init 113 rfl) (c3.up (hs5.trans (hs7.trans (hs9.trans hs11)))) ?_
  refine p_ltS (P := fun q => p_Go K l m_Mo_init 237 [(0, p_r v0)] [] q _) (p_xR _ _ _ _) ?_ h
  intro s12 hs13 h
  refine g_aload_n (i := 0) (j := 0) (dk_Mo_init 114 rfl) rfl rfl ?_
  refine g_sipush (dk_Mo_init 115 rfl) (by decide +kernel) (by decide) ?_
  refine g_newarray (i := 0) (t := 100) (n := 24012) rfl (by decide +kernel) rfl rfl tw_1_69 (dk_Mo_init 116 rfl) (by decide) (by decide) ?_
  refine p_ltS (P := fun q => p_Go K l m_Mo_init 243 [(0, p_r v0)] [p_r (p_N s12 + 1), p_r v0] q _) (p_x_nw _ _ _) ?_ h
  intro s14 hs15 h
  refine g_putR fl_Mo_96 (Or.inr ⟨_, rfl⟩) (Or.inr ⟨rfl, rfl⟩) (dk_Mo_init 117 rfl) (c3.up (hs5.trans (hs7.trans (hs9.trans (hs11.trans (hs13.trans hs15)))))) ?_
  refine p_ltS (P := fun q => p_Go K l m_Mo_init 246 [(0, p_r v0)] [] q _) (p_xR _ _ _ _) ?_ h
  intro s16 hs17 h
  refine g_aload_n (i := 0) (j := 0) (dk_Mo_init 118 rfl) rfl rfl ?_
  refine g_sipush (dk_Mo_init 119 rfl) (by decide +kernel) (by decide) ?_
  refine g_newarray (i := 0) (t := 100) (n := 2001) rfl (by decide +kernel) rfl rfl tw_1_69 (dk_Mo_init 120 rfl) (by decide) (by decide) ?_
  refine p_ltS (P := fun q => p_Go K l m_Mo_init 252 [(0, p_r v0)] [p_r (p_N s16 + 1), p_r v0] q _) (p_x_nw _ _ _) ?_ h
  intro s18 hs19 h
  refine g_putR fl_Mo_99 (Or.inr ⟨_, rfl⟩) (Or.inr ⟨rfl, rfl⟩) (dk_Mo_init 121 rfl) (c3.up (hs5.trans (hs7.trans (hs9.trans (hs11.trans (hs13.trans (hs15.trans (hs17.trans hs19)))))))) ?_
  refine p_ltS (P := fun q => p_Go K l m_Mo_init 255 [(0, p_r v0)] [] q _) (p_xR _ _ _ _) ?_ h
  intro s20 hs21 h
  refine g_aload_n (i := 0) (j := 0) (dk_Mo_init 122 rfl) rfl rfl ?_
  refine g_sipush (dk_Mo_init 123 rfl) (by decide +kernel) (by decide) ?_
  refine g_newarray (i := 0) (t := 100) (n := 32016) rfl (by decide +kernel) rfl rfl tw_1_69 (dk_Mo_init 124 rfl) (by decide) (by decide) ?_
  refine p_ltS (P := fun q => p_Go K l m_Mo_init 261 [(0, p_r v0)] [p_r (p_N s20 + 1), p_r v0] q _) (p_x_nw _ _ _) ?_ h
  intro s22 hs23 h
  refine g_putR fl_Mo_102 (Or.inr ⟨_, rfl⟩) (Or.inr ⟨rfl, rfl⟩) (dk_Mo_init 125 rfl) (c3.up (hs5.trans (hs7.trans (hs9.trans (hs11.trans (hs13.trans (hs15.trans (hs17.trans (hs19.trans (hs21.trans hs23)))))))))) ?_
  refine p_ltS (P := fun q => p_Go K l m_Mo_init 264 [(0, p_r v0)] [] q _) (p_xR _ _ _ _) ?_ h
  intro s24 hs25 h
  refine g_aload_n (i := 0) (j := 0) (dk_Mo_init 126 rfl) rfl rfl ?_
  refine g_sipush (dk_Mo_init 127 rfl) (by decide +kernel) (by decide) ?_
  refine g_newarray (i := 2) (t := 102) (n := 2001) rfl (by decide +kernel) rfl rfl tw_7_56 (dk_Mo_init 128 rfl) (by decide) (by decide) ?_
  refine p_ltS (P := fun q => p_Go K l m_Mo_init 270 [(0, p_r v0)] [p_r (p_N s24 + 1), p_r v0] q _) (p_x_nw _ _ _) ?_ h
  intro s26 hs27 h
  refine g_putR fl_Mo_105 (Or.inr ⟨_, rfl⟩) (Or.inr ⟨rfl, rfl⟩) (dk_Mo_init 129 rfl) (c3.up (hs5.trans (hs7.trans (hs9.trans (hs11.trans (hs13.trans (hs15.trans (hs17.trans (hs19.trans (hs21.trans (hs23.trans (hs25.trans hs27)))))))))))) ?_
  refine p_ltS (P := fun q => p_Go K l m_Mo_init 273 [(0, p_r v0)] [] q _) (p_xR _ _ _ _) ?_ h
  intro s28 hs29 h
  refine g_aload_n (i := 0) (j := 0) (dk_Mo_init 130 rfl) rfl rfl ?_
  refine g_sipush (dk_Mo_init 131 rfl) (by decide +kernel) (by decide) ?_
  refine g_newarray (i := 2) (t := 102) (n := 2001) rfl (by decide +kernel) rfl rfl tw_7_56 (dk_Mo_init 132 rfl) (by decide) (by decide) ?_
  refine p_ltS (P := fun q => p_Go K l m_Mo_init 279 [(0, p_r v0)] [p_r (p_N s28 + 1), p_r v0] q _) (p_x_nw _ _ _) ?_ h
  intro s30 hs31 h
  refine g_putR fl_Mo_108 (Or.inr ⟨_, rfl⟩) (Or.inr ⟨rfl, rfl⟩) (dk_Mo_init 133 rfl) (c3.up (hs5.trans (hs7.trans (hs9.trans (hs11.trans (hs13.trans (hs15.trans (hs17.trans (hs19.trans (hs21.trans (hs23.trans (hs25.trans (hs27.trans (hs29.trans hs31)))))))))))))) ?_
  refine p_ltS (P := fun q => p_Go K l m_Mo_init 282 [(0, p_r v0)] [] q _) (p_xR _ _ _ _) ?_ h
  intro s32 hs33 h
  refine g_aload_n (i := 0) (j := 0) (dk_Mo_init 134 rfl) rfl rfl ?_
  refine g_sipush (dk_Mo_init 135 rfl) (by decide +kernel) (by decide) ?_
  refine g_newarray (i := 0) (t := 100) (n := 2001) rfl (by decide +kernel) rfl rfl tw_1_69 (dk_Mo_init 136 rfl) (by decide) (by decide) ?_
  refine p_ltS (P := fun q => p_Go K l m_Mo_init 288 [(0, p_r v0)] [p_r (p_N s32 + 1), p_r v0] q _) (p_x_nw _ _ _) ?_ h
  intro s34 hs35 h
  refine g_putR fl_Mo_111 (Or.inr ⟨_, rfl⟩) (Or.inr ⟨rfl, rfl⟩) (dk_Mo_init 137 rfl) (c3.up (hs5.trans (hs7.trans (hs9.trans (hs11.trans (hs13.trans (hs15.trans (hs17.trans (hs19.trans (hs21.trans (hs23.trans (hs25.trans (hs27.trans (hs29.trans (hs31.trans (hs33.trans hs35)))))))))))))))) ?_
  refine p_ltS (P := fun q => p_Go K l m_Mo_init 291 [(0, p_r v0)] [] q _) (p_xR _ _ _ _) ?_ h
  intro s36 hs37 h
  refine g_aload_n (i := 0) (j := 0) (dk_Mo_init 138 rfl) rfl rfl ?_
  refine g_iconst (dk_Mo_init 139 rfl) (by decide) ?_
  refine g_newarray (i := 0) (t := 100) (n := 3) rfl (by decide +kernel) rfl rfl tw_1_69 (dk_Mo_init 140 rfl) (by decide) (by decide) ?_
  refine p_ltS (P := fun q => p_Go K l m_Mo_init 295 [(0, p_r v0)] [p_r (p_N s36 + 1), p_r v0] q _) (p_x_nw _ _ _) ?_ h
  intro s38 hs39 h
  refine g_putR fl_Mo_114 (Or.inr ⟨_, rfl⟩) (Or.inr ⟨rfl, rfl⟩) (dk_Mo_init 141 rfl) (c3.up (hs5.trans (hs7.trans (hs9.trans (hs11.trans (hs13.trans (hs15.trans (hs17.trans (hs19.trans (hs21.trans (hs23.trans (hs25.trans (hs27.trans (hs29.trans (hs31.trans (hs33.trans (hs35.trans (hs37.trans hs39)))))))))))))))))) ?_
  refine p_ltS (P := fun q => p_Go K l m_Mo_init 298 [(0, p_r v0)] [] q _) (p_xR _ _ _ _) ?_ h
  intro s40 hs41 h
  refine g_aload_n (i := 0) (j := 0) (dk_Mo_init 142 rfl) rfl rfl ?_
  refine g_iconst (dk_Mo_init 143 rfl) (by decide) ?_
  refine g_newarray (i := 0) (t := 100) (n := 3) rfl (by decide +kernel) rfl rfl tw_1_69 (dk_Mo_init 144 rfl) (by decide) (by decide) ?_
  refine p_ltS (P := fun q => p_Go K l m_Mo_init 302 [(0, p_r v0)] [p_r (p_N s40 + 1), p_r v0] q _) (p_x_nw _ _ _) ?_ h
  intro s42 hs43 h
  refine g_putR fl_Mo_117 (Or.inr ⟨_, rfl⟩) (Or.inr ⟨rfl, rfl⟩) (dk_Mo_init 145 rfl) (c3.up (hs5.trans (hs7.trans (hs9.trans (hs11.trans (hs13.trans (hs15.trans (hs17.trans (hs19.trans (hs21.trans (hs23.trans (hs25.trans (hs27.trans (hs29.trans (hs31.trans (hs33.trans (hs35.trans (hs37.trans (hs39.trans (hs41.trans hs43)))))))))))))))))))) ?_
  refine p_ltS (P := fun q => p_Go K l m_Mo_init 305 [(0, p_r v0)] [] q _) (p_xR _ _ _ _) ?_ h
  intro s44 hs45 h
  refine g_aload_n (i := 0) (j := 0) (dk_Mo_init 146 rfl) rfl rfl ?_
  refine g_iconst (dk_Mo_init 147 rfl) (by decide) ?_
  refine g_newarray (i := 0) (t := 100) (n := 3) rfl (by decide +kernel) rfl rfl tw_1_69 (dk_Mo_init 148 rfl) (by decide) (by decide) ?_
  refine p_ltS (P := fun q => p_Go K l m_Mo_init 309 [(0, p_r v0)] [p_r (p_N s44 + 1), p_r v0] q _) (p_x_nw _ _ _) ?_ h
  intro s46 hs47 h
  refine g_putR fl_Mo_120 (Or.inr ⟨_, rfl⟩) (Or.inr ⟨rfl, rfl⟩) (dk_Mo_init 149 rfl) (c3.up (hs5.trans (hs7.trans (hs9.trans (hs11.trans (hs13.trans (hs15.trans (hs17.trans (hs19.trans (hs21.trans (hs23.trans (hs25.trans (hs27.trans (hs29.trans (hs31.trans (hs33.trans (hs35.trans (hs37.trans (hs39.trans (hs41.trans (hs43.trans (hs45.trans hs47)))))))))))))))))))))) ?_
  refine p_ltS (P := fun q => p_Go K l m_Mo_init 312 [(0, p_r v0)] [] q _) (p_xR _ _ _ _) ?_ h
  intro s48 hs49 h
  refine g_aload_n (i := 0) (j := 0) (dk_Mo_init 150 rfl) rfl rfl ?_
  refine g_sipush (dk_Mo_init 151 rfl) (by decide +kernel) (by decide) ?_
  refine g_newarray (i := 0) (t := 100) (n := 360) rfl (by decide +kernel) rfl rfl tw_1_69 (dk_Mo_init 152 rfl) (by decide) (by decide) ?_
  refine p_ltS (P := fun q => p_Go K l m_Mo_init 318 [(0, p_r v0)] [p_r (p_N s48 + 1), p_r v0] q _) (p_x_nw _ _ _) ?_ h
  intro s50 hs51 h
  refine g_putR fl_Mo_123 (Or.inr ⟨_, rfl⟩) (Or.inr ⟨rfl, rfl⟩) (dk_Mo_init 153 rfl) (c3.up (hs5.trans (hs7.trans (hs9.trans (hs11.trans (hs13.trans (hs15.trans (hs17.trans (hs19.trans (hs21.trans (hs23.trans (hs25.trans (hs27.trans (hs29.trans (hs31.trans (hs33.trans (hs35.trans (hs37.trans (hs39.trans (hs41.trans (hs43.trans (hs45.trans (hs47.trans (hs49.trans hs51)))))))))))))))))))))))) ?_
  refine p_ltS (P := fun q => p_Go K l m_Mo_init 321 [(0, p_r v0)] [] q _) (p_xR _ _ _ _) ?_ h
  intro s52 hs53 h
  refine g_aload_n (i := 0) (j := 0) (dk_Mo_init 154 rfl) rfl rfl ?_
  refine g_iconst (dk_Mo_init 155 rfl) (by decide) ?_
  refine g_newarray (i := 0) (t := 100) (n := 3) rfl (by decide +kernel) rfl rfl tw_1_69 (dk_Mo_init 156 rfl) (by decide) (by decide) ?_
  refine p_ltS (P := fun q => p_Go K l m_Mo_init 325 [(0, p_r v0)] [p_r (p_N s52 + 1), p_r v0] q _) (p_x_nw _ _ _) ?_ h
  intro s54 hs55 h
  refine g_putR fl_Mo_126 (Or.inr ⟨_, rfl⟩) (Or.inr ⟨rfl, rfl⟩) (dk_Mo_init 157 rfl) (c3.up (hs5.trans (hs7.trans (hs9.trans (hs11.trans (hs13.trans (hs15.trans (hs17.trans (hs19.trans (hs21.trans (hs23.trans (hs25.trans (hs27.trans (hs29.trans (hs31.trans (hs33.trans (hs35.trans (hs37.trans (hs39.trans (hs41.trans (hs43.trans (hs45.trans (hs47.trans (hs49.trans (hs51.trans (hs53.trans hs55)))))))))))))))))))))))))) ?_
  refine p_ltS (P := fun q => p_Go K l m_Mo_init 328 [(0, p_r v0)] [] q _) (p_xR _ _ _ _) ?_ h
  intro s56 hs57 h
  refine g_aload_n (i := 0) (j := 0) (dk_Mo_init 158 rfl) rfl rfl ?_
  refine g_sipush (dk_Mo_init 159 rfl) (by decide +kernel) (by decide) ?_
  refine g_newarray (i := 0) (t := 100) (n := 600) rfl (by decide +kernel) rfl rfl tw_1_69 (dk_Mo_init 160 rfl) (by decide) (by decide) ?_
  refine p_ltS (P := fun q => p_Go K l m_Mo_init 334 [(0, p_r v0)] [p_r (p_N s56 + 1), p_r v0] q _) (p_x_nw _ _ _) ?_ h
  intro s58 hs59 h
  refine g_putR fl_Mo_129 (Or.inr ⟨_, rfl⟩) (Or.inr ⟨rfl, rfl⟩) (dk_Mo_init 161 rfl) (c3.up (hs5.trans (hs7.trans (hs9.trans (hs11.trans (hs13.trans (hs15.trans (hs17.trans (hs19.trans (hs21.trans (hs23.trans (hs25.trans (hs27.trans (hs29.trans (hs31.trans (hs33.trans (hs35.trans (hs37.trans (hs39.trans (hs41.trans (hs43.trans (hs45.trans (hs47.trans (hs49.trans (hs51.trans (hs53.trans (hs55.trans (hs57.trans hs59)))))))))))))))))))))))))))) ?_
  refine p_ltS (P := fun q => p_Go K l m_Mo_init 337 [(0, p_r v0)] [] q _) (p_xR _ _ _ _) ?_ h
  intro s60 hs61 h
  refine g_aload_n (i := 0) (j := 0) (dk_Mo_init 162 rfl) rfl rfl ?_
  refine g_iconst (dk_Mo_init 163 rfl) (by decide) ?_
  refine g_newarray (i := 0) (t := 100) (n := 3) rfl (by decide +kernel) rfl rfl tw_1_69 (dk_Mo_init 164 rfl) (by decide) (by decide) ?_
  refine p_ltS (P := fun q => p_Go K l m_Mo_init 341 [(0, p_r v0)] [p_r (p_N s60 + 1), p_r v0] q _) (p_x_nw _ _ _) ?_ h
  intro s62 hs63 h
  refine g_putR fl_Mo_132 (Or.inr ⟨_, rfl⟩) (Or.inr ⟨rfl, rfl⟩) (dk_Mo_init 165 rfl) (c3.up (hs5.trans (hs7.trans (hs9.trans (hs11.trans (hs13.trans (hs15.trans (hs17.trans (hs19.trans (hs21.trans (hs23.trans (hs25.trans (hs27.trans (hs29.trans (hs31.trans (hs33.trans (hs35.trans (hs37.trans (hs39.trans (hs41.trans (hs43.trans (hs45.trans (hs47.trans (hs49.trans (hs51.trans (hs53.trans (hs55.trans (hs57.trans (hs59.trans (hs61.trans hs63)))))))))))))))))))))))))))))) ?_
  refine p_ltS (P := fun q => p_Go K l m_Mo_init 344 [(0, p_r v0)] [] q _) (p_xR _ _ _ _) ?_ h
  intro s64 hs65 h
  refine g_aload_n (i := 0) (j := 0) (dk_Mo_init 166 rfl) rfl rfl ?_
  refine g_sipush (dk_Mo_init 167 rfl) (by decide +kernel) (by decide) ?_
  refine g_newarray (i := 0) (t := 100) (n := 180) rfl (by decide +kernel) rfl rfl tw_1_69 (dk_Mo_init 168 rfl) (by decide) (by decide) ?_
  refine p_ltS (P := fun q => p_Go K l m_Mo_init 350 [(0, p_r v0)] [p_r (p_N s64 + 1), p_r v0] q _) (p_x_nw _ _ _) ?_ h
  intro s66 hs67 h
  refine g_putR fl_Mo_135 (Or.inr ⟨_, rfl⟩) (Or.inr ⟨rfl, rfl⟩) (dk_Mo_init 169 rfl) (c3.up (hs5.trans (hs7.trans (hs9.trans (hs11.trans (hs13.trans (hs15.trans (hs17.trans (hs19.trans (hs21.trans (hs23.trans (hs25.trans (hs27.trans (hs29.trans (hs31.trans (hs33.trans (hs35.trans (hs37.trans (hs39.trans (hs41.trans (hs43.trans (hs45.trans (hs47.trans (hs49.trans (hs51.trans (hs53.trans (hs55.trans (hs57.trans (hs59.trans (hs61.trans (hs63.trans (hs65.trans hs67)))))))))))))))))))))))))))))))) ?_
  refine p_ltS (P := fun q => p_Go K l m_Mo_init 353 [(0, p_r v0)] [] q _) (p_xR _ _ _ _) ?_ h
  intro s68 hs69 h
  refine g_aload_n (i := 0) (j := 0) (dk_Mo_init 170 rfl) rfl rfl ?_
  refine g_sipush (dk_Mo_init 171 rfl) (by decide +kernel) (by decide) ?_
  refine g_newarray (i := 0) (t := 100) (n := 200) rfl (by decide +kernel) rfl rfl tw_1_69 (dk_Mo_init 172 rfl) (by decide) (by decide) ?_
  refine p_ltS (P := fun q => p_Go K l m_Mo_init 359 [(0, p_r v0)] [p_r (p_N s68 + 1), p_r v0] q _) (p_x_nw _ _ _) ?_ h
  intro s70 hs71 h
  refine g_putR fl_Mo_138 (Or.inr ⟨_, rfl⟩) (Or.inr ⟨rfl, rfl⟩) (dk_Mo_init 173 rfl) (c3.up (hs5.trans (hs7.trans (hs9.trans (hs11.trans (hs13.trans (hs15.trans (hs17.trans (hs19.trans (hs21.trans (hs23.trans (hs25.trans (hs27.trans (hs29.trans (hs31.trans (hs33.trans (hs35.trans (hs37.trans (hs39.trans (hs41.trans (hs43.trans (hs45.trans (hs47.trans (hs49.trans (hs51.trans (hs53.trans (hs55.trans (hs57.trans (hs59.trans (hs61.trans (hs63.trans (hs65.trans (hs67.trans (hs69.trans hs71)))))))))))))))))))))))))))))))))) ?_
  refine p_ltS (P := fun q => p_Go K l m_Mo_init 362 [(0, p_r v0)] [] q _) (p_xR _ _ _ _) ?_ h
  intro s72 hs73 h
  refine g_aload_n (i := 0) (j := 0) (dk_Mo_init 174 rfl) rfl rfl ?_
  refine g_iconst (dk_Mo_init 175 rfl) (by decide) ?_
  refine g_newarray (i := 0) (t := 100) (n := 3) rfl (by decide +kernel) rfl rfl tw_1_69 (dk_Mo_init 176 rfl) (by decide) (by decide) ?_
  refine p_ltS (P := fun q => p_Go K l m_Mo_init 366 [(0, p_r v0)] [p_r (p_N s72 + 1), p_r v0] q _) (p_x_nw _ _ _) ?_ h
  intro s74 hs75 h
  refine g_putR fl_Mo_141 (Or.inr ⟨_, rfl⟩) (Or.inr ⟨rfl, rfl⟩) (dk_Mo_init 177 rfl) (c3.up (hs5.trans (hs7.trans (hs9.trans (hs11.trans (hs13.trans (hs15.trans (hs17.trans (hs19.trans (hs21.trans (hs23.trans (hs25.trans (hs27.trans (hs29.trans (hs31.trans (hs33.trans (hs35.trans (hs37.trans (hs39.trans (hs41.trans (hs43.trans (hs45.trans (hs47.trans (hs49.trans (hs51.trans (hs53.trans (hs55.trans (hs57.trans (hs59.trans (hs61.trans (hs63.trans (hs65.trans (hs67.trans (hs69.trans (hs71.trans (hs73.trans hs75)))))))))))))))))))))))))))))))))))) ?_
  refine p_ltS (P := fun q => p_Go K l m_Mo_init 369 [(0, p_r v0)] [] q _) (p_xR _ _ _ _) ?_ h
  intro s76 hs77 h
  refine g_aload_n (i := 0) (j := 0) (dk_Mo_init 178 rfl) rfl rfl ?_
  refine g_bipush (dk_Mo_init 179 rfl) (by decide +kernel) (by decide) ?_
  refine g_newarray (i := 0) (t := 100) (n := 36) rfl (by decide +kernel) rfl rfl tw_1_69 (dk_Mo_init 180 rfl) (by decide) (by decide) ?_
  refine p_ltS (P := fun q => p_Go K l m_Mo_init 374 [(0, p_r v0)] [p_r (p_N s76 + 1), p_r v0] q _) (p_x_nw _ _ _) ?_ h
  intro s78 hs79 h
  refine g_putR fl_Mo_144 (Or.inr ⟨_, rfl⟩) (Or.inr ⟨rfl, rfl⟩) (dk_Mo_init 181 rfl) (c3.up (hs5.trans (hs7.trans (hs9.trans (hs11.trans (hs13.trans (hs15.trans (hs17.trans (hs19.trans (hs21.trans (hs23.trans (hs25.trans (hs27.trans (hs29.trans (hs31.trans (hs33.trans (hs35.trans (hs37.trans (hs39.trans (hs41.trans (hs43.trans (hs45.trans (hs47.trans (hs49.trans (hs51.trans (hs53.trans (hs55.trans (hs57.trans (hs59.trans (hs61.trans (hs63.trans (hs65.trans (hs67.trans (hs69.trans (hs71.trans (hs73.trans (hs75.trans (hs77.trans hs79)))))))))))))))))))))))))))))))))))))) ?_
  refine p_ltS (P := fun q => p_Go K l m_Mo_init 377 [(0, p_r v0)] [] q _) (p_xR _ _ _ _) ?_ h
  intro s80 hs81 h
  refine g_aload_n (i := 0) (j := 0) (dk_Mo_init 182 rfl) rfl rfl ?_
  refine g_bipush (dk_Mo_init 183 rfl) (by decide +kernel) (by decide) ?_
  refine g_newarray (i := 0) (t := 100) (n := 36) rfl (by decide +kernel) rfl rfl tw_1_69 (dk_Mo_init 184 rfl) (by decide) (by decide) ?_
  refine p_ltS (P := fun q => p_Go K l m_Mo_init 382 [(0, p_r v0)] [p_r (p_N s80 + 1), p_r v0] q _) (p_x_nw _ _ _) ?_ h
  intro s82 hs83 h
  refine g_putR fl_Mo_147 (Or.inr ⟨_, rfl⟩) (Or.inr ⟨rfl, rfl⟩) (dk_Mo_init 185 rfl) (c3.up (hs5.trans (hs7.trans (hs9.trans (hs11.trans (hs13.trans (hs15.trans (hs17.trans (hs19.trans (hs21.trans (hs23.trans (hs25.trans (hs27.trans (hs29.trans (hs31.trans (hs33.trans (hs35.trans (hs37.trans (hs39.trans (hs41.trans (hs43.trans (hs45.trans (hs47.trans (hs49.trans (hs51.trans (hs53.trans (hs55.trans (hs57.trans (hs59.trans (hs61.trans (hs63.trans (hs65.trans (hs67.trans (hs69.trans (hs71.trans (hs73.trans (hs75.trans (hs77.trans (hs79.trans (hs81.trans hs83)))))))))))))))))))))))))))))))))))))))) ?_
  refine p_ltS (P := fun q => p_Go K l m_Mo_init 385 [(0, p_r v0)] [] q _) (p_xR _ _ _ _) ?_ h
  intro s84 hs85 h
  refine g_aload_n (i := 0) (j := 0) (dk_Mo_init 186 rfl) rfl rfl ?_
  refine g_bipush (dk_Mo_init 187 rfl) (by decide +kernel) (by decide) ?_
  refine g_newarray (i := 0) (t := 100) (n := 36) rfl (by decide +kernel) rfl rfl tw_1_69 (dk_Mo_init 188 rfl) (by decide) (by decide) ?_
  refine p_ltS (P := fun q => p_Go K l m_Mo_init 390 [(0, p_r v0)] [p_r (p_N s84 + 1), p_r v0] q _) (p_x_nw _ _ _) ?_ h
  intro s86 hs87 h
  refine g_putR fl_Mo_150 (Or.inr ⟨_, rfl⟩) (Or.inr ⟨rfl, rfl⟩) (dk_Mo_init 189 rfl) (c3.up (hs5.trans (hs7.trans (hs9.trans (hs11.trans (hs13.trans (hs15.trans (hs17.trans (hs19.trans (hs21.trans (hs23.trans (hs25.trans (hs27.trans (hs29.trans (hs31.trans (hs33.trans (hs35.trans (hs37.trans (hs39.trans (hs41.trans (hs43.trans (hs45.trans (hs47.trans (hs49.trans (hs51.trans (hs53.trans (hs55.trans (hs57.trans (hs59.trans (hs61.trans (hs63.trans (hs65.trans (hs67.trans (hs69.trans (hs71.trans (hs73.trans (hs75.trans (hs77.trans (hs79.trans (hs81.trans (hs83.trans (hs85.trans hs87)))))))))))))))))))))))))))))))))))))))))) ?_
  refine p_ltS (P := fun q => p_Go K l m_Mo_init 393 [(0, p_r v0)] [] q _) (p_xR _ _ _ _) ?_ h
  intro s88 hs89 h
  refine g_aload_n (i := 0) (j := 0) (dk_Mo_init 190 rfl) rfl rfl ?_
  refine g_sipush (dk_Mo_init 191 rfl) (by decide +kernel) (by decide) ?_
  refine g_newarray (i := 0) (t := 100) (n := 144) rfl (by decide +kernel) rfl rfl tw_1_69 (dk_Mo_init 192 rfl) (by decide) (by decide) ?_
  refine p_ltS (P := fun q => p_Go K l m_Mo_init 399 [(0, p_r v0)] [p_r (p_N s88 + 1), p_r v0] q _) (p_x_nw _ _ _) ?_ h
  intro s90 hs91 h
  refine g_putR fl_Mo_153 (Or.inr ⟨_, rfl⟩) (Or.inr ⟨rfl, rfl⟩) (dk_Mo_init 193 rfl) (c3.up (hs5.trans (hs7.trans (hs9.trans (hs11.trans (hs13.trans (hs15.trans (hs17.trans (hs19.trans (hs21.trans (hs23.trans (hs25.trans (hs27.trans (hs29.trans (hs31.trans (hs33.trans (hs35.trans (hs37.trans (hs39.trans (hs41.trans (hs43.trans (hs45.trans (hs47.trans (hs49.trans (hs51.trans (hs53.trans (hs55.trans (hs57.trans (hs59.trans (hs61.trans (hs63.trans (hs65.trans (hs67.trans (hs69.trans (hs71.trans (hs73.trans (hs75.trans (hs77.trans (hs79.trans (hs81.trans (hs83.trans (hs85.trans (hs87.trans (hs89.trans hs91)))))))))))))))))))))))))))))))))))))))))))) ?_
  refine p_ltS (P := fun q => p_Go K l m_Mo_init 402 [(0, p_r v0)] [] q _) (p_xR _ _ _ _) ?_ h
  intro s92 hs93 h
  refine g_aload_n (i := 0) (j := 0) (dk_Mo_init 194 rfl) rfl rfl ?_
  refine g_sipush (dk_Mo_init 195 rfl) (by decide +kernel) (by decide) ?_
  refine g_newarray (i := 0) (t := 100) (n := 144) rfl (by decide +kernel) rfl rfl tw_1_69 (dk_Mo_init 196 rfl) (by decide) (by decide) ?_
  refine p_ltS (P := fun q => p_Go K l m_Mo_init 408 [(0, p_r v0)] [p_r (p_N s92 + 1), p_r v0] q _) (p_x_nw _ _ _) ?_ h
  intro s94 hs95 h
  refine g_putR fl_Mo_156 (Or.inr ⟨_, rfl⟩) (Or.inr ⟨rfl, rfl⟩) (dk_Mo_init 197 rfl) (c3.up (hs5.trans (hs7.trans (hs9.trans (hs11.trans (hs13.trans (hs15.trans (hs17.trans (hs19.trans (hs21.trans (hs23.trans (hs25.trans (hs27.trans (hs29.trans (hs31.trans (hs33.trans (hs35.trans (hs37.trans (hs39.trans (hs41.trans (hs43.trans (hs45.trans (hs47.trans (hs49.trans (hs51.trans (hs53.trans (hs55.trans (hs57.trans (hs59.trans (hs61.trans (hs63.trans (hs65.trans (hs67.trans (hs69.trans (hs71.trans (hs73.trans (hs75.trans (hs77.trans (hs79.trans (hs81.trans (hs83.trans (hs85.trans (hs87.trans (hs89.trans (hs91.trans (hs93.trans hs95)))))))))))))))))))))))))))))))))))))))))))))) ?_
  refine p_ltS (P := fun q => p_Go K l m_Mo_init 411 [(0, p_r v0)] [] q _) (p_xR _ _ _ _) ?_ h
  intro s96 hs97 h
  refine g_aload_n (i := 0) (j := 0) (dk_Mo_init 198 rfl) rfl rfl ?_
  refine g_sipush (dk_Mo_init 199 rfl) (by decide +kernel) (by decide) ?_
  refine g_newarray (i := 0) (t := 100) (n := 144) rfl (by decide +kernel) rfl rfl tw_1_69 (dk_Mo_init 200 rfl) (by decide) (by decide) ?_
  refine p_ltS (P := fun q => p_Go K l m_Mo_init 417 [(0, p_r v0)] [p_r (p_N s96 + 1), p_r v0] q _) (p_x_nw _ _ _) ?_ h
  intro s98 hs99 h
  refine g_putR fl_Mo_159 (Or.inr ⟨_, rfl⟩) (Or.inr ⟨rfl, rfl⟩) (dk_Mo_init 201 rfl) (c3.up (hs5.trans (hs7.trans (hs9.trans (hs11.trans (hs13.trans (hs15.trans (hs17.trans (hs19.trans (hs21.trans (hs23.trans (hs25.trans (hs27.trans (hs29.trans (hs31.trans (hs33.trans (hs35.trans (hs37.trans (hs39.trans (hs41.trans (hs43.trans (hs45.trans (hs47.trans (hs49.trans (hs51.trans (hs53.trans (hs55.trans (hs57.trans (hs59.trans (hs61.trans (hs63.trans (hs65.trans (hs67.trans (hs69.trans (hs71.trans (hs73.trans (hs75.trans (hs77.trans (hs79.trans (hs81.trans (hs83.trans (hs85.trans (hs87.trans (hs89.trans (hs91.trans (hs93.trans (hs95.trans (hs97.trans hs99)))))))))))))))))))))))))))))))))))))))))))))))) ?_
  refine p_ltS (P := fun q => p_Go K l m_Mo_init 420 [(0, p_r v0)] [] q _) (p_xR _ _ _ _) ?_ h
  intro s100 hs101 h
  exact tB_Mo_init_420 K l v0 s100 _ h
set_option maxRecDepth 100000 in
set_option maxHeartbeats 4000000 in
theorem tF_Mo_init (K : p_K) (l : Launch) (v0 : Nat) (s0 : p_Hp) (r : p_Hp) (h : F_Mo_init v0 s0 = some r) : p_Ct K l m_Mo_init [p_r v0] s0 (none, r) := by
  refine p_Ct.of (by decide +kernel) (Nat.le_of_ble_eq_true rfl) ?_
  unfold F_Mo_init at h
  show p_Go K l m_Mo_init 0 [(0, p_r v0)] [] s0 _
  refine g_aload_n (i := 0) (j := 0) (dk_Mo_init 0 rfl) rfl rfl ?_
  obtain ⟨c1, h⟩ := p_gdE h
  refine g_objInit tw_6_23 tw_1_23 tw_objInit (dk_Mo_init 1 rfl) (Nat.le_of_ble_eq_true rfl) (Nat.le_of_ble_eq_true rfl) c1 ?_
  refine g_aload_n (i := 0) (j := 0) (dk_Mo_init 2 rfl) rfl rfl ?_
  refine g_iconst (dk_Mo_init 3 rfl) (by decide) ?_
  refine g_newarray (i := 0) (t := 100) (n := 3) rfl (by decide +kernel) rfl rfl tw_1_69 (dk_Mo_init 4 rfl) (by decide) (by decide) ?_
  refine p_ltS (P := fun q => p_Go K l m_Mo_init 8 [(0, p_r v0)] [p_r (p_N s0 + 1), p_r v0] q _) (p_x_nw _ _ _) ?_ h
  intro s2 hs3 h
  obtain ⟨c4, h⟩ := p_gdE h
  refine g_putR fl_Mo_7 (Or.inr ⟨_, rfl⟩) (Or.inr ⟨rfl, rfl⟩) (dk_Mo_init 5 rfl) c4 ?_
  refine p_ltS (P := fun q => p_Go K l m_Mo_init 11 [(0, p_r v0)] [] q _) (p_xR _ _ _ _) ?_ h
  intro s5 hs6 h
  refine g_aload_n (i := 0) (j := 0) (dk_Mo_init 6 rfl) rfl rfl ?_
  refine g_iconst (dk_Mo_init 7 rfl) (by decide) ?_
  refine g_newarray (i := 0) (t := 100) (n := 3) rfl (by decide +kernel) rfl rfl tw_1_69 (dk_Mo_init 8 rfl) (by decide) (by decide) ?_
  refine p_ltS (P := fun q => p_Go K l m_Mo_init 15 [(0, p_r v0)] [p_r (p_N s5 + 1), p_r v0] q _) (p_x_nw _ _ _) ?_ h
  intro s7 hs8 h
  refine g_putR fl_Mo_13 (Or.inr ⟨_, rfl⟩) (Or.inr ⟨rfl, rfl⟩) (dk_Mo_init 9 rfl) (c4.up (hs6.trans hs8)) ?_
  refine p_ltS (P := fun q => p_Go K l m_Mo_init 18 [(0, p_r v0)] [] q _) (p_xR _ _ _ _) ?_ h
  intro s9 hs10 h
  refine g_aload_n (i := 0) (j := 0) (dk_Mo_init 10 rfl) rfl rfl ?_
  refine g_bipush (dk_Mo_init 11 rfl) (by decide +kernel) (by decide) ?_
  refine g_newarray (i := 0) (t := 100) (n := 120) rfl (by decide +kernel) rfl rfl tw_1_69 (dk_Mo_init 12 rfl) (by decide) (by decide) ?_
  refine p_ltS (P := fun q => p_Go K l m_Mo_init 23 [(0, p_r v0)] [p_r (p_N s9 + 1), p_r v0] q _) (p_x_nw _ _ _) ?_ h
  intro s11 hs12 h
  refine g_putR fl_Mo_16 (Or.inr ⟨_, rfl⟩) (Or.inr ⟨rfl, rfl⟩) (dk_Mo_init 13 rfl) (c4.up (hs6.trans (hs8.trans (hs10.trans hs12)))) ?_
  refine p_ltS (P := fun q => p_Go K l m_Mo_init 26 [(0, p_r v0)] [] q _) (p_xR _ _ _ _) ?_ h
  intro s13 hs14 h
  refine g_aload_n (i := 0) (j := 0) (dk_Mo_init 14 rfl) rfl rfl ?_
  refine g_bipush (dk_Mo_init 15 rfl) (by decide +kernel) (by decide) ?_
  refine g_newarray (i := 0) (t := 100) (n := 120) rfl (by decide +kernel) rfl rfl tw_1_69 (dk_Mo_init 16 rfl) (by decide) (by decide) ?_
  refine p_ltS (P := fun q => p_Go K l m_Mo_init 31 [(0, p_r v0)] [p_r (p_N s13 + 1), p_r v0] q _) (p_x_nw _ _ _) ?_ h
  intro s15 hs16 h
  refine g_putR fl_Mo_19 (Or.inr ⟨_, rfl⟩) (Or.inr ⟨rfl, rfl⟩) (dk_Mo_init 17 rfl) (c4.up (hs6.trans (hs8.trans (hs10.trans (hs12.trans (hs14.trans hs16)))))) ?_
  refine p_ltS (P := fun q => p_Go K l m_Mo_init 34 [(0, p_r v0)] [] q _) (p_xR _ _ _ _) ?_ h
  intro s17 hs18 h
  refine g_aload_n (i := 0) (j := 0) (dk_Mo_init 18 rfl) rfl rfl ?_
  refine g_bipush (dk_Mo_init 19 rfl) (by decide +kernel) (by decide) ?_
  refine g_newarray (i := 0) (t := 100) (n := 120) rfl (by decide +kernel) rfl rfl tw_1_69 (dk_Mo_init 20 rfl) (by decide) (by decide) ?_
  refine p_ltS (P := fun q => p_Go K l m_Mo_init 39 [(0, p_r v0)] [p_r (p_N s17 + 1), p_r v0] q _) (p_x_nw _ _ _) ?_ h
  intro s19 hs20 h
  refine g_putR fl_Mo_22 (Or.inr ⟨_, rfl⟩) (Or.inr ⟨rfl, rfl⟩) (dk_Mo_init 21 rfl) (c4.up (hs6.trans (hs8.trans (hs10.trans (hs12.trans (hs14.trans (hs16.trans (hs18.trans hs20)))))))) ?_
  refine p_ltS (P := fun q => p_Go K l m_Mo_init 42 [(0, p_r v0)] [] q _) (p_xR _ _ _ _) ?_ h
  intro s21 hs22 h
  refine g_aload_n (i := 0) (j := 0) (dk_Mo_init 22 rfl) rfl rfl ?_
  refine g_sipush (dk_Mo_init 23 rfl) (by decide +kernel) (by decide) ?_
  refine g_newarray (i := 0) (t := 100) (n := 360) rfl (by decide +kernel) rfl rfl tw_1_69 (dk_Mo_init 24 rfl) (by decide) (by decide) ?_
  refine p_ltS (P := fun q => p_Go K l m_Mo_init 48 [(0, p_r v0)] [p_r (p_N s21 + 1), p_r v0] q _) (p_x_nw _ _ _) ?_ h
  intro s23 hs24 h
  refine g_putR fl_Mo_25 (Or.inr ⟨_, rfl⟩) (Or.inr ⟨rfl, rfl⟩) (dk_Mo_init 25 rfl) (c4.up (hs6.trans (hs8.trans (hs10.trans (hs12.trans (hs14.trans (hs16.trans (hs18.trans (hs20.trans (hs22.trans hs24)))))))))) ?_
  refine p_ltS (P := fun q => p_Go K l m_Mo_init 51 [(0, p_r v0)] [] q _) (p_xR _ _ _ _) ?_ h
  intro s25 hs26 h
  refine g_aload_n (i := 0) (j := 0) (dk_Mo_init 26 rfl) rfl rfl ?_
  refine g_bipush (dk_Mo_init 27 rfl) (by decide +kernel) (by decide) ?_
  refine g_newarray (i := 0) (t := 100) (n := 120) rfl (by decide +kernel) rfl rfl tw_1_69 (dk_Mo_init 28 rfl) (by decide) (by decide) ?_
  refine p_ltS (P := fun q => p_Go K l m_Mo_init 56 [(0, p_r v0)] [p_r (p_N s25 + 1), p_r v0] q _) (p_x_nw _ _ _) ?_ h
  intro s27 hs28 h
  refine g_putR fl_Mo_28 (Or.inr ⟨_, rfl⟩) (Or.inr ⟨rfl, rfl⟩) (dk_Mo_init 29 rfl) (c4.up (hs6.trans (hs8.trans (hs10.trans (hs12.trans (hs14.trans (hs16.trans (hs18.trans (hs20.trans (hs22.trans (hs24.trans (hs26.trans hs28)))))))))))) ?_
  refine p_ltS (P := fun q => p_Go K l m_Mo_init 59 [(0, p_r v0)] [] q _) (p_xR _ _ _ _) ?_ h
  intro s29 hs30 h
  refine g_aload_n (i := 0) (j := 0) (dk_Mo_init 30 rfl) rfl rfl ?_
  refine g_bipush (dk_Mo_init 31 rfl) (by decide +kernel) (by decide) ?_
  refine g_newarray (i := 0) (t := 100) (n := 120) rfl (by decide +kernel) rfl rfl tw_1_69 (dk_Mo_init 32 rfl) (by decide) (by decide) ?_
  refine p_ltS (P := fun q => p_Go K l m_Mo_init 64 [(0, p_r v0)] [p_r (p_N s29 + 1), p_r v0] q _) (p_x_nw _ _ _) ?_ h
  intro s31 hs32 h
  refine g_putR fl_Mo_31 (Or.inr ⟨_, rfl⟩) (Or.inr ⟨rfl, rfl⟩) (dk_Mo_init 33 rfl) (c4.up (hs6.trans (hs8.trans (hs10.trans (hs12.trans (hs14.trans (hs16.trans (hs18.trans (hs20.trans (hs22.trans (hs24.trans (hs26.trans (hs28.trans (hs30.trans hs32)))))))))))))) ?_
  refine p_ltS (P := fun q => p_Go K l m_Mo_init 67 [(0, p_r v0)] [] q _) (p_xR _ _ _ _) ?_ h
  intro s33 hs34 h
  refine g_aload_n (i := 0) (j := 0) (dk_Mo_init 34 rfl) rfl rfl ?_
  refine g_sipush (dk_Mo_init 35 rfl) (by decide +kernel) (by decide) ?_
  refine g_newarray (i := 1) (t := 101) (n := 240) rfl (by decide +kernel) rfl rfl tw_1_172 (dk_Mo_init 36 rfl) (by decide) (by decide) ?_
  refine p_ltS (P := fun q => p_Go K l m_Mo_init 73 [(0, p_r v0)] [p_r (p_N s33 + 1), p_r v0] q _) (p_x_nw _ _ _) ?_ h
  intro s35 hs36 h
  refine g_putR fl_Mo_34 (Or.inr ⟨_, rfl⟩) (Or.inr ⟨rfl, rfl⟩) (dk_Mo_init 37 rfl) (c4.up (hs6.trans (hs8.trans (hs10.trans (hs12.trans (hs14.trans (hs16.trans (hs18.trans (hs20.trans (hs22.trans (hs24.trans (hs26.trans (hs28.trans (hs30.trans (hs32.trans (hs34.trans hs36)))))))))))))))) ?_
  refine p_ltS (P := fun q => p_Go K l m_Mo_init 76 [(0, p_r v0)] [] q _) (p_xR _ _ _ _) ?_ h
  intro s37 hs38 h
  refine g_aload_n (i := 0) (j := 0) (dk_Mo_init 38 rfl) rfl rfl ?_
  refine g_bipush (dk_Mo_init 39 rfl) (by decide +kernel) (by decide) ?_
  refine g_newarray (i := 0) (t := 100) (n := 120) rfl (by decide +kernel) rfl rfl tw_1_69 (dk_Mo_init 40 rfl) (by decide) (by decide) ?_
  refine p_ltS (P := fun q => p_Go K l m_Mo_init 81 [(0, p_r v0)] [p_r (p_N s37 + 1), p_r v0] q _) (p_x_nw _ _ _) ?_ h
  intro s39 hs40 h
  refine g_putR fl_Mo_38 (Or.inr ⟨_, rfl⟩) (Or.inr ⟨rfl, rfl⟩) (dk_Mo_init 41 rfl) (c4.up (hs6.trans (hs8.trans (hs10.trans (hs12.trans (hs14.trans (hs16.trans (hs18.trans (hs20.trans (hs22.trans (hs24.trans (hs26.trans (hs28.trans (hs30.trans (hs32.trans (hs34.trans (hs36.trans (hs38.trans hs40)))))))))))))))))) ?_
  refine p_ltS (P := fun q => p_Go K l m_Mo_init 84 [(0, p_r v0)] [] q _) (p_xR _ _ _ _) ?_ h
  intro s41 hs42 h
  refine g_aload_n (i := 0) (j := 0) (dk_Mo_init 42 rfl) rfl rfl ?_
  refine g_bipush (dk_Mo_init 43 rfl) (by decide +kernel) (by decide) ?_
  refine g_newarray (i := 0) (t := 100) (n := 120) rfl (by decide +kernel) rfl rfl tw_1_69 (dk_Mo_init 44 rfl) (by decide) (by decide) ?_
  refine p_ltS (P := fun q => p_Go K l m_Mo_init 89 [(0, p_r v0)] [p_r (p_N s41 + 1), p_r v0] q _) (p_x_nw _ _ _) ?_ h
  intro s43 hs44 h
  refine g_putR fl_Mo_41 (Or.inr ⟨_, rfl⟩) (Or.inr ⟨rfl, rfl⟩) (dk_Mo_init 45 rfl) (c4.up (hs6.trans (hs8.trans (hs10.trans (hs12.trans (hs14.trans (hs16.trans (hs18.trans (hs20.trans (hs22.trans (hs24.trans (hs26.trans (hs28.trans (hs30.trans (hs32.trans (hs34.trans (hs36.trans (hs38.trans (hs40.trans (hs42.trans hs44)))))))))))))))))))) ?_
  refine p_ltS (P := fun q => p_Go K l m_Mo_init 92 [(0, p_r v0)] [] q _) (p_xR _ _ _ _) ?_ h
  intro s45 hs46 h
  refine g_aload_n (i := 0) (j := 0) (dk_Mo_init 46 rfl) rfl rfl ?_
  refine g_bipush (dk_Mo_init 47 rfl) (by decide +kernel) (by decide) ?_
  refine g_newarray (i := 2) (t := 102) (n := 120) rfl (by decide +kernel) rfl rfl tw_7_56 (dk_Mo_init 48 rfl) (by decide) (by decide) ?_
  refine p_ltS (P := fun q => p_Go K l m_Mo_init 97 [(0, p_r v0)] [p_r (p_N s45 + 1), p_r v0] q _) (p_x_nw _ _ _) ?_ h
  intro s47 hs48 h
  refine g_putR fl_Mo_44 (Or.inr ⟨_, rfl⟩) (Or.inr ⟨rfl, rfl⟩) (dk_Mo_init 49 rfl) (c4.up (hs6.trans (hs8.trans (hs10.trans (hs12.trans (hs14.trans (hs16.trans (hs18.trans (hs20.trans (hs22.trans (hs24.trans (hs26.trans (hs28.trans (hs30.trans (hs32.trans (hs34.trans (hs36.trans (hs38.trans (hs40.trans (hs42.trans (hs44.trans (hs46.trans hs48)))))))))))))))))))))) ?_
  refine p_ltS (P := fun q => p_Go K l m_Mo_init 100 [(0, p_r v0)] [] q _) (p_xR _ _ _ _) ?_ h
  intro s49 hs50 h
  refine g_aload_n (i := 0) (j := 0) (dk_Mo_init 50 rfl) rfl rfl ?_
  refine g_bipush (dk_Mo_init 51 rfl) (by decide +kernel) (by decide) ?_
  refine g_newarray (i := 0) (t := 100) (n := 120) rfl (by decide +kernel) rfl rfl tw_1_69 (dk_Mo_init 52 rfl) (by decide) (by decide) ?_
  refine p_ltS (P := fun q => p_Go K l m_Mo_init 105 [(0, p_r v0)] [p_r (p_N s49 + 1), p_r v0] q _) (p_x_nw _ _ _) ?_ h
  intro s51 hs52 h
  refine g_putR fl_Mo_48 (Or.inr ⟨_, rfl⟩) (Or.inr ⟨rfl, rfl⟩) (dk_Mo_init 53 rfl) (c4.up (hs6.trans (hs8.trans (hs10.trans (hs12.trans (hs14.trans (hs16.trans (hs18.trans (hs20.trans (hs22.trans (hs24.trans (hs26.trans (hs28.trans (hs30.trans (hs32.trans (hs34.trans (hs36.trans (hs38.trans (hs40.trans (hs42.trans (hs44.trans (hs46.trans (hs48.trans (hs50.trans hs52)))))))))))))))))))))))) ?_
  refine p_ltS (P := fun q => p_Go K l m_Mo_init 108 [(0, p_r v0)] [] q _) (p_xR _ _ _ _) ?_ h
  intro s53 hs54 h
  refine g_aload_n (i := 0) (j := 0) (dk_Mo_init 54 rfl) rfl rfl ?_
  refine g_bipush (dk_Mo_init 55 rfl) (by decide +kernel) (by decide) ?_
  refine g_newarray (i := 0) (t := 100) (n := 120) rfl (by decide +kernel) rfl rfl tw_1_69 (dk_Mo_init 56 rfl) (by decide) (by decide) ?_
  refine p_ltS (P := fun q => p_Go K l m_Mo_init 113 [(0, p_r v0)] [p_r (p_N s53 + 1), p_r v0] q _) (p_x_nw _ _ _) ?_ h
  intro s55 hs56 h
  refine g_putR fl_Mo_51 (Or.inr ⟨_, rfl⟩) (Or.inr ⟨rfl, rfl⟩) (dk_Mo_init 57 rfl) (c4.up (hs6.trans (hs8.trans (hs10.trans (hs12.trans (hs14.trans (hs16.trans (hs18.trans (hs20.trans (hs22.trans (hs24.trans (hs26.trans (hs28.trans (hs30.trans (hs32.trans (hs34.trans (hs36.trans (hs38.trans (hs40.trans (hs42.trans (hs44.trans (hs46.trans (hs48.trans (hs50.trans (hs52.trans (hs54.trans hs56)))))))))))))))))))))))))) ?_
  refine p_ltS (P := fun q => p_Go K l m_Mo_init 116 [(0, p_r v0)] [] q _) (p_xR _ _ _ _) ?_ h
  intro s57 hs58 h
  refine g_aload_n (i := 0) (j := 0) (dk_Mo_init 58 rfl) rfl rfl ?_
  refine g_bipush (dk_Mo_init 59 rfl) (by decide +kernel) (by decide) ?_
  refine g_newarray (i := 0) (t := 100) (n := 120) rfl (by decide +kernel) rfl rfl tw_1_69 (dk_Mo_init 60 rfl) (by decide) (by decide) ?_
  refine p_ltS (P := fun q => p_Go K l m_Mo_init 121 [(0, p_r v0)] [p_r (p_N s57 + 1), p_r v0] q _) (p_x_nw _ _ _) ?_ h
  intro s59 hs60 h
  refine g_putR fl_Mo_54 (Or.inr ⟨_, rfl⟩) (Or.inr ⟨rfl, rfl⟩) (dk_Mo_init 61 rfl) (c4.up (hs6.trans (hs8.trans (hs10.trans (hs12.trans (hs14.trans (hs16.trans (hs18.trans (hs20.trans (hs22.trans (hs24.trans (hs26.trans (hs28.trans (hs30.trans (hs32.trans (hs34.trans (hs36.trans (hs38.trans (hs40.trans (hs42.trans (hs44.trans (hs46.trans (hs48.trans (hs50.trans (hs52.trans (hs54.trans (hs56.trans (hs58.trans hs60)))))))))))))))))))))))))))) ?_
  refine p_ltS (P := fun q => p_Go K l m_Mo_init 124 [(0, p_r v0)] [] q _) (p_xR _ _ _ _) ?_ h
  intro s61 hs62 h
  refine g_aload_n (i := 0) (j := 0) (dk_Mo_init 62 rfl) rfl rfl ?_
  refine g_bipush (dk_Mo_init 63 rfl) (by decide +kernel) (by decide) ?_
  refine g_newarray (i := 0) (t := 100) (n := 120) rfl (by decide +kernel) rfl rfl tw_1_69 (dk_Mo_init 64 rfl) (by decide) (by decide) ?_
  refine p_ltS (P := fun q => p_Go K l m_Mo_init 129 [(0, p_r v0)] [p_r (p_N s61 + 1), p_r v0] q _) (p_x_nw _ _ _) ?_ h
  intro s63 hs64 h
  refine g_putR fl_Mo_57 (Or.inr ⟨_, rfl⟩) (Or.inr ⟨rfl, rfl⟩) (dk_Mo_init 65 rfl) (c4.up (hs6.trans (hs8.trans (hs10.trans (hs12.trans (hs14.trans (hs16.trans (hs18.trans (hs20.trans (hs22.trans (hs24.trans (hs26.trans (hs28.trans (hs30.trans (hs32.trans (hs34.trans (hs36.trans (hs38.trans (hs40.trans (hs42.trans (hs44.trans (hs46.trans (hs48.trans (hs50.trans (hs52.trans (hs54.trans (hs56.trans (hs58.trans (hs60.trans (hs62.trans hs64)))))))))))))))))))))))))))))) ?_
  refine p_ltS (P := fun q => p_Go K l m_Mo_init 132 [(0, p_r v0)] [] q _) (p_xR _ _ _ _) ?_ h
  intro s65 hs66 h
  refine g_aload_n (i := 0) (j := 0) (dk_Mo_init 66 rfl) rfl rfl ?_
  refine g_bipush (dk_Mo_init 67 rfl) (by decide +kernel) (by decide) ?_
  refine g_newarray (i := 0) (t := 100) (n := 120) rfl (by decide +kernel) rfl rfl tw_1_69 (dk_Mo_init 68 rfl) (by decide) (by decide) ?_
  refine p_ltS (P := fun q => p_Go K l m_Mo_init 137 [(0, p_r v0)] [p_r (p_N s65 + 1), p_r v0] q _) (p_x_nw _ _ _) ?_ h
  intro s67 hs68 h
  refine g_putR fl_Mo_60 (Or.inr ⟨_, rfl⟩) (Or.inr ⟨rfl, rfl⟩) (dk_Mo_init 69 rfl) (c4.up (hs6.trans (hs8.trans (hs10.trans (hs12.trans (hs14.trans (hs16.trans (hs18.trans (hs20.trans (hs22.trans (hs24.trans (hs26.trans (hs28.trans (hs30.trans (hs32.trans (hs34.trans (hs36.trans (hs38.trans (hs40.trans (hs42.trans (hs44.trans (hs46.trans (hs48.trans (hs50.trans (hs52.trans (hs54.trans (hs56.trans (hs58.trans (hs60.trans (hs62.trans (hs64.trans (hs66.trans hs68)))))))))))))))))))))))))))))))) ?_
  refine p_ltS (P := fun q => p_Go K l m_Mo_init 140 [(0, p_r v0)] [] q _) (p_xR _ _ _ _) ?_ h
  intro s69 hs70 h
  refine g_aload_n (i := 0) (j := 0) (dk_Mo_init 70 rfl) rfl rfl ?_
  refine g_bipush (dk_Mo_init 71 rfl) (by decide +kernel) (by decide) ?_
  refine g_newarray (i := 0) (t := 100) (n := 120) rfl (by decide +kernel) rfl rfl tw_1_69 (dk_Mo_init 72 rfl) (by decide) (by decide) ?_
  refine p_ltS (P := fun q => p_Go K l m_Mo_init 145 [(0, p_r v0)] [p_r (p_N s69 + 1), p_r v0] q _) (p_x_nw _ _ _) ?_ h
  intro s71 hs72 h
  refine g_putR fl_Mo_63 (Or.inr ⟨_, rfl⟩) (Or.inr ⟨rfl, rfl⟩) (dk_Mo_init 73 rfl) (c4.up (hs6.trans (hs8.trans (hs10.trans (hs12.trans (hs14.trans (hs16.trans (hs18.trans (hs20.trans (hs22.trans (hs24.trans (hs26.trans (hs28.trans (hs30.trans (hs32.trans (hs34.trans (hs36.trans (hs38.trans (hs40.trans (hs42.trans (hs44.trans (hs46.trans (hs48.trans (hs50.trans (hs52.trans (hs54.trans (hs56.trans (hs58.trans (hs60.trans (hs62.trans (hs64.trans (hs66.trans (hs68.trans (hs70.trans hs72)))))))))))))))))))))))))))))))))) ?_
  refine p_ltS (P := fun q => p_Go K l m_Mo_init 148 [(0, p_r v0)] [] q _) (p_xR _ _ _ _) ?_ h
  intro s73 hs74 h
  refine g_aload_n (i := 0) (j := 0) (dk_Mo_init 74 rfl) rfl rfl ?_
  refine g_bipush (dk_Mo_init 75 rfl) (by decide +kernel) (by decide) ?_
  refine g_newarray (i := 0) (t := 100) (n := 120) rfl (by decide +kernel) rfl rfl tw_1_69 (dk_Mo_init 76 rfl) (by decide) (by decide) ?_
  refine p_ltS (P := fun q => p_Go K l m_Mo_init 153 [(0, p_r v0)] [p_r (p_N s73 + 1), p_r v0] q _) (p_x_nw _ _ _) ?_ h
  intro s75 hs76 h
  refine g_putR fl_Mo_66 (Or.inr ⟨_, rfl⟩) (Or.inr ⟨rfl, rfl⟩) (dk_Mo_init 77 rfl) (c4.up (hs6.trans (hs8.trans (hs10.trans (hs12.trans (hs14.trans (hs16.trans (hs18.trans (hs20.trans (hs22.trans (hs24.trans (hs26.trans (hs28.trans (hs30.trans (hs32.trans (hs34.trans (hs36.trans (hs38.trans (hs40.trans (hs42.trans (hs44.trans (hs46.trans (hs48.trans (hs50.trans (hs52.trans (hs54.trans (hs56.trans (hs58.trans (hs60.trans (hs62.trans (hs64.trans (hs66.trans (hs68.trans (hs70.trans (hs72.trans (hs74.trans hs76)))))))))))))))))))))))))))))))))))) ?_
  refine p_ltS (P := fun q => p_Go K l m_Mo_init 156 [(0, p_r v0)] [] q _) (p_xR _ _ _ _) ?_ h
  intro s77 hs78 h
  refine g_aload_n (i := 0) (j := 0) (dk_Mo_init 78 rfl) rfl rfl ?_
  refine g_sipush (dk_Mo_init 79 rfl) (by decide +kernel) (by decide) ?_
  refine g_newarray (i := 0) (t := 100) (n := 960) rfl (by decide +kernel) rfl rfl tw_1_69 (dk_Mo_init 80 rfl) (by decide) (by decide) ?_
  refine p_ltS (P := fun q => p_Go K l m_Mo_init 162 [(0, p_r v0)] [p_r (p_N s77 + 1), p_r v0] q _) (p_x_nw _ _ _) ?_ h
  intro s79 hs80 h
  refine g_putR fl_Mo_69 (Or.inr ⟨_, rfl⟩) (Or.inr ⟨rfl, rfl⟩) (dk_Mo_init 81 rfl) (c4.up (hs6.trans (hs8.trans (hs10.trans (hs12.trans (hs14.trans (hs16.trans (hs18.trans (hs20.trans (hs22.trans (hs24.trans (hs26.trans (hs28.trans (hs30.trans (hs32.trans (hs34.trans (hs36.trans (hs38.trans (hs40.trans (hs42.trans (hs44.trans (hs46.trans (hs48.trans (hs50.trans (hs52.trans (hs54.trans (hs56.trans (hs58.trans (hs60.trans (hs62.trans (hs64.trans (hs66.trans (hs68.trans (hs70.trans (hs72.trans (hs74.trans (hs76.trans (hs78.trans hs80)))))))))))))))))))))))))))))))))))))) ?_
  refine p_ltS (P := fun q => p_Go K l m_Mo_init 165 [(0, p_r v0)] [] q _) (p_xR _ _ _ _) ?_ h
  intro s81 hs82 h
  refine g_aload_n (i := 0) (j := 0) (dk_Mo_init 82 rfl) rfl rfl ?_
  refine g_sipush (dk_Mo_init 83 rfl) (by decide +kernel) (by decide) ?_
  refine g_newarray (i := 0) (t := 100) (n := 2001) rfl (by decide +kernel) rfl rfl tw_1_69 (dk_Mo_init 84 rfl) (by decide) (by decide) ?_
  refine p_ltS (P := fun q => p_Go K l m_Mo_init 171 [(0, p_r v0)] [p_r (p_N s81 + 1), p_r v0] q _) (p_x_nw _ _ _) ?_ h
  intro s83 hs84 h
  refine g_putR fl_Mo_72 (Or.inr ⟨_, rfl⟩) (Or.inr ⟨rfl, rfl⟩) (dk_Mo_init 85 rfl) (c4.up (hs6.trans (hs8.trans (hs10.trans (hs12.trans (hs14.trans (hs16.trans (hs18.trans (hs20.trans (hs22.trans (hs24.trans (hs26.trans (hs28.trans (hs30.trans (hs32.trans (hs34.trans (hs36.trans (hs38.trans (hs40.trans (hs42.trans (hs44.trans (hs46.trans (hs48.trans (hs50.trans (hs52.trans (hs54.trans (hs56.trans (hs58.trans (hs60.trans (hs62.trans (hs64.trans (hs66.trans (hs68.trans (hs70.trans (hs72.trans (hs74.trans (hs76.trans (hs78.trans (hs80.trans (hs82.trans hs84)))))))))))))))))))))))))))))))))))))))) ?_
  refine p_ltS (P := fun q => p_Go K l m_Mo_init 174 [(0, p_r v0)] [] q _) (p_xR _ _ _ _) ?_ h
  intro s85 hs86 h
  refine g_aload_n (i := 0) (j := 0) (dk_Mo_init 86 rfl) rfl rfl ?_
  refine g_sipush (dk_Mo_init 87 rfl) (by decide +kernel) (by decide) ?_
  refine g_newarray (i := 0) (t := 100) (n := 2001) rfl (by decide +kernel) rfl rfl tw_1_69 (dk_Mo_init 88 rfl) (by decide) (by decide) ?_
  refine p_ltS (P := fun q => p_Go K l m_Mo_init 180 [(0, p_r v0)] [p_r (p_N s85 + 1), p_r v0] q _) (p_x_nw _ _ _) ?_ h
  intro s87 hs88 h
  refine g_putR fl_Mo_75 (Or.inr ⟨_, rfl⟩) (Or.inr ⟨rfl, rfl⟩) (dk_Mo_init 89 rfl) (c4.up (hs6.trans (hs8.trans (hs10.trans (hs12.trans (hs14.trans (hs16.trans (hs18.trans (hs20.trans (hs22.trans (hs24.trans (hs26.trans (hs28.trans (hs30.trans (hs32.trans (hs34.trans (hs36.trans (hs38.trans (hs40.trans (hs42.trans (hs44.trans (hs46.trans (hs48.trans (hs50.trans (hs52.trans (hs54.trans (hs56.trans (hs58.trans (hs60.trans (hs62.trans (hs64.trans (hs66.trans (hs68.trans (hs70.trans (hs72.trans (hs74.trans (hs76.trans (hs78.trans (hs80.trans (hs82.trans (hs84.trans (hs86.trans hs88)))))))))))))))))))))))))))))))))))))))))) ?_
  refine p_ltS (P := fun q => p_Go K l m_Mo_init 183 [(0, p_r v0)] [] q _) (p_xR _ _ _ _) ?_ h
  intro s89 hs90 h
  refine g_aload_n (i := 0) (j := 0) (dk_Mo_init 90 rfl) rfl rfl ?_
  refine g_sipush (dk_Mo_init 91 rfl) (by decide +kernel) (by decide) ?_
  refine g_newarray (i := 0) (t := 100) (n := 2001) rfl (by decide +kernel) rfl rfl tw_1_69 (dk_Mo_init 92 rfl) (by decide) (by decide) ?_
  refine p_ltS (P := fun q => p_Go K l m_Mo_init 189 [(0, p_r v0)] [p_r (p_N s89 + 1), p_r v0] q _) (p_x_nw _ _ _) ?_ h
  intro s91 hs92 h
  refine g_putR fl_Mo_78 (Or.inr ⟨_, rfl⟩) (Or.inr ⟨rfl, rfl⟩) (dk_Mo_init 93 rfl) (c4.up (hs6.trans (hs8.trans (hs10.trans (hs12.trans (hs14.trans (hs16.trans (hs18.trans (hs20.trans (hs22.trans (hs24.trans (hs26.trans (hs28.trans (hs30.trans (hs32.trans (hs34.trans (hs36.trans (hs38.trans (hs40.trans (hs42.trans (hs44.trans (hs46.trans (hs48.trans (hs50.trans (hs52.trans (hs54.trans (hs56.trans (hs58.trans (hs60.trans (hs62.trans (hs64.trans (hs66.trans (hs68.trans (hs70.trans (hs72.trans (hs74.trans (hs76.trans (hs78.trans (hs80.trans (hs82.trans (hs84.trans (hs86.trans (hs88.trans (hs90.trans hs92)))))))))))))))))))))))))))))))))))))))))))) ?_
  refine p_ltS (P := fun q => p_Go K l m_Mo_init 192 [(0, p_r v0)] [] q _) (p_xR _ _ _ _) ?_ h
  intro s93 hs94 h
  refine g_aload_n (i := 0) (j := 0) (dk_Mo_init 94 rfl) rfl rfl ?_
  refine g_sipush (dk_Mo_init 95 rfl) (by decide +kernel) (by decide) ?_
  refine g_newarray (i := 0) (t := 100) (n := 2001) rfl (by decide +kernel) rfl rfl tw_1_69 (dk_Mo_init 96 rfl) (by decide) (by decide) ?_
  refine p_ltS (P := fun q => p_Go K l m_Mo_init 198 [(0, p_r v0)] [p_r (p_N s93 + 1), p_r v0] q _) (p_x_nw _ _ _) ?_ h
  intro s95 hs96 h
  refine g_putR fl_Mo_81 (Or.inr ⟨_, rfl⟩) (Or.inr ⟨rfl, rfl⟩) (dk_Mo_init 97 rfl) (c4.up (hs6.trans (hs8.trans (hs10.trans (hs12.trans (hs14.trans (hs16.trans (hs18.trans (hs20.trans (hs22.trans (hs24.trans (hs26.trans (hs28.trans (hs30.trans (hs32.trans (hs34.trans (hs36.trans (hs38.trans (hs40.trans (hs42.trans (hs44.trans (hs46.trans (hs48.trans (hs50.trans (hs52.trans (hs54.trans (hs56.trans (hs58.trans (hs60.trans (hs62.trans (hs64.trans (hs66.trans (hs68.trans (hs70.trans (hs72.trans (hs74.trans (hs76.trans (hs78.trans (hs80.trans (hs82.trans (hs84.trans (hs86.trans (hs88.trans (hs90.trans (hs92.trans (hs94.trans hs96)))))))))))))))))))))))))))))))))))))))))))))) ?_
  refine p_ltS (P := fun q => p_Go K l m_Mo_init 201 [(0, p_r v0)] [] q _) (p_xR _ _ _ _) ?_ h
  intro s97 hs98 h
  refine g_aload_n (i := 0) (j := 0) (dk_Mo_init 98 rfl) rfl rfl ?_
  refine g_sipush (dk_Mo_init 99 rfl) (by decide +kernel) (by decide) ?_
  refine g_newarray (i := 0) (t := 100) (n := 2001) rfl (by decide +kernel) rfl rfl tw_1_69 (dk_Mo_init 100 rfl) (by decide) (by decide) ?_
  refine p_ltS (P := fun q => p_Go K l m_Mo_init 207 [(0, p_r v0)] [p_r (p_N s97 + 1), p_r v0] q _) (p_x_nw _ _ _) ?_ h
  intro s99 hs100 h
  refine g_putR fl_Mo_84 (Or.inr ⟨_, rfl⟩) (Or.inr ⟨rfl, rfl⟩) (dk_Mo_init 101 rfl) (c4.up (hs6.trans (hs8.trans (hs10.trans (hs12.trans (hs14.trans (hs16.trans (hs18.trans (hs20.trans (hs22.trans (hs24.trans (hs26.trans (hs28.trans (hs30.trans (hs32.trans (hs34.trans (hs36.trans (hs38.trans (hs40.trans (hs42.trans (hs44.trans (hs46.trans (hs48.trans (hs50.trans (hs52.trans (hs54.trans (hs56.trans (hs58.trans (hs60.trans (hs62.trans (hs64.trans (hs66.trans (hs68.trans (hs70.trans (hs72.trans (hs74.trans (hs76.trans (hs78.trans (hs80.trans (hs82.trans (hs84.trans (hs86.trans (hs88.trans (hs90.trans (hs92.trans (hs94.trans (hs96.trans (hs98.trans hs100)))))))))))))))))))))))))))))))))))))))))))))))) ?_
  refine p_ltS (P := fun q => p_Go K l m_Mo_init 210 [(0, p_r v0)] [] q _) (p_xR _ _ _ _) ?_ h
  intro s101 hs102 h
  exact tB_Mo_init_210 K l v0 s101 _ h
def m_Mo_beyond : p_Me := (⟨"SortWorksModel", "beyond", "(JJJ)Z"⟩, prog_13_method_2_code, 6, (some .boolean), 0, 0)
theorem mt_Mo_beyond : p_Mt m_Mo_beyond 3 := ⟨p_mem (p_tb7 (List.mem_of_getElem? (i := 64) rfl)) rfl, tw_1_12, by decide +kernel, by decide +kernel, by decide +kernel⟩
def dt_Mo_beyond : List (Nat × Instr × Nat) := [(0, .lload_n 0, 1), (1, .lload_n 2, 1), (2, .lcmp, 1), (3, .ifCond .lt 10, 3), (6, .lload_n 0, 1), (7, .lload 4, 2), (9, .lcmp, 1), (10, .ifCond .le 7, 3), (13, .iconst 1, 1), (14, .goto 4, 3), (17, .iconst 0, 1), (18, .ireturn, 1)]
theorem dk_Mo_beyond (i : Nat) {pc : Nat} {ins : Instr} {len : Nat} (h : dt_Mo_beyond[i]? = some (pc, ins, len)) : decode m_Mo_beyond.2.1 pc = .ok (ins, len) := p_dk (b := m_Mo_beyond.2.1) (t := dt_Mo_beyond) (by decide +kernel) i h
def B_Mo_beyond_13   (s0 : p_Hp) : Option (Int × p_Hp) :=
  some (1, s0)
def F_Mo_beyond (v0 : Int) (v2 : Int) (v4 : Int) (s0 : p_Hp) : Option (Int × p_Hp) :=
  if (p_cmp v0 v2) < 0 then
    B_Mo_beyond_13 s0
  else
    if (p_cmp v0 v4) ≤ 0 then
      some (0, s0)
    else
      B_Mo_beyond_13 s0
set_option maxRecDepth 100000 in
set_option maxHeartbeats 4000000 in
theorem tB_Mo_beyond_13 (K : p_K) (l : Launch)   (s0 : p_Hp) (r : (Int × p_Hp)) (h : B_Mo_beyond_13  s0 = some r) : p_Go K l m_Mo_beyond 13 [] [] s0 (some (p_i r.1), r.2) := by
  unfold B_Mo_beyond_13 at h
  refine g_iconst (dk_Mo_beyond 8 rfl) (by decide) ?_
  refine g_goto 18 (dk_Mo_beyond 9 rfl) (by decide) ?_
  cases h
  exact g_ret rfl rfl (dk_Mo_beyond 11 rfl) (fun _ => ⟨_, rfl, Or.inr rfl⟩)
set_option maxRecDepth 100000 in
set_option maxHeartbeats 4000000 in
theorem tF_Mo_beyond (K : p_K) (l : Launch) (v0 : Int) (v2 : Int) (v4 : Int) (s0 : p_Hp) (r : (Int × p_Hp)) (h : F_Mo_beyond v0 v2 v4 s0 = some r) : p_Ct K l m_Mo_beyond [p_j v0, p_j v2, p_j v4] s0 (some (p_i r.1), r.2) := by
  refine p_Ct.of (by decide +kernel) (Nat.le_of_ble_eq_true rfl) ?_
  unfold F_Mo_beyond at h
  show p_Go K l m_Mo_beyond 0 [(0, p_j v0), (2, p_j v2), (4, p_j v4)] [] s0 _
  refine g_lload_n (i := 0) (j := 0) (dk_Mo_beyond 0 rfl) rfl rfl ?_
  refine g_lload_n (i := 2) (j := 1) (dk_Mo_beyond 1 rfl) rfl rfl ?_
  refine g_lcmp (dk_Mo_beyond 2 rfl) ?_
  refine g_if_lt 13 (dk_Mo_beyond 3 rfl) (by decide) (fun b1 => ?_) (fun b1 => ?_)
  · have h := p_ifT b1 h
    refine g_sub [] [] rfl ?_
    exact tB_Mo_beyond_13 K l s0 _ h
  · have h := p_ifF b1 h
    refine g_lload_n (i := 0) (j := 0) (dk_Mo_beyond 4 rfl) rfl rfl ?_
    refine g_lload (j := 2) (dk_Mo_beyond 5 rfl) rfl ?_
    refine g_lcmp (dk_Mo_beyond 6 rfl) ?_
    refine g_if_le 17 (dk_Mo_beyond 7 rfl) (by decide) (fun b2 => ?_) (fun b2 => ?_)
    · have h := p_ifT b2 h
      refine g_iconst (dk_Mo_beyond 10 rfl) (by decide) ?_
      cases h
      exact g_ret rfl rfl (dk_Mo_beyond 11 rfl) (fun _ => ⟨_, rfl, Or.inl rfl⟩)
    · have h := p_ifF b2 h
      refine g_sub [] [] rfl ?_
      exact tB_Mo_beyond_13 K l s0 _ h
def m_Mo_refused : p_Me := (⟨"SortWorksModel", "refused", "(I)I"⟩, prog_13_method_3_code, 2, (some .int), 0, 0)
theorem mt_Mo_refused : p_Mt m_Mo_refused 1 := ⟨p_mem (p_tb7 (List.mem_of_getElem? (i := 68) rfl)) rfl, tw_1_12, by decide +kernel, by decide +kernel, by decide +kernel⟩
def dt_Mo_refused : List (Nat × Instr × Nat) := [(0, .aload_n 0, 1), (1, .iload_n 1, 1), (2, .putfield 220, 3), (5, .iload_n 1, 1), (6, .ireturn, 1)]
theorem dk_Mo_refused (i : Nat) {pc : Nat} {ins : Instr} {len : Nat} (h : dt_Mo_refused[i]? = some (pc, ins, len)) : decode m_Mo_refused.2.1 pc = .ok (ins, len) := p_dk (b := m_Mo_refused.2.1) (t := dt_Mo_refused) (by decide +kernel) i h
def F_Mo_refused (v0 : Nat) (v1 : Int) (s0 : p_Hp) : Option (Int × p_Hp) :=
  p_gd (p_is s0 v0 11) <|
  p_bi (p_wZ s0 v0 1 v1) fun s2 =>
  some (v1, s2)
set_option maxRecDepth 100000 in
set_option maxHeartbeats 4000000 in
theorem tF_Mo_refused (K : p_K) (l : Launch) (v0 : Nat) (v1 : Int) (s0 : p_Hp) (r : (Int × p_Hp)) (h : F_Mo_refused v0 v1 s0 = some r) : p_Ct K l m_Mo_refused [p_r v0, p_i v1] s0 (some (p_i r.1), r.2) := by
  refine p_Ct.of (by decide +kernel) (Nat.le_of_ble_eq_true rfl) ?_
  unfold F_Mo_refused at h
  show p_Go K l m_Mo_refused 0 [(0, p_r v0), (1, p_i v1)] [] s0 _
  refine g_aload_n (i := 0) (j := 0) (dk_Mo_refused 0 rfl) rfl rfl ?_
  refine g_iload_n (i := 1) (j := 1) (dk_Mo_refused 1 rfl) rfl rfl ?_
  obtain ⟨c1, h⟩ := p_gdE h
  refine g_putI fl_Mo_220 (Or.inl rfl) (dk_Mo_refused 2 rfl) c1 ?_
  refine p_ltS (P := fun q => p_Go K l m_Mo_refused 5 [(0, p_r v0), (1, p_i v1)] [] q _) (p_xZ _ _ _ _) ?_ h
  intro s2 hs3 h
  refine g_iload_n (i := 1) (j := 1) (dk_Mo_refused 3 rfl) rfl rfl ?_
  cases h
  exact g_ret rfl rfl (dk_Mo_refused 4 rfl) (fun os => ⟨_, rfl, p_okh os⟩)
def m_Mo_well : p_Me := (⟨"SortWorksModel", "well", "(I)I"⟩, prog_13_method_5_code, 2, (some .int), 0, 0)
theorem mt_Mo_well : p_Mt m_Mo_well 1 := ⟨p_mem (p_tb7 (List.mem_of_getElem? (i := 72) rfl)) rfl, tw_1_12, by decide +kernel, by decide +kernel, by decide +kernel⟩
def dt_Mo_well : List (Nat × Instr × Nat) := [(0, .aload_n 0, 1), (1, .iconst 0, 1), (2, .putfield 220, 3), (5, .iload_n 1, 1), (6, .ireturn, 1)]
theorem dk_Mo_well (i : Nat) {pc : Nat} {ins : Instr} {len : Nat} (h : dt_Mo_well[i]? = some (pc, ins, len)) : decode m_Mo_well.2.1 pc = .ok (ins, len) := p_dk (b := m_Mo_well.2.1) (t := dt_Mo_well) (by decide +kernel) i h
def F_Mo_well (v0 : Nat) (v1 : Int) (s0 : p_Hp) : Option (Int × p_Hp) :=
  p_gd (p_is s0 v0 11) <|
  p_bi (p_wZ s0 v0 1 0) fun s2 =>
  some (v1, s2)
set_option maxRecDepth 100000 in
set_option maxHeartbeats 4000000 in
theorem tF_Mo_well (K : p_K) (l : Launch) (v0 : Nat) (v1 : Int) (s0 : p_Hp) (r : (Int × p_Hp)) (h : F_Mo_well v0 v1 s0 = some r) : p_Ct K l m_Mo_well [p_r v0, p_i v1] s0 (some (p_i r.1), r.2) := by
  refine p_Ct.of (by decide +kernel) (Nat.le_of_ble_eq_true rfl) ?_
  unfold F_Mo_well at h
  show p_Go K l m_Mo_well 0 [(0, p_r v0), (1, p_i v1)] [] s0 _
  refine g_aload_n (i := 0) (j := 0) (dk_Mo_well 0 rfl) rfl rfl ?_
  refine g_iconst (dk_Mo_well 1 rfl) (by decide) ?_
  obtain ⟨c1, h⟩ := p_gdE h
  refine g_putI fl_Mo_220 (Or.inl rfl) (dk_Mo_well 2 rfl) c1 ?_
  refine p_ltS (P := fun q => p_Go K l m_Mo_well 5 [(0, p_r v0), (1, p_i v1)] [] q _) (p_xZ _ _ _ _) ?_ h
  intro s2 hs3 h
  refine g_iload_n (i := 1) (j := 1) (dk_Mo_well 3 rfl) rfl rfl ?_
  cases h
  exact g_ret rfl rfl (dk_Mo_well 4 rfl) (fun os => ⟨_, rfl, p_okh os⟩)
def m_Mo_works : p_Me := (⟨"SortWorksModel", "works", "(I)I"⟩, prog_13_method_15_code, 3, (some .int), 1, 25)
theorem mt_Mo_works : p_Mt m_Mo_works 1 := ⟨p_mem (p_tb7 (List.mem_of_getElem? (i := 60) rfl)) rfl, tw_1_12, by decide +kernel, by decide +kernel, by decide +kernel⟩
def dt_Mo_works : List (Nat × Instr × Nat) := [(0, .iload_n 1, 1), (1, .i2l, 1), (2, .lconst 0, 1), (3, .ldc2_w 238, 3), (6, .invokestatic 230, 3), (9, .ifCond .eq 9, 3), (12, .aload_n 0, 1), (13, .iconst (-1), 1), (14, .invokevirtual 240, 3), (17, .ireturn, 1), (18, .aload_n 0, 1), (19, .getfield 227, 3), (22, .istore_n 2, 1), (23, .aload_n 0, 1), (24, .iload_n 1, 1), (25, .putfield 227, 3), (28, .aload_n 0, 1), (29, .iload_n 2, 1), (30, .invokevirtual 244, 3), (33, .ireturn, 1)]
theorem dk_Mo_works (i : Nat) {pc : Nat} {ins : Instr} {len : Nat} (h : dt_Mo_works[i]? = some (pc, ins, len)) : decode m_Mo_works.2.1 pc = .ok (ins, len) := p_dk (b := m_Mo_works.2.1) (t := dt_Mo_works) (by decide +kernel) i h
def F_Mo_works (v0 : Nat) (v1 : Int) (s0 : p_Hp) : Option (Int × p_Hp) :=
  p_bd (F_Mo_beyond v1 0 2 s0) fun r5 s1 =>
  if r5 = 0 then
    p_gd (p_is s1 v0 11) <|
    p_bi ((p_Z s1 v0 0)) fun x8 =>
    p_bi (p_wZ s1 v0 0 v1) fun s9 =>
    p_bd (F_Mo_well v0 x8 s9) fun r15 s11 =>
    some (r15, s11)
  else
    p_gd (p_is s1 v0 11) <|
    p_bd (F_Mo_refused v0 (-1) s1) fun r21 s17 =>
    some (r21, s17)
set_option maxRecDepth 100000 in
set_option maxHeartbeats 4000000 in
theorem tF_Mo_works (K : p_K) (l : Launch) (v0 : Nat) (v1 : Int) (s0 : p_Hp) (r : (Int × p_Hp)) (h : F_Mo_works v0 v1 s0 = some r) : p_Ct K l m_Mo_works [p_r v0, p_i v1] s0 (some (p_i r.1), r.2) := by
  refine p_Ct.of (by decide +kernel) (Nat.le_of_ble_eq_true rfl) ?_
  unfold F_Mo_works at h
  show p_Go K l m_Mo_works 0 [(0, p_r v0), (1, p_i v1)] [] s0 _
  refine g_iload_n (i := 1) (j := 1) (dk_Mo_works 0 rfl) rfl rfl ?_
  refine g_i2l (dk_Mo_works 1 rfl) ?_
  refine g_lconst (x := 0) (dk_Mo_works 2 rfl) rfl (by decide) ?_
  refine g_ldc2_w (x := 2) (dk_Mo_works 3 rfl) tw_7_61 (by decide) (by decide) ?_
  obtain ⟨r5, s1, q2, h⟩ := p_bdE h
  have t3 := tF_Mo_beyond K l v1 0 2 s0 _ q2
  refine g_callS (av := [p_j v1, p_j 0, p_j 2]) (rest := []) [p_i r5] mt_Mo_beyond tw_7_63 tw_7_62 ⟨Nat.le_of_ble_eq_true rfl, Nat.le_of_ble_eq_true rfl⟩ rfl (Nat.le_of_ble_eq_true rfl) (dk_Mo_works 4 rfl) rfl rfl t3 ?_
  have hs4 : p_x s0 s1 := t3.1
  show p_Go K l m_Mo_works 9 [(0, p_r v0), (1, p_i v1)] [p_i r5] s1 _
  refine g_if_eq 18 (dk_Mo_works 5 rfl) (by decide) (fun b6 => ?_) (fun b6 => ?_)
  · have h := p_ifT b6 h
    refine g_aload_n (i := 0) (j := 0) (dk_Mo_works 10 rfl) rfl rfl ?_
    obtain ⟨c7, h⟩ := p_gdE h
    refine g_getI fl_Mo_227 (Or.inl rfl) (dk_Mo_works 11 rfl) c7 ?_
    refine g_istore_n (i := 2) [(2, p_i (p_Z s1 v0 0)), (0, p_r v0), (1, p_i v1)] (dk_Mo_works 12 rfl) rfl (by decide) rfl ?_
    refine p_ltG (P := fun q => p_Go K l m_Mo_works 23 [(2, p_i q), (0, p_r v0), (1, p_i v1)] [] s1 _) ?_ h
    intro x8 h
    refine g_aload_n (i := 0) (j := 1) (dk_Mo_works 13 rfl) rfl rfl ?_
    refine g_iload_n (i := 1) (j := 2) (dk_Mo_works 14 rfl) rfl rfl ?_
    refine g_putI fl_Mo_227 (Or.inl rfl) (dk_Mo_works 15 rfl) c7 ?_
    refine p_ltS (P := fun q => p_Go K l m_Mo_works 28 [(2, p_i x8), (0, p_r v0), (1, p_i v1)] [] q _) (p_xZ _ _ _ _) ?_ h
    intro s9 hs10 h
    refine g_aload_n (i := 0) (j := 1) (dk_Mo_works 16 rfl) rfl rfl ?_
    refine g_iload_n (i := 2) (j := 0) (dk_Mo_works 17 rfl) rfl rfl ?_
    obtain ⟨r15, s11, q12, h⟩ := p_bdE h
    have t13 := tF_Mo_well K l v0 x8 s9 _ q12
    refine g_callV (a := v0) (ci := 11) (q0 := (RX11, TX11, 90)) (As := [p_i x8]) (rest := []) [p_i r15] mt_Mo_well rfl rfl tw_7_71 ts_44 tw_7_69 ⟨Nat.le_of_ble_eq_true rfl, Nat.le_of_ble_eq_true rfl⟩ rfl (Nat.le_of_ble_eq_true rfl) (dk_Mo_works 18 rfl) rfl (c7.up hs10) rfl t13 ?_
    have hs14 : p_x s9 s11 := t13.1
    show p_Go K l m_Mo_works 33 [(2, p_i x8), (0, p_r v0), (1, p_i v1)] [p_i r15] s11 _
    cases h
    exact g_ret rfl rfl (dk_Mo_works 19 rfl) (fun os => ⟨_, rfl, p_okh os⟩)
  · have h := p_ifF b6 h
    refine g_aload_n (i := 0) (j := 0) (dk_Mo_works 6 rfl) rfl rfl ?_
    refine g_iconst (dk_Mo_works 7 rfl) (by decide) ?_
    obtain ⟨c16, h⟩ := p_gdE h
    obtain ⟨r21, s17, q18, h⟩ := p_bdE h
    have t19 := tF_Mo_refused K l v0 (-1) s1 _ q18
    refine g_callV (a := v0) (ci := 11) (q0 := (RX11, TX11, 90)) (As := [p_i (-1)]) (rest := []) [p_i r21] mt_Mo_refused rfl rfl tw_7_67 ts_43 tw_7_65 ⟨Nat.le_of_ble_eq_true rfl, Nat.le_of_ble_eq_true rfl⟩ rfl (Nat.le_of_ble_eq_true rfl) (dk_Mo_works 8 rfl) rfl c16 rfl t19 ?_
    have hs20 : p_x s1 s17 := t19.1
    show p_Go K l m_Mo_works 17 [(0, p_r v0), (1, p_i v1)] [p_i r21] s17 _
    cases h
    exact g_ret rfl rfl (dk_Mo_works 9 rfl) (fun os => ⟨_, rfl, p_okh os⟩)
def m_Mo_built : p_Me := (⟨"SortWorksModel", "built", "(I)I"⟩, prog_13_method_17_code, 2, (some .int), 1, 21)
theorem mt_Mo_built : p_Mt m_Mo_built 1 := ⟨p_mem (p_tb7 (List.mem_of_getElem? (i := 99) rfl)) rfl, tw_1_12, by decide +kernel, by decide +kernel, by decide +kernel⟩
def dt_Mo_built : List (Nat × Instr × Nat) := [(0, .aload_n 0, 1), (1, .getfield 207, 3), (4, .aload_n 0, 1), (5, .getfield 227, 3), (8, .iconst 0, 1), (9, .iastore, 1), (10, .aload_n 0, 1), (11, .iload_n 1, 1), (12, .invokevirtual 244, 3), (15, .ireturn, 1)]
theorem dk_Mo_built (i : Nat) {pc : Nat} {ins : Instr} {len : Nat} (h : dt_Mo_built[i]? = some (pc, ins, len)) : decode m_Mo_built.2.1 pc = .ok (ins, len) := p_dk (b := m_Mo_built.2.1) (t := dt_Mo_built) (by decide +kernel) i h
def F_Mo_built (v0 : Nat) (v1 : Int) (s0 : p_Hp) : Option (Int × p_Hp) :=
  p_gd (p_is s0 v0 11) <|
  p_gd (p_is s0 (p_R s0 v0 81) 100) <|
  p_gd ((0 : Int) ≤ (p_Z s0 v0 0) ∧ (p_Z s0 v0 0) < (p_L s0 (p_R s0 v0 81) : Int)) <|
  p_bi (p_wZ s0 (p_R s0 v0 81) ((p_Z s0 v0 0) : Int).toNat 0) fun s4 =>
  p_bd (F_Mo_well v0 v1 s4) fun r10 s6 =>
  some (r10, s6)
set_option maxRecDepth 100000 in
set_option maxHeartbeats 4000000 in
theorem tF_Mo_built (K : p_K) (l : Launch) (v0 : Nat) (v1 : Int) (s0 : p_Hp) (r : (Int × p_Hp)) (h : F_Mo_built v0 v1 s0 = some r) : p_Ct K l m_Mo_built [p_r v0, p_i v1] s0 (some (p_i r.1), r.2) := by
  refine p_Ct.of (by decide +kernel) (Nat.le_of_ble_eq_true rfl) ?_
  unfold F_Mo_built at h
  show p_Go K l m_Mo_built 0 [(0, p_r v0), (1, p_i v1)] [] s0 _
  refine g_aload_n (i := 0) (j := 0) (dk_Mo_built 0 rfl) rfl rfl ?_
  obtain ⟨c1, h⟩ := p_gdE h
  refine g_getR fl_Mo_207 (Or.inr ⟨_, rfl⟩) (dk_Mo_built 1 rfl) c1 ?_
  refine g_aload_n (i := 0) (j := 0) (dk_Mo_built 2 rfl) rfl rfl ?_
  refine g_getI fl_Mo_227 (Or.inl rfl) (dk_Mo_built 3 rfl) c1 ?_
  refine g_iconst (dk_Mo_built 4 rfl) (by decide) ?_
  obtain ⟨c2, h⟩ := p_gdE h
  obtain ⟨c3, h⟩ := p_gdE h
  refine g_iastore (dk_Mo_built 5 rfl) c2 c3.1 c3.2 ?_
  refine p_ltS (P := fun q => p_Go K l m_Mo_built 10 [(0, p_r v0), (1, p_i v1)] [] q _) (p_xZ _ _ _ _) ?_ h
  intro s4 hs5 h
  refine g_aload_n (i := 0) (j := 0) (dk_Mo_built 6 rfl) rfl rfl ?_
  refine g_iload_n (i := 1) (j := 1) (dk_Mo_built 7 rfl) rfl rfl ?_
  obtain ⟨r10, s6, q7, h⟩ := p_bdE h
  have t8 := tF_Mo_well K l v0 v1 s4 _ q7
  refine g_callV (a := v0) (ci := 11) (q0 := (RX11, TX11, 90)) (As := [p_i v1]) (rest := []) [p_i r10] mt_Mo_well rfl rfl tw_7_71 ts_44 tw_7_69 ⟨Nat.le_of_ble_eq_true rfl, Nat.le_of_ble_eq_true rfl⟩ rfl (Nat.le_of_ble_eq_true rfl) (dk_Mo_built 8 rfl) rfl (c1.up hs5) rfl t8 ?_
  have hs9 : p_x s4 s6 := t8.1
  show p_Go K l m_Mo_built 15 [(0, p_r v0), (1, p_i v1)] [p_i r10] s6 _
  cases h
  exact g_ret rfl rfl (dk_Mo_built 9 rfl) (fun os => ⟨_, rfl, p_okh os⟩)
def m_Mo_isDivert : p_Me := (⟨"SortWorksModel", "isDivert", "(I)Z"⟩, prog_13_method_9_code, 1, (some .boolean), 0, 0)
theorem mt_Mo_isDivert : p_Mt m_Mo_isDivert 1 := ⟨p_mem (p_tb7 (List.mem_of_getElem? (i := 95) rfl)) rfl, tw_1_12, by decide +kernel, by decide +kernel, by decide +kernel⟩
def dt_Mo_isDivert : List (Nat × Instr × Nat) := [(0, .iload_n 0, 1), (1, .iconst 5, 1), (2, .if_icmp .eq 9, 3), (5, .iload_n 0, 1), (6, .bipush 6, 2), (8, .if_icmp .ne 7, 3), (11, .iconst 1, 1), (12, .goto 4, 3), (15, .iconst 0, 1), (16, .ireturn, 1)]
theorem dk_Mo_isDivert (i : Nat) {pc : Nat} {ins : Instr} {len : Nat} (h : dt_Mo_isDivert[i]? = some (pc, ins, len)) : decode m_Mo_isDivert.2.1 pc = .ok (ins, len) := p_dk (b := m_Mo_isDivert.2.1) (t := dt_Mo_isDivert) (by decide +kernel) i h
def B_Mo_isDivert_11   (s0 : p_Hp) : Option (Int × p_Hp) :=
  some (1, s0)
def F_Mo_isDivert (v0 : Int) (s0 : p_Hp) : Option (Int × p_Hp) :=
  if v0 = 5 then
    B_Mo_isDivert_11 s0
  else
    if v0 ≠ 6 then
      some (0, s0)
    else
      B_Mo_isDivert_11 s0
set_option maxRecDepth 100000 in
set_option maxHeartbeats 4000000 in
theorem tB_Mo_isDivert_11 (K : p_K) (l : Launch)   (s0 : p_Hp) (r : (Int × p_Hp)) (h : B_Mo_isDivert_11  s0 = some r) : p_Go K l m_Mo_isDivert 11 [] [] s0 (some (p_i r.1), r.2) := by
  unfold B_Mo_isDivert_11 at h
  refine g_iconst (dk_Mo_isDivert 6 rfl) (by decide) ?_
  refine g_goto 16 (dk_Mo_isDivert 7 rfl) (by decide) ?_
  cases h
  exact g_ret rfl rfl (dk_Mo_isDivert 9 rfl) (fun _ => ⟨_, rfl, Or.inr rfl⟩)
set_option maxRecDepth 100000 in
set_option maxHeartbeats 4000000 in
theorem tF_Mo_isDivert (K : p_K) (l : Launch) (v0 : Int) (s0 : p_Hp) (r : (Int × p_Hp)) (h : F_Mo_isDivert v0 s0 = some r) : p_Ct K l m_Mo_isDivert [p_i v0] s0 (some (p_i r.1), r.2) := by
  refine p_Ct.of (by decide +kernel) (Nat.le_of_ble_eq_true rfl) ?_
  unfold F_Mo_isDivert at h
  show p_Go K l m_Mo_isDivert 0 [(0, p_i v0)] [] s0 _
  refine g_iload_n (i := 0) (j := 0) (dk_Mo_isDivert 0 rfl) rfl rfl ?_
  refine g_iconst (dk_Mo_isDivert 1 rfl) (by decide) ?_
  refine g_icmp_eq 11 (dk_Mo_isDivert 2 rfl) (by decide) (fun b1 => ?_) (fun b1 => ?_)
  · have h := p_ifT b1 h
    refine g_sub [] [] rfl ?_
    exact tB_Mo_isDivert_11 K l s0 _ h
  · have h := p_ifF b1 h
    refine g_iload_n (i := 0) (j := 0) (dk_Mo_isDivert 3 rfl) rfl rfl ?_
    refine g_bipush (dk_Mo_isDivert 4 rfl) (by decide +kernel) (by decide) ?_
    refine g_icmp_ne 15 (dk_Mo_isDivert 5 rfl) (by decide) (fun b2 => ?_) (fun b2 => ?_)
    · have h := p_ifT b2 h
      refine g_iconst (dk_Mo_isDivert 8 rfl) (by decide) ?_
      cases h
      exact g_ret rfl rfl (dk_Mo_isDivert 9 rfl) (fun _ => ⟨_, rfl, Or.inl rfl⟩)
    · have h := p_ifF b2 h
      refine g_sub [] [] rfl ?_
      exact tB_Mo_isDivert_11 K l s0 _ h
def m_Mo_rankOf : p_Me := (⟨"SortWorksModel", "rankOf", "(I)I"⟩, prog_13_method_12_code, 1, (some .int), 1, 20)
theorem mt_Mo_rankOf : p_Mt m_Mo_rankOf 1 := ⟨p_mem (p_tb7 (List.mem_of_getElem? (i := 92) rfl)) rfl, tw_1_12, by decide +kernel, by decide +kernel, by decide +kernel⟩
def dt_Mo_rankOf : List (Nat × Instr × Nat) := [(0, .iload_n 0, 1), (1, .iconst 1, 1), (2, .if_icmp .ne 7, 3), (5, .iconst 2, 1), (6, .goto 24, 3), (9, .iload_n 0, 1), (10, .iconst 4, 1), (11, .if_icmp .ne 7, 3), (14, .iconst 4, 1), (15, .goto 15, 3), (18, .iload_n 0, 1), (19, .invokestatic 234, 3), (22, .ifCond .eq 7, 3), (25, .iconst 3, 1), (26, .goto 4, 3), (29, .iconst 1, 1), (30, .ireturn, 1)]
theorem dk_Mo_rankOf (i : Nat) {pc : Nat} {ins : Instr} {len : Nat} (h : dt_Mo_rankOf[i]? = some (pc, ins, len)) : decode m_Mo_rankOf.2.1 pc = .ok (ins, len) := p_dk (b := m_Mo_rankOf.2.1) (t := dt_Mo_rankOf) (by decide +kernel) i h
def F_Mo_rankOf (v0 : Int) (s0 : p_Hp) : Option (Int × p_Hp) :=
  if v0 ≠ 1 then
    if v0 ≠ 4 then
      p_bd (F_Mo_isDivert v0 s0) fun r7 s3 =>
      if r7 = 0 then
        some (1, s3)
      else
        some (3, s3)
    else
      some (4, s0)
  else
    some (2, s0)
set_option maxRecDepth 100000 in
set_option maxHeartbeats 4000000 in
theorem tF_Mo_rankOf (K : p_K) (l : Launch) (v0 : Int) (s0 : p_Hp) (r : (Int × p_Hp)) (h : F_Mo_rankOf v0 s0 = some r) : p_Ct K l m_Mo_rankOf [p_i v0] s0 (some (p_i r.1), r.2) := by
  refine p_Ct.of (by decide +kernel) (Nat.le_of_ble_eq_true rfl) ?_
  unfold F_Mo_rankOf at h
  show p_Go K l m_Mo_rankOf 0 [(0, p_i v0)] [] s0 _
  refine g_iload_n (i := 0) (j := 0) (dk_Mo_rankOf 0 rfl) rfl rfl ?_
  refine g_iconst (dk_Mo_rankOf 1 rfl) (by decide) ?_
  refine g_icmp_ne 9 (dk_Mo_rankOf 2 rfl) (by decide) (fun b1 => ?_) (fun b1 => ?_)
  · have h := p_ifT b1 h
    refine g_iload_n (i := 0) (j := 0) (dk_Mo_rankOf 5 rfl) rfl rfl ?_
    refine g_iconst (dk_Mo_rankOf 6 rfl) (by decide) ?_
    refine g_icmp_ne 18 (dk_Mo_rankOf 7 rfl) (by decide) (fun b2 => ?_) (fun b2 => ?_)
    · have h := p_ifT b2 h
      refine g_iload_n (i := 0) (j := 0) (dk_Mo_rankOf 10 rfl) rfl rfl ?_
      obtain ⟨r7, s3, q4, h⟩ := p_bdE h
      have t5 := tF_Mo_isDivert K l v0 s0 _ q4
      refine g_callS (av := [p_i v0]) (rest := []) [p_i r7] mt_Mo_isDivert tw_7_94 tw_7_93 ⟨Nat.le_of_ble_eq_true rfl, Nat.le_of_ble_eq_true rfl⟩ rfl (Nat.le_of_ble_eq_true rfl) (dk_Mo_rankOf 11 rfl) rfl rfl t5 ?_
      have hs6 : p_x s0 s3 := t5.1
      show p_Go K l m_Mo_rankOf 22 [(0, p_i v0)] [p_i r7] s3 _
      refine g_if_eq 29 (dk_Mo_rankOf 12 rfl) (by decide) (fun b8 => ?_) (fun b8 => ?_)
      · have h := p_ifT b8 h
        refine g_iconst (dk_Mo_rankOf 15 rfl) (by decide) ?_
        cases h
        exact g_ret rfl rfl (dk_Mo_rankOf 16 rfl) (fun os => ⟨_, rfl, p_okh os⟩)
      · have h := p_ifF b8 h
        refine g_iconst (dk_Mo_rankOf 13 rfl) (by decide) ?_
        refine g_goto 30 (dk_Mo_rankOf 14 rfl) (by decide) ?_
        cases h
        exact g_ret rfl rfl (dk_Mo_rankOf 16 rfl) (fun os => ⟨_, rfl, p_okh os⟩)
    · have h := p_ifF b2 h
      refine g_iconst (dk_Mo_rankOf 8 rfl) (by decide) ?_
      refine g_goto 30 (dk_Mo_rankOf 9 rfl) (by decide) ?_
      cases h
      exact g_ret rfl rfl (dk_Mo_rankOf 16 rfl) (fun os => ⟨_, rfl, p_okh os⟩)
  · have h := p_ifF b1 h
    refine g_iconst (dk_Mo_rankOf 3 rfl) (by decide) ?_
    refine g_goto 30 (dk_Mo_rankOf 4 rfl) (by decide) ?_
    cases h
    exact g_ret rfl rfl (dk_Mo_rankOf 16 rfl) (fun os => ⟨_, rfl, p_okh os⟩)
def m_Mo_fresh : p_Me := (⟨"SortWorksModel", "fresh", "(II)V"⟩, prog_13_method_16_code, 3, none, 2, 40)
theorem mt_Mo_fresh : p_Mt m_Mo_fresh 2 := ⟨p_mem (p_tb7 (List.mem_of_getElem? (i := 89) rfl)) rfl, tw_1_12, by decide +kernel, by decide +kernel, by decide +kernel⟩
def dt_Mo_fresh : List (Nat × Instr × Nat) := [(0, .aload_n 0, 1), (1, .getfield 16, 3), (4, .iload_n 1, 1), (5, .iload_n 2, 1), (6, .iastore, 1), (7, .aload_n 0, 1), (8, .getfield 28, 3), (11, .iload_n 1, 1), (12, .iload_n 2, 1), (13, .invokestatic 247, 3), (16, .iastore, 1), (17, .aload_n 0, 1), (18, .getfield 31, 3), (21, .iload_n 1, 1), (22, .iconst 0, 1), (23, .iastore, 1), (24, .aload_n 0, 1), (25, .getfield 34, 3), (28, .iconst 2, 1), (29, .iload_n 1, 1), (30, .imul, 1), (31, .lconst 0, 1), (32, .lastore, 1), (33, .aload_n 0, 1), (34, .getfield 34, 3), (37, .iconst 2, 1), (38, .iload_n 1, 1), (39, .imul, 1), (40, .iconst 1, 1), (41, .iadd, 1), (42, .lconst 0, 1), (43, .lastore, 1), (44, .aload_n 0, 1), (45, .getfield 38, 3), (48, .iload_n 1, 1), (49, .iconst (-1), 1), (50, .iastore, 1), (51, .aload_n 0, 1), (52, .getfield 41, 3), (55, .iload_n 1, 1), (56, .iconst 0, 1), (57, .iastore, 1), (58, .aload_n 0, 1), (59, .getfield 44, 3), (62, .iload_n 1, 1), (63, .iconst 0, 1), (64, .bastore, 1), (65, .aload_n 0, 1), (66, .getfield 48, 3), (69, .iload_n 1, 1), (70, .iconst 0, 1), (71, .iastore, 1), (72, .aload_n 0, 1), (73, .getfield 51, 3), (76, .iload_n 1, 1), (77, .iconst 0, 1), (78, .iastore, 1), (79, .aload_n 0, 1), (80, .getfield 54, 3), (83, .iload_n 1, 1), (84, .iconst 0, 1), (85, .iastore, 1), (86, .aload_n 0, 1), (87, .getfield 57, 3), (90, .iload_n 1, 1), (91, .iconst 0, 1), (92, .iastore, 1), (93, .aload_n 0, 1), (94, .getfield 60, 3), (97, .iload_n 1, 1), (98, .iconst 0, 1), (99, .iastore, 1), (100, .aload_n 0, 1), (101, .getfield 63, 3), (104, .iload_n 1, 1), (105, .iconst 0, 1), (106, .iastore, 1), (107, .aload_n 0, 1), (108, .getfield 66, 3), (111, .iload_n 1, 1), (112, .iconst 0, 1), (113, .iastore, 1), (114, .return_, 1)]
theorem dk_Mo_fresh (i : Nat) {pc : Nat} {ins : Instr} {len : Nat} (h : dt_Mo_fresh[i]? = some (pc, ins, len)) : decode m_Mo_fresh.2.1 pc = .ok (ins, len) := p_dk (b := m_Mo_fresh.2.1) (t := dt_Mo_fresh) (by decide +kernel) i h
def F_Mo_fresh (v0 : Nat) (v1 : Int) (v2 : Int) (s0 : p_Hp) : Option p_Hp :=
  p_gd (p_is s0 v0 11) <|
  p_gd (p_is s0 (p_R s0 v0 5) 100) <|
  p_gd ((0 : Int) ≤ v1 ∧ v1 < (p_L s0 (p_R s0 v0 5) : Int)) <|
  p_bi (p_wZ s0 (p_R s0 v0 5) (v1 : Int).toNat v2) fun s4 =>
  p_bd (F_Mo_rankOf v2 s4) fun r10 s6 =>
  p_gd (p_is s6 (p_R s4 v0 9) 100) <|
  p_gd ((0 : Int) ≤ v1 ∧ v1 < (p_L s6 (p_R s4 v0 9) : Int)) <|
  p_bi (p_wZ s6 (p_R s4 v0 9) (v1 : Int).toNat r10) fun s13 =>
  p_gd (p_is s13 (p_R s13 v0 10) 100) <|
  p_gd ((0 : Int) ≤ v1 ∧ v1 < (p_L s13 (p_R s13 v0 10) : Int)) <|
  p_bi (p_wZ s13 (p_R s13 v0 10) (v1 : Int).toNat 0) fun s17 =>
  p_gd (p_is s17 (p_R s17 v0 11) 101) <|
  p_gd ((0 : Int) ≤ (p_w (2 * v1)) ∧ (p_w (2 * v1)) < (p_L s17 (p_R s17 v0 11) : Int)) <|
  p_bi (p_wZ s17 (p_R s17 v0 11) ((p_w (2 * v1)) : Int).toNat 0) fun s21 =>
  p_gd (p_is s21 (p_R s21 v0 11) 101) <|
  p_gd ((0 : Int) ≤ (p_w ((p_w (2 * v1)) + 1)) ∧ (p_w ((p_w (2 * v1)) + 1)) < (p_L s21 (p_R s21 v0 11) : Int)) <|
  p_bi (p_wZ s21 (p_R s21 v0 11) ((p_w ((p_w (2 * v1)) + 1)) : Int).toNat 0) fun s25 =>
  p_gd (p_is s25 (p_R s25 v0 12) 100) <|
  p_gd ((0 : Int) ≤ v1 ∧ v1 < (p_L s25 (p_R s25 v0 12) : Int)) <|
  p_bi (p_wZ s25 (p_R s25 v0 12) (v1 : Int).toNat (-1)) fun s29 =>
  p_gd (p_is s29 (p_R s29 v0 13) 100) <|
  p_gd ((0 : Int) ≤ v1 ∧ v1 < (p_L s29 (p_R s29 v0 13) : Int)) <|
  p_bi (p_wZ s29 (p_R s29 v0 13) (v1 : Int).toNat 0) fun s33 =>
  p_gd (p_is s33 (p_R s33 v0 14) 102) <|
  p_gd ((0 : Int) ≤ v1 ∧ v1 < (p_L s33 (p_R s33 v0 14) : Int)) <|
  p_bi (p_wZ s33 (p_R s33 v0 14) (v1 : Int).toNat 0) fun s37 =>
  p_gd (p_is s37 (p_R s37 v0 15) 100) <|
  p_gd ((0 : Int) ≤ v1 ∧ v1 < (p_L s37 (p_R s37 v0 15) : Int)) <|
  p_bi (p_wZ s37 (p_R s37 v0 15) (v1 : Int).toNat 0) fun s41 =>
  p_gd (p_is s41 (p_R s41 v0 16) 100) <|
  p_gd ((0 : Int) ≤ v1 ∧ v1 < (p_L s41 (p_R s41 v0 16) : Int)) <|
  p_bi (p_wZ s41 (p_R s41 v0 16) (v1 : Int).toNat 0) fun s45 =>
  p_gd (p_is s45 (p_R s45 v0 17) 100) <|
  p_gd ((0 : Int) ≤ v1 ∧ v1 < (p_L s45 (p_R s45 v0 17) : Int)) <|
  p_bi (p_wZ s45 (p_R s45 v0 17) (v1 : Int).toNat 0) fun s49 =>
  p_gd (p_is s49 (p_R s49 v0 18) 100) <|
  p_gd ((0 : Int) ≤ v1 ∧ v1 < (p_L s49 (p_R s49 v0 18) : Int)) <|
  p_bi (p_wZ s49 (p_R s49 v0 18) (v1 : Int).toNat 0) fun s53 =>
  p_gd (p_is s53 (p_R s53 v0 19) 100) <|
  p_gd ((0 : Int) ≤ v1 ∧ v1 < (p_L s53 (p_R s53 v0 19) : Int)) <|
  p_bi (p_wZ s53 (p_R s53 v0 19) (v1 : Int).toNat 0) fun s57 =>
  p_gd (p_is s57 (p_R s57 v0 20) 100) <|
  p_gd ((0 : Int) ≤ v1 ∧ v1 < (p_L s57 (p_R s57 v0 20) : Int)) <|
  p_bi (p_wZ s57 (p_R s57 v0 20) (v1 : Int).toNat 0) fun s61 =>
  p_gd (p_is s61 (p_R s61 v0 21) 100) <|
  p_gd ((0 : Int) ≤ v1 ∧ v1 < (p_L s61 (p_R s61 v0 21) : Int)) <|
  p_bi (p_wZ s61 (p_R s61 v0 21) (v1 : Int).toNat 0) fun s65 =>
  some s65
set_option maxRecDepth 100000 in
set_option maxHeartbeats 4000000 in
theorem tF_Mo_fresh (K : p_K) (l : Launch) (v0 : Nat) (v1 : Int) (v2 : Int) (s0 : p_Hp) (r : p_Hp) (h : F_Mo_fresh v0 v1 v2 s0 = some r) : p_Ct K l m_Mo_fresh [p_r v0, p_i v1, p_i v2] s0 (none, r) := by
  refine p_Ct.of (by decide +kernel) (Nat.le_of_ble_eq_true rfl) ?_
  unfold F_Mo_fresh at h
  show p_Go K l m_Mo_fresh 0 [(0, p_r v0), (1, p_i v1), (2, p_i v2)] [] s0 _
  refine g_aload_n (i := 0) (j := 0) (dk_Mo_fresh 0 rfl) rfl rfl ?_
  obtain ⟨c1, h⟩ := p_gdE h
  refine g_getR fl_Mo_16 (Or.inr ⟨_, rfl⟩) (dk_Mo_fresh 1 rfl) c1 ?_
  refine g_iload_n (i := 1) (j := 1) (dk_Mo_fresh 2 rfl) rfl rfl ?_
  refine g_iload_n (i := 2) (j := 2) (dk_Mo_fresh 3 rfl) rfl rfl ?_
  obtain ⟨c2, h⟩ := p_gdE h
  obtain ⟨c3, h⟩ := p_gdE h
  refine g_iastore (dk_Mo_fresh 4 rfl) c2 c3.1 c3.2 ?_
  refine p_ltS (P := fun q => p_Go K l m_Mo_fresh 7 [(0, p_r v0), (1, p_i v1), (2, p_i v2)] [] q _) (p_xZ _ _ _ _) ?_ h
  intro s4 hs5 h
  refine g_aload_n (i := 0) (j := 0) (dk_Mo_fresh 5 rfl) rfl rfl ?_
  refine g_getR fl_Mo_28 (Or.inr ⟨_, rfl⟩) (dk_Mo_fresh 6 rfl) (c1.up hs5) ?_
  refine g_iload_n (i := 1) (j := 1) (dk_Mo_fresh 7 rfl) rfl rfl ?_
  refine g_iload_n (i := 2) (j := 2) (dk_Mo_fresh 8 rfl) rfl rfl ?_
  obtain ⟨r10, s6, q7, h⟩ := p_bdE h
  have t8 := tF_Mo_rankOf K l v2 s4 _ q7
  refine g_callS (av := [p_i v2]) (rest := [p_i v1, p_r (p_R s4 v0 9)]) [p_i r10, p_i v1, p_r (p_R s4 v0 9)] mt_Mo_rankOf tw_7_91 tw_7_90 ⟨Nat.le_of_ble_eq_true rfl, Nat.le_of_ble_eq_true rfl⟩ rfl (Nat.le_of_ble_eq_true rfl) (dk_Mo_fresh 9 rfl) rfl rfl t8 ?_
  have hs9 : p_x s4 s6 := t8.1
  show p_Go K l m_Mo_fresh 16 [(0, p_r v0), (1, p_i v1), (2, p_i v2)] [p_i r10, p_i v1, p_r (p_R s4 v0 9)] s6 _
  obtain ⟨c11, h⟩ := p_gdE h
  obtain ⟨c12, h⟩ := p_gdE h
  refine g_iastore (dk_Mo_fresh 10 rfl) c11 c12.1 c12.2 ?_
  refine p_ltS (P := fun q => p_Go K l m_Mo_fresh 17 [(0, p_r v0), (1, p_i v1), (2, p_i v2)] [] q _) (p_xZ _ _ _ _) ?_ h
  intro s13 hs14 h
  refine g_aload_n (i := 0) (j := 0) (dk_Mo_fresh 11 rfl) rfl rfl ?_
  refine g_getR fl_Mo_31 (Or.inr ⟨_, rfl⟩) (dk_Mo_fresh 12 rfl) (c1.up (hs5.trans (hs9.trans hs14))) ?_
  refine g_iload_n (i := 1) (j := 1) (dk_Mo_fresh 13 rfl) rfl rfl ?_
  refine g_iconst (dk_Mo_fresh 14 rfl) (by decide) ?_
  obtain ⟨c15, h⟩ := p_gdE h
  obtain ⟨c16, h⟩ := p_gdE h
  refine g_iastore (dk_Mo_fresh 15 rfl) c15 c16.1 c16.2 ?_
  refine p_ltS (P := fun q => p_Go K l m_Mo_fresh 24 [(0, p_r v0), (1, p_i v1), (2, p_i v2)] [] q _) (p_xZ _ _ _ _) ?_ h
  intro s17 hs18 h
  refine g_aload_n (i := 0) (j := 0) (dk_Mo_fresh 16 rfl) rfl rfl ?_
  refine g_getR fl_Mo_34 (Or.inr ⟨_, rfl⟩) (dk_Mo_fresh 17 rfl) (c1.up (hs5.trans (hs9.trans (hs14.trans hs18)))) ?_
  refine g_iconst (dk_Mo_fresh 18 rfl) (by decide) ?_
  refine g_iload_n (i := 1) (j := 1) (dk_Mo_fresh 19 rfl) rfl rfl ?_
  refine g_imul (dk_Mo_fresh 20 rfl) ?_
  refine g_lconst (x := 0) (dk_Mo_fresh 21 rfl) rfl (by decide) ?_
  obtain ⟨c19, h⟩ := p_gdE h
  obtain ⟨c20, h⟩ := p_gdE h
  refine g_lastore (dk_Mo_fresh 22 rfl) c19 c20.1 c20.2 ?_
  refine p_ltS (P := fun q => p_Go K l m_Mo_fresh 33 [(0, p_r v0), (1, p_i v1), (2, p_i v2)] [] q _) (p_xZ _ _ _ _) ?_ h
  intro s21 hs22 h
  refine g_aload_n (i := 0) (j := 0) (dk_Mo_fresh 23 rfl) rfl rfl ?_
  refine g_getR fl_Mo_34 (Or.inr ⟨_, rfl⟩) (dk_Mo_fresh 24 rfl) (c1.up (hs5.trans (hs9.trans (hs14.trans (hs18.trans hs22))))) ?_
  refine g_iconst (dk_Mo_fresh 25 rfl) (by decide) ?_
  refine g_iload_n (i := 1) (j := 1) (dk_Mo_fresh 26 rfl) rfl rfl ?_
  refine g_imul (dk_Mo_fresh 27 rfl) ?_
  refine g_iconst (dk_Mo_fresh 28 rfl) (by decide) ?_
  refine g_iadd (dk_Mo_fresh 29 rfl) ?_
  refine g_lconst (x := 0) (dk_Mo_fresh 30 rfl) rfl (by decide) ?_
  obtain ⟨c23, h⟩ := p_gdE h
  obtain ⟨c24, h⟩ := p_gdE h
  refine g_lastore (dk_Mo_fresh 31 rfl) c23 c24.1 c24.2 ?_
  refine p_ltS (P := fun q => p_Go K l m_Mo_fresh 44 [(0, p_r v0), (1, p_i v1), (2, p_i v2)] [] q _) (p_xZ _ _ _ _) ?_ h
  intro s25 hs26 h
  refine g_aload_n (i := 0) (j := 0) (dk_Mo_fresh 32 rfl) rfl rfl ?_
  refine g_getR fl_Mo_38 (Or.inr ⟨_, rfl⟩) (dk_Mo_fresh 33 rfl) (c1.up (hs5.trans (hs9.trans (hs14.trans (hs18.trans (hs22.trans hs26)))))) ?_
  refine g_iload_n (i := 1) (j := 1) (dk_Mo_fresh 34 rfl) rfl rfl ?_
  refine g_iconst (dk_Mo_fresh 35 rfl) (by decide) ?_
  obtain ⟨c27, h⟩ := p_gdE h
  obtain ⟨c28, h⟩ := p_gdE h
  refine g_iastore (dk_Mo_fresh 36 rfl) c27 c28.1 c28.2 ?_
  refine p_ltS (P := fun q => p_Go K l m_Mo_fresh 51 [(0, p_r v0), (1, p_i v1), (2, p_i v2)] [] q _) (p_xZ _ _ _ _) ?_ h
  intro s29 hs30 h
  refine g_aload_n (i := 0) (j := 0) (dk_Mo_fresh 37 rfl) rfl rfl ?_
  refine g_getR fl_Mo_41 (Or.inr ⟨_, rfl⟩) (dk_Mo_fresh 38 rfl) (c1.up (hs5.trans (hs9.trans (hs14.trans (hs18.trans (hs22.trans (hs26.trans hs30))))))) ?_
  refine g_iload_n (i := 1) (j := 1) (dk_Mo_fresh 39 rfl) rfl rfl ?_
  refine g_iconst (dk_Mo_fresh 40 rfl) (by decide) ?_
  obtain ⟨c31, h⟩ := p_gdE h
  obtain ⟨c32, h⟩ := p_gdE h
  refine g_iastore (dk_Mo_fresh 41 rfl) c31 c32.1 c32.2 ?_
  refine p_ltS (P := fun q => p_Go K l m_Mo_fresh 58 [(0, p_r v0), (1, p_i v1), (2, p_i v2)] [] q _) (p_xZ _ _ _ _) ?_ h
  intro s33 hs34 h
  refine g_aload_n (i := 0) (j := 0) (dk_Mo_fresh 42 rfl) rfl rfl ?_
  refine g_getR fl_Mo_44 (Or.inr ⟨_, rfl⟩) (dk_Mo_fresh 43 rfl) (c1.up (hs5.trans (hs9.trans (hs14.trans (hs18.trans (hs22.trans (hs26.trans (hs30.trans hs34)))))))) ?_
  refine g_iload_n (i := 1) (j := 1) (dk_Mo_fresh 44 rfl) rfl rfl ?_
  refine g_iconst (dk_Mo_fresh 45 rfl) (by decide) ?_
  obtain ⟨c35, h⟩ := p_gdE h
  obtain ⟨c36, h⟩ := p_gdE h
  refine g_bastore (dk_Mo_fresh 46 rfl) c35 c36.1 c36.2 (Or.inl rfl) ?_
  refine p_ltS (P := fun q => p_Go K l m_Mo_fresh 65 [(0, p_r v0), (1, p_i v1), (2, p_i v2)] [] q _) (p_xZ _ _ _ _) ?_ h
  intro s37 hs38 h
  refine g_aload_n (i := 0) (j := 0) (dk_Mo_fresh 47 rfl) rfl rfl ?_
  refine g_getR fl_Mo_48 (Or.inr ⟨_, rfl⟩) (dk_Mo_fresh 48 rfl) (c1.up (hs5.trans (hs9.trans (hs14.trans (hs18.trans (hs22.trans (hs26.trans (hs30.trans (hs34.trans hs38))))))))) ?_
  refine g_iload_n (i := 1) (j := 1) (dk_Mo_fresh 49 rfl) rfl rfl ?_
  refine g_iconst (dk_Mo_fresh 50 rfl) (by decide) ?_
  obtain ⟨c39, h⟩ := p_gdE h
  obtain ⟨c40, h⟩ := p_gdE h
  refine g_iastore (dk_Mo_fresh 51 rfl) c39 c40.1 c40.2 ?_
  refine p_ltS (P := fun q => p_Go K l m_Mo_fresh 72 [(0, p_r v0), (1, p_i v1), (2, p_i v2)] [] q _) (p_xZ _ _ _ _) ?_ h
  intro s41 hs42 h
  refine g_aload_n (i := 0) (j := 0) (dk_Mo_fresh 52 rfl) rfl rfl ?_
  refine g_getR fl_Mo_51 (Or.inr ⟨_, rfl⟩) (dk_Mo_fresh 53 rfl) (c1.up (hs5.trans (hs9.trans (hs14.trans (hs18.trans (hs22.trans (hs26.trans (hs30.trans (hs34.trans (hs38.trans hs42)))))))))) ?_
  refine g_iload_n (i := 1) (j := 1) (dk_Mo_fresh 54 rfl) rfl rfl ?_
  refine g_iconst (dk_Mo_fresh 55 rfl) (by decide) ?_
  obtain ⟨c43, h⟩ := p_gdE h
  obtain ⟨c44, h⟩ := p_gdE h
  refine g_iastore (dk_Mo_fresh 56 rfl) c43 c44.1 c44.2 ?_
  refine p_ltS (P := fun q => p_Go K l m_Mo_fresh 79 [(0, p_r v0), (1, p_i v1), (2, p_i v2)] [] q _) (p_xZ _ _ _ _) ?_ h
  intro s45 hs46 h
  refine g_aload_n (i := 0) (j := 0) (dk_Mo_fresh 57 rfl) rfl rfl ?_
  refine g_getR fl_Mo_54 (Or.inr ⟨_, rfl⟩) (dk_Mo_fresh 58 rfl) (c1.up (hs5.trans (hs9.trans (hs14.trans (hs18.trans (hs22.trans (hs26.trans (hs30.trans (hs34.trans (hs38.trans (hs42.trans hs46))))))))))) ?_
  refine g_iload_n (i := 1) (j := 1) (dk_Mo_fresh 59 rfl) rfl rfl ?_
  refine g_iconst (dk_Mo_fresh 60 rfl) (by decide) ?_
  obtain ⟨c47, h⟩ := p_gdE h
  obtain ⟨c48, h⟩ := p_gdE h
  refine g_iastore (dk_Mo_fresh 61 rfl) c47 c48.1 c48.2 ?_
  refine p_ltS (P := fun q => p_Go K l m_Mo_fresh 86 [(0, p_r v0), (1, p_i v1), (2, p_i v2)] [] q _) (p_xZ _ _ _ _) ?_ h
  intro s49 hs50 h
  refine g_aload_n (i := 0) (j := 0) (dk_Mo_fresh 62 rfl) rfl rfl ?_
  refine g_getR fl_Mo_57 (Or.inr ⟨_, rfl⟩) (dk_Mo_fresh 63 rfl) (c1.up (hs5.trans (hs9.trans (hs14.trans (hs18.trans (hs22.trans (hs26.trans (hs30.trans (hs34.trans (hs38.trans (hs42.trans (hs46.trans hs50)))))))))))) ?_
  refine g_iload_n (i := 1) (j := 1) (dk_Mo_fresh 64 rfl) rfl rfl ?_
  refine g_iconst (dk_Mo_fresh 65 rfl) (by decide) ?_
  obtain ⟨c51, h⟩ := p_gdE h
  obtain ⟨c52, h⟩ := p_gdE h
  refine g_iastore (dk_Mo_fresh 66 rfl) c51 c52.1 c52.2 ?_
  refine p_ltS (P := fun q => p_Go K l m_Mo_fresh 93 [(0, p_r v0), (1, p_i v1), (2, p_i v2)] [] q _) (p_xZ _ _ _ _) ?_ h
  intro s53 hs54 h
  refine g_aload_n (i := 0) (j := 0) (dk_Mo_fresh 67 rfl) rfl rfl ?_
  refine g_getR fl_Mo_60 (Or.inr ⟨_, rfl⟩) (dk_Mo_fresh 68 rfl) (c1.up (hs5.trans (hs9.trans (hs14.trans (hs18.trans (hs22.trans (hs26.trans (hs30.trans (hs34.trans (hs38.trans (hs42.trans (hs46.trans (hs50.trans hs54))))))))))))) ?_
  refine g_iload_n (i := 1) (j := 1) (dk_Mo_fresh 69 rfl) rfl rfl ?_
  refine g_iconst (dk_Mo_fresh 70 rfl) (by decide) ?_
  obtain ⟨c55, h⟩ := p_gdE h
  obtain ⟨c56, h⟩ := p_gdE h
  refine g_iastore (dk_Mo_fresh 71 rfl) c55 c56.1 c56.2 ?_
  refine p_ltS (P := fun q => p_Go K l m_Mo_fresh 100 [(0, p_r v0), (1, p_i v1), (2, p_i v2)] [] q _) (p_xZ _ _ _ _) ?_ h
  intro s57 hs58 h
  refine g_aload_n (i := 0) (j := 0) (dk_Mo_fresh 72 rfl) rfl rfl ?_
  refine g_getR fl_Mo_63 (Or.inr ⟨_, rfl⟩) (dk_Mo_fresh 73 rfl) (c1.up (hs5.trans (hs9.trans (hs14.trans (hs18.trans (hs22.trans (hs26.trans (hs30.trans (hs34.trans (hs38.trans (hs42.trans (hs46.trans (hs50.trans (hs54.trans hs58)))))))))))))) ?_
  refine g_iload_n (i := 1) (j := 1) (dk_Mo_fresh 74 rfl) rfl rfl ?_
  refine g_iconst (dk_Mo_fresh 75 rfl) (by decide) ?_
  obtain ⟨c59, h⟩ := p_gdE h
  obtain ⟨c60, h⟩ := p_gdE h
  refine g_iastore (dk_Mo_fresh 76 rfl) c59 c60.1 c60.2 ?_
  refine p_ltS (P := fun q => p_Go K l m_Mo_fresh 107 [(0, p_r v0), (1, p_i v1), (2, p_i v2)] [] q _) (p_xZ _ _ _ _) ?_ h
  intro s61 hs62 h
  refine g_aload_n (i := 0) (j := 0) (dk_Mo_fresh 77 rfl) rfl rfl ?_
  refine g_getR fl_Mo_66 (Or.inr ⟨_, rfl⟩) (dk_Mo_fresh 78 rfl) (c1.up (hs5.trans (hs9.trans (hs14.trans (hs18.trans (hs22.trans (hs26.trans (hs30.trans (hs34.trans (hs38.trans (hs42.trans (hs46.trans (hs50.trans (hs54.trans (hs58.trans hs62))))))))))))))) ?_
  refine g_iload_n (i := 1) (j := 1) (dk_Mo_fresh 79 rfl) rfl rfl ?_
  refine g_iconst (dk_Mo_fresh 80 rfl) (by decide) ?_
  obtain ⟨c63, h⟩ := p_gdE h
  obtain ⟨c64, h⟩ := p_gdE h
  refine g_iastore (dk_Mo_fresh 81 rfl) c63 c64.1 c64.2 ?_
  refine p_ltS (P := fun q => p_Go K l m_Mo_fresh 114 [(0, p_r v0), (1, p_i v1), (2, p_i v2)] [] q _) (p_xZ _ _ _ _) ?_ h
  intro s65 hs66 h
  cases h
  exact g_ret rfl rfl (dk_Mo_fresh 82 rfl) (fun _ => rfl)
def m_Mo_g : p_Me := (⟨"SortWorksModel", "g", "(I)I"⟩, prog_13_method_6_code, 2, (some .int), 0, 0)
theorem mt_Mo_g : p_Mt m_Mo_g 1 := ⟨p_mem (p_tb7 (List.mem_of_getElem? (i := 85) rfl)) rfl, tw_1_12, by decide +kernel, by decide +kernel, by decide +kernel⟩
def dt_Mo_g : List (Nat × Instr × Nat) := [(0, .bipush 40, 2), (2, .aload_n 0, 1), (3, .getfield 227, 3), (6, .imul, 1), (7, .iload_n 1, 1), (8, .iadd, 1), (9, .ireturn, 1)]
theorem dk_Mo_g (i : Nat) {pc : Nat} {ins : Instr} {len : Nat} (h : dt_Mo_g[i]? = some (pc, ins, len)) : decode m_Mo_g.2.1 pc = .ok (ins, len) := p_dk (b := m_Mo_g.2.1) (t := dt_Mo_g) (by decide +kernel) i h
def F_Mo_g (v0 : Nat) (v1 : Int) (s0 : p_Hp) : Option (Int × p_Hp) :=
  p_gd (p_is s0 v0 11) <|
  some ((p_w ((p_w (40 * (p_Z s0 v0 0))) + v1)), s0)
set_option maxRecDepth 100000 in
set_option maxHeartbeats 4000000 in
theorem tF_Mo_g (K : p_K) (l : Launch) (v0 : Nat) (v1 : Int) (s0 : p_Hp) (r : (Int × p_Hp)) (h : F_Mo_g v0 v1 s0 = some r) : p_Ct K l m_Mo_g [p_r v0, p_i v1] s0 (some (p_i r.1), r.2) := by
  refine p_Ct.of (by decide +kernel) (Nat.le_of_ble_eq_true rfl) ?_
  unfold F_Mo_g at h
  show p_Go K l m_Mo_g 0 [(0, p_r v0), (1, p_i v1)] [] s0 _
  refine g_bipush (dk_Mo_g 0 rfl) (by decide +kernel) (by decide) ?_
  refine g_aload_n (i := 0) (j := 0) (dk_Mo_g 1 rfl) rfl rfl ?_
  obtain ⟨c1, h⟩ := p_gdE h
  refine g_getI fl_Mo_227 (Or.inl rfl) (dk_Mo_g 2 rfl) c1 ?_
  refine g_imul (dk_Mo_g 3 rfl) ?_
  refine g_iload_n (i := 1) (j := 1) (dk_Mo_g 4 rfl) rfl rfl ?_
  refine g_iadd (dk_Mo_g 5 rfl) ?_
  cases h
  exact g_ret rfl rfl (dk_Mo_g 6 rfl) (fun os => ⟨_, rfl, p_okh os⟩)
def m_Mo_isTaker : p_Me := (⟨"SortWorksModel", "isTaker", "(I)Z"⟩, prog_13_method_8_code, 1, (some .boolean), 0, 0)
theorem mt_Mo_isTaker : p_Mt m_Mo_isTaker 1 := ⟨p_mem (p_tb7 (List.mem_of_getElem? (i := 80) rfl)) rfl, tw_1_12, by decide +kernel, by decide +kernel, by decide +kernel⟩
def dt_Mo_isTaker : List (Nat × Instr × Nat) := [(0, .iload_n 0, 1), (1, .bipush 9, 2), (3, .if_icmp .ge 7, 3), (6, .iconst 1, 1), (7, .goto 4, 3), (10, .iconst 0, 1), (11, .ireturn, 1)]
theorem dk_Mo_isTaker (i : Nat) {pc : Nat} {ins : Instr} {len : Nat} (h : dt_Mo_isTaker[i]? = some (pc, ins, len)) : decode m_Mo_isTaker.2.1 pc = .ok (ins, len) := p_dk (b := m_Mo_isTaker.2.1) (t := dt_Mo_isTaker) (by decide +kernel) i h
def F_Mo_isTaker (v0 : Int) (s0 : p_Hp) : Option (Int × p_Hp) :=
  if 9 ≤ v0 then
    some (0, s0)
  else
    some (1, s0)
set_option maxRecDepth 100000 in
set_option maxHeartbeats 4000000 in
theorem tF_Mo_isTaker (K : p_K) (l : Launch) (v0 : Int) (s0 : p_Hp) (r : (Int × p_Hp)) (h : F_Mo_isTaker v0 s0 = some r) : p_Ct K l m_Mo_isTaker [p_i v0] s0 (some (p_i r.1), r.2) := by
  refine p_Ct.of (by decide +kernel) (Nat.le_of_ble_eq_true rfl) ?_
  unfold F_Mo_isTaker at h
  show p_Go K l m_Mo_isTaker 0 [(0, p_i v0)] [] s0 _
  refine g_iload_n (i := 0) (j := 0) (dk_Mo_isTaker 0 rfl) rfl rfl ?_
  refine g_bipush (dk_Mo_isTaker 1 rfl) (by decide +kernel) (by decide) ?_
  refine g_icmp_ge 10 (dk_Mo_isTaker 2 rfl) (by decide) (fun b1 => ?_) (fun b1 => ?_)
  · have h := p_ifT b1 h
    refine g_iconst (dk_Mo_isTaker 5 rfl) (by decide) ?_
    cases h
    exact g_ret rfl rfl (dk_Mo_isTaker 6 rfl) (fun _ => ⟨_, rfl, Or.inl rfl⟩)
  · have h := p_ifF b1 h
    refine g_iconst (dk_Mo_isTaker 3 rfl) (by decide) ?_
    refine g_goto 11 (dk_Mo_isTaker 4 rfl) (by decide) ?_
    cases h
    exact g_ret rfl rfl (dk_Mo_isTaker 6 rfl) (fun _ => ⟨_, rfl, Or.inr rfl⟩)
def m_Mo_gear : p_Me := (⟨"SortWorksModel", "gear", "(II)I"⟩, prog_13_method_18_code, 5, (some .int), 3, 62)
theorem mt_Mo_gear : p_Mt m_Mo_gear 2 := ⟨p_mem (p_tb7 (List.mem_of_getElem? (i := 76) rfl)) rfl, tw_1_12, by decide +kernel, by decide +kernel, by decide +kernel⟩
def dt_Mo_gear : List (Nat × Instr × Nat) := [(0, .iload_n 1, 1), (1, .i2l, 1), (2, .lconst 0, 1), (3, .ldc2_w 250, 3), (6, .invokestatic 230, 3), (9, .ifCond .ne 22, 3), (12, .iload_n 1, 1), (13, .invokestatic 252, 3), (16, .ifCond .eq 22, 3), (19, .iload_n 2, 1), (20, .i2l, 1), (21, .lconst 1, 1), (22, .ldc2_w 255, 3), (25, .invokestatic 230, 3), (28, .ifCond .eq 10, 3), (31, .aload_n 0, 1), (32, .bipush (-2), 2), (34, .invokevirtual 240, 3), (37, .ireturn, 1), (38, .aload_n 0, 1), (39, .getfield 7, 3), (42, .aload_n 0, 1), (43, .getfield 227, 3), (46, .iaload, 1), (47, .bipush 40, 2), (49, .if_icmp .ne 10, 3), (52, .aload_n 0, 1), (53, .bipush (-4), 2), (55, .invokevirtual 240, 3), (58, .ireturn, 1), (59, .aload_n 0, 1), (60, .aload_n 0, 1), (61, .getfield 7, 3), (64, .aload_n 0, 1), (65, .getfield 227, 3), (68, .iaload, 1), (69, .invokevirtual 257, 3), (72, .istore_n 3, 1), (73, .aload_n 0, 1), (74, .iload_n 3, 1), (75, .iload_n 1, 1), (76, .invokevirtual 260, 3), (79, .aload_n 0, 1), (80, .getfield 19, 3), (83, .iload_n 3, 1), (84, .iload_n 1, 1), (85, .invokestatic 252, 3), (88, .ifCond .eq 7, 3), (91, .iload_n 2, 1), (92, .goto 4, 3), (95, .iconst 0, 1), (96, .iastore, 1), (97, .aload_n 0, 1), (98, .getfield 22, 3), (101, .iload_n 3, 1), (102, .iconst (-1), 1), (103, .iastore, 1), (104, .iconst 0, 1), (105, .istore 4, 2), (107, .iload 4, 2), (109, .bipush 8, 2), (111, .if_icmp .ge 22, 3), (114, .aload_n 0, 1), (115, .getfield 69, 3), (118, .bipush 8, 2), (120, .iload_n 3, 1), (121, .imul, 1), (122, .iload 4, 2), (124, .iadd, 1), (125, .iconst 0, 1), (126, .iastore, 1), (127, .iinc 4 1, 3), (130, .goto (-23), 3), (133, .aload_n 0, 1), (134, .getfield 7, 3), (137, .aload_n 0, 1), (138, .getfield 227, 3), (141, .dup2, 1), (142, .iaload, 1), (143, .iconst 1, 1), (144, .iadd, 1), (145, .iastore, 1), (146, .aload_n 0, 1), (147, .aload_n 0, 1), (148, .getfield 7, 3), (151, .aload_n 0, 1), (152, .getfield 227, 3), (155, .iaload, 1), (156, .iconst 1, 1), (157, .isub, 1), (158, .invokevirtual 264, 3), (161, .ireturn, 1)]
theorem dk_Mo_gear (i : Nat) {pc : Nat} {ins : Instr} {len : Nat} (h : dt_Mo_gear[i]? = some (pc, ins, len)) : decode m_Mo_gear.2.1 pc = .ok (ins, len) := p_dk (b := m_Mo_gear.2.1) (t := dt_Mo_gear) (by decide +kernel) i h
def B_Mo_gear_31  (v0 : Nat) (s0 : p_Hp) : Option (Int × p_Hp) :=
  p_gd (p_is s0 v0 11) <|
  p_bd (F_Mo_refused v0 (-2) s0) fun r6 s2 =>
  some (r6, s2)
def L_Mo_gear_107 (k107 : Nat → Int → Int → p_Hp → Option (Int × p_Hp)) (v0 : Nat) (v3 : Int) (v4 : Int) (s0 : p_Hp) : Option (Int × p_Hp) :=
  if 8 ≤ v4 then
    p_gd (p_is s0 v0 11) <|
    p_gd (p_is s0 (p_R s0 v0 3) 100) <|
    p_gd ((0 : Int) ≤ (p_Z s0 v0 0) ∧ (p_Z s0 v0 0) < (p_L s0 (p_R s0 v0 3) : Int)) <|
    p_gd ((0 : Int) ≤ (p_Z s0 v0 0) ∧ (p_Z s0 v0 0) < (p_L s0 (p_R s0 v0 3) : Int)) <|
    p_bi (p_wZ s0 (p_R s0 v0 3) ((p_Z s0 v0 0) : Int).toNat (p_w ((p_Z s0 (p_R s0 v0 3) ((p_Z s0 v0 0) : Int).toNat) + 1))) fun s6 =>
    p_gd (p_is s6 (p_R s6 v0 3) 100) <|
    p_gd ((0 : Int) ≤ (p_Z s6 v0 0) ∧ (p_Z s6 v0 0) < (p_L s6 (p_R s6 v0 3) : Int)) <|
    p_bd (F_Mo_built v0 (p_w ((p_Z s6 (p_R s6 v0 3) ((p_Z s6 v0 0) : Int).toNat) - 1)) s6) fun r14 s10 =>
    some (r14, s10)
  else
    p_gd (p_is s0 v0 11) <|
    p_gd (p_is s0 (p_R s0 v0 22) 100) <|
    p_gd ((0 : Int) ≤ (p_w ((p_w (8 * v3)) + v4)) ∧ (p_w ((p_w (8 * v3)) + v4)) < (p_L s0 (p_R s0 v0 22) : Int)) <|
    p_bi (p_wZ s0 (p_R s0 v0 22) ((p_w ((p_w (8 * v3)) + v4)) : Int).toNat 0) fun s18 =>
    p_bi (p_w (v4 + 1)) fun x20 =>
    k107 v0 v3 x20 s18
def O_Mo_gear_107  : Nat → Nat → Int → Int → p_Hp → Option (Int × p_Hp)
  | 0 => fun _ _ _ _ => none
  | n + 1 => L_Mo_gear_107 (O_Mo_gear_107 n)
def B_Mo_gear_96  (v0 : Nat) (v3 : Int) (w0 : Int) (w1 : Int) (w2 : Nat) (s0 : p_Hp) : Option (Int × p_Hp) :=
  p_gd (p_is s0 w2 100) <|
  p_gd ((0 : Int) ≤ w1 ∧ w1 < (p_L s0 w2 : Int)) <|
  p_bi (p_wZ s0 w2 (w1 : Int).toNat w0) fun s3 =>
  p_gd (p_is s3 v0 11) <|
  p_gd (p_is s3 (p_R s3 v0 7) 100) <|
  p_gd ((0 : Int) ≤ v3 ∧ v3 < (p_L s3 (p_R s3 v0 7) : Int)) <|
  p_bi (p_wZ s3 (p_R s3 v0 7) (v3 : Int).toNat (-1)) fun s8 =>
  O_Mo_gear_107 3000 v0 v3 0 s8
def B_Mo_gear_38  (v0 : Nat) (v1 : Int) (v2 : Int) (s0 : p_Hp) : Option (Int × p_Hp) :=
  p_gd (p_is s0 v0 11) <|
  p_gd (p_is s0 (p_R s0 v0 3) 100) <|
  p_gd ((0 : Int) ≤ (p_Z s0 v0 0) ∧ (p_Z s0 v0 0) < (p_L s0 (p_R s0 v0 3) : Int)) <|
  if (p_Z s0 (p_R s0 v0 3) ((p_Z s0 v0 0) : Int).toNat) ≠ 40 then
    p_gd ((0 : Int) ≤ (p_Z s0 v0 0) ∧ (p_Z s0 v0 0) < (p_L s0 (p_R s0 v0 3) : Int)) <|
    p_bd (F_Mo_g v0 (p_Z s0 (p_R s0 v0 3) ((p_Z s0 v0 0) : Int).toNat) s0) fun r10 s6 =>
    p_bv (F_Mo_fresh v0 r10 v1 s6) fun s11 =>
    p_bd (F_Mo_isTaker v1 s11) fun r19 s15 =>
    if r19 = 0 then
      B_Mo_gear_96 v0 r10 0 r10 (p_R s11 v0 6) s15
    else
      B_Mo_gear_96 v0 r10 v2 r10 (p_R s11 v0 6) s15
  else
    p_bd (F_Mo_refused v0 (-4) s0) fun r25 s21 =>
    some (r25, s21)
def F_Mo_gear (v0 : Nat) (v1 : Int) (v2 : Int) (s0 : p_Hp) : Option (Int × p_Hp) :=
  p_bd (F_Mo_beyond v1 0 10 s0) fun r5 s1 =>
  if r5 ≠ 0 then
    B_Mo_gear_31 v0 s1
  else
    p_bd (F_Mo_isTaker v1 s1) fun r11 s7 =>
    if r11 = 0 then
      B_Mo_gear_38 v0 v1 v2 s7
    else
      p_bd (F_Mo_beyond v2 1 8 s7) fun r17 s13 =>
      if r17 = 0 then
        B_Mo_gear_38 v0 v1 v2 s13
      else
        B_Mo_gear_31 v0 s13
set_option maxRecDepth 100000 in
set_option maxHeartbeats 4000000 in
theorem tB_Mo_gear_31 (K : p_K) (l : Launch)  (v0 : Nat) (s0 : p_Hp) (r : (Int × p_Hp)) (h : B_Mo_gear_31 v0 s0 = some r) : p_Go K l m_Mo_gear 31 [(0, p_r v0)] [] s0 (some (p_i r.1), r.2) := by
  unfold B_Mo_gear_31 at h
  refine g_aload_n (i := 0) (j := 0) (dk_Mo_gear 15 rfl) rfl rfl ?_
  refine g_bipush (dk_Mo_gear 16 rfl) (by decide +kernel) (by decide) ?_
  obtain ⟨c1, h⟩ := p_gdE h
  obtain ⟨r6, s2, q3, h⟩ := p_bdE h
  have t4 := tF_Mo_refused K l v0 (-2) s0 _ q3
  refine g_callV (a := v0) (ci := 11) (q0 := (RX11, TX11, 90)) (As := [p_i (-2)]) (rest := []) [p_i r6] mt_Mo_refused rfl rfl tw_7_67 ts_43 tw_7_65 ⟨Nat.le_of_ble_eq_true rfl, Nat.le_of_ble_eq_true rfl⟩ rfl (Nat.le_of_ble_eq_true rfl) (dk_Mo_gear 17 rfl) rfl c1 rfl t4 ?_
  have hs5 : p_x s0 s2 := t4.1
  show p_Go K l m_Mo_gear 37 [(0, p_r v0)] [p_i r6] s2 _
  cases h
  exact g_ret rfl rfl (dk_Mo_gear 18 rfl) (fun os => ⟨_, rfl, p_okh os⟩)
set_option maxRecDepth 100000 in
set_option maxHeartbeats 4000000 in
theorem tL_Mo_gear_107 (K : p_K) (l : Launch) (k107 : Nat → Int → Int → p_Hp → Option (Int × p_Hp)) (hk107 : ∀ (v0 : Nat) (v3 : Int) (v4 : Int)  (s0 : p_Hp) (r : (Int × p_Hp)), k107 v0 v3 v4 s0 = some r → p_Go K l m_Mo_gear 107 [(0, p_r v0), (3, p_i v3), (4, p_i v4)] [] s0 (some (p_i r.1), r.2)) (v0 : Nat) (v3 : Int) (v4 : Int) (s0 : p_Hp) (r : (Int × p_Hp)) (h : L_Mo_gear_107 k107 v0 v3 v4 s0 = some r) : p_Go K l m_Mo_gear 107 [(0, p_r v0), (3, p_i v3), (4, p_i v4)] [] s0 (some (p_i r.1), r.2) := by
  unfold L_Mo_gear_107 at h
  refine g_iload (j := 2) (dk_Mo_gear 59 rfl) rfl ?_
  refine g_bipush (dk_Mo_gear 60 rfl) (by decide +kernel) (by decide) ?_
  refine g_icmp_ge 133 (dk_Mo_gear 61 rfl) (by decide) (fun b1 => ?_) (fun b1 => ?_)
  · have h := p_ifT b1 h
    refine g_aload_n (i := 0) (j := 0) (dk_Mo_gear 73 rfl) rfl rfl ?_
    obtain ⟨c2, h⟩ := p_gdE h
    refine g_getR fl_Mo_7 (Or.inr ⟨_, rfl⟩) (dk_Mo_gear 74 rfl) c2 ?_
    refine g_aload_n (i := 0) (j := 0) (dk_Mo_gear 75 rfl) rfl rfl ?_
    refine g_getI fl_Mo_227 (Or.inl rfl) (dk_Mo_gear 76 rfl) c2 ?_
    refine g_dup2 (dk_Mo_gear 77 rfl) rfl rfl ?_
    obtain ⟨c3, h⟩ := p_gdE h
    obtain ⟨c4, h⟩ := p_gdE h
    refine g_iaload (dk_Mo_gear 78 rfl) c3 c4.1 c4.2 ?_
    refine g_iconst (dk_Mo_gear 79 rfl) (by decide) ?_
    refine g_iadd (dk_Mo_gear 80 rfl) ?_
    obtain ⟨c5, h⟩ := p_gdE h
    refine g_iastore (dk_Mo_gear 81 rfl) c3 c5.1 c5.2 ?_
    refine p_ltS (P := fun q => p_Go K l m_Mo_gear 146 [(0, p_r v0), (3, p_i v3), (4, p_i v4)] [] q _) (p_xZ _ _ _ _) ?_ h
    intro s6 hs7 h
    refine g_aload_n (i := 0) (j := 0) (dk_Mo_gear 82 rfl) rfl rfl ?_
    refine g_aload_n (i := 0) (j := 0) (dk_Mo_gear 83 rfl) rfl rfl ?_
    refine g_getR fl_Mo_7 (Or.inr ⟨_, rfl⟩) (dk_Mo_gear 84 rfl) (c2.up hs7) ?_
    refine g_aload_n (i := 0) (j := 0) (dk_Mo_gear 85 rfl) rfl rfl ?_
    refine g_getI fl_Mo_227 (Or.inl rfl) (dk_Mo_gear 86 rfl) (c2.up hs7) ?_
    obtain ⟨c8, h⟩ := p_gdE h
    obtain ⟨c9, h⟩ := p_gdE h
    refine g_iaload (dk_Mo_gear 87 rfl) c8 c9.1 c9.2 ?_
    refine g_iconst (dk_Mo_gear 88 rfl) (by decide) ?_
    refine g_isub (dk_Mo_gear 89 rfl) ?_
    obtain ⟨r14, s10, q11, h⟩ := p_bdE h
    have t12 := tF_Mo_built K l v0 (p_w ((p_Z s6 (p_R s6 v0 3) ((p_Z s6 v0 0) : Int).toNat) - 1)) s6 _ q11
    refine g_callV (a := v0) (ci := 11) (q0 := (RX11, TX11, 90)) (As := [p_i (p_w ((p_Z s6 (p_R s6 v0 3) ((p_Z s6 v0 0) : Int).toNat) - 1))]) (rest := []) [p_i r14] mt_Mo_built rfl rfl tw_7_98 ts_47 tw_7_96 ⟨Nat.le_of_ble_eq_true rfl, Nat.le_of_ble_eq_true rfl⟩ rfl (Nat.le_of_ble_eq_true rfl) (dk_Mo_gear 90 rfl) rfl (c2.up hs7) rfl t12 ?_
    have hs13 : p_x s6 s10 := t12.1
    show p_Go K l m_Mo_gear 161 [(0, p_r v0), (3, p_i v3), (4, p_i v4)] [p_i r14] s10 _
    cases h
    exact g_ret rfl rfl (dk_Mo_gear 91 rfl) (fun os => ⟨_, rfl, p_okh os⟩)
  · have h := p_ifF b1 h
    refine g_aload_n (i := 0) (j := 0) (dk_Mo_gear 62 rfl) rfl rfl ?_
    obtain ⟨c15, h⟩ := p_gdE h
    refine g_getR fl_Mo_69 (Or.inr ⟨_, rfl⟩) (dk_Mo_gear 63 rfl) c15 ?_
    refine g_bipush (dk_Mo_gear 64 rfl) (by decide +kernel) (by decide) ?_
    refine g_iload_n (i := 3) (j := 1) (dk_Mo_gear 65 rfl) rfl rfl ?_
    refine g_imul (dk_Mo_gear 66 rfl) ?_
    refine g_iload (j := 2) (dk_Mo_gear 67 rfl) rfl ?_
    refine g_iadd (dk_Mo_gear 68 rfl) ?_
    refine g_iconst (dk_Mo_gear 69 rfl) (by decide) ?_
    obtain ⟨c16, h⟩ := p_gdE h
    obtain ⟨c17, h⟩ := p_gdE h
    refine g_iastore (dk_Mo_gear 70 rfl) c16 c17.1 c17.2 ?_
    refine p_ltS (P := fun q => p_Go K l m_Mo_gear 127 [(0, p_r v0), (3, p_i v3), (4, p_i v4)] [] q _) (p_xZ _ _ _ _) ?_ h
    intro s18 hs19 h
    refine g_iinc (j := 2) [(4, p_i (p_w (v4 + 1))), (0, p_r v0), (3, p_i v3)] (dk_Mo_gear 71 rfl) rfl (by decide) rfl ?_
    refine p_ltG (P := fun q => p_Go K l m_Mo_gear 130 [(4, p_i q), (0, p_r v0), (3, p_i v3)] [] s18 _) ?_ h
    intro x20 h
    refine g_goto 107 (dk_Mo_gear 72 rfl) (by decide) ?_
    refine g_sub [(0, p_r v0), (3, p_i v3), (4, p_i x20)] [1, 2, 0] rfl ?_
    exact hk107 v0 v3 x20 s18 _ h
set_option maxRecDepth 100000 in
set_option maxHeartbeats 4000000 in
theorem tO_Mo_gear_107 (K : p_K) (l : Launch)  : ∀ (n : Nat) (v0 : Nat) (v3 : Int) (v4 : Int) (s0 : p_Hp) (r : (Int × p_Hp)), O_Mo_gear_107 n v0 v3 v4 s0 = some r → p_Go K l m_Mo_gear 107 [(0, p_r v0), (3, p_i v3), (4, p_i v4)] [] s0 (some (p_i r.1), r.2) := by
  intro n
  induction n with
  | zero => intro v0 v3 v4 s0 r h; cases (show (none : Option (Int × p_Hp)) = some r from h)
  | succ n ih => intro v0 v3 v4 s0 r h; exact tL_Mo_gear_107 K l _ ih v0 v3 v4 s0 r h
set_option maxRecDepth 100000 in
set_option maxHeartbeats 4000000 in
theorem tB_Mo_gear_96 (K : p_K) (l : Launch)  (v0 : Nat) (v3 : Int) (w0 : Int) (w1 : Int) (w2 : Nat) (s0 : p_Hp) (r : (Int × p_Hp)) (h : B_Mo_gear_96 v0 v3 w0 w1 w2 s0 = some r) : p_Go K l m_Mo_gear 96 [(0, p_r v0), (3, p_i v3)] [p_i w0, p_i w1, p_r w2] s0 (some (p_i r.1), r.2) := by
  unfold B_Mo_gear_96 at h
  obtain ⟨c1, h⟩ := p_gdE h
  obtain ⟨c2, h⟩ := p_gdE h
  refine g_iastore (dk_Mo_gear 51 rfl) c1 c2.1 c2.2 ?_
  refine p_ltS (P := fun q => p_Go K l m_Mo_gear 97 [(0, p_r v0), (3, p_i v3)] [] q _) (p_xZ _ _ _ _) ?_ h
  intro s3 hs4 h
  refine g_aload_n (i := 0) (j := 0) (dk_Mo_gear 52 rfl) rfl rfl ?_
  obtain ⟨c5, h⟩ := p_gdE h
  refine g_getR fl_Mo_22 (Or.inr ⟨_, rfl⟩) (dk_Mo_gear 53 rfl) c5 ?_
  refine g_iload_n (i := 3) (j := 1) (dk_Mo_gear 54 rfl) rfl rfl ?_
  refine g_iconst (dk_Mo_gear 55 rfl) (by decide) ?_
  obtain ⟨c6, h⟩ := p_gdE h
  obtain ⟨c7, h⟩ := p_gdE h
  refine g_iastore (dk_Mo_gear 56 rfl) c6 c7.1 c7.2 ?_
  refine p_ltS (P := fun q => p_Go K l m_Mo_gear 104 [(0, p_r v0), (3, p_i v3)] [] q _) (p_xZ _ _ _ _) ?_ h
  intro s8 hs9 h
  refine g_iconst (dk_Mo_gear 57 rfl) (by decide) ?_
  refine g_istore [(4, p_i 0), (0, p_r v0), (3, p_i v3)] (dk_Mo_gear 58 rfl) (by decide) rfl ?_
  refine g_sub [(0, p_r v0), (3, p_i v3), (4, p_i 0)] [1, 2, 0] rfl ?_
  exact tO_Mo_gear_107 K l 3000 v0 v3 0 s8 _ h
set_option maxRecDepth 100000 in
set_option maxHeartbeats 4000000 in
theorem tB_Mo_gear_38 (K : p_K) (l : Launch)  (v0 : Nat) (v1 : Int) (v2 : Int) (s0 : p_Hp) (r : (Int × p_Hp)) (h : B_Mo_gear_38 v0 v1 v2 s0 = some r) : p_Go K l m_Mo_gear 38 [(0, p_r v0), (1, p_i v1), (2, p_i v2)] [] s0 (some (p_i r.1), r.2) := by
  unfold B_Mo_gear_38 at h
  refine g_aload_n (i := 0) (j := 0) (dk_Mo_gear 19 rfl) rfl rfl ?_
  obtain ⟨c1, h⟩ := p_gdE h
  refine g_getR fl_Mo_7 (Or.inr ⟨_, rfl⟩) (dk_Mo_gear 20 rfl) c1 ?_
  refine g_aload_n (i := 0) (j := 0) (dk_Mo_gear 21 rfl) rfl rfl ?_
  refine g_getI fl_Mo_227 (Or.inl rfl) (dk_Mo_gear 22 rfl) c1 ?_
  obtain ⟨c2, h⟩ := p_gdE h
  obtain ⟨c3, h⟩ := p_gdE h
  refine g_iaload (dk_Mo_gear 23 rfl) c2 c3.1 c3.2 ?_
  refine g_bipush (dk_Mo_gear 24 rfl) (by decide +kernel) (by decide) ?_
  refine g_icmp_ne 59 (dk_Mo_gear 25 rfl) (by decide) (fun b4 => ?_) (fun b4 => ?_)
  · have h := p_ifT b4 h
    refine g_aload_n (i := 0) (j := 0) (dk_Mo_gear 30 rfl) rfl rfl ?_
    refine g_aload_n (i := 0) (j := 0) (dk_Mo_gear 31 rfl) rfl rfl ?_
    refine g_getR fl_Mo_7 (Or.inr ⟨_, rfl⟩) (dk_Mo_gear 32 rfl) c1 ?_
    refine g_aload_n (i := 0) (j := 0) (dk_Mo_gear 33 rfl) rfl rfl ?_
    refine g_getI fl_Mo_227 (Or.inl rfl) (dk_Mo_gear 34 rfl) c1 ?_
    obtain ⟨c5, h⟩ := p_gdE h
    refine g_iaload (dk_Mo_gear 35 rfl) c2 c5.1 c5.2 ?_
    obtain ⟨r10, s6, q7, h⟩ := p_bdE h
    have t8 := tF_Mo_g K l v0 (p_Z s0 (p_R s0 v0 3) ((p_Z s0 v0 0) : Int).toNat) s0 _ q7
    refine g_callV (a := v0) (ci := 11) (q0 := (RX11, TX11, 90)) (As := [p_i (p_Z s0 (p_R s0 v0 3) ((p_Z s0 v0 0) : Int).toNat)]) (rest := []) [p_i r10] mt_Mo_g rfl rfl tw_7_84 ts_45 tw_7_82 ⟨Nat.le_of_ble_eq_true rfl, Nat.le_of_ble_eq_true rfl⟩ rfl (Nat.le_of_ble_eq_true rfl) (dk_Mo_gear 36 rfl) rfl c1 rfl t8 ?_
    have hs9 : p_x s0 s6 := t8.1
    show p_Go K l m_Mo_gear 72 [(0, p_r v0), (1, p_i v1), (2, p_i v2)] [p_i r10] s6 _
    refine g_istore_n (i := 3) [(3, p_i r10), (0, p_r v0), (1, p_i v1), (2, p_i v2)] (dk_Mo_gear 37 rfl) rfl (by decide) rfl ?_
    refine g_aload_n (i := 0) (j := 1) (dk_Mo_gear 38 rfl) rfl rfl ?_
    refine g_iload_n (i := 3) (j := 0) (dk_Mo_gear 39 rfl) rfl rfl ?_
    refine g_iload_n (i := 1) (j := 2) (dk_Mo_gear 40 rfl) rfl rfl ?_
    obtain ⟨s11, q12, h⟩ := p_bvE h
    have t13 := tF_Mo_fresh K l v0 r10 v1 s6 _ q12
    refine g_callV (a := v0) (ci := 11) (q0 := (RX11, TX11, 90)) (As := [p_i r10, p_i v1]) (rest := []) [] mt_Mo_fresh rfl rfl tw_7_88 ts_46 tw_7_86 ⟨Nat.le_of_ble_eq_true rfl, Nat.le_of_ble_eq_true rfl⟩ rfl (Nat.le_of_ble_eq_true rfl) (dk_Mo_gear 41 rfl) rfl (c1.up hs9) rfl t13 ?_
    have hs14 : p_x s6 s11 := t13.1
    show p_Go K l m_Mo_gear 79 [(3, p_i r10), (0, p_r v0), (1, p_i v1), (2, p_i v2)] [] s11 _
    refine g_aload_n (i := 0) (j := 1) (dk_Mo_gear 42 rfl) rfl rfl ?_
    refine g_getR fl_Mo_19 (Or.inr ⟨_, rfl⟩) (dk_Mo_gear 43 rfl) (c1.up (hs9.trans hs14)) ?_
    refine g_iload_n (i := 3) (j := 0) (dk_Mo_gear 44 rfl) rfl rfl ?_
    refine g_iload_n (i := 1) (j := 2) (dk_Mo_gear 45 rfl) rfl rfl ?_
    obtain ⟨r19, s15, q16, h⟩ := p_bdE h
    have t17 := tF_Mo_isTaker K l v1 s11 _ q16
    refine g_callS (av := [p_i v1]) (rest := [p_i r10, p_r (p_R s11 v0 6)]) [p_i r19, p_i r10, p_r (p_R s11 v0 6)] mt_Mo_isTaker tw_7_79 tw_7_78 ⟨Nat.le_of_ble_eq_true rfl, Nat.le_of_ble_eq_true rfl⟩ rfl (Nat.le_of_ble_eq_true rfl) (dk_Mo_gear 46 rfl) rfl rfl t17 ?_
    have hs18 : p_x s11 s15 := t17.1
    show p_Go K l m_Mo_gear 88 [(3, p_i r10), (0, p_r v0), (1, p_i v1), (2, p_i v2)] [p_i r19, p_i r10, p_r (p_R s11 v0 6)] s15 _
    refine g_if_eq 95 (dk_Mo_gear 47 rfl) (by decide) (fun b20 => ?_) (fun b20 => ?_)
    · have h := p_ifT b20 h
      refine g_iconst (dk_Mo_gear 50 rfl) (by decide) ?_
      refine g_sub [(0, p_r v0), (3, p_i r10)] [1, 0] rfl ?_
      exact tB_Mo_gear_96 K l v0 r10 0 r10 (p_R s11 v0 6) s15 _ h
    · have h := p_ifF b20 h
      refine g_iload_n (i := 2) (j := 3) (dk_Mo_gear 48 rfl) rfl rfl ?_
      refine g_goto 96 (dk_Mo_gear 49 rfl) (by decide) ?_
      refine g_sub [(0, p_r v0), (3, p_i r10)] [1, 0] rfl ?_
      exact tB_Mo_gear_96 K l v0 r10 v2 r10 (p_R s11 v0 6) s15 _ h
  · have h := p_ifF b4 h
    refine g_aload_n (i := 0) (j := 0) (dk_Mo_gear 26 rfl) rfl rfl ?_
    refine g_bipush (dk_Mo_gear 27 rfl) (by decide +kernel) (by decide) ?_
    obtain ⟨r25, s21, q22, h⟩ := p_bdE h
    have t23 := tF_Mo_refused K l v0 (-4) s0 _ q22
    refine g_callV (a := v0) (ci := 11) (q0 := (RX11, TX11, 90)) (As := [p_i (-4)]) (rest := []) [p_i r25] mt_Mo_refused rfl rfl tw_7_67 ts_43 tw_7_65 ⟨Nat.le_of_ble_eq_true rfl, Nat.le_of_ble_eq_true rfl⟩ rfl (Nat.le_of_ble_eq_true rfl) (dk_Mo_gear 28 rfl) rfl c1 rfl t23 ?_
    have hs24 : p_x s0 s21 := t23.1
    show p_Go K l m_Mo_gear 58 [(0, p_r v0), (1, p_i v1), (2, p_i v2)] [p_i r25] s21 _
    cases h
    exact g_ret rfl rfl (dk_Mo_gear 29 rfl) (fun os => ⟨_, rfl, p_okh os⟩)
set_option maxRecDepth 100000 in
set_option maxHeartbeats 4000000 in
theorem tF_Mo_gear (K : p_K) (l : Launch) (v0 : Nat) (v1 : Int) (v2 : Int) (s0 : p_Hp) (r : (Int × p_Hp)) (h : F_Mo_gear v0 v1 v2 s0 = some r) : p_Ct K l m_Mo_gear [p_r v0, p_i v1, p_i v2] s0 (some (p_i r.1), r.2) := by
  refine p_Ct.of (by decide +kernel) (Nat.le_of_ble_eq_true rfl) ?_
  unfold F_Mo_gear at h
  show p_Go K l m_Mo_gear 0 [(0, p_r v0), (1, p_i v1), (2, p_i v2)] [] s0 _
  refine g_iload_n (i := 1) (j := 1) (dk_Mo_gear 0 rfl) rfl rfl ?_
  refine g_i2l (dk_Mo_gear 1 rfl) ?_
  refine g_lconst (x := 0) (dk_Mo_gear 2 rfl) rfl (by decide) ?_
  refine g_ldc2_w (x := 10) (dk_Mo_gear 3 rfl) tw_7_77 (by decide) (by decide) ?_
  obtain ⟨r5, s1, q2, h⟩ := p_bdE h
  have t3 := tF_Mo_beyond K l v1 0 10 s0 _ q2
  refine g_callS (av := [p_j v1, p_j 0, p_j 10]) (rest := []) [p_i r5] mt_Mo_beyond tw_7_63 tw_7_62 ⟨Nat.le_of_ble_eq_true rfl, Nat.le_of_ble_eq_true rfl⟩ rfl (Nat.le_of_ble_eq_true rfl) (dk_Mo_gear 4 rfl) rfl rfl t3 ?_
  have hs4 : p_x s0 s1 := t3.1
  show p_Go K l m_Mo_gear 9 [(0, p_r v0), (1, p_i v1), (2, p_i v2)] [p_i r5] s1 _
  refine g_if_ne 31 (dk_Mo_gear 5 rfl) (by decide) (fun b6 => ?_) (fun b6 => ?_)
  · have h := p_ifT b6 h
    refine g_sub [(0, p_r v0)] [0] rfl ?_
    exact tB_Mo_gear_31 K l v0 s1 _ h
  · have h := p_ifF b6 h
    refine g_iload_n (i := 1) (j := 1) (dk_Mo_gear 6 rfl) rfl rfl ?_
    obtain ⟨r11, s7, q8, h⟩ := p_bdE h
    have t9 := tF_Mo_isTaker K l v1 s1 _ q8
    refine g_callS (av := [p_i v1]) (rest := []) [p_i r11] mt_Mo_isTaker tw_7_79 tw_7_78 ⟨Nat.le_of_ble_eq_true rfl, Nat.le_of_ble_eq_true rfl⟩ rfl (Nat.le_of_ble_eq_true rfl) (dk_Mo_gear 7 rfl) rfl rfl t9 ?_
    have hs10 : p_x s1 s7 := t9.1
    show p_Go K l m_Mo_gear 16 [(0, p_r v0), (1, p_i v1), (2, p_i v2)] [p_i r11] s7 _
    refine g_if_eq 38 (dk_Mo_gear 8 rfl) (by decide) (fun b12 => ?_) (fun b12 => ?_)
    · have h := p_ifT b12 h
      exact tB_Mo_gear_38 K l v0 v1 v2 s7 _ h
    · have h := p_ifF b12 h
      refine g_iload_n (i := 2) (j := 2) (dk_Mo_gear 9 rfl) rfl rfl ?_
      refine g_i2l (dk_Mo_gear 10 rfl) ?_
      refine g_lconst (x := 1) (dk_Mo_gear 11 rfl) rfl (by decide) ?_
      refine g_ldc2_w (x := 8) (dk_Mo_gear 12 rfl) tw_7_81 (by decide) (by decide) ?_
      obtain ⟨r17, s13, q14, h⟩ := p_bdE h
      have t15 := tF_Mo_beyond K l v2 1 8 s7 _ q14
      refine g_callS (av := [p_j v2, p_j 1, p_j 8]) (rest := []) [p_i r17] mt_Mo_beyond tw_7_63 tw_7_62 ⟨Nat.le_of_ble_eq_true rfl, Nat.le_of_ble_eq_true rfl⟩ rfl (Nat.le_of_ble_eq_true rfl) (dk_Mo_gear 13 rfl) rfl rfl t15 ?_
      have hs16 : p_x s7 s13 := t15.1
      show p_Go K l m_Mo_gear 28 [(0, p_r v0), (1, p_i v1), (2, p_i v2)] [p_i r17] s13 _
      refine g_if_eq 38 (dk_Mo_gear 14 rfl) (by decide) (fun b18 => ?_) (fun b18 => ?_)
      · have h := p_ifT b18 h
        exact tB_Mo_gear_38 K l v0 v1 v2 s13 _ h
      · have h := p_ifF b18 h
        refine g_sub [(0, p_r v0)] [0] rfl ?_
        exact tB_Mo_gear_31 K l v0 s13 _ h
def m_Mo_faulted : p_Me := (⟨"SortWorksModel", "faulted", "(I)I"⟩, prog_13_method_4_code, 2, (some .int), 0, 0)
theorem mt_Mo_faulted : p_Mt m_Mo_faulted 1 := ⟨p_mem (p_tb7 (List.mem_of_getElem? (i := 111) rfl)) rfl, tw_1_12, by decide +kernel, by decide +kernel, by decide +kernel⟩
def dt_Mo_faulted : List (Nat × Instr × Nat) := [(0, .aload_n 0, 1), (1, .dup, 1), (2, .getfield 224, 3), (5, .iconst 1, 1), (6, .iadd, 1), (7, .putfield 224, 3), (10, .aload_n 0, 1), (11, .bipush (-10), 2), (13, .iload_n 1, 1), (14, .isub, 1), (15, .putfield 220, 3), (18, .aload_n 0, 1), (19, .getfield 220, 3), (22, .ireturn, 1)]
theorem dk_Mo_faulted (i : Nat) {pc : Nat} {ins : Instr} {len : Nat} (h : dt_Mo_faulted[i]? = some (pc, ins, len)) : decode m_Mo_faulted.2.1 pc = .ok (ins, len) := p_dk (b := m_Mo_faulted.2.1) (t := dt_Mo_faulted) (by decide +kernel) i h
def F_Mo_faulted (v0 : Nat) (v1 : Int) (s0 : p_Hp) : Option (Int × p_Hp) :=
  p_gd (p_is s0 v0 11) <|
  p_bi (p_wZ s0 v0 2 (p_w ((p_Z s0 v0 2) + 1))) fun s2 =>
  p_bi (p_wZ s2 v0 1 (p_w ((-10) - v1))) fun s4 =>
  some ((p_Z s4 v0 1), s4)
set_option maxRecDepth 100000 in
set_option maxHeartbeats 4000000 in
theorem tF_Mo_faulted (K : p_K) (l : Launch) (v0 : Nat) (v1 : Int) (s0 : p_Hp) (r : (Int × p_Hp)) (h : F_Mo_faulted v0 v1 s0 = some r) : p_Ct K l m_Mo_faulted [p_r v0, p_i v1] s0 (some (p_i r.1), r.2) := by
  refine p_Ct.of (by decide +kernel) (Nat.le_of_ble_eq_true rfl) ?_
  unfold F_Mo_faulted at h
  show p_Go K l m_Mo_faulted 0 [(0, p_r v0), (1, p_i v1)] [] s0 _
  refine g_aload_n (i := 0) (j := 0) (dk_Mo_faulted 0 rfl) rfl rfl ?_
  refine g_dup (dk_Mo_faulted 1 rfl) rfl ?_
  obtain ⟨c1, h⟩ := p_gdE h
  refine g_getI fl_Mo_224 (Or.inl rfl) (dk_Mo_faulted 2 rfl) c1 ?_
  refine g_iconst (dk_Mo_faulted 3 rfl) (by decide) ?_
  refine g_iadd (dk_Mo_faulted 4 rfl) ?_
  refine g_putI fl_Mo_224 (Or.inl rfl) (dk_Mo_faulted 5 rfl) c1 ?_
  refine p_ltS (P := fun q => p_Go K l m_Mo_faulted 10 [(0, p_r v0), (1, p_i v1)] [] q _) (p_xZ _ _ _ _) ?_ h
  intro s2 hs3 h
  refine g_aload_n (i := 0) (j := 0) (dk_Mo_faulted 6 rfl) rfl rfl ?_
  refine g_bipush (dk_Mo_faulted 7 rfl) (by decide +kernel) (by decide) ?_
  refine g_iload_n (i := 1) (j := 1) (dk_Mo_faulted 8 rfl) rfl rfl ?_
  refine g_isub (dk_Mo_faulted 9 rfl) ?_
  refine g_putI fl_Mo_220 (Or.inl rfl) (dk_Mo_faulted 10 rfl) (c1.up hs3) ?_
  refine p_ltS (P := fun q => p_Go K l m_Mo_faulted 18 [(0, p_r v0), (1, p_i v1)] [] q _) (p_xZ _ _ _ _) ?_ h
  intro s4 hs5 h
  refine g_aload_n (i := 0) (j := 0) (dk_Mo_faulted 11 rfl) rfl rfl ?_
  refine g_getI fl_Mo_220 (Or.inl rfl) (dk_Mo_faulted 12 rfl) (c1.up (hs3.trans hs5)) ?_
  cases h
  exact g_ret rfl rfl (dk_Mo_faulted 13 rfl) (fun os => ⟨_, rfl, p_okh os⟩)
def m_Mo_noGear : p_Me := (⟨"SortWorksModel", "noGear", "(I)Z"⟩, prog_13_method_7_code, 2, (some .boolean), 1, 25)
theorem mt_Mo_noGear : p_Mt m_Mo_noGear 1 := ⟨p_mem (p_tb7 (List.mem_of_getElem? (i := 107) rfl)) rfl, tw_1_12, by decide +kernel, by decide +kernel, by decide +kernel⟩
def dt_Mo_noGear : List (Nat × Instr × Nat) := [(0, .iload_n 1, 1), (1, .i2l, 1), (2, .lconst 0, 1), (3, .aload_n 0, 1), (4, .getfield 7, 3), (7, .aload_n 0, 1), (8, .getfield 227, 3), (11, .iaload, 1), (12, .iconst 1, 1), (13, .isub, 1), (14, .i2l, 1), (15, .invokestatic 230, 3), (18, .ireturn, 1)]
theorem dk_Mo_noGear (i : Nat) {pc : Nat} {ins : Instr} {len : Nat} (h : dt_Mo_noGear[i]? = some (pc, ins, len)) : decode m_Mo_noGear.2.1 pc = .ok (ins, len) := p_dk (b := m_Mo_noGear.2.1) (t := dt_Mo_noGear) (by decide +kernel) i h
def F_Mo_noGear (v0 : Nat) (v1 : Int) (s0 : p_Hp) : Option (Int × p_Hp) :=
  p_gd (p_is s0 v0 11) <|
  p_gd (p_is s0 (p_R s0 v0 3) 100) <|
  p_gd ((0 : Int) ≤ (p_Z s0 v0 0) ∧ (p_Z s0 v0 0) < (p_L s0 (p_R s0 v0 3) : Int)) <|
  p_bd (F_Mo_beyond v1 0 (p_w ((p_Z s0 (p_R s0 v0 3) ((p_Z s0 v0 0) : Int).toNat) - 1)) s0) fun r8 s4 =>
  p_gd (r8 = 0 ∨ r8 = 1) <|
  some (r8, s4)
set_option maxRecDepth 100000 in
set_option maxHeartbeats 4000000 in
theorem tF_Mo_noGear (K : p_K) (l : Launch) (v0 : Nat) (v1 : Int) (s0 : p_Hp) (r : (Int × p_Hp)) (h : F_Mo_noGear v0 v1 s0 = some r) : p_Ct K l m_Mo_noGear [p_r v0, p_i v1] s0 (some (p_i r.1), r.2) := by
  refine p_Ct.of (by decide +kernel) (Nat.le_of_ble_eq_true rfl) ?_
  unfold F_Mo_noGear at h
  show p_Go K l m_Mo_noGear 0 [(0, p_r v0), (1, p_i v1)] [] s0 _
  refine g_iload_n (i := 1) (j := 1) (dk_Mo_noGear 0 rfl) rfl rfl ?_
  refine g_i2l (dk_Mo_noGear 1 rfl) ?_
  refine g_lconst (x := 0) (dk_Mo_noGear 2 rfl) rfl (by decide) ?_
  refine g_aload_n (i := 0) (j := 0) (dk_Mo_noGear 3 rfl) rfl rfl ?_
  obtain ⟨c1, h⟩ := p_gdE h
  refine g_getR fl_Mo_7 (Or.inr ⟨_, rfl⟩) (dk_Mo_noGear 4 rfl) c1 ?_
  refine g_aload_n (i := 0) (j := 0) (dk_Mo_noGear 5 rfl) rfl rfl ?_
  refine g_getI fl_Mo_227 (Or.inl rfl) (dk_Mo_noGear 6 rfl) c1 ?_
  obtain ⟨c2, h⟩ := p_gdE h
  obtain ⟨c3, h⟩ := p_gdE h
  refine g_iaload (dk_Mo_noGear 7 rfl) c2 c3.1 c3.2 ?_
  refine g_iconst (dk_Mo_noGear 8 rfl) (by decide) ?_
  refine g_isub (dk_Mo_noGear 9 rfl) ?_
  refine g_i2l (dk_Mo_noGear 10 rfl) ?_
  obtain ⟨r8, s4, q5, h⟩ := p_bdE h
  have t6 := tF_Mo_beyond K l v1 0 (p_w ((p_Z s0 (p_R s0 v0 3) ((p_Z s0 v0 0) : Int).toNat) - 1)) s0 _ q5
  refine g_callS (av := [p_j v1, p_j 0, p_j (p_w ((p_Z s0 (p_R s0 v0 3) ((p_Z s0 v0 0) : Int).toNat) - 1))]) (rest := []) [p_i r8] mt_Mo_beyond tw_7_63 tw_7_62 ⟨Nat.le_of_ble_eq_true rfl, Nat.le_of_ble_eq_true rfl⟩ rfl (Nat.le_of_ble_eq_true rfl) (dk_Mo_noGear 11 rfl) rfl rfl t6 ?_
  have hs7 : p_x s0 s4 := t6.1
  show p_Go K l m_Mo_noGear 18 [(0, p_r v0), (1, p_i v1)] [p_i r8] s4 _
  obtain ⟨c9, h⟩ := p_gdE h
  cases h
  exact g_ret rfl rfl (dk_Mo_noGear 12 rfl) (fun _ => ⟨_, rfl, c9⟩)
def m_Mo_links : p_Me := (⟨"SortWorksModel", "links", "(II)I"⟩, prog_13_method_19_code, 4, (some .int), 2, 46)
theorem mt_Mo_links : p_Mt m_Mo_links 2 := ⟨p_mem (p_tb7 (List.mem_of_getElem? (i := 103) rfl)) rfl, tw_1_12, by decide +kernel, by decide +kernel, by decide +kernel⟩
def dt_Mo_links : List (Nat × Instr × Nat) := [(0, .aload_n 0, 1), (1, .iload_n 1, 1), (2, .invokevirtual 267, 3), (5, .ifCond .eq 9, 3), (8, .aload_n 0, 1), (9, .iconst (-1), 1), (10, .invokevirtual 240, 3), (13, .ireturn, 1), (14, .iload_n 2, 1), (15, .iconst 3, 1), (16, .if_icmp .le 10, 3), (19, .aload_n 0, 1), (20, .bipush (-2), 2), (22, .invokevirtual 240, 3), (25, .ireturn, 1), (26, .iload_n 2, 1), (27, .iconst (-1), 1), (28, .if_icmp .ge 9, 3), (31, .aload_n 0, 1), (32, .iconst 5, 1), (33, .invokevirtual 270, 3), (36, .ireturn, 1), (37, .aload_n 0, 1), (38, .getfield 22, 3), (41, .aload_n 0, 1), (42, .iload_n 1, 1), (43, .invokevirtual 257, 3), (46, .iload_n 2, 1), (47, .iastore, 1), (48, .iconst 0, 1), (49, .istore_n 3, 1), (50, .iload_n 3, 1), (51, .iconst 3, 1), (52, .if_icmp .ge 24, 3), (55, .aload_n 0, 1), (56, .getfield 25, 3), (59, .iconst 3, 1), (60, .aload_n 0, 1), (61, .iload_n 1, 1), (62, .invokevirtual 257, 3), (65, .imul, 1), (66, .iload_n 3, 1), (67, .iadd, 1), (68, .iconst (-1), 1), (69, .iastore, 1), (70, .iinc 3 1, 3), (73, .goto (-23), 3), (76, .aload_n 0, 1), (77, .iload_n 2, 1), (78, .invokevirtual 264, 3), (81, .ireturn, 1)]
theorem dk_Mo_links (i : Nat) {pc : Nat} {ins : Instr} {len : Nat} (h : dt_Mo_links[i]? = some (pc, ins, len)) : decode m_Mo_links.2.1 pc = .ok (ins, len) := p_dk (b := m_Mo_links.2.1) (t := dt_Mo_links) (by decide +kernel) i h
def L_Mo_links_50 (k50 : Nat → Int → Int → Int → p_Hp → Option (Int × p_Hp)) (v0 : Nat) (v1 : Int) (v2 : Int) (v3 : Int) (s0 : p_Hp) : Option (Int × p_Hp) :=
  if 3 ≤ v3 then
    p_gd (p_is s0 v0 11) <|
    p_bd (F_Mo_built v0 v2 s0) fun r7 s3 =>
    some (r7, s3)
  else
    p_gd (p_is s0 v0 11) <|
    p_bd (F_Mo_g v0 v1 s0) fun r13 s9 =>
    p_gd (p_is s9 (p_R s0 v0 8) 100) <|
    p_gd ((0 : Int) ≤ (p_w ((p_w (3 * r13)) + v3)) ∧ (p_w ((p_w (3 * r13)) + v3)) < (p_L s9 (p_R s0 v0 8) : Int)) <|
    p_bi (p_wZ s9 (p_R s0 v0 8) ((p_w ((p_w (3 * r13)) + v3)) : Int).toNat (-1)) fun s16 =>
    p_bi (p_w (v3 + 1)) fun x18 =>
    k50 v0 v1 v2 x18 s16
def O_Mo_links_50  : Nat → Nat → Int → Int → Int → p_Hp → Option (Int × p_Hp)
  | 0 => fun _ _ _ _ _ => none
  | n + 1 => L_Mo_links_50 (O_Mo_links_50 n)
def F_Mo_links (v0 : Nat) (v1 : Int) (v2 : Int) (s0 : p_Hp) : Option (Int × p_Hp) :=
  p_gd (p_is s0 v0 11) <|
  p_bd (F_Mo_noGear v0 v1 s0) fun r6 s2 =>
  if r6 = 0 then
    if v2 ≤ 3 then
      if (-1) ≤ v2 then
        p_bd (F_Mo_g v0 v1 s2) fun r14 s10 =>
        p_gd (p_is s10 (p_R s2 v0 7) 100) <|
        p_gd ((0 : Int) ≤ r14 ∧ r14 < (p_L s10 (p_R s2 v0 7) : Int)) <|
        p_bi (p_wZ s10 (p_R s2 v0 7) (r14 : Int).toNat v2) fun s17 =>
        O_Mo_links_50 3000 v0 v1 v2 0 s17
      else
        p_bd (F_Mo_faulted v0 5 s2) fun r23 s19 =>
        some (r23, s19)
    else
      p_bd (F_Mo_refused v0 (-2) s2) fun r28 s24 =>
      some (r28, s24)
  else
    p_bd (F_Mo_refused v0 (-1) s2) fun r33 s29 =>
    some (r33, s29)
set_option maxRecDepth 100000 in
set_option maxHeartbeats 4000000 in
theorem tL_Mo_links_50 (K : p_K) (l : Launch) (k50 : Nat → Int → Int → Int → p_Hp → Option (Int × p_Hp)) (hk50 : ∀ (v0 : Nat) (v1 : Int) (v2 : Int) (v3 : Int)  (s0 : p_Hp) (r : (Int × p_Hp)), k50 v0 v1 v2 v3 s0 = some r → p_Go K l m_Mo_links 50 [(0, p_r v0), (1, p_i v1), (2, p_i v2), (3, p_i v3)] [] s0 (some (p_i r.1), r.2)) (v0 : Nat) (v1 : Int) (v2 : Int) (v3 : Int) (s0 : p_Hp) (r : (Int × p_Hp)) (h : L_Mo_links_50 k50 v0 v1 v2 v3 s0 = some r) : p_Go K l m_Mo_links 50 [(0, p_r v0), (1, p_i v1), (2, p_i v2), (3, p_i v3)] [] s0 (some (p_i r.1), r.2) := by
  unfold L_Mo_links_50 at h
  refine g_iload_n (i := 3) (j := 3) (dk_Mo_links 31 rfl) rfl rfl ?_
  refine g_iconst (dk_Mo_links 32 rfl) (by decide) ?_
  refine g_icmp_ge 76 (dk_Mo_links 33 rfl) (by decide) (fun b1 => ?_) (fun b1 => ?_)
  · have h := p_ifT b1 h
    refine g_aload_n (i := 0) (j := 0) (dk_Mo_links 47 rfl) rfl rfl ?_
    refine g_iload_n (i := 2) (j := 2) (dk_Mo_links 48 rfl) rfl rfl ?_
    obtain ⟨c2, h⟩ := p_gdE h
    obtain ⟨r7, s3, q4, h⟩ := p_bdE h
    have t5 := tF_Mo_built K l v0 v2 s0 _ q4
    refine g_callV (a := v0) (ci := 11) (q0 := (RX11, TX11, 90)) (As := [p_i v2]) (rest := []) [p_i r7] mt_Mo_built rfl rfl tw_7_98 ts_47 tw_7_96 ⟨Nat.le_of_ble_eq_true rfl, Nat.le_of_ble_eq_true rfl⟩ rfl (Nat.le_of_ble_eq_true rfl) (dk_Mo_links 49 rfl) rfl c2 rfl t5 ?_
    have hs6 : p_x s0 s3 := t5.1
    show p_Go K l m_Mo_links 81 [(0, p_r v0), (1, p_i v1), (2, p_i v2), (3, p_i v3)] [p_i r7] s3 _
    cases h
    exact g_ret rfl rfl (dk_Mo_links 50 rfl) (fun os => ⟨_, rfl, p_okh os⟩)
  · have h := p_ifF b1 h
    refine g_aload_n (i := 0) (j := 0) (dk_Mo_links 34 rfl) rfl rfl ?_
    obtain ⟨c8, h⟩ := p_gdE h
    refine g_getR fl_Mo_25 (Or.inr ⟨_, rfl⟩) (dk_Mo_links 35 rfl) c8 ?_
    refine g_iconst (dk_Mo_links 36 rfl) (by decide) ?_
    refine g_aload_n (i := 0) (j := 0) (dk_Mo_links 37 rfl) rfl rfl ?_
    refine g_iload_n (i := 1) (j := 1) (dk_Mo_links 38 rfl) rfl rfl ?_
    obtain ⟨r13, s9, q10, h⟩ := p_bdE h
    have t11 := tF_Mo_g K l v0 v1 s0 _ q10
    refine g_callV (a := v0) (ci := 11) (q0 := (RX11, TX11, 90)) (As := [p_i v1]) (rest := [p_i 3, p_r (p_R s0 v0 8)]) [p_i r13, p_i 3, p_r (p_R s0 v0 8)] mt_Mo_g rfl rfl tw_7_84 ts_45 tw_7_82 ⟨Nat.le_of_ble_eq_true rfl, Nat.le_of_ble_eq_true rfl⟩ rfl (Nat.le_of_ble_eq_true rfl) (dk_Mo_links 39 rfl) rfl c8 rfl t11 ?_
    have hs12 : p_x s0 s9 := t11.1
    show p_Go K l m_Mo_links 65 [(0, p_r v0), (1, p_i v1), (2, p_i v2), (3, p_i v3)] [p_i r13, p_i 3, p_r (p_R s0 v0 8)] s9 _
    refine g_imul (dk_Mo_links 40 rfl) ?_
    refine g_iload_n (i := 3) (j := 3) (dk_Mo_links 41 rfl) rfl rfl ?_
    refine g_iadd (dk_Mo_links 42 rfl) ?_
    refine g_iconst (dk_Mo_links 43 rfl) (by decide) ?_
    obtain ⟨c14, h⟩ := p_gdE h
    obtain ⟨c15, h⟩ := p_gdE h
    refine g_iastore (dk_Mo_links 44 rfl) c14 c15.1 c15.2 ?_
    refine p_ltS (P := fun q => p_Go K l m_Mo_links 70 [(0, p_r v0), (1, p_i v1), (2, p_i v2), (3, p_i v3)] [] q _) (p_xZ _ _ _ _) ?_ h
    intro s16 hs17 h
    refine g_iinc (j := 3) [(3, p_i (p_w (v3 + 1))), (0, p_r v0), (1, p_i v1), (2, p_i v2)] (dk_Mo_links 45 rfl) rfl (by decide) rfl ?_
    refine p_ltG (P := fun q => p_Go K l m_Mo_links 73 [(3, p_i q), (0, p_r v0), (1, p_i v1), (2, p_i v2)] [] s16 _) ?_ h
    intro x18 h
    refine g_goto 50 (dk_Mo_links 46 rfl) (by decide) ?_
    refine g_sub [(0, p_r v0), (1, p_i v1), (2, p_i v2), (3, p_i x18)] [1, 2, 3, 0] rfl ?_
    exact hk50 v0 v1 v2 x18 s16 _ h
set_option maxRecDepth 100000 in
set_option maxHeartbeats 4000000 in
theorem tO_Mo_links_50 (K : p_K) (l : Launch)  : ∀ (n : Nat) (v0 : Nat) (v1 : Int) (v2 : Int) (v3 : Int) (s0 : p_Hp) (r : (Int × p_Hp)), O_Mo_links_50 n v0 v1 v2 v3 s0 = some r → p_Go K l m_Mo_links 50 [(0, p_r v0), (1, p_i v1), (2, p_i v2), (3, p_i v3)] [] s0 (some (p_i r.1), r.2) := by
  intro n
  induction n with
  | zero => intro v0 v1 v2 v3 s0 r h; cases (show (none : Option (Int × p_Hp)) = some r from h)
  | succ n ih => intro v0 v1 v2 v3 s0 r h; exact tL_Mo_links_50 K l _ ih v0 v1 v2 v3 s0 r h
set_option maxRecDepth 100000 in
set_option maxHeartbeats 4000000 in
theorem tF_Mo_links (K : p_K) (l : Launch) (v0 : Nat) (v1 : Int) (v2 : Int) (s0 : p_Hp) (r : (Int × p_Hp)) (h : F_Mo_links v0 v1 v2 s0 = some r) : p_Ct K l m_Mo_links [p_r v0, p_i v1, p_i v2] s0 (some (p_i r.1), r.2) := by
  refine p_Ct.of (by decide +kernel) (Nat.le_of_ble_eq_true rfl) ?_
  unfold F_Mo_links at h
  show p_Go K l m_Mo_links 0 [(0, p_r v0), (1, p_i v1), (2, p_i v2)] [] s0 _
  refine g_aload_n (i := 0) (j := 0) (dk_Mo_links 0 rfl) rfl rfl ?_
  refine g_iload_n (i := 1) (j := 1) (dk_Mo_links 1 rfl) rfl rfl ?_
  obtain ⟨c1, h⟩ := p_gdE h
  obtain ⟨r6, s2, q3, h⟩ := p_bdE h
  have t4 := tF_Mo_noGear K l v0 v1 s0 _ q3
  refine g_callV (a := v0) (ci := 11) (q0 := (RX11, TX11, 90)) (As := [p_i v1]) (rest := []) [p_i r6] mt_Mo_noGear rfl rfl tw_7_106 ts_48 tw_7_104 ⟨Nat.le_of_ble_eq_true rfl, Nat.le_of_ble_eq_true rfl⟩ rfl (Nat.le_of_ble_eq_true rfl) (dk_Mo_links 2 rfl) rfl c1 rfl t4 ?_
  have hs5 : p_x s0 s2 := t4.1
  show p_Go K l m_Mo_links 5 [(0, p_r v0), (1, p_i v1), (2, p_i v2)] [p_i r6] s2 _
  refine g_if_eq 14 (dk_Mo_links 3 rfl) (by decide) (fun b7 => ?_) (fun b7 => ?_)
  · have h := p_ifT b7 h
    refine g_iload_n (i := 2) (j := 2) (dk_Mo_links 8 rfl) rfl rfl ?_
    refine g_iconst (dk_Mo_links 9 rfl) (by decide) ?_
    refine g_icmp_le 26 (dk_Mo_links 10 rfl) (by decide) (fun b8 => ?_) (fun b8 => ?_)
    · have h := p_ifT b8 h
      refine g_iload_n (i := 2) (j := 2) (dk_Mo_links 15 rfl) rfl rfl ?_
      refine g_iconst (dk_Mo_links 16 rfl) (by decide) ?_
      refine g_icmp_ge 37 (dk_Mo_links 17 rfl) (by decide) (fun b9 => ?_) (fun b9 => ?_)
      · have h := p_ifT b9 h
        refine g_aload_n (i := 0) (j := 0) (dk_Mo_links 22 rfl) rfl rfl ?_
        refine g_getR fl_Mo_22 (Or.inr ⟨_, rfl⟩) (dk_Mo_links 23 rfl) (c1.up hs5) ?_
        refine g_aload_n (i := 0) (j := 0) (dk_Mo_links 24 rfl) rfl rfl ?_
        refine g_iload_n (i := 1) (j := 1) (dk_Mo_links 25 rfl) rfl rfl ?_
        obtain ⟨r14, s10, q11, h⟩ := p_bdE h
        have t12 := tF_Mo_g K l v0 v1 s2 _ q11
        refine g_callV (a := v0) (ci := 11) (q0 := (RX11, TX11, 90)) (As := [p_i v1]) (rest := [p_r (p_R s2 v0 7)]) [p_i r14, p_r (p_R s2 v0 7)] mt_Mo_g rfl rfl tw_7_84 ts_45 tw_7_82 ⟨Nat.le_of_ble_eq_true rfl, Nat.le_of_ble_eq_true rfl⟩ rfl (Nat.le_of_ble_eq_true rfl) (dk_Mo_links 26 rfl) rfl (c1.up hs5) rfl t12 ?_
        have hs13 : p_x s2 s10 := t12.1
        show p_Go K l m_Mo_links 46 [(0, p_r v0), (1, p_i v1), (2, p_i v2)] [p_i r14, p_r (p_R s2 v0 7)] s10 _
        refine g_iload_n (i := 2) (j := 2) (dk_Mo_links 27 rfl) rfl rfl ?_
        obtain ⟨c15, h⟩ := p_gdE h
        obtain ⟨c16, h⟩ := p_gdE h
        refine g_iastore (dk_Mo_links 28 rfl) c15 c16.1 c16.2 ?_
        refine p_ltS (P := fun q => p_Go K l m_Mo_links 48 [(0, p_r v0), (1, p_i v1), (2, p_i v2)] [] q _) (p_xZ _ _ _ _) ?_ h
        intro s17 hs18 h
        refine g_iconst (dk_Mo_links 29 rfl) (by decide) ?_
        refine g_istore_n (i := 3) [(3, p_i 0), (0, p_r v0), (1, p_i v1), (2, p_i v2)] (dk_Mo_links 30 rfl) rfl (by decide) rfl ?_
        refine g_sub [(0, p_r v0), (1, p_i v1), (2, p_i v2), (3, p_i 0)] [1, 2, 3, 0] rfl ?_
        exact tO_Mo_links_50 K l 3000 v0 v1 v2 0 s17 _ h
      · have h := p_ifF b9 h
        refine g_aload_n (i := 0) (j := 0) (dk_Mo_links 18 rfl) rfl rfl ?_
        refine g_iconst (dk_Mo_links 19 rfl) (by decide) ?_
        obtain ⟨r23, s19, q20, h⟩ := p_bdE h
        have t21 := tF_Mo_faulted K l v0 5 s2 _ q20
        refine g_callV (a := v0) (ci := 11) (q0 := (RX11, TX11, 90)) (As := [p_i 5]) (rest := []) [p_i r23] mt_Mo_faulted rfl rfl tw_7_110 ts_49 tw_7_108 ⟨Nat.le_of_ble_eq_true rfl, Nat.le_of_ble_eq_true rfl⟩ rfl (Nat.le_of_ble_eq_true rfl) (dk_Mo_links 20 rfl) rfl (c1.up hs5) rfl t21 ?_
        have hs22 : p_x s2 s19 := t21.1
        show p_Go K l m_Mo_links 36 [(0, p_r v0), (1, p_i v1), (2, p_i v2)] [p_i r23] s19 _
        cases h
        exact g_ret rfl rfl (dk_Mo_links 21 rfl) (fun os => ⟨_, rfl, p_okh os⟩)
    · have h := p_ifF b8 h
      refine g_aload_n (i := 0) (j := 0) (dk_Mo_links 11 rfl) rfl rfl ?_
      refine g_bipush (dk_Mo_links 12 rfl) (by decide +kernel) (by decide) ?_
      obtain ⟨r28, s24, q25, h⟩ := p_bdE h
      have t26 := tF_Mo_refused K l v0 (-2) s2 _ q25
      refine g_callV (a := v0) (ci := 11) (q0 := (RX11, TX11, 90)) (As := [p_i (-2)]) (rest := []) [p_i r28] mt_Mo_refused rfl rfl tw_7_67 ts_43 tw_7_65 ⟨Nat.le_of_ble_eq_true rfl, Nat.le_of_ble_eq_true rfl⟩ rfl (Nat.le_of_ble_eq_true rfl) (dk_Mo_links 13 rfl) rfl (c1.up hs5) rfl t26 ?_
      have hs27 : p_x s2 s24 := t26.1
      show p_Go K l m_Mo_links 25 [(0, p_r v0), (1, p_i v1), (2, p_i v2)] [p_i r28] s24 _
      cases h
      exact g_ret rfl rfl (dk_Mo_links 14 rfl) (fun os => ⟨_, rfl, p_okh os⟩)
  · have h := p_ifF b7 h
    refine g_aload_n (i := 0) (j := 0) (dk_Mo_links 4 rfl) rfl rfl ?_
    refine g_iconst (dk_Mo_links 5 rfl) (by decide) ?_
    obtain ⟨r33, s29, q30, h⟩ := p_bdE h
    have t31 := tF_Mo_refused K l v0 (-1) s2 _ q30
    refine g_callV (a := v0) (ci := 11) (q0 := (RX11, TX11, 90)) (As := [p_i (-1)]) (rest := []) [p_i r33] mt_Mo_refused rfl rfl tw_7_67 ts_43 tw_7_65 ⟨Nat.le_of_ble_eq_true rfl, Nat.le_of_ble_eq_true rfl⟩ rfl (Nat.le_of_ble_eq_true rfl) (dk_Mo_links 6 rfl) rfl (c1.up hs5) rfl t31 ?_
    have hs32 : p_x s2 s29 := t31.1
    show p_Go K l m_Mo_links 13 [(0, p_r v0), (1, p_i v1), (2, p_i v2)] [p_i r33] s29 _
    cases h
    exact g_ret rfl rfl (dk_Mo_links 7 rfl) (fun os => ⟨_, rfl, p_okh os⟩)
def m_Mo_link : p_Me := (⟨"SortWorksModel", "link", "(III)I"⟩, prog_13_method_20_code, 5, (some .int), 2, 46)
theorem mt_Mo_link : p_Mt m_Mo_link 3 := ⟨p_mem (p_tb7 (List.mem_of_getElem? (i := 115) rfl)) rfl, tw_1_12, by decide +kernel, by decide +kernel, by decide +kernel⟩
def dt_Mo_link : List (Nat × Instr × Nat) := [(0, .aload_n 0, 1), (1, .iload_n 1, 1), (2, .invokevirtual 267, 3), (5, .ifCond .eq 9, 3), (8, .aload_n 0, 1), (9, .iconst (-1), 1), (10, .invokevirtual 240, 3), (13, .ireturn, 1), (14, .iload_n 3, 1), (15, .i2l, 1), (16, .ldc2_w 273, 3), (19, .ldc2_w 275, 3), (22, .invokestatic 230, 3), (25, .ifCond .eq 10, 3), (28, .aload_n 0, 1), (29, .bipush (-2), 2), (31, .invokevirtual 240, 3), (34, .ireturn, 1), (35, .aload_n 0, 1), (36, .iload_n 1, 1), (37, .invokevirtual 257, 3), (40, .istore 4, 2), (42, .aload_n 0, 1), (43, .getfield 22, 3), (46, .iload 4, 2), (48, .iaload, 1), (49, .ifCond .lt 22, 3), (52, .iload_n 2, 1), (53, .i2l, 1), (54, .lconst 0, 1), (55, .aload_n 0, 1), (56, .getfield 22, 3), (59, .iload 4, 2), (61, .iaload, 1), (62, .iconst 1, 1), (63, .isub, 1), (64, .i2l, 1), (65, .invokestatic 230, 3), (68, .ifCond .eq 23, 3), (71, .aload_n 0, 1), (72, .aload_n 0, 1), (73, .getfield 22, 3), (76, .iload 4, 2), (78, .iaload, 1), (79, .ifCond .ge 7, 3), (82, .iconst 1, 1), (83, .goto 4, 3), (86, .iconst 3, 1), (87, .invokevirtual 270, 3), (90, .ireturn, 1), (91, .aload_n 0, 1), (92, .getfield 25, 3), (95, .iconst 3, 1), (96, .iload 4, 2), (98, .imul, 1), (99, .iload_n 2, 1), (100, .iadd, 1), (101, .iload_n 3, 1), (102, .iastore, 1), (103, .aload_n 0, 1), (104, .iconst 1, 1), (105, .invokevirtual 264, 3), (108, .ireturn, 1)]
theorem dk_Mo_link (i : Nat) {pc : Nat} {ins : Instr} {len : Nat} (h : dt_Mo_link[i]? = some (pc, ins, len)) : decode m_Mo_link.2.1 pc = .ok (ins, len) := p_dk (b := m_Mo_link.2.1) (t := dt_Mo_link) (by decide +kernel) i h
def B_Mo_link_87  (w0 : Int) (w1 : Nat) (s0 : p_Hp) : Option (Int × p_Hp) :=
  p_gd (p_is s0 w1 11) <|
  p_bd (F_Mo_faulted w1 w0 s0) fun r6 s2 =>
  some (r6, s2)
def B_Mo_link_71  (v0 : Nat) (v4 : Int) (s0 : p_Hp) : Option (Int × p_Hp) :=
  p_gd (p_is s0 v0 11) <|
  p_gd (p_is s0 (p_R s0 v0 7) 100) <|
  p_gd ((0 : Int) ≤ v4 ∧ v4 < (p_L s0 (p_R s0 v0 7) : Int)) <|
  if 0 ≤ (p_Z s0 (p_R s0 v0 7) (v4 : Int).toNat) then
    B_Mo_link_87 3 v0 s0
  else
    B_Mo_link_87 1 v0 s0
def F_Mo_link (v0 : Nat) (v1 : Int) (v2 : Int) (v3 : Int) (s0 : p_Hp) : Option (Int × p_Hp) :=
  p_gd (p_is s0 v0 11) <|
  p_bd (F_Mo_noGear v0 v1 s0) fun r6 s2 =>
  if r6 = 0 then
    p_bd (F_Mo_beyond v3 (-1) 39 s2) fun r12 s8 =>
    if r12 = 0 then
      p_bd (F_Mo_g v0 v1 s8) fun r18 s14 =>
      p_gd (p_is s14 (p_R s14 v0 7) 100) <|
      p_gd ((0 : Int) ≤ r18 ∧ r18 < (p_L s14 (p_R s14 v0 7) : Int)) <|
      if (p_Z s14 (p_R s14 v0 7) (r18 : Int).toNat) < 0 then
        B_Mo_link_71 v0 r18 s14
      else
        p_gd ((0 : Int) ≤ r18 ∧ r18 < (p_L s14 (p_R s14 v0 7) : Int)) <|
        p_bd (F_Mo_beyond v2 0 (p_w ((p_Z s14 (p_R s14 v0 7) (r18 : Int).toNat) - 1)) s14) fun r27 s23 =>
        if r27 = 0 then
          p_gd (p_is s23 (p_R s23 v0 8) 100) <|
          p_gd ((0 : Int) ≤ (p_w ((p_w (3 * r18)) + v2)) ∧ (p_w ((p_w (3 * r18)) + v2)) < (p_L s23 (p_R s23 v0 8) : Int)) <|
          p_bi (p_wZ s23 (p_R s23 v0 8) ((p_w ((p_w (3 * r18)) + v2)) : Int).toNat v3) fun s31 =>
          p_bd (F_Mo_built v0 1 s31) fun r37 s33 =>
          some (r37, s33)
        else
          B_Mo_link_71 v0 r18 s23
    else
      p_bd (F_Mo_refused v0 (-2) s8) fun r42 s38 =>
      some (r42, s38)
  else
    p_bd (F_Mo_refused v0 (-1) s2) fun r47 s43 =>
    some (r47, s43)
set_option maxRecDepth 100000 in
set_option maxHeartbeats 4000000 in
theorem tB_Mo_link_87 (K : p_K) (l : Launch)  (w0 : Int) (w1 : Nat) (s0 : p_Hp) (r : (Int × p_Hp)) (h : B_Mo_link_87 w0 w1 s0 = some r) : p_Go K l m_Mo_link 87 [] [p_i w0, p_r w1] s0 (some (p_i r.1), r.2) := by
  unfold B_Mo_link_87 at h
  obtain ⟨c1, h⟩ := p_gdE h
  obtain ⟨r6, s2, q3, h⟩ := p_bdE h
  have t4 := tF_Mo_faulted K l w1 w0 s0 _ q3
  refine g_callV (a := w1) (ci := 11) (q0 := (RX11, TX11, 90)) (As := [p_i w0]) (rest := []) [p_i r6] mt_Mo_faulted rfl rfl tw_7_110 ts_49 tw_7_108 ⟨Nat.le_of_ble_eq_true rfl, Nat.le_of_ble_eq_true rfl⟩ rfl (Nat.le_of_ble_eq_true rfl) (dk_Mo_link 48 rfl) rfl c1 rfl t4 ?_
  have hs5 : p_x s0 s2 := t4.1
  show p_Go K l m_Mo_link 90 [] [p_i r6] s2 _
  cases h
  exact g_ret rfl rfl (dk_Mo_link 49 rfl) (fun os => ⟨_, rfl, p_okh os⟩)
set_option maxRecDepth 100000 in
set_option maxHeartbeats 4000000 in
theorem tB_Mo_link_71 (K : p_K) (l : Launch)  (v0 : Nat) (v4 : Int) (s0 : p_Hp) (r : (Int × p_Hp)) (h : B_Mo_link_71 v0 v4 s0 = some r) : p_Go K l m_Mo_link 71 [(0, p_r v0), (4, p_i v4)] [] s0 (some (p_i r.1), r.2) := by
  unfold B_Mo_link_71 at h
  refine g_aload_n (i := 0) (j := 0) (dk_Mo_link 39 rfl) rfl rfl ?_
  refine g_aload_n (i := 0) (j := 0) (dk_Mo_link 40 rfl) rfl rfl ?_
  obtain ⟨c1, h⟩ := p_gdE h
  refine g_getR fl_Mo_22 (Or.inr ⟨_, rfl⟩) (dk_Mo_link 41 rfl) c1 ?_
  refine g_iload (j := 1) (dk_Mo_link 42 rfl) rfl ?_
  obtain ⟨c2, h⟩ := p_gdE h
  obtain ⟨c3, h⟩ := p_gdE h
  refine g_iaload (dk_Mo_link 43 rfl) c2 c3.1 c3.2 ?_
  refine g_if_ge 86 (dk_Mo_link 44 rfl) (by decide) (fun b4 => ?_) (fun b4 => ?_)
  · have h := p_ifT b4 h
    refine g_iconst (dk_Mo_link 47 rfl) (by decide) ?_
    refine g_sub [] [] rfl ?_
    exact tB_Mo_link_87 K l 3 v0 s0 _ h
  · have h := p_ifF b4 h
    refine g_iconst (dk_Mo_link 45 rfl) (by decide) ?_
    refine g_goto 87 (dk_Mo_link 46 rfl) (by decide) ?_
    refine g_sub [] [] rfl ?_
    exact tB_Mo_link_87 K l 1 v0 s0 _ h
set_option maxRecDepth 100000 in
set_option maxHeartbeats 4000000 in
theorem tF_Mo_link (K : p_K) (l : Launch) (v0 : Nat) (v1 : Int) (v2 : Int) (v3 : Int) (s0 : p_Hp) (r : (Int × p_Hp)) (h : F_Mo_link v0 v1 v2 v3 s0 = some r) : p_Ct K l m_Mo_link [p_r v0, p_i v1, p_i v2, p_i v3] s0 (some (p_i r.1), r.2) := by
  refine p_Ct.of (by decide +kernel) (Nat.le_of_ble_eq_true rfl) ?_
  unfold F_Mo_link at h
  show p_Go K l m_Mo_link 0 [(0, p_r v0), (1, p_i v1), (2, p_i v2), (3, p_i v3)] [] s0 _
  refine g_aload_n (i := 0) (j := 0) (dk_Mo_link 0 rfl) rfl rfl ?_
  refine g_iload_n (i := 1) (j := 1) (dk_Mo_link 1 rfl) rfl rfl ?_
  obtain ⟨c1, h⟩ := p_gdE h
  obtain ⟨r6, s2, q3, h⟩ := p_bdE h
  have t4 := tF_Mo_noGear K l v0 v1 s0 _ q3
  refine g_callV (a := v0) (ci := 11) (q0 := (RX11, TX11, 90)) (As := [p_i v1]) (rest := []) [p_i r6] mt_Mo_noGear rfl rfl tw_7_106 ts_48 tw_7_104 ⟨Nat.le_of_ble_eq_true rfl, Nat.le_of_ble_eq_true rfl⟩ rfl (Nat.le_of_ble_eq_true rfl) (dk_Mo_link 2 rfl) rfl c1 rfl t4 ?_
  have hs5 : p_x s0 s2 := t4.1
  show p_Go K l m_Mo_link 5 [(0, p_r v0), (1, p_i v1), (2, p_i v2), (3, p_i v3)] [p_i r6] s2 _
  refine g_if_eq 14 (dk_Mo_link 3 rfl) (by decide) (fun b7 => ?_) (fun b7 => ?_)
  · have h := p_ifT b7 h
    refine g_iload_n (i := 3) (j := 3) (dk_Mo_link 8 rfl) rfl rfl ?_
    refine g_i2l (dk_Mo_link 9 rfl) ?_
    refine g_ldc2_w (x := (-1)) (dk_Mo_link 10 rfl) tw_7_116 (by decide) (by decide) ?_
    refine g_ldc2_w (x := 39) (dk_Mo_link 11 rfl) tw_7_117 (by decide) (by decide) ?_
    obtain ⟨r12, s8, q9, h⟩ := p_bdE h
    have t10 := tF_Mo_beyond K l v3 (-1) 39 s2 _ q9
    refine g_callS (av := [p_j v3, p_j (-1), p_j 39]) (rest := []) [p_i r12] mt_Mo_beyond tw_7_63 tw_7_62 ⟨Nat.le_of_ble_eq_true rfl, Nat.le_of_ble_eq_true rfl⟩ rfl (Nat.le_of_ble_eq_true rfl) (dk_Mo_link 12 rfl) rfl rfl t10 ?_
    have hs11 : p_x s2 s8 := t10.1
    show p_Go K l m_Mo_link 25 [(0, p_r v0), (1, p_i v1), (2, p_i v2), (3, p_i v3)] [p_i r12] s8 _
    refine g_if_eq 35 (dk_Mo_link 13 rfl) (by decide) (fun b13 => ?_) (fun b13 => ?_)
    · have h := p_ifT b13 h
      refine g_aload_n (i := 0) (j := 0) (dk_Mo_link 18 rfl) rfl rfl ?_
      refine g_iload_n (i := 1) (j := 1) (dk_Mo_link 19 rfl) rfl rfl ?_
      obtain ⟨r18, s14, q15, h⟩ := p_bdE h
      have t16 := tF_Mo_g K l v0 v1 s8 _ q15
      refine g_callV (a := v0) (ci := 11) (q0 := (RX11, TX11, 90)) (As := [p_i v1]) (rest := []) [p_i r18] mt_Mo_g rfl rfl tw_7_84 ts_45 tw_7_82 ⟨Nat.le_of_ble_eq_true rfl, Nat.le_of_ble_eq_true rfl⟩ rfl (Nat.le_of_ble_eq_true rfl) (dk_Mo_link 20 rfl) rfl (c1.up (hs5.trans hs11)) rfl t16 ?_
      have hs17 : p_x s8 s14 := t16.1
      show p_Go K l m_Mo_link 40 [(0, p_r v0), (1, p_i v1), (2, p_i v2), (3, p_i v3)] [p_i r18] s14 _
      refine g_istore [(4, p_i r18), (0, p_r v0), (1, p_i v1), (2, p_i v2), (3, p_i v3)] (dk_Mo_link 21 rfl) (by decide) rfl ?_
      refine g_aload_n (i := 0) (j := 1) (dk_Mo_link 22 rfl) rfl rfl ?_
      refine g_getR fl_Mo_22 (Or.inr ⟨_, rfl⟩) (dk_Mo_link 23 rfl) (c1.up (hs5.trans (hs11.trans hs17))) ?_
      refine g_iload (j := 0) (dk_Mo_link 24 rfl) rfl ?_
      obtain ⟨c19, h⟩ := p_gdE h
      obtain ⟨c20, h⟩ := p_gdE h
      refine g_iaload (dk_Mo_link 25 rfl) c19 c20.1 c20.2 ?_
      refine g_if_lt 71 (dk_Mo_link 26 rfl) (by decide) (fun b21 => ?_) (fun b21 => ?_)
      · have h := p_ifT b21 h
        refine g_sub [(0, p_r v0), (4, p_i r18)] [1, 0] rfl ?_
        exact tB_Mo_link_71 K l v0 r18 s14 _ h
      · have h := p_ifF b21 h
        refine g_iload_n (i := 2) (j := 3) (dk_Mo_link 27 rfl) rfl rfl ?_
        refine g_i2l (dk_Mo_link 28 rfl) ?_
        refine g_lconst (x := 0) (dk_Mo_link 29 rfl) rfl (by decide) ?_
        refine g_aload_n (i := 0) (j := 1) (dk_Mo_link 30 rfl) rfl rfl ?_
        refine g_getR fl_Mo_22 (Or.inr ⟨_, rfl⟩) (dk_Mo_link 31 rfl) (c1.up (hs5.trans (hs11.trans hs17))) ?_
        refine g_iload (j := 0) (dk_Mo_link 32 rfl) rfl ?_
        obtain ⟨c22, h⟩ := p_gdE h
        refine g_iaload (dk_Mo_link 33 rfl) c19 c22.1 c22.2 ?_
        refine g_iconst (dk_Mo_link 34 rfl) (by decide) ?_
        refine g_isub (dk_Mo_link 35 rfl) ?_
        refine g_i2l (dk_Mo_link 36 rfl) ?_
        obtain ⟨r27, s23, q24, h⟩ := p_bdE h
        have t25 := tF_Mo_beyond K l v2 0 (p_w ((p_Z s14 (p_R s14 v0 7) (r18 : Int).toNat) - 1)) s14 _ q24
        refine g_callS (av := [p_j v2, p_j 0, p_j (p_w ((p_Z s14 (p_R s14 v0 7) (r18 : Int).toNat) - 1))]) (rest := []) [p_i r27] mt_Mo_beyond tw_7_63 tw_7_62 ⟨Nat.le_of_ble_eq_true rfl, Nat.le_of_ble_eq_true rfl⟩ rfl (Nat.le_of_ble_eq_true rfl) (dk_Mo_link 37 rfl) rfl rfl t25 ?_
        have hs26 : p_x s14 s23 := t25.1
        show p_Go K l m_Mo_link 68 [(4, p_i r18), (0, p_r v0), (1, p_i v1), (2, p_i v2), (3, p_i v3)] [p_i r27] s23 _
        refine g_if_eq 91 (dk_Mo_link 38 rfl) (by decide) (fun b28 => ?_) (fun b28 => ?_)
        · have h := p_ifT b28 h
          refine g_aload_n (i := 0) (j := 1) (dk_Mo_link 50 rfl) rfl rfl ?_
          refine g_getR fl_Mo_25 (Or.inr ⟨_, rfl⟩) (dk_Mo_link 51 rfl) (c1.up (hs5.trans (hs11.trans (hs17.trans hs26)))) ?_
          refine g_iconst (dk_Mo_link 52 rfl) (by decide) ?_
          refine g_iload (j := 0) (dk_Mo_link 53 rfl) rfl ?_
          refine g_imul (dk_Mo_link 54 rfl) ?_
          refine g_iload_n (i := 2) (j := 3) (dk_Mo_link 55 rfl) rfl rfl ?_
          refine g_iadd (dk_Mo_link 56 rfl) ?_
          refine g_iload_n (i := 3) (j := 4) (dk_Mo_link 57 rfl) rfl rfl ?_
          obtain ⟨c29, h⟩ := p_gdE h
          obtain ⟨c30, h⟩ := p_gdE h
          refine g_iastore (dk_Mo_link 58 rfl) c29 c30.1 c30.2 ?_
          refine p_ltS (P := fun q => p_Go K l m_Mo_link 103 [(4, p_i r18), (0, p_r v0), (1, p_i v1), (2, p_i v2), (3, p_i v3)] [] q _) (p_xZ _ _ _ _) ?_ h
          intro s31 hs32 h
          refine g_aload_n (i := 0) (j := 1) (dk_Mo_link 59 rfl) rfl rfl ?_
          refine g_iconst (dk_Mo_link 60 rfl) (by decide) ?_
          obtain ⟨r37, s33, q34, h⟩ := p_bdE h
          have t35 := tF_Mo_built K l v0 1 s31 _ q34
          refine g_callV (a := v0) (ci := 11) (q0 := (RX11, TX11, 90)) (As := [p_i 1]) (rest := []) [p_i r37] mt_Mo_built rfl rfl tw_7_98 ts_47 tw_7_96 ⟨Nat.le_of_ble_eq_true rfl, Nat.le_of_ble_eq_true rfl⟩ rfl (Nat.le_of_ble_eq_true rfl) (dk_Mo_link 61 rfl) rfl (c1.up (hs5.trans (hs11.trans (hs17.trans (hs26.trans hs32))))) rfl t35 ?_
          have hs36 : p_x s31 s33 := t35.1
          show p_Go K l m_Mo_link 108 [(4, p_i r18), (0, p_r v0), (1, p_i v1), (2, p_i v2), (3, p_i v3)] [p_i r37] s33 _
          cases h
          exact g_ret rfl rfl (dk_Mo_link 62 rfl) (fun os => ⟨_, rfl, p_okh os⟩)
        · have h := p_ifF b28 h
          refine g_sub [(0, p_r v0), (4, p_i r18)] [1, 0] rfl ?_
          exact tB_Mo_link_71 K l v0 r18 s23 _ h
    · have h := p_ifF b13 h
      refine g_aload_n (i := 0) (j := 0) (dk_Mo_link 14 rfl) rfl rfl ?_
      refine g_bipush (dk_Mo_link 15 rfl) (by decide +kernel) (by decide) ?_
      obtain ⟨r42, s38, q39, h⟩ := p_bdE h
      have t40 := tF_Mo_refused K l v0 (-2) s8 _ q39
      refine g_callV (a := v0) (ci := 11) (q0 := (RX11, TX11, 90)) (As := [p_i (-2)]) (rest := []) [p_i r42] mt_Mo_refused rfl rfl tw_7_67 ts_43 tw_7_65 ⟨Nat.le_of_ble_eq_true rfl, Nat.le_of_ble_eq_true rfl⟩ rfl (Nat.le_of_ble_eq_true rfl) (dk_Mo_link 16 rfl) rfl (c1.up (hs5.trans hs11)) rfl t40 ?_
      have hs41 : p_x s8 s38 := t40.1
      show p_Go K l m_Mo_link 34 [(0, p_r v0), (1, p_i v1), (2, p_i v2), (3, p_i v3)] [p_i r42] s38 _
      cases h
      exact g_ret rfl rfl (dk_Mo_link 17 rfl) (fun os => ⟨_, rfl, p_okh os⟩)
  · have h := p_ifF b7 h
    refine g_aload_n (i := 0) (j := 0) (dk_Mo_link 4 rfl) rfl rfl ?_
    refine g_iconst (dk_Mo_link 5 rfl) (by decide) ?_
    obtain ⟨r47, s43, q44, h⟩ := p_bdE h
    have t45 := tF_Mo_refused K l v0 (-1) s2 _ q44
    refine g_callV (a := v0) (ci := 11) (q0 := (RX11, TX11, 90)) (As := [p_i (-1)]) (rest := []) [p_i r47] mt_Mo_refused rfl rfl tw_7_67 ts_43 tw_7_65 ⟨Nat.le_of_ble_eq_true rfl, Nat.le_of_ble_eq_true rfl⟩ rfl (Nat.le_of_ble_eq_true rfl) (dk_Mo_link 6 rfl) rfl (c1.up hs5) rfl t45 ?_
    have hs46 : p_x s2 s43 := t45.1
    show p_Go K l m_Mo_link 13 [(0, p_r v0), (1, p_i v1), (2, p_i v2), (3, p_i v3)] [p_i r47] s43 _
    cases h
    exact g_ret rfl rfl (dk_Mo_link 7 rfl) (fun os => ⟨_, rfl, p_okh os⟩)
def m_Mo_sidesOf : p_Me := (⟨"SortWorksModel", "sidesOf", "(I)I"⟩, prog_13_method_11_code, 1, (some .int), 0, 0)
theorem mt_Mo_sidesOf : p_Mt m_Mo_sidesOf 1 := ⟨p_mem (p_tb7 (List.mem_of_getElem? (i := 124) rfl)) rfl, tw_1_12, by decide +kernel, by decide +kernel, by decide +kernel⟩
def dt_Mo_sidesOf : List (Nat × Instr × Nat) := [(0, .iload_n 0, 1), (1, .iconst 5, 1), (2, .if_icmp .ne 7, 3), (5, .iconst 2, 1), (6, .goto 14, 3), (9, .iload_n 0, 1), (10, .bipush 6, 2), (12, .if_icmp .ne 7, 3), (15, .iconst 3, 1), (16, .goto 4, 3), (19, .iconst 0, 1), (20, .ireturn, 1)]
theorem dk_Mo_sidesOf (i : Nat) {pc : Nat} {ins : Instr} {len : Nat} (h : dt_Mo_sidesOf[i]? = some (pc, ins, len)) : decode m_Mo_sidesOf.2.1 pc = .ok (ins, len) := p_dk (b := m_Mo_sidesOf.2.1) (t := dt_Mo_sidesOf) (by decide +kernel) i h
def F_Mo_sidesOf (v0 : Int) (s0 : p_Hp) : Option (Int × p_Hp) :=
  if v0 ≠ 5 then
    if v0 ≠ 6 then
      some (0, s0)
    else
      some (3, s0)
  else
    some (2, s0)
set_option maxRecDepth 100000 in
set_option maxHeartbeats 4000000 in
theorem tF_Mo_sidesOf (K : p_K) (l : Launch) (v0 : Int) (s0 : p_Hp) (r : (Int × p_Hp)) (h : F_Mo_sidesOf v0 s0 = some r) : p_Ct K l m_Mo_sidesOf [p_i v0] s0 (some (p_i r.1), r.2) := by
  refine p_Ct.of (by decide +kernel) (Nat.le_of_ble_eq_true rfl) ?_
  unfold F_Mo_sidesOf at h
  show p_Go K l m_Mo_sidesOf 0 [(0, p_i v0)] [] s0 _
  refine g_iload_n (i := 0) (j := 0) (dk_Mo_sidesOf 0 rfl) rfl rfl ?_
  refine g_iconst (dk_Mo_sidesOf 1 rfl) (by decide) ?_
  refine g_icmp_ne 9 (dk_Mo_sidesOf 2 rfl) (by decide) (fun b1 => ?_) (fun b1 => ?_)
  · have h := p_ifT b1 h
    refine g_iload_n (i := 0) (j := 0) (dk_Mo_sidesOf 5 rfl) rfl rfl ?_
    refine g_bipush (dk_Mo_sidesOf 6 rfl) (by decide +kernel) (by decide) ?_
    refine g_icmp_ne 19 (dk_Mo_sidesOf 7 rfl) (by decide) (fun b2 => ?_) (fun b2 => ?_)
    · have h := p_ifT b2 h
      refine g_iconst (dk_Mo_sidesOf 10 rfl) (by decide) ?_
      cases h
      exact g_ret rfl rfl (dk_Mo_sidesOf 11 rfl) (fun os => ⟨_, rfl, p_okh os⟩)
    · have h := p_ifF b2 h
      refine g_iconst (dk_Mo_sidesOf 8 rfl) (by decide) ?_
      refine g_goto 20 (dk_Mo_sidesOf 9 rfl) (by decide) ?_
      cases h
      exact g_ret rfl rfl (dk_Mo_sidesOf 11 rfl) (fun os => ⟨_, rfl, p_okh os⟩)
  · have h := p_ifF b1 h
    refine g_iconst (dk_Mo_sidesOf 3 rfl) (by decide) ?_
    refine g_goto 20 (dk_Mo_sidesOf 4 rfl) (by decide) ?_
    cases h
    exact g_ret rfl rfl (dk_Mo_sidesOf 11 rfl) (fun os => ⟨_, rfl, p_okh os⟩)
def m_Mo_aim : p_Me := (⟨"SortWorksModel", "aim", "(IIIZ)I"⟩, prog_13_method_21_code, 9, (some .int), 2, 46)
theorem mt_Mo_aim : p_Mt m_Mo_aim 4 := ⟨p_mem (p_tb7 (List.mem_of_getElem? (i := 121) rfl)) rfl, tw_1_12, by decide +kernel, by decide +kernel, by decide +kernel⟩
def dt_Mo_aim : List (Nat × Instr × Nat) := [(0, .aload_n 0, 1), (1, .iload_n 1, 1), (2, .invokevirtual 267, 3), (5, .ifCond .eq 9, 3), (8, .aload_n 0, 1), (9, .iconst (-1), 1), (10, .invokevirtual 240, 3), (13, .ireturn, 1), (14, .iload_n 2, 1), (15, .i2l, 1), (16, .lconst 1, 1), (17, .ldc2_w 238, 3), (20, .invokestatic 230, 3), (23, .ifCond .ne 15, 3), (26, .iload_n 3, 1), (27, .i2l, 1), (28, .lconst 0, 1), (29, .ldc2_w 275, 3), (32, .invokestatic 230, 3), (35, .ifCond .eq 10, 3), (38, .aload_n 0, 1), (39, .bipush (-2), 2), (41, .invokevirtual 240, 3), (44, .ireturn, 1), (45, .aload_n 0, 1), (46, .iload_n 1, 1), (47, .invokevirtual 257, 3), (50, .istore 5, 2), (52, .aload_n 0, 1), (53, .getfield 16, 3), (56, .iload 5, 2), (58, .iaload, 1), (59, .invokestatic 234, 3), (62, .ifCond .eq 17, 3), (65, .iload_n 2, 1), (66, .aload_n 0, 1), (67, .getfield 16, 3), (70, .iload 5, 2), (72, .iaload, 1), (73, .invokestatic 277, 3), (76, .if_icmp .lt 26, 3), (79, .aload_n 0, 1), (80, .aload_n 0, 1), (81, .getfield 16, 3), (84, .iload 5, 2), (86, .iaload, 1), (87, .invokestatic 234, 3), (90, .ifCond .eq 7, 3), (93, .iconst 3, 1), (94, .goto 4, 3), (97, .iconst 2, 1), (98, .invokevirtual 270, 3), (101, .ireturn, 1), (102, .lconst 1, 1), (103, .iload_n 3, 1), (104, .lshl, 1), (105, .lstore 6, 2), (107, .aload_n 0, 1), (108, .getfield 34, 3), (111, .iconst 2, 1), (112, .iload 5, 2), (114, .imul, 1), (115, .iload_n 2, 1), (116, .iadd, 1), (117, .iconst 1, 1), (118, .isub, 1), (119, .laload, 1), (120, .lload 6, 2), (122, .land, 1), (123, .lconst 0, 1), (124, .lcmp, 1), (125, .ifCond .eq 7, 3), (128, .iconst 1, 1), (129, .goto 4, 3), (132, .iconst 0, 1), (133, .istore 8, 2), (135, .iload 8, 2), (137, .iload 4, 2), (139, .if_icmp .eq 21, 3), (142, .aload_n 0, 1), (143, .getfield 34, 3), (146, .iconst 2, 1), (147, .iload 5, 2), (149, .imul, 1), (150, .iload_n 2, 1), (151, .iadd, 1), (152, .iconst 1, 1), (153, .isub, 1), (154, .dup2, 1), (155, .laload, 1), (156, .lload 6, 2), (158, .lxor, 1), (159, .lastore, 1), (160, .aload_n 0, 1), (161, .iload 8, 2), (163, .iload 4, 2), (165, .if_icmp .eq 7, 3), (168, .iconst 1, 1), (169, .goto 4, 3), (172, .iconst 0, 1), (173, .invokevirtual 264, 3), (176, .ireturn, 1)]
theorem dk_Mo_aim (i : Nat) {pc : Nat} {ins : Instr} {len : Nat} (h : dt_Mo_aim[i]? = some (pc, ins, len)) : decode m_Mo_aim.2.1 pc = .ok (ins, len) := p_dk (b := m_Mo_aim.2.1) (t := dt_Mo_aim) (by decide +kernel) i h
def B_Mo_aim_38  (v0 : Nat) (s0 : p_Hp) : Option (Int × p_Hp) :=
  p_gd (p_is s0 v0 11) <|
  p_bd (F_Mo_refused v0 (-2) s0) fun r6 s2 =>
  some (r6, s2)
def B_Mo_aim_98  (w0 : Int) (w1 : Nat) (s0 : p_Hp) : Option (Int × p_Hp) :=
  p_gd (p_is s0 w1 11) <|
  p_bd (F_Mo_faulted w1 w0 s0) fun r6 s2 =>
  some (r6, s2)
def B_Mo_aim_79  (v0 : Nat) (v5 : Int) (s0 : p_Hp) : Option (Int × p_Hp) :=
  p_gd (p_is s0 v0 11) <|
  p_gd (p_is s0 (p_R s0 v0 5) 100) <|
  p_gd ((0 : Int) ≤ v5 ∧ v5 < (p_L s0 (p_R s0 v0 5) : Int)) <|
  p_bd (F_Mo_isDivert (p_Z s0 (p_R s0 v0 5) (v5 : Int).toNat) s0) fun r8 s4 =>
  if r8 = 0 then
    B_Mo_aim_98 2 v0 s4
  else
    B_Mo_aim_98 3 v0 s4
def B_Mo_aim_173  (w0 : Int) (w1 : Nat) (s0 : p_Hp) : Option (Int × p_Hp) :=
  p_gd (p_is s0 w1 11) <|
  p_bd (F_Mo_built w1 w0 s0) fun r6 s2 =>
  some (r6, s2)
def B_Mo_aim_160  (v0 : Nat) (v4 : Int) (v8 : Int) (s0 : p_Hp) : Option (Int × p_Hp) :=
  if v8 = v4 then
    B_Mo_aim_173 0 v0 s0
  else
    B_Mo_aim_173 1 v0 s0
def B_Mo_aim_133  (v0 : Nat) (v2 : Int) (v4 : Int) (v5 : Int) (v6 : Int) (w0 : Int) (s0 : p_Hp) : Option (Int × p_Hp) :=
  if w0 = v4 then
    B_Mo_aim_160 v0 v4 w0 s0
  else
    p_gd (p_is s0 v0 11) <|
    p_gd (p_is s0 (p_R s0 v0 11) 101) <|
    p_gd ((0 : Int) ≤ (p_w ((p_w ((p_w (2 * v5)) + v2)) - 1)) ∧ (p_w ((p_w ((p_w (2 * v5)) + v2)) - 1)) < (p_L s0 (p_R s0 v0 11) : Int)) <|
    p_gd ((0 : Int) ≤ (p_w ((p_w ((p_w (2 * v5)) + v2)) - 1)) ∧ (p_w ((p_w ((p_w (2 * v5)) + v2)) - 1)) < (p_L s0 (p_R s0 v0 11) : Int)) <|
    p_bi (p_wZ s0 (p_R s0 v0 11) ((p_w ((p_w ((p_w (2 * v5)) + v2)) - 1)) : Int).toNat (p_xor6 (p_Z s0 (p_R s0 v0 11) ((p_w ((p_w ((p_w (2 * v5)) + v2)) - 1)) : Int).toNat) v6)) fun s6 =>
    B_Mo_aim_160 v0 v4 w0 s6
def F_Mo_aim (v0 : Nat) (v1 : Int) (v2 : Int) (v3 : Int) (v4 : Int) (s0 : p_Hp) : Option (Int × p_Hp) :=
  p_gd (p_is s0 v0 11) <|
  p_bd (F_Mo_noGear v0 v1 s0) fun r6 s2 =>
  if r6 = 0 then
    p_bd (F_Mo_beyond v2 1 2 s2) fun r12 s8 =>
    if r12 ≠ 0 then
      B_Mo_aim_38 v0 s8
    else
      p_bd (F_Mo_beyond v3 0 39 s8) fun r18 s14 =>
      if r18 = 0 then
        p_bd (F_Mo_g v0 v1 s14) fun r24 s20 =>
        p_gd (p_is s20 (p_R s20 v0 5) 100) <|
        p_gd ((0 : Int) ≤ r24 ∧ r24 < (p_L s20 (p_R s20 v0 5) : Int)) <|
        p_bd (F_Mo_isDivert (p_Z s20 (p_R s20 v0 5) (r24 : Int).toNat) s20) fun r31 s27 =>
        if r31 = 0 then
          B_Mo_aim_79 v0 r24 s27
        else
          p_gd (p_is s27 (p_R s27 v0 5) 100) <|
          p_gd ((0 : Int) ≤ r24 ∧ r24 < (p_L s27 (p_R s27 v0 5) : Int)) <|
          p_bd (F_Mo_sidesOf (p_Z s27 (p_R s27 v0 5) (r24 : Int).toNat) s27) fun r39 s35 =>
          if v2 < r39 then
            p_bi ((p_shl6 1 v3)) fun x41 =>
            p_gd (p_is s35 (p_R s35 v0 11) 101) <|
            p_gd ((0 : Int) ≤ (p_w ((p_w ((p_w (2 * r24)) + v2)) - 1)) ∧ (p_w ((p_w ((p_w (2 * r24)) + v2)) - 1)) < (p_L s35 (p_R s35 v0 11) : Int)) <|
            if (p_cmp (p_and6 (p_Z s35 (p_R s35 v0 11) ((p_w ((p_w ((p_w (2 * r24)) + v2)) - 1)) : Int).toNat) x41) 0) = 0 then
              B_Mo_aim_133 v0 v2 v4 r24 x41 0 s35
            else
              B_Mo_aim_133 v0 v2 v4 r24 x41 1 s35
          else
            B_Mo_aim_79 v0 r24 s35
      else
        B_Mo_aim_38 v0 s14
  else
    p_bd (F_Mo_refused v0 (-1) s2) fun r49 s45 =>
    some (r49, s45)
set_option maxRecDepth 100000 in
set_option maxHeartbeats 4000000 in
theorem tB_Mo_aim_38 (K : p_K) (l : Launch)  (v0 : Nat) (s0 : p_Hp) (r : (Int × p_Hp)) (h : B_Mo_aim_38 v0 s0 = some r) : p_Go K l m_Mo_aim 38 [(0, p_r v0)] [] s0 (some (p_i r.1), r.2) := by
  unfold B_Mo_aim_38 at h
  refine g_aload_n (i := 0) (j := 0) (dk_Mo_aim 20 rfl) rfl rfl ?_
  refine g_bipush (dk_Mo_aim 21 rfl) (by decide +kernel) (by decide) ?_
  obtain ⟨c1, h⟩ := p_gdE h
  obtain ⟨r6, s2, q3, h⟩ := p_bdE h
  have t4 := tF_Mo_refused K l v0 (-2) s0 _ q3
  refine g_callV (a := v0) (ci := 11) (q0 := (RX11, TX11, 90)) (As := [p_i (-2)]) (rest := []) [p_i r6] mt_Mo_refused rfl rfl tw_7_67 ts_43 tw_7_65 ⟨Nat.le_of_ble_eq_true rfl, Nat.le_of_ble_eq_true rfl⟩ rfl (Nat.le_of_ble_eq_true rfl) (dk_Mo_aim 22 rfl) rfl c1 rfl t4 ?_
  have hs5 : p_x s0 s2 := t4.1
  show p_Go K l m_Mo_aim 44 [(0, p_r v0)] [p_i r6] s2 _
  cases h
  exact g_ret rfl rfl (dk_Mo_aim 23 rfl) (fun os => ⟨_, rfl, p_okh os⟩)
set_option maxRecDepth 100000 in
set_option maxHeartbeats 4000000 in
theorem tB_Mo_aim_98 (K : p_K) (l : Launch)  (w0 : Int) (w1 : Nat) (s0 : p_Hp) (r : (Int × p_Hp)) (h : B_Mo_aim_98 w0 w1 s0 = some r) : p_Go K l m_Mo_aim 98 [] [p_i w0, p_r w1] s0 (some (p_i r.1), r.2) := by
  unfold B_Mo_aim_98 at h
  obtain ⟨c1, h⟩ := p_gdE h
  obtain ⟨r6, s2, q3, h⟩ := p_bdE h
  have t4 := tF_Mo_faulted K l w1 w0 s0 _ q3
  refine g_callV (a := w1) (ci := 11) (q0 := (RX11, TX11, 90)) (As := [p_i w0]) (rest := []) [p_i r6] mt_Mo_faulted rfl rfl tw_7_110 ts_49 tw_7_108 ⟨Nat.le_of_ble_eq_true rfl, Nat.le_of_ble_eq_true rfl⟩ rfl (Nat.le_of_ble_eq_true rfl) (dk_Mo_aim 51 rfl) rfl c1 rfl t4 ?_
  have hs5 : p_x s0 s2 := t4.1
  show p_Go K l m_Mo_aim 101 [] [p_i r6] s2 _
  cases h
  exact g_ret rfl rfl (dk_Mo_aim 52 rfl) (fun os => ⟨_, rfl, p_okh os⟩)
set_option maxRecDepth 100000 in
set_option maxHeartbeats 4000000 in
theorem tB_Mo_aim_79 (K : p_K) (l : Launch)  (v0 : Nat) (v5 : Int) (s0 : p_Hp) (r : (Int × p_Hp)) (h : B_Mo_aim_79 v0 v5 s0 = some r) : p_Go K l m_Mo_aim 79 [(0, p_r v0), (5, p_i v5)] [] s0 (some (p_i r.1), r.2) := by
  unfold B_Mo_aim_79 at h
  refine g_aload_n (i := 0) (j := 0) (dk_Mo_aim 41 rfl) rfl rfl ?_
  refine g_aload_n (i := 0) (j := 0) (dk_Mo_aim 42 rfl) rfl rfl ?_
  obtain ⟨c1, h⟩ := p_gdE h
  refine g_getR fl_Mo_16 (Or.inr ⟨_, rfl⟩) (dk_Mo_aim 43 rfl) c1 ?_
  refine g_iload (j := 1) (dk_Mo_aim 44 rfl) rfl ?_
  obtain ⟨c2, h⟩ := p_gdE h
  obtain ⟨c3, h⟩ := p_gdE h
  refine g_iaload (dk_Mo_aim 45 rfl) c2 c3.1 c3.2 ?_
  obtain ⟨r8, s4, q5, h⟩ := p_bdE h
  have t6 := tF_Mo_isDivert K l (p_Z s0 (p_R s0 v0 5) (v5 : Int).toNat) s0 _ q5
  refine g_callS (av := [p_i (p_Z s0 (p_R s0 v0 5) (v5 : Int).toNat)]) (rest := [p_r v0]) [p_i r8, p_r v0] mt_Mo_isDivert tw_7_94 tw_7_93 ⟨Nat.le_of_ble_eq_true rfl, Nat.le_of_ble_eq_true rfl⟩ rfl (Nat.le_of_ble_eq_true rfl) (dk_Mo_aim 46 rfl) rfl rfl t6 ?_
  have hs7 : p_x s0 s4 := t6.1
  show p_Go K l m_Mo_aim 90 [(0, p_r v0), (5, p_i v5)] [p_i r8, p_r v0] s4 _
  refine g_if_eq 97 (dk_Mo_aim 47 rfl) (by decide) (fun b9 => ?_) (fun b9 => ?_)
  · have h := p_ifT b9 h
    refine g_iconst (dk_Mo_aim 50 rfl) (by decide) ?_
    refine g_sub [] [] rfl ?_
    exact tB_Mo_aim_98 K l 2 v0 s4 _ h
  · have h := p_ifF b9 h
    refine g_iconst (dk_Mo_aim 48 rfl) (by decide) ?_
    refine g_goto 98 (dk_Mo_aim 49 rfl) (by decide) ?_
    refine g_sub [] [] rfl ?_
    exact tB_Mo_aim_98 K l 3 v0 s4 _ h
set_option maxRecDepth 100000 in
set_option maxHeartbeats 4000000 in
theorem tB_Mo_aim_173 (K : p_K) (l : Launch)  (w0 : Int) (w1 : Nat) (s0 : p_Hp) (r : (Int × p_Hp)) (h : B_Mo_aim_173 w0 w1 s0 = some r) : p_Go K l m_Mo_aim 173 [] [p_i w0, p_r w1] s0 (some (p_i r.1), r.2) := by
  unfold B_Mo_aim_173 at h
  obtain ⟨c1, h⟩ := p_gdE h
  obtain ⟨r6, s2, q3, h⟩ := p_bdE h
  have t4 := tF_Mo_built K l w1 w0 s0 _ q3
  refine g_callV (a := w1) (ci := 11) (q0 := (RX11, TX11, 90)) (As := [p_i w0]) (rest := []) [p_i r6] mt_Mo_built rfl rfl tw_7_98 ts_47 tw_7_96 ⟨Nat.le_of_ble_eq_true rfl, Nat.le_of_ble_eq_true rfl⟩ rfl (Nat.le_of_ble_eq_true rfl) (dk_Mo_aim 100 rfl) rfl c1 rfl t4 ?_
  have hs5 : p_x s0 s2 := t4.1
  show p_Go K l m_Mo_aim 176 [] [p_i r6] s2 _
  cases h
  exact g_ret rfl rfl (dk_Mo_aim 101 rfl) (fun os => ⟨_, rfl, p_okh os⟩)
set_option maxRecDepth 100000 in
set_option maxHeartbeats 4000000 in
theorem tB_Mo_aim_160 (K : p_K) (l : Launch)  (v0 : Nat) (v4 : Int) (v8 : Int) (s0 : p_Hp) (r : (Int × p_Hp)) (h : B_Mo_aim_160 v0 v4 v8 s0 = some r) : p_Go K l m_Mo_aim 160 [(0, p_r v0), (4, p_i v4), (8, p_i v8)] [] s0 (some (p_i r.1), r.2) := by
  unfold B_Mo_aim_160 at h
  refine g_aload_n (i := 0) (j := 0) (dk_Mo_aim 93 rfl) rfl rfl ?_
  refine g_iload (j := 2) (dk_Mo_aim 94 rfl) rfl ?_
  refine g_iload (j := 1) (dk_Mo_aim 95 rfl) rfl ?_
  refine g_icmp_eq 172 (dk_Mo_aim 96 rfl) (by decide) (fun b1 => ?_) (fun b1 => ?_)
  · have h := p_ifT b1 h
    refine g_iconst (dk_Mo_aim 99 rfl) (by decide) ?_
    refine g_sub [] [] rfl ?_
    exact tB_Mo_aim_173 K l 0 v0 s0 _ h
  · have h := p_ifF b1 h
    refine g_iconst (dk_Mo_aim 97 rfl) (by decide) ?_
    refine g_goto 173 (dk_Mo_aim 98 rfl) (by decide) ?_
    refine g_sub [] [] rfl ?_
    exact tB_Mo_aim_173 K l 1 v0 s0 _ h
set_option maxRecDepth 100000 in
set_option maxHeartbeats 4000000 in
theorem tB_Mo_aim_133 (K : p_K) (l : Launch)  (v0 : Nat) (v2 : Int) (v4 : Int) (v5 : Int) (v6 : Int) (w0 : Int) (s0 : p_Hp) (r : (Int × p_Hp)) (h : B_Mo_aim_133 v0 v2 v4 v5 v6 w0 s0 = some r) : p_Go K l m_Mo_aim 133 [(0, p_r v0), (2, p_i v2), (4, p_i v4), (5, p_i v5), (6, p_j v6)] [p_i w0] s0 (some (p_i r.1), r.2) := by
  unfold B_Mo_aim_133 at h
  refine g_istore [(8, p_i w0), (0, p_r v0), (2, p_i v2), (4, p_i v4), (5, p_i v5), (6, p_j v6)] (dk_Mo_aim 75 rfl) (by decide) rfl ?_
  refine g_iload (j := 0) (dk_Mo_aim 76 rfl) rfl ?_
  refine g_iload (j := 3) (dk_Mo_aim 77 rfl) rfl ?_
  refine g_icmp_eq 160 (dk_Mo_aim 78 rfl) (by decide) (fun b1 => ?_) (fun b1 => ?_)
  · have h := p_ifT b1 h
    refine g_sub [(0, p_r v0), (4, p_i v4), (8, p_i w0)] [1, 3, 0] rfl ?_
    exact tB_Mo_aim_160 K l v0 v4 w0 s0 _ h
  · have h := p_ifF b1 h
    refine g_aload_n (i := 0) (j := 1) (dk_Mo_aim 79 rfl) rfl rfl ?_
    obtain ⟨c2, h⟩ := p_gdE h
    refine g_getR fl_Mo_34 (Or.inr ⟨_, rfl⟩) (dk_Mo_aim 80 rfl) c2 ?_
    refine g_iconst (dk_Mo_aim 81 rfl) (by decide) ?_
    refine g_iload (j := 4) (dk_Mo_aim 82 rfl) rfl ?_
    refine g_imul (dk_Mo_aim 83 rfl) ?_
    refine g_iload_n (i := 2) (j := 2) (dk_Mo_aim 84 rfl) rfl rfl ?_
    refine g_iadd (dk_Mo_aim 85 rfl) ?_
    refine g_iconst (dk_Mo_aim 86 rfl) (by decide) ?_
    refine g_isub (dk_Mo_aim 87 rfl) ?_
    refine g_dup2 (dk_Mo_aim 88 rfl) rfl rfl ?_
    obtain ⟨c3, h⟩ := p_gdE h
    obtain ⟨c4, h⟩ := p_gdE h
    refine g_laload (dk_Mo_aim 89 rfl) c3 c4.1 c4.2 ?_
    refine g_lload (j := 5) (dk_Mo_aim 90 rfl) rfl ?_
    refine g_lxor (dk_Mo_aim 91 rfl) ?_
    obtain ⟨c5, h⟩ := p_gdE h
    refine g_lastore (dk_Mo_aim 92 rfl) c3 c5.1 c5.2 ?_
    refine p_ltS (P := fun q => p_Go K l m_Mo_aim 160 [(8, p_i w0), (0, p_r v0), (2, p_i v2), (4, p_i v4), (5, p_i v5), (6, p_j v6)] [] q _) (p_xZ _ _ _ _) ?_ h
    intro s6 hs7 h
    refine g_sub [(0, p_r v0), (4, p_i v4), (8, p_i w0)] [1, 3, 0] rfl ?_
    exact tB_Mo_aim_160 K l v0 v4 w0 s6 _ h
set_option maxRecDepth 100000 in
set_option maxHeartbeats 4000000 in
theorem tF_Mo_aim (K : p_K) (l : Launch) (v0 : Nat) (v1 : Int) (v2 : Int) (v3 : Int) (v4 : Int) (s0 : p_Hp) (r : (Int × p_Hp)) (h : F_Mo_aim v0 v1 v2 v3 v4 s0 = some r) : p_Ct K l m_Mo_aim [p_r v0, p_i v1, p_i v2, p_i v3, p_i v4] s0 (some (p_i r.1), r.2) := by
  refine p_Ct.of (by decide +kernel) (Nat.le_of_ble_eq_true rfl) ?_
  unfold F_Mo_aim at h
  show p_Go K l m_Mo_aim 0 [(0, p_r v0), (1, p_i v1), (2, p_i v2), (3, p_i v3), (4, p_i v4)] [] s0 _
  refine g_aload_n (i := 0) (j := 0) (dk_Mo_aim 0 rfl) rfl rfl ?_
  refine g_iload_n (i := 1) (j := 1) (dk_Mo_aim 1 rfl) rfl rfl ?_
  obtain ⟨c1, h⟩ := p_gdE h
  obtain ⟨r6, s2, q3, h⟩ := p_bdE h
  have t4 := tF_Mo_noGear K l v0 v1 s0 _ q3
  refine g_callV (a := v0) (ci := 11) (q0 := (RX11, TX11, 90)) (As := [p_i v1]) (rest := []) [p_i r6] mt_Mo_noGear rfl rfl tw_7_106 ts_48 tw_7_104 ⟨Nat.le_of_ble_eq_true rfl, Nat.le_of_ble_eq_true rfl⟩ rfl (Nat.le_of_ble_eq_true rfl) (dk_Mo_aim 2 rfl) rfl c1 rfl t4 ?_
  have hs5 : p_x s0 s2 := t4.1
  show p_Go K l m_Mo_aim 5 [(0, p_r v0), (1, p_i v1), (2, p_i v2), (3, p_i v3), (4, p_i v4)] [p_i r6] s2 _
  refine g_if_eq 14 (dk_Mo_aim 3 rfl) (by decide) (fun b7 => ?_) (fun b7 => ?_)
  · have h := p_ifT b7 h
    refine g_iload_n (i := 2) (j := 2) (dk_Mo_aim 8 rfl) rfl rfl ?_
    refine g_i2l (dk_Mo_aim 9 rfl) ?_
    refine g_lconst (x := 1) (dk_Mo_aim 10 rfl) rfl (by decide) ?_
    refine g_ldc2_w (x := 2) (dk_Mo_aim 11 rfl) tw_7_61 (by decide) (by decide) ?_
    obtain ⟨r12, s8, q9, h⟩ := p_bdE h
    have t10 := tF_Mo_beyond K l v2 1 2 s2 _ q9
    refine g_callS (av := [p_j v2, p_j 1, p_j 2]) (rest := []) [p_i r12] mt_Mo_beyond tw_7_63 tw_7_62 ⟨Nat.le_of_ble_eq_true rfl, Nat.le_of_ble_eq_true rfl⟩ rfl (Nat.le_of_ble_eq_true rfl) (dk_Mo_aim 12 rfl) rfl rfl t10 ?_
    have hs11 : p_x s2 s8 := t10.1
    show p_Go K l m_Mo_aim 23 [(0, p_r v0), (1, p_i v1), (2, p_i v2), (3, p_i v3), (4, p_i v4)] [p_i r12] s8 _
    refine g_if_ne 38 (dk_Mo_aim 13 rfl) (by decide) (fun b13 => ?_) (fun b13 => ?_)
    · have h := p_ifT b13 h
      refine g_sub [(0, p_r v0)] [0] rfl ?_
      exact tB_Mo_aim_38 K l v0 s8 _ h
    · have h := p_ifF b13 h
      refine g_iload_n (i := 3) (j := 3) (dk_Mo_aim 14 rfl) rfl rfl ?_
      refine g_i2l (dk_Mo_aim 15 rfl) ?_
      refine g_lconst (x := 0) (dk_Mo_aim 16 rfl) rfl (by decide) ?_
      refine g_ldc2_w (x := 39) (dk_Mo_aim 17 rfl) tw_7_117 (by decide) (by decide) ?_
      obtain ⟨r18, s14, q15, h⟩ := p_bdE h
      have t16 := tF_Mo_beyond K l v3 0 39 s8 _ q15
      refine g_callS (av := [p_j v3, p_j 0, p_j 39]) (rest := []) [p_i r18] mt_Mo_beyond tw_7_63 tw_7_62 ⟨Nat.le_of_ble_eq_true rfl, Nat.le_of_ble_eq_true rfl⟩ rfl (Nat.le_of_ble_eq_true rfl) (dk_Mo_aim 18 rfl) rfl rfl t16 ?_
      have hs17 : p_x s8 s14 := t16.1
      show p_Go K l m_Mo_aim 35 [(0, p_r v0), (1, p_i v1), (2, p_i v2), (3, p_i v3), (4, p_i v4)] [p_i r18] s14 _
      refine g_if_eq 45 (dk_Mo_aim 19 rfl) (by decide) (fun b19 => ?_) (fun b19 => ?_)
      · have h := p_ifT b19 h
        refine g_aload_n (i := 0) (j := 0) (dk_Mo_aim 24 rfl) rfl rfl ?_
        refine g_iload_n (i := 1) (j := 1) (dk_Mo_aim 25 rfl) rfl rfl ?_
        obtain ⟨r24, s20, q21, h⟩ := p_bdE h
        have t22 := tF_Mo_g K l v0 v1 s14 _ q21
        refine g_callV (a := v0) (ci := 11) (q0 := (RX11, TX11, 90)) (As := [p_i v1]) (rest := []) [p_i r24] mt_Mo_g rfl rfl tw_7_84 ts_45 tw_7_82 ⟨Nat.le_of_ble_eq_true rfl, Nat.le_of_ble_eq_true rfl⟩ rfl (Nat.le_of_ble_eq_true rfl) (dk_Mo_aim 26 rfl) rfl (c1.up (hs5.trans (hs11.trans hs17))) rfl t22 ?_
        have hs23 : p_x s14 s20 := t22.1
        show p_Go K l m_Mo_aim 50 [(0, p_r v0), (1, p_i v1), (2, p_i v2), (3, p_i v3), (4, p_i v4)] [p_i r24] s20 _
        refine g_istore [(5, p_i r24), (0, p_r v0), (1, p_i v1), (2, p_i v2), (3, p_i v3), (4, p_i v4)] (dk_Mo_aim 27 rfl) (by decide) rfl ?_
        refine g_aload_n (i := 0) (j := 1) (dk_Mo_aim 28 rfl) rfl rfl ?_
        refine g_getR fl_Mo_16 (Or.inr ⟨_, rfl⟩) (dk_Mo_aim 29 rfl) (c1.up (hs5.trans (hs11.trans (hs17.trans hs23)))) ?_
        refine g_iload (j := 0) (dk_Mo_aim 30 rfl) rfl ?_
        obtain ⟨c25, h⟩ := p_gdE h
        obtain ⟨c26, h⟩ := p_gdE h
        refine g_iaload (dk_Mo_aim 31 rfl) c25 c26.1 c26.2 ?_
        obtain ⟨r31, s27, q28, h⟩ := p_bdE h
        have t29 := tF_Mo_isDivert K l (p_Z s20 (p_R s20 v0 5) (r24 : Int).toNat) s20 _ q28
        refine g_callS (av := [p_i (p_Z s20 (p_R s20 v0 5) (r24 : Int).toNat)]) (rest := []) [p_i r31] mt_Mo_isDivert tw_7_94 tw_7_93 ⟨Nat.le_of_ble_eq_true rfl, Nat.le_of_ble_eq_true rfl⟩ rfl (Nat.le_of_ble_eq_true rfl) (dk_Mo_aim 32 rfl) rfl rfl t29 ?_
        have hs30 : p_x s20 s27 := t29.1
        show p_Go K l m_Mo_aim 62 [(5, p_i r24), (0, p_r v0), (1, p_i v1), (2, p_i v2), (3, p_i v3), (4, p_i v4)] [p_i r31] s27 _
        refine g_if_eq 79 (dk_Mo_aim 33 rfl) (by decide) (fun b32 => ?_) (fun b32 => ?_)
        · have h := p_ifT b32 h
          refine g_sub [(0, p_r v0), (5, p_i r24)] [1, 0] rfl ?_
          exact tB_Mo_aim_79 K l v0 r24 s27 _ h
        · have h := p_ifF b32 h
          refine g_iload_n (i := 2) (j := 3) (dk_Mo_aim 34 rfl) rfl rfl ?_
          refine g_aload_n (i := 0) (j := 1) (dk_Mo_aim 35 rfl) rfl rfl ?_
          refine g_getR fl_Mo_16 (Or.inr ⟨_, rfl⟩) (dk_Mo_aim 36 rfl) (c1.up (hs5.trans (hs11.trans (hs17.trans (hs23.trans hs30))))) ?_
          refine g_iload (j := 0) (dk_Mo_aim 37 rfl) rfl ?_
          obtain ⟨c33, h⟩ := p_gdE h
          obtain ⟨c34, h⟩ := p_gdE h
          refine g_iaload (dk_Mo_aim 38 rfl) c33 c34.1 c34.2 ?_
          obtain ⟨r39, s35, q36, h⟩ := p_bdE h
          have t37 := tF_Mo_sidesOf K l (p_Z s27 (p_R s27 v0 5) (r24 : Int).toNat) s27 _ q36
          refine g_callS (av := [p_i (p_Z s27 (p_R s27 v0 5) (r24 : Int).toNat)]) (rest := [p_i v2]) [p_i r39, p_i v2] mt_Mo_sidesOf tw_7_123 tw_7_122 ⟨Nat.le_of_ble_eq_true rfl, Nat.le_of_ble_eq_true rfl⟩ rfl (Nat.le_of_ble_eq_true rfl) (dk_Mo_aim 39 rfl) rfl rfl t37 ?_
          have hs38 : p_x s27 s35 := t37.1
          show p_Go K l m_Mo_aim 76 [(5, p_i r24), (0, p_r v0), (1, p_i v1), (2, p_i v2), (3, p_i v3), (4, p_i v4)] [p_i r39, p_i v2] s35 _
          refine g_icmp_lt 102 (dk_Mo_aim 40 rfl) (by decide) (fun b40 => ?_) (fun b40 => ?_)
          · have h := p_ifT b40 h
            refine g_lconst (x := 1) (dk_Mo_aim 53 rfl) rfl (by decide) ?_
            refine g_iload_n (i := 3) (j := 4) (dk_Mo_aim 54 rfl) rfl rfl ?_
            refine g_lshl (dk_Mo_aim 55 rfl) ?_
            refine g_lstore [(6, p_j (p_shl6 1 v3)), (5, p_i r24), (0, p_r v0), (1, p_i v1), (2, p_i v2), (3, p_i v3), (4, p_i v4)] (dk_Mo_aim 56 rfl) (by decide) rfl ?_
            refine p_ltG (P := fun q => p_Go K l m_Mo_aim 107 [(6, p_j q), (5, p_i r24), (0, p_r v0), (1, p_i v1), (2, p_i v2), (3, p_i v3), (4, p_i v4)] [] s35 _) ?_ h
            intro x41 h
            refine g_aload_n (i := 0) (j := 2) (dk_Mo_aim 57 rfl) rfl rfl ?_
            refine g_getR fl_Mo_34 (Or.inr ⟨_, rfl⟩) (dk_Mo_aim 58 rfl) (c1.up (hs5.trans (hs11.trans (hs17.trans (hs23.trans (hs30.trans hs38)))))) ?_
            refine g_iconst (dk_Mo_aim 59 rfl) (by decide) ?_
            refine g_iload (j := 1) (dk_Mo_aim 60 rfl) rfl ?_
            refine g_imul (dk_Mo_aim 61 rfl) ?_
            refine g_iload_n (i := 2) (j := 4) (dk_Mo_aim 62 rfl) rfl rfl ?_
            refine g_iadd (dk_Mo_aim 63 rfl) ?_
            refine g_iconst (dk_Mo_aim 64 rfl) (by decide) ?_
            refine g_isub (dk_Mo_aim 65 rfl) ?_
            obtain ⟨c42, h⟩ := p_gdE h
            obtain ⟨c43, h⟩ := p_gdE h
            refine g_laload (dk_Mo_aim 66 rfl) c42 c43.1 c43.2 ?_
            refine g_lload (j := 0) (dk_Mo_aim 67 rfl) rfl ?_
            refine g_land (dk_Mo_aim 68 rfl) ?_
            refine g_lconst (x := 0) (dk_Mo_aim 69 rfl) rfl (by decide) ?_
            refine g_lcmp (dk_Mo_aim 70 rfl) ?_
            refine g_if_eq 132 (dk_Mo_aim 71 rfl) (by decide) (fun b44 => ?_) (fun b44 => ?_)
            · have h := p_ifT b44 h
              refine g_iconst (dk_Mo_aim 74 rfl) (by decide) ?_
              refine g_sub [(0, p_r v0), (2, p_i v2), (4, p_i v4), (5, p_i r24), (6, p_j x41)] [2, 4, 6, 1, 0] rfl ?_
              exact tB_Mo_aim_133 K l v0 v2 v4 r24 x41 0 s35 _ h
            · have h := p_ifF b44 h
              refine g_iconst (dk_Mo_aim 72 rfl) (by decide) ?_
              refine g_goto 133 (dk_Mo_aim 73 rfl) (by decide) ?_
              refine g_sub [(0, p_r v0), (2, p_i v2), (4, p_i v4), (5, p_i r24), (6, p_j x41)] [2, 4, 6, 1, 0] rfl ?_
              exact tB_Mo_aim_133 K l v0 v2 v4 r24 x41 1 s35 _ h
          · have h := p_ifF b40 h
            refine g_sub [(0, p_r v0), (5, p_i r24)] [1, 0] rfl ?_
            exact tB_Mo_aim_79 K l v0 r24 s35 _ h
      · have h := p_ifF b19 h
        refine g_sub [(0, p_r v0)] [0] rfl ?_
        exact tB_Mo_aim_38 K l v0 s14 _ h
  · have h := p_ifF b7 h
    refine g_aload_n (i := 0) (j := 0) (dk_Mo_aim 4 rfl) rfl rfl ?_
    refine g_iconst (dk_Mo_aim 5 rfl) (by decide) ?_
    obtain ⟨r49, s45, q46, h⟩ := p_bdE h
    have t47 := tF_Mo_refused K l v0 (-1) s2 _ q46
    refine g_callV (a := v0) (ci := 11) (q0 := (RX11, TX11, 90)) (As := [p_i (-1)]) (rest := []) [p_i r49] mt_Mo_refused rfl rfl tw_7_67 ts_43 tw_7_65 ⟨Nat.le_of_ble_eq_true rfl, Nat.le_of_ble_eq_true rfl⟩ rfl (Nat.le_of_ble_eq_true rfl) (dk_Mo_aim 6 rfl) rfl (c1.up hs5) rfl t47 ?_
    have hs48 : p_x s2 s45 := t47.1
    show p_Go K l m_Mo_aim 13 [(0, p_r v0), (1, p_i v1), (2, p_i v2), (3, p_i v3), (4, p_i v4)] [p_i r49] s45 _
    cases h
    exact g_ret rfl rfl (dk_Mo_aim 7 rfl) (fun os => ⟨_, rfl, p_okh os⟩)
def m_Mo_rank : p_Me := (⟨"SortWorksModel", "rank", "(II)I"⟩, prog_13_method_22_code, 4, (some .int), 2, 46)
theorem mt_Mo_rank : p_Mt m_Mo_rank 2 := ⟨p_mem (p_tb7 (List.mem_of_getElem? (i := 128) rfl)) rfl, tw_1_12, by decide +kernel, by decide +kernel, by decide +kernel⟩
def dt_Mo_rank : List (Nat × Instr × Nat) := [(0, .aload_n 0, 1), (1, .iload_n 1, 1), (2, .invokevirtual 267, 3), (5, .ifCond .eq 9, 3), (8, .aload_n 0, 1), (9, .iconst (-1), 1), (10, .invokevirtual 240, 3), (13, .ireturn, 1), (14, .iload_n 2, 1), (15, .i2l, 1), (16, .lconst 0, 1), (17, .ldc2_w 280, 3), (20, .invokestatic 230, 3), (23, .ifCond .eq 10, 3), (26, .aload_n 0, 1), (27, .bipush (-2), 2), (29, .invokevirtual 240, 3), (32, .ireturn, 1), (33, .aload_n 0, 1), (34, .getfield 16, 3), (37, .aload_n 0, 1), (38, .iload_n 1, 1), (39, .invokevirtual 257, 3), (42, .iaload, 1), (43, .invokestatic 252, 3), (46, .ifCond .ne 9, 3), (49, .aload_n 0, 1), (50, .iconst 2, 1), (51, .invokevirtual 270, 3), (54, .ireturn, 1), (55, .aload_n 0, 1), (56, .getfield 28, 3), (59, .aload_n 0, 1), (60, .iload_n 1, 1), (61, .invokevirtual 257, 3), (64, .iaload, 1), (65, .istore_n 3, 1), (66, .aload_n 0, 1), (67, .getfield 28, 3), (70, .aload_n 0, 1), (71, .iload_n 1, 1), (72, .invokevirtual 257, 3), (75, .iload_n 2, 1), (76, .iastore, 1), (77, .aload_n 0, 1), (78, .iload_n 3, 1), (79, .invokevirtual 264, 3), (82, .ireturn, 1)]
theorem dk_Mo_rank (i : Nat) {pc : Nat} {ins : Instr} {len : Nat} (h : dt_Mo_rank[i]? = some (pc, ins, len)) : decode m_Mo_rank.2.1 pc = .ok (ins, len) := p_dk (b := m_Mo_rank.2.1) (t := dt_Mo_rank) (by decide +kernel) i h
def F_Mo_rank (v0 : Nat) (v1 : Int) (v2 : Int) (s0 : p_Hp) : Option (Int × p_Hp) :=
  p_gd (p_is s0 v0 11) <|
  p_bd (F_Mo_noGear v0 v1 s0) fun r6 s2 =>
  if r6 = 0 then
    p_bd (F_Mo_beyond v2 0 9 s2) fun r12 s8 =>
    if r12 = 0 then
      p_bd (F_Mo_g v0 v1 s8) fun r18 s14 =>
      p_gd (p_is s14 (p_R s8 v0 5) 100) <|
      p_gd ((0 : Int) ≤ r18 ∧ r18 < (p_L s14 (p_R s8 v0 5) : Int)) <|
      p_bd (F_Mo_isTaker (p_Z s14 (p_R s8 v0 5) (r18 : Int).toNat) s14) fun r25 s21 =>
      if r25 ≠ 0 then
        p_bd (F_Mo_g v0 v1 s21) fun r31 s27 =>
        p_gd (p_is s27 (p_R s21 v0 9) 100) <|
        p_gd ((0 : Int) ≤ r31 ∧ r31 < (p_L s27 (p_R s21 v0 9) : Int)) <|
        p_bi ((p_Z s27 (p_R s21 v0 9) (r31 : Int).toNat)) fun x34 =>
        p_bd (F_Mo_g v0 v1 s27) fun r39 s35 =>
        p_gd (p_is s35 (p_R s27 v0 9) 100) <|
        p_gd ((0 : Int) ≤ r39 ∧ r39 < (p_L s35 (p_R s27 v0 9) : Int)) <|
        p_bi (p_wZ s35 (p_R s27 v0 9) (r39 : Int).toNat v2) fun s42 =>
        p_bd (F_Mo_built v0 x34 s42) fun r48 s44 =>
        some (r48, s44)
      else
        p_bd (F_Mo_faulted v0 2 s21) fun r53 s49 =>
        some (r53, s49)
    else
      p_bd (F_Mo_refused v0 (-2) s8) fun r58 s54 =>
      some (r58, s54)
  else
    p_bd (F_Mo_refused v0 (-1) s2) fun r63 s59 =>
    some (r63, s59)
set_option maxRecDepth 100000 in
set_option maxHeartbeats 4000000 in
theorem tF_Mo_rank (K : p_K) (l : Launch) (v0 : Nat) (v1 : Int) (v2 : Int) (s0 : p_Hp) (r : (Int × p_Hp)) (h : F_Mo_rank v0 v1 v2 s0 = some r) : p_Ct K l m_Mo_rank [p_r v0, p_i v1, p_i v2] s0 (some (p_i r.1), r.2) := by
  refine p_Ct.of (by decide +kernel) (Nat.le_of_ble_eq_true rfl) ?_
  unfold F_Mo_rank at h
  show p_Go K l m_Mo_rank 0 [(0, p_r v0), (1, p_i v1), (2, p_i v2)] [] s0 _
  refine g_aload_n (i := 0) (j := 0) (dk_Mo_rank 0 rfl) rfl rfl ?_
  refine g_iload_n (i := 1) (j := 1) (dk_Mo_rank 1 rfl) rfl rfl ?_
  obtain ⟨c1, h⟩ := p_gdE h
  obtain ⟨r6, s2, q3, h⟩ := p_bdE h
  have t4 := tF_Mo_noGear K l v0 v1 s0 _ q3
  refine g_callV (a := v0) (ci := 11) (q0 := (RX11, TX11, 90)) (As := [p_i v1]) (rest := []) [p_i r6] mt_Mo_noGear rfl rfl tw_7_106 ts_48 tw_7_104 ⟨Nat.le_of_ble_eq_true rfl, Nat.le_of_ble_eq_true rfl⟩ rfl (Nat.le_of_ble_eq_true rfl) (dk_Mo_rank 2 rfl) rfl c1 rfl t4 ?_
  have hs5 : p_x s0 s2 := t4.1
  show p_Go K l m_Mo_rank 5 [(0, p_r v0), (1, p_i v1), (2, p_i v2)] [p_i r6] s2 _
  refine g_if_eq 14 (dk_Mo_rank 3 rfl) (by decide) (fun b7 => ?_) (fun b7 => ?_)
  · have h := p_ifT b7 h
    refine g_iload_n (i := 2) (j := 2) (dk_Mo_rank 8 rfl) rfl rfl ?_
    refine g_i2l (dk_Mo_rank 9 rfl) ?_
    refine g_lconst (x := 0) (dk_Mo_rank 10 rfl) rfl (by decide) ?_
    refine g_ldc2_w (x := 9) (dk_Mo_rank 11 rfl) tw_7_129 (by decide) (by decide) ?_
    obtain ⟨r12, s8, q9, h⟩ := p_bdE h
    have t10 := tF_Mo_beyond K l v2 0 9 s2 _ q9
    refine g_callS (av := [p_j v2, p_j 0, p_j 9]) (rest := []) [p_i r12] mt_Mo_beyond tw_7_63 tw_7_62 ⟨Nat.le_of_ble_eq_true rfl, Nat.le_of_ble_eq_true rfl⟩ rfl (Nat.le_of_ble_eq_true rfl) (dk_Mo_rank 12 rfl) rfl rfl t10 ?_
    have hs11 : p_x s2 s8 := t10.1
    show p_Go K l m_Mo_rank 23 [(0, p_r v0), (1, p_i v1), (2, p_i v2)] [p_i r12] s8 _
    refine g_if_eq 33 (dk_Mo_rank 13 rfl) (by decide) (fun b13 => ?_) (fun b13 => ?_)
    · have h := p_ifT b13 h
      refine g_aload_n (i := 0) (j := 0) (dk_Mo_rank 18 rfl) rfl rfl ?_
      refine g_getR fl_Mo_16 (Or.inr ⟨_, rfl⟩) (dk_Mo_rank 19 rfl) (c1.up (hs5.trans hs11)) ?_
      refine g_aload_n (i := 0) (j := 0) (dk_Mo_rank 20 rfl) rfl rfl ?_
      refine g_iload_n (i := 1) (j := 1) (dk_Mo_rank 21 rfl) rfl rfl ?_
      obtain ⟨r18, s14, q15, h⟩ := p_bdE h
      have t16 := tF_Mo_g K l v0 v1 s8 _ q15
      refine g_callV (a := v0) (ci := 11) (q0 := (RX11, TX11, 90)) (As := [p_i v1]) (rest := [p_r (p_R s8 v0 5)]) [p_i r18, p_r (p_R s8 v0 5)] mt_Mo_g rfl rfl tw_7_84 ts_45 tw_7_82 ⟨Nat.le_of_ble_eq_true rfl, Nat.le_of_ble_eq_true rfl⟩ rfl (Nat.le_of_ble_eq_true rfl) (dk_Mo_rank 22 rfl) rfl (c1.up (hs5.trans hs11)) rfl t16 ?_
      have hs17 : p_x s8 s14 := t16.1
      show p_Go K l m_Mo_rank 42 [(0, p_r v0), (1, p_i v1), (2, p_i v2)] [p_i r18, p_r (p_R s8 v0 5)] s14 _
      obtain ⟨c19, h⟩ := p_gdE h
      obtain ⟨c20, h⟩ := p_gdE h
      refine g_iaload (dk_Mo_rank 23 rfl) c19 c20.1 c20.2 ?_
      obtain ⟨r25, s21, q22, h⟩ := p_bdE h
      have t23 := tF_Mo_isTaker K l (p_Z s14 (p_R s8 v0 5) (r18 : Int).toNat) s14 _ q22
      refine g_callS (av := [p_i (p_Z s14 (p_R s8 v0 5) (r18 : Int).toNat)]) (rest := []) [p_i r25] mt_Mo_isTaker tw_7_79 tw_7_78 ⟨Nat.le_of_ble_eq_true rfl, Nat.le_of_ble_eq_true rfl⟩ rfl (Nat.le_of_ble_eq_true rfl) (dk_Mo_rank 24 rfl) rfl rfl t23 ?_
      have hs24 : p_x s14 s21 := t23.1
      show p_Go K l m_Mo_rank 46 [(0, p_r v0), (1, p_i v1), (2, p_i v2)] [p_i r25] s21 _
      refine g_if_ne 55 (dk_Mo_rank 25 rfl) (by decide) (fun b26 => ?_) (fun b26 => ?_)
      · have h := p_ifT b26 h
        refine g_aload_n (i := 0) (j := 0) (dk_Mo_rank 30 rfl) rfl rfl ?_
        refine g_getR fl_Mo_28 (Or.inr ⟨_, rfl⟩) (dk_Mo_rank 31 rfl) (c1.up (hs5.trans (hs11.trans (hs17.trans hs24)))) ?_
        refine g_aload_n (i := 0) (j := 0) (dk_Mo_rank 32 rfl) rfl rfl ?_
        refine g_iload_n (i := 1) (j := 1) (dk_Mo_rank 33 rfl) rfl rfl ?_
        obtain ⟨r31, s27, q28, h⟩ := p_bdE h
        have t29 := tF_Mo_g K l v0 v1 s21 _ q28
        refine g_callV (a := v0) (ci := 11) (q0 := (RX11, TX11, 90)) (As := [p_i v1]) (rest := [p_r (p_R s21 v0 9)]) [p_i r31, p_r (p_R s21 v0 9)] mt_Mo_g rfl rfl tw_7_84 ts_45 tw_7_82 ⟨Nat.le_of_ble_eq_true rfl, Nat.le_of_ble_eq_true rfl⟩ rfl (Nat.le_of_ble_eq_true rfl) (dk_Mo_rank 34 rfl) rfl (c1.up (hs5.trans (hs11.trans (hs17.trans hs24)))) rfl t29 ?_
        have hs30 : p_x s21 s27 := t29.1
        show p_Go K l m_Mo_rank 64 [(0, p_r v0), (1, p_i v1), (2, p_i v2)] [p_i r31, p_r (p_R s21 v0 9)] s27 _
        obtain ⟨c32, h⟩ := p_gdE h
        obtain ⟨c33, h⟩ := p_gdE h
        refine g_iaload (dk_Mo_rank 35 rfl) c32 c33.1 c33.2 ?_
        refine g_istore_n (i := 3) [(3, p_i (p_Z s27 (p_R s21 v0 9) (r31 : Int).toNat)), (0, p_r v0), (1, p_i v1), (2, p_i v2)] (dk_Mo_rank 36 rfl) rfl (by decide) rfl ?_
        refine p_ltG (P := fun q => p_Go K l m_Mo_rank 66 [(3, p_i q), (0, p_r v0), (1, p_i v1), (2, p_i v2)] [] s27 _) ?_ h
        intro x34 h
        refine g_aload_n (i := 0) (j := 1) (dk_Mo_rank 37 rfl) rfl rfl ?_
        refine g_getR fl_Mo_28 (Or.inr ⟨_, rfl⟩) (dk_Mo_rank 38 rfl) (c1.up (hs5.trans (hs11.trans (hs17.trans (hs24.trans hs30))))) ?_
        refine g_aload_n (i := 0) (j := 1) (dk_Mo_rank 39 rfl) rfl rfl ?_
        refine g_iload_n (i := 1) (j := 2) (dk_Mo_rank 40 rfl) rfl rfl ?_
        obtain ⟨r39, s35, q36, h⟩ := p_bdE h
        have t37 := tF_Mo_g K l v0 v1 s27 _ q36
        refine g_callV (a := v0) (ci := 11) (q0 := (RX11, TX11, 90)) (As := [p_i v1]) (rest := [p_r (p_R s27 v0 9)]) [p_i r39, p_r (p_R s27 v0 9)] mt_Mo_g rfl rfl tw_7_84 ts_45 tw_7_82 ⟨Nat.le_of_ble_eq_true rfl, Nat.le_of_ble_eq_true rfl⟩ rfl (Nat.le_of_ble_eq_true rfl) (dk_Mo_rank 41 rfl) rfl (c1.up (hs5.trans (hs11.trans (hs17.trans (hs24.trans hs30))))) rfl t37 ?_
        have hs38 : p_x s27 s35 := t37.1
        show p_Go K l m_Mo_rank 75 [(3, p_i x34), (0, p_r v0), (1, p_i v1), (2, p_i v2)] [p_i r39, p_r (p_R s27 v0 9)] s35 _
        refine g_iload_n (i := 2) (j := 3) (dk_Mo_rank 42 rfl) rfl rfl ?_
        obtain ⟨c40, h⟩ := p_gdE h
        obtain ⟨c41, h⟩ := p_gdE h
        refine g_iastore (dk_Mo_rank 43 rfl) c40 c41.1 c41.2 ?_
        refine p_ltS (P := fun q => p_Go K l m_Mo_rank 77 [(3, p_i x34), (0, p_r v0), (1, p_i v1), (2, p_i v2)] [] q _) (p_xZ _ _ _ _) ?_ h
        intro s42 hs43 h
        refine g_aload_n (i := 0) (j := 1) (dk_Mo_rank 44 rfl) rfl rfl ?_
        refine g_iload_n (i := 3) (j := 0) (dk_Mo_rank 45 rfl) rfl rfl ?_
        obtain ⟨r48, s44, q45, h⟩ := p_bdE h
        have t46 := tF_Mo_built K l v0 x34 s42 _ q45
        refine g_callV (a := v0) (ci := 11) (q0 := (RX11, TX11, 90)) (As := [p_i x34]) (rest := []) [p_i r48] mt_Mo_built rfl rfl tw_7_98 ts_47 tw_7_96 ⟨Nat.le_of_ble_eq_true rfl, Nat.le_of_ble_eq_true rfl⟩ rfl (Nat.le_of_ble_eq_true rfl) (dk_Mo_rank 46 rfl) rfl (c1.up (hs5.trans (hs11.trans (hs17.trans (hs24.trans (hs30.trans (hs38.trans hs43))))))) rfl t46 ?_
        have hs47 : p_x s42 s44 := t46.1
        show p_Go K l m_Mo_rank 82 [(3, p_i x34), (0, p_r v0), (1, p_i v1), (2, p_i v2)] [p_i r48] s44 _
        cases h
        exact g_ret rfl rfl (dk_Mo_rank 47 rfl) (fun os => ⟨_, rfl, p_okh os⟩)
      · have h := p_ifF b26 h
        refine g_aload_n (i := 0) (j := 0) (dk_Mo_rank 26 rfl) rfl rfl ?_
        refine g_iconst (dk_Mo_rank 27 rfl) (by decide) ?_
        obtain ⟨r53, s49, q50, h⟩ := p_bdE h
        have t51 := tF_Mo_faulted K l v0 2 s21 _ q50
        refine g_callV (a := v0) (ci := 11) (q0 := (RX11, TX11, 90)) (As := [p_i 2]) (rest := []) [p_i r53] mt_Mo_faulted rfl rfl tw_7_110 ts_49 tw_7_108 ⟨Nat.le_of_ble_eq_true rfl, Nat.le_of_ble_eq_true rfl⟩ rfl (Nat.le_of_ble_eq_true rfl) (dk_Mo_rank 28 rfl) rfl (c1.up (hs5.trans (hs11.trans (hs17.trans hs24)))) rfl t51 ?_
        have hs52 : p_x s21 s49 := t51.1
        show p_Go K l m_Mo_rank 54 [(0, p_r v0), (1, p_i v1), (2, p_i v2)] [p_i r53] s49 _
        cases h
        exact g_ret rfl rfl (dk_Mo_rank 29 rfl) (fun os => ⟨_, rfl, p_okh os⟩)
    · have h := p_ifF b13 h
      refine g_aload_n (i := 0) (j := 0) (dk_Mo_rank 14 rfl) rfl rfl ?_
      refine g_bipush (dk_Mo_rank 15 rfl) (by decide +kernel) (by decide) ?_
      obtain ⟨r58, s54, q55, h⟩ := p_bdE h
      have t56 := tF_Mo_refused K l v0 (-2) s8 _ q55
      refine g_callV (a := v0) (ci := 11) (q0 := (RX11, TX11, 90)) (As := [p_i (-2)]) (rest := []) [p_i r58] mt_Mo_refused rfl rfl tw_7_67 ts_43 tw_7_65 ⟨Nat.le_of_ble_eq_true rfl, Nat.le_of_ble_eq_true rfl⟩ rfl (Nat.le_of_ble_eq_true rfl) (dk_Mo_rank 16 rfl) rfl (c1.up (hs5.trans hs11)) rfl t56 ?_
      have hs57 : p_x s8 s54 := t56.1
      show p_Go K l m_Mo_rank 32 [(0, p_r v0), (1, p_i v1), (2, p_i v2)] [p_i r58] s54 _
      cases h
      exact g_ret rfl rfl (dk_Mo_rank 17 rfl) (fun os => ⟨_, rfl, p_okh os⟩)
  · have h := p_ifF b7 h
    refine g_aload_n (i := 0) (j := 0) (dk_Mo_rank 4 rfl) rfl rfl ?_
    refine g_iconst (dk_Mo_rank 5 rfl) (by decide) ?_
    obtain ⟨r63, s59, q60, h⟩ := p_bdE h
    have t61 := tF_Mo_refused K l v0 (-1) s2 _ q60
    refine g_callV (a := v0) (ci := 11) (q0 := (RX11, TX11, 90)) (As := [p_i (-1)]) (rest := []) [p_i r63] mt_Mo_refused rfl rfl tw_7_67 ts_43 tw_7_65 ⟨Nat.le_of_ble_eq_true rfl, Nat.le_of_ble_eq_true rfl⟩ rfl (Nat.le_of_ble_eq_true rfl) (dk_Mo_rank 6 rfl) rfl (c1.up hs5) rfl t61 ?_
    have hs62 : p_x s2 s59 := t61.1
    show p_Go K l m_Mo_rank 13 [(0, p_r v0), (1, p_i v1), (2, p_i v2)] [p_i r63] s59 _
    cases h
    exact g_ret rfl rfl (dk_Mo_rank 7 rfl) (fun os => ⟨_, rfl, p_okh os⟩)
def m_Mo_loadOf : p_Me := (⟨"SortWorksModel", "loadOf", "(I)I"⟩, prog_13_method_14_code, 4, (some .int), 0, 0)
theorem mt_Mo_loadOf : p_Mt m_Mo_loadOf 1 := ⟨p_mem (p_tb7 (List.mem_of_getElem? (i := 137) rfl)) rfl, tw_1_12, by decide +kernel, by decide +kernel, by decide +kernel⟩
def dt_Mo_loadOf : List (Nat × Instr × Nat) := [(0, .iconst 0, 1), (1, .istore_n 2, 1), (2, .iconst 0, 1), (3, .istore_n 3, 1), (4, .iload_n 3, 1), (5, .aload_n 0, 1), (6, .getfield 19, 3), (9, .iload_n 1, 1), (10, .iaload, 1), (11, .if_icmp .ge 31, 3), (14, .iload_n 2, 1), (15, .aload_n 0, 1), (16, .getfield 69, 3), (19, .bipush 8, 2), (21, .iload_n 1, 1), (22, .imul, 1), (23, .iload_n 3, 1), (24, .iadd, 1), (25, .iaload, 1), (26, .ifCond .le 7, 3), (29, .iconst 1, 1), (30, .goto 4, 3), (33, .iconst 0, 1), (34, .iadd, 1), (35, .istore_n 2, 1), (36, .iinc 3 1, 3), (39, .goto (-35), 3), (42, .iload_n 2, 1), (43, .ireturn, 1)]
theorem dk_Mo_loadOf (i : Nat) {pc : Nat} {ins : Instr} {len : Nat} (h : dt_Mo_loadOf[i]? = some (pc, ins, len)) : decode m_Mo_loadOf.2.1 pc = .ok (ins, len) := p_dk (b := m_Mo_loadOf.2.1) (t := dt_Mo_loadOf) (by decide +kernel) i h
def B_Mo_loadOf_34 (k4 : Nat → Int → Int → Int → p_Hp → Option (Int × p_Hp)) (v0 : Nat) (v1 : Int) (v3 : Int) (w0 : Int) (w1 : Int) (s0 : p_Hp) : Option (Int × p_Hp) :=
  p_bi ((p_w (w1 + w0))) fun x1 =>
  p_bi (p_w (v3 + 1)) fun x2 =>
  k4 v0 v1 x1 x2 s0
def L_Mo_loadOf_4 (k4 : Nat → Int → Int → Int → p_Hp → Option (Int × p_Hp)) (v0 : Nat) (v1 : Int) (v2 : Int) (v3 : Int) (s0 : p_Hp) : Option (Int × p_Hp) :=
  p_gd (p_is s0 v0 11) <|
  p_gd (p_is s0 (p_R s0 v0 6) 100) <|
  p_gd ((0 : Int) ≤ v1 ∧ v1 < (p_L s0 (p_R s0 v0 6) : Int)) <|
  if (p_Z s0 (p_R s0 v0 6) (v1 : Int).toNat) ≤ v3 then
    some (v2, s0)
  else
    p_gd (p_is s0 (p_R s0 v0 22) 100) <|
    p_gd ((0 : Int) ≤ (p_w ((p_w (8 * v1)) + v3)) ∧ (p_w ((p_w (8 * v1)) + v3)) < (p_L s0 (p_R s0 v0 22) : Int)) <|
    if (p_Z s0 (p_R s0 v0 22) ((p_w ((p_w (8 * v1)) + v3)) : Int).toNat) ≤ 0 then
      B_Mo_loadOf_34 k4 v0 v1 v3 0 v2 s0
    else
      B_Mo_loadOf_34 k4 v0 v1 v3 1 v2 s0
def O_Mo_loadOf_4  : Nat → Nat → Int → Int → Int → p_Hp → Option (Int × p_Hp)
  | 0 => fun _ _ _ _ _ => none
  | n + 1 => L_Mo_loadOf_4 (O_Mo_loadOf_4 n)
def F_Mo_loadOf (v0 : Nat) (v1 : Int) (s0 : p_Hp) : Option (Int × p_Hp) :=
  O_Mo_loadOf_4 3000 v0 v1 0 0 s0
set_option maxRecDepth 100000 in
set_option maxHeartbeats 4000000 in
theorem tB_Mo_loadOf_34 (K : p_K) (l : Launch) (k4 : Nat → Int → Int → Int → p_Hp → Option (Int × p_Hp)) (hk4 : ∀ (v0 : Nat) (v1 : Int) (v2 : Int) (v3 : Int)  (s0 : p_Hp) (r : (Int × p_Hp)), k4 v0 v1 v2 v3 s0 = some r → p_Go K l m_Mo_loadOf 4 [(0, p_r v0), (1, p_i v1), (2, p_i v2), (3, p_i v3)] [] s0 (some (p_i r.1), r.2)) (v0 : Nat) (v1 : Int) (v3 : Int) (w0 : Int) (w1 : Int) (s0 : p_Hp) (r : (Int × p_Hp)) (h : B_Mo_loadOf_34 k4 v0 v1 v3 w0 w1 s0 = some r) : p_Go K l m_Mo_loadOf 34 [(0, p_r v0), (1, p_i v1), (3, p_i v3)] [p_i w0, p_i w1] s0 (some (p_i r.1), r.2) := by
  unfold B_Mo_loadOf_34 at h
  refine g_iadd (dk_Mo_loadOf 23 rfl) ?_
  refine g_istore_n (i := 2) [(2, p_i (p_w (w1 + w0))), (0, p_r v0), (1, p_i v1), (3, p_i v3)] (dk_Mo_loadOf 24 rfl) rfl (by decide) rfl ?_
  refine p_ltG (P := fun q => p_Go K l m_Mo_loadOf 36 [(2, p_i q), (0, p_r v0), (1, p_i v1), (3, p_i v3)] [] s0 _) ?_ h
  intro x1 h
  refine g_iinc (j := 3) [(3, p_i (p_w (v3 + 1))), (2, p_i x1), (0, p_r v0), (1, p_i v1)] (dk_Mo_loadOf 25 rfl) rfl (by decide) rfl ?_
  refine p_ltG (P := fun q => p_Go K l m_Mo_loadOf 39 [(3, p_i q), (2, p_i x1), (0, p_r v0), (1, p_i v1)] [] s0 _) ?_ h
  intro x2 h
  refine g_goto 4 (dk_Mo_loadOf 26 rfl) (by decide) ?_
  refine g_sub [(0, p_r v0), (1, p_i v1), (2, p_i x1), (3, p_i x2)] [2, 3, 1, 0] rfl ?_
  exact hk4 v0 v1 x1 x2 s0 _ h
set_option maxRecDepth 100000 in
set_option maxHeartbeats 4000000 in
theorem tL_Mo_loadOf_4 (K : p_K) (l : Launch) (k4 : Nat → Int → Int → Int → p_Hp → Option (Int × p_Hp)) (hk4 : ∀ (v0 : Nat) (v1 : Int) (v2 : Int) (v3 : Int)  (s0 : p_Hp) (r : (Int × p_Hp)), k4 v0 v1 v2 v3 s0 = some r → p_Go K l m_Mo_loadOf 4 [(0, p_r v0), (1, p_i v1), (2, p_i v2), (3, p_i v3)] [] s0 (some (p_i r.1), r.2)) (v0 : Nat) (v1 : Int) (v2 : Int) (v3 : Int) (s0 : p_Hp) (r : (Int × p_Hp)) (h : L_Mo_loadOf_4 k4 v0 v1 v2 v3 s0 = some r) : p_Go K l m_Mo_loadOf 4 [(0, p_r v0), (1, p_i v1), (2, p_i v2), (3, p_i v3)] [] s0 (some (p_i r.1), r.2) := by
  unfold L_Mo_loadOf_4 at h
  refine g_iload_n (i := 3) (j := 3) (dk_Mo_loadOf 4 rfl) rfl rfl ?_
  refine g_aload_n (i := 0) (j := 0) (dk_Mo_loadOf 5 rfl) rfl rfl ?_
  obtain ⟨c1, h⟩ := p_gdE h
  refine g_getR fl_Mo_19 (Or.inr ⟨_, rfl⟩) (dk_Mo_loadOf 6 rfl) c1 ?_
  refine g_iload_n (i := 1) (j := 1) (dk_Mo_loadOf 7 rfl) rfl rfl ?_
  obtain ⟨c2, h⟩ := p_gdE h
  obtain ⟨c3, h⟩ := p_gdE h
  refine g_iaload (dk_Mo_loadOf 8 rfl) c2 c3.1 c3.2 ?_
  refine g_icmp_ge 42 (dk_Mo_loadOf 9 rfl) (by decide) (fun b4 => ?_) (fun b4 => ?_)
  · have h := p_ifT b4 h
    refine g_iload_n (i := 2) (j := 2) (dk_Mo_loadOf 27 rfl) rfl rfl ?_
    cases h
    exact g_ret rfl rfl (dk_Mo_loadOf 28 rfl) (fun os => ⟨_, rfl, p_okh os⟩)
  · have h := p_ifF b4 h
    refine g_iload_n (i := 2) (j := 2) (dk_Mo_loadOf 10 rfl) rfl rfl ?_
    refine g_aload_n (i := 0) (j := 0) (dk_Mo_loadOf 11 rfl) rfl rfl ?_
    refine g_getR fl_Mo_69 (Or.inr ⟨_, rfl⟩) (dk_Mo_loadOf 12 rfl) c1 ?_
    refine g_bipush (dk_Mo_loadOf 13 rfl) (by decide +kernel) (by decide) ?_
    refine g_iload_n (i := 1) (j := 1) (dk_Mo_loadOf 14 rfl) rfl rfl ?_
    refine g_imul (dk_Mo_loadOf 15 rfl) ?_
    refine g_iload_n (i := 3) (j := 3) (dk_Mo_loadOf 16 rfl) rfl rfl ?_
    refine g_iadd (dk_Mo_loadOf 17 rfl) ?_
    obtain ⟨c5, h⟩ := p_gdE h
    obtain ⟨c6, h⟩ := p_gdE h
    refine g_iaload (dk_Mo_loadOf 18 rfl) c5 c6.1 c6.2 ?_
    refine g_if_le 33 (dk_Mo_loadOf 19 rfl) (by decide) (fun b7 => ?_) (fun b7 => ?_)
    · have h := p_ifT b7 h
      refine g_iconst (dk_Mo_loadOf 22 rfl) (by decide) ?_
      refine g_sub [(0, p_r v0), (1, p_i v1), (3, p_i v3)] [0, 1, 3] rfl ?_
      exact tB_Mo_loadOf_34 K l k4 hk4 v0 v1 v3 0 v2 s0 _ h
    · have h := p_ifF b7 h
      refine g_iconst (dk_Mo_loadOf 20 rfl) (by decide) ?_
      refine g_goto 34 (dk_Mo_loadOf 21 rfl) (by decide) ?_
      refine g_sub [(0, p_r v0), (1, p_i v1), (3, p_i v3)] [0, 1, 3] rfl ?_
      exact tB_Mo_loadOf_34 K l k4 hk4 v0 v1 v3 1 v2 s0 _ h
set_option maxRecDepth 100000 in
set_option maxHeartbeats 4000000 in
theorem tO_Mo_loadOf_4 (K : p_K) (l : Launch)  : ∀ (n : Nat) (v0 : Nat) (v1 : Int) (v2 : Int) (v3 : Int) (s0 : p_Hp) (r : (Int × p_Hp)), O_Mo_loadOf_4 n v0 v1 v2 v3 s0 = some r → p_Go K l m_Mo_loadOf 4 [(0, p_r v0), (1, p_i v1), (2, p_i v2), (3, p_i v3)] [] s0 (some (p_i r.1), r.2) := by
  intro n
  induction n with
  | zero => intro v0 v1 v2 v3 s0 r h; cases (show (none : Option (Int × p_Hp)) = some r from h)
  | succ n ih => intro v0 v1 v2 v3 s0 r h; exact tL_Mo_loadOf_4 K l _ ih v0 v1 v2 v3 s0 r h
set_option maxRecDepth 100000 in
set_option maxHeartbeats 4000000 in
theorem tF_Mo_loadOf (K : p_K) (l : Launch) (v0 : Nat) (v1 : Int) (s0 : p_Hp) (r : (Int × p_Hp)) (h : F_Mo_loadOf v0 v1 s0 = some r) : p_Ct K l m_Mo_loadOf [p_r v0, p_i v1] s0 (some (p_i r.1), r.2) := by
  refine p_Ct.of (by decide +kernel) (Nat.le_of_ble_eq_true rfl) ?_
  unfold F_Mo_loadOf at h
  show p_Go K l m_Mo_loadOf 0 [(0, p_r v0), (1, p_i v1)] [] s0 _
  refine g_iconst (dk_Mo_loadOf 0 rfl) (by decide) ?_
  refine g_istore_n (i := 2) [(2, p_i 0), (0, p_r v0), (1, p_i v1)] (dk_Mo_loadOf 1 rfl) rfl (by decide) rfl ?_
  refine g_iconst (dk_Mo_loadOf 2 rfl) (by decide) ?_
  refine g_istore_n (i := 3) [(3, p_i 0), (2, p_i 0), (0, p_r v0), (1, p_i v1)] (dk_Mo_loadOf 3 rfl) rfl (by decide) rfl ?_
  refine g_sub [(0, p_r v0), (1, p_i v1), (2, p_i 0), (3, p_i 0)] [2, 3, 1, 0] rfl ?_
  exact tO_Mo_loadOf_4 K l 3000 v0 v1 0 0 s0 _ h
def m_Mo_refit : p_Me := (⟨"SortWorksModel", "refit", "(II)I"⟩, prog_13_method_23_code, 5, (some .int), 3, 62)
theorem mt_Mo_refit : p_Mt m_Mo_refit 2 := ⟨p_mem (p_tb7 (List.mem_of_getElem? (i := 133) rfl)) rfl, tw_1_12, by decide +kernel, by decide +kernel, by decide +kernel⟩
def dt_Mo_refit : List (Nat × Instr × Nat) := [(0, .aload_n 0, 1), (1, .iload_n 1, 1), (2, .invokevirtual 267, 3), (5, .ifCond .eq 9, 3), (8, .aload_n 0, 1), (9, .iconst (-1), 1), (10, .invokevirtual 240, 3), (13, .ireturn, 1), (14, .iload_n 2, 1), (15, .i2l, 1), (16, .lconst 0, 1), (17, .ldc2_w 250, 3), (20, .invokestatic 230, 3), (23, .ifCond .eq 10, 3), (26, .aload_n 0, 1), (27, .bipush (-2), 2), (29, .invokevirtual 240, 3), (32, .ireturn, 1), (33, .aload_n 0, 1), (34, .iload_n 1, 1), (35, .invokevirtual 257, 3), (38, .istore_n 3, 1), (39, .aload_n 0, 1), (40, .getfield 16, 3), (43, .iload_n 3, 1), (44, .iaload, 1), (45, .istore 4, 2), (47, .iload 4, 2), (49, .invokestatic 252, 3), (52, .iload_n 2, 1), (53, .invokestatic 252, 3), (56, .if_icmp .eq 9, 3), (59, .aload_n 0, 1), (60, .iconst 2, 1), (61, .invokevirtual 270, 3), (64, .ireturn, 1), (65, .aload_n 0, 1), (66, .iload_n 3, 1), (67, .invokevirtual 282, 3), (70, .ifCond .le 10, 3), (73, .aload_n 0, 1), (74, .bipush (-3), 2), (76, .invokevirtual 240, 3), (79, .ireturn, 1), (80, .aload_n 0, 1), (81, .iload_n 3, 1), (82, .iload_n 2, 1), (83, .invokevirtual 260, 3), (86, .aload_n 0, 1), (87, .iload 4, 2), (89, .invokevirtual 264, 3), (92, .ireturn, 1)]
theorem dk_Mo_refit (i : Nat) {pc : Nat} {ins : Instr} {len : Nat} (h : dt_Mo_refit[i]? = some (pc, ins, len)) : decode m_Mo_refit.2.1 pc = .ok (ins, len) := p_dk (b := m_Mo_refit.2.1) (t := dt_Mo_refit) (by decide +kernel) i h
def F_Mo_refit (v0 : Nat) (v1 : Int) (v2 : Int) (s0 : p_Hp) : Option (Int × p_Hp) :=
  p_gd (p_is s0 v0 11) <|
  p_bd (F_Mo_noGear v0 v1 s0) fun r6 s2 =>
  if r6 = 0 then
    p_bd (F_Mo_beyond v2 0 10 s2) fun r12 s8 =>
    if r12 = 0 then
      p_bd (F_Mo_g v0 v1 s8) fun r18 s14 =>
      p_gd (p_is s14 (p_R s14 v0 5) 100) <|
      p_gd ((0 : Int) ≤ r18 ∧ r18 < (p_L s14 (p_R s14 v0 5) : Int)) <|
      p_bi ((p_Z s14 (p_R s14 v0 5) (r18 : Int).toNat)) fun x21 =>
      p_bd (F_Mo_isTaker x21 s14) fun r26 s22 =>
      p_bd (F_Mo_isTaker v2 s22) fun r31 s27 =>
      if r26 = r31 then
        p_bd (F_Mo_loadOf v0 r18 s27) fun r37 s33 =>
        if r37 ≤ 0 then
          p_bv (F_Mo_fresh v0 r18 v2 s33) fun s39 =>
          p_bd (F_Mo_built v0 x21 s39) fun r47 s43 =>
          some (r47, s43)
        else
          p_bd (F_Mo_refused v0 (-3) s33) fun r52 s48 =>
          some (r52, s48)
      else
        p_bd (F_Mo_faulted v0 2 s27) fun r57 s53 =>
        some (r57, s53)
    else
      p_bd (F_Mo_refused v0 (-2) s8) fun r62 s58 =>
      some (r62, s58)
  else
    p_bd (F_Mo_refused v0 (-1) s2) fun r67 s63 =>
    some (r67, s63)
set_option maxRecDepth 100000 in
set_option maxHeartbeats 4000000 in
theorem tF_Mo_refit (K : p_K) (l : Launch) (v0 : Nat) (v1 : Int) (v2 : Int) (s0 : p_Hp) (r : (Int × p_Hp)) (h : F_Mo_refit v0 v1 v2 s0 = some r) : p_Ct K l m_Mo_refit [p_r v0, p_i v1, p_i v2] s0 (some (p_i r.1), r.2) := by
  refine p_Ct.of (by decide +kernel) (Nat.le_of_ble_eq_true rfl) ?_
  unfold F_Mo_refit at h
  show p_Go K l m_Mo_refit 0 [(0, p_r v0), (1, p_i v1), (2, p_i v2)] [] s0 _
  refine g_aload_n (i := 0) (j := 0) (dk_Mo_refit 0 rfl) rfl rfl ?_
  refine g_iload_n (i := 1) (j := 1) (dk_Mo_refit 1 rfl) rfl rfl ?_
  obtain ⟨c1, h⟩ := p_gdE h
  obtain ⟨r6, s2, q3, h⟩ := p_bdE h
  have t4 := tF_Mo_noGear K l v0 v1 s0 _ q3
  refine g_callV (a := v0) (ci := 11) (q0 := (RX11, TX11, 90)) (As := [p_i v1]) (rest := []) [p_i r6] mt_Mo_noGear rfl rfl tw_7_106 ts_48 tw_7_104 ⟨Nat.le_of_ble_eq_true rfl, Nat.le_of_ble_eq_true rfl⟩ rfl (Nat.le_of_ble_eq_true rfl) (dk_Mo_refit 2 rfl) rfl c1 rfl t4 ?_
  have hs5 : p_x s0 s2 := t4.1
  show p_Go K l m_Mo_refit 5 [(0, p_r v0), (1, p_i v1), (2, p_i v2)] [p_i r6] s2 _
  refine g_if_eq 14 (dk_Mo_refit 3 rfl) (by decide) (fun b7 => ?_) (fun b7 => ?_)
  · have h := p_ifT b7 h
    refine g_iload_n (i := 2) (j := 2) (dk_Mo_refit 8 rfl) rfl rfl ?_
    refine g_i2l (dk_Mo_refit 9 rfl) ?_
    refine g_lconst (x := 0) (dk_Mo_refit 10 rfl) rfl (by decide) ?_
    refine g_ldc2_w (x := 10) (dk_Mo_refit 11 rfl) tw_7_77 (by decide) (by decide) ?_
    obtain ⟨r12, s8, q9, h⟩ := p_bdE h
    have t10 := tF_Mo_beyond K l v2 0 10 s2 _ q9
    refine g_callS (av := [p_j v2, p_j 0, p_j 10]) (rest := []) [p_i r12] mt_Mo_beyond tw_7_63 tw_7_62 ⟨Nat.le_of_ble_eq_true rfl, Nat.le_of_ble_eq_true rfl⟩ rfl (Nat.le_of_ble_eq_true rfl) (dk_Mo_refit 12 rfl) rfl rfl t10 ?_
    have hs11 : p_x s2 s8 := t10.1
    show p_Go K l m_Mo_refit 23 [(0, p_r v0), (1, p_i v1), (2, p_i v2)] [p_i r12] s8 _
    refine g_if_eq 33 (dk_Mo_refit 13 rfl) (by decide) (fun b13 => ?_) (fun b13 => ?_)
    · have h := p_ifT b13 h
      refine g_aload_n (i := 0) (j := 0) (dk_Mo_refit 18 rfl) rfl rfl ?_
      refine g_iload_n (i := 1) (j := 1) (dk_Mo_refit 19 rfl) rfl rfl ?_
      obtain ⟨r18, s14, q15, h⟩ := p_bdE h
      have t16 := tF_Mo_g K l v0 v1 s8 _ q15
      refine g_callV (a := v0) (ci := 11) (q0 := (RX11, TX11, 90)) (As := [p_i v1]) (rest := []) [p_i r18] mt_Mo_g rfl rfl tw_7_84 ts_45 tw_7_82 ⟨Nat.le_of_ble_eq_true rfl, Nat.le_of_ble_eq_true rfl⟩ rfl (Nat.le_of_ble_eq_true rfl) (dk_Mo_refit 20 rfl) rfl (c1.up (hs5.trans hs11)) rfl t16 ?_
      have hs17 : p_x s8 s14 := t16.1
      show p_Go K l m_Mo_refit 38 [(0, p_r v0), (1, p_i v1), (2, p_i v2)] [p_i r18] s14 _
      refine g_istore_n (i := 3) [(3, p_i r18), (0, p_r v0), (1, p_i v1), (2, p_i v2)] (dk_Mo_refit 21 rfl) rfl (by decide) rfl ?_
      refine g_aload_n (i := 0) (j := 1) (dk_Mo_refit 22 rfl) rfl rfl ?_
      refine g_getR fl_Mo_16 (Or.inr ⟨_, rfl⟩) (dk_Mo_refit 23 rfl) (c1.up (hs5.trans (hs11.trans hs17))) ?_
      refine g_iload_n (i := 3) (j := 0) (dk_Mo_refit 24 rfl) rfl rfl ?_
      obtain ⟨c19, h⟩ := p_gdE h
      obtain ⟨c20, h⟩ := p_gdE h
      refine g_iaload (dk_Mo_refit 25 rfl) c19 c20.1 c20.2 ?_
      refine g_istore [(4, p_i (p_Z s14 (p_R s14 v0 5) (r18 : Int).toNat)), (3, p_i r18), (0, p_r v0), (1, p_i v1), (2, p_i v2)] (dk_Mo_refit 26 rfl) (by decide) rfl ?_
      refine p_ltG (P := fun q => p_Go K l m_Mo_refit 47 [(4, p_i q), (3, p_i r18), (0, p_r v0), (1, p_i v1), (2, p_i v2)] [] s14 _) ?_ h
      intro x21 h
      refine g_iload (j := 0) (dk_Mo_refit 27 rfl) rfl ?_
      obtain ⟨r26, s22, q23, h⟩ := p_bdE h
      have t24 := tF_Mo_isTaker K l x21 s14 _ q23
      refine g_callS (av := [p_i x21]) (rest := []) [p_i r26] mt_Mo_isTaker tw_7_79 tw_7_78 ⟨Nat.le_of_ble_eq_true rfl, Nat.le_of_ble_eq_true rfl⟩ rfl (Nat.le_of_ble_eq_true rfl) (dk_Mo_refit 28 rfl) rfl rfl t24 ?_
      have hs25 : p_x s14 s22 := t24.1
      show p_Go K l m_Mo_refit 52 [(4, p_i x21), (3, p_i r18), (0, p_r v0), (1, p_i v1), (2, p_i v2)] [p_i r26] s22 _
      refine g_iload_n (i := 2) (j := 4) (dk_Mo_refit 29 rfl) rfl rfl ?_
      obtain ⟨r31, s27, q28, h⟩ := p_bdE h
      have t29 := tF_Mo_isTaker K l v2 s22 _ q28
      refine g_callS (av := [p_i v2]) (rest := [p_i r26]) [p_i r31, p_i r26] mt_Mo_isTaker tw_7_79 tw_7_78 ⟨Nat.le_of_ble_eq_true rfl, Nat.le_of_ble_eq_true rfl⟩ rfl (Nat.le_of_ble_eq_true rfl) (dk_Mo_refit 30 rfl) rfl rfl t29 ?_
      have hs30 : p_x s22 s27 := t29.1
      show p_Go K l m_Mo_refit 56 [(4, p_i x21), (3, p_i r18), (0, p_r v0), (1, p_i v1), (2, p_i v2)] [p_i r31, p_i r26] s27 _
      refine g_icmp_eq 65 (dk_Mo_refit 31 rfl) (by decide) (fun b32 => ?_) (fun b32 => ?_)
      · have h := p_ifT b32 h
        refine g_aload_n (i := 0) (j := 2) (dk_Mo_refit 36 rfl) rfl rfl ?_
        refine g_iload_n (i := 3) (j := 1) (dk_Mo_refit 37 rfl) rfl rfl ?_
        obtain ⟨r37, s33, q34, h⟩ := p_bdE h
        have t35 := tF_Mo_loadOf K l v0 r18 s27 _ q34
        refine g_callV (a := v0) (ci := 11) (q0 := (RX11, TX11, 90)) (As := [p_i r18]) (rest := []) [p_i r37] mt_Mo_loadOf rfl rfl tw_7_136 ts_50 tw_7_134 ⟨Nat.le_of_ble_eq_true rfl, Nat.le_of_ble_eq_true rfl⟩ rfl (Nat.le_of_ble_eq_true rfl) (dk_Mo_refit 38 rfl) rfl (c1.up (hs5.trans (hs11.trans (hs17.trans (hs25.trans hs30))))) rfl t35 ?_
        have hs36 : p_x s27 s33 := t35.1
        show p_Go K l m_Mo_refit 70 [(4, p_i x21), (3, p_i r18), (0, p_r v0), (1, p_i v1), (2, p_i v2)] [p_i r37] s33 _
        refine g_if_le 80 (dk_Mo_refit 39 rfl) (by decide) (fun b38 => ?_) (fun b38 => ?_)
        · have h := p_ifT b38 h
          refine g_aload_n (i := 0) (j := 2) (dk_Mo_refit 44 rfl) rfl rfl ?_
          refine g_iload_n (i := 3) (j := 1) (dk_Mo_refit 45 rfl) rfl rfl ?_
          refine g_iload_n (i := 2) (j := 4) (dk_Mo_refit 46 rfl) rfl rfl ?_
          obtain ⟨s39, q40, h⟩ := p_bvE h
          have t41 := tF_Mo_fresh K l v0 r18 v2 s33 _ q40
          refine g_callV (a := v0) (ci := 11) (q0 := (RX11, TX11, 90)) (As := [p_i r18, p_i v2]) (rest := []) [] mt_Mo_fresh rfl rfl tw_7_88 ts_46 tw_7_86 ⟨Nat.le_of_ble_eq_true rfl, Nat.le_of_ble_eq_true rfl⟩ rfl (Nat.le_of_ble_eq_true rfl) (dk_Mo_refit 47 rfl) rfl (c1.up (hs5.trans (hs11.trans (hs17.trans (hs25.trans (hs30.trans hs36)))))) rfl t41 ?_
          have hs42 : p_x s33 s39 := t41.1
          show p_Go K l m_Mo_refit 86 [(4, p_i x21), (3, p_i r18), (0, p_r v0), (1, p_i v1), (2, p_i v2)] [] s39 _
          refine g_aload_n (i := 0) (j := 2) (dk_Mo_refit 48 rfl) rfl rfl ?_
          refine g_iload (j := 0) (dk_Mo_refit 49 rfl) rfl ?_
          obtain ⟨r47, s43, q44, h⟩ := p_bdE h
          have t45 := tF_Mo_built K l v0 x21 s39 _ q44
          refine g_callV (a := v0) (ci := 11) (q0 := (RX11, TX11, 90)) (As := [p_i x21]) (rest := []) [p_i r47] mt_Mo_built rfl rfl tw_7_98 ts_47 tw_7_96 ⟨Nat.le_of_ble_eq_true rfl, Nat.le_of_ble_eq_true rfl⟩ rfl (Nat.le_of_ble_eq_true rfl) (dk_Mo_refit 50 rfl) rfl (c1.up (hs5.trans (hs11.trans (hs17.trans (hs25.trans (hs30.trans (hs36.trans hs42))))))) rfl t45 ?_
          have hs46 : p_x s39 s43 := t45.1
          show p_Go K l m_Mo_refit 92 [(4, p_i x21), (3, p_i r18), (0, p_r v0), (1, p_i v1), (2, p_i v2)] [p_i r47] s43 _
          cases h
          exact g_ret rfl rfl (dk_Mo_refit 51 rfl) (fun os => ⟨_, rfl, p_okh os⟩)
        · have h := p_ifF b38 h
          refine g_aload_n (i := 0) (j := 2) (dk_Mo_refit 40 rfl) rfl rfl ?_
          refine g_bipush (dk_Mo_refit 41 rfl) (by decide +kernel) (by decide) ?_
          obtain ⟨r52, s48, q49, h⟩ := p_bdE h
          have t50 := tF_Mo_refused K l v0 (-3) s33 _ q49
          refine g_callV (a := v0) (ci := 11) (q0 := (RX11, TX11, 90)) (As := [p_i (-3)]) (rest := []) [p_i r52] mt_Mo_refused rfl rfl tw_7_67 ts_43 tw_7_65 ⟨Nat.le_of_ble_eq_true rfl, Nat.le_of_ble_eq_true rfl⟩ rfl (Nat.le_of_ble_eq_true rfl) (dk_Mo_refit 42 rfl) rfl (c1.up (hs5.trans (hs11.trans (hs17.trans (hs25.trans (hs30.trans hs36)))))) rfl t50 ?_
          have hs51 : p_x s33 s48 := t50.1
          show p_Go K l m_Mo_refit 79 [(4, p_i x21), (3, p_i r18), (0, p_r v0), (1, p_i v1), (2, p_i v2)] [p_i r52] s48 _
          cases h
          exact g_ret rfl rfl (dk_Mo_refit 43 rfl) (fun os => ⟨_, rfl, p_okh os⟩)
      · have h := p_ifF b32 h
        refine g_aload_n (i := 0) (j := 2) (dk_Mo_refit 32 rfl) rfl rfl ?_
        refine g_iconst (dk_Mo_refit 33 rfl) (by decide) ?_
        obtain ⟨r57, s53, q54, h⟩ := p_bdE h
        have t55 := tF_Mo_faulted K l v0 2 s27 _ q54
        refine g_callV (a := v0) (ci := 11) (q0 := (RX11, TX11, 90)) (As := [p_i 2]) (rest := []) [p_i r57] mt_Mo_faulted rfl rfl tw_7_110 ts_49 tw_7_108 ⟨Nat.le_of_ble_eq_true rfl, Nat.le_of_ble_eq_true rfl⟩ rfl (Nat.le_of_ble_eq_true rfl) (dk_Mo_refit 34 rfl) rfl (c1.up (hs5.trans (hs11.trans (hs17.trans (hs25.trans hs30))))) rfl t55 ?_
        have hs56 : p_x s27 s53 := t55.1
        show p_Go K l m_Mo_refit 64 [(4, p_i x21), (3, p_i r18), (0, p_r v0), (1, p_i v1), (2, p_i v2)] [p_i r57] s53 _
        cases h
        exact g_ret rfl rfl (dk_Mo_refit 35 rfl) (fun os => ⟨_, rfl, p_okh os⟩)
    · have h := p_ifF b13 h
      refine g_aload_n (i := 0) (j := 0) (dk_Mo_refit 14 rfl) rfl rfl ?_
      refine g_bipush (dk_Mo_refit 15 rfl) (by decide +kernel) (by decide) ?_
      obtain ⟨r62, s58, q59, h⟩ := p_bdE h
      have t60 := tF_Mo_refused K l v0 (-2) s8 _ q59
      refine g_callV (a := v0) (ci := 11) (q0 := (RX11, TX11, 90)) (As := [p_i (-2)]) (rest := []) [p_i r62] mt_Mo_refused rfl rfl tw_7_67 ts_43 tw_7_65 ⟨Nat.le_of_ble_eq_true rfl, Nat.le_of_ble_eq_true rfl⟩ rfl (Nat.le_of_ble_eq_true rfl) (dk_Mo_refit 16 rfl) rfl (c1.up (hs5.trans hs11)) rfl t60 ?_
      have hs61 : p_x s8 s58 := t60.1
      show p_Go K l m_Mo_refit 32 [(0, p_r v0), (1, p_i v1), (2, p_i v2)] [p_i r62] s58 _
      cases h
      exact g_ret rfl rfl (dk_Mo_refit 17 rfl) (fun os => ⟨_, rfl, p_okh os⟩)
  · have h := p_ifF b7 h
    refine g_aload_n (i := 0) (j := 0) (dk_Mo_refit 4 rfl) rfl rfl ?_
    refine g_iconst (dk_Mo_refit 5 rfl) (by decide) ?_
    obtain ⟨r67, s63, q64, h⟩ := p_bdE h
    have t65 := tF_Mo_refused K l v0 (-1) s2 _ q64
    refine g_callV (a := v0) (ci := 11) (q0 := (RX11, TX11, 90)) (As := [p_i (-1)]) (rest := []) [p_i r67] mt_Mo_refused rfl rfl tw_7_67 ts_43 tw_7_65 ⟨Nat.le_of_ble_eq_true rfl, Nat.le_of_ble_eq_true rfl⟩ rfl (Nat.le_of_ble_eq_true rfl) (dk_Mo_refit 6 rfl) rfl (c1.up hs5) rfl t65 ?_
    have hs66 : p_x s2 s63 := t65.1
    show p_Go K l m_Mo_refit 13 [(0, p_r v0), (1, p_i v1), (2, p_i v2)] [p_i r67] s63 _
    cases h
    exact g_ret rfl rfl (dk_Mo_refit 7 rfl) (fun os => ⟨_, rfl, p_okh os⟩)
def m_Mo_copyGear : p_Me := (⟨"SortWorksModel", "copyGear", "(II)V"⟩, prog_13_method_25_code, 4, none, 3, 62)
theorem mt_Mo_copyGear : p_Mt m_Mo_copyGear 2 := ⟨p_mem (p_tb7 (List.mem_of_getElem? (i := 145) rfl)) rfl, tw_1_12, by decide +kernel, by decide +kernel, by decide +kernel⟩
def dt_Mo_copyGear : List (Nat × Instr × Nat) := [(0, .aload_n 0, 1), (1, .iload_n 2, 1), (2, .aload_n 0, 1), (3, .getfield 16, 3), (6, .iload_n 1, 1), (7, .iaload, 1), (8, .invokevirtual 260, 3), (11, .aload_n 0, 1), (12, .getfield 19, 3), (15, .iload_n 2, 1), (16, .aload_n 0, 1), (17, .getfield 19, 3), (20, .iload_n 1, 1), (21, .iaload, 1), (22, .iastore, 1), (23, .aload_n 0, 1), (24, .getfield 22, 3), (27, .iload_n 2, 1), (28, .aload_n 0, 1), (29, .getfield 22, 3), (32, .iload_n 1, 1), (33, .iaload, 1), (34, .iastore, 1), (35, .aload_n 0, 1), (36, .getfield 28, 3), (39, .iload_n 2, 1), (40, .aload_n 0, 1), (41, .getfield 28, 3), (44, .iload_n 1, 1), (45, .iaload, 1), (46, .iastore, 1), (47, .aload_n 0, 1), (48, .getfield 44, 3), (51, .iload_n 2, 1), (52, .aload_n 0, 1), (53, .getfield 44, 3), (56, .iload_n 1, 1), (57, .baload, 1), (58, .bastore, 1), (59, .iconst 0, 1), (60, .istore_n 3, 1), (61, .iload_n 3, 1), (62, .iconst 3, 1), (63, .if_icmp .ge 29, 3), (66, .aload_n 0, 1), (67, .getfield 25, 3), (70, .iconst 3, 1), (71, .iload_n 2, 1), (72, .imul, 1), (73, .iload_n 3, 1), (74, .iadd, 1), (75, .aload_n 0, 1), (76, .getfield 25, 3), (79, .iconst 3, 1), (80, .iload_n 1, 1), (81, .imul, 1), (82, .iload_n 3, 1), (83, .iadd, 1), (84, .iaload, 1), (85, .iastore, 1), (86, .iinc 3 1, 3), (89, .goto (-28), 3), (92, .iconst 0, 1), (93, .istore_n 3, 1), (94, .iload_n 3, 1), (95, .iconst 2, 1), (96, .if_icmp .ge 29, 3), (99, .aload_n 0, 1), (100, .getfield 34, 3), (103, .iconst 2, 1), (104, .iload_n 2, 1), (105, .imul, 1), (106, .iload_n 3, 1), (107, .iadd, 1), (108, .aload_n 0, 1), (109, .getfield 34, 3), (112, .iconst 2, 1), (113, .iload_n 1, 1), (114, .imul, 1), (115, .iload_n 3, 1), (116, .iadd, 1), (117, .laload, 1), (118, .lastore, 1), (119, .iinc 3 1, 3), (122, .goto (-28), 3), (125, .iconst 0, 1), (126, .istore_n 3, 1), (127, .iload_n 3, 1), (128, .bipush 8, 2), (130, .if_icmp .ge 21, 3), (133, .aload_n 0, 1), (134, .getfield 69, 3), (137, .bipush 8, 2), (139, .iload_n 2, 1), (140, .imul, 1), (141, .iload_n 3, 1), (142, .iadd, 1), (143, .iconst 0, 1), (144, .iastore, 1), (145, .iinc 3 1, 3), (148, .goto (-21), 3), (151, .return_, 1)]
theorem dk_Mo_copyGear (i : Nat) {pc : Nat} {ins : Instr} {len : Nat} (h : dt_Mo_copyGear[i]? = some (pc, ins, len)) : decode m_Mo_copyGear.2.1 pc = .ok (ins, len) := p_dk (b := m_Mo_copyGear.2.1) (t := dt_Mo_copyGear) (by decide +kernel) i h
def L_Mo_copyGear_127 (k127 : Nat → Int → Int → p_Hp → Option p_Hp) (v0 : Nat) (v2 : Int) (v3 : Int) (s0 : p_Hp) : Option p_Hp :=
  if 8 ≤ v3 then
    some s0
  else
    p_gd (p_is s0 v0 11) <|
    p_gd (p_is s0 (p_R s0 v0 22) 100) <|
    p_gd ((0 : Int) ≤ (p_w ((p_w (8 * v2)) + v3)) ∧ (p_w ((p_w (8 * v2)) + v3)) < (p_L s0 (p_R s0 v0 22) : Int)) <|
    p_bi (p_wZ s0 (p_R s0 v0 22) ((p_w ((p_w (8 * v2)) + v3)) : Int).toNat 0) fun s5 =>
    p_bi (p_w (v3 + 1)) fun x7 =>
    k127 v0 v2 x7 s5
def O_Mo_copyGear_127  : Nat → Nat → Int → Int → p_Hp → Option p_Hp
  | 0 => fun _ _ _ _ => none
  | n + 1 => L_Mo_copyGear_127 (O_Mo_copyGear_127 n)
def L_Mo_copyGear_94 (k94 : Nat → Int → Int → Int → p_Hp → Option p_Hp) (v0 : Nat) (v1 : Int) (v2 : Int) (v3 : Int) (s0 : p_Hp) : Option p_Hp :=
  if 2 ≤ v3 then
    O_Mo_copyGear_127 3000 v0 v2 0 s0
  else
    p_gd (p_is s0 v0 11) <|
    p_gd (p_is s0 (p_R s0 v0 11) 101) <|
    p_gd ((0 : Int) ≤ (p_w ((p_w (2 * v1)) + v3)) ∧ (p_w ((p_w (2 * v1)) + v3)) < (p_L s0 (p_R s0 v0 11) : Int)) <|
    p_gd ((0 : Int) ≤ (p_w ((p_w (2 * v2)) + v3)) ∧ (p_w ((p_w (2 * v2)) + v3)) < (p_L s0 (p_R s0 v0 11) : Int)) <|
    p_bi (p_wZ s0 (p_R s0 v0 11) ((p_w ((p_w (2 * v2)) + v3)) : Int).toNat (p_Z s0 (p_R s0 v0 11) ((p_w ((p_w (2 * v1)) + v3)) : Int).toNat)) fun s6 =>
    p_bi (p_w (v3 + 1)) fun x8 =>
    k94 v0 v1 v2 x8 s6
def O_Mo_copyGear_94  : Nat → Nat → Int → Int → Int → p_Hp → Option p_Hp
  | 0 => fun _ _ _ _ _ => none
  | n + 1 => L_Mo_copyGear_94 (O_Mo_copyGear_94 n)
def L_Mo_copyGear_61 (k61 : Nat → Int → Int → Int → p_Hp → Option p_Hp) (v0 : Nat) (v1 : Int) (v2 : Int) (v3 : Int) (s0 : p_Hp) : Option p_Hp :=
  if 3 ≤ v3 then
    O_Mo_copyGear_94 3000 v0 v1 v2 0 s0
  else
    p_gd (p_is s0 v0 11) <|
    p_gd (p_is s0 (p_R s0 v0 8) 100) <|
    p_gd ((0 : Int) ≤ (p_w ((p_w (3 * v1)) + v3)) ∧ (p_w ((p_w (3 * v1)) + v3)) < (p_L s0 (p_R s0 v0 8) : Int)) <|
    p_gd ((0 : Int) ≤ (p_w ((p_w (3 * v2)) + v3)) ∧ (p_w ((p_w (3 * v2)) + v3)) < (p_L s0 (p_R s0 v0 8) : Int)) <|
    p_bi (p_wZ s0 (p_R s0 v0 8) ((p_w ((p_w (3 * v2)) + v3)) : Int).toNat (p_Z s0 (p_R s0 v0 8) ((p_w ((p_w (3 * v1)) + v3)) : Int).toNat)) fun s6 =>
    p_bi (p_w (v3 + 1)) fun x8 =>
    k61 v0 v1 v2 x8 s6
def O_Mo_copyGear_61  : Nat → Nat → Int → Int → Int → p_Hp → Option p_Hp
  | 0 => fun _ _ _ _ _ => none
  | n + 1 => L_Mo_copyGear_61 (O_Mo_copyGear_61 n)
def F_Mo_copyGear (v0 : Nat) (v1 : Int) (v2 : Int) (s0 : p_Hp) : Option p_Hp :=
  p_gd (p_is s0 v0 11) <|
  p_gd (p_is s0 (p_R s0 v0 5) 100) <|
  p_gd ((0 : Int) ≤ v1 ∧ v1 < (p_L s0 (p_R s0 v0 5) : Int)) <|
  p_bv (F_Mo_fresh v0 v2 (p_Z s0 (p_R s0 v0 5) (v1 : Int).toNat) s0) fun s4 =>
  p_gd (p_is s4 (p_R s4 v0 6) 100) <|
  p_gd ((0 : Int) ≤ v1 ∧ v1 < (p_L s4 (p_R s4 v0 6) : Int)) <|
  p_gd ((0 : Int) ≤ v2 ∧ v2 < (p_L s4 (p_R s4 v0 6) : Int)) <|
  p_bi (p_wZ s4 (p_R s4 v0 6) (v2 : Int).toNat (p_Z s4 (p_R s4 v0 6) (v1 : Int).toNat)) fun s11 =>
  p_gd (p_is s11 (p_R s11 v0 7) 100) <|
  p_gd ((0 : Int) ≤ v1 ∧ v1 < (p_L s11 (p_R s11 v0 7) : Int)) <|
  p_gd ((0 : Int) ≤ v2 ∧ v2 < (p_L s11 (p_R s11 v0 7) : Int)) <|
  p_bi (p_wZ s11 (p_R s11 v0 7) (v2 : Int).toNat (p_Z s11 (p_R s11 v0 7) (v1 : Int).toNat)) fun s16 =>
  p_gd (p_is s16 (p_R s16 v0 9) 100) <|
  p_gd ((0 : Int) ≤ v1 ∧ v1 < (p_L s16 (p_R s16 v0 9) : Int)) <|
  p_gd ((0 : Int) ≤ v2 ∧ v2 < (p_L s16 (p_R s16 v0 9) : Int)) <|
  p_bi (p_wZ s16 (p_R s16 v0 9) (v2 : Int).toNat (p_Z s16 (p_R s16 v0 9) (v1 : Int).toNat)) fun s21 =>
  p_gd (p_is s21 (p_R s21 v0 14) 102) <|
  p_gd ((0 : Int) ≤ v1 ∧ v1 < (p_L s21 (p_R s21 v0 14) : Int)) <|
  p_gd ((0 : Int) ≤ v2 ∧ v2 < (p_L s21 (p_R s21 v0 14) : Int)) <|
  p_gd ((p_Z s21 (p_R s21 v0 14) (v1 : Int).toNat) = 0 ∨ (p_Z s21 (p_R s21 v0 14) (v1 : Int).toNat) = 1) <|
  p_bi (p_wZ s21 (p_R s21 v0 14) (v2 : Int).toNat (p_Z s21 (p_R s21 v0 14) (v1 : Int).toNat)) fun s27 =>
  O_Mo_copyGear_61 3000 v0 v1 v2 0 s27
set_option maxRecDepth 100000 in
set_option maxHeartbeats 4000000 in
theorem tL_Mo_copyGear_127 (K : p_K) (l : Launch) (k127 : Nat → Int → Int → p_Hp → Option p_Hp) (hk127 : ∀ (v0 : Nat) (v2 : Int) (v3 : Int)  (s0 : p_Hp) (r : p_Hp), k127 v0 v2 v3 s0 = some r → p_Go K l m_Mo_copyGear 127 [(0, p_r v0), (2, p_i v2), (3, p_i v3)] [] s0 (none, r)) (v0 : Nat) (v2 : Int) (v3 : Int) (s0 : p_Hp) (r : p_Hp) (h : L_Mo_copyGear_127 k127 v0 v2 v3 s0 = some r) : p_Go K l m_Mo_copyGear 127 [(0, p_r v0), (2, p_i v2), (3, p_i v3)] [] s0 (none, r) := by
  unfold L_Mo_copyGear_127 at h
  refine g_iload_n (i := 3) (j := 2) (dk_Mo_copyGear 87 rfl) rfl rfl ?_
  refine g_bipush (dk_Mo_copyGear 88 rfl) (by decide +kernel) (by decide) ?_
  refine g_icmp_ge 151 (dk_Mo_copyGear 89 rfl) (by decide) (fun b1 => ?_) (fun b1 => ?_)
  · have h := p_ifT b1 h
    cases h
    exact g_ret rfl rfl (dk_Mo_copyGear 101 rfl) (fun _ => rfl)
  · have h := p_ifF b1 h
    refine g_aload_n (i := 0) (j := 0) (dk_Mo_copyGear 90 rfl) rfl rfl ?_
    obtain ⟨c2, h⟩ := p_gdE h
    refine g_getR fl_Mo_69 (Or.inr ⟨_, rfl⟩) (dk_Mo_copyGear 91 rfl) c2 ?_
    refine g_bipush (dk_Mo_copyGear 92 rfl) (by decide +kernel) (by decide) ?_
    refine g_iload_n (i := 2) (j := 1) (dk_Mo_copyGear 93 rfl) rfl rfl ?_
    refine g_imul (dk_Mo_copyGear 94 rfl) ?_
    refine g_iload_n (i := 3) (j := 2) (dk_Mo_copyGear 95 rfl) rfl rfl ?_
    refine g_iadd (dk_Mo_copyGear 96 rfl) ?_
    refine g_iconst (dk_Mo_copyGear 97 rfl) (by decide) ?_
    obtain ⟨c3, h⟩ := p_gdE h
    obtain ⟨c4, h⟩ := p_gdE h
    refine g_iastore (dk_Mo_copyGear 98 rfl) c3 c4.1 c4.2 ?_
    refine p_ltS (P := fun q => p_Go K l m_Mo_copyGear 145 [(0, p_r v0), (2, p_i v2), (3, p_i v3)] [] q _) (p_xZ _ _ _ _) ?_ h
    intro s5 hs6 h
    refine g_iinc (j := 2) [(3, p_i (p_w (v3 + 1))), (0, p_r v0), (2, p_i v2)] (dk_Mo_copyGear 99 rfl) rfl (by decide) rfl ?_
    refine p_ltG (P := fun q => p_Go K l m_Mo_copyGear 148 [(3, p_i q), (0, p_r v0), (2, p_i v2)] [] s5 _) ?_ h
    intro x7 h
    refine g_goto 127 (dk_Mo_copyGear 100 rfl) (by decide) ?_
    refine g_sub [(0, p_r v0), (2, p_i v2), (3, p_i x7)] [1, 2, 0] rfl ?_
    exact hk127 v0 v2 x7 s5 _ h
set_option maxRecDepth 100000 in
set_option maxHeartbeats 4000000 in
theorem tO_Mo_copyGear_127 (K : p_K) (l : Launch)  : ∀ (n : Nat) (v0 : Nat) (v2 : Int) (v3 : Int) (s0 : p_Hp) (r : p_Hp), O_Mo_copyGear_127 n v0 v2 v3 s0 = some r → p_Go K l m_Mo_copyGear 127 [(0, p_r v0), (2, p_i v2), (3, p_i v3)] [] s0 (none, r) := by
  intro n
  induction n with
  | zero => intro v0 v2 v3 s0 r h; cases (show (none : Option p_Hp) = some r from h)
  | succ n ih => intro v0 v2 v3 s0 r h; exact tL_Mo_copyGear_127 K l _ ih v0 v2 v3 s0 r h
set_option maxRecDepth 100000 in
set_option maxHeartbeats 4000000 in
theorem tL_Mo_copyGear_94 (K : p_K) (l : Launch) (k94 : Nat → Int → Int → Int → p_Hp → Option p_Hp) (hk94 : ∀ (v0 : Nat) (v1 : Int) (v2 : Int) (v3 : Int)  (s0 : p_Hp) (r : p_Hp), k94 v0 v1 v2 v3 s0 = some r → p_Go K l m_Mo_copyGear 94 [(0, p_r v0), (1, p_i v1), (2, p_i v2), (3, p_i v3)] [] s0 (none, r)) (v0 : Nat) (v1 : Int) (v2 : Int) (v3 : Int) (s0 : p_Hp) (r : p_Hp) (h : L_Mo_copyGear_94 k94 v0 v1 v2 v3 s0 = some r) : p_Go K l m_Mo_copyGear 94 [(0, p_r v0), (1, p_i v1), (2, p_i v2), (3, p_i v3)] [] s0 (none, r) := by
  unfold L_Mo_copyGear_94 at h
  refine g_iload_n (i := 3) (j := 3) (dk_Mo_copyGear 64 rfl) rfl rfl ?_
  refine g_iconst (dk_Mo_copyGear 65 rfl) (by decide) ?_
  refine g_icmp_ge 125 (dk_Mo_copyGear 66 rfl) (by decide) (fun b1 => ?_) (fun b1 => ?_)
  · have h := p_ifT b1 h
    refine g_iconst (dk_Mo_copyGear 85 rfl) (by decide) ?_
    refine g_istore_n (i := 3) [(3, p_i 0), (0, p_r v0), (1, p_i v1), (2, p_i v2)] (dk_Mo_copyGear 86 rfl) rfl (by decide) rfl ?_
    refine g_sub [(0, p_r v0), (2, p_i v2), (3, p_i 0)] [1, 3, 0] rfl ?_
    exact tO_Mo_copyGear_127 K l 3000 v0 v2 0 s0 _ h
  · have h := p_ifF b1 h
    refine g_aload_n (i := 0) (j := 0) (dk_Mo_copyGear 67 rfl) rfl rfl ?_
    obtain ⟨c2, h⟩ := p_gdE h
    refine g_getR fl_Mo_34 (Or.inr ⟨_, rfl⟩) (dk_Mo_copyGear 68 rfl) c2 ?_
    refine g_iconst (dk_Mo_copyGear 69 rfl) (by decide) ?_
    refine g_iload_n (i := 2) (j := 2) (dk_Mo_copyGear 70 rfl) rfl rfl ?_
    refine g_imul (dk_Mo_copyGear 71 rfl) ?_
    refine g_iload_n (i := 3) (j := 3) (dk_Mo_copyGear 72 rfl) rfl rfl ?_
    refine g_iadd (dk_Mo_copyGear 73 rfl) ?_
    refine g_aload_n (i := 0) (j := 0) (dk_Mo_copyGear 74 rfl) rfl rfl ?_
    refine g_getR fl_Mo_34 (Or.inr ⟨_, rfl⟩) (dk_Mo_copyGear 75 rfl) c2 ?_
    refine g_iconst (dk_Mo_copyGear 76 rfl) (by decide) ?_
    refine g_iload_n (i := 1) (j := 1) (dk_Mo_copyGear 77 rfl) rfl rfl ?_
    refine g_imul (dk_Mo_copyGear 78 rfl) ?_
    refine g_iload_n (i := 3) (j := 3) (dk_Mo_copyGear 79 rfl) rfl rfl ?_
    refine g_iadd (dk_Mo_copyGear 80 rfl) ?_
    obtain ⟨c3, h⟩ := p_gdE h
    obtain ⟨c4, h⟩ := p_gdE h
    refine g_laload (dk_Mo_copyGear 81 rfl) c3 c4.1 c4.2 ?_
    obtain ⟨c5, h⟩ := p_gdE h
    refine g_lastore (dk_Mo_copyGear 82 rfl) c3 c5.1 c5.2 ?_
    refine p_ltS (P := fun q => p_Go K l m_Mo_copyGear 119 [(0, p_r v0), (1, p_i v1), (2, p_i v2), (3, p_i v3)] [] q _) (p_xZ _ _ _ _) ?_ h
    intro s6 hs7 h
    refine g_iinc (j := 3) [(3, p_i (p_w (v3 + 1))), (0, p_r v0), (1, p_i v1), (2, p_i v2)] (dk_Mo_copyGear 83 rfl) rfl (by decide) rfl ?_
    refine p_ltG (P := fun q => p_Go K l m_Mo_copyGear 122 [(3, p_i q), (0, p_r v0), (1, p_i v1), (2, p_i v2)] [] s6 _) ?_ h
    intro x8 h
    refine g_goto 94 (dk_Mo_copyGear 84 rfl) (by decide) ?_
    refine g_sub [(0, p_r v0), (1, p_i v1), (2, p_i v2), (3, p_i x8)] [1, 2, 3, 0] rfl ?_
    exact hk94 v0 v1 v2 x8 s6 _ h
set_option maxRecDepth 100000 in
set_option maxHeartbeats 4000000 in
theorem tO_Mo_copyGear_94 (K : p_K) (l : Launch)  : ∀ (n : Nat) (v0 : Nat) (v1 : Int) (v2 : Int) (v3 : Int) (s0 : p_Hp) (r : p_Hp), O_Mo_copyGear_94 n v0 v1 v2 v3 s0 = some r → p_Go K l m_Mo_copyGear 94 [(0, p_r v0), (1, p_i v1), (2, p_i v2), (3, p_i v3)] [] s0 (none, r) := by
  intro n
  induction n with
  | zero => intro v0 v1 v2 v3 s0 r h; cases (show (none : Option p_Hp) = some r from h)
  | succ n ih => intro v0 v1 v2 v3 s0 r h; exact tL_Mo_copyGear_94 K l _ ih v0 v1 v2 v3 s0 r h
set_option maxRecDepth 100000 in
set_option maxHeartbeats 4000000 in
theorem tL_Mo_copyGear_61 (K : p_K) (l : Launch) (k61 : Nat → Int → Int → Int → p_Hp → Option p_Hp) (hk61 : ∀ (v0 : Nat) (v1 : Int) (v2 : Int) (v3 : Int)  (s0 : p_Hp) (r : p_Hp), k61 v0 v1 v2 v3 s0 = some r → p_Go K l m_Mo_copyGear 61 [(0, p_r v0), (1, p_i v1), (2, p_i v2), (3, p_i v3)] [] s0 (none, r)) (v0 : Nat) (v1 : Int) (v2 : Int) (v3 : Int) (s0 : p_Hp) (r : p_Hp) (h : L_Mo_copyGear_61 k61 v0 v1 v2 v3 s0 = some r) : p_Go K l m_Mo_copyGear 61 [(0, p_r v0), (1, p_i v1), (2, p_i v2), (3, p_i v3)] [] s0 (none, r) := by
  unfold L_Mo_copyGear_61 at h
  refine g_iload_n (i := 3) (j := 3) (dk_Mo_copyGear 41 rfl) rfl rfl ?_
  refine g_iconst (dk_Mo_copyGear 42 rfl) (by decide) ?_
  refine g_icmp_ge 92 (dk_Mo_copyGear 43 rfl) (by decide) (fun b1 => ?_) (fun b1 => ?_)
  · have h := p_ifT b1 h
    refine g_iconst (dk_Mo_copyGear 62 rfl) (by decide) ?_
    refine g_istore_n (i := 3) [(3, p_i 0), (0, p_r v0), (1, p_i v1), (2, p_i v2)] (dk_Mo_copyGear 63 rfl) rfl (by decide) rfl ?_
    refine g_sub [(0, p_r v0), (1, p_i v1), (2, p_i v2), (3, p_i 0)] [1, 2, 3, 0] rfl ?_
    exact tO_Mo_copyGear_94 K l 3000 v0 v1 v2 0 s0 _ h
  · have h := p_ifF b1 h
    refine g_aload_n (i := 0) (j := 0) (dk_Mo_copyGear 44 rfl) rfl rfl ?_
    obtain ⟨c2, h⟩ := p_gdE h
    refine g_getR fl_Mo_25 (Or.inr ⟨_, rfl⟩) (dk_Mo_copyGear 45 rfl) c2 ?_
    refine g_iconst (dk_Mo_copyGear 46 rfl) (by decide) ?_
    refine g_iload_n (i := 2) (j := 2) (dk_Mo_copyGear 47 rfl) rfl rfl ?_
    refine g_imul (dk_Mo_copyGear 48 rfl) ?_
    refine g_iload_n (i := 3) (j := 3) (dk_Mo_copyGear 49 rfl) rfl rfl ?_
    refine g_iadd (dk_Mo_copyGear 50 rfl) ?_
    refine g_aload_n (i := 0) (j := 0) (dk_Mo_copyGear 51 rfl) rfl rfl ?_
    refine g_getR fl_Mo_25 (Or.inr ⟨_, rfl⟩) (dk_Mo_copyGear 52 rfl) c2 ?_
    refine g_iconst (dk_Mo_copyGear 53 rfl) (by decide) ?_
    refine g_iload_n (i := 1) (j := 1) (dk_Mo_copyGear 54 rfl) rfl rfl ?_
    refine g_imul (dk_Mo_copyGear 55 rfl) ?_
    refine g_iload_n (i := 3) (j := 3) (dk_Mo_copyGear 56 rfl) rfl rfl ?_
    refine g_iadd (dk_Mo_copyGear 57 rfl) ?_
    obtain ⟨c3, h⟩ := p_gdE h
    obtain ⟨c4, h⟩ := p_gdE h
    refine g_iaload (dk_Mo_copyGear 58 rfl) c3 c4.1 c4.2 ?_
    obtain ⟨c5, h⟩ := p_gdE h
    refine g_iastore (dk_Mo_copyGear 59 rfl) c3 c5.1 c5.2 ?_
    refine p_ltS (P := fun q => p_Go K l m_Mo_copyGear 86 [(0, p_r v0), (1, p_i v1), (2, p_i v2), (3, p_i v3)] [] q _) (p_xZ _ _ _ _) ?_ h
    intro s6 hs7 h
    refine g_iinc (j := 3) [(3, p_i (p_w (v3 + 1))), (0, p_r v0), (1, p_i v1), (2, p_i v2)] (dk_Mo_copyGear 60 rfl) rfl (by decide) rfl ?_
    refine p_ltG (P := fun q => p_Go K l m_Mo_copyGear 89 [(3, p_i q), (0, p_r v0), (1, p_i v1), (2, p_i v2)] [] s6 _) ?_ h
    intro x8 h
    refine g_goto 61 (dk_Mo_copyGear 61 rfl) (by decide) ?_
    refine g_sub [(0, p_r v0), (1, p_i v1), (2, p_i v2), (3, p_i x8)] [1, 2, 3, 0] rfl ?_
    exact hk61 v0 v1 v2 x8 s6 _ h
set_option maxRecDepth 100000 in
set_option maxHeartbeats 4000000 in
theorem tO_Mo_copyGear_61 (K : p_K) (l : Launch)  : ∀ (n : Nat) (v0 : Nat) (v1 : Int) (v2 : Int) (v3 : Int) (s0 : p_Hp) (r : p_Hp), O_Mo_copyGear_61 n v0 v1 v2 v3 s0 = some r → p_Go K l m_Mo_copyGear 61 [(0, p_r v0), (1, p_i v1), (2, p_i v2), (3, p_i v3)] [] s0 (none, r) := by
  intro n
  induction n with
  | zero => intro v0 v1 v2 v3 s0 r h; cases (show (none : Option p_Hp) = some r from h)
  | succ n ih => intro v0 v1 v2 v3 s0 r h; exact tL_Mo_copyGear_61 K l _ ih v0 v1 v2 v3 s0 r h
set_option maxRecDepth 100000 in
set_option maxHeartbeats 4000000 in
theorem tF_Mo_copyGear (K : p_K) (l : Launch) (v0 : Nat) (v1 : Int) (v2 : Int) (s0 : p_Hp) (r : p_Hp) (h : F_Mo_copyGear v0 v1 v2 s0 = some r) : p_Ct K l m_Mo_copyGear [p_r v0, p_i v1, p_i v2] s0 (none, r) := by
  refine p_Ct.of (by decide +kernel) (Nat.le_of_ble_eq_true rfl) ?_
  unfold F_Mo_copyGear at h
  show p_Go K l m_Mo_copyGear 0 [(0, p_r v0), (1, p_i v1), (2, p_i v2)] [] s0 _
  refine g_aload_n (i := 0) (j := 0) (dk_Mo_copyGear 0 rfl) rfl rfl ?_
  refine g_iload_n (i := 2) (j := 2) (dk_Mo_copyGear 1 rfl) rfl rfl ?_
  refine g_aload_n (i := 0) (j := 0) (dk_Mo_copyGear 2 rfl) rfl rfl ?_
  obtain ⟨c1, h⟩ := p_gdE h
  refine g_getR fl_Mo_16 (Or.inr ⟨_, rfl⟩) (dk_Mo_copyGear 3 rfl) c1 ?_
  refine g_iload_n (i := 1) (j := 1) (dk_Mo_copyGear 4 rfl) rfl rfl ?_
  obtain ⟨c2, h⟩ := p_gdE h
  obtain ⟨c3, h⟩ := p_gdE h
  refine g_iaload (dk_Mo_copyGear 5 rfl) c2 c3.1 c3.2 ?_
  obtain ⟨s4, q5, h⟩ := p_bvE h
  have t6 := tF_Mo_fresh K l v0 v2 (p_Z s0 (p_R s0 v0 5) (v1 : Int).toNat) s0 _ q5
  refine g_callV (a := v0) (ci := 11) (q0 := (RX11, TX11, 90)) (As := [p_i v2, p_i (p_Z s0 (p_R s0 v0 5) (v1 : Int).toNat)]) (rest := []) [] mt_Mo_fresh rfl rfl tw_7_88 ts_46 tw_7_86 ⟨Nat.le_of_ble_eq_true rfl, Nat.le_of_ble_eq_true rfl⟩ rfl (Nat.le_of_ble_eq_true rfl) (dk_Mo_copyGear 6 rfl) rfl c1 rfl t6 ?_
  have hs7 : p_x s0 s4 := t6.1
  show p_Go K l m_Mo_copyGear 11 [(0, p_r v0), (1, p_i v1), (2, p_i v2)] [] s4 _
  refine g_aload_n (i := 0) (j := 0) (dk_Mo_copyGear 7 rfl) rfl rfl ?_
  refine g_getR fl_Mo_19 (Or.inr ⟨_, rfl⟩) (dk_Mo_copyGear 8 rfl) (c1.up hs7) ?_
  refine g_iload_n (i := 2) (j := 2) (dk_Mo_copyGear 9 rfl) rfl rfl ?_
  refine g_aload_n (i := 0) (j := 0) (dk_Mo_copyGear 10 rfl) rfl rfl ?_
  refine g_getR fl_Mo_19 (Or.inr ⟨_, rfl⟩) (dk_Mo_copyGear 11 rfl) (c1.up hs7) ?_
  refine g_iload_n (i := 1) (j := 1) (dk_Mo_copyGear 12 rfl) rfl rfl ?_
  obtain ⟨c8, h⟩ := p_gdE h
  obtain ⟨c9, h⟩ := p_gdE h
  refine g_iaload (dk_Mo_copyGear 13 rfl) c8 c9.1 c9.2 ?_
  obtain ⟨c10, h⟩ := p_gdE h
  refine g_iastore (dk_Mo_copyGear 14 rfl) c8 c10.1 c10.2 ?_
  refine p_ltS (P := fun q => p_Go K l m_Mo_copyGear 23 [(0, p_r v0), (1, p_i v1), (2, p_i v2)] [] q _) (p_xZ _ _ _ _) ?_ h
  intro s11 hs12 h
  refine g_aload_n (i := 0) (j := 0) (dk_Mo_copyGear 15 rfl) rfl rfl ?_
  refine g_getR fl_Mo_22 (Or.inr ⟨_, rfl⟩) (dk_Mo_copyGear 16 rfl) (c1.up (hs7.trans hs12)) ?_
  refine g_iload_n (i := 2) (j := 2) (dk_Mo_copyGear 17 rfl) rfl rfl ?_
  refine g_aload_n (i := 0) (j := 0) (dk_Mo_copyGear 18 rfl) rfl rfl ?_
  refine g_getR fl_Mo_22 (Or.inr ⟨_, rfl⟩) (dk_Mo_copyGear 19 rfl) (c1.up (hs7.trans hs12)) ?_
  refine g_iload_n (i := 1) (j := 1) (dk_Mo_copyGear 20 rfl) rfl rfl ?_
  obtain ⟨c13, h⟩ := p_gdE h
  obtain ⟨c14, h⟩ := p_gdE h
  refine g_iaload (dk_Mo_copyGear 21 rfl) c13 c14.1 c14.2 ?_
  obtain ⟨c15, h⟩ := p_gdE h
  refine g_iastore (dk_Mo_copyGear 22 rfl) c13 c15.1 c15.2 ?_
  refine p_ltS (P := fun q => p_Go K l m_Mo_copyGear 35 [(0, p_r v0), (1, p_i v1), (2, p_i v2)] [] q _) (p_xZ _ _ _ _) ?_ h
  intro s16 hs17 h
  refine g_aload_n (i := 0) (j := 0) (dk_Mo_copyGear 23 rfl) rfl rfl ?_
  refine g_getR fl_Mo_28 (Or.inr ⟨_, rfl⟩) (dk_Mo_copyGear 24 rfl) (c1.up (hs7.trans (hs12.trans hs17))) ?_
  refine g_iload_n (i := 2) (j := 2) (dk_Mo_copyGear 25 rfl) rfl rfl ?_
  refine g_aload_n (i := 0) (j := 0) (dk_Mo_copyGear 26 rfl) rfl rfl ?_
  refine g_getR fl_Mo_28 (Or.inr ⟨_, rfl⟩) (dk_Mo_copyGear 27 rfl) (c1.up (hs7.trans (hs12.trans hs17))) ?_
  refine g_iload_n (i := 1) (j := 1) (dk_Mo_copyGear 28 rfl) rfl rfl ?_
  obtain ⟨c18, h⟩ := p_gdE h
  obtain ⟨c19, h⟩ := p_gdE h
  refine g_iaload (dk_Mo_copyGear 29 rfl) c18 c19.1 c19.2 ?_
  obtain ⟨c20, h⟩ := p_gdE h
  refine g_iastore (dk_Mo_copyGear 30 rfl) c18 c20.1 c20.2 ?_
  refine p_ltS (P := fun q => p_Go K l m_Mo_copyGear 47 [(0, p_r v0), (1, p_i v1), (2, p_i v2)] [] q _) (p_xZ _ _ _ _) ?_ h
  intro s21 hs22 h
  refine g_aload_n (i := 0) (j := 0) (dk_Mo_copyGear 31 rfl) rfl rfl ?_
  refine g_getR fl_Mo_44 (Or.inr ⟨_, rfl⟩) (dk_Mo_copyGear 32 rfl) (c1.up (hs7.trans (hs12.trans (hs17.trans hs22)))) ?_
  refine g_iload_n (i := 2) (j := 2) (dk_Mo_copyGear 33 rfl) rfl rfl ?_
  refine g_aload_n (i := 0) (j := 0) (dk_Mo_copyGear 34 rfl) rfl rfl ?_
  refine g_getR fl_Mo_44 (Or.inr ⟨_, rfl⟩) (dk_Mo_copyGear 35 rfl) (c1.up (hs7.trans (hs12.trans (hs17.trans hs22)))) ?_
  refine g_iload_n (i := 1) (j := 1) (dk_Mo_copyGear 36 rfl) rfl rfl ?_
  obtain ⟨c23, h⟩ := p_gdE h
  obtain ⟨c24, h⟩ := p_gdE h
  refine g_baload (dk_Mo_copyGear 37 rfl) c23 c24.1 c24.2 ?_
  obtain ⟨c25, h⟩ := p_gdE h
  obtain ⟨c26, h⟩ := p_gdE h
  refine g_bastore (dk_Mo_copyGear 38 rfl) c23 c25.1 c25.2 c26 ?_
  refine p_ltS (P := fun q => p_Go K l m_Mo_copyGear 59 [(0, p_r v0), (1, p_i v1), (2, p_i v2)] [] q _) (p_xZ _ _ _ _) ?_ h
  intro s27 hs28 h
  refine g_iconst (dk_Mo_copyGear 39 rfl) (by decide) ?_
  refine g_istore_n (i := 3) [(3, p_i 0), (0, p_r v0), (1, p_i v1), (2, p_i v2)] (dk_Mo_copyGear 40 rfl) rfl (by decide) rfl ?_
  refine g_sub [(0, p_r v0), (1, p_i v1), (2, p_i v2), (3, p_i 0)] [1, 2, 3, 0] rfl ?_
  exact tO_Mo_copyGear_61 K l 3000 v0 v1 v2 0 s27 _ h
