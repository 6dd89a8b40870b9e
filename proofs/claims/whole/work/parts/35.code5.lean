def m_State_goBack : p_Me := (⟨"SortWorks$State", "goBack", "(II)V"⟩, prog_9_method_3_code, 6, none, 2, 82)
theorem mt_State_goBack : p_Mt m_State_goBack 2 := ⟨p_mem (p_tb5 (List.mem_of_getElem? (i := 114) rfl)) rfl, tw_1_3, by decide +kernel, by decide +kernel, by decide +kernel⟩
def dt_State_goBack : List (Nat × Instr × Nat) := [(0, .bipush 16, 2), (2, .iload_n 1, 1), (3, .imul, 1), (4, .istore_n 3, 1), (5, .aload_n 0, 1), (6, .aload_n 0, 1), (7, .getfield 39, 3), (10, .iload_n 3, 1), (11, .iaload, 1), (12, .putfield 46, 3), (15, .aload_n 0, 1), (16, .aload_n 0, 1), (17, .getfield 39, 3), (20, .iload_n 3, 1), (21, .iconst 1, 1), (22, .iadd, 1), (23, .iaload, 1), (24, .putfield 50, 3), (27, .aload_n 0, 1), (28, .aload_n 0, 1), (29, .getfield 39, 3), (32, .iload_n 3, 1), (33, .iconst 2, 1), (34, .iadd, 1), (35, .iaload, 1), (36, .putfield 53, 3), (39, .aload_n 0, 1), (40, .aload_n 0, 1), (41, .getfield 39, 3), (44, .iload_n 3, 1), (45, .iconst 3, 1), (46, .iadd, 1), (47, .iaload, 1), (48, .putfield 56, 3), (51, .aload_n 0, 1), (52, .getfield 39, 3), (55, .iload_n 3, 1), (56, .iconst 4, 1), (57, .iadd, 1), (58, .aload_n 0, 1), (59, .getfield 23, 3), (62, .iconst 0, 1), (63, .bipush 12, 2), (65, .invokestatic 59, 3), (68, .iconst 0, 1), (69, .istore 4, 2), (71, .iload 4, 2), (73, .iload_n 2, 1), (74, .if_icmp .ge 20, 3), (77, .aload_n 0, 1), (78, .getfield 13, 3), (81, .iload 4, 2), (83, .aaload, 1), (84, .iload_n 1, 1), (85, .invokevirtual 70, 3), (88, .iinc 4 1, 3), (91, .goto (-20), 3), (94, .iconst 1, 1), (95, .istore 4, 2), (97, .iload 4, 2), (99, .bipush 30, 2), (101, .if_icmp .gt 53, 3), (104, .aload_n 0, 1), (105, .getfield 19, 3), (108, .iload 4, 2), (110, .aaload, 1), (111, .astore 5, 2), (113, .aload 5, 2), (115, .iload_n 1, 1), (116, .invokevirtual 73, 3), (119, .aload 5, 2), (121, .getfield 74, 3), (124, .ifCond .eq 24, 3), (127, .aload_n 0, 1), (128, .getfield 13, 3), (131, .aload 5, 2), (133, .getfield 77, 3), (136, .aaload, 1), (137, .getfield 79, 3), (140, .aload 5, 2), (142, .getfield 82, 3), (145, .iload 4, 2), (147, .iastore, 1), (148, .iinc 4 1, 3), (151, .goto (-54), 3), (154, .aload_n 0, 1), (155, .getfield 32, 3), (158, .iload_n 1, 1), (159, .invokevirtual 85, 3), (162, .aload_n 0, 1), (163, .getfield 36, 3), (166, .iload_n 1, 1), (167, .invokevirtual 85, 3), (170, .return_, 1)]
theorem dk_State_goBack (i : Nat) {pc : Nat} {ins : Instr} {len : Nat} (h : dt_State_goBack[i]? = some (pc, ins, len)) : decode m_State_goBack.2.1 pc = .ok (ins, len) := p_dk (b := m_State_goBack.2.1) (t := dt_State_goBack) (by decide +kernel) i h
def B_State_goBack_148 (k97 : Nat → Int → Int → p_Hp → Option p_Hp) (v0 : Nat) (v1 : Int) (v4 : Int) (s0 : p_Hp) : Option p_Hp :=
  p_bi (p_w (v4 + 1)) fun x1 =>
  k97 v0 v1 x1 s0
def L_State_goBack_97 (k97 : Nat → Int → Int → p_Hp → Option p_Hp) (v0 : Nat) (v1 : Int) (v4 : Int) (s0 : p_Hp) : Option p_Hp :=
  if 30 < v4 then
    p_gd (p_is s0 v0 7) <|
    p_gd (p_is s0 (p_R s0 v0 7) 2) <|
    p_bv (F_Log_goBack (p_R s0 v0 7) v1 s0) fun s4 =>
    p_gd (p_is s4 (p_R s4 v0 8) 2) <|
    p_bv (F_Log_goBack (p_R s4 v0 8) v1 s4) fun s9 =>
    some s9
  else
    p_gd (p_is s0 v0 7) <|
    p_gd (p_is s0 (p_R s0 v0 5) 106) <|
    p_gd ((0 : Int) ≤ v4 ∧ v4 < (p_L s0 (p_R s0 v0 5) : Int)) <|
    p_bi ((p_R s0 (p_R s0 v0 5) (v4 : Int).toNat)) fun x16 =>
    p_gd (p_is s0 x16 4) <|
    p_bv (F_Parcel_goBack x16 v1 s0) fun s18 =>
    if (p_Z s18 x16 1) = 0 then
      B_State_goBack_148 k97 v0 v1 v4 s18
    else
      p_gd (p_is s18 (p_R s18 v0 4) 105) <|
      p_gd ((0 : Int) ≤ (p_Z s18 x16 5) ∧ (p_Z s18 x16 5) < (p_L s18 (p_R s18 v0 4) : Int)) <|
      p_gd (p_is s18 (p_R s18 (p_R s18 v0 4) ((p_Z s18 x16 5) : Int).toNat) 0) <|
      p_gd (p_is s18 (p_R s18 (p_R s18 (p_R s18 v0 4) ((p_Z s18 x16 5) : Int).toNat) 17) 100) <|
      p_gd ((0 : Int) ≤ (p_Z s18 x16 6) ∧ (p_Z s18 x16 6) < (p_L s18 (p_R s18 (p_R s18 (p_R s18 v0 4) ((p_Z s18 x16 5) : Int).toNat) 17) : Int)) <|
      p_bi (p_wZ s18 (p_R s18 (p_R s18 (p_R s18 v0 4) ((p_Z s18 x16 5) : Int).toNat) 17) ((p_Z s18 x16 6) : Int).toNat v4) fun s28 =>
      B_State_goBack_148 k97 v0 v1 v4 s28
def O_State_goBack_97  : Nat → Nat → Int → Int → p_Hp → Option p_Hp
  | 0 => fun _ _ _ _ => none
  | n + 1 => L_State_goBack_97 (O_State_goBack_97 n)
def L_State_goBack_71 (k71 : Nat → Int → Int → Int → p_Hp → Option p_Hp) (v0 : Nat) (v1 : Int) (v2 : Int) (v4 : Int) (s0 : p_Hp) : Option p_Hp :=
  if v2 ≤ v4 then
    O_State_goBack_97 3000 v0 v1 1 s0
  else
    p_gd (p_is s0 v0 7) <|
    p_gd (p_is s0 (p_R s0 v0 4) 105) <|
    p_gd ((0 : Int) ≤ v4 ∧ v4 < (p_L s0 (p_R s0 v0 4) : Int)) <|
    p_gd (p_is s0 (p_R s0 (p_R s0 v0 4) (v4 : Int).toNat) 0) <|
    p_bv (F_Gear_goBack (p_R s0 (p_R s0 v0 4) (v4 : Int).toNat) v1 s0) fun s6 =>
    p_bi (p_w (v4 + 1)) fun x10 =>
    k71 v0 v1 v2 x10 s6
def O_State_goBack_71  : Nat → Nat → Int → Int → Int → p_Hp → Option p_Hp
  | 0 => fun _ _ _ _ _ => none
  | n + 1 => L_State_goBack_71 (O_State_goBack_71 n)
def F_State_goBack (v0 : Nat) (v1 : Int) (v2 : Int) (s0 : p_Hp) : Option p_Hp :=
  p_bi ((p_w (16 * v1))) fun x1 =>
  p_gd (p_is s0 v0 7) <|
  p_gd (p_is s0 (p_R s0 v0 9) 100) <|
  p_gd ((0 : Int) ≤ x1 ∧ x1 < (p_L s0 (p_R s0 v0 9) : Int)) <|
  p_bi (p_wZ s0 v0 0 (p_Z s0 (p_R s0 v0 9) (x1 : Int).toNat)) fun s5 =>
  p_gd (p_is s5 (p_R s5 v0 9) 100) <|
  p_gd ((0 : Int) ≤ (p_w (x1 + 1)) ∧ (p_w (x1 + 1)) < (p_L s5 (p_R s5 v0 9) : Int)) <|
  p_bi (p_wZ s5 v0 1 (p_Z s5 (p_R s5 v0 9) ((p_w (x1 + 1)) : Int).toNat)) fun s9 =>
  p_gd (p_is s9 (p_R s9 v0 9) 100) <|
  p_gd ((0 : Int) ≤ (p_w (x1 + 2)) ∧ (p_w (x1 + 2)) < (p_L s9 (p_R s9 v0 9) : Int)) <|
  p_bi (p_wZ s9 v0 2 (p_Z s9 (p_R s9 v0 9) ((p_w (x1 + 2)) : Int).toNat)) fun s13 =>
  p_gd (p_is s13 (p_R s13 v0 9) 100) <|
  p_gd ((0 : Int) ≤ (p_w (x1 + 3)) ∧ (p_w (x1 + 3)) < (p_L s13 (p_R s13 v0 9) : Int)) <|
  p_bi (p_wZ s13 v0 3 (p_Z s13 (p_R s13 v0 9) ((p_w (x1 + 3)) : Int).toNat)) fun s17 =>
  p_gd (p_is s17 (p_R s17 v0 9) 100) <|
  p_gd (p_is s17 (p_R s17 v0 6) 100) <|
  p_gd ((0 : Int) ≤ (p_w (x1 + 4)) ∧ (0 : Int) ≤ 0 ∧ (0 : Int) ≤ 12 ∧ (p_w (x1 + 4)) + 12 ≤ (p_L s17 (p_R s17 v0 9) : Int) ∧ 0 + 12 ≤ (p_L s17 (p_R s17 v0 6) : Int)) <|
  p_bi (p_cp s17 (p_R s17 v0 9) ((p_w (x1 + 4)) : Int).toNat (p_R s17 v0 6) (0 : Int).toNat (12 : Int).toNat) fun s22 =>
  O_State_goBack_71 3000 v0 v1 v2 0 s22
set_option maxRecDepth 100000 in
set_option maxHeartbeats 4000000 in
theorem tB_State_goBack_148 (K : p_K) (l : Launch) (k97 : Nat → Int → Int → p_Hp → Option p_Hp) (hk97 : ∀ (v0 : Nat) (v1 : Int) (v4 : Int)  (s0 : p_Hp) (r : p_Hp), k97 v0 v1 v4 s0 = some r → p_Go K l m_State_goBack 97 [(0, p_r v0), (1, p_i v1), (4, p_i v4)] [] s0 (none, r)) (v0 : Nat) (v1 : Int) (v4 : Int) (s0 : p_Hp) (r : p_Hp) (h : B_State_goBack_148 k97 v0 v1 v4 s0 = some r) : p_Go K l m_State_goBack 148 [(0, p_r v0), (1, p_i v1), (4, p_i v4)] [] s0 (none, r) := by
  unfold B_State_goBack_148 at h
  refine g_iinc (j := 2) [(4, p_i (p_w (v4 + 1))), (0, p_r v0), (1, p_i v1)] (dk_State_goBack 83 rfl) rfl (by decide) rfl ?_
  refine p_ltG (P := fun q => p_Go K l m_State_goBack 151 [(4, p_i q), (0, p_r v0), (1, p_i v1)] [] s0 _) ?_ h
  intro x1 h
  refine g_goto 97 (dk_State_goBack 84 rfl) (by decide) ?_
  refine g_sub [(0, p_r v0), (1, p_i v1), (4, p_i x1)] [1, 2, 0] rfl ?_
  exact hk97 v0 v1 x1 s0 _ h
set_option maxRecDepth 100000 in
set_option maxHeartbeats 4000000 in
theorem tL_State_goBack_97 (K : p_K) (l : Launch) (k97 : Nat → Int → Int → p_Hp → Option p_Hp) (hk97 : ∀ (v0 : Nat) (v1 : Int) (v4 : Int)  (s0 : p_Hp) (r : p_Hp), k97 v0 v1 v4 s0 = some r → p_Go K l m_State_goBack 97 [(0, p_r v0), (1, p_i v1), (4, p_i v4)] [] s0 (none, r)) (v0 : Nat) (v1 : Int) (v4 : Int) (s0 : p_Hp) (r : p_Hp) (h : L_State_goBack_97 k97 v0 v1 v4 s0 = some r) : p_Go K l m_State_goBack 97 [(0, p_r v0), (1, p_i v1), (4, p_i v4)] [] s0 (none, r) := by
  unfold L_State_goBack_97 at h
  refine g_iload (j := 2) (dk_State_goBack 59 rfl) rfl ?_
  refine g_bipush (dk_State_goBack 60 rfl) (by decide +kernel) (by decide) ?_
  refine g_icmp_gt 154 (dk_State_goBack 61 rfl) (by decide) (fun b1 => ?_) (fun b1 => ?_)
  · have h := p_ifT b1 h
    refine g_aload_n (i := 0) (j := 0) (dk_State_goBack 85 rfl) rfl rfl ?_
    obtain ⟨c2, h⟩ := p_gdE h
    refine g_getR fl_State_32 (Or.inl ⟨_, rfl⟩) (dk_State_goBack 86 rfl) c2 ?_
    refine g_iload_n (i := 1) (j := 1) (dk_State_goBack 87 rfl) rfl rfl ?_
    obtain ⟨c3, h⟩ := p_gdE h
    obtain ⟨s4, q5, h⟩ := p_bvE h
    have t6 := tF_Log_goBack K l (p_R s0 v0 7) v1 s0 _ q5
    refine g_callV (a := (p_R s0 v0 7)) (ci := 2) (q0 := (RX2, TX2, 6)) (As := [p_i v1]) (rest := []) [] mt_Log_goBack rfl rfl tw_5_125 tw_5_126 tw_5_124 ⟨Nat.le_of_ble_eq_true rfl, Nat.le_of_ble_eq_true rfl⟩ rfl (Nat.le_of_ble_eq_true rfl) (dk_State_goBack 88 rfl) rfl c3 rfl t6 ?_
    have hs7 : p_x s0 s4 := t6.1
    show p_Go K l m_State_goBack 162 [(0, p_r v0), (1, p_i v1), (4, p_i v4)] [] s4 _
    refine g_aload_n (i := 0) (j := 0) (dk_State_goBack 89 rfl) rfl rfl ?_
    refine g_getR fl_State_36 (Or.inl ⟨_, rfl⟩) (dk_State_goBack 90 rfl) (c2.up hs7) ?_
    refine g_iload_n (i := 1) (j := 1) (dk_State_goBack 91 rfl) rfl rfl ?_
    obtain ⟨c8, h⟩ := p_gdE h
    obtain ⟨s9, q10, h⟩ := p_bvE h
    have t11 := tF_Log_goBack K l (p_R s4 v0 8) v1 s4 _ q10
    refine g_callV (a := (p_R s4 v0 8)) (ci := 2) (q0 := (RX2, TX2, 6)) (As := [p_i v1]) (rest := []) [] mt_Log_goBack rfl rfl tw_5_125 tw_5_126 tw_5_124 ⟨Nat.le_of_ble_eq_true rfl, Nat.le_of_ble_eq_true rfl⟩ rfl (Nat.le_of_ble_eq_true rfl) (dk_State_goBack 92 rfl) rfl c8 rfl t11 ?_
    have hs12 : p_x s4 s9 := t11.1
    show p_Go K l m_State_goBack 170 [(0, p_r v0), (1, p_i v1), (4, p_i v4)] [] s9 _
    cases h
    exact g_ret rfl rfl (dk_State_goBack 93 rfl) (fun _ => rfl)
  · have h := p_ifF b1 h
    refine g_aload_n (i := 0) (j := 0) (dk_State_goBack 62 rfl) rfl rfl ?_
    obtain ⟨c13, h⟩ := p_gdE h
    refine g_getR fl_State_19 (Or.inr ⟨_, rfl⟩) (dk_State_goBack 63 rfl) c13 ?_
    refine g_iload (j := 2) (dk_State_goBack 64 rfl) rfl ?_
    obtain ⟨c14, h⟩ := p_gdE h
    obtain ⟨c15, h⟩ := p_gdE h
    refine g_aaload (i := 6) rfl (Or.inl ⟨_, rfl⟩) (dk_State_goBack 65 rfl) c14 c15.1 c15.2 ?_
    refine g_astore [(5, p_r (p_R s0 (p_R s0 v0 5) (v4 : Int).toNat)), (0, p_r v0), (1, p_i v1), (4, p_i v4)] (dk_State_goBack 66 rfl) (by decide) rfl ?_
    refine p_ltG (P := fun q => p_Go K l m_State_goBack 113 [(5, p_r q), (0, p_r v0), (1, p_i v1), (4, p_i v4)] [] s0 _) ?_ h
    intro x16 h
    refine g_aload (j := 0) (dk_State_goBack 67 rfl) rfl ?_
    refine g_iload_n (i := 1) (j := 2) (dk_State_goBack 68 rfl) rfl rfl ?_
    obtain ⟨c17, h⟩ := p_gdE h
    obtain ⟨s18, q19, h⟩ := p_bvE h
    have t20 := tF_Parcel_goBack K l x16 v1 s0 _ q19
    refine g_callV (a := x16) (ci := 4) (q0 := (RX4, TX4, 14)) (As := [p_i v1]) (rest := []) [] mt_Parcel_goBack rfl rfl tw_5_121 tw_5_122 tw_5_120 ⟨Nat.le_of_ble_eq_true rfl, Nat.le_of_ble_eq_true rfl⟩ rfl (Nat.le_of_ble_eq_true rfl) (dk_State_goBack 69 rfl) rfl c17 rfl t20 ?_
    have hs21 : p_x s0 s18 := t20.1
    show p_Go K l m_State_goBack 119 [(5, p_r x16), (0, p_r v0), (1, p_i v1), (4, p_i v4)] [] s18 _
    refine g_aload (j := 0) (dk_State_goBack 70 rfl) rfl ?_
    refine g_getI fl_State_74 (Or.inl rfl) (dk_State_goBack 71 rfl) (c17.up hs21) ?_
    refine g_if_eq 148 (dk_State_goBack 72 rfl) (by decide) (fun b22 => ?_) (fun b22 => ?_)
    · have h := p_ifT b22 h
      refine g_sub [(0, p_r v0), (1, p_i v1), (4, p_i v4)] [1, 2, 3] rfl ?_
      exact tB_State_goBack_148 K l k97 hk97 v0 v1 v4 s18 _ h
    · have h := p_ifF b22 h
      refine g_aload_n (i := 0) (j := 1) (dk_State_goBack 73 rfl) rfl rfl ?_
      refine g_getR fl_State_13 (Or.inr ⟨_, rfl⟩) (dk_State_goBack 74 rfl) (c13.up hs21) ?_
      refine g_aload (j := 0) (dk_State_goBack 75 rfl) rfl ?_
      refine g_getI fl_State_77 (Or.inl rfl) (dk_State_goBack 76 rfl) (c17.up hs21) ?_
      obtain ⟨c23, h⟩ := p_gdE h
      obtain ⟨c24, h⟩ := p_gdE h
      refine g_aaload (i := 5) rfl (Or.inl ⟨_, rfl⟩) (dk_State_goBack 77 rfl) c23 c24.1 c24.2 ?_
      obtain ⟨c25, h⟩ := p_gdE h
      refine g_getR fl_State_79 (Or.inr ⟨_, rfl⟩) (dk_State_goBack 78 rfl) c25 ?_
      refine g_aload (j := 0) (dk_State_goBack 79 rfl) rfl ?_
      refine g_getI fl_State_82 (Or.inl rfl) (dk_State_goBack 80 rfl) (c17.up hs21) ?_
      refine g_iload (j := 3) (dk_State_goBack 81 rfl) rfl ?_
      obtain ⟨c26, h⟩ := p_gdE h
      obtain ⟨c27, h⟩ := p_gdE h
      refine g_iastore (dk_State_goBack 82 rfl) c26 c27.1 c27.2 ?_
      refine p_ltS (P := fun q => p_Go K l m_State_goBack 148 [(5, p_r x16), (0, p_r v0), (1, p_i v1), (4, p_i v4)] [] q _) (p_xZ _ _ _ _) ?_ h
      intro s28 hs29 h
      refine g_sub [(0, p_r v0), (1, p_i v1), (4, p_i v4)] [1, 2, 3] rfl ?_
      exact tB_State_goBack_148 K l k97 hk97 v0 v1 v4 s28 _ h
set_option maxRecDepth 100000 in
set_option maxHeartbeats 4000000 in
theorem tO_State_goBack_97 (K : p_K) (l : Launch)  : ∀ (n : Nat) (v0 : Nat) (v1 : Int) (v4 : Int) (s0 : p_Hp) (r : p_Hp), O_State_goBack_97 n v0 v1 v4 s0 = some r → p_Go K l m_State_goBack 97 [(0, p_r v0), (1, p_i v1), (4, p_i v4)] [] s0 (none, r) := by
  intro n
  induction n with
  | zero => intro v0 v1 v4 s0 r h; cases (show (none : Option p_Hp) = some r from h)
  | succ n ih => intro v0 v1 v4 s0 r h; exact tL_State_goBack_97 K l _ ih v0 v1 v4 s0 r h
set_option maxRecDepth 100000 in
set_option maxHeartbeats 4000000 in
theorem tL_State_goBack_71 (K : p_K) (l : Launch) (k71 : Nat → Int → Int → Int → p_Hp → Option p_Hp) (hk71 : ∀ (v0 : Nat) (v1 : Int) (v2 : Int) (v4 : Int)  (s0 : p_Hp) (r : p_Hp), k71 v0 v1 v2 v4 s0 = some r → p_Go K l m_State_goBack 71 [(0, p_r v0), (1, p_i v1), (2, p_i v2), (4, p_i v4)] [] s0 (none, r)) (v0 : Nat) (v1 : Int) (v2 : Int) (v4 : Int) (s0 : p_Hp) (r : p_Hp) (h : L_State_goBack_71 k71 v0 v1 v2 v4 s0 = some r) : p_Go K l m_State_goBack 71 [(0, p_r v0), (1, p_i v1), (2, p_i v2), (4, p_i v4)] [] s0 (none, r) := by
  unfold L_State_goBack_71 at h
  refine g_iload (j := 3) (dk_State_goBack 46 rfl) rfl ?_
  refine g_iload_n (i := 2) (j := 2) (dk_State_goBack 47 rfl) rfl rfl ?_
  refine g_icmp_ge 94 (dk_State_goBack 48 rfl) (by decide) (fun b1 => ?_) (fun b1 => ?_)
  · have h := p_ifT b1 h
    refine g_iconst (dk_State_goBack 57 rfl) (by decide) ?_
    refine g_istore [(4, p_i 1), (0, p_r v0), (1, p_i v1), (2, p_i v2)] (dk_State_goBack 58 rfl) (by decide) rfl ?_
    refine g_sub [(0, p_r v0), (1, p_i v1), (4, p_i 1)] [1, 2, 0] rfl ?_
    exact tO_State_goBack_97 K l 3000 v0 v1 1 s0 _ h
  · have h := p_ifF b1 h
    refine g_aload_n (i := 0) (j := 0) (dk_State_goBack 49 rfl) rfl rfl ?_
    obtain ⟨c2, h⟩ := p_gdE h
    refine g_getR fl_State_13 (Or.inr ⟨_, rfl⟩) (dk_State_goBack 50 rfl) c2 ?_
    refine g_iload (j := 3) (dk_State_goBack 51 rfl) rfl ?_
    obtain ⟨c3, h⟩ := p_gdE h
    obtain ⟨c4, h⟩ := p_gdE h
    refine g_aaload (i := 5) rfl (Or.inl ⟨_, rfl⟩) (dk_State_goBack 52 rfl) c3 c4.1 c4.2 ?_
    refine g_iload_n (i := 1) (j := 1) (dk_State_goBack 53 rfl) rfl rfl ?_
    obtain ⟨c5, h⟩ := p_gdE h
    obtain ⟨s6, q7, h⟩ := p_bvE h
    have t8 := tF_Gear_goBack K l (p_R s0 (p_R s0 v0 4) (v4 : Int).toNat) v1 s0 _ q7
    refine g_callV (a := (p_R s0 (p_R s0 v0 4) (v4 : Int).toNat)) (ci := 0) (q0 := (RX0, TX0, 20)) (As := [p_i v1]) (rest := []) [] mt_Gear_goBack rfl rfl tw_5_116 tw_5_117 tw_5_115 ⟨Nat.le_of_ble_eq_true rfl, Nat.le_of_ble_eq_true rfl⟩ rfl (Nat.le_of_ble_eq_true rfl) (dk_State_goBack 54 rfl) rfl c5 rfl t8 ?_
    have hs9 : p_x s0 s6 := t8.1
    show p_Go K l m_State_goBack 88 [(0, p_r v0), (1, p_i v1), (2, p_i v2), (4, p_i v4)] [] s6 _
    refine g_iinc (j := 3) [(4, p_i (p_w (v4 + 1))), (0, p_r v0), (1, p_i v1), (2, p_i v2)] (dk_State_goBack 55 rfl) rfl (by decide) rfl ?_
    refine p_ltG (P := fun q => p_Go K l m_State_goBack 91 [(4, p_i q), (0, p_r v0), (1, p_i v1), (2, p_i v2)] [] s6 _) ?_ h
    intro x10 h
    refine g_goto 71 (dk_State_goBack 56 rfl) (by decide) ?_
    refine g_sub [(0, p_r v0), (1, p_i v1), (2, p_i v2), (4, p_i x10)] [1, 2, 3, 0] rfl ?_
    exact hk71 v0 v1 v2 x10 s6 _ h
set_option maxRecDepth 100000 in
set_option maxHeartbeats 4000000 in
theorem tO_State_goBack_71 (K : p_K) (l : Launch)  : ∀ (n : Nat) (v0 : Nat) (v1 : Int) (v2 : Int) (v4 : Int) (s0 : p_Hp) (r : p_Hp), O_State_goBack_71 n v0 v1 v2 v4 s0 = some r → p_Go K l m_State_goBack 71 [(0, p_r v0), (1, p_i v1), (2, p_i v2), (4, p_i v4)] [] s0 (none, r) := by
  intro n
  induction n with
  | zero => intro v0 v1 v2 v4 s0 r h; cases (show (none : Option p_Hp) = some r from h)
  | succ n ih => intro v0 v1 v2 v4 s0 r h; exact tL_State_goBack_71 K l _ ih v0 v1 v2 v4 s0 r h
set_option maxRecDepth 100000 in
set_option maxHeartbeats 4000000 in
theorem tF_State_goBack (K : p_K) (l : Launch) (v0 : Nat) (v1 : Int) (v2 : Int) (s0 : p_Hp) (r : p_Hp) (h : F_State_goBack v0 v1 v2 s0 = some r) : p_Ct K l m_State_goBack [p_r v0, p_i v1, p_i v2] s0 (none, r) := by
  refine p_Ct.of (by decide +kernel) (Nat.le_of_ble_eq_true rfl) ?_
  unfold F_State_goBack at h
  show p_Go K l m_State_goBack 0 [(0, p_r v0), (1, p_i v1), (2, p_i v2)] [] s0 _
  refine g_bipush (dk_State_goBack 0 rfl) (by decide +kernel) (by decide) ?_
  refine g_iload_n (i := 1) (j := 1) (dk_State_goBack 1 rfl) rfl rfl ?_
  refine g_imul (dk_State_goBack 2 rfl) ?_
  refine g_istore_n (i := 3) [(3, p_i (p_w (16 * v1))), (0, p_r v0), (1, p_i v1), (2, p_i v2)] (dk_State_goBack 3 rfl) rfl (by decide) rfl ?_
  refine p_ltG (P := fun q => p_Go K l m_State_goBack 5 [(3, p_i q), (0, p_r v0), (1, p_i v1), (2, p_i v2)] [] s0 _) ?_ h
  intro x1 h
  refine g_aload_n (i := 0) (j := 1) (dk_State_goBack 4 rfl) rfl rfl ?_
  refine g_aload_n (i := 0) (j := 1) (dk_State_goBack 5 rfl) rfl rfl ?_
  obtain ⟨c2, h⟩ := p_gdE h
  refine g_getR fl_State_39 (Or.inr ⟨_, rfl⟩) (dk_State_goBack 6 rfl) c2 ?_
  refine g_iload_n (i := 3) (j := 0) (dk_State_goBack 7 rfl) rfl rfl ?_
  obtain ⟨c3, h⟩ := p_gdE h
  obtain ⟨c4, h⟩ := p_gdE h
  refine g_iaload (dk_State_goBack 8 rfl) c3 c4.1 c4.2 ?_
  refine g_putI fl_State_46 (Or.inl rfl) (dk_State_goBack 9 rfl) c2 ?_
  refine p_ltS (P := fun q => p_Go K l m_State_goBack 15 [(3, p_i x1), (0, p_r v0), (1, p_i v1), (2, p_i v2)] [] q _) (p_xZ _ _ _ _) ?_ h
  intro s5 hs6 h
  refine g_aload_n (i := 0) (j := 1) (dk_State_goBack 10 rfl) rfl rfl ?_
  refine g_aload_n (i := 0) (j := 1) (dk_State_goBack 11 rfl) rfl rfl ?_
  refine g_getR fl_State_39 (Or.inr ⟨_, rfl⟩) (dk_State_goBack 12 rfl) (c2.up hs6) ?_
  refine g_iload_n (i := 3) (j := 0) (dk_State_goBack 13 rfl) rfl rfl ?_
  refine g_iconst (dk_State_goBack 14 rfl) (by decide) ?_
  refine g_iadd (dk_State_goBack 15 rfl) ?_
  obtain ⟨c7, h⟩ := p_gdE h
  obtain ⟨c8, h⟩ := p_gdE h
  refine g_iaload (dk_State_goBack 16 rfl) c7 c8.1 c8.2 ?_
  refine g_putI fl_State_50 (Or.inl rfl) (dk_State_goBack 17 rfl) (c2.up hs6) ?_
  refine p_ltS (P := fun q => p_Go K l m_State_goBack 27 [(3, p_i x1), (0, p_r v0), (1, p_i v1), (2, p_i v2)] [] q _) (p_xZ _ _ _ _) ?_ h
  intro s9 hs10 h
  refine g_aload_n (i := 0) (j := 1) (dk_State_goBack 18 rfl) rfl rfl ?_
  refine g_aload_n (i := 0) (j := 1) (dk_State_goBack 19 rfl) rfl rfl ?_
  refine g_getR fl_State_39 (Or.inr ⟨_, rfl⟩) (dk_State_goBack 20 rfl) (c2.up (hs6.trans hs10)) ?_
  refine g_iload_n (i := 3) (j := 0) (dk_State_goBack 21 rfl) rfl rfl ?_
  refine g_iconst (dk_State_goBack 22 rfl) (by decide) ?_
  refine g_iadd (dk_State_goBack 23 rfl) ?_
  obtain ⟨c11, h⟩ := p_gdE h
  obtain ⟨c12, h⟩ := p_gdE h
  refine g_iaload (dk_State_goBack 24 rfl) c11 c12.1 c12.2 ?_
  refine g_putI fl_State_53 (Or.inl rfl) (dk_State_goBack 25 rfl) (c2.up (hs6.trans hs10)) ?_
  refine p_ltS (P := fun q => p_Go K l m_State_goBack 39 [(3, p_i x1), (0, p_r v0), (1, p_i v1), (2, p_i v2)] [] q _) (p_xZ _ _ _ _) ?_ h
  intro s13 hs14 h
  refine g_aload_n (i := 0) (j := 1) (dk_State_goBack 26 rfl) rfl rfl ?_
  refine g_aload_n (i := 0) (j := 1) (dk_State_goBack 27 rfl) rfl rfl ?_
  refine g_getR fl_State_39 (Or.inr ⟨_, rfl⟩) (dk_State_goBack 28 rfl) (c2.up (hs6.trans (hs10.trans hs14))) ?_
  refine g_iload_n (i := 3) (j := 0) (dk_State_goBack 29 rfl) rfl rfl ?_
  refine g_iconst (dk_State_goBack 30 rfl) (by decide) ?_
  refine g_iadd (dk_State_goBack 31 rfl) ?_
  obtain ⟨c15, h⟩ := p_gdE h
  obtain ⟨c16, h⟩ := p_gdE h
  refine g_iaload (dk_State_goBack 32 rfl) c15 c16.1 c16.2 ?_
  refine g_putI fl_State_56 (Or.inl rfl) (dk_State_goBack 33 rfl) (c2.up (hs6.trans (hs10.trans hs14))) ?_
  refine p_ltS (P := fun q => p_Go K l m_State_goBack 51 [(3, p_i x1), (0, p_r v0), (1, p_i v1), (2, p_i v2)] [] q _) (p_xZ _ _ _ _) ?_ h
  intro s17 hs18 h
  refine g_aload_n (i := 0) (j := 1) (dk_State_goBack 34 rfl) rfl rfl ?_
  refine g_getR fl_State_39 (Or.inr ⟨_, rfl⟩) (dk_State_goBack 35 rfl) (c2.up (hs6.trans (hs10.trans (hs14.trans hs18)))) ?_
  refine g_iload_n (i := 3) (j := 0) (dk_State_goBack 36 rfl) rfl rfl ?_
  refine g_iconst (dk_State_goBack 37 rfl) (by decide) ?_
  refine g_iadd (dk_State_goBack 38 rfl) ?_
  refine g_aload_n (i := 0) (j := 1) (dk_State_goBack 39 rfl) rfl rfl ?_
  refine g_getR fl_State_23 (Or.inr ⟨_, rfl⟩) (dk_State_goBack 40 rfl) (c2.up (hs6.trans (hs10.trans (hs14.trans hs18)))) ?_
  refine g_iconst (dk_State_goBack 41 rfl) (by decide) ?_
  refine g_bipush (dk_State_goBack 42 rfl) (by decide +kernel) (by decide) ?_
  obtain ⟨c19, h⟩ := p_gdE h
  obtain ⟨c20, h⟩ := p_gdE h
  obtain ⟨c21, h⟩ := p_gdE h
  refine g_arraycopy tw_4_143 tw_3_169 tw_3_168 tw_1_14 (dk_State_goBack 43 rfl) (Nat.le_of_ble_eq_true rfl) (Nat.le_of_ble_eq_true rfl) c19 c20 c21.1 c21.2.1 c21.2.2.1 c21.2.2.2.1 c21.2.2.2.2 ?_
  refine p_ltS (P := fun q => p_Go K l m_State_goBack 68 [(3, p_i x1), (0, p_r v0), (1, p_i v1), (2, p_i v2)] [] q _) (p_xC _ _ _ _ _ _) ?_ h
  intro s22 hs23 h
  refine g_iconst (dk_State_goBack 44 rfl) (by decide) ?_
  refine g_istore [(4, p_i 0), (3, p_i x1), (0, p_r v0), (1, p_i v1), (2, p_i v2)] (dk_State_goBack 45 rfl) (by decide) rfl ?_
  refine g_sub [(0, p_r v0), (1, p_i v1), (2, p_i v2), (4, p_i 0)] [2, 3, 4, 0] rfl ?_
  exact tO_State_goBack_71 K l 3000 v0 v1 v2 0 s22 _ h
def m_Ma_floorMod : p_Me := (⟨"java/lang/Math", "floorMod", "(II)I"⟩, prog_15_method_50_code, 3, (some .int), 0, 0)
theorem mt_Ma_floorMod : p_Mt m_Ma_floorMod 2 := ⟨p_mem (p_tb5 (List.mem_of_getElem? (i := 110) rfl)) rfl, tw_1_15, by decide +kernel, by decide +kernel, by decide +kernel⟩
def dt_Ma_floorMod : List (Nat × Instr × Nat) := [(0, .iload_n 0, 1), (1, .iload_n 1, 1), (2, .irem, 1), (3, .istore_n 2, 1), (4, .iload_n 0, 1), (5, .iload_n 1, 1), (6, .ixor, 1), (7, .ifCond .ge 11, 3), (10, .iload_n 2, 1), (11, .ifCond .eq 7, 3), (14, .iload_n 2, 1), (15, .iload_n 1, 1), (16, .iadd, 1), (17, .ireturn, 1), (18, .iload_n 2, 1), (19, .ireturn, 1)]
theorem dk_Ma_floorMod (i : Nat) {pc : Nat} {ins : Instr} {len : Nat} (h : dt_Ma_floorMod[i]? = some (pc, ins, len)) : decode m_Ma_floorMod.2.1 pc = .ok (ins, len) := p_dk (b := m_Ma_floorMod.2.1) (t := dt_Ma_floorMod) (by decide +kernel) i h
def F_Ma_floorMod (v0 : Int) (v1 : Int) (s0 : p_Hp) : Option (Int × p_Hp) :=
  p_gd (v1 ≠ 0) <|
  p_bi ((p_rem v0 v1)) fun x2 =>
  if 0 ≤ (p_xor v0 v1) then
    some (x2, s0)
  else
    if x2 = 0 then
      some (x2, s0)
    else
      some ((p_w (x2 + v1)), s0)
set_option maxRecDepth 100000 in
set_option maxHeartbeats 4000000 in
theorem tF_Ma_floorMod (K : p_K) (l : Launch) (v0 : Int) (v1 : Int) (s0 : p_Hp) (r : (Int × p_Hp)) (h : F_Ma_floorMod v0 v1 s0 = some r) : p_Ct K l m_Ma_floorMod [p_i v0, p_i v1] s0 (some (p_i r.1), r.2) := by
  refine p_Ct.of (by decide +kernel) (Nat.le_of_ble_eq_true rfl) ?_
  unfold F_Ma_floorMod at h
  show p_Go K l m_Ma_floorMod 0 [(0, p_i v0), (1, p_i v1)] [] s0 _
  refine g_iload_n (i := 0) (j := 0) (dk_Ma_floorMod 0 rfl) rfl rfl ?_
  refine g_iload_n (i := 1) (j := 1) (dk_Ma_floorMod 1 rfl) rfl rfl ?_
  obtain ⟨c1, h⟩ := p_gdE h
  refine g_irem (dk_Ma_floorMod 2 rfl) c1 ?_
  refine g_istore_n (i := 2) [(2, p_i (p_rem v0 v1)), (0, p_i v0), (1, p_i v1)] (dk_Ma_floorMod 3 rfl) rfl (by decide) rfl ?_
  refine p_ltG (P := fun q => p_Go K l m_Ma_floorMod 4 [(2, p_i q), (0, p_i v0), (1, p_i v1)] [] s0 _) ?_ h
  intro x2 h
  refine g_iload_n (i := 0) (j := 1) (dk_Ma_floorMod 4 rfl) rfl rfl ?_
  refine g_iload_n (i := 1) (j := 2) (dk_Ma_floorMod 5 rfl) rfl rfl ?_
  refine g_ixor (dk_Ma_floorMod 6 rfl) ?_
  refine g_if_ge 18 (dk_Ma_floorMod 7 rfl) (by decide) (fun b3 => ?_) (fun b3 => ?_)
  · have h := p_ifT b3 h
    refine g_iload_n (i := 2) (j := 0) (dk_Ma_floorMod 14 rfl) rfl rfl ?_
    cases h
    exact g_ret rfl rfl (dk_Ma_floorMod 15 rfl) (fun os => ⟨_, rfl, p_okh os⟩)
  · have h := p_ifF b3 h
    refine g_iload_n (i := 2) (j := 0) (dk_Ma_floorMod 8 rfl) rfl rfl ?_
    refine g_if_eq 18 (dk_Ma_floorMod 9 rfl) (by decide) (fun b4 => ?_) (fun b4 => ?_)
    · have h := p_ifT b4 h
      refine g_iload_n (i := 2) (j := 0) (dk_Ma_floorMod 14 rfl) rfl rfl ?_
      cases h
      exact g_ret rfl rfl (dk_Ma_floorMod 15 rfl) (fun os => ⟨_, rfl, p_okh os⟩)
    · have h := p_ifF b4 h
      refine g_iload_n (i := 2) (j := 0) (dk_Ma_floorMod 10 rfl) rfl rfl ?_
      refine g_iload_n (i := 1) (j := 2) (dk_Ma_floorMod 11 rfl) rfl rfl ?_
      refine g_iadd (dk_Ma_floorMod 12 rfl) ?_
      cases h
      exact g_ret rfl rfl (dk_Ma_floorMod 13 rfl) (fun os => ⟨_, rfl, p_okh os⟩)
def m_Works_goBack : p_Me := (⟨"SortWorks$Works", "goBack", "(I)V"⟩, prog_11_method_7_code, 2, none, 3, 107)
theorem mt_Works_goBack : p_Mt m_Works_goBack 1 := ⟨p_mem (p_tb5 (List.mem_of_getElem? (i := 107) rfl)) rfl, tw_1_2, by decide +kernel, by decide +kernel, by decide +kernel⟩
def dt_Works_goBack : List (Nat × Instr × Nat) := [(0, .aload_n 0, 1), (1, .aload_n 0, 1), (2, .getfield 94, 3), (5, .iload_n 1, 1), (6, .isub, 1), (7, .bipush 30, 2), (9, .invokestatic 110, 3), (12, .putfield 94, 3), (15, .aload_n 0, 1), (16, .dup, 1), (17, .getfield 101, 3), (20, .iload_n 1, 1), (21, .isub, 1), (22, .putfield 101, 3), (25, .aload_n 0, 1), (26, .iconst 0, 1), (27, .putfield 113, 3), (30, .aload_n 0, 1), (31, .getfield 12, 3), (34, .aload_n 0, 1), (35, .getfield 94, 3), (38, .aload_n 0, 1), (39, .getfield 53, 3), (42, .invokevirtual 116, 3), (45, .return_, 1)]
theorem dk_Works_goBack (i : Nat) {pc : Nat} {ins : Instr} {len : Nat} (h : dt_Works_goBack[i]? = some (pc, ins, len)) : decode m_Works_goBack.2.1 pc = .ok (ins, len) := p_dk (b := m_Works_goBack.2.1) (t := dt_Works_goBack) (by decide +kernel) i h
def F_Works_goBack (v0 : Nat) (v1 : Int) (s0 : p_Hp) : Option p_Hp :=
  p_gd (p_is s0 v0 9) <|
  p_bd (F_Ma_floorMod (p_w ((p_Z s0 v0 12) - v1)) 30 s0) fun r6 s2 =>
  p_bi (p_wZ s2 v0 12 r6) fun s7 =>
  p_bi (p_wZ s7 v0 13 (p_w ((p_Z s7 v0 13) - v1))) fun s9 =>
  p_bi (p_wZ s9 v0 11 0) fun s11 =>
  p_gd (p_is s11 (p_R s11 v0 1) 7) <|
  p_bv (F_State_goBack (p_R s11 v0 1) (p_Z s11 v0 12) (p_Z s11 v0 2) s11) fun s14 =>
  some s14
set_option maxRecDepth 100000 in
set_option maxHeartbeats 4000000 in
theorem tF_Works_goBack (K : p_K) (l : Launch) (v0 : Nat) (v1 : Int) (s0 : p_Hp) (r : p_Hp) (h : F_Works_goBack v0 v1 s0 = some r) : p_Ct K l m_Works_goBack [p_r v0, p_i v1] s0 (none, r) := by
  refine p_Ct.of (by decide +kernel) (Nat.le_of_ble_eq_true rfl) ?_
  unfold F_Works_goBack at h
  show p_Go K l m_Works_goBack 0 [(0, p_r v0), (1, p_i v1)] [] s0 _
  refine g_aload_n (i := 0) (j := 0) (dk_Works_goBack 0 rfl) rfl rfl ?_
  refine g_aload_n (i := 0) (j := 0) (dk_Works_goBack 1 rfl) rfl rfl ?_
  obtain ⟨c1, h⟩ := p_gdE h
  refine g_getI fl_Works_94 (Or.inl rfl) (dk_Works_goBack 2 rfl) c1 ?_
  refine g_iload_n (i := 1) (j := 1) (dk_Works_goBack 3 rfl) rfl rfl ?_
  refine g_isub (dk_Works_goBack 4 rfl) ?_
  refine g_bipush (dk_Works_goBack 5 rfl) (by decide +kernel) (by decide) ?_
  obtain ⟨r6, s2, q3, h⟩ := p_bdE h
  have t4 := tF_Ma_floorMod K l (p_w ((p_Z s0 v0 12) - v1)) 30 s0 _ q3
  refine g_callS (av := [p_i (p_w ((p_Z s0 v0 12) - v1)), p_i 30]) (rest := [p_r v0]) [p_i r6, p_r v0] mt_Ma_floorMod tw_5_109 tw_5_108 ⟨Nat.le_of_ble_eq_true rfl, Nat.le_of_ble_eq_true rfl⟩ rfl (Nat.le_of_ble_eq_true rfl) (dk_Works_goBack 6 rfl) rfl rfl t4 ?_
  have hs5 : p_x s0 s2 := t4.1
  show p_Go K l m_Works_goBack 12 [(0, p_r v0), (1, p_i v1)] [p_i r6, p_r v0] s2 _
  refine g_putI fl_Works_94 (Or.inl rfl) (dk_Works_goBack 7 rfl) (c1.up hs5) ?_
  refine p_ltS (P := fun q => p_Go K l m_Works_goBack 15 [(0, p_r v0), (1, p_i v1)] [] q _) (p_xZ _ _ _ _) ?_ h
  intro s7 hs8 h
  refine g_aload_n (i := 0) (j := 0) (dk_Works_goBack 8 rfl) rfl rfl ?_
  refine g_dup (dk_Works_goBack 9 rfl) rfl ?_
  refine g_getI fl_Works_101 (Or.inl rfl) (dk_Works_goBack 10 rfl) (c1.up (hs5.trans hs8)) ?_
  refine g_iload_n (i := 1) (j := 1) (dk_Works_goBack 11 rfl) rfl rfl ?_
  refine g_isub (dk_Works_goBack 12 rfl) ?_
  refine g_putI fl_Works_101 (Or.inl rfl) (dk_Works_goBack 13 rfl) (c1.up (hs5.trans hs8)) ?_
  refine p_ltS (P := fun q => p_Go K l m_Works_goBack 25 [(0, p_r v0), (1, p_i v1)] [] q _) (p_xZ _ _ _ _) ?_ h
  intro s9 hs10 h
  refine g_aload_n (i := 0) (j := 0) (dk_Works_goBack 14 rfl) rfl rfl ?_
  refine g_iconst (dk_Works_goBack 15 rfl) (by decide) ?_
  refine g_putI fl_Works_113 (Or.inl rfl) (dk_Works_goBack 16 rfl) (c1.up (hs5.trans (hs8.trans hs10))) ?_
  refine p_ltS (P := fun q => p_Go K l m_Works_goBack 30 [(0, p_r v0), (1, p_i v1)] [] q _) (p_xZ _ _ _ _) ?_ h
  intro s11 hs12 h
  refine g_aload_n (i := 0) (j := 0) (dk_Works_goBack 17 rfl) rfl rfl ?_
  refine g_getR fl_Works_12 (Or.inl ⟨_, rfl⟩) (dk_Works_goBack 18 rfl) (c1.up (hs5.trans (hs8.trans (hs10.trans hs12)))) ?_
  refine g_aload_n (i := 0) (j := 0) (dk_Works_goBack 19 rfl) rfl rfl ?_
  refine g_getI fl_Works_94 (Or.inl rfl) (dk_Works_goBack 20 rfl) (c1.up (hs5.trans (hs8.trans (hs10.trans hs12)))) ?_
  refine g_aload_n (i := 0) (j := 0) (dk_Works_goBack 21 rfl) rfl rfl ?_
  refine g_getI fl_Works_53 (Or.inl rfl) (dk_Works_goBack 22 rfl) (c1.up (hs5.trans (hs8.trans (hs10.trans hs12)))) ?_
  obtain ⟨c13, h⟩ := p_gdE h
  obtain ⟨s14, q15, h⟩ := p_bvE h
  have t16 := tF_State_goBack K l (p_R s11 v0 1) (p_Z s11 v0 12) (p_Z s11 v0 2) s11 _ q15
  refine g_callV (a := (p_R s11 v0 1)) (ci := 7) (q0 := (RX7, TX7, 10)) (As := [p_i (p_Z s11 v0 12), p_i (p_Z s11 v0 2)]) (rest := []) [] mt_State_goBack rfl rfl tw_5_112 tw_5_113 tw_5_111 ⟨Nat.le_of_ble_eq_true rfl, Nat.le_of_ble_eq_true rfl⟩ rfl (Nat.le_of_ble_eq_true rfl) (dk_Works_goBack 23 rfl) rfl c13 rfl t16 ?_
  have hs17 : p_x s11 s14 := t16.1
  show p_Go K l m_Works_goBack 45 [(0, p_r v0), (1, p_i v1)] [] s14 _
  cases h
  exact g_ret rfl rfl (dk_Works_goBack 24 rfl) (fun _ => rfl)
def m_SW_back : p_Me := (⟨"SortWorks", "back", "(I)I"⟩, prog_1_method_33_code, 2, (some .int), 4, 128)
theorem mt_SW_back : p_Mt m_SW_back 1 := ⟨p_mem (p_tb5 (List.mem_of_getElem? (i := 103) rfl)) rfl, tw_1_1, by decide +kernel, by decide +kernel, by decide +kernel⟩
def dt_SW_back : List (Nat × Instr × Nat) := [(0, .iload_n 1, 1), (1, .iconst 1, 1), (2, .if_icmp .lt 9, 3), (5, .iload_n 1, 1), (6, .bipush 30, 2), (8, .if_icmp .le 10, 3), (11, .aload_n 0, 1), (12, .bipush (-2), 2), (14, .invokevirtual 61, 3), (17, .ireturn, 1), (18, .iload_n 1, 1), (19, .aload_n 0, 1), (20, .getfield 18, 3), (23, .getfield 291, 3), (26, .if_icmp .le 10, 3), (29, .aload_n 0, 1), (30, .bipush (-3), 2), (32, .invokevirtual 61, 3), (35, .ireturn, 1), (36, .aload_n 0, 1), (37, .getfield 18, 3), (40, .iload_n 1, 1), (41, .invokevirtual 294, 3), (44, .aload_n 0, 1), (45, .getfield 25, 3), (48, .aload_n 0, 1), (49, .getfield 18, 3), (52, .getfield 64, 3), (55, .aload_n 0, 1), (56, .getfield 18, 3), (59, .getfield 77, 3), (62, .invokevirtual 297, 3), (65, .aload_n 0, 1), (66, .aload_n 0, 1), (67, .getfield 18, 3), (70, .getfield 77, 3), (73, .getfield 277, 3), (76, .invokevirtual 57, 3), (79, .ireturn, 1)]
theorem dk_SW_back (i : Nat) {pc : Nat} {ins : Instr} {len : Nat} (h : dt_SW_back[i]? = some (pc, ins, len)) : decode m_SW_back.2.1 pc = .ok (ins, len) := p_dk (b := m_SW_back.2.1) (t := dt_SW_back) (by decide +kernel) i h
def B_SW_back_11  (v0 : Nat) (s0 : p_Hp) : Option (Int × p_Hp) :=
  p_gd (p_is s0 v0 10) <|
  p_bd (F_SW_refuse v0 (-2) s0) fun r6 s2 =>
  some (r6, s2)
def F_SW_back (v0 : Nat) (v1 : Int) (s0 : p_Hp) : Option (Int × p_Hp) :=
  if v1 < 1 then
    B_SW_back_11 v0 s0
  else
    if v1 ≤ 30 then
      p_gd (p_is s0 v0 10) <|
      p_gd (p_is s0 (p_R s0 v0 1) 9) <|
      if v1 ≤ (p_Z s0 (p_R s0 v0 1) 13) then
        p_bv (F_Works_goBack (p_R s0 v0 1) v1 s0) fun s6 =>
        p_gd (p_is s6 (p_R s6 v0 1) 9) <|
        p_gd (p_is s6 (p_R s6 v0 2) 3) <|
        p_bv (F_Numbers_undoSince (p_R s6 v0 2) (p_Z s6 (p_R s6 v0 1) 0) (p_R s6 (p_R s6 v0 1) 1) s6) fun s12 =>
        p_gd (p_is s12 (p_R s12 v0 1) 9) <|
        p_gd (p_is s12 (p_R s12 (p_R s12 v0 1) 1) 7) <|
        p_bd (F_SW_done v0 (p_Z s12 (p_R s12 (p_R s12 v0 1) 1) 0) s12) fun r22 s18 =>
        some (r22, s18)
      else
        p_bd (F_SW_refuse v0 (-3) s0) fun r27 s23 =>
        some (r27, s23)
    else
      B_SW_back_11 v0 s0
set_option maxRecDepth 100000 in
set_option maxHeartbeats 4000000 in
theorem tB_SW_back_11 (K : p_K) (l : Launch)  (v0 : Nat) (s0 : p_Hp) (r : (Int × p_Hp)) (h : B_SW_back_11 v0 s0 = some r) : p_Go K l m_SW_back 11 [(0, p_r v0)] [] s0 (some (p_i r.1), r.2) := by
  unfold B_SW_back_11 at h
  refine g_aload_n (i := 0) (j := 0) (dk_SW_back 6 rfl) rfl rfl ?_
  refine g_bipush (dk_SW_back 7 rfl) (by decide +kernel) (by decide) ?_
  obtain ⟨c1, h⟩ := p_gdE h
  obtain ⟨r6, s2, q3, h⟩ := p_bdE h
  have t4 := tF_SW_refuse K l v0 (-2) s0 _ q3
  refine g_callV (a := v0) (ci := 10) (q0 := (RX10, TX10, 9)) (As := [p_i (-2)]) (rest := []) [p_i r6] mt_SW_refuse rfl rfl tw_3_66 ts_0 tw_3_64 ⟨Nat.le_of_ble_eq_true rfl, Nat.le_of_ble_eq_true rfl⟩ rfl (Nat.le_of_ble_eq_true rfl) (dk_SW_back 8 rfl) rfl c1 rfl t4 ?_
  have hs5 : p_x s0 s2 := t4.1
  show p_Go K l m_SW_back 17 [(0, p_r v0)] [p_i r6] s2 _
  cases h
  exact g_ret rfl rfl (dk_SW_back 9 rfl) (fun os => ⟨_, rfl, p_okh os⟩)
set_option maxRecDepth 100000 in
set_option maxHeartbeats 4000000 in
theorem tF_SW_back (K : p_K) (l : Launch) (v0 : Nat) (v1 : Int) (s0 : p_Hp) (r : (Int × p_Hp)) (h : F_SW_back v0 v1 s0 = some r) : p_Ct K l m_SW_back [p_r v0, p_i v1] s0 (some (p_i r.1), r.2) := by
  refine p_Ct.of (by decide +kernel) (Nat.le_of_ble_eq_true rfl) ?_
  unfold F_SW_back at h
  show p_Go K l m_SW_back 0 [(0, p_r v0), (1, p_i v1)] [] s0 _
  refine g_iload_n (i := 1) (j := 1) (dk_SW_back 0 rfl) rfl rfl ?_
  refine g_iconst (dk_SW_back 1 rfl) (by decide) ?_
  refine g_icmp_lt 11 (dk_SW_back 2 rfl) (by decide) (fun b1 => ?_) (fun b1 => ?_)
  · have h := p_ifT b1 h
    refine g_sub [(0, p_r v0)] [0] rfl ?_
    exact tB_SW_back_11 K l v0 s0 _ h
  · have h := p_ifF b1 h
    refine g_iload_n (i := 1) (j := 1) (dk_SW_back 3 rfl) rfl rfl ?_
    refine g_bipush (dk_SW_back 4 rfl) (by decide +kernel) (by decide) ?_
    refine g_icmp_le 18 (dk_SW_back 5 rfl) (by decide) (fun b2 => ?_) (fun b2 => ?_)
    · have h := p_ifT b2 h
      refine g_iload_n (i := 1) (j := 1) (dk_SW_back 10 rfl) rfl rfl ?_
      refine g_aload_n (i := 0) (j := 0) (dk_SW_back 11 rfl) rfl rfl ?_
      obtain ⟨c3, h⟩ := p_gdE h
      refine g_getR fl_SW_18 (Or.inl ⟨_, rfl⟩) (dk_SW_back 12 rfl) c3 ?_
      obtain ⟨c4, h⟩ := p_gdE h
      refine g_getI fl_SW_291 (Or.inl rfl) (dk_SW_back 13 rfl) c4 ?_
      refine g_icmp_le 36 (dk_SW_back 14 rfl) (by decide) (fun b5 => ?_) (fun b5 => ?_)
      · have h := p_ifT b5 h
        refine g_aload_n (i := 0) (j := 0) (dk_SW_back 19 rfl) rfl rfl ?_
        refine g_getR fl_SW_18 (Or.inl ⟨_, rfl⟩) (dk_SW_back 20 rfl) c3 ?_
        refine g_iload_n (i := 1) (j := 1) (dk_SW_back 21 rfl) rfl rfl ?_
        obtain ⟨s6, q7, h⟩ := p_bvE h
        have t8 := tF_Works_goBack K l (p_R s0 v0 1) v1 s0 _ q7
        refine g_callV (a := (p_R s0 v0 1)) (ci := 9) (q0 := (RX9, TX9, 15)) (As := [p_i v1]) (rest := []) [] mt_Works_goBack rfl rfl tw_5_105 tw_5_106 tw_5_104 ⟨Nat.le_of_ble_eq_true rfl, Nat.le_of_ble_eq_true rfl⟩ rfl (Nat.le_of_ble_eq_true rfl) (dk_SW_back 22 rfl) rfl c4 rfl t8 ?_
        have hs9 : p_x s0 s6 := t8.1
        show p_Go K l m_SW_back 44 [(0, p_r v0), (1, p_i v1)] [] s6 _
        refine g_aload_n (i := 0) (j := 0) (dk_SW_back 23 rfl) rfl rfl ?_
        refine g_getR fl_SW_25 (Or.inl ⟨_, rfl⟩) (dk_SW_back 24 rfl) (c3.up hs9) ?_
        refine g_aload_n (i := 0) (j := 0) (dk_SW_back 25 rfl) rfl rfl ?_
        refine g_getR fl_SW_18 (Or.inl ⟨_, rfl⟩) (dk_SW_back 26 rfl) (c3.up hs9) ?_
        obtain ⟨c10, h⟩ := p_gdE h
        refine g_getI fl_SW_64 (Or.inl rfl) (dk_SW_back 27 rfl) c10 ?_
        refine g_aload_n (i := 0) (j := 0) (dk_SW_back 28 rfl) rfl rfl ?_
        refine g_getR fl_SW_18 (Or.inl ⟨_, rfl⟩) (dk_SW_back 29 rfl) (c3.up hs9) ?_
        refine g_getR fl_SW_77 (Or.inl ⟨_, rfl⟩) (dk_SW_back 30 rfl) c10 ?_
        obtain ⟨c11, h⟩ := p_gdE h
        obtain ⟨s12, q13, h⟩ := p_bvE h
        have t14 := tF_Numbers_undoSince K l (p_R s6 v0 2) (p_Z s6 (p_R s6 v0 1) 0) (p_R s6 (p_R s6 v0 1) 1) s6 _ q13
        refine g_callV (a := (p_R s6 v0 2)) (ci := 3) (q0 := (RX3, TX3, 2)) (As := [p_i (p_Z s6 (p_R s6 v0 1) 0), p_r (p_R s6 (p_R s6 v0 1) 1)]) (rest := []) [] mt_Numbers_undoSince rfl rfl tw_5_129 tw_5_130 tw_5_128 ⟨Nat.le_of_ble_eq_true rfl, Nat.le_of_ble_eq_true rfl⟩ rfl (Nat.le_of_ble_eq_true rfl) (dk_SW_back 31 rfl) rfl c11 rfl t14 ?_
        have hs15 : p_x s6 s12 := t14.1
        show p_Go K l m_SW_back 65 [(0, p_r v0), (1, p_i v1)] [] s12 _
        refine g_aload_n (i := 0) (j := 0) (dk_SW_back 32 rfl) rfl rfl ?_
        refine g_aload_n (i := 0) (j := 0) (dk_SW_back 33 rfl) rfl rfl ?_
        refine g_getR fl_SW_18 (Or.inl ⟨_, rfl⟩) (dk_SW_back 34 rfl) (c3.up (hs9.trans hs15)) ?_
        obtain ⟨c16, h⟩ := p_gdE h
        refine g_getR fl_SW_77 (Or.inl ⟨_, rfl⟩) (dk_SW_back 35 rfl) c16 ?_
        obtain ⟨c17, h⟩ := p_gdE h
        refine g_getI fl_SW_277 (Or.inl rfl) (dk_SW_back 36 rfl) c17 ?_
        obtain ⟨r22, s18, q19, h⟩ := p_bdE h
        have t20 := tF_SW_done K l v0 (p_Z s12 (p_R s12 (p_R s12 v0 1) 1) 0) s12 _ q19
        refine g_callV (a := v0) (ci := 10) (q0 := (RX10, TX10, 9)) (As := [p_i (p_Z s12 (p_R s12 (p_R s12 v0 1) 1) 0)]) (rest := []) [p_i r22] mt_SW_done rfl rfl tw_3_70 ts_1 tw_3_68 ⟨Nat.le_of_ble_eq_true rfl, Nat.le_of_ble_eq_true rfl⟩ rfl (Nat.le_of_ble_eq_true rfl) (dk_SW_back 37 rfl) rfl (c3.up (hs9.trans hs15)) rfl t20 ?_
        have hs21 : p_x s12 s18 := t20.1
        show p_Go K l m_SW_back 79 [(0, p_r v0), (1, p_i v1)] [p_i r22] s18 _
        cases h
        exact g_ret rfl rfl (dk_SW_back 38 rfl) (fun os => ⟨_, rfl, p_okh os⟩)
      · have h := p_ifF b5 h
        refine g_aload_n (i := 0) (j := 0) (dk_SW_back 15 rfl) rfl rfl ?_
        refine g_bipush (dk_SW_back 16 rfl) (by decide +kernel) (by decide) ?_
        obtain ⟨r27, s23, q24, h⟩ := p_bdE h
        have t25 := tF_SW_refuse K l v0 (-3) s0 _ q24
        refine g_callV (a := v0) (ci := 10) (q0 := (RX10, TX10, 9)) (As := [p_i (-3)]) (rest := []) [p_i r27] mt_SW_refuse rfl rfl tw_3_66 ts_0 tw_3_64 ⟨Nat.le_of_ble_eq_true rfl, Nat.le_of_ble_eq_true rfl⟩ rfl (Nat.le_of_ble_eq_true rfl) (dk_SW_back 17 rfl) rfl c3 rfl t25 ?_
        have hs26 : p_x s0 s23 := t25.1
        show p_Go K l m_SW_back 35 [(0, p_r v0), (1, p_i v1)] [p_i r27] s23 _
        cases h
        exact g_ret rfl rfl (dk_SW_back 18 rfl) (fun os => ⟨_, rfl, p_okh os⟩)
    · have h := p_ifF b2 h
      refine g_sub [(0, p_r v0)] [0] rfl ?_
      exact tB_SW_back_11 K l v0 s0 _ h
def m_SW_status : p_Me := (⟨"SortWorks", "status", "()I"⟩, prog_1_method_34_code, 1, (some .int), 0, 0)
theorem mt_SW_status : p_Mt m_SW_status 0 := ⟨p_mem (p_tb5 (List.mem_of_getElem? (i := 135) rfl)) rfl, tw_1_1, by decide +kernel, by decide +kernel, by decide +kernel⟩
def dt_SW_status : List (Nat × Instr × Nat) := [(0, .aload_n 0, 1), (1, .getfield 51, 3), (4, .ireturn, 1)]
theorem dk_SW_status (i : Nat) {pc : Nat} {ins : Instr} {len : Nat} (h : dt_SW_status[i]? = some (pc, ins, len)) : decode m_SW_status.2.1 pc = .ok (ins, len) := p_dk (b := m_SW_status.2.1) (t := dt_SW_status) (by decide +kernel) i h
def F_SW_status (v0 : Nat) (s0 : p_Hp) : Option (Int × p_Hp) :=
  p_gd (p_is s0 v0 10) <|
  some ((p_Z s0 v0 8), s0)
set_option maxRecDepth 100000 in
set_option maxHeartbeats 4000000 in
theorem tF_SW_status (K : p_K) (l : Launch) (v0 : Nat) (s0 : p_Hp) (r : (Int × p_Hp)) (h : F_SW_status v0 s0 = some r) : p_Ct K l m_SW_status [p_r v0] s0 (some (p_i r.1), r.2) := by
  refine p_Ct.of (by decide +kernel) (Nat.le_of_ble_eq_true rfl) ?_
  unfold F_SW_status at h
  show p_Go K l m_SW_status 0 [(0, p_r v0)] [] s0 _
  refine g_aload_n (i := 0) (j := 0) (dk_SW_status 0 rfl) rfl rfl ?_
  obtain ⟨c1, h⟩ := p_gdE h
  refine g_getI fl_SW_51 (Or.inl rfl) (dk_SW_status 1 rfl) c1 ?_
  cases h
  exact g_ret rfl rfl (dk_SW_status 2 rfl) (fun os => ⟨_, rfl, p_okh os⟩)
def m_Gear_tell : p_Me := (⟨"SortWorks$Gear", "tell", "(I)I"⟩, prog_2_method_22_code, 2, (some .int), 1, 22)
theorem mt_Gear_tell : p_Mt m_Gear_tell 1 := ⟨p_mem (p_tb5 (List.mem_of_getElem? (i := 143) rfl)) rfl, tw_1_5, by decide +kernel, by decide +kernel, by decide +kernel⟩
def dt_Gear_tell : List (Nat × Instr × Nat) := [(0, .iload_n 1, 1), (1, .tableswitch 198 0 15 #[79, 84, 89, 114, 119, 124, 129, 134, 139, 144, 149, 154, 159, 168, 175, 180], 79), (80, .aload_n 0, 1), (81, .getfield 35, 3), (84, .ireturn, 1), (85, .aload_n 0, 1), (86, .getfield 85, 3), (89, .ireturn, 1), (90, .aload_n 0, 1), (91, .getfield 35, 3), (94, .bipush 9, 2), (96, .if_icmp .ne 14, 3), (99, .aload_n 0, 1), (100, .getfield 53, 3), (103, .ifCond .eq 7, 3), (106, .iconst 1, 1), (107, .goto 7, 3), (110, .aload_n 0, 1), (111, .getfield 50, 3), (114, .ireturn, 1), (115, .aload_n 0, 1), (116, .getfield 57, 3), (119, .ireturn, 1), (120, .aload_n 0, 1), (121, .getfield 60, 3), (124, .ireturn, 1), (125, .aload_n 0, 1), (126, .getfield 63, 3), (129, .ireturn, 1), (130, .aload_n 0, 1), (131, .getfield 66, 3), (134, .ireturn, 1), (135, .aload_n 0, 1), (136, .getfield 69, 3), (139, .ireturn, 1), (140, .aload_n 0, 1), (141, .getfield 72, 3), (144, .ireturn, 1), (145, .aload_n 0, 1), (146, .invokevirtual 126, 3), (149, .ireturn, 1), (150, .aload_n 0, 1), (151, .getfield 75, 3), (154, .ireturn, 1), (155, .aload_n 0, 1), (156, .getfield 41, 3), (159, .ireturn, 1), (160, .getstatic 130, 3), (163, .aload_n 0, 1), (164, .getfield 35, 3), (167, .iaload, 1), (168, .ireturn, 1), (169, .aload_n 0, 1), (170, .getfield 23, 3), (173, .iconst 1, 1), (174, .iadd, 1), (175, .ireturn, 1), (176, .aload_n 0, 1), (177, .getfield 78, 3), (180, .ireturn, 1), (181, .aload_n 0, 1), (182, .getfield 9, 3), (185, .iconst (-1), 1), (186, .if_icmp .ne 8, 3), (189, .bipush (-9), 2), (191, .goto 7, 3), (194, .aload_n 0, 1), (195, .getfield 9, 3), (198, .ireturn, 1), (199, .bipush (-2), 2), (201, .ireturn, 1)]
theorem dk_Gear_tell (i : Nat) {pc : Nat} {ins : Instr} {len : Nat} (h : dt_Gear_tell[i]? = some (pc, ins, len)) : decode m_Gear_tell.2.1 pc = .ok (ins, len) := p_dk (b := m_Gear_tell.2.1) (t := dt_Gear_tell) (by decide +kernel) i h
def F_Gear_tell (v0 : Nat) (v1 : Int) (s0 : p_Hp) : Option (Int × p_Hp) :=
  if v1 = 0 then
    p_gd (p_is s0 v0 0) <|
    some ((p_Z s0 v0 0), s0)
  else if v1 = 1 then
    p_gd (p_is s0 v0 0) <|
    some ((p_Z s0 v0 1), s0)
  else if v1 = 2 then
    p_gd (p_is s0 v0 0) <|
    if (p_Z s0 v0 0) ≠ 9 then
      some ((p_Z s0 v0 6), s0)
    else
      if (p_Z s0 v0 7) = 0 then
        some ((p_Z s0 v0 6), s0)
      else
        some (1, s0)
  else if v1 = 3 then
    p_gd (p_is s0 v0 0) <|
    some ((p_Z s0 v0 8), s0)
  else if v1 = 4 then
    p_gd (p_is s0 v0 0) <|
    some ((p_Z s0 v0 9), s0)
  else if v1 = 5 then
    p_gd (p_is s0 v0 0) <|
    some ((p_Z s0 v0 10), s0)
  else if v1 = 6 then
    p_gd (p_is s0 v0 0) <|
    some ((p_Z s0 v0 11), s0)
  else if v1 = 7 then
    p_gd (p_is s0 v0 0) <|
    some ((p_Z s0 v0 12), s0)
  else if v1 = 8 then
    p_gd (p_is s0 v0 0) <|
    some ((p_Z s0 v0 13), s0)
  else if v1 = 9 then
    p_gd (p_is s0 v0 0) <|
    p_bd (F_Gear_parcels v0 s0) fun r27 s23 =>
    some (r27, s23)
  else if v1 = 10 then
    p_gd (p_is s0 v0 0) <|
    some ((p_Z s0 v0 14), s0)
  else if v1 = 11 then
    p_gd (p_is s0 v0 0) <|
    some ((p_Z s0 v0 2), s0)
  else if v1 = 12 then
    p_gd (p_is s0 v0 0) <|
    p_gd ((0 : Int) ≤ (p_Z s0 v0 0) ∧ (p_Z s0 v0 0) < (sw_tl 2 : Int)) <|
    some ((sw_tab 2 ((p_Z s0 v0 0) : Int).toNat), s0)
  else if v1 = 13 then
    p_gd (p_is s0 v0 0) <|
    some ((p_w ((p_Z s0 v0 15) + 1)), s0)
  else if v1 = 14 then
    p_gd (p_is s0 v0 0) <|
    some ((p_Z s0 v0 16), s0)
  else if v1 = 15 then
    p_gd (p_is s0 v0 0) <|
    if (p_Z s0 v0 3) ≠ (-1) then
      some ((p_Z s0 v0 3), s0)
    else
      some ((-9), s0)
  else 
  some ((-2), s0)
set_option maxRecDepth 100000 in
set_option maxHeartbeats 4000000 in
theorem tF_Gear_tell (K : p_K) (l : Launch) (v0 : Nat) (v1 : Int) (s0 : p_Hp) (r : (Int × p_Hp)) (h : F_Gear_tell v0 v1 s0 = some r) : p_Ct K l m_Gear_tell [p_r v0, p_i v1] s0 (some (p_i r.1), r.2) := by
  refine p_Ct.of (by decide +kernel) (Nat.le_of_ble_eq_true rfl) ?_
  unfold F_Gear_tell at h
  show p_Go K l m_Gear_tell 0 [(0, p_r v0), (1, p_i v1)] [] s0 _
  refine g_iload_n (i := 1) (j := 1) (dk_Gear_tell 0 rfl) rfl rfl ?_
  rcases p_iteE h with ⟨b1, h⟩ | ⟨b1, h⟩
  · refine g_tableIn 80 (dk_Gear_tell 1 rfl) (by omega) (by omega) (by rw [b1]; rfl) (by decide) ?_
    refine g_aload_n (i := 0) (j := 0) (dk_Gear_tell 2 rfl) rfl rfl ?_
    obtain ⟨c2, h⟩ := p_gdE h
    refine g_getI fl_Gear_35 (Or.inl rfl) (dk_Gear_tell 3 rfl) c2 ?_
    cases h
    exact g_ret rfl rfl (dk_Gear_tell 4 rfl) (fun os => ⟨_, rfl, p_okh os⟩)
  rcases p_iteE h with ⟨b3, h⟩ | ⟨b3, h⟩
  · refine g_tableIn 85 (dk_Gear_tell 1 rfl) (by omega) (by omega) (by rw [b3]; rfl) (by decide) ?_
    refine g_aload_n (i := 0) (j := 0) (dk_Gear_tell 5 rfl) rfl rfl ?_
    obtain ⟨c4, h⟩ := p_gdE h
    refine g_getI fl_Gear_85 (Or.inl rfl) (dk_Gear_tell 6 rfl) c4 ?_
    cases h
    exact g_ret rfl rfl (dk_Gear_tell 7 rfl) (fun os => ⟨_, rfl, p_okh os⟩)
  rcases p_iteE h with ⟨b5, h⟩ | ⟨b5, h⟩
  · refine g_tableIn 90 (dk_Gear_tell 1 rfl) (by omega) (by omega) (by rw [b5]; rfl) (by decide) ?_
    refine g_aload_n (i := 0) (j := 0) (dk_Gear_tell 8 rfl) rfl rfl ?_
    obtain ⟨c6, h⟩ := p_gdE h
    refine g_getI fl_Gear_35 (Or.inl rfl) (dk_Gear_tell 9 rfl) c6 ?_
    refine g_bipush (dk_Gear_tell 10 rfl) (by decide +kernel) (by decide) ?_
    refine g_icmp_ne 110 (dk_Gear_tell 11 rfl) (by decide) (fun b7 => ?_) (fun b7 => ?_)
    · have h := p_ifT b7 h
      refine g_aload_n (i := 0) (j := 0) (dk_Gear_tell 17 rfl) rfl rfl ?_
      refine g_getI fl_Gear_50 (Or.inl rfl) (dk_Gear_tell 18 rfl) c6 ?_
      cases h
      exact g_ret rfl rfl (dk_Gear_tell 19 rfl) (fun os => ⟨_, rfl, p_okh os⟩)
    · have h := p_ifF b7 h
      refine g_aload_n (i := 0) (j := 0) (dk_Gear_tell 12 rfl) rfl rfl ?_
      refine g_getI fl_Gear_53 (Or.inr rfl) (dk_Gear_tell 13 rfl) c6 ?_
      refine g_if_eq 110 (dk_Gear_tell 14 rfl) (by decide) (fun b8 => ?_) (fun b8 => ?_)
      · have h := p_ifT b8 h
        refine g_aload_n (i := 0) (j := 0) (dk_Gear_tell 17 rfl) rfl rfl ?_
        refine g_getI fl_Gear_50 (Or.inl rfl) (dk_Gear_tell 18 rfl) c6 ?_
        cases h
        exact g_ret rfl rfl (dk_Gear_tell 19 rfl) (fun os => ⟨_, rfl, p_okh os⟩)
      · have h := p_ifF b8 h
        refine g_iconst (dk_Gear_tell 15 rfl) (by decide) ?_
        refine g_goto 114 (dk_Gear_tell 16 rfl) (by decide) ?_
        cases h
        exact g_ret rfl rfl (dk_Gear_tell 19 rfl) (fun os => ⟨_, rfl, p_okh os⟩)
  rcases p_iteE h with ⟨b9, h⟩ | ⟨b9, h⟩
  · refine g_tableIn 115 (dk_Gear_tell 1 rfl) (by omega) (by omega) (by rw [b9]; rfl) (by decide) ?_
    refine g_aload_n (i := 0) (j := 0) (dk_Gear_tell 20 rfl) rfl rfl ?_
    obtain ⟨c10, h⟩ := p_gdE h
    refine g_getI fl_Gear_57 (Or.inl rfl) (dk_Gear_tell 21 rfl) c10 ?_
    cases h
    exact g_ret rfl rfl (dk_Gear_tell 22 rfl) (fun os => ⟨_, rfl, p_okh os⟩)
  rcases p_iteE h with ⟨b11, h⟩ | ⟨b11, h⟩
  · refine g_tableIn 120 (dk_Gear_tell 1 rfl) (by omega) (by omega) (by rw [b11]; rfl) (by decide) ?_
    refine g_aload_n (i := 0) (j := 0) (dk_Gear_tell 23 rfl) rfl rfl ?_
    obtain ⟨c12, h⟩ := p_gdE h
    refine g_getI fl_Gear_60 (Or.inl rfl) (dk_Gear_tell 24 rfl) c12 ?_
    cases h
    exact g_ret rfl rfl (dk_Gear_tell 25 rfl) (fun os => ⟨_, rfl, p_okh os⟩)
  rcases p_iteE h with ⟨b13, h⟩ | ⟨b13, h⟩
  · refine g_tableIn 125 (dk_Gear_tell 1 rfl) (by omega) (by omega) (by rw [b13]; rfl) (by decide) ?_
    refine g_aload_n (i := 0) (j := 0) (dk_Gear_tell 26 rfl) rfl rfl ?_
    obtain ⟨c14, h⟩ := p_gdE h
    refine g_getI fl_Gear_63 (Or.inl rfl) (dk_Gear_tell 27 rfl) c14 ?_
    cases h
    exact g_ret rfl rfl (dk_Gear_tell 28 rfl) (fun os => ⟨_, rfl, p_okh os⟩)
  rcases p_iteE h with ⟨b15, h⟩ | ⟨b15, h⟩
  · refine g_tableIn 130 (dk_Gear_tell 1 rfl) (by omega) (by omega) (by rw [b15]; rfl) (by decide) ?_
    refine g_aload_n (i := 0) (j := 0) (dk_Gear_tell 29 rfl) rfl rfl ?_
    obtain ⟨c16, h⟩ := p_gdE h
    refine g_getI fl_Gear_66 (Or.inl rfl) (dk_Gear_tell 30 rfl) c16 ?_
    cases h
    exact g_ret rfl rfl (dk_Gear_tell 31 rfl) (fun os => ⟨_, rfl, p_okh os⟩)
  rcases p_iteE h with ⟨b17, h⟩ | ⟨b17, h⟩
  · refine g_tableIn 135 (dk_Gear_tell 1 rfl) (by omega) (by omega) (by rw [b17]; rfl) (by decide) ?_
    refine g_aload_n (i := 0) (j := 0) (dk_Gear_tell 32 rfl) rfl rfl ?_
    obtain ⟨c18, h⟩ := p_gdE h
    refine g_getI fl_Gear_69 (Or.inl rfl) (dk_Gear_tell 33 rfl) c18 ?_
    cases h
    exact g_ret rfl rfl (dk_Gear_tell 34 rfl) (fun os => ⟨_, rfl, p_okh os⟩)
  rcases p_iteE h with ⟨b19, h⟩ | ⟨b19, h⟩
  · refine g_tableIn 140 (dk_Gear_tell 1 rfl) (by omega) (by omega) (by rw [b19]; rfl) (by decide) ?_
    refine g_aload_n (i := 0) (j := 0) (dk_Gear_tell 35 rfl) rfl rfl ?_
    obtain ⟨c20, h⟩ := p_gdE h
    refine g_getI fl_Gear_72 (Or.inl rfl) (dk_Gear_tell 36 rfl) c20 ?_
    cases h
    exact g_ret rfl rfl (dk_Gear_tell 37 rfl) (fun os => ⟨_, rfl, p_okh os⟩)
  rcases p_iteE h with ⟨b21, h⟩ | ⟨b21, h⟩
  · refine g_tableIn 145 (dk_Gear_tell 1 rfl) (by omega) (by omega) (by rw [b21]; rfl) (by decide) ?_
    refine g_aload_n (i := 0) (j := 0) (dk_Gear_tell 38 rfl) rfl rfl ?_
    obtain ⟨c22, h⟩ := p_gdE h
    obtain ⟨r27, s23, q24, h⟩ := p_bdE h
    have t25 := tF_Gear_parcels K l v0 s0 _ q24
    refine g_callV (a := v0) (ci := 0) (q0 := (RX0, TX0, 20)) (As := []) (rest := []) [p_i r27] mt_Gear_parcels rfl rfl tw_3_151 tw_3_152 tw_5_144 ⟨Nat.le_of_ble_eq_true rfl, Nat.le_of_ble_eq_true rfl⟩ rfl (Nat.le_of_ble_eq_true rfl) (dk_Gear_tell 39 rfl) rfl c22 rfl t25 ?_
    have hs26 : p_x s0 s23 := t25.1
    show p_Go K l m_Gear_tell 149 [(0, p_r v0), (1, p_i v1)] [p_i r27] s23 _
    cases h
    exact g_ret rfl rfl (dk_Gear_tell 40 rfl) (fun os => ⟨_, rfl, p_okh os⟩)
  rcases p_iteE h with ⟨b28, h⟩ | ⟨b28, h⟩
  · refine g_tableIn 150 (dk_Gear_tell 1 rfl) (by omega) (by omega) (by rw [b28]; rfl) (by decide) ?_
    refine g_aload_n (i := 0) (j := 0) (dk_Gear_tell 41 rfl) rfl rfl ?_
    obtain ⟨c29, h⟩ := p_gdE h
    refine g_getI fl_Gear_75 (Or.inl rfl) (dk_Gear_tell 42 rfl) c29 ?_
    cases h
    exact g_ret rfl rfl (dk_Gear_tell 43 rfl) (fun os => ⟨_, rfl, p_okh os⟩)
  rcases p_iteE h with ⟨b30, h⟩ | ⟨b30, h⟩
  · refine g_tableIn 155 (dk_Gear_tell 1 rfl) (by omega) (by omega) (by rw [b30]; rfl) (by decide) ?_
    refine g_aload_n (i := 0) (j := 0) (dk_Gear_tell 44 rfl) rfl rfl ?_
    obtain ⟨c31, h⟩ := p_gdE h
    refine g_getI fl_Gear_41 (Or.inl rfl) (dk_Gear_tell 45 rfl) c31 ?_
    cases h
    exact g_ret rfl rfl (dk_Gear_tell 46 rfl) (fun os => ⟨_, rfl, p_okh os⟩)
  rcases p_iteE h with ⟨b32, h⟩ | ⟨b32, h⟩
  · refine g_tableIn 160 (dk_Gear_tell 1 rfl) (by omega) (by omega) (by rw [b32]; rfl) (by decide) ?_
    refine g_getstatic (j := 2) rfl (by decide) (dk_Gear_tell 47 rfl) ?_
    refine g_aload_n (i := 0) (j := 0) (dk_Gear_tell 48 rfl) rfl rfl ?_
    obtain ⟨c33, h⟩ := p_gdE h
    refine g_getI fl_Gear_35 (Or.inl rfl) (dk_Gear_tell 49 rfl) c33 ?_
    obtain ⟨c34, h⟩ := p_gdE h
    refine g_tabS (by decide) (dk_Gear_tell 50 rfl) c34.1 c34.2 ?_
    cases h
    exact g_ret rfl rfl (dk_Gear_tell 51 rfl) (fun os => ⟨_, rfl, p_okh os⟩)
  rcases p_iteE h with ⟨b35, h⟩ | ⟨b35, h⟩
  · refine g_tableIn 169 (dk_Gear_tell 1 rfl) (by omega) (by omega) (by rw [b35]; rfl) (by decide) ?_
    refine g_aload_n (i := 0) (j := 0) (dk_Gear_tell 52 rfl) rfl rfl ?_
    obtain ⟨c36, h⟩ := p_gdE h
    refine g_getI fl_Gear_23 (Or.inl rfl) (dk_Gear_tell 53 rfl) c36 ?_
    refine g_iconst (dk_Gear_tell 54 rfl) (by decide) ?_
    refine g_iadd (dk_Gear_tell 55 rfl) ?_
    cases h
    exact g_ret rfl rfl (dk_Gear_tell 56 rfl) (fun os => ⟨_, rfl, p_okh os⟩)
  rcases p_iteE h with ⟨b37, h⟩ | ⟨b37, h⟩
  · refine g_tableIn 176 (dk_Gear_tell 1 rfl) (by omega) (by omega) (by rw [b37]; rfl) (by decide) ?_
    refine g_aload_n (i := 0) (j := 0) (dk_Gear_tell 57 rfl) rfl rfl ?_
    obtain ⟨c38, h⟩ := p_gdE h
    refine g_getI fl_Gear_78 (Or.inl rfl) (dk_Gear_tell 58 rfl) c38 ?_
    cases h
    exact g_ret rfl rfl (dk_Gear_tell 59 rfl) (fun os => ⟨_, rfl, p_okh os⟩)
  rcases p_iteE h with ⟨b39, h⟩ | ⟨b39, h⟩
  · refine g_tableIn 181 (dk_Gear_tell 1 rfl) (by omega) (by omega) (by rw [b39]; rfl) (by decide) ?_
    refine g_aload_n (i := 0) (j := 0) (dk_Gear_tell 60 rfl) rfl rfl ?_
    obtain ⟨c40, h⟩ := p_gdE h
    refine g_getI fl_Gear_9 (Or.inl rfl) (dk_Gear_tell 61 rfl) c40 ?_
    refine g_iconst (dk_Gear_tell 62 rfl) (by decide) ?_
    refine g_icmp_ne 194 (dk_Gear_tell 63 rfl) (by decide) (fun b41 => ?_) (fun b41 => ?_)
    · have h := p_ifT b41 h
      refine g_aload_n (i := 0) (j := 0) (dk_Gear_tell 66 rfl) rfl rfl ?_
      refine g_getI fl_Gear_9 (Or.inl rfl) (dk_Gear_tell 67 rfl) c40 ?_
      cases h
      exact g_ret rfl rfl (dk_Gear_tell 68 rfl) (fun os => ⟨_, rfl, p_okh os⟩)
    · have h := p_ifF b41 h
      refine g_bipush (dk_Gear_tell 64 rfl) (by decide +kernel) (by decide) ?_
      refine g_goto 198 (dk_Gear_tell 65 rfl) (by decide) ?_
      cases h
      exact g_ret rfl rfl (dk_Gear_tell 68 rfl) (fun os => ⟨_, rfl, p_okh os⟩)
  refine g_tableOut 199 (dk_Gear_tell 1 rfl) (by omega) (by decide) ?_
  refine g_bipush (dk_Gear_tell 69 rfl) (by decide +kernel) (by decide) ?_
  cases h
  exact g_ret rfl rfl (dk_Gear_tell 70 rfl) (fun os => ⟨_, rfl, p_okh os⟩)
def m_SW_told : p_Me := (⟨"SortWorks", "told", "(II)I"⟩, prog_1_method_35_code, 4, (some .int), 2, 43)
theorem mt_SW_told : p_Mt m_SW_told 2 := ⟨p_mem (p_tb5 (List.mem_of_getElem? (i := 139) rfl)) rfl, tw_1_1, by decide +kernel, by decide +kernel, by decide +kernel⟩
def dt_SW_told : List (Nat × Instr × Nat) := [(0, .aload_n 0, 1), (1, .getfield 18, 3), (4, .iload_n 1, 1), (5, .invokevirtual 98, 3), (8, .astore_n 3, 1), (9, .aload_n 3, 1), (10, .ifnonnull 5, 3), (13, .iconst (-1), 1), (14, .ireturn, 1), (15, .aload_n 3, 1), (16, .iload_n 2, 1), (17, .invokevirtual 301, 3), (20, .ireturn, 1)]
theorem dk_SW_told (i : Nat) {pc : Nat} {ins : Instr} {len : Nat} (h : dt_SW_told[i]? = some (pc, ins, len)) : decode m_SW_told.2.1 pc = .ok (ins, len) := p_dk (b := m_SW_told.2.1) (t := dt_SW_told) (by decide +kernel) i h
def F_SW_told (v0 : Nat) (v1 : Int) (v2 : Int) (s0 : p_Hp) : Option (Int × p_Hp) :=
  p_gd (p_is s0 v0 10) <|
  p_gd (p_is s0 (p_R s0 v0 1) 9) <|
  p_bd (F_Works_gearOf (p_R s0 v0 1) v1 s0) fun r7 s3 =>
  if r7 ≠ 0 then
    p_gd (p_is s3 r7 0) <|
    p_bd (F_Gear_tell r7 v2 s3) fun r14 s10 =>
    some (r14, s10)
  else
    some ((-1), s3)
set_option maxRecDepth 100000 in
set_option maxHeartbeats 4000000 in
theorem tF_SW_told (K : p_K) (l : Launch) (v0 : Nat) (v1 : Int) (v2 : Int) (s0 : p_Hp) (r : (Int × p_Hp)) (h : F_SW_told v0 v1 v2 s0 = some r) : p_Ct K l m_SW_told [p_r v0, p_i v1, p_i v2] s0 (some (p_i r.1), r.2) := by
  refine p_Ct.of (by decide +kernel) (Nat.le_of_ble_eq_true rfl) ?_
  unfold F_SW_told at h
  show p_Go K l m_SW_told 0 [(0, p_r v0), (1, p_i v1), (2, p_i v2)] [] s0 _
  refine g_aload_n (i := 0) (j := 0) (dk_SW_told 0 rfl) rfl rfl ?_
  obtain ⟨c1, h⟩ := p_gdE h
  refine g_getR fl_SW_18 (Or.inl ⟨_, rfl⟩) (dk_SW_told 1 rfl) c1 ?_
  refine g_iload_n (i := 1) (j := 1) (dk_SW_told 2 rfl) rfl rfl ?_
  obtain ⟨c2, h⟩ := p_gdE h
  obtain ⟨r7, s3, q4, h⟩ := p_bdE h
  have t5 := tF_Works_gearOf K l (p_R s0 v0 1) v1 s0 _ q4
  refine g_callV (a := (p_R s0 v0 1)) (ci := 9) (q0 := (RX9, TX9, 15)) (As := [p_i v1]) (rest := []) [p_r r7] mt_Works_gearOf rfl rfl tw_3_104 tw_3_105 tw_3_103 ⟨Nat.le_of_ble_eq_true rfl, Nat.le_of_ble_eq_true rfl⟩ rfl (Nat.le_of_ble_eq_true rfl) (dk_SW_told 3 rfl) rfl c2 rfl t5 ?_
  have hs6 : p_x s0 s3 := t5.1
  show p_Go K l m_SW_told 8 [(0, p_r v0), (1, p_i v1), (2, p_i v2)] [p_r r7] s3 _
  refine g_astore_n (i := 3) [(3, p_r r7), (0, p_r v0), (1, p_i v1), (2, p_i v2)] (dk_SW_told 4 rfl) rfl (by decide) rfl ?_
  refine g_aload_n (i := 3) (j := 0) (dk_SW_told 5 rfl) rfl rfl ?_
  refine g_ifnonnull 15 (dk_SW_told 6 rfl) (by decide) (fun b8 => ?_) (fun b8 => ?_)
  · have h := p_ifT b8 h
    refine g_aload_n (i := 3) (j := 0) (dk_SW_told 9 rfl) rfl rfl ?_
    refine g_iload_n (i := 2) (j := 3) (dk_SW_told 10 rfl) rfl rfl ?_
    obtain ⟨c9, h⟩ := p_gdE h
    obtain ⟨r14, s10, q11, h⟩ := p_bdE h
    have t12 := tF_Gear_tell K l r7 v2 s3 _ q11
    refine g_callV (a := r7) (ci := 0) (q0 := (RX0, TX0, 20)) (As := [p_i v2]) (rest := []) [p_i r14] mt_Gear_tell rfl rfl tw_5_141 tw_5_142 tw_5_140 ⟨Nat.le_of_ble_eq_true rfl, Nat.le_of_ble_eq_true rfl⟩ rfl (Nat.le_of_ble_eq_true rfl) (dk_SW_told 11 rfl) rfl c9 rfl t12 ?_
    have hs13 : p_x s3 s10 := t12.1
    show p_Go K l m_SW_told 20 [(3, p_r r7), (0, p_r v0), (1, p_i v1), (2, p_i v2)] [p_i r14] s10 _
    cases h
    exact g_ret rfl rfl (dk_SW_told 12 rfl) (fun os => ⟨_, rfl, p_okh os⟩)
  · have h := p_ifF b8 h
    refine g_iconst (dk_SW_told 7 rfl) (by decide) ?_
    cases h
    exact g_ret rfl rfl (dk_SW_told 8 rfl) (fun os => ⟨_, rfl, p_okh os⟩)
def m_SW_slot : p_Me := (⟨"SortWorks", "slot", "(II)I"⟩, prog_1_method_36_code, 5, (some .int), 1, 22)
theorem mt_SW_slot : p_Mt m_SW_slot 2 := ⟨p_mem (p_tb5 (List.mem_of_getElem? (i := 149) rfl)) rfl, tw_1_1, by decide +kernel, by decide +kernel, by decide +kernel⟩
def dt_SW_slot : List (Nat × Instr × Nat) := [(0, .aload_n 0, 1), (1, .getfield 18, 3), (4, .iload_n 1, 1), (5, .invokevirtual 98, 3), (8, .astore_n 3, 1), (9, .aload_n 3, 1), (10, .ifnonnull 5, 3), (13, .iconst (-1), 1), (14, .ireturn, 1), (15, .iload_n 2, 1), (16, .ifCond .lt 11, 3), (19, .iload_n 2, 1), (20, .aload_n 3, 1), (21, .getfield 92, 3), (24, .if_icmp .lt 6, 3), (27, .bipush (-2), 2), (29, .ireturn, 1), (30, .aload_n 0, 1), (31, .getfield 18, 3), (34, .getfield 77, 3), (37, .aload_n 3, 1), (38, .iload_n 2, 1), (39, .invokevirtual 304, 3), (42, .astore 4, 2), (44, .aload 4, 2), (46, .ifnonnull 7, 3), (49, .iconst 0, 1), (50, .goto 8, 3), (53, .aload 4, 2), (55, .getfield 191, 3), (58, .ireturn, 1)]
theorem dk_SW_slot (i : Nat) {pc : Nat} {ins : Instr} {len : Nat} (h : dt_SW_slot[i]? = some (pc, ins, len)) : decode m_SW_slot.2.1 pc = .ok (ins, len) := p_dk (b := m_SW_slot.2.1) (t := dt_SW_slot) (by decide +kernel) i h
def F_SW_slot (v0 : Nat) (v1 : Int) (v2 : Int) (s0 : p_Hp) : Option (Int × p_Hp) :=
  p_gd (p_is s0 v0 10) <|
  p_gd (p_is s0 (p_R s0 v0 1) 9) <|
  p_bd (F_Works_gearOf (p_R s0 v0 1) v1 s0) fun r7 s3 =>
  if r7 ≠ 0 then
    if v2 < 0 then
      some ((-2), s3)
    else
      p_gd (p_is s3 r7 0) <|
      if v2 < (p_Z s3 r7 1) then
        p_gd (p_is s3 (p_R s3 v0 1) 9) <|
        p_gd (p_is s3 (p_R s3 (p_R s3 v0 1) 1) 7) <|
        p_bd (F_State_inSlot (p_R s3 (p_R s3 v0 1) 1) r7 v2 s3) fun r18 s14 =>
        if r18 ≠ 0 then
          p_gd (p_is s14 r18 4) <|
          some ((p_Z s14 r18 1), s14)
        else
          some (0, s14)
      else
        some ((-2), s3)
  else
    some ((-1), s3)
set_option maxRecDepth 100000 in
set_option maxHeartbeats 4000000 in
theorem tF_SW_slot (K : p_K) (l : Launch) (v0 : Nat) (v1 : Int) (v2 : Int) (s0 : p_Hp) (r : (Int × p_Hp)) (h : F_SW_slot v0 v1 v2 s0 = some r) : p_Ct K l m_SW_slot [p_r v0, p_i v1, p_i v2] s0 (some (p_i r.1), r.2) := by
  refine p_Ct.of (by decide +kernel) (Nat.le_of_ble_eq_true rfl) ?_
  unfold F_SW_slot at h
  show p_Go K l m_SW_slot 0 [(0, p_r v0), (1, p_i v1), (2, p_i v2)] [] s0 _
  refine g_aload_n (i := 0) (j := 0) (dk_SW_slot 0 rfl) rfl rfl ?_
  obtain ⟨c1, h⟩ := p_gdE h
  refine g_getR fl_SW_18 (Or.inl ⟨_, rfl⟩) (dk_SW_slot 1 rfl) c1 ?_
  refine g_iload_n (i := 1) (j := 1) (dk_SW_slot 2 rfl) rfl rfl ?_
  obtain ⟨c2, h⟩ := p_gdE h
  obtain ⟨r7, s3, q4, h⟩ := p_bdE h
  have t5 := tF_Works_gearOf K l (p_R s0 v0 1) v1 s0 _ q4
  refine g_callV (a := (p_R s0 v0 1)) (ci := 9) (q0 := (RX9, TX9, 15)) (As := [p_i v1]) (rest := []) [p_r r7] mt_Works_gearOf rfl rfl tw_3_104 tw_3_105 tw_3_103 ⟨Nat.le_of_ble_eq_true rfl, Nat.le_of_ble_eq_true rfl⟩ rfl (Nat.le_of_ble_eq_true rfl) (dk_SW_slot 3 rfl) rfl c2 rfl t5 ?_
  have hs6 : p_x s0 s3 := t5.1
  show p_Go K l m_SW_slot 8 [(0, p_r v0), (1, p_i v1), (2, p_i v2)] [p_r r7] s3 _
  refine g_astore_n (i := 3) [(3, p_r r7), (0, p_r v0), (1, p_i v1), (2, p_i v2)] (dk_SW_slot 4 rfl) rfl (by decide) rfl ?_
  refine g_aload_n (i := 3) (j := 0) (dk_SW_slot 5 rfl) rfl rfl ?_
  refine g_ifnonnull 15 (dk_SW_slot 6 rfl) (by decide) (fun b8 => ?_) (fun b8 => ?_)
  · have h := p_ifT b8 h
    refine g_iload_n (i := 2) (j := 3) (dk_SW_slot 9 rfl) rfl rfl ?_
    refine g_if_lt 27 (dk_SW_slot 10 rfl) (by decide) (fun b9 => ?_) (fun b9 => ?_)
    · have h := p_ifT b9 h
      refine g_bipush (dk_SW_slot 15 rfl) (by decide +kernel) (by decide) ?_
      cases h
      exact g_ret rfl rfl (dk_SW_slot 16 rfl) (fun os => ⟨_, rfl, p_okh os⟩)
    · have h := p_ifF b9 h
      refine g_iload_n (i := 2) (j := 3) (dk_SW_slot 11 rfl) rfl rfl ?_
      refine g_aload_n (i := 3) (j := 0) (dk_SW_slot 12 rfl) rfl rfl ?_
      obtain ⟨c10, h⟩ := p_gdE h
      refine g_getI fl_SW_92 (Or.inl rfl) (dk_SW_slot 13 rfl) c10 ?_
      refine g_icmp_lt 30 (dk_SW_slot 14 rfl) (by decide) (fun b11 => ?_) (fun b11 => ?_)
      · have h := p_ifT b11 h
        refine g_aload_n (i := 0) (j := 1) (dk_SW_slot 17 rfl) rfl rfl ?_
        refine g_getR fl_SW_18 (Or.inl ⟨_, rfl⟩) (dk_SW_slot 18 rfl) (c1.up hs6) ?_
        obtain ⟨c12, h⟩ := p_gdE h
        refine g_getR fl_SW_77 (Or.inl ⟨_, rfl⟩) (dk_SW_slot 19 rfl) c12 ?_
        refine g_aload_n (i := 3) (j := 0) (dk_SW_slot 20 rfl) rfl rfl ?_
        refine g_iload_n (i := 2) (j := 3) (dk_SW_slot 21 rfl) rfl rfl ?_
        obtain ⟨c13, h⟩ := p_gdE h
        obtain ⟨r18, s14, q15, h⟩ := p_bdE h
        have t16 := tF_State_inSlot K l (p_R s3 (p_R s3 v0 1) 1) r7 v2 s3 _ q15
        refine g_callV (a := (p_R s3 (p_R s3 v0 1) 1)) (ci := 7) (q0 := (RX7, TX7, 10)) (As := [p_r r7, p_i v2]) (rest := []) [p_r r18] mt_State_inSlot rfl rfl tw_4_70 tw_4_71 tw_5_150 ⟨Nat.le_of_ble_eq_true rfl, Nat.le_of_ble_eq_true rfl⟩ rfl (Nat.le_of_ble_eq_true rfl) (dk_SW_slot 22 rfl) rfl c13 rfl t16 ?_
        have hs17 : p_x s3 s14 := t16.1
        show p_Go K l m_SW_slot 42 [(3, p_r r7), (0, p_r v0), (1, p_i v1), (2, p_i v2)] [p_r r18] s14 _
        refine g_astore [(4, p_r r18), (3, p_r r7), (0, p_r v0), (1, p_i v1), (2, p_i v2)] (dk_SW_slot 23 rfl) (by decide) rfl ?_
        refine g_aload (j := 0) (dk_SW_slot 24 rfl) rfl ?_
        refine g_ifnonnull 53 (dk_SW_slot 25 rfl) (by decide) (fun b19 => ?_) (fun b19 => ?_)
        · have h := p_ifT b19 h
          refine g_aload (j := 0) (dk_SW_slot 28 rfl) rfl ?_
          obtain ⟨c20, h⟩ := p_gdE h
          refine g_getI fl_SW_191 (Or.inl rfl) (dk_SW_slot 29 rfl) c20 ?_
          cases h
          exact g_ret rfl rfl (dk_SW_slot 30 rfl) (fun os => ⟨_, rfl, p_okh os⟩)
        · have h := p_ifF b19 h
          refine g_iconst (dk_SW_slot 26 rfl) (by decide) ?_
          refine g_goto 58 (dk_SW_slot 27 rfl) (by decide) ?_
          cases h
          exact g_ret rfl rfl (dk_SW_slot 30 rfl) (fun os => ⟨_, rfl, p_okh os⟩)
      · have h := p_ifF b11 h
        refine g_bipush (dk_SW_slot 15 rfl) (by decide +kernel) (by decide) ?_
        cases h
        exact g_ret rfl rfl (dk_SW_slot 16 rfl) (fun os => ⟨_, rfl, p_okh os⟩)
  · have h := p_ifF b8 h
    refine g_iconst (dk_SW_slot 7 rfl) (by decide) ?_
    cases h
    exact g_ret rfl rfl (dk_SW_slot 8 rfl) (fun os => ⟨_, rfl, p_okh os⟩)
def m_SW_linkOf : p_Me := (⟨"SortWorks", "linkOf", "(II)I"⟩, prog_1_method_37_code, 4, (some .int), 1, 21)
theorem mt_SW_linkOf : p_Mt m_SW_linkOf 2 := ⟨p_mem (p_tb5 (List.mem_of_getElem? (i := 154) rfl)) rfl, tw_1_1, by decide +kernel, by decide +kernel, by decide +kernel⟩
def dt_SW_linkOf : List (Nat × Instr × Nat) := [(0, .aload_n 0, 1), (1, .getfield 18, 3), (4, .iload_n 1, 1), (5, .invokevirtual 98, 3), (8, .astore_n 3, 1), (9, .aload_n 3, 1), (10, .ifnonnull 5, 3), (13, .iconst (-1), 1), (14, .ireturn, 1), (15, .iload_n 2, 1), (16, .ifCond .lt 11, 3), (19, .iload_n 2, 1), (20, .aload_n 3, 1), (21, .getfield 111, 3), (24, .if_icmp .lt 6, 3), (27, .bipush (-9), 2), (29, .ireturn, 1), (30, .aload_n 3, 1), (31, .getfield 102, 3), (34, .iload_n 2, 1), (35, .iaload, 1), (36, .iconst 1, 1), (37, .iadd, 1), (38, .ireturn, 1)]
theorem dk_SW_linkOf (i : Nat) {pc : Nat} {ins : Instr} {len : Nat} (h : dt_SW_linkOf[i]? = some (pc, ins, len)) : decode m_SW_linkOf.2.1 pc = .ok (ins, len) := p_dk (b := m_SW_linkOf.2.1) (t := dt_SW_linkOf) (by decide +kernel) i h
def F_SW_linkOf (v0 : Nat) (v1 : Int) (v2 : Int) (s0 : p_Hp) : Option (Int × p_Hp) :=
  p_gd (p_is s0 v0 10) <|
  p_gd (p_is s0 (p_R s0 v0 1) 9) <|
  p_bd (F_Works_gearOf (p_R s0 v0 1) v1 s0) fun r7 s3 =>
  if r7 ≠ 0 then
    if v2 < 0 then
      some ((-9), s3)
    else
      p_gd (p_is s3 r7 0) <|
      if v2 < (p_Z s3 r7 3) then
        p_gd (p_is s3 (p_R s3 r7 4) 100) <|
        p_gd ((0 : Int) ≤ v2 ∧ v2 < (p_L s3 (p_R s3 r7 4) : Int)) <|
        some ((p_w ((p_Z s3 (p_R s3 r7 4) (v2 : Int).toNat) + 1)), s3)
      else
        some ((-9), s3)
  else
    some ((-1), s3)
set_option maxRecDepth 100000 in
set_option maxHeartbeats 4000000 in
theorem tF_SW_linkOf (K : p_K) (l : Launch) (v0 : Nat) (v1 : Int) (v2 : Int) (s0 : p_Hp) (r : (Int × p_Hp)) (h : F_SW_linkOf v0 v1 v2 s0 = some r) : p_Ct K l m_SW_linkOf [p_r v0, p_i v1, p_i v2] s0 (some (p_i r.1), r.2) := by
  refine p_Ct.of (by decide +kernel) (Nat.le_of_ble_eq_true rfl) ?_
  unfold F_SW_linkOf at h
  show p_Go K l m_SW_linkOf 0 [(0, p_r v0), (1, p_i v1), (2, p_i v2)] [] s0 _
  refine g_aload_n (i := 0) (j := 0) (dk_SW_linkOf 0 rfl) rfl rfl ?_
  obtain ⟨c1, h⟩ := p_gdE h
  refine g_getR fl_SW_18 (Or.inl ⟨_, rfl⟩) (dk_SW_linkOf 1 rfl) c1 ?_
  refine g_iload_n (i := 1) (j := 1) (dk_SW_linkOf 2 rfl) rfl rfl ?_
  obtain ⟨c2, h⟩ := p_gdE h
  obtain ⟨r7, s3, q4, h⟩ := p_bdE h
  have t5 := tF_Works_gearOf K l (p_R s0 v0 1) v1 s0 _ q4
  refine g_callV (a := (p_R s0 v0 1)) (ci := 9) (q0 := (RX9, TX9, 15)) (As := [p_i v1]) (rest := []) [p_r r7] mt_Works_gearOf rfl rfl tw_3_104 tw_3_105 tw_3_103 ⟨Nat.le_of_ble_eq_true rfl, Nat.le_of_ble_eq_true rfl⟩ rfl (Nat.le_of_ble_eq_true rfl) (dk_SW_linkOf 3 rfl) rfl c2 rfl t5 ?_
  have hs6 : p_x s0 s3 := t5.1
  show p_Go K l m_SW_linkOf 8 [(0, p_r v0), (1, p_i v1), (2, p_i v2)] [p_r r7] s3 _
  refine g_astore_n (i := 3) [(3, p_r r7), (0, p_r v0), (1, p_i v1), (2, p_i v2)] (dk_SW_linkOf 4 rfl) rfl (by decide) rfl ?_
  refine g_aload_n (i := 3) (j := 0) (dk_SW_linkOf 5 rfl) rfl rfl ?_
  refine g_ifnonnull 15 (dk_SW_linkOf 6 rfl) (by decide) (fun b8 => ?_) (fun b8 => ?_)
  · have h := p_ifT b8 h
    refine g_iload_n (i := 2) (j := 3) (dk_SW_linkOf 9 rfl) rfl rfl ?_
    refine g_if_lt 27 (dk_SW_linkOf 10 rfl) (by decide) (fun b9 => ?_) (fun b9 => ?_)
    · have h := p_ifT b9 h
      refine g_bipush (dk_SW_linkOf 15 rfl) (by decide +kernel) (by decide) ?_
      cases h
      exact g_ret rfl rfl (dk_SW_linkOf 16 rfl) (fun os => ⟨_, rfl, p_okh os⟩)
    · have h := p_ifF b9 h
      refine g_iload_n (i := 2) (j := 3) (dk_SW_linkOf 11 rfl) rfl rfl ?_
      refine g_aload_n (i := 3) (j := 0) (dk_SW_linkOf 12 rfl) rfl rfl ?_
      obtain ⟨c10, h⟩ := p_gdE h
      refine g_getI fl_SW_111 (Or.inl rfl) (dk_SW_linkOf 13 rfl) c10 ?_
      refine g_icmp_lt 30 (dk_SW_linkOf 14 rfl) (by decide) (fun b11 => ?_) (fun b11 => ?_)
      · have h := p_ifT b11 h
        refine g_aload_n (i := 3) (j := 0) (dk_SW_linkOf 17 rfl) rfl rfl ?_
        refine g_getR fl_SW_102 (Or.inr ⟨_, rfl⟩) (dk_SW_linkOf 18 rfl) c10 ?_
        refine g_iload_n (i := 2) (j := 3) (dk_SW_linkOf 19 rfl) rfl rfl ?_
        obtain ⟨c12, h⟩ := p_gdE h
        obtain ⟨c13, h⟩ := p_gdE h
        refine g_iaload (dk_SW_linkOf 20 rfl) c12 c13.1 c13.2 ?_
        refine g_iconst (dk_SW_linkOf 21 rfl) (by decide) ?_
        refine g_iadd (dk_SW_linkOf 22 rfl) ?_
        cases h
        exact g_ret rfl rfl (dk_SW_linkOf 23 rfl) (fun os => ⟨_, rfl, p_okh os⟩)
      · have h := p_ifF b11 h
        refine g_bipush (dk_SW_linkOf 15 rfl) (by decide +kernel) (by decide) ?_
        cases h
        exact g_ret rfl rfl (dk_SW_linkOf 16 rfl) (fun os => ⟨_, rfl, p_okh os⟩)
  · have h := p_ifF b8 h
    refine g_iconst (dk_SW_linkOf 7 rfl) (by decide) ?_
    cases h
    exact g_ret rfl rfl (dk_SW_linkOf 8 rfl) (fun os => ⟨_, rfl, p_okh os⟩)
def m_Parcel_tell : p_Me := (⟨"SortWorks$Parcel", "tell", "(I)I"⟩, prog_6_method_9_code, 2, (some .int), 0, 0)
theorem mt_Parcel_tell : p_Mt m_Parcel_tell 1 := ⟨p_mem (p_tb5 (List.mem_of_getElem? (i := 162) rfl)) rfl, tw_1_6, by decide +kernel, by decide +kernel, by decide +kernel⟩
def dt_Parcel_tell : List (Nat × Instr × Nat) := [(0, .iload_n 1, 1), (1, .tableswitch 108 0 7 #[47, 52, 57, 62, 67, 72, 77, 95], 47), (48, .aload_n 0, 1), (49, .getfield 37, 3), (52, .ireturn, 1), (53, .aload_n 0, 1), (54, .getfield 40, 3), (57, .ireturn, 1), (58, .aload_n 0, 1), (59, .getfield 28, 3), (62, .ireturn, 1), (63, .aload_n 0, 1), (64, .getfield 31, 3), (67, .ireturn, 1), (68, .aload_n 0, 1), (69, .getfield 34, 3), (72, .ireturn, 1), (73, .aload_n 0, 1), (74, .getfield 47, 3), (77, .ireturn, 1), (78, .aload_n 0, 1), (79, .getfield 50, 3), (82, .iconst (-1), 1), (83, .if_icmp .ne 8, 3), (86, .bipush (-9), 2), (88, .goto 7, 3), (91, .aload_n 0, 1), (92, .getfield 50, 3), (95, .ireturn, 1), (96, .aload_n 0, 1), (97, .getfield 43, 3), (100, .ifCond .eq 7, 3), (103, .iconst 1, 1), (104, .goto 4, 3), (107, .iconst 0, 1), (108, .ireturn, 1), (109, .bipush (-2), 2), (111, .ireturn, 1)]
theorem dk_Parcel_tell (i : Nat) {pc : Nat} {ins : Instr} {len : Nat} (h : dt_Parcel_tell[i]? = some (pc, ins, len)) : decode m_Parcel_tell.2.1 pc = .ok (ins, len) := p_dk (b := m_Parcel_tell.2.1) (t := dt_Parcel_tell) (by decide +kernel) i h
def F_Parcel_tell (v0 : Nat) (v1 : Int) (s0 : p_Hp) : Option (Int × p_Hp) :=
  if v1 = 0 then
    p_gd (p_is s0 v0 4) <|
    some ((p_Z s0 v0 5), s0)
  else if v1 = 1 then
    p_gd (p_is s0 v0 4) <|
    some ((p_Z s0 v0 6), s0)
  else if v1 = 2 then
    p_gd (p_is s0 v0 4) <|
    some ((p_Z s0 v0 2), s0)
  else if v1 = 3 then
    p_gd (p_is s0 v0 4) <|
    some ((p_Z s0 v0 3), s0)
  else if v1 = 4 then
    p_gd (p_is s0 v0 4) <|
    some ((p_Z s0 v0 4), s0)
  else if v1 = 5 then
    p_gd (p_is s0 v0 4) <|
    some ((p_Z s0 v0 9), s0)
  else if v1 = 6 then
    p_gd (p_is s0 v0 4) <|
    if (p_Z s0 v0 11) ≠ (-1) then
      some ((p_Z s0 v0 11), s0)
    else
      some ((-9), s0)
  else if v1 = 7 then
    p_gd (p_is s0 v0 4) <|
    if (p_Z s0 v0 7) = 0 then
      some (0, s0)
    else
      some (1, s0)
  else 
  some ((-2), s0)
set_option maxRecDepth 100000 in
set_option maxHeartbeats 4000000 in
theorem tF_Parcel_tell (K : p_K) (l : Launch) (v0 : Nat) (v1 : Int) (s0 : p_Hp) (r : (Int × p_Hp)) (h : F_Parcel_tell v0 v1 s0 = some r) : p_Ct K l m_Parcel_tell [p_r v0, p_i v1] s0 (some (p_i r.1), r.2) := by
  refine p_Ct.of (by decide +kernel) (Nat.le_of_ble_eq_true rfl) ?_
  unfold F_Parcel_tell at h
  show p_Go K l m_Parcel_tell 0 [(0, p_r v0), (1, p_i v1)] [] s0 _
  refine g_iload_n (i := 1) (j := 1) (dk_Parcel_tell 0 rfl) rfl rfl ?_
  rcases p_iteE h with ⟨b1, h⟩ | ⟨b1, h⟩
  · refine g_tableIn 48 (dk_Parcel_tell 1 rfl) (by omega) (by omega) (by rw [b1]; rfl) (by decide) ?_
    refine g_aload_n (i := 0) (j := 0) (dk_Parcel_tell 2 rfl) rfl rfl ?_
    obtain ⟨c2, h⟩ := p_gdE h
    refine g_getI fl_Parcel_37 (Or.inl rfl) (dk_Parcel_tell 3 rfl) c2 ?_
    cases h
    exact g_ret rfl rfl (dk_Parcel_tell 4 rfl) (fun os => ⟨_, rfl, p_okh os⟩)
  rcases p_iteE h with ⟨b3, h⟩ | ⟨b3, h⟩
  · refine g_tableIn 53 (dk_Parcel_tell 1 rfl) (by omega) (by omega) (by rw [b3]; rfl) (by decide) ?_
    refine g_aload_n (i := 0) (j := 0) (dk_Parcel_tell 5 rfl) rfl rfl ?_
    obtain ⟨c4, h⟩ := p_gdE h
    refine g_getI fl_Parcel_40 (Or.inl rfl) (dk_Parcel_tell 6 rfl) c4 ?_
    cases h
    exact g_ret rfl rfl (dk_Parcel_tell 7 rfl) (fun os => ⟨_, rfl, p_okh os⟩)
  rcases p_iteE h with ⟨b5, h⟩ | ⟨b5, h⟩
  · refine g_tableIn 58 (dk_Parcel_tell 1 rfl) (by omega) (by omega) (by rw [b5]; rfl) (by decide) ?_
    refine g_aload_n (i := 0) (j := 0) (dk_Parcel_tell 8 rfl) rfl rfl ?_
    obtain ⟨c6, h⟩ := p_gdE h
    refine g_getI fl_Parcel_28 (Or.inl rfl) (dk_Parcel_tell 9 rfl) c6 ?_
    cases h
    exact g_ret rfl rfl (dk_Parcel_tell 10 rfl) (fun os => ⟨_, rfl, p_okh os⟩)
  rcases p_iteE h with ⟨b7, h⟩ | ⟨b7, h⟩
  · refine g_tableIn 63 (dk_Parcel_tell 1 rfl) (by omega) (by omega) (by rw [b7]; rfl) (by decide) ?_
    refine g_aload_n (i := 0) (j := 0) (dk_Parcel_tell 11 rfl) rfl rfl ?_
    obtain ⟨c8, h⟩ := p_gdE h
    refine g_getI fl_Parcel_31 (Or.inl rfl) (dk_Parcel_tell 12 rfl) c8 ?_
    cases h
    exact g_ret rfl rfl (dk_Parcel_tell 13 rfl) (fun os => ⟨_, rfl, p_okh os⟩)
  rcases p_iteE h with ⟨b9, h⟩ | ⟨b9, h⟩
  · refine g_tableIn 68 (dk_Parcel_tell 1 rfl) (by omega) (by omega) (by rw [b9]; rfl) (by decide) ?_
    refine g_aload_n (i := 0) (j := 0) (dk_Parcel_tell 14 rfl) rfl rfl ?_
    obtain ⟨c10, h⟩ := p_gdE h
    refine g_getI fl_Parcel_34 (Or.inl rfl) (dk_Parcel_tell 15 rfl) c10 ?_
    cases h
    exact g_ret rfl rfl (dk_Parcel_tell 16 rfl) (fun os => ⟨_, rfl, p_okh os⟩)
  rcases p_iteE h with ⟨b11, h⟩ | ⟨b11, h⟩
  · refine g_tableIn 73 (dk_Parcel_tell 1 rfl) (by omega) (by omega) (by rw [b11]; rfl) (by decide) ?_
    refine g_aload_n (i := 0) (j := 0) (dk_Parcel_tell 17 rfl) rfl rfl ?_
    obtain ⟨c12, h⟩ := p_gdE h
    refine g_getI fl_Parcel_47 (Or.inl rfl) (dk_Parcel_tell 18 rfl) c12 ?_
    cases h
    exact g_ret rfl rfl (dk_Parcel_tell 19 rfl) (fun os => ⟨_, rfl, p_okh os⟩)
  rcases p_iteE h with ⟨b13, h⟩ | ⟨b13, h⟩
  · refine g_tableIn 78 (dk_Parcel_tell 1 rfl) (by omega) (by omega) (by rw [b13]; rfl) (by decide) ?_
    refine g_aload_n (i := 0) (j := 0) (dk_Parcel_tell 20 rfl) rfl rfl ?_
    obtain ⟨c14, h⟩ := p_gdE h
    refine g_getI fl_Parcel_50 (Or.inl rfl) (dk_Parcel_tell 21 rfl) c14 ?_
    refine g_iconst (dk_Parcel_tell 22 rfl) (by decide) ?_
    refine g_icmp_ne 91 (dk_Parcel_tell 23 rfl) (by decide) (fun b15 => ?_) (fun b15 => ?_)
    · have h := p_ifT b15 h
      refine g_aload_n (i := 0) (j := 0) (dk_Parcel_tell 26 rfl) rfl rfl ?_
      refine g_getI fl_Parcel_50 (Or.inl rfl) (dk_Parcel_tell 27 rfl) c14 ?_
      cases h
      exact g_ret rfl rfl (dk_Parcel_tell 28 rfl) (fun os => ⟨_, rfl, p_okh os⟩)
    · have h := p_ifF b15 h
      refine g_bipush (dk_Parcel_tell 24 rfl) (by decide +kernel) (by decide) ?_
      refine g_goto 95 (dk_Parcel_tell 25 rfl) (by decide) ?_
      cases h
      exact g_ret rfl rfl (dk_Parcel_tell 28 rfl) (fun os => ⟨_, rfl, p_okh os⟩)
  rcases p_iteE h with ⟨b16, h⟩ | ⟨b16, h⟩
  · refine g_tableIn 96 (dk_Parcel_tell 1 rfl) (by omega) (by omega) (by rw [b16]; rfl) (by decide) ?_
    refine g_aload_n (i := 0) (j := 0) (dk_Parcel_tell 29 rfl) rfl rfl ?_
    obtain ⟨c17, h⟩ := p_gdE h
    refine g_getI fl_Parcel_43 (Or.inr rfl) (dk_Parcel_tell 30 rfl) c17 ?_
    refine g_if_eq 107 (dk_Parcel_tell 31 rfl) (by decide) (fun b18 => ?_) (fun b18 => ?_)
    · have h := p_ifT b18 h
      refine g_iconst (dk_Parcel_tell 34 rfl) (by decide) ?_
      cases h
      exact g_ret rfl rfl (dk_Parcel_tell 35 rfl) (fun os => ⟨_, rfl, p_okh os⟩)
    · have h := p_ifF b18 h
      refine g_iconst (dk_Parcel_tell 32 rfl) (by decide) ?_
      refine g_goto 108 (dk_Parcel_tell 33 rfl) (by decide) ?_
      cases h
      exact g_ret rfl rfl (dk_Parcel_tell 35 rfl) (fun os => ⟨_, rfl, p_okh os⟩)
  refine g_tableOut 109 (dk_Parcel_tell 1 rfl) (by omega) (by decide) ?_
  refine g_bipush (dk_Parcel_tell 36 rfl) (by decide +kernel) (by decide) ?_
  cases h
  exact g_ret rfl rfl (dk_Parcel_tell 37 rfl) (fun os => ⟨_, rfl, p_okh os⟩)
def m_SW_parcel : p_Me := (⟨"SortWorks", "parcel", "(II)I"⟩, prog_1_method_38_code, 4, (some .int), 1, 22)
theorem mt_SW_parcel : p_Mt m_SW_parcel 2 := ⟨p_mem (p_tb5 (List.mem_of_getElem? (i := 158) rfl)) rfl, tw_1_1, by decide +kernel, by decide +kernel, by decide +kernel⟩
def dt_SW_parcel : List (Nat × Instr × Nat) := [(0, .aload_n 0, 1), (1, .getfield 18, 3), (4, .getfield 77, 3), (7, .iload_n 1, 1), (8, .invokevirtual 203, 3), (11, .astore_n 3, 1), (12, .aload_n 3, 1), (13, .ifnonnull 5, 3), (16, .iconst (-1), 1), (17, .ireturn, 1), (18, .aload_n 3, 1), (19, .iload_n 2, 1), (20, .invokevirtual 308, 3), (23, .ireturn, 1)]
theorem dk_SW_parcel (i : Nat) {pc : Nat} {ins : Instr} {len : Nat} (h : dt_SW_parcel[i]? = some (pc, ins, len)) : decode m_SW_parcel.2.1 pc = .ok (ins, len) := p_dk (b := m_SW_parcel.2.1) (t := dt_SW_parcel) (by decide +kernel) i h
def F_SW_parcel (v0 : Nat) (v1 : Int) (v2 : Int) (s0 : p_Hp) : Option (Int × p_Hp) :=
  p_gd (p_is s0 v0 10) <|
  p_gd (p_is s0 (p_R s0 v0 1) 9) <|
  p_gd (p_is s0 (p_R s0 (p_R s0 v0 1) 1) 7) <|
  p_bd (F_State_find (p_R s0 (p_R s0 v0 1) 1) v1 s0) fun r8 s4 =>
  if r8 ≠ 0 then
    p_gd (p_is s4 r8 4) <|
    p_bd (F_Parcel_tell r8 v2 s4) fun r15 s11 =>
    some (r15, s11)
  else
    some ((-1), s4)
set_option maxRecDepth 100000 in
set_option maxHeartbeats 4000000 in
theorem tF_SW_parcel (K : p_K) (l : Launch) (v0 : Nat) (v1 : Int) (v2 : Int) (s0 : p_Hp) (r : (Int × p_Hp)) (h : F_SW_parcel v0 v1 v2 s0 = some r) : p_Ct K l m_SW_parcel [p_r v0, p_i v1, p_i v2] s0 (some (p_i r.1), r.2) := by
  refine p_Ct.of (by decide +kernel) (Nat.le_of_ble_eq_true rfl) ?_
  unfold F_SW_parcel at h
  show p_Go K l m_SW_parcel 0 [(0, p_r v0), (1, p_i v1), (2, p_i v2)] [] s0 _
  refine g_aload_n (i := 0) (j := 0) (dk_SW_parcel 0 rfl) rfl rfl ?_
  obtain ⟨c1, h⟩ := p_gdE h
  refine g_getR fl_SW_18 (Or.inl ⟨_, rfl⟩) (dk_SW_parcel 1 rfl) c1 ?_
  obtain ⟨c2, h⟩ := p_gdE h
  refine g_getR fl_SW_77 (Or.inl ⟨_, rfl⟩) (dk_SW_parcel 2 rfl) c2 ?_
  refine g_iload_n (i := 1) (j := 1) (dk_SW_parcel 3 rfl) rfl rfl ?_
  obtain ⟨c3, h⟩ := p_gdE h
  obtain ⟨r8, s4, q5, h⟩ := p_bdE h
  have t6 := tF_State_find K l (p_R s0 (p_R s0 v0 1) 1) v1 s0 _ q5
  refine g_callV (a := (p_R s0 (p_R s0 v0 1) 1)) (ci := 7) (q0 := (RX7, TX7, 10)) (As := [p_i v1]) (rest := []) [p_r r8] mt_State_find rfl rfl tw_4_26 tw_4_27 tw_4_25 ⟨Nat.le_of_ble_eq_true rfl, Nat.le_of_ble_eq_true rfl⟩ rfl (Nat.le_of_ble_eq_true rfl) (dk_SW_parcel 4 rfl) rfl c3 rfl t6 ?_
  have hs7 : p_x s0 s4 := t6.1
  show p_Go K l m_SW_parcel 11 [(0, p_r v0), (1, p_i v1), (2, p_i v2)] [p_r r8] s4 _
  refine g_astore_n (i := 3) [(3, p_r r8), (0, p_r v0), (1, p_i v1), (2, p_i v2)] (dk_SW_parcel 5 rfl) rfl (by decide) rfl ?_
  refine g_aload_n (i := 3) (j := 0) (dk_SW_parcel 6 rfl) rfl rfl ?_
  refine g_ifnonnull 18 (dk_SW_parcel 7 rfl) (by decide) (fun b9 => ?_) (fun b9 => ?_)
  · have h := p_ifT b9 h
    refine g_aload_n (i := 3) (j := 0) (dk_SW_parcel 10 rfl) rfl rfl ?_
    refine g_iload_n (i := 2) (j := 3) (dk_SW_parcel 11 rfl) rfl rfl ?_
    obtain ⟨c10, h⟩ := p_gdE h
    obtain ⟨r15, s11, q12, h⟩ := p_bdE h
    have t13 := tF_Parcel_tell K l r8 v2 s4 _ q12
    refine g_callV (a := r8) (ci := 4) (q0 := (RX4, TX4, 14)) (As := [p_i v2]) (rest := []) [p_i r15] mt_Parcel_tell rfl rfl tw_5_160 tw_5_161 tw_5_159 ⟨Nat.le_of_ble_eq_true rfl, Nat.le_of_ble_eq_true rfl⟩ rfl (Nat.le_of_ble_eq_true rfl) (dk_SW_parcel 12 rfl) rfl c10 rfl t13 ?_
    have hs14 : p_x s4 s11 := t13.1
    show p_Go K l m_SW_parcel 23 [(3, p_r r8), (0, p_r v0), (1, p_i v1), (2, p_i v2)] [p_i r15] s11 _
    cases h
    exact g_ret rfl rfl (dk_SW_parcel 13 rfl) (fun os => ⟨_, rfl, p_okh os⟩)
  · have h := p_ifF b9 h
    refine g_iconst (dk_SW_parcel 8 rfl) (by decide) ?_
    cases h
    exact g_ret rfl rfl (dk_SW_parcel 9 rfl) (fun os => ⟨_, rfl, p_okh os⟩)
def m_SW_way : p_Me := (⟨"SortWorks", "way", "(II)I"⟩, prog_1_method_39_code, 4, (some .int), 1, 22)
theorem mt_SW_way : p_Mt m_SW_way 2 := ⟨p_mem (p_tb5 (List.mem_of_getElem? (i := 166) rfl)) rfl, tw_1_1, by decide +kernel, by decide +kernel, by decide +kernel⟩
def dt_SW_way : List (Nat × Instr × Nat) := [(0, .aload_n 0, 1), (1, .getfield 18, 3), (4, .getfield 77, 3), (7, .iload_n 1, 1), (8, .invokevirtual 203, 3), (11, .astore_n 3, 1), (12, .aload_n 3, 1), (13, .ifnonnull 5, 3), (16, .iconst (-1), 1), (17, .ireturn, 1), (18, .iload_n 2, 1), (19, .ifCond .lt 17, 3), (22, .iload_n 2, 1), (23, .aload_n 3, 1), (24, .getfield 309, 3), (27, .if_icmp .ge 9, 3), (30, .iload_n 2, 1), (31, .bipush 16, 2), (33, .if_icmp .lt 8, 3), (36, .bipush (-9), 2), (38, .goto 9, 3), (41, .aload_n 3, 1), (42, .getfield 312, 3), (45, .iload_n 2, 1), (46, .iaload, 1), (47, .ireturn, 1)]
theorem dk_SW_way (i : Nat) {pc : Nat} {ins : Instr} {len : Nat} (h : dt_SW_way[i]? = some (pc, ins, len)) : decode m_SW_way.2.1 pc = .ok (ins, len) := p_dk (b := m_SW_way.2.1) (t := dt_SW_way) (by decide +kernel) i h
def B_SW_way_36   (s0 : p_Hp) : Option (Int × p_Hp) :=
  some ((-9), s0)
def F_SW_way (v0 : Nat) (v1 : Int) (v2 : Int) (s0 : p_Hp) : Option (Int × p_Hp) :=
  p_gd (p_is s0 v0 10) <|
  p_gd (p_is s0 (p_R s0 v0 1) 9) <|
  p_gd (p_is s0 (p_R s0 (p_R s0 v0 1) 1) 7) <|
  p_bd (F_State_find (p_R s0 (p_R s0 v0 1) 1) v1 s0) fun r8 s4 =>
  if r8 ≠ 0 then
    if v2 < 0 then
      B_SW_way_36 s4
    else
      p_gd (p_is s4 r8 4) <|
      if (p_Z s4 r8 9) ≤ v2 then
        B_SW_way_36 s4
      else
        if v2 < 16 then
          p_gd (p_is s4 (p_R s4 r8 10) 100) <|
          p_gd ((0 : Int) ≤ v2 ∧ v2 < (p_L s4 (p_R s4 r8 10) : Int)) <|
          some ((p_Z s4 (p_R s4 r8 10) (v2 : Int).toNat), s4)
        else
          B_SW_way_36 s4
  else
    some ((-1), s4)
set_option maxRecDepth 100000 in
set_option maxHeartbeats 4000000 in
theorem tB_SW_way_36 (K : p_K) (l : Launch)   (s0 : p_Hp) (r : (Int × p_Hp)) (h : B_SW_way_36  s0 = some r) : p_Go K l m_SW_way 36 [] [] s0 (some (p_i r.1), r.2) := by
  unfold B_SW_way_36 at h
  refine g_bipush (dk_SW_way 19 rfl) (by decide +kernel) (by decide) ?_
  refine g_goto 47 (dk_SW_way 20 rfl) (by decide) ?_
  cases h
  exact g_ret rfl rfl (dk_SW_way 25 rfl) (fun os => ⟨_, rfl, p_okh os⟩)
set_option maxRecDepth 100000 in
set_option maxHeartbeats 4000000 in
theorem tF_SW_way (K : p_K) (l : Launch) (v0 : Nat) (v1 : Int) (v2 : Int) (s0 : p_Hp) (r : (Int × p_Hp)) (h : F_SW_way v0 v1 v2 s0 = some r) : p_Ct K l m_SW_way [p_r v0, p_i v1, p_i v2] s0 (some (p_i r.1), r.2) := by
  refine p_Ct.of (by decide +kernel) (Nat.le_of_ble_eq_true rfl) ?_
  unfold F_SW_way at h
  show p_Go K l m_SW_way 0 [(0, p_r v0), (1, p_i v1), (2, p_i v2)] [] s0 _
  refine g_aload_n (i := 0) (j := 0) (dk_SW_way 0 rfl) rfl rfl ?_
  obtain ⟨c1, h⟩ := p_gdE h
  refine g_getR fl_SW_18 (Or.inl ⟨_, rfl⟩) (dk_SW_way 1 rfl) c1 ?_
  obtain ⟨c2, h⟩ := p_gdE h
  refine g_getR fl_SW_77 (Or.inl ⟨_, rfl⟩) (dk_SW_way 2 rfl) c2 ?_
  refine g_iload_n (i := 1) (j := 1) (dk_SW_way 3 rfl) rfl rfl ?_
  obtain ⟨c3, h⟩ := p_gdE h
  obtain ⟨r8, s4, q5, h⟩ := p_bdE h
  have t6 := tF_State_find K l (p_R s0 (p_R s0 v0 1) 1) v1 s0 _ q5
  refine g_callV (a := (p_R s0 (p_R s0 v0 1) 1)) (ci := 7) (q0 := (RX7, TX7, 10)) (As := [p_i v1]) (rest := []) [p_r r8] mt_State_find rfl rfl tw_4_26 tw_4_27 tw_4_25 ⟨Nat.le_of_ble_eq_true rfl, Nat.le_of_ble_eq_true rfl⟩ rfl (Nat.le_of_ble_eq_true rfl) (dk_SW_way 4 rfl) rfl c3 rfl t6 ?_
  have hs7 : p_x s0 s4 := t6.1
  show p_Go K l m_SW_way 11 [(0, p_r v0), (1, p_i v1), (2, p_i v2)] [p_r r8] s4 _
  refine g_astore_n (i := 3) [(3, p_r r8), (0, p_r v0), (1, p_i v1), (2, p_i v2)] (dk_SW_way 5 rfl) rfl (by decide) rfl ?_
  refine g_aload_n (i := 3) (j := 0) (dk_SW_way 6 rfl) rfl rfl ?_
  refine g_ifnonnull 18 (dk_SW_way 7 rfl) (by decide) (fun b9 => ?_) (fun b9 => ?_)
  · have h := p_ifT b9 h
    refine g_iload_n (i := 2) (j := 3) (dk_SW_way 10 rfl) rfl rfl ?_
    refine g_if_lt 36 (dk_SW_way 11 rfl) (by decide) (fun b10 => ?_) (fun b10 => ?_)
    · have h := p_ifT b10 h
      refine g_sub [] [] rfl ?_
      exact tB_SW_way_36 K l s4 _ h
    · have h := p_ifF b10 h
      refine g_iload_n (i := 2) (j := 3) (dk_SW_way 12 rfl) rfl rfl ?_
      refine g_aload_n (i := 3) (j := 0) (dk_SW_way 13 rfl) rfl rfl ?_
      obtain ⟨c11, h⟩ := p_gdE h
      refine g_getI fl_SW_309 (Or.inl rfl) (dk_SW_way 14 rfl) c11 ?_
      refine g_icmp_ge 36 (dk_SW_way 15 rfl) (by decide) (fun b12 => ?_) (fun b12 => ?_)
      · have h := p_ifT b12 h
        refine g_sub [] [] rfl ?_
        exact tB_SW_way_36 K l s4 _ h
      · have h := p_ifF b12 h
        refine g_iload_n (i := 2) (j := 3) (dk_SW_way 16 rfl) rfl rfl ?_
        refine g_bipush (dk_SW_way 17 rfl) (by decide +kernel) (by decide) ?_
        refine g_icmp_lt 41 (dk_SW_way 18 rfl) (by decide) (fun b13 => ?_) (fun b13 => ?_)
        · have h := p_ifT b13 h
          refine g_aload_n (i := 3) (j := 0) (dk_SW_way 21 rfl) rfl rfl ?_
          refine g_getR fl_SW_312 (Or.inr ⟨_, rfl⟩) (dk_SW_way 22 rfl) c11 ?_
          refine g_iload_n (i := 2) (j := 3) (dk_SW_way 23 rfl) rfl rfl ?_
          obtain ⟨c14, h⟩ := p_gdE h
          obtain ⟨c15, h⟩ := p_gdE h
          refine g_iaload (dk_SW_way 24 rfl) c14 c15.1 c15.2 ?_
          cases h
          exact g_ret rfl rfl (dk_SW_way 25 rfl) (fun os => ⟨_, rfl, p_okh os⟩)
        · have h := p_ifF b13 h
          refine g_sub [] [] rfl ?_
          exact tB_SW_way_36 K l s4 _ h
  · have h := p_ifF b9 h
    refine g_iconst (dk_SW_way 8 rfl) (by decide) ?_
    cases h
    exact g_ret rfl rfl (dk_SW_way 9 rfl) (fun os => ⟨_, rfl, p_okh os⟩)
def m_SW_byteOf : p_Me := (⟨"SortWorks", "byteOf", "(II)I"⟩, prog_1_method_40_code, 4, (some .int), 1, 22)
theorem mt_SW_byteOf : p_Mt m_SW_byteOf 2 := ⟨p_mem (p_tb5 (List.mem_of_getElem? (i := 170) rfl)) rfl, tw_1_1, by decide +kernel, by decide +kernel, by decide +kernel⟩
def dt_SW_byteOf : List (Nat × Instr × Nat) := [(0, .aload_n 0, 1), (1, .getfield 18, 3), (4, .getfield 77, 3), (7, .iload_n 1, 1), (8, .invokevirtual 203, 3), (11, .astore_n 3, 1), (12, .aload_n 3, 1), (13, .ifnonnull 5, 3), (16, .iconst (-1), 1), (17, .ireturn, 1), (18, .iload_n 2, 1), (19, .ifCond .lt 11, 3), (22, .iload_n 2, 1), (23, .aload_n 3, 1), (24, .getfield 210, 3), (27, .if_icmp .lt 8, 3), (30, .bipush (-9), 2), (32, .goto 9, 3), (35, .aload_n 3, 1), (36, .getfield 207, 3), (39, .iload_n 2, 1), (40, .iaload, 1), (41, .ireturn, 1)]
theorem dk_SW_byteOf (i : Nat) {pc : Nat} {ins : Instr} {len : Nat} (h : dt_SW_byteOf[i]? = some (pc, ins, len)) : decode m_SW_byteOf.2.1 pc = .ok (ins, len) := p_dk (b := m_SW_byteOf.2.1) (t := dt_SW_byteOf) (by decide +kernel) i h
def B_SW_byteOf_30   (s0 : p_Hp) : Option (Int × p_Hp) :=
  some ((-9), s0)
def F_SW_byteOf (v0 : Nat) (v1 : Int) (v2 : Int) (s0 : p_Hp) : Option (Int × p_Hp) :=
  p_gd (p_is s0 v0 10) <|
  p_gd (p_is s0 (p_R s0 v0 1) 9) <|
  p_gd (p_is s0 (p_R s0 (p_R s0 v0 1) 1) 7) <|
  p_bd (F_State_find (p_R s0 (p_R s0 v0 1) 1) v1 s0) fun r8 s4 =>
  if r8 ≠ 0 then
    if v2 < 0 then
      B_SW_byteOf_30 s4
    else
      p_gd (p_is s4 r8 4) <|
      if v2 < (p_Z s4 r8 11) then
        p_gd (p_is s4 (p_R s4 r8 12) 100) <|
        p_gd ((0 : Int) ≤ v2 ∧ v2 < (p_L s4 (p_R s4 r8 12) : Int)) <|
        some ((p_Z s4 (p_R s4 r8 12) (v2 : Int).toNat), s4)
      else
        B_SW_byteOf_30 s4
  else
    some ((-1), s4)
set_option maxRecDepth 100000 in
set_option maxHeartbeats 4000000 in
theorem tB_SW_byteOf_30 (K : p_K) (l : Launch)   (s0 : p_Hp) (r : (Int × p_Hp)) (h : B_SW_byteOf_30  s0 = some r) : p_Go K l m_SW_byteOf 30 [] [] s0 (some (p_i r.1), r.2) := by
  unfold B_SW_byteOf_30 at h
  refine g_bipush (dk_SW_byteOf 16 rfl) (by decide +kernel) (by decide) ?_
  refine g_goto 41 (dk_SW_byteOf 17 rfl) (by decide) ?_
  cases h
  exact g_ret rfl rfl (dk_SW_byteOf 22 rfl) (fun os => ⟨_, rfl, p_okh os⟩)
set_option maxRecDepth 100000 in
set_option maxHeartbeats 4000000 in
theorem tF_SW_byteOf (K : p_K) (l : Launch) (v0 : Nat) (v1 : Int) (v2 : Int) (s0 : p_Hp) (r : (Int × p_Hp)) (h : F_SW_byteOf v0 v1 v2 s0 = some r) : p_Ct K l m_SW_byteOf [p_r v0, p_i v1, p_i v2] s0 (some (p_i r.1), r.2) := by
  refine p_Ct.of (by decide +kernel) (Nat.le_of_ble_eq_true rfl) ?_
  unfold F_SW_byteOf at h
  show p_Go K l m_SW_byteOf 0 [(0, p_r v0), (1, p_i v1), (2, p_i v2)] [] s0 _
  refine g_aload_n (i := 0) (j := 0) (dk_SW_byteOf 0 rfl) rfl rfl ?_
  obtain ⟨c1, h⟩ := p_gdE h
  refine g_getR fl_SW_18 (Or.inl ⟨_, rfl⟩) (dk_SW_byteOf 1 rfl) c1 ?_
  obtain ⟨c2, h⟩ := p_gdE h
  refine g_getR fl_SW_77 (Or.inl ⟨_, rfl⟩) (dk_SW_byteOf 2 rfl) c2 ?_
  refine g_iload_n (i := 1) (j := 1) (dk_SW_byteOf 3 rfl) rfl rfl ?_
  obtain ⟨c3, h⟩ := p_gdE h
  obtain ⟨r8, s4, q5, h⟩ := p_bdE h
  have t6 := tF_State_find K l (p_R s0 (p_R s0 v0 1) 1) v1 s0 _ q5
  refine g_callV (a := (p_R s0 (p_R s0 v0 1) 1)) (ci := 7) (q0 := (RX7, TX7, 10)) (As := [p_i v1]) (rest := []) [p_r r8] mt_State_find rfl rfl tw_4_26 tw_4_27 tw_4_25 ⟨Nat.le_of_ble_eq_true rfl, Nat.le_of_ble_eq_true rfl⟩ rfl (Nat.le_of_ble_eq_true rfl) (dk_SW_byteOf 4 rfl) rfl c3 rfl t6 ?_
  have hs7 : p_x s0 s4 := t6.1
  show p_Go K l m_SW_byteOf 11 [(0, p_r v0), (1, p_i v1), (2, p_i v2)] [p_r r8] s4 _
  refine g_astore_n (i := 3) [(3, p_r r8), (0, p_r v0), (1, p_i v1), (2, p_i v2)] (dk_SW_byteOf 5 rfl) rfl (by decide) rfl ?_
  refine g_aload_n (i := 3) (j := 0) (dk_SW_byteOf 6 rfl) rfl rfl ?_
  refine g_ifnonnull 18 (dk_SW_byteOf 7 rfl) (by decide) (fun b9 => ?_) (fun b9 => ?_)
  · have h := p_ifT b9 h
    refine g_iload_n (i := 2) (j := 3) (dk_SW_byteOf 10 rfl) rfl rfl ?_
    refine g_if_lt 30 (dk_SW_byteOf 11 rfl) (by decide) (fun b10 => ?_) (fun b10 => ?_)
    · have h := p_ifT b10 h
      refine g_sub [] [] rfl ?_
      exact tB_SW_byteOf_30 K l s4 _ h
    · have h := p_ifF b10 h
      refine g_iload_n (i := 2) (j := 3) (dk_SW_byteOf 12 rfl) rfl rfl ?_
      refine g_aload_n (i := 3) (j := 0) (dk_SW_byteOf 13 rfl) rfl rfl ?_
      obtain ⟨c11, h⟩ := p_gdE h
      refine g_getI fl_SW_210 (Or.inl rfl) (dk_SW_byteOf 14 rfl) c11 ?_
      refine g_icmp_lt 35 (dk_SW_byteOf 15 rfl) (by decide) (fun b12 => ?_) (fun b12 => ?_)
      · have h := p_ifT b12 h
        refine g_aload_n (i := 3) (j := 0) (dk_SW_byteOf 18 rfl) rfl rfl ?_
        refine g_getR fl_SW_207 (Or.inr ⟨_, rfl⟩) (dk_SW_byteOf 19 rfl) c11 ?_
        refine g_iload_n (i := 2) (j := 3) (dk_SW_byteOf 20 rfl) rfl rfl ?_
        obtain ⟨c13, h⟩ := p_gdE h
        obtain ⟨c14, h⟩ := p_gdE h
        refine g_iaload (dk_SW_byteOf 21 rfl) c13 c14.1 c14.2 ?_
        cases h
        exact g_ret rfl rfl (dk_SW_byteOf 22 rfl) (fun os => ⟨_, rfl, p_okh os⟩)
      · have h := p_ifF b12 h
        refine g_sub [] [] rfl ?_
        exact tB_SW_byteOf_30 K l s4 _ h
  · have h := p_ifF b9 h
    refine g_iconst (dk_SW_byteOf 8 rfl) (by decide) ?_
    cases h
    exact g_ret rfl rfl (dk_SW_byteOf 9 rfl) (fun os => ⟨_, rfl, p_okh os⟩)
def m_SW_left : p_Me := (⟨"SortWorks", "left", "(I)I"⟩, prog_1_method_41_code, 2, (some .int), 0, 0)
theorem mt_SW_left : p_Mt m_SW_left 1 := ⟨p_mem (p_tb5 (List.mem_of_getElem? (i := 174) rfl)) rfl, tw_1_1, by decide +kernel, by decide +kernel, by decide +kernel⟩
def dt_SW_left : List (Nat × Instr × Nat) := [(0, .iload_n 1, 1), (1, .iconst 1, 1), (2, .if_icmp .lt 14, 3), (5, .iload_n 1, 1), (6, .aload_n 0, 1), (7, .getfield 25, 3), (10, .getfield 197, 3), (13, .if_icmp .le 7, 3), (16, .iconst (-1), 1), (17, .goto 12, 3), (20, .aload_n 0, 1), (21, .getfield 25, 3), (24, .getfield 315, 3), (27, .iload_n 1, 1), (28, .iaload, 1), (29, .ireturn, 1)]
theorem dk_SW_left (i : Nat) {pc : Nat} {ins : Instr} {len : Nat} (h : dt_SW_left[i]? = some (pc, ins, len)) : decode m_SW_left.2.1 pc = .ok (ins, len) := p_dk (b := m_SW_left.2.1) (t := dt_SW_left) (by decide +kernel) i h
def B_SW_left_16   (s0 : p_Hp) : Option (Int × p_Hp) :=
  some ((-1), s0)
def F_SW_left (v0 : Nat) (v1 : Int) (s0 : p_Hp) : Option (Int × p_Hp) :=
  if v1 < 1 then
    B_SW_left_16 s0
  else
    p_gd (p_is s0 v0 10) <|
    p_gd (p_is s0 (p_R s0 v0 2) 3) <|
    if v1 ≤ (p_Z s0 (p_R s0 v0 2) 1) then
      p_gd (p_is s0 (p_R s0 (p_R s0 v0 2) 0) 100) <|
      p_gd ((0 : Int) ≤ v1 ∧ v1 < (p_L s0 (p_R s0 (p_R s0 v0 2) 0) : Int)) <|
      some ((p_Z s0 (p_R s0 (p_R s0 v0 2) 0) (v1 : Int).toNat), s0)
    else
      B_SW_left_16 s0
set_option maxRecDepth 100000 in
set_option maxHeartbeats 4000000 in
theorem tB_SW_left_16 (K : p_K) (l : Launch)   (s0 : p_Hp) (r : (Int × p_Hp)) (h : B_SW_left_16  s0 = some r) : p_Go K l m_SW_left 16 [] [] s0 (some (p_i r.1), r.2) := by
  unfold B_SW_left_16 at h
  refine g_iconst (dk_SW_left 8 rfl) (by decide) ?_
  refine g_goto 29 (dk_SW_left 9 rfl) (by decide) ?_
  cases h
  exact g_ret rfl rfl (dk_SW_left 15 rfl) (fun os => ⟨_, rfl, p_okh os⟩)
set_option maxRecDepth 100000 in
set_option maxHeartbeats 4000000 in
theorem tF_SW_left (K : p_K) (l : Launch) (v0 : Nat) (v1 : Int) (s0 : p_Hp) (r : (Int × p_Hp)) (h : F_SW_left v0 v1 s0 = some r) : p_Ct K l m_SW_left [p_r v0, p_i v1] s0 (some (p_i r.1), r.2) := by
  refine p_Ct.of (by decide +kernel) (Nat.le_of_ble_eq_true rfl) ?_
  unfold F_SW_left at h
  show p_Go K l m_SW_left 0 [(0, p_r v0), (1, p_i v1)] [] s0 _
  refine g_iload_n (i := 1) (j := 1) (dk_SW_left 0 rfl) rfl rfl ?_
  refine g_iconst (dk_SW_left 1 rfl) (by decide) ?_
  refine g_icmp_lt 16 (dk_SW_left 2 rfl) (by decide) (fun b1 => ?_) (fun b1 => ?_)
  · have h := p_ifT b1 h
    refine g_sub [] [] rfl ?_
    exact tB_SW_left_16 K l s0 _ h
  · have h := p_ifF b1 h
    refine g_iload_n (i := 1) (j := 1) (dk_SW_left 3 rfl) rfl rfl ?_
    refine g_aload_n (i := 0) (j := 0) (dk_SW_left 4 rfl) rfl rfl ?_
    obtain ⟨c2, h⟩ := p_gdE h
    refine g_getR fl_SW_25 (Or.inl ⟨_, rfl⟩) (dk_SW_left 5 rfl) c2 ?_
    obtain ⟨c3, h⟩ := p_gdE h
    refine g_getI fl_SW_197 (Or.inl rfl) (dk_SW_left 6 rfl) c3 ?_
    refine g_icmp_le 20 (dk_SW_left 7 rfl) (by decide) (fun b4 => ?_) (fun b4 => ?_)
    · have h := p_ifT b4 h
      refine g_aload_n (i := 0) (j := 0) (dk_SW_left 10 rfl) rfl rfl ?_
      refine g_getR fl_SW_25 (Or.inl ⟨_, rfl⟩) (dk_SW_left 11 rfl) c2 ?_
      refine g_getR fl_SW_315 (Or.inr ⟨_, rfl⟩) (dk_SW_left 12 rfl) c3 ?_
      refine g_iload_n (i := 1) (j := 1) (dk_SW_left 13 rfl) rfl rfl ?_
      obtain ⟨c5, h⟩ := p_gdE h
      obtain ⟨c6, h⟩ := p_gdE h
      refine g_iaload (dk_SW_left 14 rfl) c5 c6.1 c6.2 ?_
      cases h
      exact g_ret rfl rfl (dk_SW_left 15 rfl) (fun os => ⟨_, rfl, p_okh os⟩)
    · have h := p_ifF b4 h
      refine g_sub [] [] rfl ?_
      exact tB_SW_left_16 K l s0 _ h
def m_Log_tell : p_Me := (⟨"SortWorks$Log", "tell", "(II)I"⟩, prog_4_method_3_code, 3, (some .int), 0, 0)
theorem mt_Log_tell : p_Mt m_Log_tell 2 := ⟨p_mem (p_tb5 (List.mem_of_getElem? (i := 182) rfl)) rfl, tw_1_4, by decide +kernel, by decide +kernel, by decide +kernel⟩
def dt_Log_tell : List (Nat × Instr × Nat) := [(0, .iload_n 1, 1), (1, .ifCond .lt 31, 3), (4, .iload_n 1, 1), (5, .aload_n 0, 1), (6, .getfield 15, 3), (9, .if_icmp .ge 23, 3), (12, .iload_n 1, 1), (13, .aload_n 0, 1), (14, .getfield 28, 3), (17, .if_icmp .ge 15, 3), (20, .iload_n 2, 1), (21, .ifCond .lt 11, 3), (24, .iload_n 2, 1), (25, .aload_n 0, 1), (26, .getfield 19, 3), (29, .if_icmp .lt 6, 3), (32, .bipush (-9), 2), (34, .ireturn, 1), (35, .aload_n 0, 1), (36, .getfield 22, 3), (39, .aload_n 0, 1), (40, .getfield 28, 3), (43, .iconst 1, 1), (44, .isub, 1), (45, .iload_n 1, 1), (46, .isub, 1), (47, .aload_n 0, 1), (48, .getfield 15, 3), (51, .irem, 1), (52, .iconst 5, 1), (53, .imul, 1), (54, .iload_n 2, 1), (55, .iadd, 1), (56, .iaload, 1), (57, .ireturn, 1)]
theorem dk_Log_tell (i : Nat) {pc : Nat} {ins : Instr} {len : Nat} (h : dt_Log_tell[i]? = some (pc, ins, len)) : decode m_Log_tell.2.1 pc = .ok (ins, len) := p_dk (b := m_Log_tell.2.1) (t := dt_Log_tell) (by decide +kernel) i h
def F_Log_tell (v0 : Nat) (v1 : Int) (v2 : Int) (s0 : p_Hp) : Option (Int × p_Hp) :=
  if v1 < 0 then
    some ((-9), s0)
  else
    p_gd (p_is s0 v0 2) <|
    if (p_Z s0 v0 0) ≤ v1 then
      some ((-9), s0)
    else
      if (p_Z s0 v0 3) ≤ v1 then
        some ((-9), s0)
      else
        if v2 < 0 then
          some ((-9), s0)
        else
          if v2 < (p_Z s0 v0 1) then
            p_gd ((p_Z s0 v0 0) ≠ 0) <|
            p_gd (p_is s0 (p_R s0 v0 2) 100) <|
            p_gd ((0 : Int) ≤ (p_w ((p_w ((p_rem (p_w ((p_w ((p_Z s0 v0 3) - 1)) - v1)) (p_Z s0 v0 0)) * 5)) + v2)) ∧ (p_w ((p_w ((p_rem (p_w ((p_w ((p_Z s0 v0 3) - 1)) - v1)) (p_Z s0 v0 0)) * 5)) + v2)) < (p_L s0 (p_R s0 v0 2) : Int)) <|
            some ((p_Z s0 (p_R s0 v0 2) ((p_w ((p_w ((p_rem (p_w ((p_w ((p_Z s0 v0 3) - 1)) - v1)) (p_Z s0 v0 0)) * 5)) + v2)) : Int).toNat), s0)
          else
            some ((-9), s0)
set_option maxRecDepth 100000 in
set_option maxHeartbeats 4000000 in
theorem tF_Log_tell (K : p_K) (l : Launch) (v0 : Nat) (v1 : Int) (v2 : Int) (s0 : p_Hp) (r : (Int × p_Hp)) (h : F_Log_tell v0 v1 v2 s0 = some r) : p_Ct K l m_Log_tell [p_r v0, p_i v1, p_i v2] s0 (some (p_i r.1), r.2) := by
  refine p_Ct.of (by decide +kernel) (Nat.le_of_ble_eq_true rfl) ?_
  unfold F_Log_tell at h
  show p_Go K l m_Log_tell 0 [(0, p_r v0), (1, p_i v1), (2, p_i v2)] [] s0 _
  refine g_iload_n (i := 1) (j := 1) (dk_Log_tell 0 rfl) rfl rfl ?_
  refine g_if_lt 32 (dk_Log_tell 1 rfl) (by decide) (fun b1 => ?_) (fun b1 => ?_)
  · have h := p_ifT b1 h
    refine g_bipush (dk_Log_tell 16 rfl) (by decide +kernel) (by decide) ?_
    cases h
    exact g_ret rfl rfl (dk_Log_tell 17 rfl) (fun os => ⟨_, rfl, p_okh os⟩)
  · have h := p_ifF b1 h
    refine g_iload_n (i := 1) (j := 1) (dk_Log_tell 2 rfl) rfl rfl ?_
    refine g_aload_n (i := 0) (j := 0) (dk_Log_tell 3 rfl) rfl rfl ?_
    obtain ⟨c2, h⟩ := p_gdE h
    refine g_getI fl_Log_15 (Or.inl rfl) (dk_Log_tell 4 rfl) c2 ?_
    refine g_icmp_ge 32 (dk_Log_tell 5 rfl) (by decide) (fun b3 => ?_) (fun b3 => ?_)
    · have h := p_ifT b3 h
      refine g_bipush (dk_Log_tell 16 rfl) (by decide +kernel) (by decide) ?_
      cases h
      exact g_ret rfl rfl (dk_Log_tell 17 rfl) (fun os => ⟨_, rfl, p_okh os⟩)
    · have h := p_ifF b3 h
      refine g_iload_n (i := 1) (j := 1) (dk_Log_tell 6 rfl) rfl rfl ?_
      refine g_aload_n (i := 0) (j := 0) (dk_Log_tell 7 rfl) rfl rfl ?_
      refine g_getI fl_Log_28 (Or.inl rfl) (dk_Log_tell 8 rfl) c2 ?_
      refine g_icmp_ge 32 (dk_Log_tell 9 rfl) (by decide) (fun b4 => ?_) (fun b4 => ?_)
      · have h := p_ifT b4 h
        refine g_bipush (dk_Log_tell 16 rfl) (by decide +kernel) (by decide) ?_
        cases h
        exact g_ret rfl rfl (dk_Log_tell 17 rfl) (fun os => ⟨_, rfl, p_okh os⟩)
      · have h := p_ifF b4 h
        refine g_iload_n (i := 2) (j := 2) (dk_Log_tell 10 rfl) rfl rfl ?_
        refine g_if_lt 32 (dk_Log_tell 11 rfl) (by decide) (fun b5 => ?_) (fun b5 => ?_)
        · have h := p_ifT b5 h
          refine g_bipush (dk_Log_tell 16 rfl) (by decide +kernel) (by decide) ?_
          cases h
          exact g_ret rfl rfl (dk_Log_tell 17 rfl) (fun os => ⟨_, rfl, p_okh os⟩)
        · have h := p_ifF b5 h
          refine g_iload_n (i := 2) (j := 2) (dk_Log_tell 12 rfl) rfl rfl ?_
          refine g_aload_n (i := 0) (j := 0) (dk_Log_tell 13 rfl) rfl rfl ?_
          refine g_getI fl_Log_19 (Or.inl rfl) (dk_Log_tell 14 rfl) c2 ?_
          refine g_icmp_lt 35 (dk_Log_tell 15 rfl) (by decide) (fun b6 => ?_) (fun b6 => ?_)
          · have h := p_ifT b6 h
            refine g_aload_n (i := 0) (j := 0) (dk_Log_tell 18 rfl) rfl rfl ?_
            refine g_getR fl_Log_22 (Or.inr ⟨_, rfl⟩) (dk_Log_tell 19 rfl) c2 ?_
            refine g_aload_n (i := 0) (j := 0) (dk_Log_tell 20 rfl) rfl rfl ?_
            refine g_getI fl_Log_28 (Or.inl rfl) (dk_Log_tell 21 rfl) c2 ?_
            refine g_iconst (dk_Log_tell 22 rfl) (by decide) ?_
            refine g_isub (dk_Log_tell 23 rfl) ?_
            refine g_iload_n (i := 1) (j := 1) (dk_Log_tell 24 rfl) rfl rfl ?_
            refine g_isub (dk_Log_tell 25 rfl) ?_
            refine g_aload_n (i := 0) (j := 0) (dk_Log_tell 26 rfl) rfl rfl ?_
            refine g_getI fl_Log_15 (Or.inl rfl) (dk_Log_tell 27 rfl) c2 ?_
            obtain ⟨c7, h⟩ := p_gdE h
            refine g_irem (dk_Log_tell 28 rfl) c7 ?_
            refine g_iconst (dk_Log_tell 29 rfl) (by decide) ?_
            refine g_imul (dk_Log_tell 30 rfl) ?_
            refine g_iload_n (i := 2) (j := 2) (dk_Log_tell 31 rfl) rfl rfl ?_
            refine g_iadd (dk_Log_tell 32 rfl) ?_
            obtain ⟨c8, h⟩ := p_gdE h
            obtain ⟨c9, h⟩ := p_gdE h
            refine g_iaload (dk_Log_tell 33 rfl) c8 c9.1 c9.2 ?_
            cases h
            exact g_ret rfl rfl (dk_Log_tell 34 rfl) (fun os => ⟨_, rfl, p_okh os⟩)
          · have h := p_ifF b6 h
            refine g_bipush (dk_Log_tell 16 rfl) (by decide +kernel) (by decide) ?_
            cases h
            exact g_ret rfl rfl (dk_Log_tell 17 rfl) (fun os => ⟨_, rfl, p_okh os⟩)
def m_SW_out : p_Me := (⟨"SortWorks", "out", "(II)I"⟩, prog_1_method_42_code, 3, (some .int), 1, 22)
theorem mt_SW_out : p_Mt m_SW_out 2 := ⟨p_mem (p_tb5 (List.mem_of_getElem? (i := 178) rfl)) rfl, tw_1_1, by decide +kernel, by decide +kernel, by decide +kernel⟩
def dt_SW_out : List (Nat × Instr × Nat) := [(0, .aload_n 0, 1), (1, .getfield 18, 3), (4, .getfield 77, 3), (7, .getfield 318, 3), (10, .iload_n 1, 1), (11, .iload_n 2, 1), (12, .invokevirtual 322, 3), (15, .ireturn, 1)]
theorem dk_SW_out (i : Nat) {pc : Nat} {ins : Instr} {len : Nat} (h : dt_SW_out[i]? = some (pc, ins, len)) : decode m_SW_out.2.1 pc = .ok (ins, len) := p_dk (b := m_SW_out.2.1) (t := dt_SW_out) (by decide +kernel) i h
def F_SW_out (v0 : Nat) (v1 : Int) (v2 : Int) (s0 : p_Hp) : Option (Int × p_Hp) :=
  p_gd (p_is s0 v0 10) <|
  p_gd (p_is s0 (p_R s0 v0 1) 9) <|
  p_gd (p_is s0 (p_R s0 (p_R s0 v0 1) 1) 7) <|
  p_gd (p_is s0 (p_R s0 (p_R s0 (p_R s0 v0 1) 1) 8) 2) <|
  p_bd (F_Log_tell (p_R s0 (p_R s0 (p_R s0 v0 1) 1) 8) v1 v2 s0) fun r9 s5 =>
  some (r9, s5)
set_option maxRecDepth 100000 in
set_option maxHeartbeats 4000000 in
theorem tF_SW_out (K : p_K) (l : Launch) (v0 : Nat) (v1 : Int) (v2 : Int) (s0 : p_Hp) (r : (Int × p_Hp)) (h : F_SW_out v0 v1 v2 s0 = some r) : p_Ct K l m_SW_out [p_r v0, p_i v1, p_i v2] s0 (some (p_i r.1), r.2) := by
  refine p_Ct.of (by decide +kernel) (Nat.le_of_ble_eq_true rfl) ?_
  unfold F_SW_out at h
  show p_Go K l m_SW_out 0 [(0, p_r v0), (1, p_i v1), (2, p_i v2)] [] s0 _
  refine g_aload_n (i := 0) (j := 0) (dk_SW_out 0 rfl) rfl rfl ?_
  obtain ⟨c1, h⟩ := p_gdE h
  refine g_getR fl_SW_18 (Or.inl ⟨_, rfl⟩) (dk_SW_out 1 rfl) c1 ?_
  obtain ⟨c2, h⟩ := p_gdE h
  refine g_getR fl_SW_77 (Or.inl ⟨_, rfl⟩) (dk_SW_out 2 rfl) c2 ?_
  obtain ⟨c3, h⟩ := p_gdE h
  refine g_getR fl_SW_318 (Or.inl ⟨_, rfl⟩) (dk_SW_out 3 rfl) c3 ?_
  refine g_iload_n (i := 1) (j := 1) (dk_SW_out 4 rfl) rfl rfl ?_
  refine g_iload_n (i := 2) (j := 2) (dk_SW_out 5 rfl) rfl rfl ?_
  obtain ⟨c4, h⟩ := p_gdE h
  obtain ⟨r9, s5, q6, h⟩ := p_bdE h
  have t7 := tF_Log_tell K l (p_R s0 (p_R s0 (p_R s0 v0 1) 1) 8) v1 v2 s0 _ q6
  refine g_callV (a := (p_R s0 (p_R s0 (p_R s0 v0 1) 1) 8)) (ci := 2) (q0 := (RX2, TX2, 6)) (As := [p_i v1, p_i v2]) (rest := []) [p_i r9] mt_Log_tell rfl rfl tw_5_180 tw_5_181 tw_5_179 ⟨Nat.le_of_ble_eq_true rfl, Nat.le_of_ble_eq_true rfl⟩ rfl (Nat.le_of_ble_eq_true rfl) (dk_SW_out 6 rfl) rfl c4 rfl t7 ?_
  have hs8 : p_x s0 s5 := t7.1
  show p_Go K l m_SW_out 15 [(0, p_r v0), (1, p_i v1), (2, p_i v2)] [p_i r9] s5 _
  cases h
  exact g_ret rfl rfl (dk_SW_out 7 rfl) (fun os => ⟨_, rfl, p_okh os⟩)
def m_SW_rule : p_Me := (⟨"SortWorks", "rule", "(II)I"⟩, prog_1_method_43_code, 3, (some .int), 0, 0)
theorem mt_SW_rule : p_Mt m_SW_rule 2 := ⟨p_mem (p_tb5 (List.mem_of_getElem? (i := 186) rfl)) rfl, tw_1_1, by decide +kernel, by decide +kernel, by decide +kernel⟩
def dt_SW_rule : List (Nat × Instr × Nat) := [(0, .iload_n 1, 1), (1, .ifCond .lt 17, 3), (4, .iload_n 1, 1), (5, .aload_n 0, 1), (6, .getfield 18, 3), (9, .getfield 161, 3), (12, .getfield 162, 3), (15, .if_icmp .lt 6, 3), (18, .bipush (-9), 2), (20, .ireturn, 1), (21, .iload_n 2, 1), (22, .tableswitch 65 0 2 #[26, 39, 52], 26), (48, .aload_n 0, 1), (49, .getfield 18, 3), (52, .getfield 161, 3), (55, .getfield 327, 3), (58, .iload_n 1, 1), (59, .iaload, 1), (60, .ireturn, 1), (61, .aload_n 0, 1), (62, .getfield 18, 3), (65, .getfield 161, 3), (68, .getfield 330, 3), (71, .iload_n 1, 1), (72, .iaload, 1), (73, .ireturn, 1), (74, .aload_n 0, 1), (75, .getfield 18, 3), (78, .getfield 77, 3), (81, .getfield 333, 3), (84, .iload_n 1, 1), (85, .iaload, 1), (86, .ireturn, 1), (87, .bipush (-9), 2), (89, .ireturn, 1)]
theorem dk_SW_rule (i : Nat) {pc : Nat} {ins : Instr} {len : Nat} (h : dt_SW_rule[i]? = some (pc, ins, len)) : decode m_SW_rule.2.1 pc = .ok (ins, len) := p_dk (b := m_SW_rule.2.1) (t := dt_SW_rule) (by decide +kernel) i h
def F_SW_rule (v0 : Nat) (v1 : Int) (v2 : Int) (s0 : p_Hp) : Option (Int × p_Hp) :=
  if v1 < 0 then
    some ((-9), s0)
  else
    p_gd (p_is s0 v0 10) <|
    p_gd (p_is s0 (p_R s0 v0 1) 9) <|
    p_gd (p_is s0 (p_R s0 (p_R s0 v0 1) 3) 6) <|
    if v1 < (p_Z s0 (p_R s0 (p_R s0 v0 1) 3) 0) then
      if v2 = 0 then
        p_gd (p_is s0 (p_R s0 (p_R s0 (p_R s0 v0 1) 3) 1) 100) <|
        p_gd ((0 : Int) ≤ v1 ∧ v1 < (p_L s0 (p_R s0 (p_R s0 (p_R s0 v0 1) 3) 1) : Int)) <|
        some ((p_Z s0 (p_R s0 (p_R s0 (p_R s0 v0 1) 3) 1) (v1 : Int).toNat), s0)
      else if v2 = 1 then
        p_gd (p_is s0 (p_R s0 (p_R s0 (p_R s0 v0 1) 3) 2) 100) <|
        p_gd ((0 : Int) ≤ v1 ∧ v1 < (p_L s0 (p_R s0 (p_R s0 (p_R s0 v0 1) 3) 2) : Int)) <|
        some ((p_Z s0 (p_R s0 (p_R s0 (p_R s0 v0 1) 3) 2) (v1 : Int).toNat), s0)
      else if v2 = 2 then
        p_gd (p_is s0 (p_R s0 (p_R s0 v0 1) 1) 7) <|
        p_gd (p_is s0 (p_R s0 (p_R s0 (p_R s0 v0 1) 1) 6) 100) <|
        p_gd ((0 : Int) ≤ v1 ∧ v1 < (p_L s0 (p_R s0 (p_R s0 (p_R s0 v0 1) 1) 6) : Int)) <|
        some ((p_Z s0 (p_R s0 (p_R s0 (p_R s0 v0 1) 1) 6) (v1 : Int).toNat), s0)
      else 
      some ((-9), s0)
    else
      some ((-9), s0)
set_option maxRecDepth 100000 in
set_option maxHeartbeats 4000000 in
theorem tF_SW_rule (K : p_K) (l : Launch) (v0 : Nat) (v1 : Int) (v2 : Int) (s0 : p_Hp) (r : (Int × p_Hp)) (h : F_SW_rule v0 v1 v2 s0 = some r) : p_Ct K l m_SW_rule [p_r v0, p_i v1, p_i v2] s0 (some (p_i r.1), r.2) := by
  refine p_Ct.of (by decide +kernel) (Nat.le_of_ble_eq_true rfl) ?_
  unfold F_SW_rule at h
  show p_Go K l m_SW_rule 0 [(0, p_r v0), (1, p_i v1), (2, p_i v2)] [] s0 _
  refine g_iload_n (i := 1) (j := 1) (dk_SW_rule 0 rfl) rfl rfl ?_
  refine g_if_lt 18 (dk_SW_rule 1 rfl) (by decide) (fun b1 => ?_) (fun b1 => ?_)
  · have h := p_ifT b1 h
    refine g_bipush (dk_SW_rule 8 rfl) (by decide +kernel) (by decide) ?_
    cases h
    exact g_ret rfl rfl (dk_SW_rule 9 rfl) (fun os => ⟨_, rfl, p_okh os⟩)
  · have h := p_ifF b1 h
    refine g_iload_n (i := 1) (j := 1) (dk_SW_rule 2 rfl) rfl rfl ?_
    refine g_aload_n (i := 0) (j := 0) (dk_SW_rule 3 rfl) rfl rfl ?_
    obtain ⟨c2, h⟩ := p_gdE h
    refine g_getR fl_SW_18 (Or.inl ⟨_, rfl⟩) (dk_SW_rule 4 rfl) c2 ?_
    obtain ⟨c3, h⟩ := p_gdE h
    refine g_getR fl_SW_161 (Or.inl ⟨_, rfl⟩) (dk_SW_rule 5 rfl) c3 ?_
    obtain ⟨c4, h⟩ := p_gdE h
    refine g_getI fl_SW_162 (Or.inl rfl) (dk_SW_rule 6 rfl) c4 ?_
    refine g_icmp_lt 21 (dk_SW_rule 7 rfl) (by decide) (fun b5 => ?_) (fun b5 => ?_)
    · have h := p_ifT b5 h
      refine g_iload_n (i := 2) (j := 2) (dk_SW_rule 10 rfl) rfl rfl ?_
      rcases p_iteE h with ⟨b6, h⟩ | ⟨b6, h⟩
      · refine g_tableIn 48 (dk_SW_rule 11 rfl) (by omega) (by omega) (by rw [b6]; rfl) (by decide) ?_
        refine g_aload_n (i := 0) (j := 0) (dk_SW_rule 12 rfl) rfl rfl ?_
        refine g_getR fl_SW_18 (Or.inl ⟨_, rfl⟩) (dk_SW_rule 13 rfl) c2 ?_
        refine g_getR fl_SW_161 (Or.inl ⟨_, rfl⟩) (dk_SW_rule 14 rfl) c3 ?_
        refine g_getR fl_SW_327 (Or.inr ⟨_, rfl⟩) (dk_SW_rule 15 rfl) c4 ?_
        refine g_iload_n (i := 1) (j := 1) (dk_SW_rule 16 rfl) rfl rfl ?_
        obtain ⟨c7, h⟩ := p_gdE h
        obtain ⟨c8, h⟩ := p_gdE h
        refine g_iaload (dk_SW_rule 17 rfl) c7 c8.1 c8.2 ?_
        cases h
        exact g_ret rfl rfl (dk_SW_rule 18 rfl) (fun os => ⟨_, rfl, p_okh os⟩)
      rcases p_iteE h with ⟨b9, h⟩ | ⟨b9, h⟩
      · refine g_tableIn 61 (dk_SW_rule 11 rfl) (by omega) (by omega) (by rw [b9]; rfl) (by decide) ?_
        refine g_aload_n (i := 0) (j := 0) (dk_SW_rule 19 rfl) rfl rfl ?_
        refine g_getR fl_SW_18 (Or.inl ⟨_, rfl⟩) (dk_SW_rule 20 rfl) c2 ?_
        refine g_getR fl_SW_161 (Or.inl ⟨_, rfl⟩) (dk_SW_rule 21 rfl) c3 ?_
        refine g_getR fl_SW_330 (Or.inr ⟨_, rfl⟩) (dk_SW_rule 22 rfl) c4 ?_
        refine g_iload_n (i := 1) (j := 1) (dk_SW_rule 23 rfl) rfl rfl ?_
        obtain ⟨c10, h⟩ := p_gdE h
        obtain ⟨c11, h⟩ := p_gdE h
        refine g_iaload (dk_SW_rule 24 rfl) c10 c11.1 c11.2 ?_
        cases h
        exact g_ret rfl rfl (dk_SW_rule 25 rfl) (fun os => ⟨_, rfl, p_okh os⟩)
      rcases p_iteE h with ⟨b12, h⟩ | ⟨b12, h⟩
      · refine g_tableIn 74 (dk_SW_rule 11 rfl) (by omega) (by omega) (by rw [b12]; rfl) (by decide) ?_
        refine g_aload_n (i := 0) (j := 0) (dk_SW_rule 26 rfl) rfl rfl ?_
        refine g_getR fl_SW_18 (Or.inl ⟨_, rfl⟩) (dk_SW_rule 27 rfl) c2 ?_
        refine g_getR fl_SW_77 (Or.inl ⟨_, rfl⟩) (dk_SW_rule 28 rfl) c3 ?_
        obtain ⟨c13, h⟩ := p_gdE h
        refine g_getR fl_SW_333 (Or.inr ⟨_, rfl⟩) (dk_SW_rule 29 rfl) c13 ?_
        refine g_iload_n (i := 1) (j := 1) (dk_SW_rule 30 rfl) rfl rfl ?_
        obtain ⟨c14, h⟩ := p_gdE h
        obtain ⟨c15, h⟩ := p_gdE h
        refine g_iaload (dk_SW_rule 31 rfl) c14 c15.1 c15.2 ?_
        cases h
        exact g_ret rfl rfl (dk_SW_rule 32 rfl) (fun os => ⟨_, rfl, p_okh os⟩)
      refine g_tableOut 87 (dk_SW_rule 11 rfl) (by omega) (by decide) ?_
      refine g_bipush (dk_SW_rule 33 rfl) (by decide +kernel) (by decide) ?_
      cases h
      exact g_ret rfl rfl (dk_SW_rule 34 rfl) (fun os => ⟨_, rfl, p_okh os⟩)
    · have h := p_ifF b5 h
      refine g_bipush (dk_SW_rule 8 rfl) (by decide +kernel) (by decide) ?_
      cases h
      exact g_ret rfl rfl (dk_SW_rule 9 rfl) (fun os => ⟨_, rfl, p_okh os⟩)
def m_SW_said : p_Me := (⟨"SortWorks", "said", "(I)I"⟩, prog_1_method_44_code, 2, (some .int), 0, 0)
theorem mt_SW_said : p_Mt m_SW_said 1 := ⟨p_mem (p_tb5 (List.mem_of_getElem? (i := 190) rfl)) rfl, tw_1_1, by decide +kernel, by decide +kernel, by decide +kernel⟩
def dt_SW_said : List (Nat × Instr × Nat) := [(0, .iload_n 1, 1), (1, .ifCond .lt 17, 3), (4, .iload_n 1, 1), (5, .aload_n 0, 1), (6, .getfield 18, 3), (9, .getfield 161, 3), (12, .getfield 336, 3), (15, .if_icmp .lt 8, 3), (18, .bipush (-9), 2), (20, .goto 15, 3), (23, .aload_n 0, 1), (24, .getfield 18, 3), (27, .getfield 161, 3), (30, .getfield 339, 3), (33, .iload_n 1, 1), (34, .iaload, 1), (35, .ireturn, 1)]
theorem dk_SW_said (i : Nat) {pc : Nat} {ins : Instr} {len : Nat} (h : dt_SW_said[i]? = some (pc, ins, len)) : decode m_SW_said.2.1 pc = .ok (ins, len) := p_dk (b := m_SW_said.2.1) (t := dt_SW_said) (by decide +kernel) i h
def B_SW_said_18   (s0 : p_Hp) : Option (Int × p_Hp) :=
  some ((-9), s0)
def F_SW_said (v0 : Nat) (v1 : Int) (s0 : p_Hp) : Option (Int × p_Hp) :=
  if v1 < 0 then
    B_SW_said_18 s0
  else
    p_gd (p_is s0 v0 10) <|
    p_gd (p_is s0 (p_R s0 v0 1) 9) <|
    p_gd (p_is s0 (p_R s0 (p_R s0 v0 1) 3) 6) <|
    if v1 < (p_Z s0 (p_R s0 (p_R s0 v0 1) 3) 8) then
      p_gd (p_is s0 (p_R s0 (p_R s0 (p_R s0 v0 1) 3) 7) 100) <|
      p_gd ((0 : Int) ≤ v1 ∧ v1 < (p_L s0 (p_R s0 (p_R s0 (p_R s0 v0 1) 3) 7) : Int)) <|
      some ((p_Z s0 (p_R s0 (p_R s0 (p_R s0 v0 1) 3) 7) (v1 : Int).toNat), s0)
    else
      B_SW_said_18 s0
set_option maxRecDepth 100000 in
set_option maxHeartbeats 4000000 in
theorem tB_SW_said_18 (K : p_K) (l : Launch)   (s0 : p_Hp) (r : (Int × p_Hp)) (h : B_SW_said_18  s0 = some r) : p_Go K l m_SW_said 18 [] [] s0 (some (p_i r.1), r.2) := by
  unfold B_SW_said_18 at h
  refine g_bipush (dk_SW_said 8 rfl) (by decide +kernel) (by decide) ?_
  refine g_goto 35 (dk_SW_said 9 rfl) (by decide) ?_
  cases h
  exact g_ret rfl rfl (dk_SW_said 16 rfl) (fun os => ⟨_, rfl, p_okh os⟩)
set_option maxRecDepth 100000 in
set_option maxHeartbeats 4000000 in
theorem tF_SW_said (K : p_K) (l : Launch) (v0 : Nat) (v1 : Int) (s0 : p_Hp) (r : (Int × p_Hp)) (h : F_SW_said v0 v1 s0 = some r) : p_Ct K l m_SW_said [p_r v0, p_i v1] s0 (some (p_i r.1), r.2) := by
  refine p_Ct.of (by decide +kernel) (Nat.le_of_ble_eq_true rfl) ?_
  unfold F_SW_said at h
  show p_Go K l m_SW_said 0 [(0, p_r v0), (1, p_i v1)] [] s0 _
  refine g_iload_n (i := 1) (j := 1) (dk_SW_said 0 rfl) rfl rfl ?_
  refine g_if_lt 18 (dk_SW_said 1 rfl) (by decide) (fun b1 => ?_) (fun b1 => ?_)
  · have h := p_ifT b1 h
    refine g_sub [] [] rfl ?_
    exact tB_SW_said_18 K l s0 _ h
  · have h := p_ifF b1 h
    refine g_iload_n (i := 1) (j := 1) (dk_SW_said 2 rfl) rfl rfl ?_
    refine g_aload_n (i := 0) (j := 0) (dk_SW_said 3 rfl) rfl rfl ?_
    obtain ⟨c2, h⟩ := p_gdE h
    refine g_getR fl_SW_18 (Or.inl ⟨_, rfl⟩) (dk_SW_said 4 rfl) c2 ?_
    obtain ⟨c3, h⟩ := p_gdE h
    refine g_getR fl_SW_161 (Or.inl ⟨_, rfl⟩) (dk_SW_said 5 rfl) c3 ?_
    obtain ⟨c4, h⟩ := p_gdE h
    refine g_getI fl_SW_336 (Or.inl rfl) (dk_SW_said 6 rfl) c4 ?_
    refine g_icmp_lt 23 (dk_SW_said 7 rfl) (by decide) (fun b5 => ?_) (fun b5 => ?_)
    · have h := p_ifT b5 h
      refine g_aload_n (i := 0) (j := 0) (dk_SW_said 10 rfl) rfl rfl ?_
      refine g_getR fl_SW_18 (Or.inl ⟨_, rfl⟩) (dk_SW_said 11 rfl) c2 ?_
      refine g_getR fl_SW_161 (Or.inl ⟨_, rfl⟩) (dk_SW_said 12 rfl) c3 ?_
      refine g_getR fl_SW_339 (Or.inr ⟨_, rfl⟩) (dk_SW_said 13 rfl) c4 ?_
      refine g_iload_n (i := 1) (j := 1) (dk_SW_said 14 rfl) rfl rfl ?_
      obtain ⟨c6, h⟩ := p_gdE h
      obtain ⟨c7, h⟩ := p_gdE h
      refine g_iaload (dk_SW_said 15 rfl) c6 c7.1 c7.2 ?_
      cases h
      exact g_ret rfl rfl (dk_SW_said 16 rfl) (fun os => ⟨_, rfl, p_okh os⟩)
    · have h := p_ifF b5 h
      refine g_sub [] [] rfl ?_
      exact tB_SW_said_18 K l s0 _ h
def m_SW_unused : p_Me := (⟨"SortWorks", "unused", "(I)I"⟩, prog_1_method_45_code, 4, (some .int), 0, 0)
theorem mt_SW_unused : p_Mt m_SW_unused 1 := ⟨p_mem (p_tb5 (List.mem_of_getElem? (i := 194) rfl)) rfl, tw_1_1, by decide +kernel, by decide +kernel, by decide +kernel⟩
def dt_SW_unused : List (Nat × Instr × Nat) := [(0, .iconst 0, 1), (1, .istore_n 2, 1), (2, .iconst 0, 1), (3, .istore_n 3, 1), (4, .iload_n 3, 1), (5, .aload_n 0, 1), (6, .getfield 18, 3), (9, .getfield 161, 3), (12, .getfield 162, 3), (15, .if_icmp .ge 34, 3), (18, .aload_n 0, 1), (19, .getfield 18, 3), (22, .getfield 77, 3), (25, .getfield 333, 3), (28, .iload_n 3, 1), (29, .iaload, 1), (30, .ifCond .ne 13, 3), (33, .iload_n 2, 1), (34, .iload_n 1, 1), (35, .if_icmp .ne 5, 3), (38, .iload_n 3, 1), (39, .ireturn, 1), (40, .iinc 2 1, 3), (43, .iinc 3 1, 3), (46, .goto (-42), 3), (49, .bipush (-9), 2), (51, .ireturn, 1)]
theorem dk_SW_unused (i : Nat) {pc : Nat} {ins : Instr} {len : Nat} (h : dt_SW_unused[i]? = some (pc, ins, len)) : decode m_SW_unused.2.1 pc = .ok (ins, len) := p_dk (b := m_SW_unused.2.1) (t := dt_SW_unused) (by decide +kernel) i h
def B_SW_unused_43 (k4 : Nat → Int → Int → Int → p_Hp → Option (Int × p_Hp)) (v0 : Nat) (v1 : Int) (v2 : Int) (v3 : Int) (s0 : p_Hp) : Option (Int × p_Hp) :=
  p_bi (p_w (v3 + 1)) fun x1 =>
  k4 v0 v1 v2 x1 s0
def L_SW_unused_4 (k4 : Nat → Int → Int → Int → p_Hp → Option (Int × p_Hp)) (v0 : Nat) (v1 : Int) (v2 : Int) (v3 : Int) (s0 : p_Hp) : Option (Int × p_Hp) :=
  p_gd (p_is s0 v0 10) <|
  p_gd (p_is s0 (p_R s0 v0 1) 9) <|
  p_gd (p_is s0 (p_R s0 (p_R s0 v0 1) 3) 6) <|
  if (p_Z s0 (p_R s0 (p_R s0 v0 1) 3) 0) ≤ v3 then
    some ((-9), s0)
  else
    p_gd (p_is s0 (p_R s0 (p_R s0 v0 1) 1) 7) <|
    p_gd (p_is s0 (p_R s0 (p_R s0 (p_R s0 v0 1) 1) 6) 100) <|
    p_gd ((0 : Int) ≤ v3 ∧ v3 < (p_L s0 (p_R s0 (p_R s0 (p_R s0 v0 1) 1) 6) : Int)) <|
    if (p_Z s0 (p_R s0 (p_R s0 (p_R s0 v0 1) 1) 6) (v3 : Int).toNat) ≠ 0 then
      B_SW_unused_43 k4 v0 v1 v2 v3 s0
    else
      if v2 ≠ v1 then
        p_bi (p_w (v2 + 1)) fun x10 =>
        B_SW_unused_43 k4 v0 v1 x10 v3 s0
      else
        some (v3, s0)
def O_SW_unused_4  : Nat → Nat → Int → Int → Int → p_Hp → Option (Int × p_Hp)
  | 0 => fun _ _ _ _ _ => none
  | n + 1 => L_SW_unused_4 (O_SW_unused_4 n)
def F_SW_unused (v0 : Nat) (v1 : Int) (s0 : p_Hp) : Option (Int × p_Hp) :=
  O_SW_unused_4 3000 v0 v1 0 0 s0
set_option maxRecDepth 100000 in
set_option maxHeartbeats 4000000 in
theorem tB_SW_unused_43 (K : p_K) (l : Launch) (k4 : Nat → Int → Int → Int → p_Hp → Option (Int × p_Hp)) (hk4 : ∀ (v0 : Nat) (v1 : Int) (v2 : Int) (v3 : Int)  (s0 : p_Hp) (r : (Int × p_Hp)), k4 v0 v1 v2 v3 s0 = some r → p_Go K l m_SW_unused 4 [(0, p_r v0), (1, p_i v1), (2, p_i v2), (3, p_i v3)] [] s0 (some (p_i r.1), r.2)) (v0 : Nat) (v1 : Int) (v2 : Int) (v3 : Int) (s0 : p_Hp) (r : (Int × p_Hp)) (h : B_SW_unused_43 k4 v0 v1 v2 v3 s0 = some r) : p_Go K l m_SW_unused 43 [(0, p_r v0), (1, p_i v1), (2, p_i v2), (3, p_i v3)] [] s0 (some (p_i r.1), r.2) := by
  unfold B_SW_unused_43 at h
  refine g_iinc (j := 3) [(3, p_i (p_w (v3 + 1))), (0, p_r v0), (1, p_i v1), (2, p_i v2)] (dk_SW_unused 23 rfl) rfl (by decide) rfl ?_
  refine p_ltG (P := fun q => p_Go K l m_SW_unused 46 [(3, p_i q), (0, p_r v0), (1, p_i v1), (2, p_i v2)] [] s0 _) ?_ h
  intro x1 h
  refine g_goto 4 (dk_SW_unused 24 rfl) (by decide) ?_
  refine g_sub [(0, p_r v0), (1, p_i v1), (2, p_i v2), (3, p_i x1)] [1, 2, 3, 0] rfl ?_
  exact hk4 v0 v1 v2 x1 s0 _ h
set_option maxRecDepth 100000 in
set_option maxHeartbeats 4000000 in
theorem tL_SW_unused_4 (K : p_K) (l : Launch) (k4 : Nat → Int → Int → Int → p_Hp → Option (Int × p_Hp)) (hk4 : ∀ (v0 : Nat) (v1 : Int) (v2 : Int) (v3 : Int)  (s0 : p_Hp) (r : (Int × p_Hp)), k4 v0 v1 v2 v3 s0 = some r → p_Go K l m_SW_unused 4 [(0, p_r v0), (1, p_i v1), (2, p_i v2), (3, p_i v3)] [] s0 (some (p_i r.1), r.2)) (v0 : Nat) (v1 : Int) (v2 : Int) (v3 : Int) (s0 : p_Hp) (r : (Int × p_Hp)) (h : L_SW_unused_4 k4 v0 v1 v2 v3 s0 = some r) : p_Go K l m_SW_unused 4 [(0, p_r v0), (1, p_i v1), (2, p_i v2), (3, p_i v3)] [] s0 (some (p_i r.1), r.2) := by
  unfold L_SW_unused_4 at h
  refine g_iload_n (i := 3) (j := 3) (dk_SW_unused 4 rfl) rfl rfl ?_
  refine g_aload_n (i := 0) (j := 0) (dk_SW_unused 5 rfl) rfl rfl ?_
  obtain ⟨c1, h⟩ := p_gdE h
  refine g_getR fl_SW_18 (Or.inl ⟨_, rfl⟩) (dk_SW_unused 6 rfl) c1 ?_
  obtain ⟨c2, h⟩ := p_gdE h
  refine g_getR fl_SW_161 (Or.inl ⟨_, rfl⟩) (dk_SW_unused 7 rfl) c2 ?_
  obtain ⟨c3, h⟩ := p_gdE h
  refine g_getI fl_SW_162 (Or.inl rfl) (dk_SW_unused 8 rfl) c3 ?_
  refine g_icmp_ge 49 (dk_SW_unused 9 rfl) (by decide) (fun b4 => ?_) (fun b4 => ?_)
  · have h := p_ifT b4 h
    refine g_bipush (dk_SW_unused 25 rfl) (by decide +kernel) (by decide) ?_
    cases h
    exact g_ret rfl rfl (dk_SW_unused 26 rfl) (fun os => ⟨_, rfl, p_okh os⟩)
  · have h := p_ifF b4 h
    refine g_aload_n (i := 0) (j := 0) (dk_SW_unused 10 rfl) rfl rfl ?_
    refine g_getR fl_SW_18 (Or.inl ⟨_, rfl⟩) (dk_SW_unused 11 rfl) c1 ?_
    refine g_getR fl_SW_77 (Or.inl ⟨_, rfl⟩) (dk_SW_unused 12 rfl) c2 ?_
    obtain ⟨c5, h⟩ := p_gdE h
    refine g_getR fl_SW_333 (Or.inr ⟨_, rfl⟩) (dk_SW_unused 13 rfl) c5 ?_
    refine g_iload_n (i := 3) (j := 3) (dk_SW_unused 14 rfl) rfl rfl ?_
    obtain ⟨c6, h⟩ := p_gdE h
    obtain ⟨c7, h⟩ := p_gdE h
    refine g_iaload (dk_SW_unused 15 rfl) c6 c7.1 c7.2 ?_
    refine g_if_ne 43 (dk_SW_unused 16 rfl) (by decide) (fun b8 => ?_) (fun b8 => ?_)
    · have h := p_ifT b8 h
      exact tB_SW_unused_43 K l k4 hk4 v0 v1 v2 v3 s0 _ h
    · have h := p_ifF b8 h
      refine g_iload_n (i := 2) (j := 2) (dk_SW_unused 17 rfl) rfl rfl ?_
      refine g_iload_n (i := 1) (j := 1) (dk_SW_unused 18 rfl) rfl rfl ?_
      refine g_icmp_ne 40 (dk_SW_unused 19 rfl) (by decide) (fun b9 => ?_) (fun b9 => ?_)
      · have h := p_ifT b9 h
        refine g_iinc (j := 2) [(2, p_i (p_w (v2 + 1))), (0, p_r v0), (1, p_i v1), (3, p_i v3)] (dk_SW_unused 22 rfl) rfl (by decide) rfl ?_
        refine p_ltG (P := fun q => p_Go K l m_SW_unused 43 [(2, p_i q), (0, p_r v0), (1, p_i v1), (3, p_i v3)] [] s0 _) ?_ h
        intro x10 h
        refine g_sub [(0, p_r v0), (1, p_i v1), (2, p_i x10), (3, p_i v3)] [1, 2, 0, 3] rfl ?_
        exact tB_SW_unused_43 K l k4 hk4 v0 v1 x10 v3 s0 _ h
      · have h := p_ifF b9 h
        refine g_iload_n (i := 3) (j := 3) (dk_SW_unused 20 rfl) rfl rfl ?_
        cases h
        exact g_ret rfl rfl (dk_SW_unused 21 rfl) (fun os => ⟨_, rfl, p_okh os⟩)
set_option maxRecDepth 100000 in
set_option maxHeartbeats 4000000 in
theorem tO_SW_unused_4 (K : p_K) (l : Launch)  : ∀ (n : Nat) (v0 : Nat) (v1 : Int) (v2 : Int) (v3 : Int) (s0 : p_Hp) (r : (Int × p_Hp)), O_SW_unused_4 n v0 v1 v2 v3 s0 = some r → p_Go K l m_SW_unused 4 [(0, p_r v0), (1, p_i v1), (2, p_i v2), (3, p_i v3)] [] s0 (some (p_i r.1), r.2) := by
  intro n
  induction n with
  | zero => intro v0 v1 v2 v3 s0 r h; cases (show (none : Option (Int × p_Hp)) = some r from h)
  | succ n ih => intro v0 v1 v2 v3 s0 r h; exact tL_SW_unused_4 K l _ ih v0 v1 v2 v3 s0 r h
set_option maxRecDepth 100000 in
set_option maxHeartbeats 4000000 in
theorem tF_SW_unused (K : p_K) (l : Launch) (v0 : Nat) (v1 : Int) (s0 : p_Hp) (r : (Int × p_Hp)) (h : F_SW_unused v0 v1 s0 = some r) : p_Ct K l m_SW_unused [p_r v0, p_i v1] s0 (some (p_i r.1), r.2) := by
  refine p_Ct.of (by decide +kernel) (Nat.le_of_ble_eq_true rfl) ?_
  unfold F_SW_unused at h
  show p_Go K l m_SW_unused 0 [(0, p_r v0), (1, p_i v1)] [] s0 _
  refine g_iconst (dk_SW_unused 0 rfl) (by decide) ?_
  refine g_istore_n (i := 2) [(2, p_i 0), (0, p_r v0), (1, p_i v1)] (dk_SW_unused 1 rfl) rfl (by decide) rfl ?_
  refine g_iconst (dk_SW_unused 2 rfl) (by decide) ?_
  refine g_istore_n (i := 3) [(3, p_i 0), (2, p_i 0), (0, p_r v0), (1, p_i v1)] (dk_SW_unused 3 rfl) rfl (by decide) rfl ?_
  refine g_sub [(0, p_r v0), (1, p_i v1), (2, p_i 0), (3, p_i 0)] [2, 3, 1, 0] rfl ?_
  exact tO_SW_unused_4 K l 3000 v0 v1 0 0 s0 _ h
def m_SW_finding : p_Me := (⟨"SortWorks", "finding", "(II)I"⟩, prog_1_method_46_code, 3, (some .int), 1, 22)
theorem mt_SW_finding : p_Mt m_SW_finding 2 := ⟨p_mem (p_tb5 (List.mem_of_getElem? (i := 198) rfl)) rfl, tw_1_1, by decide +kernel, by decide +kernel, by decide +kernel⟩
def dt_SW_finding : List (Nat × Instr × Nat) := [(0, .aload_n 0, 1), (1, .getfield 18, 3), (4, .getfield 77, 3), (7, .getfield 342, 3), (10, .iload_n 1, 1), (11, .iload_n 2, 1), (12, .invokevirtual 322, 3), (15, .ireturn, 1)]
theorem dk_SW_finding (i : Nat) {pc : Nat} {ins : Instr} {len : Nat} (h : dt_SW_finding[i]? = some (pc, ins, len)) : decode m_SW_finding.2.1 pc = .ok (ins, len) := p_dk (b := m_SW_finding.2.1) (t := dt_SW_finding) (by decide +kernel) i h
def F_SW_finding (v0 : Nat) (v1 : Int) (v2 : Int) (s0 : p_Hp) : Option (Int × p_Hp) :=
  p_gd (p_is s0 v0 10) <|
  p_gd (p_is s0 (p_R s0 v0 1) 9) <|
  p_gd (p_is s0 (p_R s0 (p_R s0 v0 1) 1) 7) <|
  p_gd (p_is s0 (p_R s0 (p_R s0 (p_R s0 v0 1) 1) 7) 2) <|
  p_bd (F_Log_tell (p_R s0 (p_R s0 (p_R s0 v0 1) 1) 7) v1 v2 s0) fun r9 s5 =>
  some (r9, s5)
set_option maxRecDepth 100000 in
set_option maxHeartbeats 4000000 in
theorem tF_SW_finding (K : p_K) (l : Launch) (v0 : Nat) (v1 : Int) (v2 : Int) (s0 : p_Hp) (r : (Int × p_Hp)) (h : F_SW_finding v0 v1 v2 s0 = some r) : p_Ct K l m_SW_finding [p_r v0, p_i v1, p_i v2] s0 (some (p_i r.1), r.2) := by
  refine p_Ct.of (by decide +kernel) (Nat.le_of_ble_eq_true rfl) ?_
  unfold F_SW_finding at h
  show p_Go K l m_SW_finding 0 [(0, p_r v0), (1, p_i v1), (2, p_i v2)] [] s0 _
  refine g_aload_n (i := 0) (j := 0) (dk_SW_finding 0 rfl) rfl rfl ?_
  obtain ⟨c1, h⟩ := p_gdE h
  refine g_getR fl_SW_18 (Or.inl ⟨_, rfl⟩) (dk_SW_finding 1 rfl) c1 ?_
  obtain ⟨c2, h⟩ := p_gdE h
  refine g_getR fl_SW_77 (Or.inl ⟨_, rfl⟩) (dk_SW_finding 2 rfl) c2 ?_
  obtain ⟨c3, h⟩ := p_gdE h
  refine g_getR fl_SW_342 (Or.inl ⟨_, rfl⟩) (dk_SW_finding 3 rfl) c3 ?_
  refine g_iload_n (i := 1) (j := 1) (dk_SW_finding 4 rfl) rfl rfl ?_
  refine g_iload_n (i := 2) (j := 2) (dk_SW_finding 5 rfl) rfl rfl ?_
  obtain ⟨c4, h⟩ := p_gdE h
  obtain ⟨r9, s5, q6, h⟩ := p_bdE h
  have t7 := tF_Log_tell K l (p_R s0 (p_R s0 (p_R s0 v0 1) 1) 7) v1 v2 s0 _ q6
  refine g_callV (a := (p_R s0 (p_R s0 (p_R s0 v0 1) 1) 7)) (ci := 2) (q0 := (RX2, TX2, 6)) (As := [p_i v1, p_i v2]) (rest := []) [p_i r9] mt_Log_tell rfl rfl tw_5_180 tw_5_181 tw_5_179 ⟨Nat.le_of_ble_eq_true rfl, Nat.le_of_ble_eq_true rfl⟩ rfl (Nat.le_of_ble_eq_true rfl) (dk_SW_finding 6 rfl) rfl c4 rfl t7 ?_
  have hs8 : p_x s0 s5 := t7.1
  show p_Go K l m_SW_finding 15 [(0, p_r v0), (1, p_i v1), (2, p_i v2)] [p_i r9] s5 _
  cases h
  exact g_ret rfl rfl (dk_SW_finding 7 rfl) (fun os => ⟨_, rfl, p_okh os⟩)
def m_SW_trace : p_Me := (⟨"SortWorks", "trace", "(I)I"⟩, prog_1_method_47_code, 2, (some .int), 0, 0)
theorem mt_SW_trace : p_Mt m_SW_trace 1 := ⟨p_mem (p_tb5 (List.mem_of_getElem? (i := 202) rfl)) rfl, tw_1_1, by decide +kernel, by decide +kernel, by decide +kernel⟩
def dt_SW_trace : List (Nat × Instr × Nat) := [(0, .iload_n 1, 1), (1, .ifCond .lt 20, 3), (4, .iload_n 1, 1), (5, .aload_n 0, 1), (6, .getfield 18, 3), (9, .getfield 345, 3), (12, .if_icmp .ge 9, 3), (15, .iload_n 1, 1), (16, .bipush 60, 2), (18, .if_icmp .lt 8, 3), (21, .bipush (-9), 2), (23, .goto 12, 3), (26, .aload_n 0, 1), (27, .getfield 18, 3), (30, .getfield 348, 3), (33, .iload_n 1, 1), (34, .iaload, 1), (35, .ireturn, 1)]
theorem dk_SW_trace (i : Nat) {pc : Nat} {ins : Instr} {len : Nat} (h : dt_SW_trace[i]? = some (pc, ins, len)) : decode m_SW_trace.2.1 pc = .ok (ins, len) := p_dk (b := m_SW_trace.2.1) (t := dt_SW_trace) (by decide +kernel) i h
def B_SW_trace_21   (s0 : p_Hp) : Option (Int × p_Hp) :=
  some ((-9), s0)
def F_SW_trace (v0 : Nat) (v1 : Int) (s0 : p_Hp) : Option (Int × p_Hp) :=
  if v1 < 0 then
    B_SW_trace_21 s0
  else
    p_gd (p_is s0 v0 10) <|
    p_gd (p_is s0 (p_R s0 v0 1) 9) <|
    if (p_Z s0 (p_R s0 v0 1) 11) ≤ v1 then
      B_SW_trace_21 s0
    else
      if v1 < 60 then
        p_gd (p_is s0 (p_R s0 (p_R s0 v0 1) 10) 100) <|
        p_gd ((0 : Int) ≤ v1 ∧ v1 < (p_L s0 (p_R s0 (p_R s0 v0 1) 10) : Int)) <|
        some ((p_Z s0 (p_R s0 (p_R s0 v0 1) 10) (v1 : Int).toNat), s0)
      else
        B_SW_trace_21 s0
set_option maxRecDepth 100000 in
set_option maxHeartbeats 4000000 in
theorem tB_SW_trace_21 (K : p_K) (l : Launch)   (s0 : p_Hp) (r : (Int × p_Hp)) (h : B_SW_trace_21  s0 = some r) : p_Go K l m_SW_trace 21 [] [] s0 (some (p_i r.1), r.2) := by
  unfold B_SW_trace_21 at h
  refine g_bipush (dk_SW_trace 10 rfl) (by decide +kernel) (by decide) ?_
  refine g_goto 35 (dk_SW_trace 11 rfl) (by decide) ?_
  cases h
  exact g_ret rfl rfl (dk_SW_trace 17 rfl) (fun os => ⟨_, rfl, p_okh os⟩)
set_option maxRecDepth 100000 in
set_option maxHeartbeats 4000000 in
theorem tF_SW_trace (K : p_K) (l : Launch) (v0 : Nat) (v1 : Int) (s0 : p_Hp) (r : (Int × p_Hp)) (h : F_SW_trace v0 v1 s0 = some r) : p_Ct K l m_SW_trace [p_r v0, p_i v1] s0 (some (p_i r.1), r.2) := by
  refine p_Ct.of (by decide +kernel) (Nat.le_of_ble_eq_true rfl) ?_
  unfold F_SW_trace at h
  show p_Go K l m_SW_trace 0 [(0, p_r v0), (1, p_i v1)] [] s0 _
  refine g_iload_n (i := 1) (j := 1) (dk_SW_trace 0 rfl) rfl rfl ?_
  refine g_if_lt 21 (dk_SW_trace 1 rfl) (by decide) (fun b1 => ?_) (fun b1 => ?_)
  · have h := p_ifT b1 h
    refine g_sub [] [] rfl ?_
    exact tB_SW_trace_21 K l s0 _ h
  · have h := p_ifF b1 h
    refine g_iload_n (i := 1) (j := 1) (dk_SW_trace 2 rfl) rfl rfl ?_
    refine g_aload_n (i := 0) (j := 0) (dk_SW_trace 3 rfl) rfl rfl ?_
    obtain ⟨c2, h⟩ := p_gdE h
    refine g_getR fl_SW_18 (Or.inl ⟨_, rfl⟩) (dk_SW_trace 4 rfl) c2 ?_
    obtain ⟨c3, h⟩ := p_gdE h
    refine g_getI fl_SW_345 (Or.inl rfl) (dk_SW_trace 5 rfl) c3 ?_
    refine g_icmp_ge 21 (dk_SW_trace 6 rfl) (by decide) (fun b4 => ?_) (fun b4 => ?_)
    · have h := p_ifT b4 h
      refine g_sub [] [] rfl ?_
      exact tB_SW_trace_21 K l s0 _ h
    · have h := p_ifF b4 h
      refine g_iload_n (i := 1) (j := 1) (dk_SW_trace 7 rfl) rfl rfl ?_
      refine g_bipush (dk_SW_trace 8 rfl) (by decide +kernel) (by decide) ?_
      refine g_icmp_lt 26 (dk_SW_trace 9 rfl) (by decide) (fun b5 => ?_) (fun b5 => ?_)
      · have h := p_ifT b5 h
        refine g_aload_n (i := 0) (j := 0) (dk_SW_trace 12 rfl) rfl rfl ?_
        refine g_getR fl_SW_18 (Or.inl ⟨_, rfl⟩) (dk_SW_trace 13 rfl) c2 ?_
        refine g_getR fl_SW_348 (Or.inr ⟨_, rfl⟩) (dk_SW_trace 14 rfl) c3 ?_
        refine g_iload_n (i := 1) (j := 1) (dk_SW_trace 15 rfl) rfl rfl ?_
        obtain ⟨c6, h⟩ := p_gdE h
        obtain ⟨c7, h⟩ := p_gdE h
        refine g_iaload (dk_SW_trace 16 rfl) c6 c7.1 c7.2 ?_
        cases h
        exact g_ret rfl rfl (dk_SW_trace 17 rfl) (fun os => ⟨_, rfl, p_okh os⟩)
      · have h := p_ifF b5 h
        refine g_sub [] [] rfl ?_
        exact tB_SW_trace_21 K l s0 _ h
def m_SW_jam : p_Me := (⟨"SortWorks", "jam", "(I)I"⟩, prog_1_method_48_code, 4, (some .int), 3, 60)
theorem mt_SW_jam : p_Mt m_SW_jam 1 := ⟨p_mem (p_tb5 (List.mem_of_getElem? (i := 206) rfl)) rfl, tw_1_1, by decide +kernel, by decide +kernel, by decide +kernel⟩
def dt_SW_jam : List (Nat × Instr × Nat) := [(0, .iconst 0, 1), (1, .istore_n 2, 1), (2, .iconst 0, 1), (3, .istore_n 3, 1), (4, .iload_n 3, 1), (5, .aload_n 0, 1), (6, .getfield 18, 3), (9, .getfield 74, 3), (12, .if_icmp .ge 37, 3), (15, .aload_n 0, 1), (16, .getfield 18, 3), (19, .getfield 77, 3), (22, .getfield 81, 3), (25, .iload_n 3, 1), (26, .aaload, 1), (27, .invokevirtual 231, 3), (30, .ifCond .eq 13, 3), (33, .iload_n 2, 1), (34, .iload_n 1, 1), (35, .if_icmp .ne 5, 3), (38, .iload_n 3, 1), (39, .ireturn, 1), (40, .iinc 2 1, 3), (43, .iinc 3 1, 3), (46, .goto (-42), 3), (49, .bipush (-9), 2), (51, .ireturn, 1)]
theorem dk_SW_jam (i : Nat) {pc : Nat} {ins : Instr} {len : Nat} (h : dt_SW_jam[i]? = some (pc, ins, len)) : decode m_SW_jam.2.1 pc = .ok (ins, len) := p_dk (b := m_SW_jam.2.1) (t := dt_SW_jam) (by decide +kernel) i h
def B_SW_jam_43 (k4 : Nat → Int → Int → Int → p_Hp → Option (Int × p_Hp)) (v0 : Nat) (v1 : Int) (v2 : Int) (v3 : Int) (s0 : p_Hp) : Option (Int × p_Hp) :=
  p_bi (p_w (v3 + 1)) fun x1 =>
  k4 v0 v1 v2 x1 s0
def L_SW_jam_4 (k4 : Nat → Int → Int → Int → p_Hp → Option (Int × p_Hp)) (v0 : Nat) (v1 : Int) (v2 : Int) (v3 : Int) (s0 : p_Hp) : Option (Int × p_Hp) :=
  p_gd (p_is s0 v0 10) <|
  p_gd (p_is s0 (p_R s0 v0 1) 9) <|
  if (p_Z s0 (p_R s0 v0 1) 2) ≤ v3 then
    some ((-9), s0)
  else
    p_gd (p_is s0 (p_R s0 (p_R s0 v0 1) 1) 7) <|
    p_gd (p_is s0 (p_R s0 (p_R s0 (p_R s0 v0 1) 1) 4) 105) <|
    p_gd ((0 : Int) ≤ v3 ∧ v3 < (p_L s0 (p_R s0 (p_R s0 (p_R s0 v0 1) 1) 4) : Int)) <|
    p_gd (p_is s0 (p_R s0 (p_R s0 (p_R s0 (p_R s0 v0 1) 1) 4) (v3 : Int).toNat) 0) <|
    p_bd (F_Gear_isJammed (p_R s0 (p_R s0 (p_R s0 (p_R s0 v0 1) 1) 4) (v3 : Int).toNat) s0) fun r12 s8 =>
    if r12 = 0 then
      B_SW_jam_43 k4 v0 v1 v2 v3 s8
    else
      if v2 ≠ v1 then
        p_bi (p_w (v2 + 1)) fun x15 =>
        B_SW_jam_43 k4 v0 v1 x15 v3 s8
      else
        some (v3, s8)
def O_SW_jam_4  : Nat → Nat → Int → Int → Int → p_Hp → Option (Int × p_Hp)
  | 0 => fun _ _ _ _ _ => none
  | n + 1 => L_SW_jam_4 (O_SW_jam_4 n)
def F_SW_jam (v0 : Nat) (v1 : Int) (s0 : p_Hp) : Option (Int × p_Hp) :=
  O_SW_jam_4 3000 v0 v1 0 0 s0
set_option maxRecDepth 100000 in
set_option maxHeartbeats 4000000 in
theorem tB_SW_jam_43 (K : p_K) (l : Launch) (k4 : Nat → Int → Int → Int → p_Hp → Option (Int × p_Hp)) (hk4 : ∀ (v0 : Nat) (v1 : Int) (v2 : Int) (v3 : Int)  (s0 : p_Hp) (r : (Int × p_Hp)), k4 v0 v1 v2 v3 s0 = some r → p_Go K l m_SW_jam 4 [(0, p_r v0), (1, p_i v1), (2, p_i v2), (3, p_i v3)] [] s0 (some (p_i r.1), r.2)) (v0 : Nat) (v1 : Int) (v2 : Int) (v3 : Int) (s0 : p_Hp) (r : (Int × p_Hp)) (h : B_SW_jam_43 k4 v0 v1 v2 v3 s0 = some r) : p_Go K l m_SW_jam 43 [(0, p_r v0), (1, p_i v1), (2, p_i v2), (3, p_i v3)] [] s0 (some (p_i r.1), r.2) := by
  unfold B_SW_jam_43 at h
  refine g_iinc (j := 3) [(3, p_i (p_w (v3 + 1))), (0, p_r v0), (1, p_i v1), (2, p_i v2)] (dk_SW_jam 23 rfl) rfl (by decide) rfl ?_
  refine p_ltG (P := fun q => p_Go K l m_SW_jam 46 [(3, p_i q), (0, p_r v0), (1, p_i v1), (2, p_i v2)] [] s0 _) ?_ h
  intro x1 h
  refine g_goto 4 (dk_SW_jam 24 rfl) (by decide) ?_
  refine g_sub [(0, p_r v0), (1, p_i v1), (2, p_i v2), (3, p_i x1)] [1, 2, 3, 0] rfl ?_
  exact hk4 v0 v1 v2 x1 s0 _ h
set_option maxRecDepth 100000 in
set_option maxHeartbeats 4000000 in
theorem tL_SW_jam_4 (K : p_K) (l : Launch) (k4 : Nat → Int → Int → Int → p_Hp → Option (Int × p_Hp)) (hk4 : ∀ (v0 : Nat) (v1 : Int) (v2 : Int) (v3 : Int)  (s0 : p_Hp) (r : (Int × p_Hp)), k4 v0 v1 v2 v3 s0 = some r → p_Go K l m_SW_jam 4 [(0, p_r v0), (1, p_i v1), (2, p_i v2), (3, p_i v3)] [] s0 (some (p_i r.1), r.2)) (v0 : Nat) (v1 : Int) (v2 : Int) (v3 : Int) (s0 : p_Hp) (r : (Int × p_Hp)) (h : L_SW_jam_4 k4 v0 v1 v2 v3 s0 = some r) : p_Go K l m_SW_jam 4 [(0, p_r v0), (1, p_i v1), (2, p_i v2), (3, p_i v3)] [] s0 (some (p_i r.1), r.2) := by
  unfold L_SW_jam_4 at h
  refine g_iload_n (i := 3) (j := 3) (dk_SW_jam 4 rfl) rfl rfl ?_
  refine g_aload_n (i := 0) (j := 0) (dk_SW_jam 5 rfl) rfl rfl ?_
  obtain ⟨c1, h⟩ := p_gdE h
  refine g_getR fl_SW_18 (Or.inl ⟨_, rfl⟩) (dk_SW_jam 6 rfl) c1 ?_
  obtain ⟨c2, h⟩ := p_gdE h
  refine g_getI fl_SW_74 (Or.inl rfl) (dk_SW_jam 7 rfl) c2 ?_
  refine g_icmp_ge 49 (dk_SW_jam 8 rfl) (by decide) (fun b3 => ?_) (fun b3 => ?_)
  · have h := p_ifT b3 h
    refine g_bipush (dk_SW_jam 25 rfl) (by decide +kernel) (by decide) ?_
    cases h
    exact g_ret rfl rfl (dk_SW_jam 26 rfl) (fun os => ⟨_, rfl, p_okh os⟩)
  · have h := p_ifF b3 h
    refine g_aload_n (i := 0) (j := 0) (dk_SW_jam 9 rfl) rfl rfl ?_
    refine g_getR fl_SW_18 (Or.inl ⟨_, rfl⟩) (dk_SW_jam 10 rfl) c1 ?_
    refine g_getR fl_SW_77 (Or.inl ⟨_, rfl⟩) (dk_SW_jam 11 rfl) c2 ?_
    obtain ⟨c4, h⟩ := p_gdE h
    refine g_getR fl_SW_81 (Or.inr ⟨_, rfl⟩) (dk_SW_jam 12 rfl) c4 ?_
    refine g_iload_n (i := 3) (j := 3) (dk_SW_jam 13 rfl) rfl rfl ?_
    obtain ⟨c5, h⟩ := p_gdE h
    obtain ⟨c6, h⟩ := p_gdE h
    refine g_aaload (i := 5) rfl (Or.inl ⟨_, rfl⟩) (dk_SW_jam 14 rfl) c5 c6.1 c6.2 ?_
    obtain ⟨c7, h⟩ := p_gdE h
    obtain ⟨r12, s8, q9, h⟩ := p_bdE h
    have t10 := tF_Gear_isJammed K l (p_R s0 (p_R s0 (p_R s0 (p_R s0 v0 1) 1) 4) (v3 : Int).toNat) s0 _ q9
    refine g_callV (a := (p_R s0 (p_R s0 (p_R s0 (p_R s0 v0 1) 1) 4) (v3 : Int).toNat)) (ci := 0) (q0 := (RX0, TX0, 20)) (As := []) (rest := []) [p_i r12] mt_Gear_isJammed rfl rfl tw_4_74 tw_4_75 tw_4_73 ⟨Nat.le_of_ble_eq_true rfl, Nat.le_of_ble_eq_true rfl⟩ rfl (Nat.le_of_ble_eq_true rfl) (dk_SW_jam 15 rfl) rfl c7 rfl t10 ?_
    have hs11 : p_x s0 s8 := t10.1
    show p_Go K l m_SW_jam 30 [(0, p_r v0), (1, p_i v1), (2, p_i v2), (3, p_i v3)] [p_i r12] s8 _
    refine g_if_eq 43 (dk_SW_jam 16 rfl) (by decide) (fun b13 => ?_) (fun b13 => ?_)
    · have h := p_ifT b13 h
      exact tB_SW_jam_43 K l k4 hk4 v0 v1 v2 v3 s8 _ h
    · have h := p_ifF b13 h
      refine g_iload_n (i := 2) (j := 2) (dk_SW_jam 17 rfl) rfl rfl ?_
      refine g_iload_n (i := 1) (j := 1) (dk_SW_jam 18 rfl) rfl rfl ?_
      refine g_icmp_ne 40 (dk_SW_jam 19 rfl) (by decide) (fun b14 => ?_) (fun b14 => ?_)
      · have h := p_ifT b14 h
        refine g_iinc (j := 2) [(2, p_i (p_w (v2 + 1))), (0, p_r v0), (1, p_i v1), (3, p_i v3)] (dk_SW_jam 22 rfl) rfl (by decide) rfl ?_
        refine p_ltG (P := fun q => p_Go K l m_SW_jam 43 [(2, p_i q), (0, p_r v0), (1, p_i v1), (3, p_i v3)] [] s8 _) ?_ h
        intro x15 h
        refine g_sub [(0, p_r v0), (1, p_i v1), (2, p_i x15), (3, p_i v3)] [1, 2, 0, 3] rfl ?_
        exact tB_SW_jam_43 K l k4 hk4 v0 v1 x15 v3 s8 _ h
      · have h := p_ifF b14 h
        refine g_iload_n (i := 3) (j := 3) (dk_SW_jam 20 rfl) rfl rfl ?_
        cases h
        exact g_ret rfl rfl (dk_SW_jam 21 rfl) (fun os => ⟨_, rfl, p_okh os⟩)
set_option maxRecDepth 100000 in
set_option maxHeartbeats 4000000 in
theorem tO_SW_jam_4 (K : p_K) (l : Launch)  : ∀ (n : Nat) (v0 : Nat) (v1 : Int) (v2 : Int) (v3 : Int) (s0 : p_Hp) (r : (Int × p_Hp)), O_SW_jam_4 n v0 v1 v2 v3 s0 = some r → p_Go K l m_SW_jam 4 [(0, p_r v0), (1, p_i v1), (2, p_i v2), (3, p_i v3)] [] s0 (some (p_i r.1), r.2) := by
  intro n
  induction n with
  | zero => intro v0 v1 v2 v3 s0 r h; cases (show (none : Option (Int × p_Hp)) = some r from h)
  | succ n ih => intro v0 v1 v2 v3 s0 r h; exact tL_SW_jam_4 K l _ ih v0 v1 v2 v3 s0 r h
set_option maxRecDepth 100000 in
set_option maxHeartbeats 4000000 in
theorem tF_SW_jam (K : p_K) (l : Launch) (v0 : Nat) (v1 : Int) (s0 : p_Hp) (r : (Int × p_Hp)) (h : F_SW_jam v0 v1 s0 = some r) : p_Ct K l m_SW_jam [p_r v0, p_i v1] s0 (some (p_i r.1), r.2) := by
  refine p_Ct.of (by decide +kernel) (Nat.le_of_ble_eq_true rfl) ?_
  unfold F_SW_jam at h
  show p_Go K l m_SW_jam 0 [(0, p_r v0), (1, p_i v1)] [] s0 _
  refine g_iconst (dk_SW_jam 0 rfl) (by decide) ?_
  refine g_istore_n (i := 2) [(2, p_i 0), (0, p_r v0), (1, p_i v1)] (dk_SW_jam 1 rfl) rfl (by decide) rfl ?_
  refine g_iconst (dk_SW_jam 2 rfl) (by decide) ?_
  refine g_istore_n (i := 3) [(3, p_i 0), (2, p_i 0), (0, p_r v0), (1, p_i v1)] (dk_SW_jam 3 rfl) rfl (by decide) rfl ?_
  refine g_sub [(0, p_r v0), (1, p_i v1), (2, p_i 0), (3, p_i 0)] [2, 3, 1, 0] rfl ?_
  exact tO_SW_jam_4 K l 3000 v0 v1 0 0 s0 _ h
def m_Works_goAhead : p_Me := (⟨"SortWorks$Works", "goAhead", "(II)Z"⟩, prog_11_method_12_code, 7, (some .boolean), 2, 40)
theorem mt_Works_goAhead : p_Mt m_Works_goAhead 2 := ⟨p_mem (p_tb5 (List.mem_of_getElem? (i := 223) rfl)) rfl, tw_1_2, by decide +kernel, by decide +kernel, by decide +kernel⟩
def dt_Works_goAhead : List (Nat × Instr × Nat) := [(0, .aload_n 0, 1), (1, .getfield 12, 3), (4, .getfield 56, 3), (7, .iload_n 1, 1), (8, .aaload, 1), (9, .astore_n 3, 1), (10, .iconst 0, 1), (11, .istore 4, 2), (13, .iconst 0, 1), (14, .istore 5, 2), (16, .iload 5, 2), (18, .getstatic 141, 3), (21, .aload_n 3, 1), (22, .getfield 119, 3), (25, .iaload, 1), (26, .if_icmp .ge 71, 3), (29, .aload_n 0, 1), (30, .aload_n 3, 1), (31, .iload 5, 2), (33, .invokevirtual 144, 3), (36, .istore 6, 2), (38, .iload 6, 2), (40, .ifCond .lt 51, 3), (43, .aload_n 0, 1), (44, .getfield 12, 3), (47, .getfield 56, 3), (50, .iload 6, 2), (52, .aaload, 1), (53, .invokevirtual 148, 3), (56, .ifCond .eq 35, 3), (59, .iload_n 2, 1), (60, .aload_n 3, 1), (61, .getfield 151, 3), (64, .iadd, 1), (65, .aload_n 0, 1), (66, .getfield 46, 3), (69, .iload 6, 2), (71, .iaload, 1), (72, .if_icmp .ge 19, 3), (75, .aload_n 0, 1), (76, .getfield 46, 3), (79, .iload 6, 2), (81, .iload_n 2, 1), (82, .aload_n 3, 1), (83, .getfield 151, 3), (86, .iadd, 1), (87, .iastore, 1), (88, .iconst 1, 1), (89, .istore 4, 2), (91, .iinc 5 1, 3), (94, .goto (-78), 3), (97, .iload 4, 2), (99, .ireturn, 1)]
theorem dk_Works_goAhead (i : Nat) {pc : Nat} {ins : Instr} {len : Nat} (h : dt_Works_goAhead[i]? = some (pc, ins, len)) : decode m_Works_goAhead.2.1 pc = .ok (ins, len) := p_dk (b := m_Works_goAhead.2.1) (t := dt_Works_goAhead) (by decide +kernel) i h
def B_Works_goAhead_91 (k16 : Nat → Int → Nat → Int → Int → p_Hp → Option (Int × p_Hp)) (v0 : Nat) (v2 : Int) (v3 : Nat) (v4 : Int) (v5 : Int) (s0 : p_Hp) : Option (Int × p_Hp) :=
  p_bi (p_w (v5 + 1)) fun x1 =>
  k16 v0 v2 v3 v4 x1 s0
def L_Works_goAhead_16 (k16 : Nat → Int → Nat → Int → Int → p_Hp → Option (Int × p_Hp)) (v0 : Nat) (v2 : Int) (v3 : Nat) (v4 : Int) (v5 : Int) (s0 : p_Hp) : Option (Int × p_Hp) :=
  p_gd (p_is s0 v3 0) <|
  p_gd ((0 : Int) ≤ (p_Z s0 v3 0) ∧ (p_Z s0 v3 0) < (sw_tl 1 : Int)) <|
  if (sw_tab 1 ((p_Z s0 v3 0) : Int).toNat) ≤ v5 then
    p_gd (v4 = 0 ∨ v4 = 1) <|
    some (v4, s0)
  else
    p_gd (p_is s0 v0 9) <|
    p_bd (F_Works_follow v0 v3 v5 s0) fun r10 s6 =>
    if r10 < 0 then
      B_Works_goAhead_91 k16 v0 v2 v3 v4 v5 s6
    else
      p_gd (p_is s6 (p_R s6 v0 1) 7) <|
      p_gd (p_is s6 (p_R s6 (p_R s6 v0 1) 4) 105) <|
      p_gd ((0 : Int) ≤ r10 ∧ r10 < (p_L s6 (p_R s6 (p_R s6 v0 1) 4) : Int)) <|
      p_gd (p_is s6 (p_R s6 (p_R s6 (p_R s6 v0 1) 4) (r10 : Int).toNat) 0) <|
      p_bd (F_Gear_isTaker (p_R s6 (p_R s6 (p_R s6 v0 1) 4) (r10 : Int).toNat) s6) fun r20 s16 =>
      if r20 = 0 then
        B_Works_goAhead_91 k16 v0 v2 v3 v4 v5 s16
      else
        p_gd (p_is s16 (p_R s16 v0 14) 100) <|
        p_gd ((0 : Int) ≤ r10 ∧ r10 < (p_L s16 (p_R s16 v0 14) : Int)) <|
        if (p_Z s16 (p_R s16 v0 14) (r10 : Int).toNat) ≤ (p_w (v2 + (p_Z s16 v3 1))) then
          B_Works_goAhead_91 k16 v0 v2 v3 v4 v5 s16
        else
          p_gd ((0 : Int) ≤ r10 ∧ r10 < (p_L s16 (p_R s16 v0 14) : Int)) <|
          p_bi (p_wZ s16 (p_R s16 v0 14) (r10 : Int).toNat (p_w (v2 + (p_Z s16 v3 1)))) fun s26 =>
          B_Works_goAhead_91 k16 v0 v2 v3 1 v5 s26
def O_Works_goAhead_16  : Nat → Nat → Int → Nat → Int → Int → p_Hp → Option (Int × p_Hp)
  | 0 => fun _ _ _ _ _ _ => none
  | n + 1 => L_Works_goAhead_16 (O_Works_goAhead_16 n)
def F_Works_goAhead (v0 : Nat) (v1 : Int) (v2 : Int) (s0 : p_Hp) : Option (Int × p_Hp) :=
  p_gd (p_is s0 v0 9) <|
  p_gd (p_is s0 (p_R s0 v0 1) 7) <|
  p_gd (p_is s0 (p_R s0 (p_R s0 v0 1) 4) 105) <|
  p_gd ((0 : Int) ≤ v1 ∧ v1 < (p_L s0 (p_R s0 (p_R s0 v0 1) 4) : Int)) <|
  p_bi ((p_R s0 (p_R s0 (p_R s0 v0 1) 4) (v1 : Int).toNat)) fun x5 =>
  O_Works_goAhead_16 3000 v0 v2 x5 0 0 s0
set_option maxRecDepth 100000 in
set_option maxHeartbeats 4000000 in
theorem tB_Works_goAhead_91 (K : p_K) (l : Launch) (k16 : Nat → Int → Nat → Int → Int → p_Hp → Option (Int × p_Hp)) (hk16 : ∀ (v0 : Nat) (v2 : Int) (v3 : Nat) (v4 : Int) (v5 : Int)  (s0 : p_Hp) (r : (Int × p_Hp)), k16 v0 v2 v3 v4 v5 s0 = some r → p_Go K l m_Works_goAhead 16 [(0, p_r v0), (2, p_i v2), (3, p_r v3), (4, p_i v4), (5, p_i v5)] [] s0 (some (p_i r.1), r.2)) (v0 : Nat) (v2 : Int) (v3 : Nat) (v4 : Int) (v5 : Int) (s0 : p_Hp) (r : (Int × p_Hp)) (h : B_Works_goAhead_91 k16 v0 v2 v3 v4 v5 s0 = some r) : p_Go K l m_Works_goAhead 91 [(0, p_r v0), (2, p_i v2), (3, p_r v3), (4, p_i v4), (5, p_i v5)] [] s0 (some (p_i r.1), r.2) := by
  unfold B_Works_goAhead_91 at h
  refine g_iinc (j := 4) [(5, p_i (p_w (v5 + 1))), (0, p_r v0), (2, p_i v2), (3, p_r v3), (4, p_i v4)] (dk_Works_goAhead 49 rfl) rfl (by decide) rfl ?_
  refine p_ltG (P := fun q => p_Go K l m_Works_goAhead 94 [(5, p_i q), (0, p_r v0), (2, p_i v2), (3, p_r v3), (4, p_i v4)] [] s0 _) ?_ h
  intro x1 h
  refine g_goto 16 (dk_Works_goAhead 50 rfl) (by decide) ?_
  refine g_sub [(0, p_r v0), (2, p_i v2), (3, p_r v3), (4, p_i v4), (5, p_i x1)] [1, 2, 3, 4, 0] rfl ?_
  exact hk16 v0 v2 v3 v4 x1 s0 _ h
set_option maxRecDepth 100000 in
set_option maxHeartbeats 4000000 in
theorem tL_Works_goAhead_16 (K : p_K) (l : Launch) (k16 : Nat → Int → Nat → Int → Int → p_Hp → Option (Int × p_Hp)) (hk16 : ∀ (v0 : Nat) (v2 : Int) (v3 : Nat) (v4 : Int) (v5 : Int)  (s0 : p_Hp) (r : (Int × p_Hp)), k16 v0 v2 v3 v4 v5 s0 = some r → p_Go K l m_Works_goAhead 16 [(0, p_r v0), (2, p_i v2), (3, p_r v3), (4, p_i v4), (5, p_i v5)] [] s0 (some (p_i r.1), r.2)) (v0 : Nat) (v2 : Int) (v3 : Nat) (v4 : Int) (v5 : Int) (s0 : p_Hp) (r : (Int × p_Hp)) (h : L_Works_goAhead_16 k16 v0 v2 v3 v4 v5 s0 = some r) : p_Go K l m_Works_goAhead 16 [(0, p_r v0), (2, p_i v2), (3, p_r v3), (4, p_i v4), (5, p_i v5)] [] s0 (some (p_i r.1), r.2) := by
  unfold L_Works_goAhead_16 at h
  refine g_iload (j := 4) (dk_Works_goAhead 10 rfl) rfl ?_
  refine g_getstatic (j := 1) rfl (by decide) (dk_Works_goAhead 11 rfl) ?_
  refine g_aload_n (i := 3) (j := 2) (dk_Works_goAhead 12 rfl) rfl rfl ?_
  obtain ⟨c1, h⟩ := p_gdE h
  refine g_getI fl_Works_119 (Or.inl rfl) (dk_Works_goAhead 13 rfl) c1 ?_
  obtain ⟨c2, h⟩ := p_gdE h
  refine g_tabS (by decide) (dk_Works_goAhead 14 rfl) c2.1 c2.2 ?_
  refine g_icmp_ge 97 (dk_Works_goAhead 15 rfl) (by decide) (fun b3 => ?_) (fun b3 => ?_)
  · have h := p_ifT b3 h
    refine g_iload (j := 3) (dk_Works_goAhead 51 rfl) rfl ?_
    obtain ⟨c4, h⟩ := p_gdE h
    cases h
    exact g_ret rfl rfl (dk_Works_goAhead 52 rfl) (fun _ => ⟨_, rfl, c4⟩)
  · have h := p_ifF b3 h
    refine g_aload_n (i := 0) (j := 0) (dk_Works_goAhead 16 rfl) rfl rfl ?_
    refine g_aload_n (i := 3) (j := 2) (dk_Works_goAhead 17 rfl) rfl rfl ?_
    refine g_iload (j := 4) (dk_Works_goAhead 18 rfl) rfl ?_
    obtain ⟨c5, h⟩ := p_gdE h
    obtain ⟨r10, s6, q7, h⟩ := p_bdE h
    have t8 := tF_Works_follow K l v0 v3 v5 s0 _ q7
    refine g_callV (a := v0) (ci := 9) (q0 := (RX9, TX9, 15)) (As := [p_r v3, p_i v5]) (rest := []) [p_i r10] mt_Works_follow rfl rfl tw_4_213 tw_4_214 tw_5_225 ⟨Nat.le_of_ble_eq_true rfl, Nat.le_of_ble_eq_true rfl⟩ rfl (Nat.le_of_ble_eq_true rfl) (dk_Works_goAhead 19 rfl) rfl c5 rfl t8 ?_
    have hs9 : p_x s0 s6 := t8.1
    show p_Go K l m_Works_goAhead 36 [(0, p_r v0), (2, p_i v2), (3, p_r v3), (4, p_i v4), (5, p_i v5)] [p_i r10] s6 _
    refine g_istore [(6, p_i r10), (0, p_r v0), (2, p_i v2), (3, p_r v3), (4, p_i v4), (5, p_i v5)] (dk_Works_goAhead 20 rfl) (by decide) rfl ?_
    refine g_iload (j := 0) (dk_Works_goAhead 21 rfl) rfl ?_
    refine g_if_lt 91 (dk_Works_goAhead 22 rfl) (by decide) (fun b11 => ?_) (fun b11 => ?_)
    · have h := p_ifT b11 h
      refine g_sub [(0, p_r v0), (2, p_i v2), (3, p_r v3), (4, p_i v4), (5, p_i v5)] [1, 2, 3, 4, 5] rfl ?_
      exact tB_Works_goAhead_91 K l k16 hk16 v0 v2 v3 v4 v5 s6 _ h
    · have h := p_ifF b11 h
      refine g_aload_n (i := 0) (j := 1) (dk_Works_goAhead 23 rfl) rfl rfl ?_
      refine g_getR fl_Works_12 (Or.inl ⟨_, rfl⟩) (dk_Works_goAhead 24 rfl) (c5.up hs9) ?_
      obtain ⟨c12, h⟩ := p_gdE h
      refine g_getR fl_Works_56 (Or.inr ⟨_, rfl⟩) (dk_Works_goAhead 25 rfl) c12 ?_
      refine g_iload (j := 0) (dk_Works_goAhead 26 rfl) rfl ?_
      obtain ⟨c13, h⟩ := p_gdE h
      obtain ⟨c14, h⟩ := p_gdE h
      refine g_aaload (i := 5) rfl (Or.inl ⟨_, rfl⟩) (dk_Works_goAhead 27 rfl) c13 c14.1 c14.2 ?_
      obtain ⟨c15, h⟩ := p_gdE h
      obtain ⟨r20, s16, q17, h⟩ := p_bdE h
      have t18 := tF_Gear_isTaker K l (p_R s6 (p_R s6 (p_R s6 v0 1) 4) (r10 : Int).toNat) s6 _ q17
      refine g_callV (a := (p_R s6 (p_R s6 (p_R s6 v0 1) 4) (r10 : Int).toNat)) (ci := 0) (q0 := (RX0, TX0, 20)) (As := []) (rest := []) [p_i r20] mt_Gear_isTaker rfl rfl tw_3_142 tw_3_143 tw_5_226 ⟨Nat.le_of_ble_eq_true rfl, Nat.le_of_ble_eq_true rfl⟩ rfl (Nat.le_of_ble_eq_true rfl) (dk_Works_goAhead 28 rfl) rfl c15 rfl t18 ?_
      have hs19 : p_x s6 s16 := t18.1
      show p_Go K l m_Works_goAhead 56 [(6, p_i r10), (0, p_r v0), (2, p_i v2), (3, p_r v3), (4, p_i v4), (5, p_i v5)] [p_i r20] s16 _
      refine g_if_eq 91 (dk_Works_goAhead 29 rfl) (by decide) (fun b21 => ?_) (fun b21 => ?_)
      · have h := p_ifT b21 h
        refine g_sub [(0, p_r v0), (2, p_i v2), (3, p_r v3), (4, p_i v4), (5, p_i v5)] [1, 2, 3, 4, 5] rfl ?_
        exact tB_Works_goAhead_91 K l k16 hk16 v0 v2 v3 v4 v5 s16 _ h
      · have h := p_ifF b21 h
        refine g_iload_n (i := 2) (j := 2) (dk_Works_goAhead 30 rfl) rfl rfl ?_
        refine g_aload_n (i := 3) (j := 3) (dk_Works_goAhead 31 rfl) rfl rfl ?_
        refine g_getI fl_Works_151 (Or.inl rfl) (dk_Works_goAhead 32 rfl) (c1.up (hs9.trans hs19)) ?_
        refine g_iadd (dk_Works_goAhead 33 rfl) ?_
        refine g_aload_n (i := 0) (j := 1) (dk_Works_goAhead 34 rfl) rfl rfl ?_
        refine g_getR fl_Works_46 (Or.inr ⟨_, rfl⟩) (dk_Works_goAhead 35 rfl) (c5.up (hs9.trans hs19)) ?_
        refine g_iload (j := 0) (dk_Works_goAhead 36 rfl) rfl ?_
        obtain ⟨c22, h⟩ := p_gdE h
        obtain ⟨c23, h⟩ := p_gdE h
        refine g_iaload (dk_Works_goAhead 37 rfl) c22 c23.1 c23.2 ?_
        refine g_icmp_ge 91 (dk_Works_goAhead 38 rfl) (by decide) (fun b24 => ?_) (fun b24 => ?_)
        · have h := p_ifT b24 h
          refine g_sub [(0, p_r v0), (2, p_i v2), (3, p_r v3), (4, p_i v4), (5, p_i v5)] [1, 2, 3, 4, 5] rfl ?_
          exact tB_Works_goAhead_91 K l k16 hk16 v0 v2 v3 v4 v5 s16 _ h
        · have h := p_ifF b24 h
          refine g_aload_n (i := 0) (j := 1) (dk_Works_goAhead 39 rfl) rfl rfl ?_
          refine g_getR fl_Works_46 (Or.inr ⟨_, rfl⟩) (dk_Works_goAhead 40 rfl) (c5.up (hs9.trans hs19)) ?_
          refine g_iload (j := 0) (dk_Works_goAhead 41 rfl) rfl ?_
          refine g_iload_n (i := 2) (j := 2) (dk_Works_goAhead 42 rfl) rfl rfl ?_
          refine g_aload_n (i := 3) (j := 3) (dk_Works_goAhead 43 rfl) rfl rfl ?_
          refine g_getI fl_Works_151 (Or.inl rfl) (dk_Works_goAhead 44 rfl) (c1.up (hs9.trans hs19)) ?_
          refine g_iadd (dk_Works_goAhead 45 rfl) ?_
          obtain ⟨c25, h⟩ := p_gdE h
          refine g_iastore (dk_Works_goAhead 46 rfl) c22 c25.1 c25.2 ?_
          refine p_ltS (P := fun q => p_Go K l m_Works_goAhead 88 [(6, p_i r10), (0, p_r v0), (2, p_i v2), (3, p_r v3), (4, p_i v4), (5, p_i v5)] [] q _) (p_xZ _ _ _ _) ?_ h
          intro s26 hs27 h
          refine g_iconst (dk_Works_goAhead 47 rfl) (by decide) ?_
          refine g_istore [(4, p_i 1), (6, p_i r10), (0, p_r v0), (2, p_i v2), (3, p_r v3), (5, p_i v5)] (dk_Works_goAhead 48 rfl) (by decide) rfl ?_
          refine g_sub [(0, p_r v0), (2, p_i v2), (3, p_r v3), (4, p_i 1), (5, p_i v5)] [2, 3, 4, 0, 5] rfl ?_
          exact tB_Works_goAhead_91 K l k16 hk16 v0 v2 v3 1 v5 s26 _ h
set_option maxRecDepth 100000 in
set_option maxHeartbeats 4000000 in
theorem tO_Works_goAhead_16 (K : p_K) (l : Launch)  : ∀ (n : Nat) (v0 : Nat) (v2 : Int) (v3 : Nat) (v4 : Int) (v5 : Int) (s0 : p_Hp) (r : (Int × p_Hp)), O_Works_goAhead_16 n v0 v2 v3 v4 v5 s0 = some r → p_Go K l m_Works_goAhead 16 [(0, p_r v0), (2, p_i v2), (3, p_r v3), (4, p_i v4), (5, p_i v5)] [] s0 (some (p_i r.1), r.2) := by
  intro n
  induction n with
  | zero => intro v0 v2 v3 v4 v5 s0 r h; cases (show (none : Option (Int × p_Hp)) = some r from h)
  | succ n ih => intro v0 v2 v3 v4 v5 s0 r h; exact tL_Works_goAhead_16 K l _ ih v0 v2 v3 v4 v5 s0 r h
set_option maxRecDepth 100000 in
set_option maxHeartbeats 4000000 in
theorem tF_Works_goAhead (K : p_K) (l : Launch) (v0 : Nat) (v1 : Int) (v2 : Int) (s0 : p_Hp) (r : (Int × p_Hp)) (h : F_Works_goAhead v0 v1 v2 s0 = some r) : p_Ct K l m_Works_goAhead [p_r v0, p_i v1, p_i v2] s0 (some (p_i r.1), r.2) := by
  refine p_Ct.of (by decide +kernel) (Nat.le_of_ble_eq_true rfl) ?_
  unfold F_Works_goAhead at h
  show p_Go K l m_Works_goAhead 0 [(0, p_r v0), (1, p_i v1), (2, p_i v2)] [] s0 _
  refine g_aload_n (i := 0) (j := 0) (dk_Works_goAhead 0 rfl) rfl rfl ?_
  obtain ⟨c1, h⟩ := p_gdE h
  refine g_getR fl_Works_12 (Or.inl ⟨_, rfl⟩) (dk_Works_goAhead 1 rfl) c1 ?_
  obtain ⟨c2, h⟩ := p_gdE h
  refine g_getR fl_Works_56 (Or.inr ⟨_, rfl⟩) (dk_Works_goAhead 2 rfl) c2 ?_
  refine g_iload_n (i := 1) (j := 1) (dk_Works_goAhead 3 rfl) rfl rfl ?_
  obtain ⟨c3, h⟩ := p_gdE h
  obtain ⟨c4, h⟩ := p_gdE h
  refine g_aaload (i := 5) rfl (Or.inl ⟨_, rfl⟩) (dk_Works_goAhead 4 rfl) c3 c4.1 c4.2 ?_
  refine g_astore_n (i := 3) [(3, p_r (p_R s0 (p_R s0 (p_R s0 v0 1) 4) (v1 : Int).toNat)), (0, p_r v0), (1, p_i v1), (2, p_i v2)] (dk_Works_goAhead 5 rfl) rfl (by decide) rfl ?_
  refine p_ltG (P := fun q => p_Go K l m_Works_goAhead 10 [(3, p_r q), (0, p_r v0), (1, p_i v1), (2, p_i v2)] [] s0 _) ?_ h
  intro x5 h
  refine g_iconst (dk_Works_goAhead 6 rfl) (by decide) ?_
  refine g_istore [(4, p_i 0), (3, p_r x5), (0, p_r v0), (1, p_i v1), (2, p_i v2)] (dk_Works_goAhead 7 rfl) (by decide) rfl ?_
  refine g_iconst (dk_Works_goAhead 8 rfl) (by decide) ?_
  refine g_istore [(5, p_i 0), (4, p_i 0), (3, p_r x5), (0, p_r v0), (1, p_i v1), (2, p_i v2)] (dk_Works_goAhead 9 rfl) (by decide) rfl ?_
  refine g_sub [(0, p_r v0), (2, p_i v2), (3, p_r x5), (4, p_i 0), (5, p_i 0)] [3, 5, 2, 1, 0] rfl ?_
  exact tO_Works_goAhead_16 K l 3000 v0 v2 x5 0 0 s0 _ h
def m_Works_measureWays : p_Me := (⟨"SortWorks$Works", "measureWays", "(I)V"⟩, prog_11_method_11_code, 5, none, 3, 66)
theorem mt_Works_measureWays : p_Mt m_Works_measureWays 1 := ⟨p_mem (p_tb5 (List.mem_of_getElem? (i := 218) rfl)) rfl, tw_1_2, by decide +kernel, by decide +kernel, by decide +kernel⟩
def dt_Works_measureWays : List (Nat × Instr × Nat) := [(0, .aload_n 0, 1), (1, .getfield 46, 3), (4, .ldc 136, 2), (6, .invokestatic 85, 3), (9, .aload_n 0, 1), (10, .iload_n 1, 1), (11, .iconst 0, 1), (12, .invokevirtual 137, 3), (15, .pop, 1), (16, .iconst 1, 1), (17, .istore_n 2, 1), (18, .iconst 0, 1), (19, .istore_n 3, 1), (20, .iload_n 3, 1), (21, .aload_n 0, 1), (22, .getfield 53, 3), (25, .if_icmp .ge 63, 3), (28, .iload_n 2, 1), (29, .ifCond .eq 59, 3), (32, .iconst 0, 1), (33, .istore_n 2, 1), (34, .iconst 0, 1), (35, .istore 4, 2), (37, .iload 4, 2), (39, .aload_n 0, 1), (40, .getfield 53, 3), (43, .if_icmp .ge 39, 3), (46, .aload_n 0, 1), (47, .getfield 46, 3), (50, .iload 4, 2), (52, .iaload, 1), (53, .ldc 136, 2), (55, .if_icmp .eq 21, 3), (58, .aload_n 0, 1), (59, .iload 4, 2), (61, .aload_n 0, 1), (62, .getfield 46, 3), (65, .iload 4, 2), (67, .iaload, 1), (68, .invokevirtual 137, 3), (71, .ifCond .eq 5, 3), (74, .iconst 1, 1), (75, .istore_n 2, 1), (76, .iinc 4 1, 3), (79, .goto (-42), 3), (82, .iinc 3 1, 3), (85, .goto (-65), 3), (88, .return_, 1)]
theorem dk_Works_measureWays (i : Nat) {pc : Nat} {ins : Instr} {len : Nat} (h : dt_Works_measureWays[i]? = some (pc, ins, len)) : decode m_Works_measureWays.2.1 pc = .ok (ins, len) := p_dk (b := m_Works_measureWays.2.1) (t := dt_Works_measureWays) (by decide +kernel) i h
def B_Works_measureWays_76 (k20 : Nat → Int → Int → p_Hp → Option p_Hp) (k37 : Nat → Int → Int → Int → p_Hp → Option p_Hp) (v0 : Nat) (v2 : Int) (v3 : Int) (v4 : Int) (s0 : p_Hp) : Option p_Hp :=
  p_bi (p_w (v4 + 1)) fun x1 =>
  k37 v0 v2 v3 x1 s0
def L_Works_measureWays_37 (k20 : Nat → Int → Int → p_Hp → Option p_Hp) (k37 : Nat → Int → Int → Int → p_Hp → Option p_Hp) (v0 : Nat) (v2 : Int) (v3 : Int) (v4 : Int) (s0 : p_Hp) : Option p_Hp :=
  p_gd (p_is s0 v0 9) <|
  if (p_Z s0 v0 2) ≤ v4 then
    p_bi (p_w (v3 + 1)) fun x3 =>
    k20 v0 v2 x3 s0
  else
    p_gd (p_is s0 (p_R s0 v0 14) 100) <|
    p_gd ((0 : Int) ≤ v4 ∧ v4 < (p_L s0 (p_R s0 v0 14) : Int)) <|
    if (p_Z s0 (p_R s0 v0 14) (v4 : Int).toNat) = 1000000 then
      B_Works_measureWays_76 k20 k37 v0 v2 v3 v4 s0
    else
      p_gd ((0 : Int) ≤ v4 ∧ v4 < (p_L s0 (p_R s0 v0 14) : Int)) <|
      p_bd (F_Works_goAhead v0 v4 (p_Z s0 (p_R s0 v0 14) (v4 : Int).toNat) s0) fun r12 s8 =>
      if r12 = 0 then
        B_Works_measureWays_76 k20 k37 v0 v2 v3 v4 s8
      else
        B_Works_measureWays_76 k20 k37 v0 1 v3 v4 s8
def O_Works_measureWays_37 (k20 : Nat → Int → Int → p_Hp → Option p_Hp) : Nat → Nat → Int → Int → Int → p_Hp → Option p_Hp
  | 0 => fun _ _ _ _ _ => none
  | n + 1 => L_Works_measureWays_37 k20 (O_Works_measureWays_37 k20 n)
def L_Works_measureWays_20 (k20 : Nat → Int → Int → p_Hp → Option p_Hp) (v0 : Nat) (v2 : Int) (v3 : Int) (s0 : p_Hp) : Option p_Hp :=
  p_gd (p_is s0 v0 9) <|
  if (p_Z s0 v0 2) ≤ v3 then
    some s0
  else
    if v2 = 0 then
      some s0
    else
      O_Works_measureWays_37 k20 3000 v0 0 v3 0 s0
def O_Works_measureWays_20  : Nat → Nat → Int → Int → p_Hp → Option p_Hp
  | 0 => fun _ _ _ _ => none
  | n + 1 => L_Works_measureWays_20 (O_Works_measureWays_20 n)
def F_Works_measureWays (v0 : Nat) (v1 : Int) (s0 : p_Hp) : Option p_Hp :=
  p_gd (p_is s0 v0 9) <|
  p_bv (F_Ar_fill_0 (p_R s0 v0 14) 1000000 s0) fun s2 =>
  p_bd (F_Works_goAhead v0 v1 0 s2) fun r10 s6 =>
  O_Works_measureWays_20 3000 v0 1 0 s6
set_option maxRecDepth 100000 in
set_option maxHeartbeats 4000000 in
theorem tB_Works_measureWays_76 (K : p_K) (l : Launch) (k20 : Nat → Int → Int → p_Hp → Option p_Hp) (hk20 : ∀ (v0 : Nat) (v2 : Int) (v3 : Int)  (s0 : p_Hp) (r : p_Hp), k20 v0 v2 v3 s0 = some r → p_Go K l m_Works_measureWays 20 [(0, p_r v0), (2, p_i v2), (3, p_i v3)] [] s0 (none, r)) (k37 : Nat → Int → Int → Int → p_Hp → Option p_Hp) (hk37 : ∀ (v0 : Nat) (v2 : Int) (v3 : Int) (v4 : Int)  (s0 : p_Hp) (r : p_Hp), k37 v0 v2 v3 v4 s0 = some r → p_Go K l m_Works_measureWays 37 [(0, p_r v0), (2, p_i v2), (3, p_i v3), (4, p_i v4)] [] s0 (none, r)) (v0 : Nat) (v2 : Int) (v3 : Int) (v4 : Int) (s0 : p_Hp) (r : p_Hp) (h : B_Works_measureWays_76 k20 k37 v0 v2 v3 v4 s0 = some r) : p_Go K l m_Works_measureWays 76 [(0, p_r v0), (2, p_i v2), (3, p_i v3), (4, p_i v4)] [] s0 (none, r) := by
  unfold B_Works_measureWays_76 at h
  refine g_iinc (j := 3) [(4, p_i (p_w (v4 + 1))), (0, p_r v0), (2, p_i v2), (3, p_i v3)] (dk_Works_measureWays 43 rfl) rfl (by decide) rfl ?_
  refine p_ltG (P := fun q => p_Go K l m_Works_measureWays 79 [(4, p_i q), (0, p_r v0), (2, p_i v2), (3, p_i v3)] [] s0 _) ?_ h
  intro x1 h
  refine g_goto 37 (dk_Works_measureWays 44 rfl) (by decide) ?_
  refine g_sub [(0, p_r v0), (2, p_i v2), (3, p_i v3), (4, p_i x1)] [1, 2, 3, 0] rfl ?_
  exact hk37 v0 v2 v3 x1 s0 _ h
set_option maxRecDepth 100000 in
set_option maxHeartbeats 4000000 in
theorem tL_Works_measureWays_37 (K : p_K) (l : Launch) (k20 : Nat → Int → Int → p_Hp → Option p_Hp) (hk20 : ∀ (v0 : Nat) (v2 : Int) (v3 : Int)  (s0 : p_Hp) (r : p_Hp), k20 v0 v2 v3 s0 = some r → p_Go K l m_Works_measureWays 20 [(0, p_r v0), (2, p_i v2), (3, p_i v3)] [] s0 (none, r)) (k37 : Nat → Int → Int → Int → p_Hp → Option p_Hp) (hk37 : ∀ (v0 : Nat) (v2 : Int) (v3 : Int) (v4 : Int)  (s0 : p_Hp) (r : p_Hp), k37 v0 v2 v3 v4 s0 = some r → p_Go K l m_Works_measureWays 37 [(0, p_r v0), (2, p_i v2), (3, p_i v3), (4, p_i v4)] [] s0 (none, r)) (v0 : Nat) (v2 : Int) (v3 : Int) (v4 : Int) (s0 : p_Hp) (r : p_Hp) (h : L_Works_measureWays_37 k20 k37 v0 v2 v3 v4 s0 = some r) : p_Go K l m_Works_measureWays 37 [(0, p_r v0), (2, p_i v2), (3, p_i v3), (4, p_i v4)] [] s0 (none, r) := by
  unfold L_Works_measureWays_37 at h
  refine g_iload (j := 3) (dk_Works_measureWays 23 rfl) rfl ?_
  refine g_aload_n (i := 0) (j := 0) (dk_Works_measureWays 24 rfl) rfl rfl ?_
  obtain ⟨c1, h⟩ := p_gdE h
  refine g_getI fl_Works_53 (Or.inl rfl) (dk_Works_measureWays 25 rfl) c1 ?_
  refine g_icmp_ge 82 (dk_Works_measureWays 26 rfl) (by decide) (fun b2 => ?_) (fun b2 => ?_)
  · have h := p_ifT b2 h
    refine g_iinc (j := 2) [(3, p_i (p_w (v3 + 1))), (0, p_r v0), (2, p_i v2), (4, p_i v4)] (dk_Works_measureWays 45 rfl) rfl (by decide) rfl ?_
    refine p_ltG (P := fun q => p_Go K l m_Works_measureWays 85 [(3, p_i q), (0, p_r v0), (2, p_i v2), (4, p_i v4)] [] s0 _) ?_ h
    intro x3 h
    refine g_goto 20 (dk_Works_measureWays 46 rfl) (by decide) ?_
    refine g_sub [(0, p_r v0), (2, p_i v2), (3, p_i x3)] [1, 2, 0] rfl ?_
    exact hk20 v0 v2 x3 s0 _ h
  · have h := p_ifF b2 h
    refine g_aload_n (i := 0) (j := 0) (dk_Works_measureWays 27 rfl) rfl rfl ?_
    refine g_getR fl_Works_46 (Or.inr ⟨_, rfl⟩) (dk_Works_measureWays 28 rfl) c1 ?_
    refine g_iload (j := 3) (dk_Works_measureWays 29 rfl) rfl ?_
    obtain ⟨c4, h⟩ := p_gdE h
    obtain ⟨c5, h⟩ := p_gdE h
    refine g_iaload (dk_Works_measureWays 30 rfl) c4 c5.1 c5.2 ?_
    refine g_ldc (x := 1000000) (dk_Works_measureWays 31 rfl) tw_5_219 (by decide) (by decide) ?_
    refine g_icmp_eq 76 (dk_Works_measureWays 32 rfl) (by decide) (fun b6 => ?_) (fun b6 => ?_)
    · have h := p_ifT b6 h
      exact tB_Works_measureWays_76 K l k20 hk20 k37 hk37 v0 v2 v3 v4 s0 _ h
    · have h := p_ifF b6 h
      refine g_aload_n (i := 0) (j := 0) (dk_Works_measureWays 33 rfl) rfl rfl ?_
      refine g_iload (j := 3) (dk_Works_measureWays 34 rfl) rfl ?_
      refine g_aload_n (i := 0) (j := 0) (dk_Works_measureWays 35 rfl) rfl rfl ?_
      refine g_getR fl_Works_46 (Or.inr ⟨_, rfl⟩) (dk_Works_measureWays 36 rfl) c1 ?_
      refine g_iload (j := 3) (dk_Works_measureWays 37 rfl) rfl ?_
      obtain ⟨c7, h⟩ := p_gdE h
      refine g_iaload (dk_Works_measureWays 38 rfl) c4 c7.1 c7.2 ?_
      obtain ⟨r12, s8, q9, h⟩ := p_bdE h
      have t10 := tF_Works_goAhead K l v0 v4 (p_Z s0 (p_R s0 v0 14) (v4 : Int).toNat) s0 _ q9
      refine g_callV (a := v0) (ci := 9) (q0 := (RX9, TX9, 15)) (As := [p_i v4, p_i (p_Z s0 (p_R s0 v0 14) (v4 : Int).toNat)]) (rest := []) [p_i r12] mt_Works_goAhead rfl rfl tw_5_222 ts_41 tw_5_220 ⟨Nat.le_of_ble_eq_true rfl, Nat.le_of_ble_eq_true rfl⟩ rfl (Nat.le_of_ble_eq_true rfl) (dk_Works_measureWays 39 rfl) rfl c1 rfl t10 ?_
      have hs11 : p_x s0 s8 := t10.1
      show p_Go K l m_Works_measureWays 71 [(0, p_r v0), (2, p_i v2), (3, p_i v3), (4, p_i v4)] [p_i r12] s8 _
      refine g_if_eq 76 (dk_Works_measureWays 40 rfl) (by decide) (fun b13 => ?_) (fun b13 => ?_)
      · have h := p_ifT b13 h
        exact tB_Works_measureWays_76 K l k20 hk20 k37 hk37 v0 v2 v3 v4 s8 _ h
      · have h := p_ifF b13 h
        refine g_iconst (dk_Works_measureWays 41 rfl) (by decide) ?_
        refine g_istore_n (i := 2) [(2, p_i 1), (0, p_r v0), (3, p_i v3), (4, p_i v4)] (dk_Works_measureWays 42 rfl) rfl (by decide) rfl ?_
        refine g_sub [(0, p_r v0), (2, p_i 1), (3, p_i v3), (4, p_i v4)] [1, 0, 2, 3] rfl ?_
        exact tB_Works_measureWays_76 K l k20 hk20 k37 hk37 v0 1 v3 v4 s8 _ h
set_option maxRecDepth 100000 in
set_option maxHeartbeats 4000000 in
theorem tO_Works_measureWays_37 (K : p_K) (l : Launch) (k20 : Nat → Int → Int → p_Hp → Option p_Hp) (hk20 : ∀ (v0 : Nat) (v2 : Int) (v3 : Int)  (s0 : p_Hp) (r : p_Hp), k20 v0 v2 v3 s0 = some r → p_Go K l m_Works_measureWays 20 [(0, p_r v0), (2, p_i v2), (3, p_i v3)] [] s0 (none, r)) : ∀ (n : Nat) (v0 : Nat) (v2 : Int) (v3 : Int) (v4 : Int) (s0 : p_Hp) (r : p_Hp), O_Works_measureWays_37 k20 n v0 v2 v3 v4 s0 = some r → p_Go K l m_Works_measureWays 37 [(0, p_r v0), (2, p_i v2), (3, p_i v3), (4, p_i v4)] [] s0 (none, r) := by
  intro n
  induction n with
  | zero => intro v0 v2 v3 v4 s0 r h; cases (show (none : Option p_Hp) = some r from h)
  | succ n ih => intro v0 v2 v3 v4 s0 r h; exact tL_Works_measureWays_37 K l k20 hk20 _ ih v0 v2 v3 v4 s0 r h
set_option maxRecDepth 100000 in
set_option maxHeartbeats 4000000 in
theorem tL_Works_measureWays_20 (K : p_K) (l : Launch) (k20 : Nat → Int → Int → p_Hp → Option p_Hp) (hk20 : ∀ (v0 : Nat) (v2 : Int) (v3 : Int)  (s0 : p_Hp) (r : p_Hp), k20 v0 v2 v3 s0 = some r → p_Go K l m_Works_measureWays 20 [(0, p_r v0), (2, p_i v2), (3, p_i v3)] [] s0 (none, r)) (v0 : Nat) (v2 : Int) (v3 : Int) (s0 : p_Hp) (r : p_Hp) (h : L_Works_measureWays_20 k20 v0 v2 v3 s0 = some r) : p_Go K l m_Works_measureWays 20 [(0, p_r v0), (2, p_i v2), (3, p_i v3)] [] s0 (none, r) := by
  unfold L_Works_measureWays_20 at h
  refine g_iload_n (i := 3) (j := 2) (dk_Works_measureWays 13 rfl) rfl rfl ?_
  refine g_aload_n (i := 0) (j := 0) (dk_Works_measureWays 14 rfl) rfl rfl ?_
  obtain ⟨c1, h⟩ := p_gdE h
  refine g_getI fl_Works_53 (Or.inl rfl) (dk_Works_measureWays 15 rfl) c1 ?_
  refine g_icmp_ge 88 (dk_Works_measureWays 16 rfl) (by decide) (fun b2 => ?_) (fun b2 => ?_)
  · have h := p_ifT b2 h
    cases h
    exact g_ret rfl rfl (dk_Works_measureWays 47 rfl) (fun _ => rfl)
  · have h := p_ifF b2 h
    refine g_iload_n (i := 2) (j := 1) (dk_Works_measureWays 17 rfl) rfl rfl ?_
    refine g_if_eq 88 (dk_Works_measureWays 18 rfl) (by decide) (fun b3 => ?_) (fun b3 => ?_)
    · have h := p_ifT b3 h
      cases h
      exact g_ret rfl rfl (dk_Works_measureWays 47 rfl) (fun _ => rfl)
    · have h := p_ifF b3 h
      refine g_iconst (dk_Works_measureWays 19 rfl) (by decide) ?_
      refine g_istore_n (i := 2) [(2, p_i 0), (0, p_r v0), (3, p_i v3)] (dk_Works_measureWays 20 rfl) rfl (by decide) rfl ?_
      refine g_iconst (dk_Works_measureWays 21 rfl) (by decide) ?_
      refine g_istore [(4, p_i 0), (2, p_i 0), (0, p_r v0), (3, p_i v3)] (dk_Works_measureWays 22 rfl) (by decide) rfl ?_
      refine g_sub [(0, p_r v0), (2, p_i 0), (3, p_i v3), (4, p_i 0)] [2, 1, 3, 0] rfl ?_
      exact tO_Works_measureWays_37 K l k20 hk20 3000 v0 0 v3 0 s0 _ h
set_option maxRecDepth 100000 in
set_option maxHeartbeats 4000000 in
theorem tO_Works_measureWays_20 (K : p_K) (l : Launch)  : ∀ (n : Nat) (v0 : Nat) (v2 : Int) (v3 : Int) (s0 : p_Hp) (r : p_Hp), O_Works_measureWays_20 n v0 v2 v3 s0 = some r → p_Go K l m_Works_measureWays 20 [(0, p_r v0), (2, p_i v2), (3, p_i v3)] [] s0 (none, r) := by
  intro n
  induction n with
  | zero => intro v0 v2 v3 s0 r h; cases (show (none : Option p_Hp) = some r from h)
  | succ n ih => intro v0 v2 v3 s0 r h; exact tL_Works_measureWays_20 K l _ ih v0 v2 v3 s0 r h
set_option maxRecDepth 100000 in
set_option maxHeartbeats 4000000 in
theorem tF_Works_measureWays (K : p_K) (l : Launch) (v0 : Nat) (v1 : Int) (s0 : p_Hp) (r : p_Hp) (h : F_Works_measureWays v0 v1 s0 = some r) : p_Ct K l m_Works_measureWays [p_r v0, p_i v1] s0 (none, r) := by
  refine p_Ct.of (by decide +kernel) (Nat.le_of_ble_eq_true rfl) ?_
  unfold F_Works_measureWays at h
  show p_Go K l m_Works_measureWays 0 [(0, p_r v0), (1, p_i v1)] [] s0 _
  refine g_aload_n (i := 0) (j := 0) (dk_Works_measureWays 0 rfl) rfl rfl ?_
  obtain ⟨c1, h⟩ := p_gdE h
  refine g_getR fl_Works_46 (Or.inr ⟨_, rfl⟩) (dk_Works_measureWays 1 rfl) c1 ?_
  refine g_ldc (x := 1000000) (dk_Works_measureWays 2 rfl) tw_5_219 (by decide) (by decide) ?_
  obtain ⟨s2, q3, h⟩ := p_bvE h
  have t4 := tF_Ar_fill_0 K l (p_R s0 v0 14) 1000000 s0 _ q3
  refine g_callS (av := [p_r (p_R s0 v0 14), p_i 1000000]) (rest := []) [] mt_Ar_fill_0 tw_3_108 tw_3_179 ⟨Nat.le_of_ble_eq_true rfl, Nat.le_of_ble_eq_true rfl⟩ rfl (Nat.le_of_ble_eq_true rfl) (dk_Works_measureWays 3 rfl) rfl rfl t4 ?_
  have hs5 : p_x s0 s2 := t4.1
  show p_Go K l m_Works_measureWays 9 [(0, p_r v0), (1, p_i v1)] [] s2 _
  refine g_aload_n (i := 0) (j := 0) (dk_Works_measureWays 4 rfl) rfl rfl ?_
  refine g_iload_n (i := 1) (j := 1) (dk_Works_measureWays 5 rfl) rfl rfl ?_
  refine g_iconst (dk_Works_measureWays 6 rfl) (by decide) ?_
  obtain ⟨r10, s6, q7, h⟩ := p_bdE h
  have t8 := tF_Works_goAhead K l v0 v1 0 s2 _ q7
  refine g_callV (a := v0) (ci := 9) (q0 := (RX9, TX9, 15)) (As := [p_i v1, p_i 0]) (rest := []) [p_i r10] mt_Works_goAhead rfl rfl tw_5_222 ts_41 tw_5_220 ⟨Nat.le_of_ble_eq_true rfl, Nat.le_of_ble_eq_true rfl⟩ rfl (Nat.le_of_ble_eq_true rfl) (dk_Works_measureWays 7 rfl) rfl (c1.up hs5) rfl t8 ?_
  have hs9 : p_x s2 s6 := t8.1
  show p_Go K l m_Works_measureWays 15 [(0, p_r v0), (1, p_i v1)] [p_i r10] s6 _
  refine g_pop (dk_Works_measureWays 8 rfl) rfl ?_
  refine g_iconst (dk_Works_measureWays 9 rfl) (by decide) ?_
  refine g_istore_n (i := 2) [(2, p_i 1), (0, p_r v0), (1, p_i v1)] (dk_Works_measureWays 10 rfl) rfl (by decide) rfl ?_
  refine g_iconst (dk_Works_measureWays 11 rfl) (by decide) ?_
  refine g_istore_n (i := 3) [(3, p_i 0), (2, p_i 1), (0, p_r v0), (1, p_i v1)] (dk_Works_measureWays 12 rfl) rfl (by decide) rfl ?_
  refine g_sub [(0, p_r v0), (2, p_i 1), (3, p_i 0)] [2, 1, 0] rfl ?_
  exact tO_Works_measureWays_20 K l 3000 v0 1 0 s6 _ h
def m_Works_fewestSlots : p_Me := (⟨"SortWorks$Works", "fewestSlots", "(II)I"⟩, prog_11_method_10_code, 3, (some .int), 4, 90)
theorem mt_Works_fewestSlots : p_Mt m_Works_fewestSlots 2 := ⟨p_mem (p_tb5 (List.mem_of_getElem? (i := 214) rfl)) rfl, tw_1_2, by decide +kernel, by decide +kernel, by decide +kernel⟩
def dt_Works_fewestSlots : List (Nat × Instr × Nat) := [(0, .aload_n 0, 1), (1, .iload_n 1, 1), (2, .invokevirtual 132, 3), (5, .aload_n 0, 1), (6, .getfield 46, 3), (9, .iload_n 2, 1), (10, .iaload, 1), (11, .ldc 136, 2), (13, .if_icmp .ne 8, 3), (16, .bipush (-9), 2), (18, .goto 9, 3), (21, .aload_n 0, 1), (22, .getfield 46, 3), (25, .iload_n 2, 1), (26, .iaload, 1), (27, .ireturn, 1)]
theorem dk_Works_fewestSlots (i : Nat) {pc : Nat} {ins : Instr} {len : Nat} (h : dt_Works_fewestSlots[i]? = some (pc, ins, len)) : decode m_Works_fewestSlots.2.1 pc = .ok (ins, len) := p_dk (b := m_Works_fewestSlots.2.1) (t := dt_Works_fewestSlots) (by decide +kernel) i h
def F_Works_fewestSlots (v0 : Nat) (v1 : Int) (v2 : Int) (s0 : p_Hp) : Option (Int × p_Hp) :=
  p_gd (p_is s0 v0 9) <|
  p_bv (F_Works_measureWays v0 v1 s0) fun s2 =>
  p_gd (p_is s2 (p_R s2 v0 14) 100) <|
  p_gd ((0 : Int) ≤ v2 ∧ v2 < (p_L s2 (p_R s2 v0 14) : Int)) <|
  if (p_Z s2 (p_R s2 v0 14) (v2 : Int).toNat) ≠ 1000000 then
    p_gd ((0 : Int) ≤ v2 ∧ v2 < (p_L s2 (p_R s2 v0 14) : Int)) <|
    some ((p_Z s2 (p_R s2 v0 14) (v2 : Int).toNat), s2)
  else
    some ((-9), s2)
set_option maxRecDepth 100000 in
set_option maxHeartbeats 4000000 in
theorem tF_Works_fewestSlots (K : p_K) (l : Launch) (v0 : Nat) (v1 : Int) (v2 : Int) (s0 : p_Hp) (r : (Int × p_Hp)) (h : F_Works_fewestSlots v0 v1 v2 s0 = some r) : p_Ct K l m_Works_fewestSlots [p_r v0, p_i v1, p_i v2] s0 (some (p_i r.1), r.2) := by
  refine p_Ct.of (by decide +kernel) (Nat.le_of_ble_eq_true rfl) ?_
  unfold F_Works_fewestSlots at h
  show p_Go K l m_Works_fewestSlots 0 [(0, p_r v0), (1, p_i v1), (2, p_i v2)] [] s0 _
  refine g_aload_n (i := 0) (j := 0) (dk_Works_fewestSlots 0 rfl) rfl rfl ?_
  refine g_iload_n (i := 1) (j := 1) (dk_Works_fewestSlots 1 rfl) rfl rfl ?_
  obtain ⟨c1, h⟩ := p_gdE h
  obtain ⟨s2, q3, h⟩ := p_bvE h
  have t4 := tF_Works_measureWays K l v0 v1 s0 _ q3
  refine g_callV (a := v0) (ci := 9) (q0 := (RX9, TX9, 15)) (As := [p_i v1]) (rest := []) [] mt_Works_measureWays rfl rfl tw_5_216 tw_5_217 tw_5_215 ⟨Nat.le_of_ble_eq_true rfl, Nat.le_of_ble_eq_true rfl⟩ rfl (Nat.le_of_ble_eq_true rfl) (dk_Works_fewestSlots 2 rfl) rfl c1 rfl t4 ?_
  have hs5 : p_x s0 s2 := t4.1
  show p_Go K l m_Works_fewestSlots 5 [(0, p_r v0), (1, p_i v1), (2, p_i v2)] [] s2 _
  refine g_aload_n (i := 0) (j := 0) (dk_Works_fewestSlots 3 rfl) rfl rfl ?_
  refine g_getR fl_Works_46 (Or.inr ⟨_, rfl⟩) (dk_Works_fewestSlots 4 rfl) (c1.up hs5) ?_
  refine g_iload_n (i := 2) (j := 2) (dk_Works_fewestSlots 5 rfl) rfl rfl ?_
  obtain ⟨c6, h⟩ := p_gdE h
  obtain ⟨c7, h⟩ := p_gdE h
  refine g_iaload (dk_Works_fewestSlots 6 rfl) c6 c7.1 c7.2 ?_
  refine g_ldc (x := 1000000) (dk_Works_fewestSlots 7 rfl) tw_5_219 (by decide) (by decide) ?_
  refine g_icmp_ne 21 (dk_Works_fewestSlots 8 rfl) (by decide) (fun b8 => ?_) (fun b8 => ?_)
  · have h := p_ifT b8 h
    refine g_aload_n (i := 0) (j := 0) (dk_Works_fewestSlots 11 rfl) rfl rfl ?_
    refine g_getR fl_Works_46 (Or.inr ⟨_, rfl⟩) (dk_Works_fewestSlots 12 rfl) (c1.up hs5) ?_
    refine g_iload_n (i := 2) (j := 2) (dk_Works_fewestSlots 13 rfl) rfl rfl ?_
    obtain ⟨c9, h⟩ := p_gdE h
    refine g_iaload (dk_Works_fewestSlots 14 rfl) c6 c9.1 c9.2 ?_
    cases h
    exact g_ret rfl rfl (dk_Works_fewestSlots 15 rfl) (fun os => ⟨_, rfl, p_okh os⟩)
  · have h := p_ifF b8 h
    refine g_bipush (dk_Works_fewestSlots 9 rfl) (by decide +kernel) (by decide) ?_
    refine g_goto 27 (dk_Works_fewestSlots 10 rfl) (by decide) ?_
    cases h
    exact g_ret rfl rfl (dk_Works_fewestSlots 15 rfl) (fun os => ⟨_, rfl, p_okh os⟩)
def m_SW_far : p_Me := (⟨"SortWorks", "far", "(II)I"⟩, prog_1_method_49_code, 3, (some .int), 5, 112)
theorem mt_SW_far : p_Mt m_SW_far 2 := ⟨p_mem (p_tb5 (List.mem_of_getElem? (i := 210) rfl)) rfl, tw_1_1, by decide +kernel, by decide +kernel, by decide +kernel⟩
def dt_SW_far : List (Nat × Instr × Nat) := [(0, .aload_n 0, 1), (1, .getfield 18, 3), (4, .iload_n 1, 1), (5, .invokevirtual 98, 3), (8, .ifnull 14, 3), (11, .aload_n 0, 1), (12, .getfield 18, 3), (15, .iload_n 2, 1), (16, .invokevirtual 98, 3), (19, .ifnonnull 5, 3), (22, .iconst (-1), 1), (23, .ireturn, 1), (24, .iload_n 1, 1), (25, .iload_n 2, 1), (26, .if_icmp .ne 7, 3), (29, .iconst 0, 1), (30, .goto 12, 3), (33, .aload_n 0, 1), (34, .getfield 18, 3), (37, .iload_n 1, 1), (38, .iload_n 2, 1), (39, .invokevirtual 351, 3), (42, .ireturn, 1)]
theorem dk_SW_far (i : Nat) {pc : Nat} {ins : Instr} {len : Nat} (h : dt_SW_far[i]? = some (pc, ins, len)) : decode m_SW_far.2.1 pc = .ok (ins, len) := p_dk (b := m_SW_far.2.1) (t := dt_SW_far) (by decide +kernel) i h
def F_SW_far (v0 : Nat) (v1 : Int) (v2 : Int) (s0 : p_Hp) : Option (Int × p_Hp) :=
  p_gd (p_is s0 v0 10) <|
  p_gd (p_is s0 (p_R s0 v0 1) 9) <|
  p_bd (F_Works_gearOf (p_R s0 v0 1) v1 s0) fun r7 s3 =>
  if r7 = 0 then
    some ((-1), s3)
  else
    p_gd (p_is s3 (p_R s3 v0 1) 9) <|
    p_bd (F_Works_gearOf (p_R s3 v0 1) v2 s3) fun r14 s10 =>
    if r14 ≠ 0 then
      if v1 ≠ v2 then
        p_gd (p_is s10 (p_R s10 v0 1) 9) <|
        p_bd (F_Works_fewestSlots (p_R s10 v0 1) v1 v2 s10) fun r22 s18 =>
        some (r22, s18)
      else
        some (0, s10)
    else
      some ((-1), s10)
set_option maxRecDepth 100000 in
set_option maxHeartbeats 4000000 in
theorem tF_SW_far (K : p_K) (l : Launch) (v0 : Nat) (v1 : Int) (v2 : Int) (s0 : p_Hp) (r : (Int × p_Hp)) (h : F_SW_far v0 v1 v2 s0 = some r) : p_Ct K l m_SW_far [p_r v0, p_i v1, p_i v2] s0 (some (p_i r.1), r.2) := by
  refine p_Ct.of (by decide +kernel) (Nat.le_of_ble_eq_true rfl) ?_
  unfold F_SW_far at h
  show p_Go K l m_SW_far 0 [(0, p_r v0), (1, p_i v1), (2, p_i v2)] [] s0 _
  refine g_aload_n (i := 0) (j := 0) (dk_SW_far 0 rfl) rfl rfl ?_
  obtain ⟨c1, h⟩ := p_gdE h
  refine g_getR fl_SW_18 (Or.inl ⟨_, rfl⟩) (dk_SW_far 1 rfl) c1 ?_
  refine g_iload_n (i := 1) (j := 1) (dk_SW_far 2 rfl) rfl rfl ?_
  obtain ⟨c2, h⟩ := p_gdE h
  obtain ⟨r7, s3, q4, h⟩ := p_bdE h
  have t5 := tF_Works_gearOf K l (p_R s0 v0 1) v1 s0 _ q4
  refine g_callV (a := (p_R s0 v0 1)) (ci := 9) (q0 := (RX9, TX9, 15)) (As := [p_i v1]) (rest := []) [p_r r7] mt_Works_gearOf rfl rfl tw_3_104 tw_3_105 tw_3_103 ⟨Nat.le_of_ble_eq_true rfl, Nat.le_of_ble_eq_true rfl⟩ rfl (Nat.le_of_ble_eq_true rfl) (dk_SW_far 3 rfl) rfl c2 rfl t5 ?_
  have hs6 : p_x s0 s3 := t5.1
  show p_Go K l m_SW_far 8 [(0, p_r v0), (1, p_i v1), (2, p_i v2)] [p_r r7] s3 _
  refine g_ifnull 22 (dk_SW_far 4 rfl) (by decide) (fun b8 => ?_) (fun b8 => ?_)
  · have h := p_ifT b8 h
    refine g_iconst (dk_SW_far 10 rfl) (by decide) ?_
    cases h
    exact g_ret rfl rfl (dk_SW_far 11 rfl) (fun os => ⟨_, rfl, p_okh os⟩)
  · have h := p_ifF b8 h
    refine g_aload_n (i := 0) (j := 0) (dk_SW_far 5 rfl) rfl rfl ?_
    refine g_getR fl_SW_18 (Or.inl ⟨_, rfl⟩) (dk_SW_far 6 rfl) (c1.up hs6) ?_
    refine g_iload_n (i := 2) (j := 2) (dk_SW_far 7 rfl) rfl rfl ?_
    obtain ⟨c9, h⟩ := p_gdE h
    obtain ⟨r14, s10, q11, h⟩ := p_bdE h
    have t12 := tF_Works_gearOf K l (p_R s3 v0 1) v2 s3 _ q11
    refine g_callV (a := (p_R s3 v0 1)) (ci := 9) (q0 := (RX9, TX9, 15)) (As := [p_i v2]) (rest := []) [p_r r14] mt_Works_gearOf rfl rfl tw_3_104 tw_3_105 tw_3_103 ⟨Nat.le_of_ble_eq_true rfl, Nat.le_of_ble_eq_true rfl⟩ rfl (Nat.le_of_ble_eq_true rfl) (dk_SW_far 8 rfl) rfl c9 rfl t12 ?_
    have hs13 : p_x s3 s10 := t12.1
    show p_Go K l m_SW_far 19 [(0, p_r v0), (1, p_i v1), (2, p_i v2)] [p_r r14] s10 _
    refine g_ifnonnull 24 (dk_SW_far 9 rfl) (by decide) (fun b15 => ?_) (fun b15 => ?_)
    · have h := p_ifT b15 h
      refine g_iload_n (i := 1) (j := 1) (dk_SW_far 12 rfl) rfl rfl ?_
      refine g_iload_n (i := 2) (j := 2) (dk_SW_far 13 rfl) rfl rfl ?_
      refine g_icmp_ne 33 (dk_SW_far 14 rfl) (by decide) (fun b16 => ?_) (fun b16 => ?_)
      · have h := p_ifT b16 h
        refine g_aload_n (i := 0) (j := 0) (dk_SW_far 17 rfl) rfl rfl ?_
        refine g_getR fl_SW_18 (Or.inl ⟨_, rfl⟩) (dk_SW_far 18 rfl) (c1.up (hs6.trans hs13)) ?_
        refine g_iload_n (i := 1) (j := 1) (dk_SW_far 19 rfl) rfl rfl ?_
        refine g_iload_n (i := 2) (j := 2) (dk_SW_far 20 rfl) rfl rfl ?_
        obtain ⟨c17, h⟩ := p_gdE h
        obtain ⟨r22, s18, q19, h⟩ := p_bdE h
        have t20 := tF_Works_fewestSlots K l (p_R s10 v0 1) v1 v2 s10 _ q19
        refine g_callV (a := (p_R s10 v0 1)) (ci := 9) (q0 := (RX9, TX9, 15)) (As := [p_i v1, p_i v2]) (rest := []) [p_i r22] mt_Works_fewestSlots rfl rfl tw_5_212 tw_5_213 tw_5_211 ⟨Nat.le_of_ble_eq_true rfl, Nat.le_of_ble_eq_true rfl⟩ rfl (Nat.le_of_ble_eq_true rfl) (dk_SW_far 21 rfl) rfl c17 rfl t20 ?_
        have hs21 : p_x s10 s18 := t20.1
        show p_Go K l m_SW_far 42 [(0, p_r v0), (1, p_i v1), (2, p_i v2)] [p_i r22] s18 _
        cases h
        exact g_ret rfl rfl (dk_SW_far 22 rfl) (fun os => ⟨_, rfl, p_okh os⟩)
      · have h := p_ifF b16 h
        refine g_iconst (dk_SW_far 15 rfl) (by decide) ?_
        refine g_goto 42 (dk_SW_far 16 rfl) (by decide) ?_
        cases h
        exact g_ret rfl rfl (dk_SW_far 22 rfl) (fun os => ⟨_, rfl, p_okh os⟩)
    · have h := p_ifF b15 h
      refine g_iconst (dk_SW_far 10 rfl) (by decide) ?_
      cases h
      exact g_ret rfl rfl (dk_SW_far 11 rfl) (fun os => ⟨_, rfl, p_okh os⟩)
def m_SW_reach : p_Me := (⟨"SortWorks", "reach", "(I)J"⟩, prog_1_method_50_code, 5, (some .long), 4, 90)
theorem mt_SW_reach : p_Mt m_SW_reach 1 := ⟨p_mem (p_tb5 (List.mem_of_getElem? (i := 230) rfl)) rfl, tw_1_1, by decide +kernel, by decide +kernel, by decide +kernel⟩
def dt_SW_reach : List (Nat × Instr × Nat) := [(0, .aload_n 0, 1), (1, .getfield 18, 3), (4, .iload_n 1, 1), (5, .invokevirtual 98, 3), (8, .ifnonnull 5, 3), (11, .lconst 0, 1), (12, .lreturn, 1), (13, .lconst 0, 1), (14, .lstore_n 2, 1), (15, .aload_n 0, 1), (16, .getfield 18, 3), (19, .iload_n 1, 1), (20, .invokevirtual 354, 3), (23, .iconst 0, 1), (24, .istore 4, 2), (26, .iload 4, 2), (28, .aload_n 0, 1), (29, .getfield 18, 3), (32, .getfield 74, 3), (35, .if_icmp .ge 32, 3), (38, .aload_n 0, 1), (39, .getfield 18, 3), (42, .getfield 357, 3), (45, .iload 4, 2), (47, .iaload, 1), (48, .ldc_w 360, 3), (51, .if_icmp .eq 10, 3), (54, .lload_n 2, 1), (55, .lconst 1, 1), (56, .iload 4, 2), (58, .lshl, 1), (59, .lor, 1), (60, .lstore_n 2, 1), (61, .iinc 4 1, 3), (64, .goto (-38), 3), (67, .lload_n 2, 1), (68, .lreturn, 1)]
theorem dk_SW_reach (i : Nat) {pc : Nat} {ins : Instr} {len : Nat} (h : dt_SW_reach[i]? = some (pc, ins, len)) : decode m_SW_reach.2.1 pc = .ok (ins, len) := p_dk (b := m_SW_reach.2.1) (t := dt_SW_reach) (by decide +kernel) i h
def B_SW_reach_61 (k26 : Nat → Int → Int → p_Hp → Option (Int × p_Hp)) (v0 : Nat) (v2 : Int) (v4 : Int) (s0 : p_Hp) : Option (Int × p_Hp) :=
  p_bi (p_w (v4 + 1)) fun x1 =>
  k26 v0 v2 x1 s0
def L_SW_reach_26 (k26 : Nat → Int → Int → p_Hp → Option (Int × p_Hp)) (v0 : Nat) (v2 : Int) (v4 : Int) (s0 : p_Hp) : Option (Int × p_Hp) :=
  p_gd (p_is s0 v0 10) <|
  p_gd (p_is s0 (p_R s0 v0 1) 9) <|
  if (p_Z s0 (p_R s0 v0 1) 2) ≤ v4 then
    some (v2, s0)
  else
    p_gd (p_is s0 (p_R s0 (p_R s0 v0 1) 14) 100) <|
    p_gd ((0 : Int) ≤ v4 ∧ v4 < (p_L s0 (p_R s0 (p_R s0 v0 1) 14) : Int)) <|
    if (p_Z s0 (p_R s0 (p_R s0 v0 1) 14) (v4 : Int).toNat) = 1000000 then
      B_SW_reach_61 k26 v0 v2 v4 s0
    else
      p_bi ((p_or6 v2 (p_shl6 1 v4))) fun x7 =>
      B_SW_reach_61 k26 v0 x7 v4 s0
def O_SW_reach_26  : Nat → Nat → Int → Int → p_Hp → Option (Int × p_Hp)
  | 0 => fun _ _ _ _ => none
  | n + 1 => L_SW_reach_26 (O_SW_reach_26 n)
def F_SW_reach (v0 : Nat) (v1 : Int) (s0 : p_Hp) : Option (Int × p_Hp) :=
  p_gd (p_is s0 v0 10) <|
  p_gd (p_is s0 (p_R s0 v0 1) 9) <|
  p_bd (F_Works_gearOf (p_R s0 v0 1) v1 s0) fun r7 s3 =>
  if r7 ≠ 0 then
    p_gd (p_is s3 (p_R s3 v0 1) 9) <|
    p_bv (F_Works_measureWays (p_R s3 v0 1) v1 s3) fun s10 =>
    O_SW_reach_26 3000 v0 0 0 s10
  else
    some (0, s3)
set_option maxRecDepth 100000 in
set_option maxHeartbeats 4000000 in
theorem tB_SW_reach_61 (K : p_K) (l : Launch) (k26 : Nat → Int → Int → p_Hp → Option (Int × p_Hp)) (hk26 : ∀ (v0 : Nat) (v2 : Int) (v4 : Int)  (s0 : p_Hp) (r : (Int × p_Hp)), k26 v0 v2 v4 s0 = some r → p_Go K l m_SW_reach 26 [(0, p_r v0), (2, p_j v2), (4, p_i v4)] [] s0 (some (p_j r.1), r.2)) (v0 : Nat) (v2 : Int) (v4 : Int) (s0 : p_Hp) (r : (Int × p_Hp)) (h : B_SW_reach_61 k26 v0 v2 v4 s0 = some r) : p_Go K l m_SW_reach 61 [(0, p_r v0), (2, p_j v2), (4, p_i v4)] [] s0 (some (p_j r.1), r.2) := by
  unfold B_SW_reach_61 at h
  refine g_iinc (j := 2) [(4, p_i (p_w (v4 + 1))), (0, p_r v0), (2, p_j v2)] (dk_SW_reach 33 rfl) rfl (by decide) rfl ?_
  refine p_ltG (P := fun q => p_Go K l m_SW_reach 64 [(4, p_i q), (0, p_r v0), (2, p_j v2)] [] s0 _) ?_ h
  intro x1 h
  refine g_goto 26 (dk_SW_reach 34 rfl) (by decide) ?_
  refine g_sub [(0, p_r v0), (2, p_j v2), (4, p_i x1)] [1, 2, 0] rfl ?_
  exact hk26 v0 v2 x1 s0 _ h
set_option maxRecDepth 100000 in
set_option maxHeartbeats 4000000 in
theorem tL_SW_reach_26 (K : p_K) (l : Launch) (k26 : Nat → Int → Int → p_Hp → Option (Int × p_Hp)) (hk26 : ∀ (v0 : Nat) (v2 : Int) (v4 : Int)  (s0 : p_Hp) (r : (Int × p_Hp)), k26 v0 v2 v4 s0 = some r → p_Go K l m_SW_reach 26 [(0, p_r v0), (2, p_j v2), (4, p_i v4)] [] s0 (some (p_j r.1), r.2)) (v0 : Nat) (v2 : Int) (v4 : Int) (s0 : p_Hp) (r : (Int × p_Hp)) (h : L_SW_reach_26 k26 v0 v2 v4 s0 = some r) : p_Go K l m_SW_reach 26 [(0, p_r v0), (2, p_j v2), (4, p_i v4)] [] s0 (some (p_j r.1), r.2) := by
  unfold L_SW_reach_26 at h
  refine g_iload (j := 2) (dk_SW_reach 15 rfl) rfl ?_
  refine g_aload_n (i := 0) (j := 0) (dk_SW_reach 16 rfl) rfl rfl ?_
  obtain ⟨c1, h⟩ := p_gdE h
  refine g_getR fl_SW_18 (Or.inl ⟨_, rfl⟩) (dk_SW_reach 17 rfl) c1 ?_
  obtain ⟨c2, h⟩ := p_gdE h
  refine g_getI fl_SW_74 (Or.inl rfl) (dk_SW_reach 18 rfl) c2 ?_
  refine g_icmp_ge 67 (dk_SW_reach 19 rfl) (by decide) (fun b3 => ?_) (fun b3 => ?_)
  · have h := p_ifT b3 h
    refine g_lload_n (i := 2) (j := 1) (dk_SW_reach 35 rfl) rfl rfl ?_
    cases h
    exact g_ret rfl rfl (dk_SW_reach 36 rfl) (fun os => ⟨_, rfl, p_okh os⟩)
  · have h := p_ifF b3 h
    refine g_aload_n (i := 0) (j := 0) (dk_SW_reach 20 rfl) rfl rfl ?_
    refine g_getR fl_SW_18 (Or.inl ⟨_, rfl⟩) (dk_SW_reach 21 rfl) c1 ?_
    refine g_getR fl_SW_357 (Or.inr ⟨_, rfl⟩) (dk_SW_reach 22 rfl) c2 ?_
    refine g_iload (j := 2) (dk_SW_reach 23 rfl) rfl ?_
    obtain ⟨c4, h⟩ := p_gdE h
    obtain ⟨c5, h⟩ := p_gdE h
    refine g_iaload (dk_SW_reach 24 rfl) c4 c5.1 c5.2 ?_
    refine g_ldc_w (x := 1000000) (dk_SW_reach 25 rfl) tw_5_232 (by decide) (by decide) ?_
    refine g_icmp_eq 61 (dk_SW_reach 26 rfl) (by decide) (fun b6 => ?_) (fun b6 => ?_)
    · have h := p_ifT b6 h
      exact tB_SW_reach_61 K l k26 hk26 v0 v2 v4 s0 _ h
    · have h := p_ifF b6 h
      refine g_lload_n (i := 2) (j := 1) (dk_SW_reach 27 rfl) rfl rfl ?_
      refine g_lconst (x := 1) (dk_SW_reach 28 rfl) rfl (by decide) ?_
      refine g_iload (j := 2) (dk_SW_reach 29 rfl) rfl ?_
      refine g_lshl (dk_SW_reach 30 rfl) ?_
      refine g_lor (dk_SW_reach 31 rfl) ?_
      refine g_lstore_n (i := 2) [(2, p_j (p_or6 v2 (p_shl6 1 v4))), (0, p_r v0), (4, p_i v4)] (dk_SW_reach 32 rfl) rfl (by decide) rfl ?_
      refine p_ltG (P := fun q => p_Go K l m_SW_reach 61 [(2, p_j q), (0, p_r v0), (4, p_i v4)] [] s0 _) ?_ h
      intro x7 h
      refine g_sub [(0, p_r v0), (2, p_j x7), (4, p_i v4)] [1, 0, 2] rfl ?_
      exact tB_SW_reach_61 K l k26 hk26 v0 x7 v4 s0 _ h
set_option maxRecDepth 100000 in
set_option maxHeartbeats 4000000 in
theorem tO_SW_reach_26 (K : p_K) (l : Launch)  : ∀ (n : Nat) (v0 : Nat) (v2 : Int) (v4 : Int) (s0 : p_Hp) (r : (Int × p_Hp)), O_SW_reach_26 n v0 v2 v4 s0 = some r → p_Go K l m_SW_reach 26 [(0, p_r v0), (2, p_j v2), (4, p_i v4)] [] s0 (some (p_j r.1), r.2) := by
  intro n
  induction n with
  | zero => intro v0 v2 v4 s0 r h; cases (show (none : Option (Int × p_Hp)) = some r from h)
  | succ n ih => intro v0 v2 v4 s0 r h; exact tL_SW_reach_26 K l _ ih v0 v2 v4 s0 r h
set_option maxRecDepth 100000 in
set_option maxHeartbeats 4000000 in
theorem tF_SW_reach (K : p_K) (l : Launch) (v0 : Nat) (v1 : Int) (s0 : p_Hp) (r : (Int × p_Hp)) (h : F_SW_reach v0 v1 s0 = some r) : p_Ct K l m_SW_reach [p_r v0, p_i v1] s0 (some (p_j r.1), r.2) := by
  refine p_Ct.of (by decide +kernel) (Nat.le_of_ble_eq_true rfl) ?_
  unfold F_SW_reach at h
  show p_Go K l m_SW_reach 0 [(0, p_r v0), (1, p_i v1)] [] s0 _
  refine g_aload_n (i := 0) (j := 0) (dk_SW_reach 0 rfl) rfl rfl ?_
  obtain ⟨c1, h⟩ := p_gdE h
  refine g_getR fl_SW_18 (Or.inl ⟨_, rfl⟩) (dk_SW_reach 1 rfl) c1 ?_
  refine g_iload_n (i := 1) (j := 1) (dk_SW_reach 2 rfl) rfl rfl ?_
  obtain ⟨c2, h⟩ := p_gdE h
  obtain ⟨r7, s3, q4, h⟩ := p_bdE h
  have t5 := tF_Works_gearOf K l (p_R s0 v0 1) v1 s0 _ q4
  refine g_callV (a := (p_R s0 v0 1)) (ci := 9) (q0 := (RX9, TX9, 15)) (As := [p_i v1]) (rest := []) [p_r r7] mt_Works_gearOf rfl rfl tw_3_104 tw_3_105 tw_3_103 ⟨Nat.le_of_ble_eq_true rfl, Nat.le_of_ble_eq_true rfl⟩ rfl (Nat.le_of_ble_eq_true rfl) (dk_SW_reach 3 rfl) rfl c2 rfl t5 ?_
  have hs6 : p_x s0 s3 := t5.1
  show p_Go K l m_SW_reach 8 [(0, p_r v0), (1, p_i v1)] [p_r r7] s3 _
  refine g_ifnonnull 13 (dk_SW_reach 4 rfl) (by decide) (fun b8 => ?_) (fun b8 => ?_)
  · have h := p_ifT b8 h
    refine g_lconst (x := 0) (dk_SW_reach 7 rfl) rfl (by decide) ?_
    refine g_lstore_n (i := 2) [(2, p_j 0), (0, p_r v0), (1, p_i v1)] (dk_SW_reach 8 rfl) rfl (by decide) rfl ?_
    refine g_aload_n (i := 0) (j := 1) (dk_SW_reach 9 rfl) rfl rfl ?_
    refine g_getR fl_SW_18 (Or.inl ⟨_, rfl⟩) (dk_SW_reach 10 rfl) (c1.up hs6) ?_
    refine g_iload_n (i := 1) (j := 2) (dk_SW_reach 11 rfl) rfl rfl ?_
    obtain ⟨c9, h⟩ := p_gdE h
    obtain ⟨s10, q11, h⟩ := p_bvE h
    have t12 := tF_Works_measureWays K l (p_R s3 v0 1) v1 s3 _ q11
    refine g_callV (a := (p_R s3 v0 1)) (ci := 9) (q0 := (RX9, TX9, 15)) (As := [p_i v1]) (rest := []) [] mt_Works_measureWays rfl rfl tw_5_216 tw_5_217 tw_5_231 ⟨Nat.le_of_ble_eq_true rfl, Nat.le_of_ble_eq_true rfl⟩ rfl (Nat.le_of_ble_eq_true rfl) (dk_SW_reach 12 rfl) rfl c9 rfl t12 ?_
    have hs13 : p_x s3 s10 := t12.1
    show p_Go K l m_SW_reach 23 [(2, p_j 0), (0, p_r v0), (1, p_i v1)] [] s10 _
    refine g_iconst (dk_SW_reach 13 rfl) (by decide) ?_
    refine g_istore [(4, p_i 0), (2, p_j 0), (0, p_r v0), (1, p_i v1)] (dk_SW_reach 14 rfl) (by decide) rfl ?_
    refine g_sub [(0, p_r v0), (2, p_j 0), (4, p_i 0)] [2, 1, 0] rfl ?_
    exact tO_SW_reach_26 K l 3000 v0 0 0 s10 _ h
  · have h := p_ifF b8 h
    refine g_lconst (x := 0) (dk_SW_reach 5 rfl) rfl (by decide) ?_
    cases h
    exact g_ret rfl rfl (dk_SW_reach 6 rfl) (fun os => ⟨_, rfl, p_okh os⟩)
def m_SW_ring : p_Me := (⟨"SortWorks", "ring", "(I)I"⟩, prog_1_method_51_code, 2, (some .int), 5, 112)
theorem mt_SW_ring : p_Mt m_SW_ring 1 := ⟨p_mem (p_tb5 (List.mem_of_getElem? (i := 236) rfl)) rfl, tw_1_1, by decide +kernel, by decide +kernel, by decide +kernel⟩
def dt_SW_ring : List (Nat × Instr × Nat) := [(0, .aload_n 0, 1), (1, .getfield 18, 3), (4, .iload_n 1, 1), (5, .invokevirtual 98, 3), (8, .ifnonnull 5, 3), (11, .iconst (-1), 1), (12, .ireturn, 1), (13, .aload_n 0, 1), (14, .getfield 18, 3), (17, .iload_n 1, 1), (18, .iload_n 1, 1), (19, .invokevirtual 351, 3), (22, .ireturn, 1)]
theorem dk_SW_ring (i : Nat) {pc : Nat} {ins : Instr} {len : Nat} (h : dt_SW_ring[i]? = some (pc, ins, len)) : decode m_SW_ring.2.1 pc = .ok (ins, len) := p_dk (b := m_SW_ring.2.1) (t := dt_SW_ring) (by decide +kernel) i h
def F_SW_ring (v0 : Nat) (v1 : Int) (s0 : p_Hp) : Option (Int × p_Hp) :=
  p_gd (p_is s0 v0 10) <|
  p_gd (p_is s0 (p_R s0 v0 1) 9) <|
  p_bd (F_Works_gearOf (p_R s0 v0 1) v1 s0) fun r7 s3 =>
  if r7 ≠ 0 then
    p_gd (p_is s3 (p_R s3 v0 1) 9) <|
    p_bd (F_Works_fewestSlots (p_R s3 v0 1) v1 v1 s3) fun r14 s10 =>
    some (r14, s10)
  else
    some ((-1), s3)
set_option maxRecDepth 100000 in
set_option maxHeartbeats 4000000 in
theorem tF_SW_ring (K : p_K) (l : Launch) (v0 : Nat) (v1 : Int) (s0 : p_Hp) (r : (Int × p_Hp)) (h : F_SW_ring v0 v1 s0 = some r) : p_Ct K l m_SW_ring [p_r v0, p_i v1] s0 (some (p_i r.1), r.2) := by
  refine p_Ct.of (by decide +kernel) (Nat.le_of_ble_eq_true rfl) ?_
  unfold F_SW_ring at h
  show p_Go K l m_SW_ring 0 [(0, p_r v0), (1, p_i v1)] [] s0 _
  refine g_aload_n (i := 0) (j := 0) (dk_SW_ring 0 rfl) rfl rfl ?_
  obtain ⟨c1, h⟩ := p_gdE h
  refine g_getR fl_SW_18 (Or.inl ⟨_, rfl⟩) (dk_SW_ring 1 rfl) c1 ?_
  refine g_iload_n (i := 1) (j := 1) (dk_SW_ring 2 rfl) rfl rfl ?_
  obtain ⟨c2, h⟩ := p_gdE h
  obtain ⟨r7, s3, q4, h⟩ := p_bdE h
  have t5 := tF_Works_gearOf K l (p_R s0 v0 1) v1 s0 _ q4
  refine g_callV (a := (p_R s0 v0 1)) (ci := 9) (q0 := (RX9, TX9, 15)) (As := [p_i v1]) (rest := []) [p_r r7] mt_Works_gearOf rfl rfl tw_3_104 tw_3_105 tw_3_103 ⟨Nat.le_of_ble_eq_true rfl, Nat.le_of_ble_eq_true rfl⟩ rfl (Nat.le_of_ble_eq_true rfl) (dk_SW_ring 3 rfl) rfl c2 rfl t5 ?_
  have hs6 : p_x s0 s3 := t5.1
  show p_Go K l m_SW_ring 8 [(0, p_r v0), (1, p_i v1)] [p_r r7] s3 _
  refine g_ifnonnull 13 (dk_SW_ring 4 rfl) (by decide) (fun b8 => ?_) (fun b8 => ?_)
  · have h := p_ifT b8 h
    refine g_aload_n (i := 0) (j := 0) (dk_SW_ring 7 rfl) rfl rfl ?_
    refine g_getR fl_SW_18 (Or.inl ⟨_, rfl⟩) (dk_SW_ring 8 rfl) (c1.up hs6) ?_
    refine g_iload_n (i := 1) (j := 1) (dk_SW_ring 9 rfl) rfl rfl ?_
    refine g_iload_n (i := 1) (j := 1) (dk_SW_ring 10 rfl) rfl rfl ?_
    obtain ⟨c9, h⟩ := p_gdE h
    obtain ⟨r14, s10, q11, h⟩ := p_bdE h
    have t12 := tF_Works_fewestSlots K l (p_R s3 v0 1) v1 v1 s3 _ q11
    refine g_callV (a := (p_R s3 v0 1)) (ci := 9) (q0 := (RX9, TX9, 15)) (As := [p_i v1, p_i v1]) (rest := []) [p_i r14] mt_Works_fewestSlots rfl rfl tw_5_212 tw_5_213 tw_5_211 ⟨Nat.le_of_ble_eq_true rfl, Nat.le_of_ble_eq_true rfl⟩ rfl (Nat.le_of_ble_eq_true rfl) (dk_SW_ring 11 rfl) rfl c9 rfl t12 ?_
    have hs13 : p_x s3 s10 := t12.1
    show p_Go K l m_SW_ring 22 [(0, p_r v0), (1, p_i v1)] [p_i r14] s10 _
    cases h
    exact g_ret rfl rfl (dk_SW_ring 12 rfl) (fun os => ⟨_, rfl, p_okh os⟩)
  · have h := p_ifF b8 h
    refine g_iconst (dk_SW_ring 5 rfl) (by decide) ?_
    cases h
    exact g_ret rfl rfl (dk_SW_ring 6 rfl) (fun os => ⟨_, rfl, p_okh os⟩)
def m_SW_audit : p_Me := (⟨"SortWorks", "audit", "()I"⟩, prog_1_method_52_code, 3, (some .int), 1, 22)
theorem mt_SW_audit : p_Mt m_SW_audit 0 := ⟨p_mem (p_tb6 (List.mem_of_getElem? (i := 0) rfl)) rfl, tw_1_1, by decide +kernel, by decide +kernel, by decide +kernel⟩
def dt_SW_audit : List (Nat × Instr × Nat) := [(0, .iconst 0, 1), (1, .istore_n 1, 1), (2, .iload_n 1, 1), (3, .aload_n 0, 1), (4, .getfield 18, 3), (7, .getfield 74, 3), (10, .if_icmp .ge 40, 3), (13, .aload_n 0, 1), (14, .getfield 18, 3), (17, .getfield 77, 3), (20, .getfield 81, 3), (23, .iload_n 1, 1), (24, .aaload, 1), (25, .astore_n 2, 1), (26, .aload_n 2, 1), (27, .getfield 267, 3), (30, .aload_n 2, 1), (31, .getfield 270, 3), (34, .isub, 1), (35, .aload_n 2, 1), (36, .invokevirtual 135, 3), (39, .if_icmp .eq 5, 3), (42, .iload_n 1, 1), (43, .ireturn, 1), (44, .iinc 1 1, 3), (47, .goto (-45), 3), (50, .bipush (-9), 2), (52, .ireturn, 1)]
theorem dk_SW_audit (i : Nat) {pc : Nat} {ins : Instr} {len : Nat} (h : dt_SW_audit[i]? = some (pc, ins, len)) : decode m_SW_audit.2.1 pc = .ok (ins, len) := p_dk (b := m_SW_audit.2.1) (t := dt_SW_audit) (by decide +kernel) i h
def L_SW_audit_2 (k2 : Nat → Int → p_Hp → Option (Int × p_Hp)) (v0 : Nat) (v1 : Int) (s0 : p_Hp) : Option (Int × p_Hp) :=
  p_gd (p_is s0 v0 10) <|
  p_gd (p_is s0 (p_R s0 v0 1) 9) <|
  if (p_Z s0 (p_R s0 v0 1) 2) ≤ v1 then
    some ((-9), s0)
  else
    p_gd (p_is s0 (p_R s0 (p_R s0 v0 1) 1) 7) <|
    p_gd (p_is s0 (p_R s0 (p_R s0 (p_R s0 v0 1) 1) 4) 105) <|
    p_gd ((0 : Int) ≤ v1 ∧ v1 < (p_L s0 (p_R s0 (p_R s0 (p_R s0 v0 1) 1) 4) : Int)) <|
    p_bi ((p_R s0 (p_R s0 (p_R s0 (p_R s0 v0 1) 1) 4) (v1 : Int).toNat)) fun x7 =>
    p_gd (p_is s0 x7 0) <|
    p_bd (F_Gear_parcels x7 s0) fun r13 s9 =>
    if (p_w ((p_Z s0 x7 10) - (p_Z s0 x7 11))) = r13 then
      p_bi (p_w (v1 + 1)) fun x15 =>
      k2 v0 x15 s9
    else
      some (v1, s9)
def O_SW_audit_2  : Nat → Nat → Int → p_Hp → Option (Int × p_Hp)
  | 0 => fun _ _ _ => none
  | n + 1 => L_SW_audit_2 (O_SW_audit_2 n)
def F_SW_audit (v0 : Nat) (s0 : p_Hp) : Option (Int × p_Hp) :=
  O_SW_audit_2 3000 v0 0 s0
set_option maxRecDepth 100000 in
set_option maxHeartbeats 4000000 in
theorem tL_SW_audit_2 (K : p_K) (l : Launch) (k2 : Nat → Int → p_Hp → Option (Int × p_Hp)) (hk2 : ∀ (v0 : Nat) (v1 : Int)  (s0 : p_Hp) (r : (Int × p_Hp)), k2 v0 v1 s0 = some r → p_Go K l m_SW_audit 2 [(0, p_r v0), (1, p_i v1)] [] s0 (some (p_i r.1), r.2)) (v0 : Nat) (v1 : Int) (s0 : p_Hp) (r : (Int × p_Hp)) (h : L_SW_audit_2 k2 v0 v1 s0 = some r) : p_Go K l m_SW_audit 2 [(0, p_r v0), (1, p_i v1)] [] s0 (some (p_i r.1), r.2) := by
  unfold L_SW_audit_2 at h
  refine g_iload_n (i := 1) (j := 1) (dk_SW_audit 2 rfl) rfl rfl ?_
  refine g_aload_n (i := 0) (j := 0) (dk_SW_audit 3 rfl) rfl rfl ?_
  obtain ⟨c1, h⟩ := p_gdE h
  refine g_getR fl_SW_18 (Or.inl ⟨_, rfl⟩) (dk_SW_audit 4 rfl) c1 ?_
  obtain ⟨c2, h⟩ := p_gdE h
  refine g_getI fl_SW_74 (Or.inl rfl) (dk_SW_audit 5 rfl) c2 ?_
  refine g_icmp_ge 50 (dk_SW_audit 6 rfl) (by decide) (fun b3 => ?_) (fun b3 => ?_)
  · have h := p_ifT b3 h
    refine g_bipush (dk_SW_audit 26 rfl) (by decide +kernel) (by decide) ?_
    cases h
    exact g_ret rfl rfl (dk_SW_audit 27 rfl) (fun os => ⟨_, rfl, p_okh os⟩)
  · have h := p_ifF b3 h
    refine g_aload_n (i := 0) (j := 0) (dk_SW_audit 7 rfl) rfl rfl ?_
    refine g_getR fl_SW_18 (Or.inl ⟨_, rfl⟩) (dk_SW_audit 8 rfl) c1 ?_
    refine g_getR fl_SW_77 (Or.inl ⟨_, rfl⟩) (dk_SW_audit 9 rfl) c2 ?_
    obtain ⟨c4, h⟩ := p_gdE h
    refine g_getR fl_SW_81 (Or.inr ⟨_, rfl⟩) (dk_SW_audit 10 rfl) c4 ?_
    refine g_iload_n (i := 1) (j := 1) (dk_SW_audit 11 rfl) rfl rfl ?_
    obtain ⟨c5, h⟩ := p_gdE h
    obtain ⟨c6, h⟩ := p_gdE h
    refine g_aaload (i := 5) rfl (Or.inl ⟨_, rfl⟩) (dk_SW_audit 12 rfl) c5 c6.1 c6.2 ?_
    refine g_astore_n (i := 2) [(2, p_r (p_R s0 (p_R s0 (p_R s0 (p_R s0 v0 1) 1) 4) (v1 : Int).toNat)), (0, p_r v0), (1, p_i v1)] (dk_SW_audit 13 rfl) rfl (by decide) rfl ?_
    refine p_ltG (P := fun q => p_Go K l m_SW_audit 26 [(2, p_r q), (0, p_r v0), (1, p_i v1)] [] s0 _) ?_ h
    intro x7 h
    refine g_aload_n (i := 2) (j := 0) (dk_SW_audit 14 rfl) rfl rfl ?_
    obtain ⟨c8, h⟩ := p_gdE h
    refine g_getI fl_SW_267 (Or.inl rfl) (dk_SW_audit 15 rfl) c8 ?_
    refine g_aload_n (i := 2) (j := 0) (dk_SW_audit 16 rfl) rfl rfl ?_
    refine g_getI fl_SW_270 (Or.inl rfl) (dk_SW_audit 17 rfl) c8 ?_
    refine g_isub (dk_SW_audit 18 rfl) ?_
    refine g_aload_n (i := 2) (j := 0) (dk_SW_audit 19 rfl) rfl rfl ?_
    obtain ⟨r13, s9, q10, h⟩ := p_bdE h
    have t11 := tF_Gear_parcels K l x7 s0 _ q10
    refine g_callV (a := x7) (ci := 0) (q0 := (RX0, TX0, 20)) (As := []) (rest := [p_i (p_w ((p_Z s0 x7 10) - (p_Z s0 x7 11)))]) [p_i r13, p_i (p_w ((p_Z s0 x7 10) - (p_Z s0 x7 11)))] mt_Gear_parcels rfl rfl tw_3_151 tw_3_152 tw_3_150 ⟨Nat.le_of_ble_eq_true rfl, Nat.le_of_ble_eq_true rfl⟩ rfl (Nat.le_of_ble_eq_true rfl) (dk_SW_audit 20 rfl) rfl c8 rfl t11 ?_
    have hs12 : p_x s0 s9 := t11.1
    show p_Go K l m_SW_audit 39 [(2, p_r x7), (0, p_r v0), (1, p_i v1)] [p_i r13, p_i (p_w ((p_Z s0 x7 10) - (p_Z s0 x7 11)))] s9 _
    refine g_icmp_eq 44 (dk_SW_audit 21 rfl) (by decide) (fun b14 => ?_) (fun b14 => ?_)
    · have h := p_ifT b14 h
      refine g_iinc (j := 2) [(1, p_i (p_w (v1 + 1))), (2, p_r x7), (0, p_r v0)] (dk_SW_audit 24 rfl) rfl (by decide) rfl ?_
      refine p_ltG (P := fun q => p_Go K l m_SW_audit 47 [(1, p_i q), (2, p_r x7), (0, p_r v0)] [] s9 _) ?_ h
      intro x15 h
      refine g_goto 2 (dk_SW_audit 25 rfl) (by decide) ?_
      refine g_sub [(0, p_r v0), (1, p_i x15)] [2, 0] rfl ?_
      exact hk2 v0 x15 s9 _ h
    · have h := p_ifF b14 h
      refine g_iload_n (i := 1) (j := 2) (dk_SW_audit 22 rfl) rfl rfl ?_
      cases h
      exact g_ret rfl rfl (dk_SW_audit 23 rfl) (fun os => ⟨_, rfl, p_okh os⟩)
set_option maxRecDepth 100000 in
set_option maxHeartbeats 4000000 in
theorem tO_SW_audit_2 (K : p_K) (l : Launch)  : ∀ (n : Nat) (v0 : Nat) (v1 : Int) (s0 : p_Hp) (r : (Int × p_Hp)), O_SW_audit_2 n v0 v1 s0 = some r → p_Go K l m_SW_audit 2 [(0, p_r v0), (1, p_i v1)] [] s0 (some (p_i r.1), r.2) := by
  intro n
  induction n with
  | zero => intro v0 v1 s0 r h; cases (show (none : Option (Int × p_Hp)) = some r from h)
  | succ n ih => intro v0 v1 s0 r h; exact tL_SW_audit_2 K l _ ih v0 v1 s0 r h
set_option maxRecDepth 100000 in
set_option maxHeartbeats 4000000 in
theorem tF_SW_audit (K : p_K) (l : Launch) (v0 : Nat) (s0 : p_Hp) (r : (Int × p_Hp)) (h : F_SW_audit v0 s0 = some r) : p_Ct K l m_SW_audit [p_r v0] s0 (some (p_i r.1), r.2) := by
  refine p_Ct.of (by decide +kernel) (Nat.le_of_ble_eq_true rfl) ?_
  unfold F_SW_audit at h
  show p_Go K l m_SW_audit 0 [(0, p_r v0)] [] s0 _
  refine g_iconst (dk_SW_audit 0 rfl) (by decide) ?_
  refine g_istore_n (i := 1) [(1, p_i 0), (0, p_r v0)] (dk_SW_audit 1 rfl) rfl (by decide) rfl ?_
  refine g_sub [(0, p_r v0), (1, p_i 0)] [1, 0] rfl ?_
  exact tO_SW_audit_2 K l 3000 v0 0 s0 _ h
def m_SW_count : p_Me := (⟨"SortWorks", "count", "(I)I"⟩, prog_1_method_53_code, 2, (some .int), 0, 0)
theorem mt_SW_count : p_Mt m_SW_count 1 := ⟨p_mem (p_tb6 (List.mem_of_getElem? (i := 4) rfl)) rfl, tw_1_1, by decide +kernel, by decide +kernel, by decide +kernel⟩
def dt_SW_count : List (Nat × Instr × Nat) := [(0, .iload_n 1, 1), (1, .tableswitch 201 0 13 #[71, 79, 90, 101, 115, 126, 137, 151, 156, 164, 172, 177, 185, 193], 71), (72, .aload_n 0, 1), (73, .getfield 18, 3), (76, .getfield 74, 3), (79, .ireturn, 1), (80, .aload_n 0, 1), (81, .getfield 18, 3), (84, .getfield 77, 3), (87, .getfield 361, 3), (90, .ireturn, 1), (91, .aload_n 0, 1), (92, .getfield 18, 3), (95, .getfield 77, 3), (98, .getfield 364, 3), (101, .ireturn, 1), (102, .aload_n 0, 1), (103, .getfield 18, 3), (106, .getfield 77, 3), (109, .getfield 318, 3), (112, .getfield 365, 3), (115, .ireturn, 1), (116, .aload_n 0, 1), (117, .getfield 18, 3), (120, .getfield 161, 3), (123, .getfield 162, 3), (126, .ireturn, 1), (127, .aload_n 0, 1), (128, .getfield 18, 3), (131, .getfield 77, 3), (134, .getfield 277, 3), (137, .ireturn, 1), (138, .aload_n 0, 1), (139, .getfield 18, 3), (142, .getfield 77, 3), (145, .getfield 342, 3), (148, .getfield 365, 3), (151, .ireturn, 1), (152, .aload_n 0, 1), (153, .getfield 47, 3), (156, .ireturn, 1), (157, .aload_n 0, 1), (158, .getfield 18, 3), (161, .getfield 291, 3), (164, .ireturn, 1), (165, .aload_n 0, 1), (166, .getfield 18, 3), (169, .getfield 345, 3), (172, .ireturn, 1), (173, .aload_n 0, 1), (174, .getfield 146, 3), (177, .ireturn, 1), (178, .aload_n 0, 1), (179, .getfield 18, 3), (182, .getfield 167, 3), (185, .ireturn, 1), (186, .aload_n 0, 1), (187, .getfield 18, 3), (190, .getfield 64, 3), (193, .ireturn, 1), (194, .aload_n 0, 1), (195, .getfield 25, 3), (198, .getfield 197, 3), (201, .ireturn, 1), (202, .bipush (-9), 2), (204, .ireturn, 1)]
theorem dk_SW_count (i : Nat) {pc : Nat} {ins : Instr} {len : Nat} (h : dt_SW_count[i]? = some (pc, ins, len)) : decode m_SW_count.2.1 pc = .ok (ins, len) := p_dk (b := m_SW_count.2.1) (t := dt_SW_count) (by decide +kernel) i h
def F_SW_count (v0 : Nat) (v1 : Int) (s0 : p_Hp) : Option (Int × p_Hp) :=
  if v1 = 0 then
    p_gd (p_is s0 v0 10) <|
    p_gd (p_is s0 (p_R s0 v0 1) 9) <|
    some ((p_Z s0 (p_R s0 v0 1) 2), s0)
  else if v1 = 1 then
    p_gd (p_is s0 v0 10) <|
    p_gd (p_is s0 (p_R s0 v0 1) 9) <|
    p_gd (p_is s0 (p_R s0 (p_R s0 v0 1) 1) 7) <|
    some ((p_Z s0 (p_R s0 (p_R s0 v0 1) 1) 2), s0)
  else if v1 = 2 then
    p_gd (p_is s0 v0 10) <|
    p_gd (p_is s0 (p_R s0 v0 1) 9) <|
    p_gd (p_is s0 (p_R s0 (p_R s0 v0 1) 1) 7) <|
    some ((p_Z s0 (p_R s0 (p_R s0 v0 1) 1) 1), s0)
  else if v1 = 3 then
    p_gd (p_is s0 v0 10) <|
    p_gd (p_is s0 (p_R s0 v0 1) 9) <|
    p_gd (p_is s0 (p_R s0 (p_R s0 v0 1) 1) 7) <|
    p_gd (p_is s0 (p_R s0 (p_R s0 (p_R s0 v0 1) 1) 8) 2) <|
    some ((p_Z s0 (p_R s0 (p_R s0 (p_R s0 v0 1) 1) 8) 3), s0)
  else if v1 = 4 then
    p_gd (p_is s0 v0 10) <|
    p_gd (p_is s0 (p_R s0 v0 1) 9) <|
    p_gd (p_is s0 (p_R s0 (p_R s0 v0 1) 3) 6) <|
    some ((p_Z s0 (p_R s0 (p_R s0 v0 1) 3) 0), s0)
  else if v1 = 5 then
    p_gd (p_is s0 v0 10) <|
    p_gd (p_is s0 (p_R s0 v0 1) 9) <|
    p_gd (p_is s0 (p_R s0 (p_R s0 v0 1) 1) 7) <|
    some ((p_Z s0 (p_R s0 (p_R s0 v0 1) 1) 0), s0)
  else if v1 = 6 then
    p_gd (p_is s0 v0 10) <|
    p_gd (p_is s0 (p_R s0 v0 1) 9) <|
    p_gd (p_is s0 (p_R s0 (p_R s0 v0 1) 1) 7) <|
    p_gd (p_is s0 (p_R s0 (p_R s0 (p_R s0 v0 1) 1) 7) 2) <|
    some ((p_Z s0 (p_R s0 (p_R s0 (p_R s0 v0 1) 1) 7) 3), s0)
  else if v1 = 7 then
    p_gd (p_is s0 v0 10) <|
    some ((p_Z s0 v0 7), s0)
  else if v1 = 8 then
    p_gd (p_is s0 v0 10) <|
    p_gd (p_is s0 (p_R s0 v0 1) 9) <|
    some ((p_Z s0 (p_R s0 v0 1) 13), s0)
  else if v1 = 9 then
    p_gd (p_is s0 v0 10) <|
    p_gd (p_is s0 (p_R s0 v0 1) 9) <|
    some ((p_Z s0 (p_R s0 v0 1) 11), s0)
  else if v1 = 10 then
    p_gd (p_is s0 v0 10) <|
    some ((p_Z s0 v0 6), s0)
  else if v1 = 11 then
    p_gd (p_is s0 v0 10) <|
    p_gd (p_is s0 (p_R s0 v0 1) 9) <|
    some ((p_Z s0 (p_R s0 v0 1) 6), s0)
  else if v1 = 12 then
    p_gd (p_is s0 v0 10) <|
    p_gd (p_is s0 (p_R s0 v0 1) 9) <|
    some ((p_Z s0 (p_R s0 v0 1) 0), s0)
  else if v1 = 13 then
    p_gd (p_is s0 v0 10) <|
    p_gd (p_is s0 (p_R s0 v0 2) 3) <|
    some ((p_Z s0 (p_R s0 v0 2) 1), s0)
  else 
  some ((-9), s0)
set_option maxRecDepth 100000 in
set_option maxHeartbeats 4000000 in
theorem tF_SW_count (K : p_K) (l : Launch) (v0 : Nat) (v1 : Int) (s0 : p_Hp) (r : (Int × p_Hp)) (h : F_SW_count v0 v1 s0 = some r) : p_Ct K l m_SW_count [p_r v0, p_i v1] s0 (some (p_i r.1), r.2) := by
  refine p_Ct.of (by decide +kernel) (Nat.le_of_ble_eq_true rfl) ?_
  unfold F_SW_count at h
  show p_Go K l m_SW_count 0 [(0, p_r v0), (1, p_i v1)] [] s0 _
  refine g_iload_n (i := 1) (j := 1) (dk_SW_count 0 rfl) rfl rfl ?_
  rcases p_iteE h with ⟨b1, h⟩ | ⟨b1, h⟩
  · refine g_tableIn 72 (dk_SW_count 1 rfl) (by omega) (by omega) (by rw [b1]; rfl) (by decide) ?_
    refine g_aload_n (i := 0) (j := 0) (dk_SW_count 2 rfl) rfl rfl ?_
    obtain ⟨c2, h⟩ := p_gdE h
    refine g_getR fl_SW_18 (Or.inl ⟨_, rfl⟩) (dk_SW_count 3 rfl) c2 ?_
    obtain ⟨c3, h⟩ := p_gdE h
    refine g_getI fl_SW_74 (Or.inl rfl) (dk_SW_count 4 rfl) c3 ?_
    cases h
    exact g_ret rfl rfl (dk_SW_count 5 rfl) (fun os => ⟨_, rfl, p_okh os⟩)
  rcases p_iteE h with ⟨b4, h⟩ | ⟨b4, h⟩
  · refine g_tableIn 80 (dk_SW_count 1 rfl) (by omega) (by omega) (by rw [b4]; rfl) (by decide) ?_
    refine g_aload_n (i := 0) (j := 0) (dk_SW_count 6 rfl) rfl rfl ?_
    obtain ⟨c5, h⟩ := p_gdE h
    refine g_getR fl_SW_18 (Or.inl ⟨_, rfl⟩) (dk_SW_count 7 rfl) c5 ?_
    obtain ⟨c6, h⟩ := p_gdE h
    refine g_getR fl_SW_77 (Or.inl ⟨_, rfl⟩) (dk_SW_count 8 rfl) c6 ?_
    obtain ⟨c7, h⟩ := p_gdE h
    refine g_getI fl_SW_361 (Or.inl rfl) (dk_SW_count 9 rfl) c7 ?_
    cases h
    exact g_ret rfl rfl (dk_SW_count 10 rfl) (fun os => ⟨_, rfl, p_okh os⟩)
  rcases p_iteE h with ⟨b8, h⟩ | ⟨b8, h⟩
  · refine g_tableIn 91 (dk_SW_count 1 rfl) (by omega) (by omega) (by rw [b8]; rfl) (by decide) ?_
    refine g_aload_n (i := 0) (j := 0) (dk_SW_count 11 rfl) rfl rfl ?_
    obtain ⟨c9, h⟩ := p_gdE h
    refine g_getR fl_SW_18 (Or.inl ⟨_, rfl⟩) (dk_SW_count 12 rfl) c9 ?_
    obtain ⟨c10, h⟩ := p_gdE h
    refine g_getR fl_SW_77 (Or.inl ⟨_, rfl⟩) (dk_SW_count 13 rfl) c10 ?_
    obtain ⟨c11, h⟩ := p_gdE h
    refine g_getI fl_SW_364 (Or.inl rfl) (dk_SW_count 14 rfl) c11 ?_
    cases h
    exact g_ret rfl rfl (dk_SW_count 15 rfl) (fun os => ⟨_, rfl, p_okh os⟩)
  rcases p_iteE h with ⟨b12, h⟩ | ⟨b12, h⟩
  · refine g_tableIn 102 (dk_SW_count 1 rfl) (by omega) (by omega) (by rw [b12]; rfl) (by decide) ?_
    refine g_aload_n (i := 0) (j := 0) (dk_SW_count 16 rfl) rfl rfl ?_
    obtain ⟨c13, h⟩ := p_gdE h
    refine g_getR fl_SW_18 (Or.inl ⟨_, rfl⟩) (dk_SW_count 17 rfl) c13 ?_
    obtain ⟨c14, h⟩ := p_gdE h
    refine g_getR fl_SW_77 (Or.inl ⟨_, rfl⟩) (dk_SW_count 18 rfl) c14 ?_
    obtain ⟨c15, h⟩ := p_gdE h
    refine g_getR fl_SW_318 (Or.inl ⟨_, rfl⟩) (dk_SW_count 19 rfl) c15 ?_
    obtain ⟨c16, h⟩ := p_gdE h
    refine g_getI fl_SW_365 (Or.inl rfl) (dk_SW_count 20 rfl) c16 ?_
    cases h
    exact g_ret rfl rfl (dk_SW_count 21 rfl) (fun os => ⟨_, rfl, p_okh os⟩)
  rcases p_iteE h with ⟨b17, h⟩ | ⟨b17, h⟩
  · refine g_tableIn 116 (dk_SW_count 1 rfl) (by omega) (by omega) (by rw [b17]; rfl) (by decide) ?_
    refine g_aload_n (i := 0) (j := 0) (dk_SW_count 22 rfl) rfl rfl ?_
    obtain ⟨c18, h⟩ := p_gdE h
    refine g_getR fl_SW_18 (Or.inl ⟨_, rfl⟩) (dk_SW_count 23 rfl) c18 ?_
    obtain ⟨c19, h⟩ := p_gdE h
    refine g_getR fl_SW_161 (Or.inl ⟨_, rfl⟩) (dk_SW_count 24 rfl) c19 ?_
    obtain ⟨c20, h⟩ := p_gdE h
    refine g_getI fl_SW_162 (Or.inl rfl) (dk_SW_count 25 rfl) c20 ?_
    cases h
    exact g_ret rfl rfl (dk_SW_count 26 rfl) (fun os => ⟨_, rfl, p_okh os⟩)
  rcases p_iteE h with ⟨b21, h⟩ | ⟨b21, h⟩
  · refine g_tableIn 127 (dk_SW_count 1 rfl) (by omega) (by omega) (by rw [b21]; rfl) (by decide) ?_
    refine g_aload_n (i := 0) (j := 0) (dk_SW_count 27 rfl) rfl rfl ?_
    obtain ⟨c22, h⟩ := p_gdE h
    refine g_getR fl_SW_18 (Or.inl ⟨_, rfl⟩) (dk_SW_count 28 rfl) c22 ?_
    obtain ⟨c23, h⟩ := p_gdE h
    refine g_getR fl_SW_77 (Or.inl ⟨_, rfl⟩) (dk_SW_count 29 rfl) c23 ?_
    obtain ⟨c24, h⟩ := p_gdE h
    refine g_getI fl_SW_277 (Or.inl rfl) (dk_SW_count 30 rfl) c24 ?_
    cases h
    exact g_ret rfl rfl (dk_SW_count 31 rfl) (fun os => ⟨_, rfl, p_okh os⟩)
  rcases p_iteE h with ⟨b25, h⟩ | ⟨b25, h⟩
  · refine g_tableIn 138 (dk_SW_count 1 rfl) (by omega) (by omega) (by rw [b25]; rfl) (by decide) ?_
    refine g_aload_n (i := 0) (j := 0) (dk_SW_count 32 rfl) rfl rfl ?_
    obtain ⟨c26, h⟩ := p_gdE h
    refine g_getR fl_SW_18 (Or.inl ⟨_, rfl⟩) (dk_SW_count 33 rfl) c26 ?_
    obtain ⟨c27, h⟩ := p_gdE h
    refine g_getR fl_SW_77 (Or.inl ⟨_, rfl⟩) (dk_SW_count 34 rfl) c27 ?_
    obtain ⟨c28, h⟩ := p_gdE h
    refine g_getR fl_SW_342 (Or.inl ⟨_, rfl⟩) (dk_SW_count 35 rfl) c28 ?_
    obtain ⟨c29, h⟩ := p_gdE h
    refine g_getI fl_SW_365 (Or.inl rfl) (dk_SW_count 36 rfl) c29 ?_
    cases h
    exact g_ret rfl rfl (dk_SW_count 37 rfl) (fun os => ⟨_, rfl, p_okh os⟩)
  rcases p_iteE h with ⟨b30, h⟩ | ⟨b30, h⟩
  · refine g_tableIn 152 (dk_SW_count 1 rfl) (by omega) (by omega) (by rw [b30]; rfl) (by decide) ?_
    refine g_aload_n (i := 0) (j := 0) (dk_SW_count 38 rfl) rfl rfl ?_
    obtain ⟨c31, h⟩ := p_gdE h
    refine g_getI fl_SW_47 (Or.inl rfl) (dk_SW_count 39 rfl) c31 ?_
    cases h
    exact g_ret rfl rfl (dk_SW_count 40 rfl) (fun os => ⟨_, rfl, p_okh os⟩)
  rcases p_iteE h with ⟨b32, h⟩ | ⟨b32, h⟩
  · refine g_tableIn 157 (dk_SW_count 1 rfl) (by omega) (by omega) (by rw [b32]; rfl) (by decide) ?_
    refine g_aload_n (i := 0) (j := 0) (dk_SW_count 41 rfl) rfl rfl ?_
    obtain ⟨c33, h⟩ := p_gdE h
    refine g_getR fl_SW_18 (Or.inl ⟨_, rfl⟩) (dk_SW_count 42 rfl) c33 ?_
    obtain ⟨c34, h⟩ := p_gdE h
    refine g_getI fl_SW_291 (Or.inl rfl) (dk_SW_count 43 rfl) c34 ?_
    cases h
    exact g_ret rfl rfl (dk_SW_count 44 rfl) (fun os => ⟨_, rfl, p_okh os⟩)
  rcases p_iteE h with ⟨b35, h⟩ | ⟨b35, h⟩
  · refine g_tableIn 165 (dk_SW_count 1 rfl) (by omega) (by omega) (by rw [b35]; rfl) (by decide) ?_
    refine g_aload_n (i := 0) (j := 0) (dk_SW_count 45 rfl) rfl rfl ?_
    obtain ⟨c36, h⟩ := p_gdE h
    refine g_getR fl_SW_18 (Or.inl ⟨_, rfl⟩) (dk_SW_count 46 rfl) c36 ?_
    obtain ⟨c37, h⟩ := p_gdE h
    refine g_getI fl_SW_345 (Or.inl rfl) (dk_SW_count 47 rfl) c37 ?_
    cases h
    exact g_ret rfl rfl (dk_SW_count 48 rfl) (fun os => ⟨_, rfl, p_okh os⟩)
  rcases p_iteE h with ⟨b38, h⟩ | ⟨b38, h⟩
  · refine g_tableIn 173 (dk_SW_count 1 rfl) (by omega) (by omega) (by rw [b38]; rfl) (by decide) ?_
    refine g_aload_n (i := 0) (j := 0) (dk_SW_count 49 rfl) rfl rfl ?_
    obtain ⟨c39, h⟩ := p_gdE h
    refine g_getI fl_SW_146 (Or.inl rfl) (dk_SW_count 50 rfl) c39 ?_
    cases h
    exact g_ret rfl rfl (dk_SW_count 51 rfl) (fun os => ⟨_, rfl, p_okh os⟩)
  rcases p_iteE h with ⟨b40, h⟩ | ⟨b40, h⟩
  · refine g_tableIn 178 (dk_SW_count 1 rfl) (by omega) (by omega) (by rw [b40]; rfl) (by decide) ?_
    refine g_aload_n (i := 0) (j := 0) (dk_SW_count 52 rfl) rfl rfl ?_
    obtain ⟨c41, h⟩ := p_gdE h
    refine g_getR fl_SW_18 (Or.inl ⟨_, rfl⟩) (dk_SW_count 53 rfl) c41 ?_
    obtain ⟨c42, h⟩ := p_gdE h
    refine g_getI fl_SW_167 (Or.inl rfl) (dk_SW_count 54 rfl) c42 ?_
    cases h
    exact g_ret rfl rfl (dk_SW_count 55 rfl) (fun os => ⟨_, rfl, p_okh os⟩)
  rcases p_iteE h with ⟨b43, h⟩ | ⟨b43, h⟩
  · refine g_tableIn 186 (dk_SW_count 1 rfl) (by omega) (by omega) (by rw [b43]; rfl) (by decide) ?_
    refine g_aload_n (i := 0) (j := 0) (dk_SW_count 56 rfl) rfl rfl ?_
    obtain ⟨c44, h⟩ := p_gdE h
    refine g_getR fl_SW_18 (Or.inl ⟨_, rfl⟩) (dk_SW_count 57 rfl) c44 ?_
    obtain ⟨c45, h⟩ := p_gdE h
    refine g_getI fl_SW_64 (Or.inl rfl) (dk_SW_count 58 rfl) c45 ?_
    cases h
    exact g_ret rfl rfl (dk_SW_count 59 rfl) (fun os => ⟨_, rfl, p_okh os⟩)
  rcases p_iteE h with ⟨b46, h⟩ | ⟨b46, h⟩
  · refine g_tableIn 194 (dk_SW_count 1 rfl) (by omega) (by omega) (by rw [b46]; rfl) (by decide) ?_
    refine g_aload_n (i := 0) (j := 0) (dk_SW_count 60 rfl) rfl rfl ?_
    obtain ⟨c47, h⟩ := p_gdE h
    refine g_getR fl_SW_25 (Or.inl ⟨_, rfl⟩) (dk_SW_count 61 rfl) c47 ?_
    obtain ⟨c48, h⟩ := p_gdE h
    refine g_getI fl_SW_197 (Or.inl rfl) (dk_SW_count 62 rfl) c48 ?_
    cases h
    exact g_ret rfl rfl (dk_SW_count 63 rfl) (fun os => ⟨_, rfl, p_okh os⟩)
  refine g_tableOut 202 (dk_SW_count 1 rfl) (by omega) (by decide) ?_
  refine g_bipush (dk_SW_count 64 rfl) (by decide +kernel) (by decide) ?_
  cases h
  exact g_ret rfl rfl (dk_SW_count 65 rfl) (fun os => ⟨_, rfl, p_okh os⟩)
def m_SW_mixed : p_Me := (⟨"SortWorks", "mixed", "(JI)J"⟩, prog_1_method_55_code, 3, (some .long), 0, 0)
theorem mt_SW_mixed : p_Mt m_SW_mixed 2 := ⟨p_mem (p_tb6 (List.mem_of_getElem? (i := 12) rfl)) rfl, tw_1_1, by decide +kernel, by decide +kernel, by decide +kernel⟩
def dt_SW_mixed : List (Nat × Instr × Nat) := [(0, .ldc2_w 376, 3), (3, .lload_n 0, 1), (4, .lmul, 1), (5, .iload_n 2, 1), (6, .i2l, 1), (7, .ladd, 1), (8, .lreturn, 1)]
theorem dk_SW_mixed (i : Nat) {pc : Nat} {ins : Instr} {len : Nat} (h : dt_SW_mixed[i]? = some (pc, ins, len)) : decode m_SW_mixed.2.1 pc = .ok (ins, len) := p_dk (b := m_SW_mixed.2.1) (t := dt_SW_mixed) (by decide +kernel) i h
def F_SW_mixed (v0 : Int) (v2 : Int) (s0 : p_Hp) : Option (Int × p_Hp) :=
  some ((p_w6 ((p_w6 (31 * v0)) + v2)), s0)
set_option maxRecDepth 100000 in
set_option maxHeartbeats 4000000 in
theorem tF_SW_mixed (K : p_K) (l : Launch) (v0 : Int) (v2 : Int) (s0 : p_Hp) (r : (Int × p_Hp)) (h : F_SW_mixed v0 v2 s0 = some r) : p_Ct K l m_SW_mixed [p_j v0, p_i v2] s0 (some (p_j r.1), r.2) := by
  refine p_Ct.of (by decide +kernel) (Nat.le_of_ble_eq_true rfl) ?_
  unfold F_SW_mixed at h
  show p_Go K l m_SW_mixed 0 [(0, p_j v0), (2, p_i v2)] [] s0 _
  refine g_ldc2_w (x := 31) (dk_SW_mixed 0 rfl) tw_6_13 (by decide) (by decide) ?_
  refine g_lload_n (i := 0) (j := 0) (dk_SW_mixed 1 rfl) rfl rfl ?_
  refine g_lmul (dk_SW_mixed 2 rfl) ?_
  refine g_iload_n (i := 2) (j := 1) (dk_SW_mixed 3 rfl) rfl rfl ?_
  refine g_i2l (dk_SW_mixed 4 rfl) ?_
  refine g_ladd (dk_SW_mixed 5 rfl) ?_
  cases h
  exact g_ret rfl rfl (dk_SW_mixed 6 rfl) (fun os => ⟨_, rfl, p_okh os⟩)
def m_SW_mixedGear : p_Me := (⟨"SortWorks", "mixedGear", "(JLSortWorks$Gear;)J"⟩, prog_1_method_56_code, 8, (some .long), 2, 43)
theorem mt_SW_mixedGear : p_Mt m_SW_mixedGear 2 := ⟨p_mem (p_tb6 (List.mem_of_getElem? (i := 17) rfl)) rfl, tw_1_1, by decide +kernel, by decide +kernel, by decide +kernel⟩
def dt_SW_mixedGear : List (Nat × Instr × Nat) := [(0, .lload_n 1, 1), (1, .aload_n 3, 1), (2, .getfield 139, 3), (5, .invokestatic 368, 3), (8, .lstore 4, 2), (10, .iconst 2, 1), (11, .istore 6, 2), (13, .iload 6, 2), (15, .bipush 14, 2), (17, .if_icmp .gt 22, 3), (20, .lload 4, 2), (22, .aload_n 3, 1), (23, .iload 6, 2), (25, .invokevirtual 301, 3), (28, .invokestatic 368, 3), (31, .lstore 4, 2), (33, .iinc 6 1, 3), (36, .goto (-23), 3), (39, .iconst 0, 1), (40, .istore 6, 2), (42, .iload 6, 2), (44, .aload_n 3, 1), (45, .getfield 92, 3), (48, .if_icmp .ge 67, 3), (51, .aload_n 0, 1), (52, .getfield 18, 3), (55, .getfield 77, 3), (58, .aload_n 3, 1), (59, .iload 6, 2), (61, .invokevirtual 304, 3), (64, .astore 7, 2), (66, .aload 7, 2), (68, .ifnonnull 12, 3), (71, .lload 4, 2), (73, .iconst 0, 1), (74, .invokestatic 368, 3), (77, .goto 30, 3), (80, .lload 4, 2), (82, .bipush 16, 2), (84, .aload 7, 2), (86, .getfield 378, 3), (89, .imul, 1), (90, .aload 7, 2), (92, .getfield 381, 3), (95, .iadd, 1), (96, .invokestatic 368, 3), (99, .aload 7, 2), (101, .getfield 241, 3), (104, .invokestatic 368, 3), (107, .lstore 4, 2), (109, .iinc 6 1, 3), (112, .goto (-70), 3), (115, .lload 4, 2), (117, .lreturn, 1)]
theorem dk_SW_mixedGear (i : Nat) {pc : Nat} {ins : Instr} {len : Nat} (h : dt_SW_mixedGear[i]? = some (pc, ins, len)) : decode m_SW_mixedGear.2.1 pc = .ok (ins, len) := p_dk (b := m_SW_mixedGear.2.1) (t := dt_SW_mixedGear) (by decide +kernel) i h
def B_SW_mixedGear_107 (k42 : Nat → Nat → Int → Int → p_Hp → Option (Int × p_Hp)) (v0 : Nat) (v3 : Nat) (v6 : Int) (w0 : Int) (s0 : p_Hp) : Option (Int × p_Hp) :=
  p_bi (p_w (v6 + 1)) fun x1 =>
  k42 v0 v3 w0 x1 s0
def L_SW_mixedGear_42 (k42 : Nat → Nat → Int → Int → p_Hp → Option (Int × p_Hp)) (v0 : Nat) (v3 : Nat) (v4 : Int) (v6 : Int) (s0 : p_Hp) : Option (Int × p_Hp) :=
  p_gd (p_is s0 v3 0) <|
  if (p_Z s0 v3 1) ≤ v6 then
    some (v4, s0)
  else
    p_gd (p_is s0 v0 10) <|
    p_gd (p_is s0 (p_R s0 v0 1) 9) <|
    p_gd (p_is s0 (p_R s0 (p_R s0 v0 1) 1) 7) <|
    p_bd (F_State_inSlot (p_R s0 (p_R s0 v0 1) 1) v3 v6 s0) fun r10 s6 =>
    if r10 ≠ 0 then
      p_gd (p_is s6 r10 4) <|
      p_bd (F_SW_mixed v4 (p_w ((p_w (16 * (p_Z s6 r10 2))) + (p_Z s6 r10 3))) s6) fun r17 s13 =>
      p_bd (F_SW_mixed r17 (p_Z s13 r10 4) s13) fun r22 s18 =>
      B_SW_mixedGear_107 k42 v0 v3 v6 r22 s18
    else
      p_bd (F_SW_mixed v4 0 s6) fun r27 s23 =>
      B_SW_mixedGear_107 k42 v0 v3 v6 r27 s23
def O_SW_mixedGear_42  : Nat → Nat → Nat → Int → Int → p_Hp → Option (Int × p_Hp)
  | 0 => fun _ _ _ _ _ => none
  | n + 1 => L_SW_mixedGear_42 (O_SW_mixedGear_42 n)
def L_SW_mixedGear_13 (k13 : Nat → Nat → Int → Int → p_Hp → Option (Int × p_Hp)) (v0 : Nat) (v3 : Nat) (v4 : Int) (v6 : Int) (s0 : p_Hp) : Option (Int × p_Hp) :=
  if 14 < v6 then
    O_SW_mixedGear_42 3000 v0 v3 v4 0 s0
  else
    p_gd (p_is s0 v3 0) <|
    p_bd (F_Gear_tell v3 v6 s0) fun r7 s3 =>
    p_bd (F_SW_mixed v4 r7 s3) fun r12 s8 =>
    p_bi (p_w (v6 + 1)) fun x13 =>
    k13 v0 v3 r12 x13 s8
def O_SW_mixedGear_13  : Nat → Nat → Nat → Int → Int → p_Hp → Option (Int × p_Hp)
  | 0 => fun _ _ _ _ _ => none
  | n + 1 => L_SW_mixedGear_13 (O_SW_mixedGear_13 n)
def F_SW_mixedGear (v0 : Nat) (v1 : Int) (v3 : Nat) (s0 : p_Hp) : Option (Int × p_Hp) :=
  p_gd (p_is s0 v3 0) <|
  p_bd (F_SW_mixed v1 (p_Z s0 v3 0) s0) fun r6 s2 =>
  O_SW_mixedGear_13 3000 v0 v3 r6 2 s2
set_option maxRecDepth 100000 in
set_option maxHeartbeats 4000000 in
theorem tB_SW_mixedGear_107 (K : p_K) (l : Launch) (k42 : Nat → Nat → Int → Int → p_Hp → Option (Int × p_Hp)) (hk42 : ∀ (v0 : Nat) (v3 : Nat) (v4 : Int) (v6 : Int)  (s0 : p_Hp) (r : (Int × p_Hp)), k42 v0 v3 v4 v6 s0 = some r → p_Go K l m_SW_mixedGear 42 [(0, p_r v0), (3, p_r v3), (4, p_j v4), (6, p_i v6)] [] s0 (some (p_j r.1), r.2)) (v0 : Nat) (v3 : Nat) (v6 : Int) (w0 : Int) (s0 : p_Hp) (r : (Int × p_Hp)) (h : B_SW_mixedGear_107 k42 v0 v3 v6 w0 s0 = some r) : p_Go K l m_SW_mixedGear 107 [(0, p_r v0), (3, p_r v3), (6, p_i v6)] [p_j w0] s0 (some (p_j r.1), r.2) := by
  unfold B_SW_mixedGear_107 at h
  refine g_lstore [(4, p_j w0), (0, p_r v0), (3, p_r v3), (6, p_i v6)] (dk_SW_mixedGear 49 rfl) (by decide) rfl ?_
  refine g_iinc (j := 3) [(6, p_i (p_w (v6 + 1))), (4, p_j w0), (0, p_r v0), (3, p_r v3)] (dk_SW_mixedGear 50 rfl) rfl (by decide) rfl ?_
  refine p_ltG (P := fun q => p_Go K l m_SW_mixedGear 112 [(6, p_i q), (4, p_j w0), (0, p_r v0), (3, p_r v3)] [] s0 _) ?_ h
  intro x1 h
  refine g_goto 42 (dk_SW_mixedGear 51 rfl) (by decide) ?_
  refine g_sub [(0, p_r v0), (3, p_r v3), (4, p_j w0), (6, p_i x1)] [2, 3, 1, 0] rfl ?_
  exact hk42 v0 v3 w0 x1 s0 _ h
set_option maxRecDepth 100000 in
set_option maxHeartbeats 4000000 in
theorem tL_SW_mixedGear_42 (K : p_K) (l : Launch) (k42 : Nat → Nat → Int → Int → p_Hp → Option (Int × p_Hp)) (hk42 : ∀ (v0 : Nat) (v3 : Nat) (v4 : Int) (v6 : Int)  (s0 : p_Hp) (r : (Int × p_Hp)), k42 v0 v3 v4 v6 s0 = some r → p_Go K l m_SW_mixedGear 42 [(0, p_r v0), (3, p_r v3), (4, p_j v4), (6, p_i v6)] [] s0 (some (p_j r.1), r.2)) (v0 : Nat) (v3 : Nat) (v4 : Int) (v6 : Int) (s0 : p_Hp) (r : (Int × p_Hp)) (h : L_SW_mixedGear_42 k42 v0 v3 v4 v6 s0 = some r) : p_Go K l m_SW_mixedGear 42 [(0, p_r v0), (3, p_r v3), (4, p_j v4), (6, p_i v6)] [] s0 (some (p_j r.1), r.2) := by
  unfold L_SW_mixedGear_42 at h
  refine g_iload (j := 3) (dk_SW_mixedGear 20 rfl) rfl ?_
  refine g_aload_n (i := 3) (j := 1) (dk_SW_mixedGear 21 rfl) rfl rfl ?_
  obtain ⟨c1, h⟩ := p_gdE h
  refine g_getI fl_SW_92 (Or.inl rfl) (dk_SW_mixedGear 22 rfl) c1 ?_
  refine g_icmp_ge 115 (dk_SW_mixedGear 23 rfl) (by decide) (fun b2 => ?_) (fun b2 => ?_)
  · have h := p_ifT b2 h
    refine g_lload (j := 2) (dk_SW_mixedGear 52 rfl) rfl ?_
    cases h
    exact g_ret rfl rfl (dk_SW_mixedGear 53 rfl) (fun os => ⟨_, rfl, p_okh os⟩)
  · have h := p_ifF b2 h
    refine g_aload_n (i := 0) (j := 0) (dk_SW_mixedGear 24 rfl) rfl rfl ?_
    obtain ⟨c3, h⟩ := p_gdE h
    refine g_getR fl_SW_18 (Or.inl ⟨_, rfl⟩) (dk_SW_mixedGear 25 rfl) c3 ?_
    obtain ⟨c4, h⟩ := p_gdE h
    refine g_getR fl_SW_77 (Or.inl ⟨_, rfl⟩) (dk_SW_mixedGear 26 rfl) c4 ?_
    refine g_aload_n (i := 3) (j := 1) (dk_SW_mixedGear 27 rfl) rfl rfl ?_
    refine g_iload (j := 3) (dk_SW_mixedGear 28 rfl) rfl ?_
    obtain ⟨c5, h⟩ := p_gdE h
    obtain ⟨r10, s6, q7, h⟩ := p_bdE h
    have t8 := tF_State_inSlot K l (p_R s0 (p_R s0 v0 1) 1) v3 v6 s0 _ q7
    refine g_callV (a := (p_R s0 (p_R s0 v0 1) 1)) (ci := 7) (q0 := (RX7, TX7, 10)) (As := [p_r v3, p_i v6]) (rest := []) [p_r r10] mt_State_inSlot rfl rfl tw_4_70 tw_4_71 tw_5_150 ⟨Nat.le_of_ble_eq_true rfl, Nat.le_of_ble_eq_true rfl⟩ rfl (Nat.le_of_ble_eq_true rfl) (dk_SW_mixedGear 29 rfl) rfl c5 rfl t8 ?_
    have hs9 : p_x s0 s6 := t8.1
    show p_Go K l m_SW_mixedGear 64 [(0, p_r v0), (3, p_r v3), (4, p_j v4), (6, p_i v6)] [p_r r10] s6 _
    refine g_astore [(7, p_r r10), (0, p_r v0), (3, p_r v3), (4, p_j v4), (6, p_i v6)] (dk_SW_mixedGear 30 rfl) (by decide) rfl ?_
    refine g_aload (j := 0) (dk_SW_mixedGear 31 rfl) rfl ?_
    refine g_ifnonnull 80 (dk_SW_mixedGear 32 rfl) (by decide) (fun b11 => ?_) (fun b11 => ?_)
    · have h := p_ifT b11 h
      refine g_lload (j := 3) (dk_SW_mixedGear 37 rfl) rfl ?_
      refine g_bipush (dk_SW_mixedGear 38 rfl) (by decide +kernel) (by decide) ?_
      refine g_aload (j := 0) (dk_SW_mixedGear 39 rfl) rfl ?_
      obtain ⟨c12, h⟩ := p_gdE h
      refine g_getI fl_SW_378 (Or.inl rfl) (dk_SW_mixedGear 40 rfl) c12 ?_
      refine g_imul (dk_SW_mixedGear 41 rfl) ?_
      refine g_aload (j := 0) (dk_SW_mixedGear 42 rfl) rfl ?_
      refine g_getI fl_SW_381 (Or.inl rfl) (dk_SW_mixedGear 43 rfl) c12 ?_
      refine g_iadd (dk_SW_mixedGear 44 rfl) ?_
      obtain ⟨r17, s13, q14, h⟩ := p_bdE h
      have t15 := tF_SW_mixed K l v4 (p_w ((p_w (16 * (p_Z s6 r10 2))) + (p_Z s6 r10 3))) s6 _ q14
      refine g_callS (av := [p_j v4, p_i (p_w ((p_w (16 * (p_Z s6 r10 2))) + (p_Z s6 r10 3)))]) (rest := []) [p_j r17] mt_SW_mixed tw_6_11 tw_6_10 ⟨Nat.le_of_ble_eq_true rfl, Nat.le_of_ble_eq_true rfl⟩ rfl (Nat.le_of_ble_eq_true rfl) (dk_SW_mixedGear 45 rfl) rfl rfl t15 ?_
      have hs16 : p_x s6 s13 := t15.1
      show p_Go K l m_SW_mixedGear 99 [(7, p_r r10), (0, p_r v0), (3, p_r v3), (4, p_j v4), (6, p_i v6)] [p_j r17] s13 _
      refine g_aload (j := 0) (dk_SW_mixedGear 46 rfl) rfl ?_
      refine g_getI fl_SW_241 (Or.inl rfl) (dk_SW_mixedGear 47 rfl) (c12.up hs16) ?_
      obtain ⟨r22, s18, q19, h⟩ := p_bdE h
      have t20 := tF_SW_mixed K l r17 (p_Z s13 r10 4) s13 _ q19
      refine g_callS (av := [p_j r17, p_i (p_Z s13 r10 4)]) (rest := []) [p_j r22] mt_SW_mixed tw_6_11 tw_6_10 ⟨Nat.le_of_ble_eq_true rfl, Nat.le_of_ble_eq_true rfl⟩ rfl (Nat.le_of_ble_eq_true rfl) (dk_SW_mixedGear 48 rfl) rfl rfl t20 ?_
      have hs21 : p_x s13 s18 := t20.1
      show p_Go K l m_SW_mixedGear 107 [(7, p_r r10), (0, p_r v0), (3, p_r v3), (4, p_j v4), (6, p_i v6)] [p_j r22] s18 _
      refine g_sub [(0, p_r v0), (3, p_r v3), (6, p_i v6)] [1, 2, 4] rfl ?_
      exact tB_SW_mixedGear_107 K l k42 hk42 v0 v3 v6 r22 s18 _ h
    · have h := p_ifF b11 h
      refine g_lload (j := 3) (dk_SW_mixedGear 33 rfl) rfl ?_
      refine g_iconst (dk_SW_mixedGear 34 rfl) (by decide) ?_
      obtain ⟨r27, s23, q24, h⟩ := p_bdE h
      have t25 := tF_SW_mixed K l v4 0 s6 _ q24
      refine g_callS (av := [p_j v4, p_i 0]) (rest := []) [p_j r27] mt_SW_mixed tw_6_11 tw_6_10 ⟨Nat.le_of_ble_eq_true rfl, Nat.le_of_ble_eq_true rfl⟩ rfl (Nat.le_of_ble_eq_true rfl) (dk_SW_mixedGear 35 rfl) rfl rfl t25 ?_
      have hs26 : p_x s6 s23 := t25.1
      show p_Go K l m_SW_mixedGear 77 [(7, p_r r10), (0, p_r v0), (3, p_r v3), (4, p_j v4), (6, p_i v6)] [p_j r27] s23 _
      refine g_goto 107 (dk_SW_mixedGear 36 rfl) (by decide) ?_
      refine g_sub [(0, p_r v0), (3, p_r v3), (6, p_i v6)] [1, 2, 4] rfl ?_
      exact tB_SW_mixedGear_107 K l k42 hk42 v0 v3 v6 r27 s23 _ h
set_option maxRecDepth 100000 in
set_option maxHeartbeats 4000000 in
theorem tO_SW_mixedGear_42 (K : p_K) (l : Launch)  : ∀ (n : Nat) (v0 : Nat) (v3 : Nat) (v4 : Int) (v6 : Int) (s0 : p_Hp) (r : (Int × p_Hp)), O_SW_mixedGear_42 n v0 v3 v4 v6 s0 = some r → p_Go K l m_SW_mixedGear 42 [(0, p_r v0), (3, p_r v3), (4, p_j v4), (6, p_i v6)] [] s0 (some (p_j r.1), r.2) := by
  intro n
  induction n with
  | zero => intro v0 v3 v4 v6 s0 r h; cases (show (none : Option (Int × p_Hp)) = some r from h)
  | succ n ih => intro v0 v3 v4 v6 s0 r h; exact tL_SW_mixedGear_42 K l _ ih v0 v3 v4 v6 s0 r h
set_option maxRecDepth 100000 in
set_option maxHeartbeats 4000000 in
theorem tL_SW_mixedGear_13 (K : p_K) (l : Launch) (k13 : Nat → Nat → Int → Int → p_Hp → Option (Int × p_Hp)) (hk13 : ∀ (v0 : Nat) (v3 : Nat) (v4 : Int) (v6 : Int)  (s0 : p_Hp) (r : (Int × p_Hp)), k13 v0 v3 v4 v6 s0 = some r → p_Go K l m_SW_mixedGear 13 [(0, p_r v0), (3, p_r v3), (4, p_j v4), (6, p_i v6)] [] s0 (some (p_j r.1), r.2)) (v0 : Nat) (v3 : Nat) (v4 : Int) (v6 : Int) (s0 : p_Hp) (r : (Int × p_Hp)) (h : L_SW_mixedGear_13 k13 v0 v3 v4 v6 s0 = some r) : p_Go K l m_SW_mixedGear 13 [(0, p_r v0), (3, p_r v3), (4, p_j v4), (6, p_i v6)] [] s0 (some (p_j r.1), r.2) := by
  unfold L_SW_mixedGear_13 at h
  refine g_iload (j := 3) (dk_SW_mixedGear 7 rfl) rfl ?_
  refine g_bipush (dk_SW_mixedGear 8 rfl) (by decide +kernel) (by decide) ?_
  refine g_icmp_gt 39 (dk_SW_mixedGear 9 rfl) (by decide) (fun b1 => ?_) (fun b1 => ?_)
  · have h := p_ifT b1 h
    refine g_iconst (dk_SW_mixedGear 18 rfl) (by decide) ?_
    refine g_istore [(6, p_i 0), (0, p_r v0), (3, p_r v3), (4, p_j v4)] (dk_SW_mixedGear 19 rfl) (by decide) rfl ?_
    refine g_sub [(0, p_r v0), (3, p_r v3), (4, p_j v4), (6, p_i 0)] [1, 2, 3, 0] rfl ?_
    exact tO_SW_mixedGear_42 K l 3000 v0 v3 v4 0 s0 _ h
  · have h := p_ifF b1 h
    refine g_lload (j := 2) (dk_SW_mixedGear 10 rfl) rfl ?_
    refine g_aload_n (i := 3) (j := 1) (dk_SW_mixedGear 11 rfl) rfl rfl ?_
    refine g_iload (j := 3) (dk_SW_mixedGear 12 rfl) rfl ?_
    obtain ⟨c2, h⟩ := p_gdE h
    obtain ⟨r7, s3, q4, h⟩ := p_bdE h
    have t5 := tF_Gear_tell K l v3 v6 s0 _ q4
    refine g_callV (a := v3) (ci := 0) (q0 := (RX0, TX0, 20)) (As := [p_i v6]) (rest := [p_j v4]) [p_i r7, p_j v4] mt_Gear_tell rfl rfl tw_5_141 tw_5_142 tw_5_140 ⟨Nat.le_of_ble_eq_true rfl, Nat.le_of_ble_eq_true rfl⟩ rfl (Nat.le_of_ble_eq_true rfl) (dk_SW_mixedGear 13 rfl) rfl c2 rfl t5 ?_
    have hs6 : p_x s0 s3 := t5.1
    show p_Go K l m_SW_mixedGear 28 [(0, p_r v0), (3, p_r v3), (4, p_j v4), (6, p_i v6)] [p_i r7, p_j v4] s3 _
    obtain ⟨r12, s8, q9, h⟩ := p_bdE h
    have t10 := tF_SW_mixed K l v4 r7 s3 _ q9
    refine g_callS (av := [p_j v4, p_i r7]) (rest := []) [p_j r12] mt_SW_mixed tw_6_11 tw_6_10 ⟨Nat.le_of_ble_eq_true rfl, Nat.le_of_ble_eq_true rfl⟩ rfl (Nat.le_of_ble_eq_true rfl) (dk_SW_mixedGear 14 rfl) rfl rfl t10 ?_
    have hs11 : p_x s3 s8 := t10.1
    show p_Go K l m_SW_mixedGear 31 [(0, p_r v0), (3, p_r v3), (4, p_j v4), (6, p_i v6)] [p_j r12] s8 _
    refine g_lstore [(4, p_j r12), (0, p_r v0), (3, p_r v3), (6, p_i v6)] (dk_SW_mixedGear 15 rfl) (by decide) rfl ?_
    refine g_iinc (j := 3) [(6, p_i (p_w (v6 + 1))), (4, p_j r12), (0, p_r v0), (3, p_r v3)] (dk_SW_mixedGear 16 rfl) rfl (by decide) rfl ?_
    refine p_ltG (P := fun q => p_Go K l m_SW_mixedGear 36 [(6, p_i q), (4, p_j r12), (0, p_r v0), (3, p_r v3)] [] s8 _) ?_ h
    intro x13 h
    refine g_goto 13 (dk_SW_mixedGear 17 rfl) (by decide) ?_
    refine g_sub [(0, p_r v0), (3, p_r v3), (4, p_j r12), (6, p_i x13)] [2, 3, 1, 0] rfl ?_
    exact hk13 v0 v3 r12 x13 s8 _ h
set_option maxRecDepth 100000 in
set_option maxHeartbeats 4000000 in
theorem tO_SW_mixedGear_13 (K : p_K) (l : Launch)  : ∀ (n : Nat) (v0 : Nat) (v3 : Nat) (v4 : Int) (v6 : Int) (s0 : p_Hp) (r : (Int × p_Hp)), O_SW_mixedGear_13 n v0 v3 v4 v6 s0 = some r → p_Go K l m_SW_mixedGear 13 [(0, p_r v0), (3, p_r v3), (4, p_j v4), (6, p_i v6)] [] s0 (some (p_j r.1), r.2) := by
  intro n
  induction n with
  | zero => intro v0 v3 v4 v6 s0 r h; cases (show (none : Option (Int × p_Hp)) = some r from h)
  | succ n ih => intro v0 v3 v4 v6 s0 r h; exact tL_SW_mixedGear_13 K l _ ih v0 v3 v4 v6 s0 r h
set_option maxRecDepth 100000 in
set_option maxHeartbeats 4000000 in
theorem tF_SW_mixedGear (K : p_K) (l : Launch) (v0 : Nat) (v1 : Int) (v3 : Nat) (s0 : p_Hp) (r : (Int × p_Hp)) (h : F_SW_mixedGear v0 v1 v3 s0 = some r) : p_Ct K l m_SW_mixedGear [p_r v0, p_j v1, p_r v3] s0 (some (p_j r.1), r.2) := by
  refine p_Ct.of (by decide +kernel) (Nat.le_of_ble_eq_true rfl) ?_
  unfold F_SW_mixedGear at h
  show p_Go K l m_SW_mixedGear 0 [(0, p_r v0), (1, p_j v1), (3, p_r v3)] [] s0 _
  refine g_lload_n (i := 1) (j := 1) (dk_SW_mixedGear 0 rfl) rfl rfl ?_
  refine g_aload_n (i := 3) (j := 2) (dk_SW_mixedGear 1 rfl) rfl rfl ?_
  obtain ⟨c1, h⟩ := p_gdE h
  refine g_getI fl_SW_139 (Or.inl rfl) (dk_SW_mixedGear 2 rfl) c1 ?_
  obtain ⟨r6, s2, q3, h⟩ := p_bdE h
  have t4 := tF_SW_mixed K l v1 (p_Z s0 v3 0) s0 _ q3
  refine g_callS (av := [p_j v1, p_i (p_Z s0 v3 0)]) (rest := []) [p_j r6] mt_SW_mixed tw_6_11 tw_6_10 ⟨Nat.le_of_ble_eq_true rfl, Nat.le_of_ble_eq_true rfl⟩ rfl (Nat.le_of_ble_eq_true rfl) (dk_SW_mixedGear 3 rfl) rfl rfl t4 ?_
  have hs5 : p_x s0 s2 := t4.1
  show p_Go K l m_SW_mixedGear 8 [(0, p_r v0), (1, p_j v1), (3, p_r v3)] [p_j r6] s2 _
  refine g_lstore [(4, p_j r6), (0, p_r v0), (1, p_j v1), (3, p_r v3)] (dk_SW_mixedGear 4 rfl) (by decide) rfl ?_
  refine g_iconst (dk_SW_mixedGear 5 rfl) (by decide) ?_
  refine g_istore [(6, p_i 2), (4, p_j r6), (0, p_r v0), (1, p_j v1), (3, p_r v3)] (dk_SW_mixedGear 6 rfl) (by decide) rfl ?_
  refine g_sub [(0, p_r v0), (3, p_r v3), (4, p_j r6), (6, p_i 2)] [2, 4, 1, 0] rfl ?_
  exact tO_SW_mixedGear_13 K l 3000 v0 v3 r6 2 s2 _ h
def m_SW_digest : p_Me := (⟨"SortWorks", "digest", "()J"⟩, prog_1_method_54_code, 5, (some .long), 3, 70)
theorem mt_SW_digest : p_Mt m_SW_digest 0 := ⟨p_mem (p_tb6 (List.mem_of_getElem? (i := 8) rfl)) rfl, tw_1_1, by decide +kernel, by decide +kernel, by decide +kernel⟩
def dt_SW_digest : List (Nat × Instr × Nat) := [(0, .aload_n 0, 1), (1, .getfield 18, 3), (4, .getfield 77, 3), (7, .astore_n 1, 1), (8, .ldc2_w 366, 3), (11, .aload_n 1, 1), (12, .getfield 277, 3), (15, .invokestatic 368, 3), (18, .aload_n 0, 1), (19, .getfield 18, 3), (22, .getfield 74, 3), (25, .invokestatic 368, 3), (28, .lstore_n 2, 1), (29, .iconst 0, 1), (30, .istore 4, 2), (32, .iload 4, 2), (34, .aload_n 0, 1), (35, .getfield 18, 3), (38, .getfield 74, 3), (41, .if_icmp .ge 22, 3), (44, .aload_n 0, 1), (45, .lload_n 2, 1), (46, .aload_n 1, 1), (47, .getfield 81, 3), (50, .iload 4, 2), (52, .aaload, 1), (53, .invokevirtual 372, 3), (56, .lstore_n 2, 1), (57, .iinc 4 1, 3), (60, .goto (-28), 3), (63, .lload_n 2, 1), (64, .aload_n 1, 1), (65, .getfield 361, 3), (68, .invokestatic 368, 3), (71, .aload_n 1, 1), (72, .getfield 364, 3), (75, .invokestatic 368, 3), (78, .aload_n 1, 1), (79, .getfield 318, 3), (82, .getfield 365, 3), (85, .invokestatic 368, 3), (88, .lstore_n 2, 1), (89, .lload_n 2, 1), (90, .aload_n 1, 1), (91, .getfield 342, 3), (94, .getfield 365, 3), (97, .invokestatic 368, 3), (100, .lreturn, 1)]
theorem dk_SW_digest (i : Nat) {pc : Nat} {ins : Instr} {len : Nat} (h : dt_SW_digest[i]? = some (pc, ins, len)) : decode m_SW_digest.2.1 pc = .ok (ins, len) := p_dk (b := m_SW_digest.2.1) (t := dt_SW_digest) (by decide +kernel) i h
def L_SW_digest_32 (k32 : Nat → Nat → Int → Int → p_Hp → Option (Int × p_Hp)) (v0 : Nat) (v1 : Nat) (v2 : Int) (v4 : Int) (s0 : p_Hp) : Option (Int × p_Hp) :=
  p_gd (p_is s0 v0 10) <|
  p_gd (p_is s0 (p_R s0 v0 1) 9) <|
  if (p_Z s0 (p_R s0 v0 1) 2) ≤ v4 then
    p_gd (p_is s0 v1 7) <|
    p_bd (F_SW_mixed v2 (p_Z s0 v1 2) s0) fun r9 s5 =>
    p_bd (F_SW_mixed r9 (p_Z s5 v1 1) s5) fun r14 s10 =>
    p_gd (p_is s10 (p_R s10 v1 8) 2) <|
    p_bd (F_SW_mixed r14 (p_Z s10 (p_R s10 v1 8) 3) s10) fun r20 s16 =>
    p_gd (p_is s16 (p_R s16 v1 7) 2) <|
    p_bd (F_SW_mixed r20 (p_Z s16 (p_R s16 v1 7) 3) s16) fun r26 s22 =>
    some (r26, s22)
  else
    p_gd (p_is s0 v1 7) <|
    p_gd (p_is s0 (p_R s0 v1 4) 105) <|
    p_gd ((0 : Int) ≤ v4 ∧ v4 < (p_L s0 (p_R s0 v1 4) : Int)) <|
    p_bd (F_SW_mixedGear v0 v2 (p_R s0 (p_R s0 v1 4) (v4 : Int).toNat) s0) fun r34 s30 =>
    p_bi (p_w (v4 + 1)) fun x35 =>
    k32 v0 v1 r34 x35 s30
def O_SW_digest_32  : Nat → Nat → Nat → Int → Int → p_Hp → Option (Int × p_Hp)
  | 0 => fun _ _ _ _ _ => none
  | n + 1 => L_SW_digest_32 (O_SW_digest_32 n)
def F_SW_digest (v0 : Nat) (s0 : p_Hp) : Option (Int × p_Hp) :=
  p_gd (p_is s0 v0 10) <|
  p_gd (p_is s0 (p_R s0 v0 1) 9) <|
  p_bi ((p_R s0 (p_R s0 v0 1) 1)) fun x3 =>
  p_gd (p_is s0 x3 7) <|
  p_bd (F_SW_mixed 17 (p_Z s0 x3 0) s0) fun r9 s5 =>
  p_gd (p_is s5 (p_R s5 v0 1) 9) <|
  p_bd (F_SW_mixed r9 (p_Z s5 (p_R s5 v0 1) 2) s5) fun r15 s11 =>
  O_SW_digest_32 3000 v0 x3 r15 0 s11
set_option maxRecDepth 100000 in
set_option maxHeartbeats 4000000 in
theorem tL_SW_digest_32 (K : p_K) (l : Launch) (k32 : Nat → Nat → Int → Int → p_Hp → Option (Int × p_Hp)) (hk32 : ∀ (v0 : Nat) (v1 : Nat) (v2 : Int) (v4 : Int)  (s0 : p_Hp) (r : (Int × p_Hp)), k32 v0 v1 v2 v4 s0 = some r → p_Go K l m_SW_digest 32 [(0, p_r v0), (1, p_r v1), (2, p_j v2), (4, p_i v4)] [] s0 (some (p_j r.1), r.2)) (v0 : Nat) (v1 : Nat) (v2 : Int) (v4 : Int) (s0 : p_Hp) (r : (Int × p_Hp)) (h : L_SW_digest_32 k32 v0 v1 v2 v4 s0 = some r) : p_Go K l m_SW_digest 32 [(0, p_r v0), (1, p_r v1), (2, p_j v2), (4, p_i v4)] [] s0 (some (p_j r.1), r.2) := by
  unfold L_SW_digest_32 at h
  refine g_iload (j := 3) (dk_SW_digest 15 rfl) rfl ?_
  refine g_aload_n (i := 0) (j := 0) (dk_SW_digest 16 rfl) rfl rfl ?_
  obtain ⟨c1, h⟩ := p_gdE h
  refine g_getR fl_SW_18 (Or.inl ⟨_, rfl⟩) (dk_SW_digest 17 rfl) c1 ?_
  obtain ⟨c2, h⟩ := p_gdE h
  refine g_getI fl_SW_74 (Or.inl rfl) (dk_SW_digest 18 rfl) c2 ?_
  refine g_icmp_ge 63 (dk_SW_digest 19 rfl) (by decide) (fun b3 => ?_) (fun b3 => ?_)
  · have h := p_ifT b3 h
    refine g_lload_n (i := 2) (j := 2) (dk_SW_digest 30 rfl) rfl rfl ?_
    refine g_aload_n (i := 1) (j := 1) (dk_SW_digest 31 rfl) rfl rfl ?_
    obtain ⟨c4, h⟩ := p_gdE h
    refine g_getI fl_SW_361 (Or.inl rfl) (dk_SW_digest 32 rfl) c4 ?_
    obtain ⟨r9, s5, q6, h⟩ := p_bdE h
    have t7 := tF_SW_mixed K l v2 (p_Z s0 v1 2) s0 _ q6
    refine g_callS (av := [p_j v2, p_i (p_Z s0 v1 2)]) (rest := []) [p_j r9] mt_SW_mixed tw_6_11 tw_6_10 ⟨Nat.le_of_ble_eq_true rfl, Nat.le_of_ble_eq_true rfl⟩ rfl (Nat.le_of_ble_eq_true rfl) (dk_SW_digest 33 rfl) rfl rfl t7 ?_
    have hs8 : p_x s0 s5 := t7.1
    show p_Go K l m_SW_digest 71 [(0, p_r v0), (1, p_r v1), (2, p_j v2), (4, p_i v4)] [p_j r9] s5 _
    refine g_aload_n (i := 1) (j := 1) (dk_SW_digest 34 rfl) rfl rfl ?_
    refine g_getI fl_SW_364 (Or.inl rfl) (dk_SW_digest 35 rfl) (c4.up hs8) ?_
    obtain ⟨r14, s10, q11, h⟩ := p_bdE h
    have t12 := tF_SW_mixed K l r9 (p_Z s5 v1 1) s5 _ q11
    refine g_callS (av := [p_j r9, p_i (p_Z s5 v1 1)]) (rest := []) [p_j r14] mt_SW_mixed tw_6_11 tw_6_10 ⟨Nat.le_of_ble_eq_true rfl, Nat.le_of_ble_eq_true rfl⟩ rfl (Nat.le_of_ble_eq_true rfl) (dk_SW_digest 36 rfl) rfl rfl t12 ?_
    have hs13 : p_x s5 s10 := t12.1
    show p_Go K l m_SW_digest 78 [(0, p_r v0), (1, p_r v1), (2, p_j v2), (4, p_i v4)] [p_j r14] s10 _
    refine g_aload_n (i := 1) (j := 1) (dk_SW_digest 37 rfl) rfl rfl ?_
    refine g_getR fl_SW_318 (Or.inl ⟨_, rfl⟩) (dk_SW_digest 38 rfl) (c4.up (hs8.trans hs13)) ?_
    obtain ⟨c15, h⟩ := p_gdE h
    refine g_getI fl_SW_365 (Or.inl rfl) (dk_SW_digest 39 rfl) c15 ?_
    obtain ⟨r20, s16, q17, h⟩ := p_bdE h
    have t18 := tF_SW_mixed K l r14 (p_Z s10 (p_R s10 v1 8) 3) s10 _ q17
    refine g_callS (av := [p_j r14, p_i (p_Z s10 (p_R s10 v1 8) 3)]) (rest := []) [p_j r20] mt_SW_mixed tw_6_11 tw_6_10 ⟨Nat.le_of_ble_eq_true rfl, Nat.le_of_ble_eq_true rfl⟩ rfl (Nat.le_of_ble_eq_true rfl) (dk_SW_digest 40 rfl) rfl rfl t18 ?_
    have hs19 : p_x s10 s16 := t18.1
    show p_Go K l m_SW_digest 88 [(0, p_r v0), (1, p_r v1), (2, p_j v2), (4, p_i v4)] [p_j r20] s16 _
    refine g_lstore_n (i := 2) [(2, p_j r20), (0, p_r v0), (1, p_r v1), (4, p_i v4)] (dk_SW_digest 41 rfl) rfl (by decide) rfl ?_
    refine g_lload_n (i := 2) (j := 0) (dk_SW_digest 42 rfl) rfl rfl ?_
    refine g_aload_n (i := 1) (j := 2) (dk_SW_digest 43 rfl) rfl rfl ?_
    refine g_getR fl_SW_342 (Or.inl ⟨_, rfl⟩) (dk_SW_digest 44 rfl) (c4.up (hs8.trans (hs13.trans hs19))) ?_
    obtain ⟨c21, h⟩ := p_gdE h
    refine g_getI fl_SW_365 (Or.inl rfl) (dk_SW_digest 45 rfl) c21 ?_
    obtain ⟨r26, s22, q23, h⟩ := p_bdE h
    have t24 := tF_SW_mixed K l r20 (p_Z s16 (p_R s16 v1 7) 3) s16 _ q23
    refine g_callS (av := [p_j r20, p_i (p_Z s16 (p_R s16 v1 7) 3)]) (rest := []) [p_j r26] mt_SW_mixed tw_6_11 tw_6_10 ⟨Nat.le_of_ble_eq_true rfl, Nat.le_of_ble_eq_true rfl⟩ rfl (Nat.le_of_ble_eq_true rfl) (dk_SW_digest 46 rfl) rfl rfl t24 ?_
    have hs25 : p_x s16 s22 := t24.1
    show p_Go K l m_SW_digest 100 [(2, p_j r20), (0, p_r v0), (1, p_r v1), (4, p_i v4)] [p_j r26] s22 _
    cases h
    exact g_ret rfl rfl (dk_SW_digest 47 rfl) (fun os => ⟨_, rfl, p_okh os⟩)
  · have h := p_ifF b3 h
    refine g_aload_n (i := 0) (j := 0) (dk_SW_digest 20 rfl) rfl rfl ?_
    refine g_lload_n (i := 2) (j := 2) (dk_SW_digest 21 rfl) rfl rfl ?_
    refine g_aload_n (i := 1) (j := 1) (dk_SW_digest 22 rfl) rfl rfl ?_
    obtain ⟨c27, h⟩ := p_gdE h
    refine g_getR fl_SW_81 (Or.inr ⟨_, rfl⟩) (dk_SW_digest 23 rfl) c27 ?_
    refine g_iload (j := 3) (dk_SW_digest 24 rfl) rfl ?_
    obtain ⟨c28, h⟩ := p_gdE h
    obtain ⟨c29, h⟩ := p_gdE h
    refine g_aaload (i := 5) rfl (Or.inl ⟨_, rfl⟩) (dk_SW_digest 25 rfl) c28 c29.1 c29.2 ?_
    obtain ⟨r34, s30, q31, h⟩ := p_bdE h
    have t32 := tF_SW_mixedGear K l v0 v2 (p_R s0 (p_R s0 v1 4) (v4 : Int).toNat) s0 _ q31
    refine g_callV (a := v0) (ci := 10) (q0 := (RX10, TX10, 9)) (As := [p_j v2, p_r (p_R s0 (p_R s0 v1 4) (v4 : Int).toNat)]) (rest := []) [p_j r34] mt_SW_mixedGear rfl rfl tw_6_16 ts_42 tw_6_14 ⟨Nat.le_of_ble_eq_true rfl, Nat.le_of_ble_eq_true rfl⟩ rfl (Nat.le_of_ble_eq_true rfl) (dk_SW_digest 26 rfl) rfl c1 rfl t32 ?_
    have hs33 : p_x s0 s30 := t32.1
    show p_Go K l m_SW_digest 56 [(0, p_r v0), (1, p_r v1), (2, p_j v2), (4, p_i v4)] [p_j r34] s30 _
    refine g_lstore_n (i := 2) [(2, p_j r34), (0, p_r v0), (1, p_r v1), (4, p_i v4)] (dk_SW_digest 27 rfl) rfl (by decide) rfl ?_
    refine g_iinc (j := 3) [(4, p_i (p_w (v4 + 1))), (2, p_j r34), (0, p_r v0), (1, p_r v1)] (dk_SW_digest 28 rfl) rfl (by decide) rfl ?_
    refine p_ltG (P := fun q => p_Go K l m_SW_digest 60 [(4, p_i q), (2, p_j r34), (0, p_r v0), (1, p_r v1)] [] s30 _) ?_ h
    intro x35 h
    refine g_goto 32 (dk_SW_digest 29 rfl) (by decide) ?_
    refine g_sub [(0, p_r v0), (1, p_r v1), (2, p_j r34), (4, p_i x35)] [2, 3, 1, 0] rfl ?_
    exact hk32 v0 v1 r34 x35 s30 _ h
set_option maxRecDepth 100000 in
set_option maxHeartbeats 4000000 in
theorem tO_SW_digest_32 (K : p_K) (l : Launch)  : ∀ (n : Nat) (v0 : Nat) (v1 : Nat) (v2 : Int) (v4 : Int) (s0 : p_Hp) (r : (Int × p_Hp)), O_SW_digest_32 n v0 v1 v2 v4 s0 = some r → p_Go K l m_SW_digest 32 [(0, p_r v0), (1, p_r v1), (2, p_j v2), (4, p_i v4)] [] s0 (some (p_j r.1), r.2) := by
  intro n
  induction n with
  | zero => intro v0 v1 v2 v4 s0 r h; cases (show (none : Option (Int × p_Hp)) = some r from h)
  | succ n ih => intro v0 v1 v2 v4 s0 r h; exact tL_SW_digest_32 K l _ ih v0 v1 v2 v4 s0 r h
set_option maxRecDepth 100000 in
set_option maxHeartbeats 4000000 in
theorem tF_SW_digest (K : p_K) (l : Launch) (v0 : Nat) (s0 : p_Hp) (r : (Int × p_Hp)) (h : F_SW_digest v0 s0 = some r) : p_Ct K l m_SW_digest [p_r v0] s0 (some (p_j r.1), r.2) := by
  refine p_Ct.of (by decide +kernel) (Nat.le_of_ble_eq_true rfl) ?_
  unfold F_SW_digest at h
  show p_Go K l m_SW_digest 0 [(0, p_r v0)] [] s0 _
  refine g_aload_n (i := 0) (j := 0) (dk_SW_digest 0 rfl) rfl rfl ?_
  obtain ⟨c1, h⟩ := p_gdE h
  refine g_getR fl_SW_18 (Or.inl ⟨_, rfl⟩) (dk_SW_digest 1 rfl) c1 ?_
  obtain ⟨c2, h⟩ := p_gdE h
  refine g_getR fl_SW_77 (Or.inl ⟨_, rfl⟩) (dk_SW_digest 2 rfl) c2 ?_
  refine g_astore_n (i := 1) [(1, p_r (p_R s0 (p_R s0 v0 1) 1)), (0, p_r v0)] (dk_SW_digest 3 rfl) rfl (by decide) rfl ?_
  refine p_ltG (P := fun q => p_Go K l m_SW_digest 8 [(1, p_r q), (0, p_r v0)] [] s0 _) ?_ h
  intro x3 h
  refine g_ldc2_w (x := 17) (dk_SW_digest 4 rfl) tw_6_9 (by decide) (by decide) ?_
  refine g_aload_n (i := 1) (j := 0) (dk_SW_digest 5 rfl) rfl rfl ?_
  obtain ⟨c4, h⟩ := p_gdE h
  refine g_getI fl_SW_277 (Or.inl rfl) (dk_SW_digest 6 rfl) c4 ?_
  obtain ⟨r9, s5, q6, h⟩ := p_bdE h
  have t7 := tF_SW_mixed K l 17 (p_Z s0 x3 0) s0 _ q6
  refine g_callS (av := [p_j 17, p_i (p_Z s0 x3 0)]) (rest := []) [p_j r9] mt_SW_mixed tw_6_11 tw_6_10 ⟨Nat.le_of_ble_eq_true rfl, Nat.le_of_ble_eq_true rfl⟩ rfl (Nat.le_of_ble_eq_true rfl) (dk_SW_digest 7 rfl) rfl rfl t7 ?_
  have hs8 : p_x s0 s5 := t7.1
  show p_Go K l m_SW_digest 18 [(1, p_r x3), (0, p_r v0)] [p_j r9] s5 _
  refine g_aload_n (i := 0) (j := 1) (dk_SW_digest 8 rfl) rfl rfl ?_
  refine g_getR fl_SW_18 (Or.inl ⟨_, rfl⟩) (dk_SW_digest 9 rfl) (c1.up hs8) ?_
  obtain ⟨c10, h⟩ := p_gdE h
  refine g_getI fl_SW_74 (Or.inl rfl) (dk_SW_digest 10 rfl) c10 ?_
  obtain ⟨r15, s11, q12, h⟩ := p_bdE h
  have t13 := tF_SW_mixed K l r9 (p_Z s5 (p_R s5 v0 1) 2) s5 _ q12
  refine g_callS (av := [p_j r9, p_i (p_Z s5 (p_R s5 v0 1) 2)]) (rest := []) [p_j r15] mt_SW_mixed tw_6_11 tw_6_10 ⟨Nat.le_of_ble_eq_true rfl, Nat.le_of_ble_eq_true rfl⟩ rfl (Nat.le_of_ble_eq_true rfl) (dk_SW_digest 11 rfl) rfl rfl t13 ?_
  have hs14 : p_x s5 s11 := t13.1
  show p_Go K l m_SW_digest 28 [(1, p_r x3), (0, p_r v0)] [p_j r15] s11 _
  refine g_lstore_n (i := 2) [(2, p_j r15), (1, p_r x3), (0, p_r v0)] (dk_SW_digest 12 rfl) rfl (by decide) rfl ?_
  refine g_iconst (dk_SW_digest 13 rfl) (by decide) ?_
  refine g_istore [(4, p_i 0), (2, p_j r15), (1, p_r x3), (0, p_r v0)] (dk_SW_digest 14 rfl) (by decide) rfl ?_
  refine g_sub [(0, p_r v0), (1, p_r x3), (2, p_j r15), (4, p_i 0)] [3, 2, 1, 0] rfl ?_
  exact tO_SW_digest_32 K l 3000 v0 x3 r15 0 s11 _ h
