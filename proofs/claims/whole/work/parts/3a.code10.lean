def m_Mo_scans : p_Me := (⟨"SortWorksModel", "scans", "(II)Z"⟩, prog_13_method_72_code, 5, (some .boolean), 5, 119)
theorem mt_Mo_scans : p_Mt m_Mo_scans 2 := ⟨p_mem (p_tb8 (List.mem_of_getElem? (i := 137) rfl)) rfl, tw_1_12, by decide +kernel, by decide +kernel, by decide +kernel⟩
def dt_Mo_scans : List (Nat × Instr × Nat) := [(0, .aload_n 0, 1), (1, .getfield 105, 3), (4, .iload_n 1, 1), (5, .iconst 1, 1), (6, .bastore, 1), (7, .aload_n 0, 1), (8, .iload_n 1, 1), (9, .invokevirtual 435, 3), (12, .istore_n 3, 1), (13, .aload_n 0, 1), (14, .getfield 414, 3), (17, .ifCond .le 13, 3), (20, .aload_n 0, 1), (21, .iconst 2, 1), (22, .aload_n 0, 1), (23, .getfield 414, 3), (26, .iload_n 1, 1), (27, .invokevirtual 395, 3), (30, .iload_n 3, 1), (31, .ifCond .eq 21, 3), (34, .iload_n 2, 1), (35, .iconst 4, 1), (36, .if_icmp .ne 37, 3), (39, .aload_n 0, 1), (40, .getfield 423, 3), (43, .aload_n 0, 1), (44, .getfield 84, 3), (47, .iload_n 1, 1), (48, .iaload, 1), (49, .if_icmp .eq 24, 3), (52, .aload_n 0, 1), (53, .getfield 90, 3), (56, .iload_n 1, 1), (57, .bipush (-8), 2), (59, .iastore, 1), (60, .aload_n 0, 1), (61, .getfield 414, 3), (64, .ifCond .le 7, 3), (67, .iconst 1, 1), (68, .goto 4, 3), (71, .iconst 0, 1), (72, .ireturn, 1), (73, .aload_n 0, 1), (74, .getfield 90, 3), (77, .iload_n 1, 1), (78, .bipush (-9), 2), (80, .iastore, 1), (81, .iconst 0, 1), (82, .istore 4, 2), (84, .iload 4, 2), (86, .aload_n 0, 1), (87, .getfield 141, 3), (90, .aload_n 0, 1), (91, .getfield 227, 3), (94, .iaload, 1), (95, .if_icmp .ge 60, 3), (98, .aload_n 0, 1), (99, .iload 4, 2), (101, .invokevirtual 438, 3), (104, .ifCond .eq 45, 3), (107, .aload_n 0, 1), (108, .getfield 90, 3), (111, .iload_n 1, 1), (112, .aload_n 0, 1), (113, .getfield 144, 3), (116, .bipush 12, 2), (118, .aload_n 0, 1), (119, .getfield 227, 3), (122, .imul, 1), (123, .iload 4, 2), (125, .iadd, 1), (126, .iaload, 1), (127, .iastore, 1), (128, .aload_n 0, 1), (129, .getfield 150, 3), (132, .bipush 12, 2), (134, .aload_n 0, 1), (135, .getfield 227, 3), (138, .imul, 1), (139, .iload 4, 2), (141, .iadd, 1), (142, .dup2, 1), (143, .iaload, 1), (144, .iconst 1, 1), (145, .iadd, 1), (146, .iastore, 1), (147, .iconst 0, 1), (148, .ireturn, 1), (149, .iinc 4 1, 3), (152, .goto (-68), 3), (155, .iconst 0, 1), (156, .ireturn, 1)]
theorem dk_Mo_scans (i : Nat) {pc : Nat} {ins : Instr} {len : Nat} (h : dt_Mo_scans[i]? = some (pc, ins, len)) : decode m_Mo_scans.2.1 pc = .ok (ins, len) := p_dk (b := m_Mo_scans.2.1) (t := dt_Mo_scans) (by decide +kernel) i h
def B_Mo_scans_52  (v0 : Nat) (v1 : Int) (s0 : p_Hp) : Option (Int × p_Hp) :=
  p_gd (p_is s0 v0 11) <|
  p_gd (p_is s0 (p_R s0 v0 30) 100) <|
  p_gd ((0 : Int) ≤ v1 ∧ v1 < (p_L s0 (p_R s0 v0 30) : Int)) <|
  p_bi (p_wZ s0 (p_R s0 v0 30) (v1 : Int).toNat (-8)) fun s4 =>
  if (p_Z s4 v0 78) ≤ 0 then
    some (0, s4)
  else
    some (1, s4)
def L_Mo_scans_84 (k84 : Nat → Int → Int → p_Hp → Option (Int × p_Hp)) (v0 : Nat) (v1 : Int) (v4 : Int) (s0 : p_Hp) : Option (Int × p_Hp) :=
  p_gd (p_is s0 v0 11) <|
  p_gd (p_is s0 (p_R s0 v0 48) 100) <|
  p_gd ((0 : Int) ≤ (p_Z s0 v0 0) ∧ (p_Z s0 v0 0) < (p_L s0 (p_R s0 v0 48) : Int)) <|
  if (p_Z s0 (p_R s0 v0 48) ((p_Z s0 v0 0) : Int).toNat) ≤ v4 then
    some (0, s0)
  else
    p_bd (F_Mo_holds v0 v4 s0) fun r9 s5 =>
    if r9 = 0 then
      p_bi (p_w (v4 + 1)) fun x11 =>
      k84 v0 v1 x11 s5
    else
      p_gd (p_is s5 (p_R s5 v0 49) 100) <|
      p_gd ((0 : Int) ≤ (p_w ((p_w (12 * (p_Z s5 v0 0))) + v4)) ∧ (p_w ((p_w (12 * (p_Z s5 v0 0))) + v4)) < (p_L s5 (p_R s5 v0 49) : Int)) <|
      p_gd (p_is s5 (p_R s5 v0 30) 100) <|
      p_gd ((0 : Int) ≤ v1 ∧ v1 < (p_L s5 (p_R s5 v0 30) : Int)) <|
      p_bi (p_wZ s5 (p_R s5 v0 30) (v1 : Int).toNat (p_Z s5 (p_R s5 v0 49) ((p_w ((p_w (12 * (p_Z s5 v0 0))) + v4)) : Int).toNat)) fun s16 =>
      p_gd (p_is s16 (p_R s16 v0 51) 100) <|
      p_gd ((0 : Int) ≤ (p_w ((p_w (12 * (p_Z s16 v0 0))) + v4)) ∧ (p_w ((p_w (12 * (p_Z s16 v0 0))) + v4)) < (p_L s16 (p_R s16 v0 51) : Int)) <|
      p_gd ((0 : Int) ≤ (p_w ((p_w (12 * (p_Z s16 v0 0))) + v4)) ∧ (p_w ((p_w (12 * (p_Z s16 v0 0))) + v4)) < (p_L s16 (p_R s16 v0 51) : Int)) <|
      p_bi (p_wZ s16 (p_R s16 v0 51) ((p_w ((p_w (12 * (p_Z s16 v0 0))) + v4)) : Int).toNat (p_w ((p_Z s16 (p_R s16 v0 51) ((p_w ((p_w (12 * (p_Z s16 v0 0))) + v4)) : Int).toNat) + 1))) fun s21 =>
      some (0, s21)
def O_Mo_scans_84  : Nat → Nat → Int → Int → p_Hp → Option (Int × p_Hp)
  | 0 => fun _ _ _ _ => none
  | n + 1 => L_Mo_scans_84 (O_Mo_scans_84 n)
def B_Mo_scans_73  (v0 : Nat) (v1 : Int) (s0 : p_Hp) : Option (Int × p_Hp) :=
  p_gd (p_is s0 v0 11) <|
  p_gd (p_is s0 (p_R s0 v0 30) 100) <|
  p_gd ((0 : Int) ≤ v1 ∧ v1 < (p_L s0 (p_R s0 v0 30) : Int)) <|
  p_bi (p_wZ s0 (p_R s0 v0 30) (v1 : Int).toNat (-9)) fun s4 =>
  O_Mo_scans_84 3000 v0 v1 0 s4
def B_Mo_scans_30  (v0 : Nat) (v1 : Int) (v2 : Int) (v3 : Int) (s0 : p_Hp) : Option (Int × p_Hp) :=
  if v3 = 0 then
    B_Mo_scans_52 v0 v1 s0
  else
    if v2 ≠ 4 then
      B_Mo_scans_73 v0 v1 s0
    else
      p_gd (p_is s0 v0 11) <|
      p_gd (p_is s0 (p_R s0 v0 28) 100) <|
      p_gd ((0 : Int) ≤ v1 ∧ v1 < (p_L s0 (p_R s0 v0 28) : Int)) <|
      if (p_Z s0 v0 76) = (p_Z s0 (p_R s0 v0 28) (v1 : Int).toNat) then
        B_Mo_scans_73 v0 v1 s0
      else
        B_Mo_scans_52 v0 v1 s0
def F_Mo_scans (v0 : Nat) (v1 : Int) (v2 : Int) (s0 : p_Hp) : Option (Int × p_Hp) :=
  p_gd (p_is s0 v0 11) <|
  p_gd (p_is s0 (p_R s0 v0 35) 102) <|
  p_gd ((0 : Int) ≤ v1 ∧ v1 < (p_L s0 (p_R s0 v0 35) : Int)) <|
  p_bi (p_wZ s0 (p_R s0 v0 35) (v1 : Int).toNat 1) fun s4 =>
  p_bd (F_Mo_reads v0 v1 s4) fun r10 s6 =>
  if (p_Z s6 v0 78) ≤ 0 then
    B_Mo_scans_30 v0 v1 v2 r10 s6
  else
    p_bv (F_Mo_find v0 2 (p_Z s6 v0 78) v1 s6) fun s12 =>
    B_Mo_scans_30 v0 v1 v2 r10 s12
set_option maxRecDepth 100000 in
set_option maxHeartbeats 4000000 in
theorem tB_Mo_scans_52 (K : p_K) (l : Launch)  (v0 : Nat) (v1 : Int) (s0 : p_Hp) (r : (Int × p_Hp)) (h : B_Mo_scans_52 v0 v1 s0 = some r) : p_Go K l m_Mo_scans 52 [(0, p_r v0), (1, p_i v1)] [] s0 (some (p_i r.1), r.2) := by
  unfold B_Mo_scans_52 at h
  refine g_aload_n (i := 0) (j := 0) (dk_Mo_scans 30 rfl) rfl rfl ?_
  obtain ⟨c1, h⟩ := p_gdE h
  refine g_getR fl_Mo_90 (Or.inr ⟨_, rfl⟩) (dk_Mo_scans 31 rfl) c1 ?_
  refine g_iload_n (i := 1) (j := 1) (dk_Mo_scans 32 rfl) rfl rfl ?_
  refine g_bipush (dk_Mo_scans 33 rfl) (by decide +kernel) (by decide) ?_
  obtain ⟨c2, h⟩ := p_gdE h
  obtain ⟨c3, h⟩ := p_gdE h
  refine g_iastore (dk_Mo_scans 34 rfl) c2 c3.1 c3.2 ?_
  refine p_ltS (P := fun q => p_Go K l m_Mo_scans 60 [(0, p_r v0), (1, p_i v1)] [] q _) (p_xZ _ _ _ _) ?_ h
  intro s4 hs5 h
  refine g_aload_n (i := 0) (j := 0) (dk_Mo_scans 35 rfl) rfl rfl ?_
  refine g_getI fl_Mo_414 (Or.inl rfl) (dk_Mo_scans 36 rfl) (c1.up hs5) ?_
  refine g_if_le 71 (dk_Mo_scans 37 rfl) (by decide) (fun b6 => ?_) (fun b6 => ?_)
  · have h := p_ifT b6 h
    refine g_iconst (dk_Mo_scans 40 rfl) (by decide) ?_
    cases h
    exact g_ret rfl rfl (dk_Mo_scans 41 rfl) (fun _ => ⟨_, rfl, Or.inl rfl⟩)
  · have h := p_ifF b6 h
    refine g_iconst (dk_Mo_scans 38 rfl) (by decide) ?_
    refine g_goto 72 (dk_Mo_scans 39 rfl) (by decide) ?_
    cases h
    exact g_ret rfl rfl (dk_Mo_scans 41 rfl) (fun _ => ⟨_, rfl, Or.inr rfl⟩)
set_option maxRecDepth 100000 in
set_option maxHeartbeats 4000000 in
theorem tL_Mo_scans_84 (K : p_K) (l : Launch) (k84 : Nat → Int → Int → p_Hp → Option (Int × p_Hp)) (hk84 : ∀ (v0 : Nat) (v1 : Int) (v4 : Int)  (s0 : p_Hp) (r : (Int × p_Hp)), k84 v0 v1 v4 s0 = some r → p_Go K l m_Mo_scans 84 [(0, p_r v0), (1, p_i v1), (4, p_i v4)] [] s0 (some (p_i r.1), r.2)) (v0 : Nat) (v1 : Int) (v4 : Int) (s0 : p_Hp) (r : (Int × p_Hp)) (h : L_Mo_scans_84 k84 v0 v1 v4 s0 = some r) : p_Go K l m_Mo_scans 84 [(0, p_r v0), (1, p_i v1), (4, p_i v4)] [] s0 (some (p_i r.1), r.2) := by
  unfold L_Mo_scans_84 at h
  refine g_iload (j := 2) (dk_Mo_scans 49 rfl) rfl ?_
  refine g_aload_n (i := 0) (j := 0) (dk_Mo_scans 50 rfl) rfl rfl ?_
  obtain ⟨c1, h⟩ := p_gdE h
  refine g_getR fl_Mo_141 (Or.inr ⟨_, rfl⟩) (dk_Mo_scans 51 rfl) c1 ?_
  refine g_aload_n (i := 0) (j := 0) (dk_Mo_scans 52 rfl) rfl rfl ?_
  refine g_getI fl_Mo_227 (Or.inl rfl) (dk_Mo_scans 53 rfl) c1 ?_
  obtain ⟨c2, h⟩ := p_gdE h
  obtain ⟨c3, h⟩ := p_gdE h
  refine g_iaload (dk_Mo_scans 54 rfl) c2 c3.1 c3.2 ?_
  refine g_icmp_ge 155 (dk_Mo_scans 55 rfl) (by decide) (fun b4 => ?_) (fun b4 => ?_)
  · have h := p_ifT b4 h
    refine g_iconst (dk_Mo_scans 90 rfl) (by decide) ?_
    cases h
    exact g_ret rfl rfl (dk_Mo_scans 91 rfl) (fun _ => ⟨_, rfl, Or.inl rfl⟩)
  · have h := p_ifF b4 h
    refine g_aload_n (i := 0) (j := 0) (dk_Mo_scans 56 rfl) rfl rfl ?_
    refine g_iload (j := 2) (dk_Mo_scans 57 rfl) rfl ?_
    obtain ⟨r9, s5, q6, h⟩ := p_bdE h
    have t7 := tF_Mo_holds K l v0 v4 s0 _ q6
    refine g_callV (a := v0) (ci := 11) (q0 := (RX11, TX11, 90)) (As := [p_i v4]) (rest := []) [p_i r9] mt_Mo_holds rfl rfl tw_8_148 ts_91 tw_8_146 ⟨Nat.le_of_ble_eq_true rfl, Nat.le_of_ble_eq_true rfl⟩ rfl (Nat.le_of_ble_eq_true rfl) (dk_Mo_scans 58 rfl) rfl c1 rfl t7 ?_
    have hs8 : p_x s0 s5 := t7.1
    show p_Go K l m_Mo_scans 104 [(0, p_r v0), (1, p_i v1), (4, p_i v4)] [p_i r9] s5 _
    refine g_if_eq 149 (dk_Mo_scans 59 rfl) (by decide) (fun b10 => ?_) (fun b10 => ?_)
    · have h := p_ifT b10 h
      refine g_iinc (j := 2) [(4, p_i (p_w (v4 + 1))), (0, p_r v0), (1, p_i v1)] (dk_Mo_scans 88 rfl) rfl (by decide) rfl ?_
      refine p_ltG (P := fun q => p_Go K l m_Mo_scans 152 [(4, p_i q), (0, p_r v0), (1, p_i v1)] [] s5 _) ?_ h
      intro x11 h
      refine g_goto 84 (dk_Mo_scans 89 rfl) (by decide) ?_
      refine g_sub [(0, p_r v0), (1, p_i v1), (4, p_i x11)] [1, 2, 0] rfl ?_
      exact hk84 v0 v1 x11 s5 _ h
    · have h := p_ifF b10 h
      refine g_aload_n (i := 0) (j := 0) (dk_Mo_scans 60 rfl) rfl rfl ?_
      refine g_getR fl_Mo_90 (Or.inr ⟨_, rfl⟩) (dk_Mo_scans 61 rfl) (c1.up hs8) ?_
      refine g_iload_n (i := 1) (j := 1) (dk_Mo_scans 62 rfl) rfl rfl ?_
      refine g_aload_n (i := 0) (j := 0) (dk_Mo_scans 63 rfl) rfl rfl ?_
      refine g_getR fl_Mo_144 (Or.inr ⟨_, rfl⟩) (dk_Mo_scans 64 rfl) (c1.up hs8) ?_
      refine g_bipush (dk_Mo_scans 65 rfl) (by decide +kernel) (by decide) ?_
      refine g_aload_n (i := 0) (j := 0) (dk_Mo_scans 66 rfl) rfl rfl ?_
      refine g_getI fl_Mo_227 (Or.inl rfl) (dk_Mo_scans 67 rfl) (c1.up hs8) ?_
      refine g_imul (dk_Mo_scans 68 rfl) ?_
      refine g_iload (j := 2) (dk_Mo_scans 69 rfl) rfl ?_
      refine g_iadd (dk_Mo_scans 70 rfl) ?_
      obtain ⟨c12, h⟩ := p_gdE h
      obtain ⟨c13, h⟩ := p_gdE h
      refine g_iaload (dk_Mo_scans 71 rfl) c12 c13.1 c13.2 ?_
      obtain ⟨c14, h⟩ := p_gdE h
      obtain ⟨c15, h⟩ := p_gdE h
      refine g_iastore (dk_Mo_scans 72 rfl) c14 c15.1 c15.2 ?_
      refine p_ltS (P := fun q => p_Go K l m_Mo_scans 128 [(0, p_r v0), (1, p_i v1), (4, p_i v4)] [] q _) (p_xZ _ _ _ _) ?_ h
      intro s16 hs17 h
      refine g_aload_n (i := 0) (j := 0) (dk_Mo_scans 73 rfl) rfl rfl ?_
      refine g_getR fl_Mo_150 (Or.inr ⟨_, rfl⟩) (dk_Mo_scans 74 rfl) (c1.up (hs8.trans hs17)) ?_
      refine g_bipush (dk_Mo_scans 75 rfl) (by decide +kernel) (by decide) ?_
      refine g_aload_n (i := 0) (j := 0) (dk_Mo_scans 76 rfl) rfl rfl ?_
      refine g_getI fl_Mo_227 (Or.inl rfl) (dk_Mo_scans 77 rfl) (c1.up (hs8.trans hs17)) ?_
      refine g_imul (dk_Mo_scans 78 rfl) ?_
      refine g_iload (j := 2) (dk_Mo_scans 79 rfl) rfl ?_
      refine g_iadd (dk_Mo_scans 80 rfl) ?_
      refine g_dup2 (dk_Mo_scans 81 rfl) rfl rfl ?_
      obtain ⟨c18, h⟩ := p_gdE h
      obtain ⟨c19, h⟩ := p_gdE h
      refine g_iaload (dk_Mo_scans 82 rfl) c18 c19.1 c19.2 ?_
      refine g_iconst (dk_Mo_scans 83 rfl) (by decide) ?_
      refine g_iadd (dk_Mo_scans 84 rfl) ?_
      obtain ⟨c20, h⟩ := p_gdE h
      refine g_iastore (dk_Mo_scans 85 rfl) c18 c20.1 c20.2 ?_
      refine p_ltS (P := fun q => p_Go K l m_Mo_scans 147 [(0, p_r v0), (1, p_i v1), (4, p_i v4)] [] q _) (p_xZ _ _ _ _) ?_ h
      intro s21 hs22 h
      refine g_iconst (dk_Mo_scans 86 rfl) (by decide) ?_
      cases h
      exact g_ret rfl rfl (dk_Mo_scans 87 rfl) (fun _ => ⟨_, rfl, Or.inl rfl⟩)
set_option maxRecDepth 100000 in
set_option maxHeartbeats 4000000 in
theorem tO_Mo_scans_84 (K : p_K) (l : Launch)  : ∀ (n : Nat) (v0 : Nat) (v1 : Int) (v4 : Int) (s0 : p_Hp) (r : (Int × p_Hp)), O_Mo_scans_84 n v0 v1 v4 s0 = some r → p_Go K l m_Mo_scans 84 [(0, p_r v0), (1, p_i v1), (4, p_i v4)] [] s0 (some (p_i r.1), r.2) := by
  intro n
  induction n with
  | zero => intro v0 v1 v4 s0 r h; cases (show (none : Option (Int × p_Hp)) = some r from h)
  | succ n ih => intro v0 v1 v4 s0 r h; exact tL_Mo_scans_84 K l _ ih v0 v1 v4 s0 r h
set_option maxRecDepth 100000 in
set_option maxHeartbeats 4000000 in
theorem tB_Mo_scans_73 (K : p_K) (l : Launch)  (v0 : Nat) (v1 : Int) (s0 : p_Hp) (r : (Int × p_Hp)) (h : B_Mo_scans_73 v0 v1 s0 = some r) : p_Go K l m_Mo_scans 73 [(0, p_r v0), (1, p_i v1)] [] s0 (some (p_i r.1), r.2) := by
  unfold B_Mo_scans_73 at h
  refine g_aload_n (i := 0) (j := 0) (dk_Mo_scans 42 rfl) rfl rfl ?_
  obtain ⟨c1, h⟩ := p_gdE h
  refine g_getR fl_Mo_90 (Or.inr ⟨_, rfl⟩) (dk_Mo_scans 43 rfl) c1 ?_
  refine g_iload_n (i := 1) (j := 1) (dk_Mo_scans 44 rfl) rfl rfl ?_
  refine g_bipush (dk_Mo_scans 45 rfl) (by decide +kernel) (by decide) ?_
  obtain ⟨c2, h⟩ := p_gdE h
  obtain ⟨c3, h⟩ := p_gdE h
  refine g_iastore (dk_Mo_scans 46 rfl) c2 c3.1 c3.2 ?_
  refine p_ltS (P := fun q => p_Go K l m_Mo_scans 81 [(0, p_r v0), (1, p_i v1)] [] q _) (p_xZ _ _ _ _) ?_ h
  intro s4 hs5 h
  refine g_iconst (dk_Mo_scans 47 rfl) (by decide) ?_
  refine g_istore [(4, p_i 0), (0, p_r v0), (1, p_i v1)] (dk_Mo_scans 48 rfl) (by decide) rfl ?_
  refine g_sub [(0, p_r v0), (1, p_i v1), (4, p_i 0)] [1, 2, 0] rfl ?_
  exact tO_Mo_scans_84 K l 3000 v0 v1 0 s4 _ h
set_option maxRecDepth 100000 in
set_option maxHeartbeats 4000000 in
theorem tB_Mo_scans_30 (K : p_K) (l : Launch)  (v0 : Nat) (v1 : Int) (v2 : Int) (v3 : Int) (s0 : p_Hp) (r : (Int × p_Hp)) (h : B_Mo_scans_30 v0 v1 v2 v3 s0 = some r) : p_Go K l m_Mo_scans 30 [(0, p_r v0), (1, p_i v1), (2, p_i v2), (3, p_i v3)] [] s0 (some (p_i r.1), r.2) := by
  unfold B_Mo_scans_30 at h
  refine g_iload_n (i := 3) (j := 3) (dk_Mo_scans 18 rfl) rfl rfl ?_
  refine g_if_eq 52 (dk_Mo_scans 19 rfl) (by decide) (fun b1 => ?_) (fun b1 => ?_)
  · have h := p_ifT b1 h
    refine g_sub [(0, p_r v0), (1, p_i v1)] [0, 1] rfl ?_
    exact tB_Mo_scans_52 K l v0 v1 s0 _ h
  · have h := p_ifF b1 h
    refine g_iload_n (i := 2) (j := 2) (dk_Mo_scans 20 rfl) rfl rfl ?_
    refine g_iconst (dk_Mo_scans 21 rfl) (by decide) ?_
    refine g_icmp_ne 73 (dk_Mo_scans 22 rfl) (by decide) (fun b2 => ?_) (fun b2 => ?_)
    · have h := p_ifT b2 h
      refine g_sub [(0, p_r v0), (1, p_i v1)] [0, 1] rfl ?_
      exact tB_Mo_scans_73 K l v0 v1 s0 _ h
    · have h := p_ifF b2 h
      refine g_aload_n (i := 0) (j := 0) (dk_Mo_scans 23 rfl) rfl rfl ?_
      obtain ⟨c3, h⟩ := p_gdE h
      refine g_getI fl_Mo_423 (Or.inl rfl) (dk_Mo_scans 24 rfl) c3 ?_
      refine g_aload_n (i := 0) (j := 0) (dk_Mo_scans 25 rfl) rfl rfl ?_
      refine g_getR fl_Mo_84 (Or.inr ⟨_, rfl⟩) (dk_Mo_scans 26 rfl) c3 ?_
      refine g_iload_n (i := 1) (j := 1) (dk_Mo_scans 27 rfl) rfl rfl ?_
      obtain ⟨c4, h⟩ := p_gdE h
      obtain ⟨c5, h⟩ := p_gdE h
      refine g_iaload (dk_Mo_scans 28 rfl) c4 c5.1 c5.2 ?_
      refine g_icmp_eq 73 (dk_Mo_scans 29 rfl) (by decide) (fun b6 => ?_) (fun b6 => ?_)
      · have h := p_ifT b6 h
        refine g_sub [(0, p_r v0), (1, p_i v1)] [0, 1] rfl ?_
        exact tB_Mo_scans_73 K l v0 v1 s0 _ h
      · have h := p_ifF b6 h
        refine g_sub [(0, p_r v0), (1, p_i v1)] [0, 1] rfl ?_
        exact tB_Mo_scans_52 K l v0 v1 s0 _ h
set_option maxRecDepth 100000 in
set_option maxHeartbeats 4000000 in
theorem tF_Mo_scans (K : p_K) (l : Launch) (v0 : Nat) (v1 : Int) (v2 : Int) (s0 : p_Hp) (r : (Int × p_Hp)) (h : F_Mo_scans v0 v1 v2 s0 = some r) : p_Ct K l m_Mo_scans [p_r v0, p_i v1, p_i v2] s0 (some (p_i r.1), r.2) := by
  refine p_Ct.of (by decide +kernel) (Nat.le_of_ble_eq_true rfl) ?_
  unfold F_Mo_scans at h
  show p_Go K l m_Mo_scans 0 [(0, p_r v0), (1, p_i v1), (2, p_i v2)] [] s0 _
  refine g_aload_n (i := 0) (j := 0) (dk_Mo_scans 0 rfl) rfl rfl ?_
  obtain ⟨c1, h⟩ := p_gdE h
  refine g_getR fl_Mo_105 (Or.inr ⟨_, rfl⟩) (dk_Mo_scans 1 rfl) c1 ?_
  refine g_iload_n (i := 1) (j := 1) (dk_Mo_scans 2 rfl) rfl rfl ?_
  refine g_iconst (dk_Mo_scans 3 rfl) (by decide) ?_
  obtain ⟨c2, h⟩ := p_gdE h
  obtain ⟨c3, h⟩ := p_gdE h
  refine g_bastore (dk_Mo_scans 4 rfl) c2 c3.1 c3.2 (Or.inr rfl) ?_
  refine p_ltS (P := fun q => p_Go K l m_Mo_scans 7 [(0, p_r v0), (1, p_i v1), (2, p_i v2)] [] q _) (p_xZ _ _ _ _) ?_ h
  intro s4 hs5 h
  refine g_aload_n (i := 0) (j := 0) (dk_Mo_scans 5 rfl) rfl rfl ?_
  refine g_iload_n (i := 1) (j := 1) (dk_Mo_scans 6 rfl) rfl rfl ?_
  obtain ⟨r10, s6, q7, h⟩ := p_bdE h
  have t8 := tF_Mo_reads K l v0 v1 s4 _ q7
  refine g_callV (a := v0) (ci := 11) (q0 := (RX11, TX11, 90)) (As := [p_i v1]) (rest := []) [p_i r10] mt_Mo_reads rfl rfl tw_8_140 ts_89 tw_8_138 ⟨Nat.le_of_ble_eq_true rfl, Nat.le_of_ble_eq_true rfl⟩ rfl (Nat.le_of_ble_eq_true rfl) (dk_Mo_scans 7 rfl) rfl (c1.up hs5) rfl t8 ?_
  have hs9 : p_x s4 s6 := t8.1
  show p_Go K l m_Mo_scans 12 [(0, p_r v0), (1, p_i v1), (2, p_i v2)] [p_i r10] s6 _
  refine g_istore_n (i := 3) [(3, p_i r10), (0, p_r v0), (1, p_i v1), (2, p_i v2)] (dk_Mo_scans 8 rfl) rfl (by decide) rfl ?_
  refine g_aload_n (i := 0) (j := 1) (dk_Mo_scans 9 rfl) rfl rfl ?_
  refine g_getI fl_Mo_414 (Or.inl rfl) (dk_Mo_scans 10 rfl) (c1.up (hs5.trans hs9)) ?_
  refine g_if_le 30 (dk_Mo_scans 11 rfl) (by decide) (fun b11 => ?_) (fun b11 => ?_)
  · have h := p_ifT b11 h
    refine g_sub [(0, p_r v0), (1, p_i v1), (2, p_i v2), (3, p_i r10)] [1, 2, 3, 0] rfl ?_
    exact tB_Mo_scans_30 K l v0 v1 v2 r10 s6 _ h
  · have h := p_ifF b11 h
    refine g_aload_n (i := 0) (j := 1) (dk_Mo_scans 12 rfl) rfl rfl ?_
    refine g_iconst (dk_Mo_scans 13 rfl) (by decide) ?_
    refine g_aload_n (i := 0) (j := 1) (dk_Mo_scans 14 rfl) rfl rfl ?_
    refine g_getI fl_Mo_414 (Or.inl rfl) (dk_Mo_scans 15 rfl) (c1.up (hs5.trans hs9)) ?_
    refine g_iload_n (i := 1) (j := 2) (dk_Mo_scans 16 rfl) rfl rfl ?_
    obtain ⟨s12, q13, h⟩ := p_bvE h
    have t14 := tF_Mo_find K l v0 2 (p_Z s6 v0 78) v1 s6 _ q13
    refine g_callV (a := v0) (ci := 11) (q0 := (RX11, TX11, 90)) (As := [p_i 2, p_i (p_Z s6 v0 78), p_i v1]) (rest := []) [] mt_Mo_find rfl rfl tw_8_85 ts_76 tw_8_83 ⟨Nat.le_of_ble_eq_true rfl, Nat.le_of_ble_eq_true rfl⟩ rfl (Nat.le_of_ble_eq_true rfl) (dk_Mo_scans 17 rfl) rfl (c1.up (hs5.trans hs9)) rfl t14 ?_
    have hs15 : p_x s6 s12 := t14.1
    show p_Go K l m_Mo_scans 30 [(3, p_i r10), (0, p_r v0), (1, p_i v1), (2, p_i v2)] [] s12 _
    refine g_sub [(0, p_r v0), (1, p_i v1), (2, p_i v2), (3, p_i r10)] [1, 2, 3, 0] rfl ?_
    exact tB_Mo_scans_30 K l v0 v1 v2 r10 s12 _ h
def m_Mo_actTaker : p_Me := (⟨"SortWorksModel", "actTaker", "(I)V"⟩, prog_13_method_78_code, 11, none, 6, 143)
theorem mt_Mo_actTaker : p_Mt m_Mo_actTaker 1 := ⟨p_mem (p_tb8 (List.mem_of_getElem? (i := 129) rfl)) rfl, tw_1_12, by decide +kernel, by decide +kernel, by decide +kernel⟩
def dt_Mo_actTaker : List (Nat × Instr × Nat) := [(0, .aload_n 0, 1), (1, .iload_n 1, 1), (2, .invokevirtual 257, 3), (5, .istore_n 2, 1), (6, .aload_n 0, 1), (7, .getfield 16, 3), (10, .iload_n 2, 1), (11, .iaload, 1), (12, .istore_n 3, 1), (13, .bipush 8, 2), (15, .iload_n 2, 1), (16, .imul, 1), (17, .aload_n 0, 1), (18, .getfield 19, 3), (21, .iload_n 2, 1), (22, .iaload, 1), (23, .iadd, 1), (24, .iconst 1, 1), (25, .isub, 1), (26, .istore 4, 2), (28, .aload_n 0, 1), (29, .getfield 69, 3), (32, .iload 4, 2), (34, .iaload, 1), (35, .istore 5, 2), (37, .iload 5, 2), (39, .ifCond .le 17, 3), (42, .aload_n 0, 1), (43, .getfield 108, 3), (46, .iload 5, 2), (48, .baload, 1), (49, .ifCond .ne 7, 3), (52, .iconst 1, 1), (53, .goto 4, 3), (56, .iconst 0, 1), (57, .istore 6, 2), (59, .iconst 0, 1), (60, .istore 7, 2), (62, .aload_n 0, 1), (63, .iload_n 3, 1), (64, .invokevirtual 453, 3), (67, .iload 6, 2), (69, .ifCond .eq 32, 3), (72, .iload_n 3, 1), (73, .iconst 3, 1), (74, .if_icmp .eq 8, 3), (77, .iload_n 3, 1), (78, .iconst 4, 1), (79, .if_icmp .ne 22, 3), (82, .aload_n 0, 1), (83, .getfield 105, 3), (86, .iload 5, 2), (88, .baload, 1), (89, .ifCond .ne 12, 3), (92, .aload_n 0, 1), (93, .iload 5, 2), (95, .iload_n 3, 1), (96, .invokevirtual 456, 3), (99, .istore 7, 2), (101, .aload_n 0, 1), (102, .iload_n 3, 1), (103, .invokevirtual 459, 3), (106, .iconst 0, 1), (107, .istore 8, 2), (109, .iload 6, 2), (111, .ifCond .eq 75, 3), (114, .iload 7, 2), (116, .ifCond .ne 70, 3), (119, .iload_n 3, 1), (120, .bipush 7, 2), (122, .if_icmp .ne 15, 3), (125, .aload_n 0, 1), (126, .iload_n 1, 1), (127, .iload 5, 2), (129, .invokevirtual 462, 3), (132, .istore 8, 2), (134, .goto 52, 3), (137, .iload_n 3, 1), (138, .bipush 8, 2), (140, .if_icmp .ne 12, 3), (143, .aload_n 0, 1), (144, .getfield 41, 3), (147, .iload_n 2, 1), (148, .iaload, 1), (149, .ifCond .le 37, 3), (152, .aload_n 0, 1), (153, .iload_n 1, 1), (154, .iload 5, 2), (156, .invokevirtual 465, 3), (159, .istore 8, 2), (161, .aload_n 0, 1), (162, .getfield 41, 3), (165, .iload_n 2, 1), (166, .dup2, 1), (167, .iaload, 1), (168, .iload_n 3, 1), (169, .bipush 8, 2), (171, .if_icmp .ne 12, 3), (174, .iload 8, 2), (176, .ifCond .eq 7, 3), (179, .iconst 1, 1), (180, .goto 4, 3), (183, .iconst 0, 1), (184, .isub, 1), (185, .iastore, 1), (186, .aload_n 0, 1), (187, .getfield 51, 3), (190, .iload_n 2, 1), (191, .iload 6, 2), (193, .ifCond .eq 8, 3), (196, .iload 8, 2), (198, .ifCond .eq 7, 3), (201, .iconst 0, 1), (202, .goto 11, 3), (205, .aload_n 0, 1), (206, .getfield 51, 3), (209, .iload_n 2, 1), (210, .iaload, 1), (211, .iconst 1, 1), (212, .iadd, 1), (213, .iastore, 1), (214, .aload_n 0, 1), (215, .getfield 19, 3), (218, .iload_n 2, 1), (219, .iaload, 1), (220, .iconst 2, 1), (221, .isub, 1), (222, .istore 9, 2), (224, .iload 9, 2), (226, .ifCond .lt 103, 3), (229, .aload_n 0, 1), (230, .getfield 69, 3), (233, .bipush 8, 2), (235, .iload_n 2, 1), (236, .imul, 1), (237, .iload 9, 2), (239, .iadd, 1), (240, .iaload, 1), (241, .istore 10, 2), (243, .iload 10, 2), (245, .ifCond .le 78, 3), (248, .aload_n 0, 1), (249, .getfield 108, 3), (252, .iload 10, 2), (254, .baload, 1), (255, .ifCond .ne 68, 3), (258, .aload_n 0, 1), (259, .getfield 69, 3), (262, .bipush 8, 2), (264, .iload_n 2, 1), (265, .imul, 1), (266, .iload 9, 2), (268, .iadd, 1), (269, .iconst 1, 1), (270, .iadd, 1), (271, .iaload, 1), (272, .ifCond .ne 51, 3), (275, .aload_n 0, 1), (276, .getfield 69, 3), (279, .bipush 8, 2), (281, .iload_n 2, 1), (282, .imul, 1), (283, .iload 9, 2), (285, .iadd, 1), (286, .iconst 1, 1), (287, .iadd, 1), (288, .iload 10, 2), (290, .iastore, 1), (291, .aload_n 0, 1), (292, .getfield 69, 3), (295, .bipush 8, 2), (297, .iload_n 2, 1), (298, .imul, 1), (299, .iload 9, 2), (301, .iadd, 1), (302, .iconst 0, 1), (303, .iastore, 1), (304, .aload_n 0, 1), (305, .getfield 81, 3), (308, .iload 10, 2), (310, .iload 9, 2), (312, .iconst 1, 1), (313, .iadd, 1), (314, .iastore, 1), (315, .aload_n 0, 1), (316, .getfield 108, 3), (319, .iload 10, 2), (321, .iconst 1, 1), (322, .bastore, 1), (323, .iinc 9 (-1), 3), (326, .goto (-102), 3), (329, .return_, 1)]
theorem dk_Mo_actTaker (i : Nat) {pc : Nat} {ins : Instr} {len : Nat} (h : dt_Mo_actTaker[i]? = some (pc, ins, len)) : decode m_Mo_actTaker.2.1 pc = .ok (ins, len) := p_dk (b := m_Mo_actTaker.2.1) (t := dt_Mo_actTaker) (by decide +kernel) i h
def B_Mo_actTaker_323 (k224 : Nat → Int → Int → p_Hp → Option p_Hp) (v0 : Nat) (v2 : Int) (v9 : Int) (s0 : p_Hp) : Option p_Hp :=
  p_bi (p_w (v9 + (-1))) fun x1 =>
  k224 v0 v2 x1 s0
def L_Mo_actTaker_224 (k224 : Nat → Int → Int → p_Hp → Option p_Hp) (v0 : Nat) (v2 : Int) (v9 : Int) (s0 : p_Hp) : Option p_Hp :=
  if v9 < 0 then
    some s0
  else
    p_gd (p_is s0 v0 11) <|
    p_gd (p_is s0 (p_R s0 v0 22) 100) <|
    p_gd ((0 : Int) ≤ (p_w ((p_w (8 * v2)) + v9)) ∧ (p_w ((p_w (8 * v2)) + v9)) < (p_L s0 (p_R s0 v0 22) : Int)) <|
    p_bi ((p_Z s0 (p_R s0 v0 22) ((p_w ((p_w (8 * v2)) + v9)) : Int).toNat)) fun x5 =>
    if x5 ≤ 0 then
      B_Mo_actTaker_323 k224 v0 v2 v9 s0
    else
      p_gd (p_is s0 (p_R s0 v0 36) 102) <|
      p_gd ((0 : Int) ≤ x5 ∧ x5 < (p_L s0 (p_R s0 v0 36) : Int)) <|
      if (p_Z s0 (p_R s0 v0 36) (x5 : Int).toNat) ≠ 0 then
        B_Mo_actTaker_323 k224 v0 v2 v9 s0
      else
        p_gd ((0 : Int) ≤ (p_w ((p_w ((p_w (8 * v2)) + v9)) + 1)) ∧ (p_w ((p_w ((p_w (8 * v2)) + v9)) + 1)) < (p_L s0 (p_R s0 v0 22) : Int)) <|
        if (p_Z s0 (p_R s0 v0 22) ((p_w ((p_w ((p_w (8 * v2)) + v9)) + 1)) : Int).toNat) ≠ 0 then
          B_Mo_actTaker_323 k224 v0 v2 v9 s0
        else
          p_gd ((0 : Int) ≤ (p_w ((p_w ((p_w (8 * v2)) + v9)) + 1)) ∧ (p_w ((p_w ((p_w (8 * v2)) + v9)) + 1)) < (p_L s0 (p_R s0 v0 22) : Int)) <|
          p_bi (p_wZ s0 (p_R s0 v0 22) ((p_w ((p_w ((p_w (8 * v2)) + v9)) + 1)) : Int).toNat x5) fun s13 =>
          p_gd (p_is s13 (p_R s13 v0 22) 100) <|
          p_gd ((0 : Int) ≤ (p_w ((p_w (8 * v2)) + v9)) ∧ (p_w ((p_w (8 * v2)) + v9)) < (p_L s13 (p_R s13 v0 22) : Int)) <|
          p_bi (p_wZ s13 (p_R s13 v0 22) ((p_w ((p_w (8 * v2)) + v9)) : Int).toNat 0) fun s17 =>
          p_gd (p_is s17 (p_R s17 v0 27) 100) <|
          p_gd ((0 : Int) ≤ x5 ∧ x5 < (p_L s17 (p_R s17 v0 27) : Int)) <|
          p_bi (p_wZ s17 (p_R s17 v0 27) (x5 : Int).toNat (p_w (v9 + 1))) fun s21 =>
          p_gd (p_is s21 (p_R s21 v0 36) 102) <|
          p_gd ((0 : Int) ≤ x5 ∧ x5 < (p_L s21 (p_R s21 v0 36) : Int)) <|
          p_bi (p_wZ s21 (p_R s21 v0 36) (x5 : Int).toNat 1) fun s25 =>
          B_Mo_actTaker_323 k224 v0 v2 v9 s25
def O_Mo_actTaker_224  : Nat → Nat → Int → Int → p_Hp → Option p_Hp
  | 0 => fun _ _ _ _ => none
  | n + 1 => L_Mo_actTaker_224 (O_Mo_actTaker_224 n)
def B_Mo_actTaker_213  (v0 : Nat) (v2 : Int) (w0 : Int) (w1 : Int) (w2 : Nat) (s0 : p_Hp) : Option p_Hp :=
  p_gd (p_is s0 w2 100) <|
  p_gd ((0 : Int) ≤ w1 ∧ w1 < (p_L s0 w2 : Int)) <|
  p_bi (p_wZ s0 w2 (w1 : Int).toNat w0) fun s3 =>
  p_gd (p_is s3 v0 11) <|
  p_gd (p_is s3 (p_R s3 v0 6) 100) <|
  p_gd ((0 : Int) ≤ v2 ∧ v2 < (p_L s3 (p_R s3 v0 6) : Int)) <|
  p_bi ((p_w ((p_Z s3 (p_R s3 v0 6) (v2 : Int).toNat) - 2))) fun x8 =>
  O_Mo_actTaker_224 3000 v0 v2 x8 s3
def B_Mo_actTaker_201  (v0 : Nat) (v2 : Int) (w0 : Int) (w1 : Nat) (s0 : p_Hp) : Option p_Hp :=
  B_Mo_actTaker_213 v0 v2 0 w0 w1 s0
def B_Mo_actTaker_186  (v0 : Nat) (v2 : Int) (v6 : Int) (v8 : Int) (s0 : p_Hp) : Option p_Hp :=
  p_gd (p_is s0 v0 11) <|
  if v6 = 0 then
    B_Mo_actTaker_201 v0 v2 v2 (p_R s0 v0 16) s0
  else
    if v8 = 0 then
      p_gd (p_is s0 (p_R s0 v0 16) 100) <|
      p_gd ((0 : Int) ≤ v2 ∧ v2 < (p_L s0 (p_R s0 v0 16) : Int)) <|
      B_Mo_actTaker_213 v0 v2 (p_w ((p_Z s0 (p_R s0 v0 16) (v2 : Int).toNat) + 1)) v2 (p_R s0 v0 16) s0
    else
      B_Mo_actTaker_201 v0 v2 v2 (p_R s0 v0 16) s0
def B_Mo_actTaker_184  (v0 : Nat) (v2 : Int) (v6 : Int) (v8 : Int) (w0 : Int) (w1 : Int) (w2 : Int) (w3 : Nat) (s0 : p_Hp) : Option p_Hp :=
  p_gd (p_is s0 w3 100) <|
  p_gd ((0 : Int) ≤ w2 ∧ w2 < (p_L s0 w3 : Int)) <|
  p_bi (p_wZ s0 w3 (w2 : Int).toNat (p_w (w1 - w0))) fun s3 =>
  B_Mo_actTaker_186 v0 v2 v6 v8 s3
def B_Mo_actTaker_183  (v0 : Nat) (v2 : Int) (v6 : Int) (v8 : Int) (w0 : Int) (w1 : Int) (w2 : Nat) (s0 : p_Hp) : Option p_Hp :=
  B_Mo_actTaker_184 v0 v2 v6 v8 0 w0 w1 w2 s0
def B_Mo_actTaker_152  (v0 : Nat) (v1 : Int) (v2 : Int) (v3 : Int) (v5 : Int) (v6 : Int) (s0 : p_Hp) : Option p_Hp :=
  p_gd (p_is s0 v0 11) <|
  p_bd (F_Mo_gives v0 v1 v5 s0) fun r6 s2 =>
  p_gd (p_is s2 (p_R s2 v0 13) 100) <|
  p_gd ((0 : Int) ≤ v2 ∧ v2 < (p_L s2 (p_R s2 v0 13) : Int)) <|
  if v3 ≠ 8 then
    B_Mo_actTaker_183 v0 v2 v6 r6 (p_Z s2 (p_R s2 v0 13) (v2 : Int).toNat) v2 (p_R s2 v0 13) s2
  else
    if r6 = 0 then
      B_Mo_actTaker_183 v0 v2 v6 r6 (p_Z s2 (p_R s2 v0 13) (v2 : Int).toNat) v2 (p_R s2 v0 13) s2
    else
      B_Mo_actTaker_184 v0 v2 v6 r6 1 (p_Z s2 (p_R s2 v0 13) (v2 : Int).toNat) v2 (p_R s2 v0 13) s2
def B_Mo_actTaker_101  (v0 : Nat) (v1 : Int) (v2 : Int) (v3 : Int) (v5 : Int) (v6 : Int) (v7 : Int) (s0 : p_Hp) : Option p_Hp :=
  p_gd (p_is s0 v0 11) <|
  p_bv (F_Mo_bodiesLast v0 v3 s0) fun s2 =>
  if v6 = 0 then
    B_Mo_actTaker_186 v0 v2 v6 0 s2
  else
    if v7 ≠ 0 then
      B_Mo_actTaker_186 v0 v2 v6 0 s2
    else
      if v3 ≠ 7 then
        if v3 ≠ 8 then
          B_Mo_actTaker_152 v0 v1 v2 v3 v5 v6 s2
        else
          p_gd (p_is s2 (p_R s2 v0 13) 100) <|
          p_gd ((0 : Int) ≤ v2 ∧ v2 < (p_L s2 (p_R s2 v0 13) : Int)) <|
          if (p_Z s2 (p_R s2 v0 13) (v2 : Int).toNat) ≤ 0 then
            B_Mo_actTaker_186 v0 v2 v6 0 s2
          else
            B_Mo_actTaker_152 v0 v1 v2 v3 v5 v6 s2
      else
        p_bd (F_Mo_givesOut v0 v1 v5 s2) fun r17 s13 =>
        B_Mo_actTaker_186 v0 v2 v6 r17 s13
def B_Mo_actTaker_82  (v0 : Nat) (v1 : Int) (v2 : Int) (v3 : Int) (v5 : Int) (v6 : Int) (v7 : Int) (s0 : p_Hp) : Option p_Hp :=
  p_gd (p_is s0 v0 11) <|
  p_gd (p_is s0 (p_R s0 v0 35) 102) <|
  p_gd ((0 : Int) ≤ v5 ∧ v5 < (p_L s0 (p_R s0 v0 35) : Int)) <|
  if (p_Z s0 (p_R s0 v0 35) (v5 : Int).toNat) ≠ 0 then
    B_Mo_actTaker_101 v0 v1 v2 v3 v5 v6 v7 s0
  else
    p_bd (F_Mo_scans v0 v5 v3 s0) fun r9 s5 =>
    B_Mo_actTaker_101 v0 v1 v2 v3 v5 v6 r9 s5
def B_Mo_actTaker_57  (v0 : Nat) (v1 : Int) (v2 : Int) (v3 : Int) (v5 : Int) (w0 : Int) (s0 : p_Hp) : Option p_Hp :=
  p_gd (p_is s0 v0 11) <|
  p_bv (F_Mo_bodies v0 v3 s0) fun s2 =>
  if w0 = 0 then
    B_Mo_actTaker_101 v0 v1 v2 v3 v5 w0 0 s2
  else
    if v3 = 3 then
      B_Mo_actTaker_82 v0 v1 v2 v3 v5 w0 0 s2
    else
      if v3 ≠ 4 then
        B_Mo_actTaker_101 v0 v1 v2 v3 v5 w0 0 s2
      else
        B_Mo_actTaker_82 v0 v1 v2 v3 v5 w0 0 s2
def B_Mo_actTaker_56  (v0 : Nat) (v1 : Int) (v2 : Int) (v3 : Int) (v5 : Int) (s0 : p_Hp) : Option p_Hp :=
  B_Mo_actTaker_57 v0 v1 v2 v3 v5 0 s0
def F_Mo_actTaker (v0 : Nat) (v1 : Int) (s0 : p_Hp) : Option p_Hp :=
  p_gd (p_is s0 v0 11) <|
  p_bd (F_Mo_g v0 v1 s0) fun r6 s2 =>
  p_gd (p_is s2 (p_R s2 v0 5) 100) <|
  p_gd ((0 : Int) ≤ r6 ∧ r6 < (p_L s2 (p_R s2 v0 5) : Int)) <|
  p_bi ((p_Z s2 (p_R s2 v0 5) (r6 : Int).toNat)) fun x9 =>
  p_gd (p_is s2 (p_R s2 v0 6) 100) <|
  p_gd ((0 : Int) ≤ r6 ∧ r6 < (p_L s2 (p_R s2 v0 6) : Int)) <|
  p_bi ((p_w ((p_w ((p_w (8 * r6)) + (p_Z s2 (p_R s2 v0 6) (r6 : Int).toNat))) - 1))) fun x12 =>
  p_gd (p_is s2 (p_R s2 v0 22) 100) <|
  p_gd ((0 : Int) ≤ x12 ∧ x12 < (p_L s2 (p_R s2 v0 22) : Int)) <|
  p_bi ((p_Z s2 (p_R s2 v0 22) (x12 : Int).toNat)) fun x15 =>
  if x15 ≤ 0 then
    B_Mo_actTaker_56 v0 v1 r6 x9 x15 s2
  else
    p_gd (p_is s2 (p_R s2 v0 36) 102) <|
    p_gd ((0 : Int) ≤ x15 ∧ x15 < (p_L s2 (p_R s2 v0 36) : Int)) <|
    if (p_Z s2 (p_R s2 v0 36) (x15 : Int).toNat) ≠ 0 then
      B_Mo_actTaker_56 v0 v1 r6 x9 x15 s2
    else
      B_Mo_actTaker_57 v0 v1 r6 x9 x15 1 s2
set_option maxRecDepth 100000 in
set_option maxHeartbeats 4000000 in
theorem tB_Mo_actTaker_323 (K : p_K) (l : Launch) (k224 : Nat → Int → Int → p_Hp → Option p_Hp) (hk224 : ∀ (v0 : Nat) (v2 : Int) (v9 : Int)  (s0 : p_Hp) (r : p_Hp), k224 v0 v2 v9 s0 = some r → p_Go K l m_Mo_actTaker 224 [(0, p_r v0), (2, p_i v2), (9, p_i v9)] [] s0 (none, r)) (v0 : Nat) (v2 : Int) (v9 : Int) (s0 : p_Hp) (r : p_Hp) (h : B_Mo_actTaker_323 k224 v0 v2 v9 s0 = some r) : p_Go K l m_Mo_actTaker 323 [(0, p_r v0), (2, p_i v2), (9, p_i v9)] [] s0 (none, r) := by
  unfold B_Mo_actTaker_323 at h
  refine g_iinc (j := 2) [(9, p_i (p_w (v9 + (-1)))), (0, p_r v0), (2, p_i v2)] (dk_Mo_actTaker 189 rfl) rfl (by decide) rfl ?_
  refine p_ltG (P := fun q => p_Go K l m_Mo_actTaker 326 [(9, p_i q), (0, p_r v0), (2, p_i v2)] [] s0 _) ?_ h
  intro x1 h
  refine g_goto 224 (dk_Mo_actTaker 190 rfl) (by decide) ?_
  refine g_sub [(0, p_r v0), (2, p_i v2), (9, p_i x1)] [1, 2, 0] rfl ?_
  exact hk224 v0 v2 x1 s0 _ h
set_option maxRecDepth 100000 in
set_option maxHeartbeats 4000000 in
theorem tL_Mo_actTaker_224 (K : p_K) (l : Launch) (k224 : Nat → Int → Int → p_Hp → Option p_Hp) (hk224 : ∀ (v0 : Nat) (v2 : Int) (v9 : Int)  (s0 : p_Hp) (r : p_Hp), k224 v0 v2 v9 s0 = some r → p_Go K l m_Mo_actTaker 224 [(0, p_r v0), (2, p_i v2), (9, p_i v9)] [] s0 (none, r)) (v0 : Nat) (v2 : Int) (v9 : Int) (s0 : p_Hp) (r : p_Hp) (h : L_Mo_actTaker_224 k224 v0 v2 v9 s0 = some r) : p_Go K l m_Mo_actTaker 224 [(0, p_r v0), (2, p_i v2), (9, p_i v9)] [] s0 (none, r) := by
  unfold L_Mo_actTaker_224 at h
  refine g_iload (j := 2) (dk_Mo_actTaker 128 rfl) rfl ?_
  refine g_if_lt 329 (dk_Mo_actTaker 129 rfl) (by decide) (fun b1 => ?_) (fun b1 => ?_)
  · have h := p_ifT b1 h
    cases h
    exact g_ret rfl rfl (dk_Mo_actTaker 191 rfl) (fun _ => rfl)
  · have h := p_ifF b1 h
    refine g_aload_n (i := 0) (j := 0) (dk_Mo_actTaker 130 rfl) rfl rfl ?_
    obtain ⟨c2, h⟩ := p_gdE h
    refine g_getR fl_Mo_69 (Or.inr ⟨_, rfl⟩) (dk_Mo_actTaker 131 rfl) c2 ?_
    refine g_bipush (dk_Mo_actTaker 132 rfl) (by decide +kernel) (by decide) ?_
    refine g_iload_n (i := 2) (j := 1) (dk_Mo_actTaker 133 rfl) rfl rfl ?_
    refine g_imul (dk_Mo_actTaker 134 rfl) ?_
    refine g_iload (j := 2) (dk_Mo_actTaker 135 rfl) rfl ?_
    refine g_iadd (dk_Mo_actTaker 136 rfl) ?_
    obtain ⟨c3, h⟩ := p_gdE h
    obtain ⟨c4, h⟩ := p_gdE h
    refine g_iaload (dk_Mo_actTaker 137 rfl) c3 c4.1 c4.2 ?_
    refine g_istore [(10, p_i (p_Z s0 (p_R s0 v0 22) ((p_w ((p_w (8 * v2)) + v9)) : Int).toNat)), (0, p_r v0), (2, p_i v2), (9, p_i v9)] (dk_Mo_actTaker 138 rfl) (by decide) rfl ?_
    refine p_ltG (P := fun q => p_Go K l m_Mo_actTaker 243 [(10, p_i q), (0, p_r v0), (2, p_i v2), (9, p_i v9)] [] s0 _) ?_ h
    intro x5 h
    refine g_iload (j := 0) (dk_Mo_actTaker 139 rfl) rfl ?_
    refine g_if_le 323 (dk_Mo_actTaker 140 rfl) (by decide) (fun b6 => ?_) (fun b6 => ?_)
    · have h := p_ifT b6 h
      refine g_sub [(0, p_r v0), (2, p_i v2), (9, p_i v9)] [1, 2, 3] rfl ?_
      exact tB_Mo_actTaker_323 K l k224 hk224 v0 v2 v9 s0 _ h
    · have h := p_ifF b6 h
      refine g_aload_n (i := 0) (j := 1) (dk_Mo_actTaker 141 rfl) rfl rfl ?_
      refine g_getR fl_Mo_108 (Or.inr ⟨_, rfl⟩) (dk_Mo_actTaker 142 rfl) c2 ?_
      refine g_iload (j := 0) (dk_Mo_actTaker 143 rfl) rfl ?_
      obtain ⟨c7, h⟩ := p_gdE h
      obtain ⟨c8, h⟩ := p_gdE h
      refine g_baload (dk_Mo_actTaker 144 rfl) c7 c8.1 c8.2 ?_
      refine g_if_ne 323 (dk_Mo_actTaker 145 rfl) (by decide) (fun b9 => ?_) (fun b9 => ?_)
      · have h := p_ifT b9 h
        refine g_sub [(0, p_r v0), (2, p_i v2), (9, p_i v9)] [1, 2, 3] rfl ?_
        exact tB_Mo_actTaker_323 K l k224 hk224 v0 v2 v9 s0 _ h
      · have h := p_ifF b9 h
        refine g_aload_n (i := 0) (j := 1) (dk_Mo_actTaker 146 rfl) rfl rfl ?_
        refine g_getR fl_Mo_69 (Or.inr ⟨_, rfl⟩) (dk_Mo_actTaker 147 rfl) c2 ?_
        refine g_bipush (dk_Mo_actTaker 148 rfl) (by decide +kernel) (by decide) ?_
        refine g_iload_n (i := 2) (j := 2) (dk_Mo_actTaker 149 rfl) rfl rfl ?_
        refine g_imul (dk_Mo_actTaker 150 rfl) ?_
        refine g_iload (j := 3) (dk_Mo_actTaker 151 rfl) rfl ?_
        refine g_iadd (dk_Mo_actTaker 152 rfl) ?_
        refine g_iconst (dk_Mo_actTaker 153 rfl) (by decide) ?_
        refine g_iadd (dk_Mo_actTaker 154 rfl) ?_
        obtain ⟨c10, h⟩ := p_gdE h
        refine g_iaload (dk_Mo_actTaker 155 rfl) c3 c10.1 c10.2 ?_
        refine g_if_ne 323 (dk_Mo_actTaker 156 rfl) (by decide) (fun b11 => ?_) (fun b11 => ?_)
        · have h := p_ifT b11 h
          refine g_sub [(0, p_r v0), (2, p_i v2), (9, p_i v9)] [1, 2, 3] rfl ?_
          exact tB_Mo_actTaker_323 K l k224 hk224 v0 v2 v9 s0 _ h
        · have h := p_ifF b11 h
          refine g_aload_n (i := 0) (j := 1) (dk_Mo_actTaker 157 rfl) rfl rfl ?_
          refine g_getR fl_Mo_69 (Or.inr ⟨_, rfl⟩) (dk_Mo_actTaker 158 rfl) c2 ?_
          refine g_bipush (dk_Mo_actTaker 159 rfl) (by decide +kernel) (by decide) ?_
          refine g_iload_n (i := 2) (j := 2) (dk_Mo_actTaker 160 rfl) rfl rfl ?_
          refine g_imul (dk_Mo_actTaker 161 rfl) ?_
          refine g_iload (j := 3) (dk_Mo_actTaker 162 rfl) rfl ?_
          refine g_iadd (dk_Mo_actTaker 163 rfl) ?_
          refine g_iconst (dk_Mo_actTaker 164 rfl) (by decide) ?_
          refine g_iadd (dk_Mo_actTaker 165 rfl) ?_
          refine g_iload (j := 0) (dk_Mo_actTaker 166 rfl) rfl ?_
          obtain ⟨c12, h⟩ := p_gdE h
          refine g_iastore (dk_Mo_actTaker 167 rfl) c3 c12.1 c12.2 ?_
          refine p_ltS (P := fun q => p_Go K l m_Mo_actTaker 291 [(10, p_i x5), (0, p_r v0), (2, p_i v2), (9, p_i v9)] [] q _) (p_xZ _ _ _ _) ?_ h
          intro s13 hs14 h
          refine g_aload_n (i := 0) (j := 1) (dk_Mo_actTaker 168 rfl) rfl rfl ?_
          refine g_getR fl_Mo_69 (Or.inr ⟨_, rfl⟩) (dk_Mo_actTaker 169 rfl) (c2.up hs14) ?_
          refine g_bipush (dk_Mo_actTaker 170 rfl) (by decide +kernel) (by decide) ?_
          refine g_iload_n (i := 2) (j := 2) (dk_Mo_actTaker 171 rfl) rfl rfl ?_
          refine g_imul (dk_Mo_actTaker 172 rfl) ?_
          refine g_iload (j := 3) (dk_Mo_actTaker 173 rfl) rfl ?_
          refine g_iadd (dk_Mo_actTaker 174 rfl) ?_
          refine g_iconst (dk_Mo_actTaker 175 rfl) (by decide) ?_
          obtain ⟨c15, h⟩ := p_gdE h
          obtain ⟨c16, h⟩ := p_gdE h
          refine g_iastore (dk_Mo_actTaker 176 rfl) c15 c16.1 c16.2 ?_
          refine p_ltS (P := fun q => p_Go K l m_Mo_actTaker 304 [(10, p_i x5), (0, p_r v0), (2, p_i v2), (9, p_i v9)] [] q _) (p_xZ _ _ _ _) ?_ h
          intro s17 hs18 h
          refine g_aload_n (i := 0) (j := 1) (dk_Mo_actTaker 177 rfl) rfl rfl ?_
          refine g_getR fl_Mo_81 (Or.inr ⟨_, rfl⟩) (dk_Mo_actTaker 178 rfl) (c2.up (hs14.trans hs18)) ?_
          refine g_iload (j := 0) (dk_Mo_actTaker 179 rfl) rfl ?_
          refine g_iload (j := 3) (dk_Mo_actTaker 180 rfl) rfl ?_
          refine g_iconst (dk_Mo_actTaker 181 rfl) (by decide) ?_
          refine g_iadd (dk_Mo_actTaker 182 rfl) ?_
          obtain ⟨c19, h⟩ := p_gdE h
          obtain ⟨c20, h⟩ := p_gdE h
          refine g_iastore (dk_Mo_actTaker 183 rfl) c19 c20.1 c20.2 ?_
          refine p_ltS (P := fun q => p_Go K l m_Mo_actTaker 315 [(10, p_i x5), (0, p_r v0), (2, p_i v2), (9, p_i v9)] [] q _) (p_xZ _ _ _ _) ?_ h
          intro s21 hs22 h
          refine g_aload_n (i := 0) (j := 1) (dk_Mo_actTaker 184 rfl) rfl rfl ?_
          refine g_getR fl_Mo_108 (Or.inr ⟨_, rfl⟩) (dk_Mo_actTaker 185 rfl) (c2.up (hs14.trans (hs18.trans hs22))) ?_
          refine g_iload (j := 0) (dk_Mo_actTaker 186 rfl) rfl ?_
          refine g_iconst (dk_Mo_actTaker 187 rfl) (by decide) ?_
          obtain ⟨c23, h⟩ := p_gdE h
          obtain ⟨c24, h⟩ := p_gdE h
          refine g_bastore (dk_Mo_actTaker 188 rfl) c23 c24.1 c24.2 (Or.inr rfl) ?_
          refine p_ltS (P := fun q => p_Go K l m_Mo_actTaker 323 [(10, p_i x5), (0, p_r v0), (2, p_i v2), (9, p_i v9)] [] q _) (p_xZ _ _ _ _) ?_ h
          intro s25 hs26 h
          refine g_sub [(0, p_r v0), (2, p_i v2), (9, p_i v9)] [1, 2, 3] rfl ?_
          exact tB_Mo_actTaker_323 K l k224 hk224 v0 v2 v9 s25 _ h
set_option maxRecDepth 100000 in
set_option maxHeartbeats 4000000 in
theorem tO_Mo_actTaker_224 (K : p_K) (l : Launch)  : ∀ (n : Nat) (v0 : Nat) (v2 : Int) (v9 : Int) (s0 : p_Hp) (r : p_Hp), O_Mo_actTaker_224 n v0 v2 v9 s0 = some r → p_Go K l m_Mo_actTaker 224 [(0, p_r v0), (2, p_i v2), (9, p_i v9)] [] s0 (none, r) := by
  intro n
  induction n with
  | zero => intro v0 v2 v9 s0 r h; cases (show (none : Option p_Hp) = some r from h)
  | succ n ih => intro v0 v2 v9 s0 r h; exact tL_Mo_actTaker_224 K l _ ih v0 v2 v9 s0 r h
set_option maxRecDepth 100000 in
set_option maxHeartbeats 4000000 in
theorem tB_Mo_actTaker_213 (K : p_K) (l : Launch)  (v0 : Nat) (v2 : Int) (w0 : Int) (w1 : Int) (w2 : Nat) (s0 : p_Hp) (r : p_Hp) (h : B_Mo_actTaker_213 v0 v2 w0 w1 w2 s0 = some r) : p_Go K l m_Mo_actTaker 213 [(0, p_r v0), (2, p_i v2)] [p_i w0, p_i w1, p_r w2] s0 (none, r) := by
  unfold B_Mo_actTaker_213 at h
  obtain ⟨c1, h⟩ := p_gdE h
  obtain ⟨c2, h⟩ := p_gdE h
  refine g_iastore (dk_Mo_actTaker 120 rfl) c1 c2.1 c2.2 ?_
  refine p_ltS (P := fun q => p_Go K l m_Mo_actTaker 214 [(0, p_r v0), (2, p_i v2)] [] q _) (p_xZ _ _ _ _) ?_ h
  intro s3 hs4 h
  refine g_aload_n (i := 0) (j := 0) (dk_Mo_actTaker 121 rfl) rfl rfl ?_
  obtain ⟨c5, h⟩ := p_gdE h
  refine g_getR fl_Mo_19 (Or.inr ⟨_, rfl⟩) (dk_Mo_actTaker 122 rfl) c5 ?_
  refine g_iload_n (i := 2) (j := 1) (dk_Mo_actTaker 123 rfl) rfl rfl ?_
  obtain ⟨c6, h⟩ := p_gdE h
  obtain ⟨c7, h⟩ := p_gdE h
  refine g_iaload (dk_Mo_actTaker 124 rfl) c6 c7.1 c7.2 ?_
  refine g_iconst (dk_Mo_actTaker 125 rfl) (by decide) ?_
  refine g_isub (dk_Mo_actTaker 126 rfl) ?_
  refine g_istore [(9, p_i (p_w ((p_Z s3 (p_R s3 v0 6) (v2 : Int).toNat) - 2))), (0, p_r v0), (2, p_i v2)] (dk_Mo_actTaker 127 rfl) (by decide) rfl ?_
  refine p_ltG (P := fun q => p_Go K l m_Mo_actTaker 224 [(9, p_i q), (0, p_r v0), (2, p_i v2)] [] s3 _) ?_ h
  intro x8 h
  refine g_sub [(0, p_r v0), (2, p_i v2), (9, p_i x8)] [1, 2, 0] rfl ?_
  exact tO_Mo_actTaker_224 K l 3000 v0 v2 x8 s3 _ h
set_option maxRecDepth 100000 in
set_option maxHeartbeats 4000000 in
theorem tB_Mo_actTaker_201 (K : p_K) (l : Launch)  (v0 : Nat) (v2 : Int) (w0 : Int) (w1 : Nat) (s0 : p_Hp) (r : p_Hp) (h : B_Mo_actTaker_201 v0 v2 w0 w1 s0 = some r) : p_Go K l m_Mo_actTaker 201 [(0, p_r v0), (2, p_i v2)] [p_i w0, p_r w1] s0 (none, r) := by
  unfold B_Mo_actTaker_201 at h
  refine g_iconst (dk_Mo_actTaker 112 rfl) (by decide) ?_
  refine g_goto 213 (dk_Mo_actTaker 113 rfl) (by decide) ?_
  exact tB_Mo_actTaker_213 K l v0 v2 0 w0 w1 s0 _ h
set_option maxRecDepth 100000 in
set_option maxHeartbeats 4000000 in
theorem tB_Mo_actTaker_186 (K : p_K) (l : Launch)  (v0 : Nat) (v2 : Int) (v6 : Int) (v8 : Int) (s0 : p_Hp) (r : p_Hp) (h : B_Mo_actTaker_186 v0 v2 v6 v8 s0 = some r) : p_Go K l m_Mo_actTaker 186 [(0, p_r v0), (2, p_i v2), (6, p_i v6), (8, p_i v8)] [] s0 (none, r) := by
  unfold B_Mo_actTaker_186 at h
  refine g_aload_n (i := 0) (j := 0) (dk_Mo_actTaker 105 rfl) rfl rfl ?_
  obtain ⟨c1, h⟩ := p_gdE h
  refine g_getR fl_Mo_51 (Or.inr ⟨_, rfl⟩) (dk_Mo_actTaker 106 rfl) c1 ?_
  refine g_iload_n (i := 2) (j := 1) (dk_Mo_actTaker 107 rfl) rfl rfl ?_
  refine g_iload (j := 2) (dk_Mo_actTaker 108 rfl) rfl ?_
  refine g_if_eq 201 (dk_Mo_actTaker 109 rfl) (by decide) (fun b2 => ?_) (fun b2 => ?_)
  · have h := p_ifT b2 h
    refine g_sub [(0, p_r v0), (2, p_i v2)] [0, 1] rfl ?_
    exact tB_Mo_actTaker_201 K l v0 v2 v2 (p_R s0 v0 16) s0 _ h
  · have h := p_ifF b2 h
    refine g_iload (j := 3) (dk_Mo_actTaker 110 rfl) rfl ?_
    refine g_if_eq 205 (dk_Mo_actTaker 111 rfl) (by decide) (fun b3 => ?_) (fun b3 => ?_)
    · have h := p_ifT b3 h
      refine g_aload_n (i := 0) (j := 0) (dk_Mo_actTaker 114 rfl) rfl rfl ?_
      refine g_getR fl_Mo_51 (Or.inr ⟨_, rfl⟩) (dk_Mo_actTaker 115 rfl) c1 ?_
      refine g_iload_n (i := 2) (j := 1) (dk_Mo_actTaker 116 rfl) rfl rfl ?_
      obtain ⟨c4, h⟩ := p_gdE h
      obtain ⟨c5, h⟩ := p_gdE h
      refine g_iaload (dk_Mo_actTaker 117 rfl) c4 c5.1 c5.2 ?_
      refine g_iconst (dk_Mo_actTaker 118 rfl) (by decide) ?_
      refine g_iadd (dk_Mo_actTaker 119 rfl) ?_
      refine g_sub [(0, p_r v0), (2, p_i v2)] [0, 1] rfl ?_
      exact tB_Mo_actTaker_213 K l v0 v2 (p_w ((p_Z s0 (p_R s0 v0 16) (v2 : Int).toNat) + 1)) v2 (p_R s0 v0 16) s0 _ h
    · have h := p_ifF b3 h
      refine g_sub [(0, p_r v0), (2, p_i v2)] [0, 1] rfl ?_
      exact tB_Mo_actTaker_201 K l v0 v2 v2 (p_R s0 v0 16) s0 _ h
set_option maxRecDepth 100000 in
set_option maxHeartbeats 4000000 in
theorem tB_Mo_actTaker_184 (K : p_K) (l : Launch)  (v0 : Nat) (v2 : Int) (v6 : Int) (v8 : Int) (w0 : Int) (w1 : Int) (w2 : Int) (w3 : Nat) (s0 : p_Hp) (r : p_Hp) (h : B_Mo_actTaker_184 v0 v2 v6 v8 w0 w1 w2 w3 s0 = some r) : p_Go K l m_Mo_actTaker 184 [(0, p_r v0), (2, p_i v2), (6, p_i v6), (8, p_i v8)] [p_i w0, p_i w1, p_i w2, p_r w3] s0 (none, r) := by
  unfold B_Mo_actTaker_184 at h
  refine g_isub (dk_Mo_actTaker 103 rfl) ?_
  obtain ⟨c1, h⟩ := p_gdE h
  obtain ⟨c2, h⟩ := p_gdE h
  refine g_iastore (dk_Mo_actTaker 104 rfl) c1 c2.1 c2.2 ?_
  refine p_ltS (P := fun q => p_Go K l m_Mo_actTaker 186 [(0, p_r v0), (2, p_i v2), (6, p_i v6), (8, p_i v8)] [] q _) (p_xZ _ _ _ _) ?_ h
  intro s3 hs4 h
  exact tB_Mo_actTaker_186 K l v0 v2 v6 v8 s3 _ h
set_option maxRecDepth 100000 in
set_option maxHeartbeats 4000000 in
theorem tB_Mo_actTaker_183 (K : p_K) (l : Launch)  (v0 : Nat) (v2 : Int) (v6 : Int) (v8 : Int) (w0 : Int) (w1 : Int) (w2 : Nat) (s0 : p_Hp) (r : p_Hp) (h : B_Mo_actTaker_183 v0 v2 v6 v8 w0 w1 w2 s0 = some r) : p_Go K l m_Mo_actTaker 183 [(0, p_r v0), (2, p_i v2), (6, p_i v6), (8, p_i v8)] [p_i w0, p_i w1, p_r w2] s0 (none, r) := by
  unfold B_Mo_actTaker_183 at h
  refine g_iconst (dk_Mo_actTaker 102 rfl) (by decide) ?_
  exact tB_Mo_actTaker_184 K l v0 v2 v6 v8 0 w0 w1 w2 s0 _ h
set_option maxRecDepth 100000 in
set_option maxHeartbeats 4000000 in
theorem tB_Mo_actTaker_152 (K : p_K) (l : Launch)  (v0 : Nat) (v1 : Int) (v2 : Int) (v3 : Int) (v5 : Int) (v6 : Int) (s0 : p_Hp) (r : p_Hp) (h : B_Mo_actTaker_152 v0 v1 v2 v3 v5 v6 s0 = some r) : p_Go K l m_Mo_actTaker 152 [(0, p_r v0), (1, p_i v1), (2, p_i v2), (3, p_i v3), (5, p_i v5), (6, p_i v6)] [] s0 (none, r) := by
  unfold B_Mo_actTaker_152 at h
  refine g_aload_n (i := 0) (j := 0) (dk_Mo_actTaker 85 rfl) rfl rfl ?_
  refine g_iload_n (i := 1) (j := 1) (dk_Mo_actTaker 86 rfl) rfl rfl ?_
  refine g_iload (j := 4) (dk_Mo_actTaker 87 rfl) rfl ?_
  obtain ⟨c1, h⟩ := p_gdE h
  obtain ⟨r6, s2, q3, h⟩ := p_bdE h
  have t4 := tF_Mo_gives K l v0 v1 v5 s0 _ q3
  refine g_callV (a := v0) (ci := 11) (q0 := (RX11, TX11, 90)) (As := [p_i v1, p_i v5]) (rest := []) [p_i r6] mt_Mo_gives rfl rfl tw_8_168 ts_96 tw_8_166 ⟨Nat.le_of_ble_eq_true rfl, Nat.le_of_ble_eq_true rfl⟩ rfl (Nat.le_of_ble_eq_true rfl) (dk_Mo_actTaker 88 rfl) rfl c1 rfl t4 ?_
  have hs5 : p_x s0 s2 := t4.1
  show p_Go K l m_Mo_actTaker 159 [(0, p_r v0), (1, p_i v1), (2, p_i v2), (3, p_i v3), (5, p_i v5), (6, p_i v6)] [p_i r6] s2 _
  refine g_istore [(8, p_i r6), (0, p_r v0), (1, p_i v1), (2, p_i v2), (3, p_i v3), (5, p_i v5), (6, p_i v6)] (dk_Mo_actTaker 89 rfl) (by decide) rfl ?_
  refine g_aload_n (i := 0) (j := 1) (dk_Mo_actTaker 90 rfl) rfl rfl ?_
  refine g_getR fl_Mo_41 (Or.inr ⟨_, rfl⟩) (dk_Mo_actTaker 91 rfl) (c1.up hs5) ?_
  refine g_iload_n (i := 2) (j := 3) (dk_Mo_actTaker 92 rfl) rfl rfl ?_
  refine g_dup2 (dk_Mo_actTaker 93 rfl) rfl rfl ?_
  obtain ⟨c7, h⟩ := p_gdE h
  obtain ⟨c8, h⟩ := p_gdE h
  refine g_iaload (dk_Mo_actTaker 94 rfl) c7 c8.1 c8.2 ?_
  refine g_iload_n (i := 3) (j := 4) (dk_Mo_actTaker 95 rfl) rfl rfl ?_
  refine g_bipush (dk_Mo_actTaker 96 rfl) (by decide +kernel) (by decide) ?_
  refine g_icmp_ne 183 (dk_Mo_actTaker 97 rfl) (by decide) (fun b9 => ?_) (fun b9 => ?_)
  · have h := p_ifT b9 h
    refine g_sub [(0, p_r v0), (2, p_i v2), (6, p_i v6), (8, p_i r6)] [1, 3, 6, 0] rfl ?_
    exact tB_Mo_actTaker_183 K l v0 v2 v6 r6 (p_Z s2 (p_R s2 v0 13) (v2 : Int).toNat) v2 (p_R s2 v0 13) s2 _ h
  · have h := p_ifF b9 h
    refine g_iload (j := 0) (dk_Mo_actTaker 98 rfl) rfl ?_
    refine g_if_eq 183 (dk_Mo_actTaker 99 rfl) (by decide) (fun b10 => ?_) (fun b10 => ?_)
    · have h := p_ifT b10 h
      refine g_sub [(0, p_r v0), (2, p_i v2), (6, p_i v6), (8, p_i r6)] [1, 3, 6, 0] rfl ?_
      exact tB_Mo_actTaker_183 K l v0 v2 v6 r6 (p_Z s2 (p_R s2 v0 13) (v2 : Int).toNat) v2 (p_R s2 v0 13) s2 _ h
    · have h := p_ifF b10 h
      refine g_iconst (dk_Mo_actTaker 100 rfl) (by decide) ?_
      refine g_goto 184 (dk_Mo_actTaker 101 rfl) (by decide) ?_
      refine g_sub [(0, p_r v0), (2, p_i v2), (6, p_i v6), (8, p_i r6)] [1, 3, 6, 0] rfl ?_
      exact tB_Mo_actTaker_184 K l v0 v2 v6 r6 1 (p_Z s2 (p_R s2 v0 13) (v2 : Int).toNat) v2 (p_R s2 v0 13) s2 _ h
set_option maxRecDepth 100000 in
set_option maxHeartbeats 4000000 in
theorem tB_Mo_actTaker_101 (K : p_K) (l : Launch)  (v0 : Nat) (v1 : Int) (v2 : Int) (v3 : Int) (v5 : Int) (v6 : Int) (v7 : Int) (s0 : p_Hp) (r : p_Hp) (h : B_Mo_actTaker_101 v0 v1 v2 v3 v5 v6 v7 s0 = some r) : p_Go K l m_Mo_actTaker 101 [(0, p_r v0), (1, p_i v1), (2, p_i v2), (3, p_i v3), (5, p_i v5), (6, p_i v6), (7, p_i v7)] [] s0 (none, r) := by
  unfold B_Mo_actTaker_101 at h
  refine g_aload_n (i := 0) (j := 0) (dk_Mo_actTaker 59 rfl) rfl rfl ?_
  refine g_iload_n (i := 3) (j := 3) (dk_Mo_actTaker 60 rfl) rfl rfl ?_
  obtain ⟨c1, h⟩ := p_gdE h
  obtain ⟨s2, q3, h⟩ := p_bvE h
  have t4 := tF_Mo_bodiesLast K l v0 v3 s0 _ q3
  refine g_callV (a := v0) (ci := 11) (q0 := (RX11, TX11, 90)) (As := [p_i v3]) (rest := []) [] mt_Mo_bodiesLast rfl rfl tw_8_156 ts_93 tw_8_154 ⟨Nat.le_of_ble_eq_true rfl, Nat.le_of_ble_eq_true rfl⟩ rfl (Nat.le_of_ble_eq_true rfl) (dk_Mo_actTaker 61 rfl) rfl c1 rfl t4 ?_
  have hs5 : p_x s0 s2 := t4.1
  show p_Go K l m_Mo_actTaker 106 [(0, p_r v0), (1, p_i v1), (2, p_i v2), (3, p_i v3), (5, p_i v5), (6, p_i v6), (7, p_i v7)] [] s2 _
  refine g_iconst (dk_Mo_actTaker 62 rfl) (by decide) ?_
  refine g_istore [(8, p_i 0), (0, p_r v0), (1, p_i v1), (2, p_i v2), (3, p_i v3), (5, p_i v5), (6, p_i v6), (7, p_i v7)] (dk_Mo_actTaker 63 rfl) (by decide) rfl ?_
  refine g_iload (j := 6) (dk_Mo_actTaker 64 rfl) rfl ?_
  refine g_if_eq 186 (dk_Mo_actTaker 65 rfl) (by decide) (fun b6 => ?_) (fun b6 => ?_)
  · have h := p_ifT b6 h
    refine g_sub [(0, p_r v0), (2, p_i v2), (6, p_i v6), (8, p_i 0)] [1, 3, 6, 0] rfl ?_
    exact tB_Mo_actTaker_186 K l v0 v2 v6 0 s2 _ h
  · have h := p_ifF b6 h
    refine g_iload (j := 7) (dk_Mo_actTaker 66 rfl) rfl ?_
    refine g_if_ne 186 (dk_Mo_actTaker 67 rfl) (by decide) (fun b7 => ?_) (fun b7 => ?_)
    · have h := p_ifT b7 h
      refine g_sub [(0, p_r v0), (2, p_i v2), (6, p_i v6), (8, p_i 0)] [1, 3, 6, 0] rfl ?_
      exact tB_Mo_actTaker_186 K l v0 v2 v6 0 s2 _ h
    · have h := p_ifF b7 h
      refine g_iload_n (i := 3) (j := 4) (dk_Mo_actTaker 68 rfl) rfl rfl ?_
      refine g_bipush (dk_Mo_actTaker 69 rfl) (by decide +kernel) (by decide) ?_
      refine g_icmp_ne 137 (dk_Mo_actTaker 70 rfl) (by decide) (fun b8 => ?_) (fun b8 => ?_)
      · have h := p_ifT b8 h
        refine g_iload_n (i := 3) (j := 4) (dk_Mo_actTaker 77 rfl) rfl rfl ?_
        refine g_bipush (dk_Mo_actTaker 78 rfl) (by decide +kernel) (by decide) ?_
        refine g_icmp_ne 152 (dk_Mo_actTaker 79 rfl) (by decide) (fun b9 => ?_) (fun b9 => ?_)
        · have h := p_ifT b9 h
          refine g_sub [(0, p_r v0), (1, p_i v1), (2, p_i v2), (3, p_i v3), (5, p_i v5), (6, p_i v6)] [1, 2, 3, 4, 5, 6] rfl ?_
          exact tB_Mo_actTaker_152 K l v0 v1 v2 v3 v5 v6 s2 _ h
        · have h := p_ifF b9 h
          refine g_aload_n (i := 0) (j := 1) (dk_Mo_actTaker 80 rfl) rfl rfl ?_
          refine g_getR fl_Mo_41 (Or.inr ⟨_, rfl⟩) (dk_Mo_actTaker 81 rfl) (c1.up hs5) ?_
          refine g_iload_n (i := 2) (j := 3) (dk_Mo_actTaker 82 rfl) rfl rfl ?_
          obtain ⟨c10, h⟩ := p_gdE h
          obtain ⟨c11, h⟩ := p_gdE h
          refine g_iaload (dk_Mo_actTaker 83 rfl) c10 c11.1 c11.2 ?_
          refine g_if_le 186 (dk_Mo_actTaker 84 rfl) (by decide) (fun b12 => ?_) (fun b12 => ?_)
          · have h := p_ifT b12 h
            refine g_sub [(0, p_r v0), (2, p_i v2), (6, p_i v6), (8, p_i 0)] [1, 3, 6, 0] rfl ?_
            exact tB_Mo_actTaker_186 K l v0 v2 v6 0 s2 _ h
          · have h := p_ifF b12 h
            refine g_sub [(0, p_r v0), (1, p_i v1), (2, p_i v2), (3, p_i v3), (5, p_i v5), (6, p_i v6)] [1, 2, 3, 4, 5, 6] rfl ?_
            exact tB_Mo_actTaker_152 K l v0 v1 v2 v3 v5 v6 s2 _ h
      · have h := p_ifF b8 h
        refine g_aload_n (i := 0) (j := 1) (dk_Mo_actTaker 71 rfl) rfl rfl ?_
        refine g_iload_n (i := 1) (j := 2) (dk_Mo_actTaker 72 rfl) rfl rfl ?_
        refine g_iload (j := 5) (dk_Mo_actTaker 73 rfl) rfl ?_
        obtain ⟨r17, s13, q14, h⟩ := p_bdE h
        have t15 := tF_Mo_givesOut K l v0 v1 v5 s2 _ q14
        refine g_callV (a := v0) (ci := 11) (q0 := (RX11, TX11, 90)) (As := [p_i v1, p_i v5]) (rest := []) [p_i r17] mt_Mo_givesOut rfl rfl tw_8_160 ts_94 tw_8_158 ⟨Nat.le_of_ble_eq_true rfl, Nat.le_of_ble_eq_true rfl⟩ rfl (Nat.le_of_ble_eq_true rfl) (dk_Mo_actTaker 74 rfl) rfl (c1.up hs5) rfl t15 ?_
        have hs16 : p_x s2 s13 := t15.1
        show p_Go K l m_Mo_actTaker 132 [(8, p_i 0), (0, p_r v0), (1, p_i v1), (2, p_i v2), (3, p_i v3), (5, p_i v5), (6, p_i v6), (7, p_i v7)] [p_i r17] s13 _
        refine g_istore [(8, p_i r17), (0, p_r v0), (1, p_i v1), (2, p_i v2), (3, p_i v3), (5, p_i v5), (6, p_i v6), (7, p_i v7)] (dk_Mo_actTaker 75 rfl) (by decide) rfl ?_
        refine g_goto 186 (dk_Mo_actTaker 76 rfl) (by decide) ?_
        refine g_sub [(0, p_r v0), (2, p_i v2), (6, p_i v6), (8, p_i r17)] [1, 3, 6, 0] rfl ?_
        exact tB_Mo_actTaker_186 K l v0 v2 v6 r17 s13 _ h
set_option maxRecDepth 100000 in
set_option maxHeartbeats 4000000 in
theorem tB_Mo_actTaker_82 (K : p_K) (l : Launch)  (v0 : Nat) (v1 : Int) (v2 : Int) (v3 : Int) (v5 : Int) (v6 : Int) (v7 : Int) (s0 : p_Hp) (r : p_Hp) (h : B_Mo_actTaker_82 v0 v1 v2 v3 v5 v6 v7 s0 = some r) : p_Go K l m_Mo_actTaker 82 [(0, p_r v0), (1, p_i v1), (2, p_i v2), (3, p_i v3), (5, p_i v5), (6, p_i v6), (7, p_i v7)] [] s0 (none, r) := by
  unfold B_Mo_actTaker_82 at h
  refine g_aload_n (i := 0) (j := 0) (dk_Mo_actTaker 49 rfl) rfl rfl ?_
  obtain ⟨c1, h⟩ := p_gdE h
  refine g_getR fl_Mo_105 (Or.inr ⟨_, rfl⟩) (dk_Mo_actTaker 50 rfl) c1 ?_
  refine g_iload (j := 4) (dk_Mo_actTaker 51 rfl) rfl ?_
  obtain ⟨c2, h⟩ := p_gdE h
  obtain ⟨c3, h⟩ := p_gdE h
  refine g_baload (dk_Mo_actTaker 52 rfl) c2 c3.1 c3.2 ?_
  refine g_if_ne 101 (dk_Mo_actTaker 53 rfl) (by decide) (fun b4 => ?_) (fun b4 => ?_)
  · have h := p_ifT b4 h
    exact tB_Mo_actTaker_101 K l v0 v1 v2 v3 v5 v6 v7 s0 _ h
  · have h := p_ifF b4 h
    refine g_aload_n (i := 0) (j := 0) (dk_Mo_actTaker 54 rfl) rfl rfl ?_
    refine g_iload (j := 4) (dk_Mo_actTaker 55 rfl) rfl ?_
    refine g_iload_n (i := 3) (j := 3) (dk_Mo_actTaker 56 rfl) rfl rfl ?_
    obtain ⟨r9, s5, q6, h⟩ := p_bdE h
    have t7 := tF_Mo_scans K l v0 v5 v3 s0 _ q6
    refine g_callV (a := v0) (ci := 11) (q0 := (RX11, TX11, 90)) (As := [p_i v5, p_i v3]) (rest := []) [p_i r9] mt_Mo_scans rfl rfl tw_8_136 ts_88 tw_8_134 ⟨Nat.le_of_ble_eq_true rfl, Nat.le_of_ble_eq_true rfl⟩ rfl (Nat.le_of_ble_eq_true rfl) (dk_Mo_actTaker 57 rfl) rfl c1 rfl t7 ?_
    have hs8 : p_x s0 s5 := t7.1
    show p_Go K l m_Mo_actTaker 99 [(0, p_r v0), (1, p_i v1), (2, p_i v2), (3, p_i v3), (5, p_i v5), (6, p_i v6), (7, p_i v7)] [p_i r9] s5 _
    refine g_istore [(7, p_i r9), (0, p_r v0), (1, p_i v1), (2, p_i v2), (3, p_i v3), (5, p_i v5), (6, p_i v6)] (dk_Mo_actTaker 58 rfl) (by decide) rfl ?_
    refine g_sub [(0, p_r v0), (1, p_i v1), (2, p_i v2), (3, p_i v3), (5, p_i v5), (6, p_i v6), (7, p_i r9)] [1, 2, 3, 4, 5, 6, 0] rfl ?_
    exact tB_Mo_actTaker_101 K l v0 v1 v2 v3 v5 v6 r9 s5 _ h
set_option maxRecDepth 100000 in
set_option maxHeartbeats 4000000 in
theorem tB_Mo_actTaker_57 (K : p_K) (l : Launch)  (v0 : Nat) (v1 : Int) (v2 : Int) (v3 : Int) (v5 : Int) (w0 : Int) (s0 : p_Hp) (r : p_Hp) (h : B_Mo_actTaker_57 v0 v1 v2 v3 v5 w0 s0 = some r) : p_Go K l m_Mo_actTaker 57 [(0, p_r v0), (1, p_i v1), (2, p_i v2), (3, p_i v3), (5, p_i v5)] [p_i w0] s0 (none, r) := by
  unfold B_Mo_actTaker_57 at h
  refine g_istore [(6, p_i w0), (0, p_r v0), (1, p_i v1), (2, p_i v2), (3, p_i v3), (5, p_i v5)] (dk_Mo_actTaker 35 rfl) (by decide) rfl ?_
  refine g_iconst (dk_Mo_actTaker 36 rfl) (by decide) ?_
  refine g_istore [(7, p_i 0), (6, p_i w0), (0, p_r v0), (1, p_i v1), (2, p_i v2), (3, p_i v3), (5, p_i v5)] (dk_Mo_actTaker 37 rfl) (by decide) rfl ?_
  refine g_aload_n (i := 0) (j := 2) (dk_Mo_actTaker 38 rfl) rfl rfl ?_
  refine g_iload_n (i := 3) (j := 5) (dk_Mo_actTaker 39 rfl) rfl rfl ?_
  obtain ⟨c1, h⟩ := p_gdE h
  obtain ⟨s2, q3, h⟩ := p_bvE h
  have t4 := tF_Mo_bodies K l v0 v3 s0 _ q3
  refine g_callV (a := v0) (ci := 11) (q0 := (RX11, TX11, 90)) (As := [p_i v3]) (rest := []) [] mt_Mo_bodies rfl rfl tw_8_132 ts_87 tw_8_130 ⟨Nat.le_of_ble_eq_true rfl, Nat.le_of_ble_eq_true rfl⟩ rfl (Nat.le_of_ble_eq_true rfl) (dk_Mo_actTaker 40 rfl) rfl c1 rfl t4 ?_
  have hs5 : p_x s0 s2 := t4.1
  show p_Go K l m_Mo_actTaker 67 [(7, p_i 0), (6, p_i w0), (0, p_r v0), (1, p_i v1), (2, p_i v2), (3, p_i v3), (5, p_i v5)] [] s2 _
  refine g_iload (j := 1) (dk_Mo_actTaker 41 rfl) rfl ?_
  refine g_if_eq 101 (dk_Mo_actTaker 42 rfl) (by decide) (fun b6 => ?_) (fun b6 => ?_)
  · have h := p_ifT b6 h
    refine g_sub [(0, p_r v0), (1, p_i v1), (2, p_i v2), (3, p_i v3), (5, p_i v5), (6, p_i w0), (7, p_i 0)] [2, 3, 4, 5, 6, 1, 0] rfl ?_
    exact tB_Mo_actTaker_101 K l v0 v1 v2 v3 v5 w0 0 s2 _ h
  · have h := p_ifF b6 h
    refine g_iload_n (i := 3) (j := 5) (dk_Mo_actTaker 43 rfl) rfl rfl ?_
    refine g_iconst (dk_Mo_actTaker 44 rfl) (by decide) ?_
    refine g_icmp_eq 82 (dk_Mo_actTaker 45 rfl) (by decide) (fun b7 => ?_) (fun b7 => ?_)
    · have h := p_ifT b7 h
      refine g_sub [(0, p_r v0), (1, p_i v1), (2, p_i v2), (3, p_i v3), (5, p_i v5), (6, p_i w0), (7, p_i 0)] [2, 3, 4, 5, 6, 1, 0] rfl ?_
      exact tB_Mo_actTaker_82 K l v0 v1 v2 v3 v5 w0 0 s2 _ h
    · have h := p_ifF b7 h
      refine g_iload_n (i := 3) (j := 5) (dk_Mo_actTaker 46 rfl) rfl rfl ?_
      refine g_iconst (dk_Mo_actTaker 47 rfl) (by decide) ?_
      refine g_icmp_ne 101 (dk_Mo_actTaker 48 rfl) (by decide) (fun b8 => ?_) (fun b8 => ?_)
      · have h := p_ifT b8 h
        refine g_sub [(0, p_r v0), (1, p_i v1), (2, p_i v2), (3, p_i v3), (5, p_i v5), (6, p_i w0), (7, p_i 0)] [2, 3, 4, 5, 6, 1, 0] rfl ?_
        exact tB_Mo_actTaker_101 K l v0 v1 v2 v3 v5 w0 0 s2 _ h
      · have h := p_ifF b8 h
        refine g_sub [(0, p_r v0), (1, p_i v1), (2, p_i v2), (3, p_i v3), (5, p_i v5), (6, p_i w0), (7, p_i 0)] [2, 3, 4, 5, 6, 1, 0] rfl ?_
        exact tB_Mo_actTaker_82 K l v0 v1 v2 v3 v5 w0 0 s2 _ h
set_option maxRecDepth 100000 in
set_option maxHeartbeats 4000000 in
theorem tB_Mo_actTaker_56 (K : p_K) (l : Launch)  (v0 : Nat) (v1 : Int) (v2 : Int) (v3 : Int) (v5 : Int) (s0 : p_Hp) (r : p_Hp) (h : B_Mo_actTaker_56 v0 v1 v2 v3 v5 s0 = some r) : p_Go K l m_Mo_actTaker 56 [(0, p_r v0), (1, p_i v1), (2, p_i v2), (3, p_i v3), (5, p_i v5)] [] s0 (none, r) := by
  unfold B_Mo_actTaker_56 at h
  refine g_iconst (dk_Mo_actTaker 34 rfl) (by decide) ?_
  exact tB_Mo_actTaker_57 K l v0 v1 v2 v3 v5 0 s0 _ h
set_option maxRecDepth 100000 in
set_option maxHeartbeats 4000000 in
theorem tF_Mo_actTaker (K : p_K) (l : Launch) (v0 : Nat) (v1 : Int) (s0 : p_Hp) (r : p_Hp) (h : F_Mo_actTaker v0 v1 s0 = some r) : p_Ct K l m_Mo_actTaker [p_r v0, p_i v1] s0 (none, r) := by
  refine p_Ct.of (by decide +kernel) (Nat.le_of_ble_eq_true rfl) ?_
  unfold F_Mo_actTaker at h
  show p_Go K l m_Mo_actTaker 0 [(0, p_r v0), (1, p_i v1)] [] s0 _
  refine g_aload_n (i := 0) (j := 0) (dk_Mo_actTaker 0 rfl) rfl rfl ?_
  refine g_iload_n (i := 1) (j := 1) (dk_Mo_actTaker 1 rfl) rfl rfl ?_
  obtain ⟨c1, h⟩ := p_gdE h
  obtain ⟨r6, s2, q3, h⟩ := p_bdE h
  have t4 := tF_Mo_g K l v0 v1 s0 _ q3
  refine g_callV (a := v0) (ci := 11) (q0 := (RX11, TX11, 90)) (As := [p_i v1]) (rest := []) [p_i r6] mt_Mo_g rfl rfl tw_7_84 ts_45 tw_7_82 ⟨Nat.le_of_ble_eq_true rfl, Nat.le_of_ble_eq_true rfl⟩ rfl (Nat.le_of_ble_eq_true rfl) (dk_Mo_actTaker 2 rfl) rfl c1 rfl t4 ?_
  have hs5 : p_x s0 s2 := t4.1
  show p_Go K l m_Mo_actTaker 5 [(0, p_r v0), (1, p_i v1)] [p_i r6] s2 _
  refine g_istore_n (i := 2) [(2, p_i r6), (0, p_r v0), (1, p_i v1)] (dk_Mo_actTaker 3 rfl) rfl (by decide) rfl ?_
  refine g_aload_n (i := 0) (j := 1) (dk_Mo_actTaker 4 rfl) rfl rfl ?_
  refine g_getR fl_Mo_16 (Or.inr ⟨_, rfl⟩) (dk_Mo_actTaker 5 rfl) (c1.up hs5) ?_
  refine g_iload_n (i := 2) (j := 0) (dk_Mo_actTaker 6 rfl) rfl rfl ?_
  obtain ⟨c7, h⟩ := p_gdE h
  obtain ⟨c8, h⟩ := p_gdE h
  refine g_iaload (dk_Mo_actTaker 7 rfl) c7 c8.1 c8.2 ?_
  refine g_istore_n (i := 3) [(3, p_i (p_Z s2 (p_R s2 v0 5) (r6 : Int).toNat)), (2, p_i r6), (0, p_r v0), (1, p_i v1)] (dk_Mo_actTaker 8 rfl) rfl (by decide) rfl ?_
  refine p_ltG (P := fun q => p_Go K l m_Mo_actTaker 13 [(3, p_i q), (2, p_i r6), (0, p_r v0), (1, p_i v1)] [] s2 _) ?_ h
  intro x9 h
  refine g_bipush (dk_Mo_actTaker 9 rfl) (by decide +kernel) (by decide) ?_
  refine g_iload_n (i := 2) (j := 1) (dk_Mo_actTaker 10 rfl) rfl rfl ?_
  refine g_imul (dk_Mo_actTaker 11 rfl) ?_
  refine g_aload_n (i := 0) (j := 2) (dk_Mo_actTaker 12 rfl) rfl rfl ?_
  refine g_getR fl_Mo_19 (Or.inr ⟨_, rfl⟩) (dk_Mo_actTaker 13 rfl) (c1.up hs5) ?_
  refine g_iload_n (i := 2) (j := 1) (dk_Mo_actTaker 14 rfl) rfl rfl ?_
  obtain ⟨c10, h⟩ := p_gdE h
  obtain ⟨c11, h⟩ := p_gdE h
  refine g_iaload (dk_Mo_actTaker 15 rfl) c10 c11.1 c11.2 ?_
  refine g_iadd (dk_Mo_actTaker 16 rfl) ?_
  refine g_iconst (dk_Mo_actTaker 17 rfl) (by decide) ?_
  refine g_isub (dk_Mo_actTaker 18 rfl) ?_
  refine g_istore [(4, p_i (p_w ((p_w ((p_w (8 * r6)) + (p_Z s2 (p_R s2 v0 6) (r6 : Int).toNat))) - 1))), (3, p_i x9), (2, p_i r6), (0, p_r v0), (1, p_i v1)] (dk_Mo_actTaker 19 rfl) (by decide) rfl ?_
  refine p_ltG (P := fun q => p_Go K l m_Mo_actTaker 28 [(4, p_i q), (3, p_i x9), (2, p_i r6), (0, p_r v0), (1, p_i v1)] [] s2 _) ?_ h
  intro x12 h
  refine g_aload_n (i := 0) (j := 3) (dk_Mo_actTaker 20 rfl) rfl rfl ?_
  refine g_getR fl_Mo_69 (Or.inr ⟨_, rfl⟩) (dk_Mo_actTaker 21 rfl) (c1.up hs5) ?_
  refine g_iload (j := 0) (dk_Mo_actTaker 22 rfl) rfl ?_
  obtain ⟨c13, h⟩ := p_gdE h
  obtain ⟨c14, h⟩ := p_gdE h
  refine g_iaload (dk_Mo_actTaker 23 rfl) c13 c14.1 c14.2 ?_
  refine g_istore [(5, p_i (p_Z s2 (p_R s2 v0 22) (x12 : Int).toNat)), (4, p_i x12), (3, p_i x9), (2, p_i r6), (0, p_r v0), (1, p_i v1)] (dk_Mo_actTaker 24 rfl) (by decide) rfl ?_
  refine p_ltG (P := fun q => p_Go K l m_Mo_actTaker 37 [(5, p_i q), (4, p_i x12), (3, p_i x9), (2, p_i r6), (0, p_r v0), (1, p_i v1)] [] s2 _) ?_ h
  intro x15 h
  refine g_iload (j := 0) (dk_Mo_actTaker 25 rfl) rfl ?_
  refine g_if_le 56 (dk_Mo_actTaker 26 rfl) (by decide) (fun b16 => ?_) (fun b16 => ?_)
  · have h := p_ifT b16 h
    refine g_sub [(0, p_r v0), (1, p_i v1), (2, p_i r6), (3, p_i x9), (5, p_i x15)] [4, 5, 3, 2, 0] rfl ?_
    exact tB_Mo_actTaker_56 K l v0 v1 r6 x9 x15 s2 _ h
  · have h := p_ifF b16 h
    refine g_aload_n (i := 0) (j := 4) (dk_Mo_actTaker 27 rfl) rfl rfl ?_
    refine g_getR fl_Mo_108 (Or.inr ⟨_, rfl⟩) (dk_Mo_actTaker 28 rfl) (c1.up hs5) ?_
    refine g_iload (j := 0) (dk_Mo_actTaker 29 rfl) rfl ?_
    obtain ⟨c17, h⟩ := p_gdE h
    obtain ⟨c18, h⟩ := p_gdE h
    refine g_baload (dk_Mo_actTaker 30 rfl) c17 c18.1 c18.2 ?_
    refine g_if_ne 56 (dk_Mo_actTaker 31 rfl) (by decide) (fun b19 => ?_) (fun b19 => ?_)
    · have h := p_ifT b19 h
      refine g_sub [(0, p_r v0), (1, p_i v1), (2, p_i r6), (3, p_i x9), (5, p_i x15)] [4, 5, 3, 2, 0] rfl ?_
      exact tB_Mo_actTaker_56 K l v0 v1 r6 x9 x15 s2 _ h
    · have h := p_ifF b19 h
      refine g_iconst (dk_Mo_actTaker 32 rfl) (by decide) ?_
      refine g_goto 57 (dk_Mo_actTaker 33 rfl) (by decide) ?_
      refine g_sub [(0, p_r v0), (1, p_i v1), (2, p_i r6), (3, p_i x9), (5, p_i x15)] [4, 5, 3, 2, 0] rfl ?_
      exact tB_Mo_actTaker_57 K l v0 v1 r6 x9 x15 1 s2 _ h
def m_Mo_act : p_Me := (⟨"SortWorksModel", "act", "(I)V"⟩, prog_13_method_82_code, 3, none, 7, 173)
theorem mt_Mo_act : p_Mt m_Mo_act 1 := ⟨p_mem (p_tb8 (List.mem_of_getElem? (i := 117) rfl)) rfl, tw_1_12, by decide +kernel, by decide +kernel, by decide +kernel⟩
def dt_Mo_act : List (Nat × Instr × Nat) := [(0, .aload_n 0, 1), (1, .iload_n 1, 1), (2, .invokevirtual 257, 3), (5, .istore_n 2, 1), (6, .aload_n 0, 1), (7, .iload_n 1, 1), (8, .putfield 379, 3), (11, .aload_n 0, 1), (12, .iconst 0, 1), (13, .putfield 382, 3), (16, .aload_n 0, 1), (17, .getfield 16, 3), (20, .iload_n 2, 1), (21, .iaload, 1), (22, .bipush 9, 2), (24, .if_icmp .ne 12, 3), (27, .aload_n 0, 1), (28, .bipush 10, 2), (30, .invokevirtual 441, 3), (33, .goto 33, 3), (36, .aload_n 0, 1), (37, .getfield 16, 3), (40, .iload_n 2, 1), (41, .iaload, 1), (42, .bipush 10, 2), (44, .if_icmp .ne 17, 3), (47, .aload_n 0, 1), (48, .bipush 11, 2), (50, .invokevirtual 441, 3), (53, .aload_n 0, 1), (54, .iload_n 1, 1), (55, .invokevirtual 468, 3), (58, .goto 8, 3), (61, .aload_n 0, 1), (62, .iload_n 1, 1), (63, .invokevirtual 471, 3), (66, .aload_n 0, 1), (67, .getfield 66, 3), (70, .iload_n 2, 1), (71, .dup2, 1), (72, .iaload, 1), (73, .iconst 1, 1), (74, .iadd, 1), (75, .iastore, 1), (76, .aload_n 0, 1), (77, .getfield 54, 3), (80, .iload_n 2, 1), (81, .aload_n 0, 1), (82, .getfield 16, 3), (85, .iload_n 2, 1), (86, .iaload, 1), (87, .bipush 9, 2), (89, .if_icmp .ne 20, 3), (92, .aload_n 0, 1), (93, .getfield 44, 3), (96, .iload_n 2, 1), (97, .baload, 1), (98, .ifCond .eq 7, 3), (101, .iconst 1, 1), (102, .goto 32, 3), (105, .iconst 0, 1), (106, .goto 28, 3), (109, .aload_n 0, 1), (110, .getfield 382, 3), (113, .ifCond .le 7, 3), (116, .iconst 3, 1), (117, .goto 17, 3), (120, .aload_n 0, 1), (121, .getfield 51, 3), (124, .iload_n 2, 1), (125, .iaload, 1), (126, .ifCond .le 7, 3), (129, .iconst 2, 1), (130, .goto 4, 3), (133, .iconst 1, 1), (134, .iastore, 1), (135, .return_, 1)]
theorem dk_Mo_act (i : Nat) {pc : Nat} {ins : Instr} {len : Nat} (h : dt_Mo_act[i]? = some (pc, ins, len)) : decode m_Mo_act.2.1 pc = .ok (ins, len) := p_dk (b := m_Mo_act.2.1) (t := dt_Mo_act) (by decide +kernel) i h
def B_Mo_act_66  (v0 : Nat) (v2 : Int) (s0 : p_Hp) : Option p_Hp :=
  p_gd (p_is s0 v0 11) <|
  p_gd (p_is s0 (p_R s0 v0 21) 100) <|
  p_gd ((0 : Int) ≤ v2 ∧ v2 < (p_L s0 (p_R s0 v0 21) : Int)) <|
  p_gd ((0 : Int) ≤ v2 ∧ v2 < (p_L s0 (p_R s0 v0 21) : Int)) <|
  p_bi (p_wZ s0 (p_R s0 v0 21) (v2 : Int).toNat (p_w ((p_Z s0 (p_R s0 v0 21) (v2 : Int).toNat) + 1))) fun s5 =>
  p_gd (p_is s5 (p_R s5 v0 5) 100) <|
  p_gd ((0 : Int) ≤ v2 ∧ v2 < (p_L s5 (p_R s5 v0 5) : Int)) <|
  if (p_Z s5 (p_R s5 v0 5) (v2 : Int).toNat) ≠ 9 then
    if (p_Z s5 v0 72) ≤ 0 then
      p_gd (p_is s5 (p_R s5 v0 16) 100) <|
      p_gd ((0 : Int) ≤ v2 ∧ v2 < (p_L s5 (p_R s5 v0 16) : Int)) <|
      if (p_Z s5 (p_R s5 v0 16) (v2 : Int).toNat) ≤ 0 then
        p_gd (p_is s5 (p_R s5 v0 17) 100) <|
        p_gd ((0 : Int) ≤ v2 ∧ v2 < (p_L s5 (p_R s5 v0 17) : Int)) <|
        p_bi (p_wZ s5 (p_R s5 v0 17) (v2 : Int).toNat 1) fun s16 =>
        some s16
      else
        p_gd (p_is s5 (p_R s5 v0 17) 100) <|
        p_gd ((0 : Int) ≤ v2 ∧ v2 < (p_L s5 (p_R s5 v0 17) : Int)) <|
        p_bi (p_wZ s5 (p_R s5 v0 17) (v2 : Int).toNat 2) fun s20 =>
        some s20
    else
      p_gd (p_is s5 (p_R s5 v0 17) 100) <|
      p_gd ((0 : Int) ≤ v2 ∧ v2 < (p_L s5 (p_R s5 v0 17) : Int)) <|
      p_bi (p_wZ s5 (p_R s5 v0 17) (v2 : Int).toNat 3) fun s24 =>
      some s24
  else
    p_gd (p_is s5 (p_R s5 v0 14) 102) <|
    p_gd ((0 : Int) ≤ v2 ∧ v2 < (p_L s5 (p_R s5 v0 14) : Int)) <|
    if (p_Z s5 (p_R s5 v0 14) (v2 : Int).toNat) = 0 then
      p_gd (p_is s5 (p_R s5 v0 17) 100) <|
      p_gd ((0 : Int) ≤ v2 ∧ v2 < (p_L s5 (p_R s5 v0 17) : Int)) <|
      p_bi (p_wZ s5 (p_R s5 v0 17) (v2 : Int).toNat 0) fun s31 =>
      some s31
    else
      p_gd (p_is s5 (p_R s5 v0 17) 100) <|
      p_gd ((0 : Int) ≤ v2 ∧ v2 < (p_L s5 (p_R s5 v0 17) : Int)) <|
      p_bi (p_wZ s5 (p_R s5 v0 17) (v2 : Int).toNat 1) fun s35 =>
      some s35
def F_Mo_act (v0 : Nat) (v1 : Int) (s0 : p_Hp) : Option p_Hp :=
  p_gd (p_is s0 v0 11) <|
  p_bd (F_Mo_g v0 v1 s0) fun r6 s2 =>
  p_bi (p_wZ s2 v0 71 v1) fun s7 =>
  p_bi (p_wZ s7 v0 72 0) fun s9 =>
  p_gd (p_is s9 (p_R s9 v0 5) 100) <|
  p_gd ((0 : Int) ≤ r6 ∧ r6 < (p_L s9 (p_R s9 v0 5) : Int)) <|
  if (p_Z s9 (p_R s9 v0 5) (r6 : Int).toNat) ≠ 9 then
    p_gd ((0 : Int) ≤ r6 ∧ r6 < (p_L s9 (p_R s9 v0 5) : Int)) <|
    if (p_Z s9 (p_R s9 v0 5) (r6 : Int).toNat) ≠ 10 then
      p_bv (F_Mo_actTaker v0 v1 s9) fun s16 =>
      B_Mo_act_66 v0 r6 s16
    else
      p_bv (F_Mo_body v0 11 s9) fun s20 =>
      p_bv (F_Mo_actPanel v0 v1 s20) fun s24 =>
      B_Mo_act_66 v0 r6 s24
  else
    p_bv (F_Mo_body v0 10 s9) fun s28 =>
    B_Mo_act_66 v0 r6 s28
set_option maxRecDepth 100000 in
set_option maxHeartbeats 4000000 in
theorem tB_Mo_act_66 (K : p_K) (l : Launch)  (v0 : Nat) (v2 : Int) (s0 : p_Hp) (r : p_Hp) (h : B_Mo_act_66 v0 v2 s0 = some r) : p_Go K l m_Mo_act 66 [(0, p_r v0), (2, p_i v2)] [] s0 (none, r) := by
  unfold B_Mo_act_66 at h
  refine g_aload_n (i := 0) (j := 0) (dk_Mo_act 36 rfl) rfl rfl ?_
  obtain ⟨c1, h⟩ := p_gdE h
  refine g_getR fl_Mo_66 (Or.inr ⟨_, rfl⟩) (dk_Mo_act 37 rfl) c1 ?_
  refine g_iload_n (i := 2) (j := 1) (dk_Mo_act 38 rfl) rfl rfl ?_
  refine g_dup2 (dk_Mo_act 39 rfl) rfl rfl ?_
  obtain ⟨c2, h⟩ := p_gdE h
  obtain ⟨c3, h⟩ := p_gdE h
  refine g_iaload (dk_Mo_act 40 rfl) c2 c3.1 c3.2 ?_
  refine g_iconst (dk_Mo_act 41 rfl) (by decide) ?_
  refine g_iadd (dk_Mo_act 42 rfl) ?_
  obtain ⟨c4, h⟩ := p_gdE h
  refine g_iastore (dk_Mo_act 43 rfl) c2 c4.1 c4.2 ?_
  refine p_ltS (P := fun q => p_Go K l m_Mo_act 76 [(0, p_r v0), (2, p_i v2)] [] q _) (p_xZ _ _ _ _) ?_ h
  intro s5 hs6 h
  refine g_aload_n (i := 0) (j := 0) (dk_Mo_act 44 rfl) rfl rfl ?_
  refine g_getR fl_Mo_54 (Or.inr ⟨_, rfl⟩) (dk_Mo_act 45 rfl) (c1.up hs6) ?_
  refine g_iload_n (i := 2) (j := 1) (dk_Mo_act 46 rfl) rfl rfl ?_
  refine g_aload_n (i := 0) (j := 0) (dk_Mo_act 47 rfl) rfl rfl ?_
  refine g_getR fl_Mo_16 (Or.inr ⟨_, rfl⟩) (dk_Mo_act 48 rfl) (c1.up hs6) ?_
  refine g_iload_n (i := 2) (j := 1) (dk_Mo_act 49 rfl) rfl rfl ?_
  obtain ⟨c7, h⟩ := p_gdE h
  obtain ⟨c8, h⟩ := p_gdE h
  refine g_iaload (dk_Mo_act 50 rfl) c7 c8.1 c8.2 ?_
  refine g_bipush (dk_Mo_act 51 rfl) (by decide +kernel) (by decide) ?_
  refine g_icmp_ne 109 (dk_Mo_act 52 rfl) (by decide) (fun b9 => ?_) (fun b9 => ?_)
  · have h := p_ifT b9 h
    refine g_aload_n (i := 0) (j := 0) (dk_Mo_act 62 rfl) rfl rfl ?_
    refine g_getI fl_Mo_382 (Or.inl rfl) (dk_Mo_act 63 rfl) (c1.up hs6) ?_
    refine g_if_le 120 (dk_Mo_act 64 rfl) (by decide) (fun b10 => ?_) (fun b10 => ?_)
    · have h := p_ifT b10 h
      refine g_aload_n (i := 0) (j := 0) (dk_Mo_act 67 rfl) rfl rfl ?_
      refine g_getR fl_Mo_51 (Or.inr ⟨_, rfl⟩) (dk_Mo_act 68 rfl) (c1.up hs6) ?_
      refine g_iload_n (i := 2) (j := 1) (dk_Mo_act 69 rfl) rfl rfl ?_
      obtain ⟨c11, h⟩ := p_gdE h
      obtain ⟨c12, h⟩ := p_gdE h
      refine g_iaload (dk_Mo_act 70 rfl) c11 c12.1 c12.2 ?_
      refine g_if_le 133 (dk_Mo_act 71 rfl) (by decide) (fun b13 => ?_) (fun b13 => ?_)
      · have h := p_ifT b13 h
        refine g_iconst (dk_Mo_act 74 rfl) (by decide) ?_
        obtain ⟨c14, h⟩ := p_gdE h
        obtain ⟨c15, h⟩ := p_gdE h
        refine g_iastore (dk_Mo_act 75 rfl) c14 c15.1 c15.2 ?_
        refine p_ltS (P := fun q => p_Go K l m_Mo_act 135 [(0, p_r v0), (2, p_i v2)] [] q _) (p_xZ _ _ _ _) ?_ h
        intro s16 hs17 h
        cases h
        exact g_ret rfl rfl (dk_Mo_act 76 rfl) (fun _ => rfl)
      · have h := p_ifF b13 h
        refine g_iconst (dk_Mo_act 72 rfl) (by decide) ?_
        refine g_goto 134 (dk_Mo_act 73 rfl) (by decide) ?_
        obtain ⟨c18, h⟩ := p_gdE h
        obtain ⟨c19, h⟩ := p_gdE h
        refine g_iastore (dk_Mo_act 75 rfl) c18 c19.1 c19.2 ?_
        refine p_ltS (P := fun q => p_Go K l m_Mo_act 135 [(0, p_r v0), (2, p_i v2)] [] q _) (p_xZ _ _ _ _) ?_ h
        intro s20 hs21 h
        cases h
        exact g_ret rfl rfl (dk_Mo_act 76 rfl) (fun _ => rfl)
    · have h := p_ifF b10 h
      refine g_iconst (dk_Mo_act 65 rfl) (by decide) ?_
      refine g_goto 134 (dk_Mo_act 66 rfl) (by decide) ?_
      obtain ⟨c22, h⟩ := p_gdE h
      obtain ⟨c23, h⟩ := p_gdE h
      refine g_iastore (dk_Mo_act 75 rfl) c22 c23.1 c23.2 ?_
      refine p_ltS (P := fun q => p_Go K l m_Mo_act 135 [(0, p_r v0), (2, p_i v2)] [] q _) (p_xZ _ _ _ _) ?_ h
      intro s24 hs25 h
      cases h
      exact g_ret rfl rfl (dk_Mo_act 76 rfl) (fun _ => rfl)
  · have h := p_ifF b9 h
    refine g_aload_n (i := 0) (j := 0) (dk_Mo_act 53 rfl) rfl rfl ?_
    refine g_getR fl_Mo_44 (Or.inr ⟨_, rfl⟩) (dk_Mo_act 54 rfl) (c1.up hs6) ?_
    refine g_iload_n (i := 2) (j := 1) (dk_Mo_act 55 rfl) rfl rfl ?_
    obtain ⟨c26, h⟩ := p_gdE h
    obtain ⟨c27, h⟩ := p_gdE h
    refine g_baload (dk_Mo_act 56 rfl) c26 c27.1 c27.2 ?_
    refine g_if_eq 105 (dk_Mo_act 57 rfl) (by decide) (fun b28 => ?_) (fun b28 => ?_)
    · have h := p_ifT b28 h
      refine g_iconst (dk_Mo_act 60 rfl) (by decide) ?_
      refine g_goto 134 (dk_Mo_act 61 rfl) (by decide) ?_
      obtain ⟨c29, h⟩ := p_gdE h
      obtain ⟨c30, h⟩ := p_gdE h
      refine g_iastore (dk_Mo_act 75 rfl) c29 c30.1 c30.2 ?_
      refine p_ltS (P := fun q => p_Go K l m_Mo_act 135 [(0, p_r v0), (2, p_i v2)] [] q _) (p_xZ _ _ _ _) ?_ h
      intro s31 hs32 h
      cases h
      exact g_ret rfl rfl (dk_Mo_act 76 rfl) (fun _ => rfl)
    · have h := p_ifF b28 h
      refine g_iconst (dk_Mo_act 58 rfl) (by decide) ?_
      refine g_goto 134 (dk_Mo_act 59 rfl) (by decide) ?_
      obtain ⟨c33, h⟩ := p_gdE h
      obtain ⟨c34, h⟩ := p_gdE h
      refine g_iastore (dk_Mo_act 75 rfl) c33 c34.1 c34.2 ?_
      refine p_ltS (P := fun q => p_Go K l m_Mo_act 135 [(0, p_r v0), (2, p_i v2)] [] q _) (p_xZ _ _ _ _) ?_ h
      intro s35 hs36 h
      cases h
      exact g_ret rfl rfl (dk_Mo_act 76 rfl) (fun _ => rfl)
set_option maxRecDepth 100000 in
set_option maxHeartbeats 4000000 in
theorem tF_Mo_act (K : p_K) (l : Launch) (v0 : Nat) (v1 : Int) (s0 : p_Hp) (r : p_Hp) (h : F_Mo_act v0 v1 s0 = some r) : p_Ct K l m_Mo_act [p_r v0, p_i v1] s0 (none, r) := by
  refine p_Ct.of (by decide +kernel) (Nat.le_of_ble_eq_true rfl) ?_
  unfold F_Mo_act at h
  show p_Go K l m_Mo_act 0 [(0, p_r v0), (1, p_i v1)] [] s0 _
  refine g_aload_n (i := 0) (j := 0) (dk_Mo_act 0 rfl) rfl rfl ?_
  refine g_iload_n (i := 1) (j := 1) (dk_Mo_act 1 rfl) rfl rfl ?_
  obtain ⟨c1, h⟩ := p_gdE h
  obtain ⟨r6, s2, q3, h⟩ := p_bdE h
  have t4 := tF_Mo_g K l v0 v1 s0 _ q3
  refine g_callV (a := v0) (ci := 11) (q0 := (RX11, TX11, 90)) (As := [p_i v1]) (rest := []) [p_i r6] mt_Mo_g rfl rfl tw_7_84 ts_45 tw_7_82 ⟨Nat.le_of_ble_eq_true rfl, Nat.le_of_ble_eq_true rfl⟩ rfl (Nat.le_of_ble_eq_true rfl) (dk_Mo_act 2 rfl) rfl c1 rfl t4 ?_
  have hs5 : p_x s0 s2 := t4.1
  show p_Go K l m_Mo_act 5 [(0, p_r v0), (1, p_i v1)] [p_i r6] s2 _
  refine g_istore_n (i := 2) [(2, p_i r6), (0, p_r v0), (1, p_i v1)] (dk_Mo_act 3 rfl) rfl (by decide) rfl ?_
  refine g_aload_n (i := 0) (j := 1) (dk_Mo_act 4 rfl) rfl rfl ?_
  refine g_iload_n (i := 1) (j := 2) (dk_Mo_act 5 rfl) rfl rfl ?_
  refine g_putI fl_Mo_379 (Or.inl rfl) (dk_Mo_act 6 rfl) (c1.up hs5) ?_
  refine p_ltS (P := fun q => p_Go K l m_Mo_act 11 [(2, p_i r6), (0, p_r v0), (1, p_i v1)] [] q _) (p_xZ _ _ _ _) ?_ h
  intro s7 hs8 h
  refine g_aload_n (i := 0) (j := 1) (dk_Mo_act 7 rfl) rfl rfl ?_
  refine g_iconst (dk_Mo_act 8 rfl) (by decide) ?_
  refine g_putI fl_Mo_382 (Or.inl rfl) (dk_Mo_act 9 rfl) (c1.up (hs5.trans hs8)) ?_
  refine p_ltS (P := fun q => p_Go K l m_Mo_act 16 [(2, p_i r6), (0, p_r v0), (1, p_i v1)] [] q _) (p_xZ _ _ _ _) ?_ h
  intro s9 hs10 h
  refine g_aload_n (i := 0) (j := 1) (dk_Mo_act 10 rfl) rfl rfl ?_
  refine g_getR fl_Mo_16 (Or.inr ⟨_, rfl⟩) (dk_Mo_act 11 rfl) (c1.up (hs5.trans (hs8.trans hs10))) ?_
  refine g_iload_n (i := 2) (j := 0) (dk_Mo_act 12 rfl) rfl rfl ?_
  obtain ⟨c11, h⟩ := p_gdE h
  obtain ⟨c12, h⟩ := p_gdE h
  refine g_iaload (dk_Mo_act 13 rfl) c11 c12.1 c12.2 ?_
  refine g_bipush (dk_Mo_act 14 rfl) (by decide +kernel) (by decide) ?_
  refine g_icmp_ne 36 (dk_Mo_act 15 rfl) (by decide) (fun b13 => ?_) (fun b13 => ?_)
  · have h := p_ifT b13 h
    refine g_aload_n (i := 0) (j := 1) (dk_Mo_act 20 rfl) rfl rfl ?_
    refine g_getR fl_Mo_16 (Or.inr ⟨_, rfl⟩) (dk_Mo_act 21 rfl) (c1.up (hs5.trans (hs8.trans hs10))) ?_
    refine g_iload_n (i := 2) (j := 0) (dk_Mo_act 22 rfl) rfl rfl ?_
    obtain ⟨c14, h⟩ := p_gdE h
    refine g_iaload (dk_Mo_act 23 rfl) c11 c14.1 c14.2 ?_
    refine g_bipush (dk_Mo_act 24 rfl) (by decide +kernel) (by decide) ?_
    refine g_icmp_ne 61 (dk_Mo_act 25 rfl) (by decide) (fun b15 => ?_) (fun b15 => ?_)
    · have h := p_ifT b15 h
      refine g_aload_n (i := 0) (j := 1) (dk_Mo_act 33 rfl) rfl rfl ?_
      refine g_iload_n (i := 1) (j := 2) (dk_Mo_act 34 rfl) rfl rfl ?_
      obtain ⟨s16, q17, h⟩ := p_bvE h
      have t18 := tF_Mo_actTaker K l v0 v1 s9 _ q17
      refine g_callV (a := v0) (ci := 11) (q0 := (RX11, TX11, 90)) (As := [p_i v1]) (rest := []) [] mt_Mo_actTaker rfl rfl tw_8_128 ts_86 tw_8_126 ⟨Nat.le_of_ble_eq_true rfl, Nat.le_of_ble_eq_true rfl⟩ rfl (Nat.le_of_ble_eq_true rfl) (dk_Mo_act 35 rfl) rfl (c1.up (hs5.trans (hs8.trans hs10))) rfl t18 ?_
      have hs19 : p_x s9 s16 := t18.1
      show p_Go K l m_Mo_act 66 [(2, p_i r6), (0, p_r v0), (1, p_i v1)] [] s16 _
      refine g_sub [(0, p_r v0), (2, p_i r6)] [1, 0] rfl ?_
      exact tB_Mo_act_66 K l v0 r6 s16 _ h
    · have h := p_ifF b15 h
      refine g_aload_n (i := 0) (j := 1) (dk_Mo_act 26 rfl) rfl rfl ?_
      refine g_bipush (dk_Mo_act 27 rfl) (by decide +kernel) (by decide) ?_
      obtain ⟨s20, q21, h⟩ := p_bvE h
      have t22 := tF_Mo_body K l v0 11 s9 _ q21
      refine g_callV (a := v0) (ci := 11) (q0 := (RX11, TX11, 90)) (As := [p_i 11]) (rest := []) [] mt_Mo_body rfl rfl tw_8_120 ts_84 tw_8_118 ⟨Nat.le_of_ble_eq_true rfl, Nat.le_of_ble_eq_true rfl⟩ rfl (Nat.le_of_ble_eq_true rfl) (dk_Mo_act 28 rfl) rfl (c1.up (hs5.trans (hs8.trans hs10))) rfl t22 ?_
      have hs23 : p_x s9 s20 := t22.1
      show p_Go K l m_Mo_act 53 [(2, p_i r6), (0, p_r v0), (1, p_i v1)] [] s20 _
      refine g_aload_n (i := 0) (j := 1) (dk_Mo_act 29 rfl) rfl rfl ?_
      refine g_iload_n (i := 1) (j := 2) (dk_Mo_act 30 rfl) rfl rfl ?_
      obtain ⟨s24, q25, h⟩ := p_bvE h
      have t26 := tF_Mo_actPanel K l v0 v1 s20 _ q25
      refine g_callV (a := v0) (ci := 11) (q0 := (RX11, TX11, 90)) (As := [p_i v1]) (rest := []) [] mt_Mo_actPanel rfl rfl tw_8_124 ts_85 tw_8_122 ⟨Nat.le_of_ble_eq_true rfl, Nat.le_of_ble_eq_true rfl⟩ rfl (Nat.le_of_ble_eq_true rfl) (dk_Mo_act 31 rfl) rfl (c1.up (hs5.trans (hs8.trans (hs10.trans hs23)))) rfl t26 ?_
      have hs27 : p_x s20 s24 := t26.1
      show p_Go K l m_Mo_act 58 [(2, p_i r6), (0, p_r v0), (1, p_i v1)] [] s24 _
      refine g_goto 66 (dk_Mo_act 32 rfl) (by decide) ?_
      refine g_sub [(0, p_r v0), (2, p_i r6)] [1, 0] rfl ?_
      exact tB_Mo_act_66 K l v0 r6 s24 _ h
  · have h := p_ifF b13 h
    refine g_aload_n (i := 0) (j := 1) (dk_Mo_act 16 rfl) rfl rfl ?_
    refine g_bipush (dk_Mo_act 17 rfl) (by decide +kernel) (by decide) ?_
    obtain ⟨s28, q29, h⟩ := p_bvE h
    have t30 := tF_Mo_body K l v0 10 s9 _ q29
    refine g_callV (a := v0) (ci := 11) (q0 := (RX11, TX11, 90)) (As := [p_i 10]) (rest := []) [] mt_Mo_body rfl rfl tw_8_120 ts_84 tw_8_118 ⟨Nat.le_of_ble_eq_true rfl, Nat.le_of_ble_eq_true rfl⟩ rfl (Nat.le_of_ble_eq_true rfl) (dk_Mo_act 18 rfl) rfl (c1.up (hs5.trans (hs8.trans hs10))) rfl t30 ?_
    have hs31 : p_x s9 s28 := t30.1
    show p_Go K l m_Mo_act 33 [(2, p_i r6), (0, p_r v0), (1, p_i v1)] [] s28 _
    refine g_goto 66 (dk_Mo_act 19 rfl) (by decide) ?_
    refine g_sub [(0, p_r v0), (2, p_i r6)] [1, 0] rfl ?_
    exact tB_Mo_act_66 K l v0 r6 s28 _ h
def m_Mo_paceOf : p_Me := (⟨"SortWorksModel", "paceOf", "(I)I"⟩, prog_13_method_13_code, 1, (some .int), 0, 0)
theorem mt_Mo_paceOf : p_Mt m_Mo_paceOf 1 := ⟨p_mem (p_tb8 (List.mem_of_getElem? (i := 101) rfl)) rfl, tw_1_12, by decide +kernel, by decide +kernel, by decide +kernel⟩
def dt_Mo_paceOf : List (Nat × Instr × Nat) := [(0, .iload_n 0, 1), (1, .iconst 1, 1), (2, .if_icmp .eq 8, 3), (5, .iload_n 0, 1), (6, .iconst 4, 1), (7, .if_icmp .ne 7, 3), (10, .iconst 2, 1), (11, .goto 4, 3), (14, .iconst 1, 1), (15, .ireturn, 1)]
theorem dk_Mo_paceOf (i : Nat) {pc : Nat} {ins : Instr} {len : Nat} (h : dt_Mo_paceOf[i]? = some (pc, ins, len)) : decode m_Mo_paceOf.2.1 pc = .ok (ins, len) := p_dk (b := m_Mo_paceOf.2.1) (t := dt_Mo_paceOf) (by decide +kernel) i h
def B_Mo_paceOf_10   (s0 : p_Hp) : Option (Int × p_Hp) :=
  some (2, s0)
def F_Mo_paceOf (v0 : Int) (s0 : p_Hp) : Option (Int × p_Hp) :=
  if v0 = 1 then
    B_Mo_paceOf_10 s0
  else
    if v0 ≠ 4 then
      some (1, s0)
    else
      B_Mo_paceOf_10 s0
set_option maxRecDepth 100000 in
set_option maxHeartbeats 4000000 in
theorem tB_Mo_paceOf_10 (K : p_K) (l : Launch)   (s0 : p_Hp) (r : (Int × p_Hp)) (h : B_Mo_paceOf_10  s0 = some r) : p_Go K l m_Mo_paceOf 10 [] [] s0 (some (p_i r.1), r.2) := by
  unfold B_Mo_paceOf_10 at h
  refine g_iconst (dk_Mo_paceOf 6 rfl) (by decide) ?_
  refine g_goto 15 (dk_Mo_paceOf 7 rfl) (by decide) ?_
  cases h
  exact g_ret rfl rfl (dk_Mo_paceOf 9 rfl) (fun os => ⟨_, rfl, p_okh os⟩)
set_option maxRecDepth 100000 in
set_option maxHeartbeats 4000000 in
theorem tF_Mo_paceOf (K : p_K) (l : Launch) (v0 : Int) (s0 : p_Hp) (r : (Int × p_Hp)) (h : F_Mo_paceOf v0 s0 = some r) : p_Ct K l m_Mo_paceOf [p_i v0] s0 (some (p_i r.1), r.2) := by
  refine p_Ct.of (by decide +kernel) (Nat.le_of_ble_eq_true rfl) ?_
  unfold F_Mo_paceOf at h
  show p_Go K l m_Mo_paceOf 0 [(0, p_i v0)] [] s0 _
  refine g_iload_n (i := 0) (j := 0) (dk_Mo_paceOf 0 rfl) rfl rfl ?_
  refine g_iconst (dk_Mo_paceOf 1 rfl) (by decide) ?_
  refine g_icmp_eq 10 (dk_Mo_paceOf 2 rfl) (by decide) (fun b1 => ?_) (fun b1 => ?_)
  · have h := p_ifT b1 h
    refine g_sub [] [] rfl ?_
    exact tB_Mo_paceOf_10 K l s0 _ h
  · have h := p_ifF b1 h
    refine g_iload_n (i := 0) (j := 0) (dk_Mo_paceOf 3 rfl) rfl rfl ?_
    refine g_iconst (dk_Mo_paceOf 4 rfl) (by decide) ?_
    refine g_icmp_ne 14 (dk_Mo_paceOf 5 rfl) (by decide) (fun b2 => ?_) (fun b2 => ?_)
    · have h := p_ifT b2 h
      refine g_iconst (dk_Mo_paceOf 8 rfl) (by decide) ?_
      cases h
      exact g_ret rfl rfl (dk_Mo_paceOf 9 rfl) (fun os => ⟨_, rfl, p_okh os⟩)
    · have h := p_ifF b2 h
      refine g_sub [] [] rfl ?_
      exact tB_Mo_paceOf_10 K l s0 _ h
def m_Mo_isActing : p_Me := (⟨"SortWorksModel", "isActing", "(I)Z"⟩, prog_13_method_65_code, 2, (some .boolean), 1, 20)
theorem mt_Mo_isActing : p_Mt m_Mo_isActing 1 := ⟨p_mem (p_tb8 (List.mem_of_getElem? (i := 98) rfl)) rfl, tw_1_12, by decide +kernel, by decide +kernel, by decide +kernel⟩
def dt_Mo_isActing : List (Nat × Instr × Nat) := [(0, .aload_n 0, 1), (1, .getfield 13, 3), (4, .aload_n 0, 1), (5, .getfield 227, 3), (8, .iaload, 1), (9, .aload_n 0, 1), (10, .getfield 16, 3), (13, .iload_n 1, 1), (14, .iaload, 1), (15, .invokestatic 398, 3), (18, .irem, 1), (19, .ifCond .ne 7, 3), (22, .iconst 1, 1), (23, .goto 4, 3), (26, .iconst 0, 1), (27, .ireturn, 1)]
theorem dk_Mo_isActing (i : Nat) {pc : Nat} {ins : Instr} {len : Nat} (h : dt_Mo_isActing[i]? = some (pc, ins, len)) : decode m_Mo_isActing.2.1 pc = .ok (ins, len) := p_dk (b := m_Mo_isActing.2.1) (t := dt_Mo_isActing) (by decide +kernel) i h
def F_Mo_isActing (v0 : Nat) (v1 : Int) (s0 : p_Hp) : Option (Int × p_Hp) :=
  p_gd (p_is s0 v0 11) <|
  p_gd (p_is s0 (p_R s0 v0 4) 100) <|
  p_gd ((0 : Int) ≤ (p_Z s0 v0 0) ∧ (p_Z s0 v0 0) < (p_L s0 (p_R s0 v0 4) : Int)) <|
  p_gd (p_is s0 (p_R s0 v0 5) 100) <|
  p_gd ((0 : Int) ≤ v1 ∧ v1 < (p_L s0 (p_R s0 v0 5) : Int)) <|
  p_bd (F_Mo_paceOf (p_Z s0 (p_R s0 v0 5) (v1 : Int).toNat) s0) fun r10 s6 =>
  p_gd (r10 ≠ 0) <|
  if (p_rem (p_Z s0 (p_R s0 v0 4) ((p_Z s0 v0 0) : Int).toNat) r10) ≠ 0 then
    some (0, s6)
  else
    some (1, s6)
set_option maxRecDepth 100000 in
set_option maxHeartbeats 4000000 in
theorem tF_Mo_isActing (K : p_K) (l : Launch) (v0 : Nat) (v1 : Int) (s0 : p_Hp) (r : (Int × p_Hp)) (h : F_Mo_isActing v0 v1 s0 = some r) : p_Ct K l m_Mo_isActing [p_r v0, p_i v1] s0 (some (p_i r.1), r.2) := by
  refine p_Ct.of (by decide +kernel) (Nat.le_of_ble_eq_true rfl) ?_
  unfold F_Mo_isActing at h
  show p_Go K l m_Mo_isActing 0 [(0, p_r v0), (1, p_i v1)] [] s0 _
  refine g_aload_n (i := 0) (j := 0) (dk_Mo_isActing 0 rfl) rfl rfl ?_
  obtain ⟨c1, h⟩ := p_gdE h
  refine g_getR fl_Mo_13 (Or.inr ⟨_, rfl⟩) (dk_Mo_isActing 1 rfl) c1 ?_
  refine g_aload_n (i := 0) (j := 0) (dk_Mo_isActing 2 rfl) rfl rfl ?_
  refine g_getI fl_Mo_227 (Or.inl rfl) (dk_Mo_isActing 3 rfl) c1 ?_
  obtain ⟨c2, h⟩ := p_gdE h
  obtain ⟨c3, h⟩ := p_gdE h
  refine g_iaload (dk_Mo_isActing 4 rfl) c2 c3.1 c3.2 ?_
  refine g_aload_n (i := 0) (j := 0) (dk_Mo_isActing 5 rfl) rfl rfl ?_
  refine g_getR fl_Mo_16 (Or.inr ⟨_, rfl⟩) (dk_Mo_isActing 6 rfl) c1 ?_
  refine g_iload_n (i := 1) (j := 1) (dk_Mo_isActing 7 rfl) rfl rfl ?_
  obtain ⟨c4, h⟩ := p_gdE h
  obtain ⟨c5, h⟩ := p_gdE h
  refine g_iaload (dk_Mo_isActing 8 rfl) c4 c5.1 c5.2 ?_
  obtain ⟨r10, s6, q7, h⟩ := p_bdE h
  have t8 := tF_Mo_paceOf K l (p_Z s0 (p_R s0 v0 5) (v1 : Int).toNat) s0 _ q7
  refine g_callS (av := [p_i (p_Z s0 (p_R s0 v0 5) (v1 : Int).toNat)]) (rest := [p_i (p_Z s0 (p_R s0 v0 4) ((p_Z s0 v0 0) : Int).toNat)]) [p_i r10, p_i (p_Z s0 (p_R s0 v0 4) ((p_Z s0 v0 0) : Int).toNat)] mt_Mo_paceOf tw_8_100 tw_8_99 ⟨Nat.le_of_ble_eq_true rfl, Nat.le_of_ble_eq_true rfl⟩ rfl (Nat.le_of_ble_eq_true rfl) (dk_Mo_isActing 9 rfl) rfl rfl t8 ?_
  have hs9 : p_x s0 s6 := t8.1
  show p_Go K l m_Mo_isActing 18 [(0, p_r v0), (1, p_i v1)] [p_i r10, p_i (p_Z s0 (p_R s0 v0 4) ((p_Z s0 v0 0) : Int).toNat)] s6 _
  obtain ⟨c11, h⟩ := p_gdE h
  refine g_irem (dk_Mo_isActing 10 rfl) c11 ?_
  refine g_if_ne 26 (dk_Mo_isActing 11 rfl) (by decide) (fun b12 => ?_) (fun b12 => ?_)
  · have h := p_ifT b12 h
    refine g_iconst (dk_Mo_isActing 14 rfl) (by decide) ?_
    cases h
    exact g_ret rfl rfl (dk_Mo_isActing 15 rfl) (fun _ => ⟨_, rfl, Or.inl rfl⟩)
  · have h := p_ifF b12 h
    refine g_iconst (dk_Mo_isActing 12 rfl) (by decide) ?_
    refine g_goto 27 (dk_Mo_isActing 13 rfl) (by decide) ?_
    cases h
    exact g_ret rfl rfl (dk_Mo_isActing 15 rfl) (fun _ => ⟨_, rfl, Or.inr rfl⟩)
def m_Mo_leads : p_Me := (⟨"SortWorksModel", "leads", "(III)Z"⟩, prog_13_method_61_code, 4, (some .boolean), 3, 69)
theorem mt_Mo_leads : p_Mt m_Mo_leads 3 := ⟨p_mem (p_tb8 (List.mem_of_getElem? (i := 109) rfl)) rfl, tw_1_12, by decide +kernel, by decide +kernel, by decide +kernel⟩
def dt_Mo_leads : List (Nat × Instr × Nat) := [(0, .aload_n 0, 1), (1, .iload_n 1, 1), (2, .iload_n 2, 1), (3, .invokevirtual 388, 3), (6, .ifCond .ne 15, 3), (9, .aload_n 0, 1), (10, .getfield 385, 3), (13, .iload_n 3, 1), (14, .if_icmp .ne 7, 3), (17, .iconst 1, 1), (18, .goto 4, 3), (21, .iconst 0, 1), (22, .ireturn, 1)]
theorem dk_Mo_leads (i : Nat) {pc : Nat} {ins : Instr} {len : Nat} (h : dt_Mo_leads[i]? = some (pc, ins, len)) : decode m_Mo_leads.2.1 pc = .ok (ins, len) := p_dk (b := m_Mo_leads.2.1) (t := dt_Mo_leads) (by decide +kernel) i h
def F_Mo_leads (v0 : Nat) (v1 : Int) (v2 : Int) (v3 : Int) (s0 : p_Hp) : Option (Int × p_Hp) :=
  p_gd (p_is s0 v0 11) <|
  p_bd (F_Mo_follow v0 v1 v2 s0) fun r6 s2 =>
  if r6 ≠ 0 then
    some (0, s2)
  else
    if (p_Z s2 v0 73) ≠ v3 then
      some (0, s2)
    else
      some (1, s2)
set_option maxRecDepth 100000 in
set_option maxHeartbeats 4000000 in
theorem tF_Mo_leads (K : p_K) (l : Launch) (v0 : Nat) (v1 : Int) (v2 : Int) (v3 : Int) (s0 : p_Hp) (r : (Int × p_Hp)) (h : F_Mo_leads v0 v1 v2 v3 s0 = some r) : p_Ct K l m_Mo_leads [p_r v0, p_i v1, p_i v2, p_i v3] s0 (some (p_i r.1), r.2) := by
  refine p_Ct.of (by decide +kernel) (Nat.le_of_ble_eq_true rfl) ?_
  unfold F_Mo_leads at h
  show p_Go K l m_Mo_leads 0 [(0, p_r v0), (1, p_i v1), (2, p_i v2), (3, p_i v3)] [] s0 _
  refine g_aload_n (i := 0) (j := 0) (dk_Mo_leads 0 rfl) rfl rfl ?_
  refine g_iload_n (i := 1) (j := 1) (dk_Mo_leads 1 rfl) rfl rfl ?_
  refine g_iload_n (i := 2) (j := 2) (dk_Mo_leads 2 rfl) rfl rfl ?_
  obtain ⟨c1, h⟩ := p_gdE h
  obtain ⟨r6, s2, q3, h⟩ := p_bdE h
  have t4 := tF_Mo_follow K l v0 v1 v2 s0 _ q3
  refine g_callV (a := v0) (ci := 11) (q0 := (RX11, TX11, 90)) (As := [p_i v1, p_i v2]) (rest := []) [p_i r6] mt_Mo_follow rfl rfl tw_8_112 ts_82 tw_8_110 ⟨Nat.le_of_ble_eq_true rfl, Nat.le_of_ble_eq_true rfl⟩ rfl (Nat.le_of_ble_eq_true rfl) (dk_Mo_leads 3 rfl) rfl c1 rfl t4 ?_
  have hs5 : p_x s0 s2 := t4.1
  show p_Go K l m_Mo_leads 6 [(0, p_r v0), (1, p_i v1), (2, p_i v2), (3, p_i v3)] [p_i r6] s2 _
  refine g_if_ne 21 (dk_Mo_leads 4 rfl) (by decide) (fun b7 => ?_) (fun b7 => ?_)
  · have h := p_ifT b7 h
    refine g_iconst (dk_Mo_leads 11 rfl) (by decide) ?_
    cases h
    exact g_ret rfl rfl (dk_Mo_leads 12 rfl) (fun _ => ⟨_, rfl, Or.inl rfl⟩)
  · have h := p_ifF b7 h
    refine g_aload_n (i := 0) (j := 0) (dk_Mo_leads 5 rfl) rfl rfl ?_
    refine g_getI fl_Mo_385 (Or.inl rfl) (dk_Mo_leads 6 rfl) (c1.up hs5) ?_
    refine g_iload_n (i := 3) (j := 3) (dk_Mo_leads 7 rfl) rfl rfl ?_
    refine g_icmp_ne 21 (dk_Mo_leads 8 rfl) (by decide) (fun b8 => ?_) (fun b8 => ?_)
    · have h := p_ifT b8 h
      refine g_iconst (dk_Mo_leads 11 rfl) (by decide) ?_
      cases h
      exact g_ret rfl rfl (dk_Mo_leads 12 rfl) (fun _ => ⟨_, rfl, Or.inl rfl⟩)
    · have h := p_ifF b8 h
      refine g_iconst (dk_Mo_leads 9 rfl) (by decide) ?_
      refine g_goto 22 (dk_Mo_leads 10 rfl) (by decide) ?_
      cases h
      exact g_ret rfl rfl (dk_Mo_leads 12 rfl) (fun _ => ⟨_, rfl, Or.inr rfl⟩)
def m_Mo_chosenBy : p_Me := (⟨"SortWorksModel", "chosenBy", "(I)I"⟩, prog_13_method_67_code, 9, (some .int), 4, 92)
theorem mt_Mo_chosenBy : p_Mt m_Mo_chosenBy 1 := ⟨p_mem (p_tb8 (List.mem_of_getElem? (i := 94) rfl)) rfl, tw_1_12, by decide +kernel, by decide +kernel, by decide +kernel⟩
def dt_Mo_chosenBy : List (Nat × Instr × Nat) := [(0, .iconst (-1), 1), (1, .istore_n 2, 1), (2, .iconst (-1), 1), (3, .istore_n 3, 1), (4, .iconst (-1), 1), (5, .istore 4, 2), (7, .aload_n 0, 1), (8, .getfield 38, 3), (11, .aload_n 0, 1), (12, .iload_n 1, 1), (13, .invokevirtual 257, 3), (16, .iaload, 1), (17, .istore 5, 2), (19, .iconst 0, 1), (20, .istore 6, 2), (22, .iload 6, 2), (24, .aload_n 0, 1), (25, .getfield 7, 3), (28, .aload_n 0, 1), (29, .getfield 227, 3), (32, .iaload, 1), (33, .if_icmp .ge 206, 3), (36, .aload_n 0, 1), (37, .iload 6, 2), (39, .invokevirtual 257, 3), (42, .istore 7, 2), (44, .aload_n 0, 1), (45, .getfield 16, 3), (48, .iload 7, 2), (50, .iaload, 1), (51, .invokestatic 252, 3), (54, .ifCond .eq 89, 3), (57, .aload_n 0, 1), (58, .getfield 16, 3), (61, .iload 7, 2), (63, .iaload, 1), (64, .bipush 7, 2), (66, .if_icmp .eq 77, 3), (69, .aload_n 0, 1), (70, .iload 7, 2), (72, .invokevirtual 404, 3), (75, .ifCond .eq 68, 3), (78, .aload_n 0, 1), (79, .getfield 69, 3), (82, .bipush 8, 2), (84, .iload 7, 2), (86, .imul, 1), (87, .aload_n 0, 1), (88, .getfield 19, 3), (91, .iload 7, 2), (93, .iaload, 1), (94, .iadd, 1), (95, .iconst 1, 1), (96, .isub, 1), (97, .iaload, 1), (98, .ifCond .le 45, 3), (101, .aload_n 0, 1), (102, .getfield 16, 3), (105, .iload 7, 2), (107, .iaload, 1), (108, .bipush 8, 2), (110, .if_icmp .ne 13, 3), (113, .aload_n 0, 1), (114, .getfield 41, 3), (117, .iload 7, 2), (119, .iaload, 1), (120, .ifCond .le 23, 3), (123, .aload_n 0, 1), (124, .iload 6, 2), (126, .aload_n 0, 1), (127, .iload 6, 2), (129, .invokevirtual 407, 3), (132, .iload_n 1, 1), (133, .invokevirtual 410, 3), (136, .ifCond .eq 7, 3), (139, .iconst 1, 1), (140, .goto 4, 3), (143, .iconst 0, 1), (144, .istore 8, 2), (146, .iload 8, 2), (148, .ifCond .eq 49, 3), (151, .aload_n 0, 1), (152, .getfield 28, 3), (155, .iload 7, 2), (157, .iaload, 1), (158, .iload 4, 2), (160, .if_icmp .le 37, 3), (163, .aload_n 0, 1), (164, .getfield 28, 3), (167, .iload 7, 2), (169, .iaload, 1), (170, .istore 4, 2), (172, .iload 6, 2), (174, .istore_n 3, 1), (175, .iload 6, 2), (177, .iload 5, 2), (179, .if_icmp .le 13, 3), (182, .iload 5, 2), (184, .ifCond .lt 8, 3), (187, .iload 6, 2), (189, .goto 4, 3), (192, .iconst (-1), 1), (193, .istore_n 2, 1), (194, .goto 39, 3), (197, .iload 8, 2), (199, .ifCond .eq 34, 3), (202, .aload_n 0, 1), (203, .getfield 28, 3), (206, .iload 7, 2), (208, .iaload, 1), (209, .iload 4, 2), (211, .if_icmp .ne 22, 3), (214, .iload_n 2, 1), (215, .ifCond .ge 18, 3), (218, .iload 6, 2), (220, .iload 5, 2), (222, .if_icmp .le 11, 3), (225, .iload 5, 2), (227, .ifCond .lt 6, 3), (230, .iload 6, 2), (232, .istore_n 2, 1), (233, .iinc 6 1, 3), (236, .goto (-214), 3), (239, .iload_n 2, 1), (240, .ifCond .lt 7, 3), (243, .iload_n 2, 1), (244, .goto 4, 3), (247, .iload_n 3, 1), (248, .ireturn, 1)]
theorem dk_Mo_chosenBy (i : Nat) {pc : Nat} {ins : Instr} {len : Nat} (h : dt_Mo_chosenBy[i]? = some (pc, ins, len)) : decode m_Mo_chosenBy.2.1 pc = .ok (ins, len) := p_dk (b := m_Mo_chosenBy.2.1) (t := dt_Mo_chosenBy) (by decide +kernel) i h
def B_Mo_chosenBy_233 (k22 : Nat → Int → Int → Int → Int → Int → Int → p_Hp → Option (Int × p_Hp)) (v0 : Nat) (v1 : Int) (v2 : Int) (v3 : Int) (v4 : Int) (v5 : Int) (v6 : Int) (s0 : p_Hp) : Option (Int × p_Hp) :=
  p_bi (p_w (v6 + 1)) fun x1 =>
  k22 v0 v1 v2 v3 v4 v5 x1 s0
def B_Mo_chosenBy_193 (k22 : Nat → Int → Int → Int → Int → Int → Int → p_Hp → Option (Int × p_Hp)) (v0 : Nat) (v1 : Int) (v3 : Int) (v4 : Int) (v5 : Int) (v6 : Int) (w0 : Int) (s0 : p_Hp) : Option (Int × p_Hp) :=
  B_Mo_chosenBy_233 k22 v0 v1 w0 v3 v4 v5 v6 s0
def B_Mo_chosenBy_192 (k22 : Nat → Int → Int → Int → Int → Int → Int → p_Hp → Option (Int × p_Hp)) (v0 : Nat) (v1 : Int) (v3 : Int) (v4 : Int) (v5 : Int) (v6 : Int) (s0 : p_Hp) : Option (Int × p_Hp) :=
  B_Mo_chosenBy_193 k22 v0 v1 v3 v4 v5 v6 (-1) s0
def B_Mo_chosenBy_197 (k22 : Nat → Int → Int → Int → Int → Int → Int → p_Hp → Option (Int × p_Hp)) (v0 : Nat) (v1 : Int) (v2 : Int) (v3 : Int) (v4 : Int) (v5 : Int) (v6 : Int) (v7 : Int) (v8 : Int) (s0 : p_Hp) : Option (Int × p_Hp) :=
  if v8 = 0 then
    B_Mo_chosenBy_233 k22 v0 v1 v2 v3 v4 v5 v6 s0
  else
    p_gd (p_is s0 v0 11) <|
    p_gd (p_is s0 (p_R s0 v0 9) 100) <|
    p_gd ((0 : Int) ≤ v7 ∧ v7 < (p_L s0 (p_R s0 v0 9) : Int)) <|
    if (p_Z s0 (p_R s0 v0 9) (v7 : Int).toNat) ≠ v4 then
      B_Mo_chosenBy_233 k22 v0 v1 v2 v3 v4 v5 v6 s0
    else
      if 0 ≤ v2 then
        B_Mo_chosenBy_233 k22 v0 v1 v2 v3 v4 v5 v6 s0
      else
        if v6 ≤ v5 then
          B_Mo_chosenBy_233 k22 v0 v1 v2 v3 v4 v5 v6 s0
        else
          if v5 < 0 then
            B_Mo_chosenBy_233 k22 v0 v1 v2 v3 v4 v5 v6 s0
          else
            B_Mo_chosenBy_233 k22 v0 v1 v6 v3 v4 v5 v6 s0
def B_Mo_chosenBy_144 (k22 : Nat → Int → Int → Int → Int → Int → Int → p_Hp → Option (Int × p_Hp)) (v0 : Nat) (v1 : Int) (v2 : Int) (v3 : Int) (v4 : Int) (v5 : Int) (v6 : Int) (v7 : Int) (w0 : Int) (s0 : p_Hp) : Option (Int × p_Hp) :=
  if w0 = 0 then
    B_Mo_chosenBy_197 k22 v0 v1 v2 v3 v4 v5 v6 v7 w0 s0
  else
    p_gd (p_is s0 v0 11) <|
    p_gd (p_is s0 (p_R s0 v0 9) 100) <|
    p_gd ((0 : Int) ≤ v7 ∧ v7 < (p_L s0 (p_R s0 v0 9) : Int)) <|
    if (p_Z s0 (p_R s0 v0 9) (v7 : Int).toNat) ≤ v4 then
      B_Mo_chosenBy_197 k22 v0 v1 v2 v3 v4 v5 v6 v7 w0 s0
    else
      p_gd ((0 : Int) ≤ v7 ∧ v7 < (p_L s0 (p_R s0 v0 9) : Int)) <|
      p_bi ((p_Z s0 (p_R s0 v0 9) (v7 : Int).toNat)) fun x7 =>
      if v6 ≤ v5 then
        B_Mo_chosenBy_192 k22 v0 v1 v6 x7 v5 v6 s0
      else
        if v5 < 0 then
          B_Mo_chosenBy_192 k22 v0 v1 v6 x7 v5 v6 s0
        else
          B_Mo_chosenBy_193 k22 v0 v1 v6 x7 v5 v6 v6 s0
def B_Mo_chosenBy_143 (k22 : Nat → Int → Int → Int → Int → Int → Int → p_Hp → Option (Int × p_Hp)) (v0 : Nat) (v1 : Int) (v2 : Int) (v3 : Int) (v4 : Int) (v5 : Int) (v6 : Int) (v7 : Int) (s0 : p_Hp) : Option (Int × p_Hp) :=
  B_Mo_chosenBy_144 k22 v0 v1 v2 v3 v4 v5 v6 v7 0 s0
def B_Mo_chosenBy_123 (k22 : Nat → Int → Int → Int → Int → Int → Int → p_Hp → Option (Int × p_Hp)) (v0 : Nat) (v1 : Int) (v2 : Int) (v3 : Int) (v4 : Int) (v5 : Int) (v6 : Int) (v7 : Int) (s0 : p_Hp) : Option (Int × p_Hp) :=
  p_gd (p_is s0 v0 11) <|
  p_bd (F_Mo_linkAt v0 v6 s0) fun r6 s2 =>
  p_bd (F_Mo_leads v0 v6 r6 v1 s2) fun r11 s7 =>
  if r11 = 0 then
    B_Mo_chosenBy_143 k22 v0 v1 v2 v3 v4 v5 v6 v7 s7
  else
    B_Mo_chosenBy_144 k22 v0 v1 v2 v3 v4 v5 v6 v7 1 s7
def L_Mo_chosenBy_22 (k22 : Nat → Int → Int → Int → Int → Int → Int → p_Hp → Option (Int × p_Hp)) (v0 : Nat) (v1 : Int) (v2 : Int) (v3 : Int) (v4 : Int) (v5 : Int) (v6 : Int) (s0 : p_Hp) : Option (Int × p_Hp) :=
  p_gd (p_is s0 v0 11) <|
  p_gd (p_is s0 (p_R s0 v0 3) 100) <|
  p_gd ((0 : Int) ≤ (p_Z s0 v0 0) ∧ (p_Z s0 v0 0) < (p_L s0 (p_R s0 v0 3) : Int)) <|
  if (p_Z s0 (p_R s0 v0 3) ((p_Z s0 v0 0) : Int).toNat) ≤ v6 then
    if v2 < 0 then
      some (v3, s0)
    else
      some (v2, s0)
  else
    p_bd (F_Mo_g v0 v6 s0) fun r10 s6 =>
    p_gd (p_is s6 (p_R s6 v0 5) 100) <|
    p_gd ((0 : Int) ≤ r10 ∧ r10 < (p_L s6 (p_R s6 v0 5) : Int)) <|
    p_bd (F_Mo_isTaker (p_Z s6 (p_R s6 v0 5) (r10 : Int).toNat) s6) fun r17 s13 =>
    if r17 = 0 then
      B_Mo_chosenBy_143 k22 v0 v1 v2 v3 v4 v5 v6 r10 s13
    else
      p_gd (p_is s13 (p_R s13 v0 5) 100) <|
      p_gd ((0 : Int) ≤ r10 ∧ r10 < (p_L s13 (p_R s13 v0 5) : Int)) <|
      if (p_Z s13 (p_R s13 v0 5) (r10 : Int).toNat) = 7 then
        B_Mo_chosenBy_143 k22 v0 v1 v2 v3 v4 v5 v6 r10 s13
      else
        p_bd (F_Mo_isActing v0 r10 s13) fun r26 s22 =>
        if r26 = 0 then
          B_Mo_chosenBy_143 k22 v0 v1 v2 v3 v4 v5 v6 r10 s22
        else
          p_gd (p_is s22 (p_R s22 v0 6) 100) <|
          p_gd ((0 : Int) ≤ r10 ∧ r10 < (p_L s22 (p_R s22 v0 6) : Int)) <|
          p_gd (p_is s22 (p_R s22 v0 22) 100) <|
          p_gd ((0 : Int) ≤ (p_w ((p_w ((p_w (8 * r10)) + (p_Z s22 (p_R s22 v0 6) (r10 : Int).toNat))) - 1)) ∧ (p_w ((p_w ((p_w (8 * r10)) + (p_Z s22 (p_R s22 v0 6) (r10 : Int).toNat))) - 1)) < (p_L s22 (p_R s22 v0 22) : Int)) <|
          if (p_Z s22 (p_R s22 v0 22) ((p_w ((p_w ((p_w (8 * r10)) + (p_Z s22 (p_R s22 v0 6) (r10 : Int).toNat))) - 1)) : Int).toNat) ≤ 0 then
            B_Mo_chosenBy_143 k22 v0 v1 v2 v3 v4 v5 v6 r10 s22
          else
            p_gd (p_is s22 (p_R s22 v0 5) 100) <|
            p_gd ((0 : Int) ≤ r10 ∧ r10 < (p_L s22 (p_R s22 v0 5) : Int)) <|
            if (p_Z s22 (p_R s22 v0 5) (r10 : Int).toNat) ≠ 8 then
              B_Mo_chosenBy_123 k22 v0 v1 v2 v3 v4 v5 v6 r10 s22
            else
              p_gd (p_is s22 (p_R s22 v0 13) 100) <|
              p_gd ((0 : Int) ≤ r10 ∧ r10 < (p_L s22 (p_R s22 v0 13) : Int)) <|
              if (p_Z s22 (p_R s22 v0 13) (r10 : Int).toNat) ≤ 0 then
                B_Mo_chosenBy_143 k22 v0 v1 v2 v3 v4 v5 v6 r10 s22
              else
                B_Mo_chosenBy_123 k22 v0 v1 v2 v3 v4 v5 v6 r10 s22
def O_Mo_chosenBy_22  : Nat → Nat → Int → Int → Int → Int → Int → Int → p_Hp → Option (Int × p_Hp)
  | 0 => fun _ _ _ _ _ _ _ _ => none
  | n + 1 => L_Mo_chosenBy_22 (O_Mo_chosenBy_22 n)
def F_Mo_chosenBy (v0 : Nat) (v1 : Int) (s0 : p_Hp) : Option (Int × p_Hp) :=
  p_gd (p_is s0 v0 11) <|
  p_bd (F_Mo_g v0 v1 s0) fun r6 s2 =>
  p_gd (p_is s2 (p_R s0 v0 12) 100) <|
  p_gd ((0 : Int) ≤ r6 ∧ r6 < (p_L s2 (p_R s0 v0 12) : Int)) <|
  p_bi ((p_Z s2 (p_R s0 v0 12) (r6 : Int).toNat)) fun x9 =>
  O_Mo_chosenBy_22 3000 v0 v1 (-1) (-1) (-1) x9 0 s2
set_option maxRecDepth 100000 in
set_option maxHeartbeats 4000000 in
theorem tB_Mo_chosenBy_233 (K : p_K) (l : Launch) (k22 : Nat → Int → Int → Int → Int → Int → Int → p_Hp → Option (Int × p_Hp)) (hk22 : ∀ (v0 : Nat) (v1 : Int) (v2 : Int) (v3 : Int) (v4 : Int) (v5 : Int) (v6 : Int)  (s0 : p_Hp) (r : (Int × p_Hp)), k22 v0 v1 v2 v3 v4 v5 v6 s0 = some r → p_Go K l m_Mo_chosenBy 22 [(0, p_r v0), (1, p_i v1), (2, p_i v2), (3, p_i v3), (4, p_i v4), (5, p_i v5), (6, p_i v6)] [] s0 (some (p_i r.1), r.2)) (v0 : Nat) (v1 : Int) (v2 : Int) (v3 : Int) (v4 : Int) (v5 : Int) (v6 : Int) (s0 : p_Hp) (r : (Int × p_Hp)) (h : B_Mo_chosenBy_233 k22 v0 v1 v2 v3 v4 v5 v6 s0 = some r) : p_Go K l m_Mo_chosenBy 233 [(0, p_r v0), (1, p_i v1), (2, p_i v2), (3, p_i v3), (4, p_i v4), (5, p_i v5), (6, p_i v6)] [] s0 (some (p_i r.1), r.2) := by
  unfold B_Mo_chosenBy_233 at h
  refine g_iinc (j := 6) [(6, p_i (p_w (v6 + 1))), (0, p_r v0), (1, p_i v1), (2, p_i v2), (3, p_i v3), (4, p_i v4), (5, p_i v5)] (dk_Mo_chosenBy 121 rfl) rfl (by decide) rfl ?_
  refine p_ltG (P := fun q => p_Go K l m_Mo_chosenBy 236 [(6, p_i q), (0, p_r v0), (1, p_i v1), (2, p_i v2), (3, p_i v3), (4, p_i v4), (5, p_i v5)] [] s0 _) ?_ h
  intro x1 h
  refine g_goto 22 (dk_Mo_chosenBy 122 rfl) (by decide) ?_
  refine g_sub [(0, p_r v0), (1, p_i v1), (2, p_i v2), (3, p_i v3), (4, p_i v4), (5, p_i v5), (6, p_i x1)] [1, 2, 3, 4, 5, 6, 0] rfl ?_
  exact hk22 v0 v1 v2 v3 v4 v5 x1 s0 _ h
set_option maxRecDepth 100000 in
set_option maxHeartbeats 4000000 in
theorem tB_Mo_chosenBy_193 (K : p_K) (l : Launch) (k22 : Nat → Int → Int → Int → Int → Int → Int → p_Hp → Option (Int × p_Hp)) (hk22 : ∀ (v0 : Nat) (v1 : Int) (v2 : Int) (v3 : Int) (v4 : Int) (v5 : Int) (v6 : Int)  (s0 : p_Hp) (r : (Int × p_Hp)), k22 v0 v1 v2 v3 v4 v5 v6 s0 = some r → p_Go K l m_Mo_chosenBy 22 [(0, p_r v0), (1, p_i v1), (2, p_i v2), (3, p_i v3), (4, p_i v4), (5, p_i v5), (6, p_i v6)] [] s0 (some (p_i r.1), r.2)) (v0 : Nat) (v1 : Int) (v3 : Int) (v4 : Int) (v5 : Int) (v6 : Int) (w0 : Int) (s0 : p_Hp) (r : (Int × p_Hp)) (h : B_Mo_chosenBy_193 k22 v0 v1 v3 v4 v5 v6 w0 s0 = some r) : p_Go K l m_Mo_chosenBy 193 [(0, p_r v0), (1, p_i v1), (3, p_i v3), (4, p_i v4), (5, p_i v5), (6, p_i v6)] [p_i w0] s0 (some (p_i r.1), r.2) := by
  unfold B_Mo_chosenBy_193 at h
  refine g_istore_n (i := 2) [(2, p_i w0), (0, p_r v0), (1, p_i v1), (3, p_i v3), (4, p_i v4), (5, p_i v5), (6, p_i v6)] (dk_Mo_chosenBy 102 rfl) rfl (by decide) rfl ?_
  refine g_goto 233 (dk_Mo_chosenBy 103 rfl) (by decide) ?_
  refine g_sub [(0, p_r v0), (1, p_i v1), (2, p_i w0), (3, p_i v3), (4, p_i v4), (5, p_i v5), (6, p_i v6)] [1, 2, 0, 3, 4, 5, 6] rfl ?_
  exact tB_Mo_chosenBy_233 K l k22 hk22 v0 v1 w0 v3 v4 v5 v6 s0 _ h
set_option maxRecDepth 100000 in
set_option maxHeartbeats 4000000 in
theorem tB_Mo_chosenBy_192 (K : p_K) (l : Launch) (k22 : Nat → Int → Int → Int → Int → Int → Int → p_Hp → Option (Int × p_Hp)) (hk22 : ∀ (v0 : Nat) (v1 : Int) (v2 : Int) (v3 : Int) (v4 : Int) (v5 : Int) (v6 : Int)  (s0 : p_Hp) (r : (Int × p_Hp)), k22 v0 v1 v2 v3 v4 v5 v6 s0 = some r → p_Go K l m_Mo_chosenBy 22 [(0, p_r v0), (1, p_i v1), (2, p_i v2), (3, p_i v3), (4, p_i v4), (5, p_i v5), (6, p_i v6)] [] s0 (some (p_i r.1), r.2)) (v0 : Nat) (v1 : Int) (v3 : Int) (v4 : Int) (v5 : Int) (v6 : Int) (s0 : p_Hp) (r : (Int × p_Hp)) (h : B_Mo_chosenBy_192 k22 v0 v1 v3 v4 v5 v6 s0 = some r) : p_Go K l m_Mo_chosenBy 192 [(0, p_r v0), (1, p_i v1), (3, p_i v3), (4, p_i v4), (5, p_i v5), (6, p_i v6)] [] s0 (some (p_i r.1), r.2) := by
  unfold B_Mo_chosenBy_192 at h
  refine g_iconst (dk_Mo_chosenBy 101 rfl) (by decide) ?_
  exact tB_Mo_chosenBy_193 K l k22 hk22 v0 v1 v3 v4 v5 v6 (-1) s0 _ h
set_option maxRecDepth 100000 in
set_option maxHeartbeats 4000000 in
theorem tB_Mo_chosenBy_197 (K : p_K) (l : Launch) (k22 : Nat → Int → Int → Int → Int → Int → Int → p_Hp → Option (Int × p_Hp)) (hk22 : ∀ (v0 : Nat) (v1 : Int) (v2 : Int) (v3 : Int) (v4 : Int) (v5 : Int) (v6 : Int)  (s0 : p_Hp) (r : (Int × p_Hp)), k22 v0 v1 v2 v3 v4 v5 v6 s0 = some r → p_Go K l m_Mo_chosenBy 22 [(0, p_r v0), (1, p_i v1), (2, p_i v2), (3, p_i v3), (4, p_i v4), (5, p_i v5), (6, p_i v6)] [] s0 (some (p_i r.1), r.2)) (v0 : Nat) (v1 : Int) (v2 : Int) (v3 : Int) (v4 : Int) (v5 : Int) (v6 : Int) (v7 : Int) (v8 : Int) (s0 : p_Hp) (r : (Int × p_Hp)) (h : B_Mo_chosenBy_197 k22 v0 v1 v2 v3 v4 v5 v6 v7 v8 s0 = some r) : p_Go K l m_Mo_chosenBy 197 [(0, p_r v0), (1, p_i v1), (2, p_i v2), (3, p_i v3), (4, p_i v4), (5, p_i v5), (6, p_i v6), (7, p_i v7), (8, p_i v8)] [] s0 (some (p_i r.1), r.2) := by
  unfold B_Mo_chosenBy_197 at h
  refine g_iload (j := 8) (dk_Mo_chosenBy 104 rfl) rfl ?_
  refine g_if_eq 233 (dk_Mo_chosenBy 105 rfl) (by decide) (fun b1 => ?_) (fun b1 => ?_)
  · have h := p_ifT b1 h
    refine g_sub [(0, p_r v0), (1, p_i v1), (2, p_i v2), (3, p_i v3), (4, p_i v4), (5, p_i v5), (6, p_i v6)] [0, 1, 2, 3, 4, 5, 6] rfl ?_
    exact tB_Mo_chosenBy_233 K l k22 hk22 v0 v1 v2 v3 v4 v5 v6 s0 _ h
  · have h := p_ifF b1 h
    refine g_aload_n (i := 0) (j := 0) (dk_Mo_chosenBy 106 rfl) rfl rfl ?_
    obtain ⟨c2, h⟩ := p_gdE h
    refine g_getR fl_Mo_28 (Or.inr ⟨_, rfl⟩) (dk_Mo_chosenBy 107 rfl) c2 ?_
    refine g_iload (j := 7) (dk_Mo_chosenBy 108 rfl) rfl ?_
    obtain ⟨c3, h⟩ := p_gdE h
    obtain ⟨c4, h⟩ := p_gdE h
    refine g_iaload (dk_Mo_chosenBy 109 rfl) c3 c4.1 c4.2 ?_
    refine g_iload (j := 4) (dk_Mo_chosenBy 110 rfl) rfl ?_
    refine g_icmp_ne 233 (dk_Mo_chosenBy 111 rfl) (by decide) (fun b5 => ?_) (fun b5 => ?_)
    · have h := p_ifT b5 h
      refine g_sub [(0, p_r v0), (1, p_i v1), (2, p_i v2), (3, p_i v3), (4, p_i v4), (5, p_i v5), (6, p_i v6)] [0, 1, 2, 3, 4, 5, 6] rfl ?_
      exact tB_Mo_chosenBy_233 K l k22 hk22 v0 v1 v2 v3 v4 v5 v6 s0 _ h
    · have h := p_ifF b5 h
      refine g_iload_n (i := 2) (j := 2) (dk_Mo_chosenBy 112 rfl) rfl rfl ?_
      refine g_if_ge 233 (dk_Mo_chosenBy 113 rfl) (by decide) (fun b6 => ?_) (fun b6 => ?_)
      · have h := p_ifT b6 h
        refine g_sub [(0, p_r v0), (1, p_i v1), (2, p_i v2), (3, p_i v3), (4, p_i v4), (5, p_i v5), (6, p_i v6)] [0, 1, 2, 3, 4, 5, 6] rfl ?_
        exact tB_Mo_chosenBy_233 K l k22 hk22 v0 v1 v2 v3 v4 v5 v6 s0 _ h
      · have h := p_ifF b6 h
        refine g_iload (j := 6) (dk_Mo_chosenBy 114 rfl) rfl ?_
        refine g_iload (j := 5) (dk_Mo_chosenBy 115 rfl) rfl ?_
        refine g_icmp_le 233 (dk_Mo_chosenBy 116 rfl) (by decide) (fun b7 => ?_) (fun b7 => ?_)
        · have h := p_ifT b7 h
          refine g_sub [(0, p_r v0), (1, p_i v1), (2, p_i v2), (3, p_i v3), (4, p_i v4), (5, p_i v5), (6, p_i v6)] [0, 1, 2, 3, 4, 5, 6] rfl ?_
          exact tB_Mo_chosenBy_233 K l k22 hk22 v0 v1 v2 v3 v4 v5 v6 s0 _ h
        · have h := p_ifF b7 h
          refine g_iload (j := 5) (dk_Mo_chosenBy 117 rfl) rfl ?_
          refine g_if_lt 233 (dk_Mo_chosenBy 118 rfl) (by decide) (fun b8 => ?_) (fun b8 => ?_)
          · have h := p_ifT b8 h
            refine g_sub [(0, p_r v0), (1, p_i v1), (2, p_i v2), (3, p_i v3), (4, p_i v4), (5, p_i v5), (6, p_i v6)] [0, 1, 2, 3, 4, 5, 6] rfl ?_
            exact tB_Mo_chosenBy_233 K l k22 hk22 v0 v1 v2 v3 v4 v5 v6 s0 _ h
          · have h := p_ifF b8 h
            refine g_iload (j := 6) (dk_Mo_chosenBy 119 rfl) rfl ?_
            refine g_istore_n (i := 2) [(2, p_i v6), (0, p_r v0), (1, p_i v1), (3, p_i v3), (4, p_i v4), (5, p_i v5), (6, p_i v6), (7, p_i v7), (8, p_i v8)] (dk_Mo_chosenBy 120 rfl) rfl (by decide) rfl ?_
            refine g_sub [(0, p_r v0), (1, p_i v1), (2, p_i v6), (3, p_i v3), (4, p_i v4), (5, p_i v5), (6, p_i v6)] [1, 2, 0, 3, 4, 5, 6] rfl ?_
            exact tB_Mo_chosenBy_233 K l k22 hk22 v0 v1 v6 v3 v4 v5 v6 s0 _ h
set_option maxRecDepth 100000 in
set_option maxHeartbeats 4000000 in
theorem tB_Mo_chosenBy_144 (K : p_K) (l : Launch) (k22 : Nat → Int → Int → Int → Int → Int → Int → p_Hp → Option (Int × p_Hp)) (hk22 : ∀ (v0 : Nat) (v1 : Int) (v2 : Int) (v3 : Int) (v4 : Int) (v5 : Int) (v6 : Int)  (s0 : p_Hp) (r : (Int × p_Hp)), k22 v0 v1 v2 v3 v4 v5 v6 s0 = some r → p_Go K l m_Mo_chosenBy 22 [(0, p_r v0), (1, p_i v1), (2, p_i v2), (3, p_i v3), (4, p_i v4), (5, p_i v5), (6, p_i v6)] [] s0 (some (p_i r.1), r.2)) (v0 : Nat) (v1 : Int) (v2 : Int) (v3 : Int) (v4 : Int) (v5 : Int) (v6 : Int) (v7 : Int) (w0 : Int) (s0 : p_Hp) (r : (Int × p_Hp)) (h : B_Mo_chosenBy_144 k22 v0 v1 v2 v3 v4 v5 v6 v7 w0 s0 = some r) : p_Go K l m_Mo_chosenBy 144 [(0, p_r v0), (1, p_i v1), (2, p_i v2), (3, p_i v3), (4, p_i v4), (5, p_i v5), (6, p_i v6), (7, p_i v7)] [p_i w0] s0 (some (p_i r.1), r.2) := by
  unfold B_Mo_chosenBy_144 at h
  refine g_istore [(8, p_i w0), (0, p_r v0), (1, p_i v1), (2, p_i v2), (3, p_i v3), (4, p_i v4), (5, p_i v5), (6, p_i v6), (7, p_i v7)] (dk_Mo_chosenBy 78 rfl) (by decide) rfl ?_
  refine g_iload (j := 0) (dk_Mo_chosenBy 79 rfl) rfl ?_
  refine g_if_eq 197 (dk_Mo_chosenBy 80 rfl) (by decide) (fun b1 => ?_) (fun b1 => ?_)
  · have h := p_ifT b1 h
    refine g_sub [(0, p_r v0), (1, p_i v1), (2, p_i v2), (3, p_i v3), (4, p_i v4), (5, p_i v5), (6, p_i v6), (7, p_i v7), (8, p_i w0)] [1, 2, 3, 4, 5, 6, 7, 8, 0] rfl ?_
    exact tB_Mo_chosenBy_197 K l k22 hk22 v0 v1 v2 v3 v4 v5 v6 v7 w0 s0 _ h
  · have h := p_ifF b1 h
    refine g_aload_n (i := 0) (j := 1) (dk_Mo_chosenBy 81 rfl) rfl rfl ?_
    obtain ⟨c2, h⟩ := p_gdE h
    refine g_getR fl_Mo_28 (Or.inr ⟨_, rfl⟩) (dk_Mo_chosenBy 82 rfl) c2 ?_
    refine g_iload (j := 8) (dk_Mo_chosenBy 83 rfl) rfl ?_
    obtain ⟨c3, h⟩ := p_gdE h
    obtain ⟨c4, h⟩ := p_gdE h
    refine g_iaload (dk_Mo_chosenBy 84 rfl) c3 c4.1 c4.2 ?_
    refine g_iload (j := 5) (dk_Mo_chosenBy 85 rfl) rfl ?_
    refine g_icmp_le 197 (dk_Mo_chosenBy 86 rfl) (by decide) (fun b5 => ?_) (fun b5 => ?_)
    · have h := p_ifT b5 h
      refine g_sub [(0, p_r v0), (1, p_i v1), (2, p_i v2), (3, p_i v3), (4, p_i v4), (5, p_i v5), (6, p_i v6), (7, p_i v7), (8, p_i w0)] [1, 2, 3, 4, 5, 6, 7, 8, 0] rfl ?_
      exact tB_Mo_chosenBy_197 K l k22 hk22 v0 v1 v2 v3 v4 v5 v6 v7 w0 s0 _ h
    · have h := p_ifF b5 h
      refine g_aload_n (i := 0) (j := 1) (dk_Mo_chosenBy 87 rfl) rfl rfl ?_
      refine g_getR fl_Mo_28 (Or.inr ⟨_, rfl⟩) (dk_Mo_chosenBy 88 rfl) c2 ?_
      refine g_iload (j := 8) (dk_Mo_chosenBy 89 rfl) rfl ?_
      obtain ⟨c6, h⟩ := p_gdE h
      refine g_iaload (dk_Mo_chosenBy 90 rfl) c3 c6.1 c6.2 ?_
      refine g_istore [(4, p_i (p_Z s0 (p_R s0 v0 9) (v7 : Int).toNat)), (8, p_i w0), (0, p_r v0), (1, p_i v1), (2, p_i v2), (3, p_i v3), (5, p_i v5), (6, p_i v6), (7, p_i v7)] (dk_Mo_chosenBy 91 rfl) (by decide) rfl ?_
      refine p_ltG (P := fun q => p_Go K l m_Mo_chosenBy 172 [(4, p_i q), (8, p_i w0), (0, p_r v0), (1, p_i v1), (2, p_i v2), (3, p_i v3), (5, p_i v5), (6, p_i v6), (7, p_i v7)] [] s0 _) ?_ h
      intro x7 h
      refine g_iload (j := 7) (dk_Mo_chosenBy 92 rfl) rfl ?_
      refine g_istore_n (i := 3) [(3, p_i v6), (4, p_i x7), (8, p_i w0), (0, p_r v0), (1, p_i v1), (2, p_i v2), (5, p_i v5), (6, p_i v6), (7, p_i v7)] (dk_Mo_chosenBy 93 rfl) rfl (by decide) rfl ?_
      refine g_iload (j := 7) (dk_Mo_chosenBy 94 rfl) rfl ?_
      refine g_iload (j := 6) (dk_Mo_chosenBy 95 rfl) rfl ?_
      refine g_icmp_le 192 (dk_Mo_chosenBy 96 rfl) (by decide) (fun b8 => ?_) (fun b8 => ?_)
      · have h := p_ifT b8 h
        refine g_sub [(0, p_r v0), (1, p_i v1), (3, p_i v6), (4, p_i x7), (5, p_i v5), (6, p_i v6)] [3, 4, 0, 1, 6, 7] rfl ?_
        exact tB_Mo_chosenBy_192 K l k22 hk22 v0 v1 v6 x7 v5 v6 s0 _ h
      · have h := p_ifF b8 h
        refine g_iload (j := 6) (dk_Mo_chosenBy 97 rfl) rfl ?_
        refine g_if_lt 192 (dk_Mo_chosenBy 98 rfl) (by decide) (fun b9 => ?_) (fun b9 => ?_)
        · have h := p_ifT b9 h
          refine g_sub [(0, p_r v0), (1, p_i v1), (3, p_i v6), (4, p_i x7), (5, p_i v5), (6, p_i v6)] [3, 4, 0, 1, 6, 7] rfl ?_
          exact tB_Mo_chosenBy_192 K l k22 hk22 v0 v1 v6 x7 v5 v6 s0 _ h
        · have h := p_ifF b9 h
          refine g_iload (j := 7) (dk_Mo_chosenBy 99 rfl) rfl ?_
          refine g_goto 193 (dk_Mo_chosenBy 100 rfl) (by decide) ?_
          refine g_sub [(0, p_r v0), (1, p_i v1), (3, p_i v6), (4, p_i x7), (5, p_i v5), (6, p_i v6)] [3, 4, 0, 1, 6, 7] rfl ?_
          exact tB_Mo_chosenBy_193 K l k22 hk22 v0 v1 v6 x7 v5 v6 v6 s0 _ h
set_option maxRecDepth 100000 in
set_option maxHeartbeats 4000000 in
theorem tB_Mo_chosenBy_143 (K : p_K) (l : Launch) (k22 : Nat → Int → Int → Int → Int → Int → Int → p_Hp → Option (Int × p_Hp)) (hk22 : ∀ (v0 : Nat) (v1 : Int) (v2 : Int) (v3 : Int) (v4 : Int) (v5 : Int) (v6 : Int)  (s0 : p_Hp) (r : (Int × p_Hp)), k22 v0 v1 v2 v3 v4 v5 v6 s0 = some r → p_Go K l m_Mo_chosenBy 22 [(0, p_r v0), (1, p_i v1), (2, p_i v2), (3, p_i v3), (4, p_i v4), (5, p_i v5), (6, p_i v6)] [] s0 (some (p_i r.1), r.2)) (v0 : Nat) (v1 : Int) (v2 : Int) (v3 : Int) (v4 : Int) (v5 : Int) (v6 : Int) (v7 : Int) (s0 : p_Hp) (r : (Int × p_Hp)) (h : B_Mo_chosenBy_143 k22 v0 v1 v2 v3 v4 v5 v6 v7 s0 = some r) : p_Go K l m_Mo_chosenBy 143 [(0, p_r v0), (1, p_i v1), (2, p_i v2), (3, p_i v3), (4, p_i v4), (5, p_i v5), (6, p_i v6), (7, p_i v7)] [] s0 (some (p_i r.1), r.2) := by
  unfold B_Mo_chosenBy_143 at h
  refine g_iconst (dk_Mo_chosenBy 77 rfl) (by decide) ?_
  exact tB_Mo_chosenBy_144 K l k22 hk22 v0 v1 v2 v3 v4 v5 v6 v7 0 s0 _ h
set_option maxRecDepth 100000 in
set_option maxHeartbeats 4000000 in
theorem tB_Mo_chosenBy_123 (K : p_K) (l : Launch) (k22 : Nat → Int → Int → Int → Int → Int → Int → p_Hp → Option (Int × p_Hp)) (hk22 : ∀ (v0 : Nat) (v1 : Int) (v2 : Int) (v3 : Int) (v4 : Int) (v5 : Int) (v6 : Int)  (s0 : p_Hp) (r : (Int × p_Hp)), k22 v0 v1 v2 v3 v4 v5 v6 s0 = some r → p_Go K l m_Mo_chosenBy 22 [(0, p_r v0), (1, p_i v1), (2, p_i v2), (3, p_i v3), (4, p_i v4), (5, p_i v5), (6, p_i v6)] [] s0 (some (p_i r.1), r.2)) (v0 : Nat) (v1 : Int) (v2 : Int) (v3 : Int) (v4 : Int) (v5 : Int) (v6 : Int) (v7 : Int) (s0 : p_Hp) (r : (Int × p_Hp)) (h : B_Mo_chosenBy_123 k22 v0 v1 v2 v3 v4 v5 v6 v7 s0 = some r) : p_Go K l m_Mo_chosenBy 123 [(0, p_r v0), (1, p_i v1), (2, p_i v2), (3, p_i v3), (4, p_i v4), (5, p_i v5), (6, p_i v6), (7, p_i v7)] [] s0 (some (p_i r.1), r.2) := by
  unfold B_Mo_chosenBy_123 at h
  refine g_aload_n (i := 0) (j := 0) (dk_Mo_chosenBy 67 rfl) rfl rfl ?_
  refine g_iload (j := 6) (dk_Mo_chosenBy 68 rfl) rfl ?_
  refine g_aload_n (i := 0) (j := 0) (dk_Mo_chosenBy 69 rfl) rfl rfl ?_
  refine g_iload (j := 6) (dk_Mo_chosenBy 70 rfl) rfl ?_
  obtain ⟨c1, h⟩ := p_gdE h
  obtain ⟨r6, s2, q3, h⟩ := p_bdE h
  have t4 := tF_Mo_linkAt K l v0 v6 s0 _ q3
  refine g_callV (a := v0) (ci := 11) (q0 := (RX11, TX11, 90)) (As := [p_i v6]) (rest := [p_i v6, p_r v0]) [p_i r6, p_i v6, p_r v0] mt_Mo_linkAt rfl rfl tw_8_104 ts_80 tw_8_102 ⟨Nat.le_of_ble_eq_true rfl, Nat.le_of_ble_eq_true rfl⟩ rfl (Nat.le_of_ble_eq_true rfl) (dk_Mo_chosenBy 71 rfl) rfl c1 rfl t4 ?_
  have hs5 : p_x s0 s2 := t4.1
  show p_Go K l m_Mo_chosenBy 132 [(0, p_r v0), (1, p_i v1), (2, p_i v2), (3, p_i v3), (4, p_i v4), (5, p_i v5), (6, p_i v6), (7, p_i v7)] [p_i r6, p_i v6, p_r v0] s2 _
  refine g_iload_n (i := 1) (j := 1) (dk_Mo_chosenBy 72 rfl) rfl rfl ?_
  obtain ⟨r11, s7, q8, h⟩ := p_bdE h
  have t9 := tF_Mo_leads K l v0 v6 r6 v1 s2 _ q8
  refine g_callV (a := v0) (ci := 11) (q0 := (RX11, TX11, 90)) (As := [p_i v6, p_i r6, p_i v1]) (rest := []) [p_i r11] mt_Mo_leads rfl rfl tw_8_108 ts_81 tw_8_106 ⟨Nat.le_of_ble_eq_true rfl, Nat.le_of_ble_eq_true rfl⟩ rfl (Nat.le_of_ble_eq_true rfl) (dk_Mo_chosenBy 73 rfl) rfl (c1.up hs5) rfl t9 ?_
  have hs10 : p_x s2 s7 := t9.1
  show p_Go K l m_Mo_chosenBy 136 [(0, p_r v0), (1, p_i v1), (2, p_i v2), (3, p_i v3), (4, p_i v4), (5, p_i v5), (6, p_i v6), (7, p_i v7)] [p_i r11] s7 _
  refine g_if_eq 143 (dk_Mo_chosenBy 74 rfl) (by decide) (fun b12 => ?_) (fun b12 => ?_)
  · have h := p_ifT b12 h
    exact tB_Mo_chosenBy_143 K l k22 hk22 v0 v1 v2 v3 v4 v5 v6 v7 s7 _ h
  · have h := p_ifF b12 h
    refine g_iconst (dk_Mo_chosenBy 75 rfl) (by decide) ?_
    refine g_goto 144 (dk_Mo_chosenBy 76 rfl) (by decide) ?_
    exact tB_Mo_chosenBy_144 K l k22 hk22 v0 v1 v2 v3 v4 v5 v6 v7 1 s7 _ h
set_option maxRecDepth 100000 in
set_option maxHeartbeats 4000000 in
theorem tL_Mo_chosenBy_22 (K : p_K) (l : Launch) (k22 : Nat → Int → Int → Int → Int → Int → Int → p_Hp → Option (Int × p_Hp)) (hk22 : ∀ (v0 : Nat) (v1 : Int) (v2 : Int) (v3 : Int) (v4 : Int) (v5 : Int) (v6 : Int)  (s0 : p_Hp) (r : (Int × p_Hp)), k22 v0 v1 v2 v3 v4 v5 v6 s0 = some r → p_Go K l m_Mo_chosenBy 22 [(0, p_r v0), (1, p_i v1), (2, p_i v2), (3, p_i v3), (4, p_i v4), (5, p_i v5), (6, p_i v6)] [] s0 (some (p_i r.1), r.2)) (v0 : Nat) (v1 : Int) (v2 : Int) (v3 : Int) (v4 : Int) (v5 : Int) (v6 : Int) (s0 : p_Hp) (r : (Int × p_Hp)) (h : L_Mo_chosenBy_22 k22 v0 v1 v2 v3 v4 v5 v6 s0 = some r) : p_Go K l m_Mo_chosenBy 22 [(0, p_r v0), (1, p_i v1), (2, p_i v2), (3, p_i v3), (4, p_i v4), (5, p_i v5), (6, p_i v6)] [] s0 (some (p_i r.1), r.2) := by
  unfold L_Mo_chosenBy_22 at h
  refine g_iload (j := 6) (dk_Mo_chosenBy 15 rfl) rfl ?_
  refine g_aload_n (i := 0) (j := 0) (dk_Mo_chosenBy 16 rfl) rfl rfl ?_
  obtain ⟨c1, h⟩ := p_gdE h
  refine g_getR fl_Mo_7 (Or.inr ⟨_, rfl⟩) (dk_Mo_chosenBy 17 rfl) c1 ?_
  refine g_aload_n (i := 0) (j := 0) (dk_Mo_chosenBy 18 rfl) rfl rfl ?_
  refine g_getI fl_Mo_227 (Or.inl rfl) (dk_Mo_chosenBy 19 rfl) c1 ?_
  obtain ⟨c2, h⟩ := p_gdE h
  obtain ⟨c3, h⟩ := p_gdE h
  refine g_iaload (dk_Mo_chosenBy 20 rfl) c2 c3.1 c3.2 ?_
  refine g_icmp_ge 239 (dk_Mo_chosenBy 21 rfl) (by decide) (fun b4 => ?_) (fun b4 => ?_)
  · have h := p_ifT b4 h
    refine g_iload_n (i := 2) (j := 2) (dk_Mo_chosenBy 123 rfl) rfl rfl ?_
    refine g_if_lt 247 (dk_Mo_chosenBy 124 rfl) (by decide) (fun b5 => ?_) (fun b5 => ?_)
    · have h := p_ifT b5 h
      refine g_iload_n (i := 3) (j := 3) (dk_Mo_chosenBy 127 rfl) rfl rfl ?_
      cases h
      exact g_ret rfl rfl (dk_Mo_chosenBy 128 rfl) (fun os => ⟨_, rfl, p_okh os⟩)
    · have h := p_ifF b5 h
      refine g_iload_n (i := 2) (j := 2) (dk_Mo_chosenBy 125 rfl) rfl rfl ?_
      refine g_goto 248 (dk_Mo_chosenBy 126 rfl) (by decide) ?_
      cases h
      exact g_ret rfl rfl (dk_Mo_chosenBy 128 rfl) (fun os => ⟨_, rfl, p_okh os⟩)
  · have h := p_ifF b4 h
    refine g_aload_n (i := 0) (j := 0) (dk_Mo_chosenBy 22 rfl) rfl rfl ?_
    refine g_iload (j := 6) (dk_Mo_chosenBy 23 rfl) rfl ?_
    obtain ⟨r10, s6, q7, h⟩ := p_bdE h
    have t8 := tF_Mo_g K l v0 v6 s0 _ q7
    refine g_callV (a := v0) (ci := 11) (q0 := (RX11, TX11, 90)) (As := [p_i v6]) (rest := []) [p_i r10] mt_Mo_g rfl rfl tw_7_84 ts_45 tw_7_82 ⟨Nat.le_of_ble_eq_true rfl, Nat.le_of_ble_eq_true rfl⟩ rfl (Nat.le_of_ble_eq_true rfl) (dk_Mo_chosenBy 24 rfl) rfl c1 rfl t8 ?_
    have hs9 : p_x s0 s6 := t8.1
    show p_Go K l m_Mo_chosenBy 42 [(0, p_r v0), (1, p_i v1), (2, p_i v2), (3, p_i v3), (4, p_i v4), (5, p_i v5), (6, p_i v6)] [p_i r10] s6 _
    refine g_istore [(7, p_i r10), (0, p_r v0), (1, p_i v1), (2, p_i v2), (3, p_i v3), (4, p_i v4), (5, p_i v5), (6, p_i v6)] (dk_Mo_chosenBy 25 rfl) (by decide) rfl ?_
    refine g_aload_n (i := 0) (j := 1) (dk_Mo_chosenBy 26 rfl) rfl rfl ?_
    refine g_getR fl_Mo_16 (Or.inr ⟨_, rfl⟩) (dk_Mo_chosenBy 27 rfl) (c1.up hs9) ?_
    refine g_iload (j := 0) (dk_Mo_chosenBy 28 rfl) rfl ?_
    obtain ⟨c11, h⟩ := p_gdE h
    obtain ⟨c12, h⟩ := p_gdE h
    refine g_iaload (dk_Mo_chosenBy 29 rfl) c11 c12.1 c12.2 ?_
    obtain ⟨r17, s13, q14, h⟩ := p_bdE h
    have t15 := tF_Mo_isTaker K l (p_Z s6 (p_R s6 v0 5) (r10 : Int).toNat) s6 _ q14
    refine g_callS (av := [p_i (p_Z s6 (p_R s6 v0 5) (r10 : Int).toNat)]) (rest := []) [p_i r17] mt_Mo_isTaker tw_7_79 tw_7_78 ⟨Nat.le_of_ble_eq_true rfl, Nat.le_of_ble_eq_true rfl⟩ rfl (Nat.le_of_ble_eq_true rfl) (dk_Mo_chosenBy 30 rfl) rfl rfl t15 ?_
    have hs16 : p_x s6 s13 := t15.1
    show p_Go K l m_Mo_chosenBy 54 [(7, p_i r10), (0, p_r v0), (1, p_i v1), (2, p_i v2), (3, p_i v3), (4, p_i v4), (5, p_i v5), (6, p_i v6)] [p_i r17] s13 _
    refine g_if_eq 143 (dk_Mo_chosenBy 31 rfl) (by decide) (fun b18 => ?_) (fun b18 => ?_)
    · have h := p_ifT b18 h
      refine g_sub [(0, p_r v0), (1, p_i v1), (2, p_i v2), (3, p_i v3), (4, p_i v4), (5, p_i v5), (6, p_i v6), (7, p_i r10)] [1, 2, 3, 4, 5, 6, 7, 0] rfl ?_
      exact tB_Mo_chosenBy_143 K l k22 hk22 v0 v1 v2 v3 v4 v5 v6 r10 s13 _ h
    · have h := p_ifF b18 h
      refine g_aload_n (i := 0) (j := 1) (dk_Mo_chosenBy 32 rfl) rfl rfl ?_
      refine g_getR fl_Mo_16 (Or.inr ⟨_, rfl⟩) (dk_Mo_chosenBy 33 rfl) (c1.up (hs9.trans hs16)) ?_
      refine g_iload (j := 0) (dk_Mo_chosenBy 34 rfl) rfl ?_
      obtain ⟨c19, h⟩ := p_gdE h
      obtain ⟨c20, h⟩ := p_gdE h
      refine g_iaload (dk_Mo_chosenBy 35 rfl) c19 c20.1 c20.2 ?_
      refine g_bipush (dk_Mo_chosenBy 36 rfl) (by decide +kernel) (by decide) ?_
      refine g_icmp_eq 143 (dk_Mo_chosenBy 37 rfl) (by decide) (fun b21 => ?_) (fun b21 => ?_)
      · have h := p_ifT b21 h
        refine g_sub [(0, p_r v0), (1, p_i v1), (2, p_i v2), (3, p_i v3), (4, p_i v4), (5, p_i v5), (6, p_i v6), (7, p_i r10)] [1, 2, 3, 4, 5, 6, 7, 0] rfl ?_
        exact tB_Mo_chosenBy_143 K l k22 hk22 v0 v1 v2 v3 v4 v5 v6 r10 s13 _ h
      · have h := p_ifF b21 h
        refine g_aload_n (i := 0) (j := 1) (dk_Mo_chosenBy 38 rfl) rfl rfl ?_
        refine g_iload (j := 0) (dk_Mo_chosenBy 39 rfl) rfl ?_
        obtain ⟨r26, s22, q23, h⟩ := p_bdE h
        have t24 := tF_Mo_isActing K l v0 r10 s13 _ q23
        refine g_callV (a := v0) (ci := 11) (q0 := (RX11, TX11, 90)) (As := [p_i r10]) (rest := []) [p_i r26] mt_Mo_isActing rfl rfl tw_8_97 ts_79 tw_8_95 ⟨Nat.le_of_ble_eq_true rfl, Nat.le_of_ble_eq_true rfl⟩ rfl (Nat.le_of_ble_eq_true rfl) (dk_Mo_chosenBy 40 rfl) rfl (c1.up (hs9.trans hs16)) rfl t24 ?_
        have hs25 : p_x s13 s22 := t24.1
        show p_Go K l m_Mo_chosenBy 75 [(7, p_i r10), (0, p_r v0), (1, p_i v1), (2, p_i v2), (3, p_i v3), (4, p_i v4), (5, p_i v5), (6, p_i v6)] [p_i r26] s22 _
        refine g_if_eq 143 (dk_Mo_chosenBy 41 rfl) (by decide) (fun b27 => ?_) (fun b27 => ?_)
        · have h := p_ifT b27 h
          refine g_sub [(0, p_r v0), (1, p_i v1), (2, p_i v2), (3, p_i v3), (4, p_i v4), (5, p_i v5), (6, p_i v6), (7, p_i r10)] [1, 2, 3, 4, 5, 6, 7, 0] rfl ?_
          exact tB_Mo_chosenBy_143 K l k22 hk22 v0 v1 v2 v3 v4 v5 v6 r10 s22 _ h
        · have h := p_ifF b27 h
          refine g_aload_n (i := 0) (j := 1) (dk_Mo_chosenBy 42 rfl) rfl rfl ?_
          refine g_getR fl_Mo_69 (Or.inr ⟨_, rfl⟩) (dk_Mo_chosenBy 43 rfl) (c1.up (hs9.trans (hs16.trans hs25))) ?_
          refine g_bipush (dk_Mo_chosenBy 44 rfl) (by decide +kernel) (by decide) ?_
          refine g_iload (j := 0) (dk_Mo_chosenBy 45 rfl) rfl ?_
          refine g_imul (dk_Mo_chosenBy 46 rfl) ?_
          refine g_aload_n (i := 0) (j := 1) (dk_Mo_chosenBy 47 rfl) rfl rfl ?_
          refine g_getR fl_Mo_19 (Or.inr ⟨_, rfl⟩) (dk_Mo_chosenBy 48 rfl) (c1.up (hs9.trans (hs16.trans hs25))) ?_
          refine g_iload (j := 0) (dk_Mo_chosenBy 49 rfl) rfl ?_
          obtain ⟨c28, h⟩ := p_gdE h
          obtain ⟨c29, h⟩ := p_gdE h
          refine g_iaload (dk_Mo_chosenBy 50 rfl) c28 c29.1 c29.2 ?_
          refine g_iadd (dk_Mo_chosenBy 51 rfl) ?_
          refine g_iconst (dk_Mo_chosenBy 52 rfl) (by decide) ?_
          refine g_isub (dk_Mo_chosenBy 53 rfl) ?_
          obtain ⟨c30, h⟩ := p_gdE h
          obtain ⟨c31, h⟩ := p_gdE h
          refine g_iaload (dk_Mo_chosenBy 54 rfl) c30 c31.1 c31.2 ?_
          refine g_if_le 143 (dk_Mo_chosenBy 55 rfl) (by decide) (fun b32 => ?_) (fun b32 => ?_)
          · have h := p_ifT b32 h
            refine g_sub [(0, p_r v0), (1, p_i v1), (2, p_i v2), (3, p_i v3), (4, p_i v4), (5, p_i v5), (6, p_i v6), (7, p_i r10)] [1, 2, 3, 4, 5, 6, 7, 0] rfl ?_
            exact tB_Mo_chosenBy_143 K l k22 hk22 v0 v1 v2 v3 v4 v5 v6 r10 s22 _ h
          · have h := p_ifF b32 h
            refine g_aload_n (i := 0) (j := 1) (dk_Mo_chosenBy 56 rfl) rfl rfl ?_
            refine g_getR fl_Mo_16 (Or.inr ⟨_, rfl⟩) (dk_Mo_chosenBy 57 rfl) (c1.up (hs9.trans (hs16.trans hs25))) ?_
            refine g_iload (j := 0) (dk_Mo_chosenBy 58 rfl) rfl ?_
            obtain ⟨c33, h⟩ := p_gdE h
            obtain ⟨c34, h⟩ := p_gdE h
            refine g_iaload (dk_Mo_chosenBy 59 rfl) c33 c34.1 c34.2 ?_
            refine g_bipush (dk_Mo_chosenBy 60 rfl) (by decide +kernel) (by decide) ?_
            refine g_icmp_ne 123 (dk_Mo_chosenBy 61 rfl) (by decide) (fun b35 => ?_) (fun b35 => ?_)
            · have h := p_ifT b35 h
              refine g_sub [(0, p_r v0), (1, p_i v1), (2, p_i v2), (3, p_i v3), (4, p_i v4), (5, p_i v5), (6, p_i v6), (7, p_i r10)] [1, 2, 3, 4, 5, 6, 7, 0] rfl ?_
              exact tB_Mo_chosenBy_123 K l k22 hk22 v0 v1 v2 v3 v4 v5 v6 r10 s22 _ h
            · have h := p_ifF b35 h
              refine g_aload_n (i := 0) (j := 1) (dk_Mo_chosenBy 62 rfl) rfl rfl ?_
              refine g_getR fl_Mo_41 (Or.inr ⟨_, rfl⟩) (dk_Mo_chosenBy 63 rfl) (c1.up (hs9.trans (hs16.trans hs25))) ?_
              refine g_iload (j := 0) (dk_Mo_chosenBy 64 rfl) rfl ?_
              obtain ⟨c36, h⟩ := p_gdE h
              obtain ⟨c37, h⟩ := p_gdE h
              refine g_iaload (dk_Mo_chosenBy 65 rfl) c36 c37.1 c37.2 ?_
              refine g_if_le 143 (dk_Mo_chosenBy 66 rfl) (by decide) (fun b38 => ?_) (fun b38 => ?_)
              · have h := p_ifT b38 h
                refine g_sub [(0, p_r v0), (1, p_i v1), (2, p_i v2), (3, p_i v3), (4, p_i v4), (5, p_i v5), (6, p_i v6), (7, p_i r10)] [1, 2, 3, 4, 5, 6, 7, 0] rfl ?_
                exact tB_Mo_chosenBy_143 K l k22 hk22 v0 v1 v2 v3 v4 v5 v6 r10 s22 _ h
              · have h := p_ifF b38 h
                refine g_sub [(0, p_r v0), (1, p_i v1), (2, p_i v2), (3, p_i v3), (4, p_i v4), (5, p_i v5), (6, p_i v6), (7, p_i r10)] [1, 2, 3, 4, 5, 6, 7, 0] rfl ?_
                exact tB_Mo_chosenBy_123 K l k22 hk22 v0 v1 v2 v3 v4 v5 v6 r10 s22 _ h
set_option maxRecDepth 100000 in
set_option maxHeartbeats 4000000 in
theorem tO_Mo_chosenBy_22 (K : p_K) (l : Launch)  : ∀ (n : Nat) (v0 : Nat) (v1 : Int) (v2 : Int) (v3 : Int) (v4 : Int) (v5 : Int) (v6 : Int) (s0 : p_Hp) (r : (Int × p_Hp)), O_Mo_chosenBy_22 n v0 v1 v2 v3 v4 v5 v6 s0 = some r → p_Go K l m_Mo_chosenBy 22 [(0, p_r v0), (1, p_i v1), (2, p_i v2), (3, p_i v3), (4, p_i v4), (5, p_i v5), (6, p_i v6)] [] s0 (some (p_i r.1), r.2) := by
  intro n
  induction n with
  | zero => intro v0 v1 v2 v3 v4 v5 v6 s0 r h; cases (show (none : Option (Int × p_Hp)) = some r from h)
  | succ n ih => intro v0 v1 v2 v3 v4 v5 v6 s0 r h; exact tL_Mo_chosenBy_22 K l _ ih v0 v1 v2 v3 v4 v5 v6 s0 r h
set_option maxRecDepth 100000 in
set_option maxHeartbeats 4000000 in
theorem tF_Mo_chosenBy (K : p_K) (l : Launch) (v0 : Nat) (v1 : Int) (s0 : p_Hp) (r : (Int × p_Hp)) (h : F_Mo_chosenBy v0 v1 s0 = some r) : p_Ct K l m_Mo_chosenBy [p_r v0, p_i v1] s0 (some (p_i r.1), r.2) := by
  refine p_Ct.of (by decide +kernel) (Nat.le_of_ble_eq_true rfl) ?_
  unfold F_Mo_chosenBy at h
  show p_Go K l m_Mo_chosenBy 0 [(0, p_r v0), (1, p_i v1)] [] s0 _
  refine g_iconst (dk_Mo_chosenBy 0 rfl) (by decide) ?_
  refine g_istore_n (i := 2) [(2, p_i (-1)), (0, p_r v0), (1, p_i v1)] (dk_Mo_chosenBy 1 rfl) rfl (by decide) rfl ?_
  refine g_iconst (dk_Mo_chosenBy 2 rfl) (by decide) ?_
  refine g_istore_n (i := 3) [(3, p_i (-1)), (2, p_i (-1)), (0, p_r v0), (1, p_i v1)] (dk_Mo_chosenBy 3 rfl) rfl (by decide) rfl ?_
  refine g_iconst (dk_Mo_chosenBy 4 rfl) (by decide) ?_
  refine g_istore [(4, p_i (-1)), (3, p_i (-1)), (2, p_i (-1)), (0, p_r v0), (1, p_i v1)] (dk_Mo_chosenBy 5 rfl) (by decide) rfl ?_
  refine g_aload_n (i := 0) (j := 3) (dk_Mo_chosenBy 6 rfl) rfl rfl ?_
  obtain ⟨c1, h⟩ := p_gdE h
  refine g_getR fl_Mo_38 (Or.inr ⟨_, rfl⟩) (dk_Mo_chosenBy 7 rfl) c1 ?_
  refine g_aload_n (i := 0) (j := 3) (dk_Mo_chosenBy 8 rfl) rfl rfl ?_
  refine g_iload_n (i := 1) (j := 4) (dk_Mo_chosenBy 9 rfl) rfl rfl ?_
  obtain ⟨r6, s2, q3, h⟩ := p_bdE h
  have t4 := tF_Mo_g K l v0 v1 s0 _ q3
  refine g_callV (a := v0) (ci := 11) (q0 := (RX11, TX11, 90)) (As := [p_i v1]) (rest := [p_r (p_R s0 v0 12)]) [p_i r6, p_r (p_R s0 v0 12)] mt_Mo_g rfl rfl tw_7_84 ts_45 tw_7_82 ⟨Nat.le_of_ble_eq_true rfl, Nat.le_of_ble_eq_true rfl⟩ rfl (Nat.le_of_ble_eq_true rfl) (dk_Mo_chosenBy 10 rfl) rfl c1 rfl t4 ?_
  have hs5 : p_x s0 s2 := t4.1
  show p_Go K l m_Mo_chosenBy 16 [(4, p_i (-1)), (3, p_i (-1)), (2, p_i (-1)), (0, p_r v0), (1, p_i v1)] [p_i r6, p_r (p_R s0 v0 12)] s2 _
  obtain ⟨c7, h⟩ := p_gdE h
  obtain ⟨c8, h⟩ := p_gdE h
  refine g_iaload (dk_Mo_chosenBy 11 rfl) c7 c8.1 c8.2 ?_
  refine g_istore [(5, p_i (p_Z s2 (p_R s0 v0 12) (r6 : Int).toNat)), (4, p_i (-1)), (3, p_i (-1)), (2, p_i (-1)), (0, p_r v0), (1, p_i v1)] (dk_Mo_chosenBy 12 rfl) (by decide) rfl ?_
  refine p_ltG (P := fun q => p_Go K l m_Mo_chosenBy 19 [(5, p_i q), (4, p_i (-1)), (3, p_i (-1)), (2, p_i (-1)), (0, p_r v0), (1, p_i v1)] [] s2 _) ?_ h
  intro x9 h
  refine g_iconst (dk_Mo_chosenBy 13 rfl) (by decide) ?_
  refine g_istore [(6, p_i 0), (5, p_i x9), (4, p_i (-1)), (3, p_i (-1)), (2, p_i (-1)), (0, p_r v0), (1, p_i v1)] (dk_Mo_chosenBy 14 rfl) (by decide) rfl ?_
  refine g_sub [(0, p_r v0), (1, p_i v1), (2, p_i (-1)), (3, p_i (-1)), (4, p_i (-1)), (5, p_i x9), (6, p_i 0)] [5, 6, 4, 3, 2, 1, 0] rfl ?_
  exact tO_Mo_chosenBy_22 K l 3000 v0 v1 (-1) (-1) (-1) x9 0 s2 _ h
def m_Mo_choose : p_Me := (⟨"SortWorksModel", "choose", "()V"⟩, prog_13_method_66_code, 2, none, 5, 120)
theorem mt_Mo_choose : p_Mt m_Mo_choose 0 := ⟨p_mem (p_tb8 (List.mem_of_getElem? (i := 90) rfl)) rfl, tw_1_12, by decide +kernel, by decide +kernel, by decide +kernel⟩
def dt_Mo_choose : List (Nat × Instr × Nat) := [(0, .iconst 0, 1), (1, .istore_n 1, 1), (2, .iload_n 1, 1), (3, .aload_n 0, 1), (4, .getfield 7, 3), (7, .aload_n 0, 1), (8, .getfield 227, 3), (11, .iaload, 1), (12, .if_icmp .ge 41, 3), (15, .aload_n 0, 1), (16, .getfield 201, 3), (19, .iload_n 1, 1), (20, .iconst (-1), 1), (21, .iastore, 1), (22, .aload_n 0, 1), (23, .getfield 16, 3), (26, .aload_n 0, 1), (27, .iload_n 1, 1), (28, .invokevirtual 257, 3), (31, .iaload, 1), (32, .iconst 2, 1), (33, .if_icmp .ne 14, 3), (36, .aload_n 0, 1), (37, .getfield 201, 3), (40, .iload_n 1, 1), (41, .aload_n 0, 1), (42, .iload_n 1, 1), (43, .invokevirtual 401, 3), (46, .iastore, 1), (47, .iinc 1 1, 3), (50, .goto (-48), 3), (53, .return_, 1)]
theorem dk_Mo_choose (i : Nat) {pc : Nat} {ins : Instr} {len : Nat} (h : dt_Mo_choose[i]? = some (pc, ins, len)) : decode m_Mo_choose.2.1 pc = .ok (ins, len) := p_dk (b := m_Mo_choose.2.1) (t := dt_Mo_choose) (by decide +kernel) i h
def B_Mo_choose_47 (k2 : Nat → Int → p_Hp → Option p_Hp) (v0 : Nat) (v1 : Int) (s0 : p_Hp) : Option p_Hp :=
  p_bi (p_w (v1 + 1)) fun x1 =>
  k2 v0 x1 s0
def L_Mo_choose_2 (k2 : Nat → Int → p_Hp → Option p_Hp) (v0 : Nat) (v1 : Int) (s0 : p_Hp) : Option p_Hp :=
  p_gd (p_is s0 v0 11) <|
  p_gd (p_is s0 (p_R s0 v0 3) 100) <|
  p_gd ((0 : Int) ≤ (p_Z s0 v0 0) ∧ (p_Z s0 v0 0) < (p_L s0 (p_R s0 v0 3) : Int)) <|
  if (p_Z s0 (p_R s0 v0 3) ((p_Z s0 v0 0) : Int).toNat) ≤ v1 then
    some s0
  else
    p_gd (p_is s0 (p_R s0 v0 74) 100) <|
    p_gd ((0 : Int) ≤ v1 ∧ v1 < (p_L s0 (p_R s0 v0 74) : Int)) <|
    p_bi (p_wZ s0 (p_R s0 v0 74) (v1 : Int).toNat (-1)) fun s7 =>
    p_bd (F_Mo_g v0 v1 s7) fun r13 s9 =>
    p_gd (p_is s9 (p_R s7 v0 5) 100) <|
    p_gd ((0 : Int) ≤ r13 ∧ r13 < (p_L s9 (p_R s7 v0 5) : Int)) <|
    if (p_Z s9 (p_R s7 v0 5) (r13 : Int).toNat) ≠ 2 then
      B_Mo_choose_47 k2 v0 v1 s9
    else
      p_bd (F_Mo_chosenBy v0 v1 s9) fun r21 s17 =>
      p_gd (p_is s17 (p_R s9 v0 74) 100) <|
      p_gd ((0 : Int) ≤ v1 ∧ v1 < (p_L s17 (p_R s9 v0 74) : Int)) <|
      p_bi (p_wZ s17 (p_R s9 v0 74) (v1 : Int).toNat r21) fun s24 =>
      B_Mo_choose_47 k2 v0 v1 s24
def O_Mo_choose_2  : Nat → Nat → Int → p_Hp → Option p_Hp
  | 0 => fun _ _ _ => none
  | n + 1 => L_Mo_choose_2 (O_Mo_choose_2 n)
def F_Mo_choose (v0 : Nat) (s0 : p_Hp) : Option p_Hp :=
  O_Mo_choose_2 3000 v0 0 s0
set_option maxRecDepth 100000 in
set_option maxHeartbeats 4000000 in
theorem tB_Mo_choose_47 (K : p_K) (l : Launch) (k2 : Nat → Int → p_Hp → Option p_Hp) (hk2 : ∀ (v0 : Nat) (v1 : Int)  (s0 : p_Hp) (r : p_Hp), k2 v0 v1 s0 = some r → p_Go K l m_Mo_choose 2 [(0, p_r v0), (1, p_i v1)] [] s0 (none, r)) (v0 : Nat) (v1 : Int) (s0 : p_Hp) (r : p_Hp) (h : B_Mo_choose_47 k2 v0 v1 s0 = some r) : p_Go K l m_Mo_choose 47 [(0, p_r v0), (1, p_i v1)] [] s0 (none, r) := by
  unfold B_Mo_choose_47 at h
  refine g_iinc (j := 1) [(1, p_i (p_w (v1 + 1))), (0, p_r v0)] (dk_Mo_choose 29 rfl) rfl (by decide) rfl ?_
  refine p_ltG (P := fun q => p_Go K l m_Mo_choose 50 [(1, p_i q), (0, p_r v0)] [] s0 _) ?_ h
  intro x1 h
  refine g_goto 2 (dk_Mo_choose 30 rfl) (by decide) ?_
  refine g_sub [(0, p_r v0), (1, p_i x1)] [1, 0] rfl ?_
  exact hk2 v0 x1 s0 _ h
set_option maxRecDepth 100000 in
set_option maxHeartbeats 4000000 in
theorem tL_Mo_choose_2 (K : p_K) (l : Launch) (k2 : Nat → Int → p_Hp → Option p_Hp) (hk2 : ∀ (v0 : Nat) (v1 : Int)  (s0 : p_Hp) (r : p_Hp), k2 v0 v1 s0 = some r → p_Go K l m_Mo_choose 2 [(0, p_r v0), (1, p_i v1)] [] s0 (none, r)) (v0 : Nat) (v1 : Int) (s0 : p_Hp) (r : p_Hp) (h : L_Mo_choose_2 k2 v0 v1 s0 = some r) : p_Go K l m_Mo_choose 2 [(0, p_r v0), (1, p_i v1)] [] s0 (none, r) := by
  unfold L_Mo_choose_2 at h
  refine g_iload_n (i := 1) (j := 1) (dk_Mo_choose 2 rfl) rfl rfl ?_
  refine g_aload_n (i := 0) (j := 0) (dk_Mo_choose 3 rfl) rfl rfl ?_
  obtain ⟨c1, h⟩ := p_gdE h
  refine g_getR fl_Mo_7 (Or.inr ⟨_, rfl⟩) (dk_Mo_choose 4 rfl) c1 ?_
  refine g_aload_n (i := 0) (j := 0) (dk_Mo_choose 5 rfl) rfl rfl ?_
  refine g_getI fl_Mo_227 (Or.inl rfl) (dk_Mo_choose 6 rfl) c1 ?_
  obtain ⟨c2, h⟩ := p_gdE h
  obtain ⟨c3, h⟩ := p_gdE h
  refine g_iaload (dk_Mo_choose 7 rfl) c2 c3.1 c3.2 ?_
  refine g_icmp_ge 53 (dk_Mo_choose 8 rfl) (by decide) (fun b4 => ?_) (fun b4 => ?_)
  · have h := p_ifT b4 h
    cases h
    exact g_ret rfl rfl (dk_Mo_choose 31 rfl) (fun _ => rfl)
  · have h := p_ifF b4 h
    refine g_aload_n (i := 0) (j := 0) (dk_Mo_choose 9 rfl) rfl rfl ?_
    refine g_getR fl_Mo_201 (Or.inr ⟨_, rfl⟩) (dk_Mo_choose 10 rfl) c1 ?_
    refine g_iload_n (i := 1) (j := 1) (dk_Mo_choose 11 rfl) rfl rfl ?_
    refine g_iconst (dk_Mo_choose 12 rfl) (by decide) ?_
    obtain ⟨c5, h⟩ := p_gdE h
    obtain ⟨c6, h⟩ := p_gdE h
    refine g_iastore (dk_Mo_choose 13 rfl) c5 c6.1 c6.2 ?_
    refine p_ltS (P := fun q => p_Go K l m_Mo_choose 22 [(0, p_r v0), (1, p_i v1)] [] q _) (p_xZ _ _ _ _) ?_ h
    intro s7 hs8 h
    refine g_aload_n (i := 0) (j := 0) (dk_Mo_choose 14 rfl) rfl rfl ?_
    refine g_getR fl_Mo_16 (Or.inr ⟨_, rfl⟩) (dk_Mo_choose 15 rfl) (c1.up hs8) ?_
    refine g_aload_n (i := 0) (j := 0) (dk_Mo_choose 16 rfl) rfl rfl ?_
    refine g_iload_n (i := 1) (j := 1) (dk_Mo_choose 17 rfl) rfl rfl ?_
    obtain ⟨r13, s9, q10, h⟩ := p_bdE h
    have t11 := tF_Mo_g K l v0 v1 s7 _ q10
    refine g_callV (a := v0) (ci := 11) (q0 := (RX11, TX11, 90)) (As := [p_i v1]) (rest := [p_r (p_R s7 v0 5)]) [p_i r13, p_r (p_R s7 v0 5)] mt_Mo_g rfl rfl tw_7_84 ts_45 tw_7_82 ⟨Nat.le_of_ble_eq_true rfl, Nat.le_of_ble_eq_true rfl⟩ rfl (Nat.le_of_ble_eq_true rfl) (dk_Mo_choose 18 rfl) rfl (c1.up hs8) rfl t11 ?_
    have hs12 : p_x s7 s9 := t11.1
    show p_Go K l m_Mo_choose 31 [(0, p_r v0), (1, p_i v1)] [p_i r13, p_r (p_R s7 v0 5)] s9 _
    obtain ⟨c14, h⟩ := p_gdE h
    obtain ⟨c15, h⟩ := p_gdE h
    refine g_iaload (dk_Mo_choose 19 rfl) c14 c15.1 c15.2 ?_
    refine g_iconst (dk_Mo_choose 20 rfl) (by decide) ?_
    refine g_icmp_ne 47 (dk_Mo_choose 21 rfl) (by decide) (fun b16 => ?_) (fun b16 => ?_)
    · have h := p_ifT b16 h
      exact tB_Mo_choose_47 K l k2 hk2 v0 v1 s9 _ h
    · have h := p_ifF b16 h
      refine g_aload_n (i := 0) (j := 0) (dk_Mo_choose 22 rfl) rfl rfl ?_
      refine g_getR fl_Mo_201 (Or.inr ⟨_, rfl⟩) (dk_Mo_choose 23 rfl) (c1.up (hs8.trans hs12)) ?_
      refine g_iload_n (i := 1) (j := 1) (dk_Mo_choose 24 rfl) rfl rfl ?_
      refine g_aload_n (i := 0) (j := 0) (dk_Mo_choose 25 rfl) rfl rfl ?_
      refine g_iload_n (i := 1) (j := 1) (dk_Mo_choose 26 rfl) rfl rfl ?_
      obtain ⟨r21, s17, q18, h⟩ := p_bdE h
      have t19 := tF_Mo_chosenBy K l v0 v1 s9 _ q18
      refine g_callV (a := v0) (ci := 11) (q0 := (RX11, TX11, 90)) (As := [p_i v1]) (rest := [p_i v1, p_r (p_R s9 v0 74)]) [p_i r21, p_i v1, p_r (p_R s9 v0 74)] mt_Mo_chosenBy rfl rfl tw_8_93 ts_78 tw_8_91 ⟨Nat.le_of_ble_eq_true rfl, Nat.le_of_ble_eq_true rfl⟩ rfl (Nat.le_of_ble_eq_true rfl) (dk_Mo_choose 27 rfl) rfl (c1.up (hs8.trans hs12)) rfl t19 ?_
      have hs20 : p_x s9 s17 := t19.1
      show p_Go K l m_Mo_choose 46 [(0, p_r v0), (1, p_i v1)] [p_i r21, p_i v1, p_r (p_R s9 v0 74)] s17 _
      obtain ⟨c22, h⟩ := p_gdE h
      obtain ⟨c23, h⟩ := p_gdE h
      refine g_iastore (dk_Mo_choose 28 rfl) c22 c23.1 c23.2 ?_
      refine p_ltS (P := fun q => p_Go K l m_Mo_choose 47 [(0, p_r v0), (1, p_i v1)] [] q _) (p_xZ _ _ _ _) ?_ h
      intro s24 hs25 h
      exact tB_Mo_choose_47 K l k2 hk2 v0 v1 s24 _ h
set_option maxRecDepth 100000 in
set_option maxHeartbeats 4000000 in
theorem tO_Mo_choose_2 (K : p_K) (l : Launch)  : ∀ (n : Nat) (v0 : Nat) (v1 : Int) (s0 : p_Hp) (r : p_Hp), O_Mo_choose_2 n v0 v1 s0 = some r → p_Go K l m_Mo_choose 2 [(0, p_r v0), (1, p_i v1)] [] s0 (none, r) := by
  intro n
  induction n with
  | zero => intro v0 v1 s0 r h; cases (show (none : Option p_Hp) = some r from h)
  | succ n ih => intro v0 v1 s0 r h; exact tL_Mo_choose_2 K l _ ih v0 v1 s0 r h
set_option maxRecDepth 100000 in
set_option maxHeartbeats 4000000 in
theorem tF_Mo_choose (K : p_K) (l : Launch) (v0 : Nat) (s0 : p_Hp) (r : p_Hp) (h : F_Mo_choose v0 s0 = some r) : p_Ct K l m_Mo_choose [p_r v0] s0 (none, r) := by
  refine p_Ct.of (by decide +kernel) (Nat.le_of_ble_eq_true rfl) ?_
  unfold F_Mo_choose at h
  show p_Go K l m_Mo_choose 0 [(0, p_r v0)] [] s0 _
  refine g_iconst (dk_Mo_choose 0 rfl) (by decide) ?_
  refine g_istore_n (i := 1) [(1, p_i 0), (0, p_r v0)] (dk_Mo_choose 1 rfl) rfl (by decide) rfl ?_
  refine g_sub [(0, p_r v0), (1, p_i 0)] [1, 0] rfl ?_
  exact tO_Mo_choose_2 K l 3000 v0 0 s0 _ h
def m_Mo_planFault : p_Me := (⟨"SortWorksModel", "planFault", "(I)I"⟩, prog_13_method_63_code, 7, (some .int), 2, 46)
theorem mt_Mo_planFault : p_Mt m_Mo_planFault 1 := ⟨p_mem (p_tb8 (List.mem_of_getElem? (i := 82) rfl)) rfl, tw_1_12, by decide +kernel, by decide +kernel, by decide +kernel⟩
def dt_Mo_planFault : List (Nat × Instr × Nat) := [(0, .aload_n 0, 1), (1, .getfield 168, 3), (4, .iload_n 1, 1), (5, .iaload, 1), (6, .istore_n 2, 1), (7, .iload_n 2, 1), (8, .iconst 2, 1), (9, .if_icmp .ge 5, 3), (12, .iconst 3, 1), (13, .ireturn, 1), (14, .aload_n 0, 1), (15, .getfield 171, 3), (18, .iconst 4, 1), (19, .iload_n 1, 1), (20, .imul, 1), (21, .iconst 1, 1), (22, .iadd, 1), (23, .iaload, 1), (24, .istore_n 3, 1), (25, .iload_n 3, 1), (26, .i2l, 1), (27, .lconst 0, 1), (28, .ldc2_w 238, 3), (31, .invokestatic 230, 3), (34, .ifCond .ne 8, 3), (37, .iload_n 2, 1), (38, .iconst 3, 1), (39, .if_icmp .ge 5, 3), (42, .iconst 3, 1), (43, .ireturn, 1), (44, .aload_n 0, 1), (45, .getfield 171, 3), (48, .iconst 4, 1), (49, .iload_n 1, 1), (50, .imul, 1), (51, .iconst 2, 1), (52, .iadd, 1), (53, .iaload, 1), (54, .istore 4, 2), (56, .iload 4, 2), (58, .i2l, 1), (59, .lconst 0, 1), (60, .ldc2_w 275, 3), (63, .invokestatic 230, 3), (66, .ifCond .eq 5, 3), (69, .iconst 3, 1), (70, .ireturn, 1), (71, .aload_n 0, 1), (72, .iload 4, 2), (74, .invokevirtual 267, 3), (77, .ifCond .eq 5, 3), (80, .iconst 1, 1), (81, .ireturn, 1), (82, .aload_n 0, 1), (83, .iload 4, 2), (85, .invokevirtual 257, 3), (88, .istore 5, 2), (90, .iload_n 3, 1), (91, .ifCond .ne 18, 3), (94, .aload_n 0, 1), (95, .getfield 16, 3), (98, .iload 5, 2), (100, .iaload, 1), (101, .bipush 9, 2), (103, .if_icmp .eq 41, 3), (106, .goto 36, 3), (109, .iload_n 3, 1), (110, .iconst 1, 1), (111, .if_icmp .ne 19, 3), (114, .aload_n 0, 1), (115, .getfield 16, 3), (118, .iload 5, 2), (120, .iaload, 1), (121, .invokestatic 234, 3), (124, .ifCond .ne 20, 3), (127, .goto 15, 3), (130, .aload_n 0, 1), (131, .getfield 16, 3), (134, .iload 5, 2), (136, .iaload, 1), (137, .bipush 8, 2), (139, .if_icmp .eq 5, 3), (142, .iconst 2, 1), (143, .ireturn, 1), (144, .iload_n 2, 1), (145, .iconst 4, 1), (146, .if_icmp .ge 5, 3), (149, .iconst 3, 1), (150, .ireturn, 1), (151, .aload_n 0, 1), (152, .getfield 171, 3), (155, .iconst 4, 1), (156, .iload_n 1, 1), (157, .imul, 1), (158, .iconst 3, 1), (159, .iadd, 1), (160, .iaload, 1), (161, .istore 6, 2), (163, .iload_n 3, 1), (164, .ifCond .ne 23, 3), (167, .aload_n 0, 1), (168, .getfield 44, 3), (171, .iload 5, 2), (173, .iload 6, 2), (175, .ifCond .eq 7, 3), (178, .iconst 1, 1), (179, .goto 4, 3), (182, .iconst 0, 1), (183, .bastore, 1), (184, .goto 78, 3), (187, .iload_n 3, 1), (188, .iconst 1, 1), (189, .if_icmp .ne 49, 3), (192, .aload_n 0, 1), (193, .iload 5, 2), (195, .invokevirtual 282, 3), (198, .ifCond .ne 64, 3), (201, .iload 6, 2), (203, .i2l, 1), (204, .lconst 0, 1), (205, .aload_n 0, 1), (206, .getfield 16, 3), (209, .iload 5, 2), (211, .iaload, 1), (212, .invokestatic 277, 3), (215, .iconst 1, 1), (216, .isub, 1), (217, .i2l, 1), (218, .invokestatic 230, 3), (221, .ifCond .eq 5, 3), (224, .iconst 3, 1), (225, .ireturn, 1), (226, .aload_n 0, 1), (227, .getfield 31, 3), (230, .iload 5, 2), (232, .iload 6, 2), (234, .iastore, 1), (235, .goto 27, 3), (238, .iload 6, 2), (240, .i2l, 1), (241, .lconst 0, 1), (242, .ldc2_w 364, 3), (245, .invokestatic 230, 3), (248, .ifCond .eq 5, 3), (251, .iconst 3, 1), (252, .ireturn, 1), (253, .aload_n 0, 1), (254, .getfield 41, 3), (257, .iload 5, 2), (259, .iload 6, 2), (261, .iastore, 1), (262, .iconst 0, 1), (263, .ireturn, 1)]
theorem dk_Mo_planFault (i : Nat) {pc : Nat} {ins : Instr} {len : Nat} (h : dt_Mo_planFault[i]? = some (pc, ins, len)) : decode m_Mo_planFault.2.1 pc = .ok (ins, len) := p_dk (b := m_Mo_planFault.2.1) (t := dt_Mo_planFault) (by decide +kernel) i h
def B_Mo_planFault_183  (w0 : Int) (w1 : Int) (w2 : Nat) (s0 : p_Hp) : Option (Int × p_Hp) :=
  p_gd (p_is s0 w2 102) <|
  p_gd ((0 : Int) ≤ w1 ∧ w1 < (p_L s0 w2 : Int)) <|
  p_gd (w0 = 0 ∨ w0 = 1) <|
  p_bi (p_wZ s0 w2 (w1 : Int).toNat w0) fun s4 =>
  some (0, s4)
def B_Mo_planFault_144  (v0 : Nat) (v1 : Int) (v2 : Int) (v3 : Int) (v5 : Int) (s0 : p_Hp) : Option (Int × p_Hp) :=
  if 4 ≤ v2 then
    p_gd (p_is s0 v0 11) <|
    p_gd (p_is s0 (p_R s0 v0 58) 100) <|
    p_gd ((0 : Int) ≤ (p_w ((p_w (4 * v1)) + 3)) ∧ (p_w ((p_w (4 * v1)) + 3)) < (p_L s0 (p_R s0 v0 58) : Int)) <|
    p_bi ((p_Z s0 (p_R s0 v0 58) ((p_w ((p_w (4 * v1)) + 3)) : Int).toNat)) fun x5 =>
    if v3 ≠ 0 then
      if v3 ≠ 1 then
        p_bd (F_Mo_beyond x5 0 20 s0) fun r12 s8 =>
        if r12 = 0 then
          p_gd (p_is s8 (p_R s8 v0 13) 100) <|
          p_gd ((0 : Int) ≤ v5 ∧ v5 < (p_L s8 (p_R s8 v0 13) : Int)) <|
          p_bi (p_wZ s8 (p_R s8 v0 13) (v5 : Int).toNat x5) fun s16 =>
          some (0, s16)
        else
          some (3, s8)
      else
        p_bd (F_Mo_loadOf v0 v5 s0) fun r22 s18 =>
        if r22 ≠ 0 then
          some (0, s18)
        else
          p_gd (p_is s18 (p_R s18 v0 5) 100) <|
          p_gd ((0 : Int) ≤ v5 ∧ v5 < (p_L s18 (p_R s18 v0 5) : Int)) <|
          p_bd (F_Mo_sidesOf (p_Z s18 (p_R s18 v0 5) (v5 : Int).toNat) s18) fun r30 s26 =>
          p_bd (F_Mo_beyond x5 0 (p_w (r30 - 1)) s26) fun r35 s31 =>
          if r35 = 0 then
            p_gd (p_is s31 (p_R s31 v0 10) 100) <|
            p_gd ((0 : Int) ≤ v5 ∧ v5 < (p_L s31 (p_R s31 v0 10) : Int)) <|
            p_bi (p_wZ s31 (p_R s31 v0 10) (v5 : Int).toNat x5) fun s39 =>
            some (0, s39)
          else
            some (3, s31)
    else
      if x5 = 0 then
        B_Mo_planFault_183 0 v5 (p_R s0 v0 14) s0
      else
        B_Mo_planFault_183 1 v5 (p_R s0 v0 14) s0
  else
    some (3, s0)
def F_Mo_planFault (v0 : Nat) (v1 : Int) (s0 : p_Hp) : Option (Int × p_Hp) :=
  p_gd (p_is s0 v0 11) <|
  p_gd (p_is s0 (p_R s0 v0 57) 100) <|
  p_gd ((0 : Int) ≤ v1 ∧ v1 < (p_L s0 (p_R s0 v0 57) : Int)) <|
  p_bi ((p_Z s0 (p_R s0 v0 57) (v1 : Int).toNat)) fun x4 =>
  if 2 ≤ x4 then
    p_gd (p_is s0 (p_R s0 v0 58) 100) <|
    p_gd ((0 : Int) ≤ (p_w ((p_w (4 * v1)) + 1)) ∧ (p_w ((p_w (4 * v1)) + 1)) < (p_L s0 (p_R s0 v0 58) : Int)) <|
    p_bi ((p_Z s0 (p_R s0 v0 58) ((p_w ((p_w (4 * v1)) + 1)) : Int).toNat)) fun x8 =>
    p_bd (F_Mo_beyond x8 0 2 s0) fun r13 s9 =>
    if r13 ≠ 0 then
      some (3, s9)
    else
      if 3 ≤ x4 then
        p_gd (p_is s9 (p_R s9 v0 58) 100) <|
        p_gd ((0 : Int) ≤ (p_w ((p_w (4 * v1)) + 2)) ∧ (p_w ((p_w (4 * v1)) + 2)) < (p_L s9 (p_R s9 v0 58) : Int)) <|
        p_bi ((p_Z s9 (p_R s9 v0 58) ((p_w ((p_w (4 * v1)) + 2)) : Int).toNat)) fun x18 =>
        p_bd (F_Mo_beyond x18 0 39 s9) fun r23 s19 =>
        if r23 = 0 then
          p_bd (F_Mo_noGear v0 x18 s19) fun r29 s25 =>
          if r29 = 0 then
            p_bd (F_Mo_g v0 x18 s25) fun r35 s31 =>
            if x8 ≠ 0 then
              if x8 ≠ 1 then
                p_gd (p_is s31 (p_R s31 v0 5) 100) <|
                p_gd ((0 : Int) ≤ r35 ∧ r35 < (p_L s31 (p_R s31 v0 5) : Int)) <|
                if (p_Z s31 (p_R s31 v0 5) (r35 : Int).toNat) = 8 then
                  B_Mo_planFault_144 v0 v1 x4 x8 r35 s31
                else
                  some (2, s31)
              else
                p_gd (p_is s31 (p_R s31 v0 5) 100) <|
                p_gd ((0 : Int) ≤ r35 ∧ r35 < (p_L s31 (p_R s31 v0 5) : Int)) <|
                p_bd (F_Mo_isDivert (p_Z s31 (p_R s31 v0 5) (r35 : Int).toNat) s31) fun r47 s43 =>
                if r47 ≠ 0 then
                  B_Mo_planFault_144 v0 v1 x4 x8 r35 s43
                else
                  some (2, s43)
            else
              p_gd (p_is s31 (p_R s31 v0 5) 100) <|
              p_gd ((0 : Int) ≤ r35 ∧ r35 < (p_L s31 (p_R s31 v0 5) : Int)) <|
              if (p_Z s31 (p_R s31 v0 5) (r35 : Int).toNat) = 9 then
                B_Mo_planFault_144 v0 v1 x4 x8 r35 s31
              else
                some (2, s31)
          else
            some (1, s25)
        else
          some (3, s19)
      else
        some (3, s9)
  else
    some (3, s0)
set_option maxRecDepth 100000 in
set_option maxHeartbeats 4000000 in
theorem tB_Mo_planFault_183 (K : p_K) (l : Launch)  (w0 : Int) (w1 : Int) (w2 : Nat) (s0 : p_Hp) (r : (Int × p_Hp)) (h : B_Mo_planFault_183 w0 w1 w2 s0 = some r) : p_Go K l m_Mo_planFault 183 [] [p_i w0, p_i w1, p_r w2] s0 (some (p_i r.1), r.2) := by
  unfold B_Mo_planFault_183 at h
  obtain ⟨c1, h⟩ := p_gdE h
  obtain ⟨c2, h⟩ := p_gdE h
  obtain ⟨c3, h⟩ := p_gdE h
  refine g_bastore (dk_Mo_planFault 108 rfl) c1 c2.1 c2.2 c3 ?_
  refine p_ltS (P := fun q => p_Go K l m_Mo_planFault 184 [] [] q _) (p_xZ _ _ _ _) ?_ h
  intro s4 hs5 h
  refine g_goto 262 (dk_Mo_planFault 109 rfl) (by decide) ?_
  refine g_iconst (dk_Mo_planFault 151 rfl) (by decide) ?_
  cases h
  exact g_ret rfl rfl (dk_Mo_planFault 152 rfl) (fun os => ⟨_, rfl, p_okh os⟩)
set_option maxRecDepth 100000 in
set_option maxHeartbeats 4000000 in
theorem tB_Mo_planFault_144 (K : p_K) (l : Launch)  (v0 : Nat) (v1 : Int) (v2 : Int) (v3 : Int) (v5 : Int) (s0 : p_Hp) (r : (Int × p_Hp)) (h : B_Mo_planFault_144 v0 v1 v2 v3 v5 s0 = some r) : p_Go K l m_Mo_planFault 144 [(0, p_r v0), (1, p_i v1), (2, p_i v2), (3, p_i v3), (5, p_i v5)] [] s0 (some (p_i r.1), r.2) := by
  unfold B_Mo_planFault_144 at h
  refine g_iload_n (i := 2) (j := 2) (dk_Mo_planFault 84 rfl) rfl rfl ?_
  refine g_iconst (dk_Mo_planFault 85 rfl) (by decide) ?_
  refine g_icmp_ge 151 (dk_Mo_planFault 86 rfl) (by decide) (fun b1 => ?_) (fun b1 => ?_)
  · have h := p_ifT b1 h
    refine g_aload_n (i := 0) (j := 0) (dk_Mo_planFault 89 rfl) rfl rfl ?_
    obtain ⟨c2, h⟩ := p_gdE h
    refine g_getR fl_Mo_171 (Or.inr ⟨_, rfl⟩) (dk_Mo_planFault 90 rfl) c2 ?_
    refine g_iconst (dk_Mo_planFault 91 rfl) (by decide) ?_
    refine g_iload_n (i := 1) (j := 1) (dk_Mo_planFault 92 rfl) rfl rfl ?_
    refine g_imul (dk_Mo_planFault 93 rfl) ?_
    refine g_iconst (dk_Mo_planFault 94 rfl) (by decide) ?_
    refine g_iadd (dk_Mo_planFault 95 rfl) ?_
    obtain ⟨c3, h⟩ := p_gdE h
    obtain ⟨c4, h⟩ := p_gdE h
    refine g_iaload (dk_Mo_planFault 96 rfl) c3 c4.1 c4.2 ?_
    refine g_istore [(6, p_i (p_Z s0 (p_R s0 v0 58) ((p_w ((p_w (4 * v1)) + 3)) : Int).toNat)), (0, p_r v0), (1, p_i v1), (2, p_i v2), (3, p_i v3), (5, p_i v5)] (dk_Mo_planFault 97 rfl) (by decide) rfl ?_
    refine p_ltG (P := fun q => p_Go K l m_Mo_planFault 163 [(6, p_i q), (0, p_r v0), (1, p_i v1), (2, p_i v2), (3, p_i v3), (5, p_i v5)] [] s0 _) ?_ h
    intro x5 h
    refine g_iload_n (i := 3) (j := 4) (dk_Mo_planFault 98 rfl) rfl rfl ?_
    refine g_if_ne 187 (dk_Mo_planFault 99 rfl) (by decide) (fun b6 => ?_) (fun b6 => ?_)
    · have h := p_ifT b6 h
      refine g_iload_n (i := 3) (j := 4) (dk_Mo_planFault 110 rfl) rfl rfl ?_
      refine g_iconst (dk_Mo_planFault 111 rfl) (by decide) ?_
      refine g_icmp_ne 238 (dk_Mo_planFault 112 rfl) (by decide) (fun b7 => ?_) (fun b7 => ?_)
      · have h := p_ifT b7 h
        refine g_iload (j := 0) (dk_Mo_planFault 138 rfl) rfl ?_
        refine g_i2l (dk_Mo_planFault 139 rfl) ?_
        refine g_lconst (x := 0) (dk_Mo_planFault 140 rfl) rfl (by decide) ?_
        refine g_ldc2_w (x := 20) (dk_Mo_planFault 141 rfl) tw_8_10 (by decide) (by decide) ?_
        obtain ⟨r12, s8, q9, h⟩ := p_bdE h
        have t10 := tF_Mo_beyond K l x5 0 20 s0 _ q9
        refine g_callS (av := [p_j x5, p_j 0, p_j 20]) (rest := []) [p_i r12] mt_Mo_beyond tw_7_63 tw_7_62 ⟨Nat.le_of_ble_eq_true rfl, Nat.le_of_ble_eq_true rfl⟩ rfl (Nat.le_of_ble_eq_true rfl) (dk_Mo_planFault 142 rfl) rfl rfl t10 ?_
        have hs11 : p_x s0 s8 := t10.1
        show p_Go K l m_Mo_planFault 248 [(6, p_i x5), (0, p_r v0), (1, p_i v1), (2, p_i v2), (3, p_i v3), (5, p_i v5)] [p_i r12] s8 _
        refine g_if_eq 253 (dk_Mo_planFault 143 rfl) (by decide) (fun b13 => ?_) (fun b13 => ?_)
        · have h := p_ifT b13 h
          refine g_aload_n (i := 0) (j := 1) (dk_Mo_planFault 146 rfl) rfl rfl ?_
          refine g_getR fl_Mo_41 (Or.inr ⟨_, rfl⟩) (dk_Mo_planFault 147 rfl) (c2.up hs11) ?_
          refine g_iload (j := 5) (dk_Mo_planFault 148 rfl) rfl ?_
          refine g_iload (j := 0) (dk_Mo_planFault 149 rfl) rfl ?_
          obtain ⟨c14, h⟩ := p_gdE h
          obtain ⟨c15, h⟩ := p_gdE h
          refine g_iastore (dk_Mo_planFault 150 rfl) c14 c15.1 c15.2 ?_
          refine p_ltS (P := fun q => p_Go K l m_Mo_planFault 262 [(6, p_i x5), (0, p_r v0), (1, p_i v1), (2, p_i v2), (3, p_i v3), (5, p_i v5)] [] q _) (p_xZ _ _ _ _) ?_ h
          intro s16 hs17 h
          refine g_iconst (dk_Mo_planFault 151 rfl) (by decide) ?_
          cases h
          exact g_ret rfl rfl (dk_Mo_planFault 152 rfl) (fun os => ⟨_, rfl, p_okh os⟩)
        · have h := p_ifF b13 h
          refine g_iconst (dk_Mo_planFault 144 rfl) (by decide) ?_
          cases h
          exact g_ret rfl rfl (dk_Mo_planFault 145 rfl) (fun os => ⟨_, rfl, p_okh os⟩)
      · have h := p_ifF b7 h
        refine g_aload_n (i := 0) (j := 1) (dk_Mo_planFault 113 rfl) rfl rfl ?_
        refine g_iload (j := 5) (dk_Mo_planFault 114 rfl) rfl ?_
        obtain ⟨r22, s18, q19, h⟩ := p_bdE h
        have t20 := tF_Mo_loadOf K l v0 v5 s0 _ q19
        refine g_callV (a := v0) (ci := 11) (q0 := (RX11, TX11, 90)) (As := [p_i v5]) (rest := []) [p_i r22] mt_Mo_loadOf rfl rfl tw_7_136 ts_50 tw_7_134 ⟨Nat.le_of_ble_eq_true rfl, Nat.le_of_ble_eq_true rfl⟩ rfl (Nat.le_of_ble_eq_true rfl) (dk_Mo_planFault 115 rfl) rfl c2 rfl t20 ?_
        have hs21 : p_x s0 s18 := t20.1
        show p_Go K l m_Mo_planFault 198 [(6, p_i x5), (0, p_r v0), (1, p_i v1), (2, p_i v2), (3, p_i v3), (5, p_i v5)] [p_i r22] s18 _
        refine g_if_ne 262 (dk_Mo_planFault 116 rfl) (by decide) (fun b23 => ?_) (fun b23 => ?_)
        · have h := p_ifT b23 h
          refine g_iconst (dk_Mo_planFault 151 rfl) (by decide) ?_
          cases h
          exact g_ret rfl rfl (dk_Mo_planFault 152 rfl) (fun os => ⟨_, rfl, p_okh os⟩)
        · have h := p_ifF b23 h
          refine g_iload (j := 0) (dk_Mo_planFault 117 rfl) rfl ?_
          refine g_i2l (dk_Mo_planFault 118 rfl) ?_
          refine g_lconst (x := 0) (dk_Mo_planFault 119 rfl) rfl (by decide) ?_
          refine g_aload_n (i := 0) (j := 1) (dk_Mo_planFault 120 rfl) rfl rfl ?_
          refine g_getR fl_Mo_16 (Or.inr ⟨_, rfl⟩) (dk_Mo_planFault 121 rfl) (c2.up hs21) ?_
          refine g_iload (j := 5) (dk_Mo_planFault 122 rfl) rfl ?_
          obtain ⟨c24, h⟩ := p_gdE h
          obtain ⟨c25, h⟩ := p_gdE h
          refine g_iaload (dk_Mo_planFault 123 rfl) c24 c25.1 c25.2 ?_
          obtain ⟨r30, s26, q27, h⟩ := p_bdE h
          have t28 := tF_Mo_sidesOf K l (p_Z s18 (p_R s18 v0 5) (v5 : Int).toNat) s18 _ q27
          refine g_callS (av := [p_i (p_Z s18 (p_R s18 v0 5) (v5 : Int).toNat)]) (rest := [p_j 0, p_j x5]) [p_i r30, p_j 0, p_j x5] mt_Mo_sidesOf tw_7_123 tw_7_122 ⟨Nat.le_of_ble_eq_true rfl, Nat.le_of_ble_eq_true rfl⟩ rfl (Nat.le_of_ble_eq_true rfl) (dk_Mo_planFault 124 rfl) rfl rfl t28 ?_
          have hs29 : p_x s18 s26 := t28.1
          show p_Go K l m_Mo_planFault 215 [(6, p_i x5), (0, p_r v0), (1, p_i v1), (2, p_i v2), (3, p_i v3), (5, p_i v5)] [p_i r30, p_j 0, p_j x5] s26 _
          refine g_iconst (dk_Mo_planFault 125 rfl) (by decide) ?_
          refine g_isub (dk_Mo_planFault 126 rfl) ?_
          refine g_i2l (dk_Mo_planFault 127 rfl) ?_
          obtain ⟨r35, s31, q32, h⟩ := p_bdE h
          have t33 := tF_Mo_beyond K l x5 0 (p_w (r30 - 1)) s26 _ q32
          refine g_callS (av := [p_j x5, p_j 0, p_j (p_w (r30 - 1))]) (rest := []) [p_i r35] mt_Mo_beyond tw_7_63 tw_7_62 ⟨Nat.le_of_ble_eq_true rfl, Nat.le_of_ble_eq_true rfl⟩ rfl (Nat.le_of_ble_eq_true rfl) (dk_Mo_planFault 128 rfl) rfl rfl t33 ?_
          have hs34 : p_x s26 s31 := t33.1
          show p_Go K l m_Mo_planFault 221 [(6, p_i x5), (0, p_r v0), (1, p_i v1), (2, p_i v2), (3, p_i v3), (5, p_i v5)] [p_i r35] s31 _
          refine g_if_eq 226 (dk_Mo_planFault 129 rfl) (by decide) (fun b36 => ?_) (fun b36 => ?_)
          · have h := p_ifT b36 h
            refine g_aload_n (i := 0) (j := 1) (dk_Mo_planFault 132 rfl) rfl rfl ?_
            refine g_getR fl_Mo_31 (Or.inr ⟨_, rfl⟩) (dk_Mo_planFault 133 rfl) (c2.up (hs21.trans (hs29.trans hs34))) ?_
            refine g_iload (j := 5) (dk_Mo_planFault 134 rfl) rfl ?_
            refine g_iload (j := 0) (dk_Mo_planFault 135 rfl) rfl ?_
            obtain ⟨c37, h⟩ := p_gdE h
            obtain ⟨c38, h⟩ := p_gdE h
            refine g_iastore (dk_Mo_planFault 136 rfl) c37 c38.1 c38.2 ?_
            refine p_ltS (P := fun q => p_Go K l m_Mo_planFault 235 [(6, p_i x5), (0, p_r v0), (1, p_i v1), (2, p_i v2), (3, p_i v3), (5, p_i v5)] [] q _) (p_xZ _ _ _ _) ?_ h
            intro s39 hs40 h
            refine g_goto 262 (dk_Mo_planFault 137 rfl) (by decide) ?_
            refine g_iconst (dk_Mo_planFault 151 rfl) (by decide) ?_
            cases h
            exact g_ret rfl rfl (dk_Mo_planFault 152 rfl) (fun os => ⟨_, rfl, p_okh os⟩)
          · have h := p_ifF b36 h
            refine g_iconst (dk_Mo_planFault 130 rfl) (by decide) ?_
            cases h
            exact g_ret rfl rfl (dk_Mo_planFault 131 rfl) (fun os => ⟨_, rfl, p_okh os⟩)
    · have h := p_ifF b6 h
      refine g_aload_n (i := 0) (j := 1) (dk_Mo_planFault 100 rfl) rfl rfl ?_
      refine g_getR fl_Mo_44 (Or.inr ⟨_, rfl⟩) (dk_Mo_planFault 101 rfl) c2 ?_
      refine g_iload (j := 5) (dk_Mo_planFault 102 rfl) rfl ?_
      refine g_iload (j := 0) (dk_Mo_planFault 103 rfl) rfl ?_
      refine g_if_eq 182 (dk_Mo_planFault 104 rfl) (by decide) (fun b41 => ?_) (fun b41 => ?_)
      · have h := p_ifT b41 h
        refine g_iconst (dk_Mo_planFault 107 rfl) (by decide) ?_
        refine g_sub [] [] rfl ?_
        exact tB_Mo_planFault_183 K l 0 v5 (p_R s0 v0 14) s0 _ h
      · have h := p_ifF b41 h
        refine g_iconst (dk_Mo_planFault 105 rfl) (by decide) ?_
        refine g_goto 183 (dk_Mo_planFault 106 rfl) (by decide) ?_
        refine g_sub [] [] rfl ?_
        exact tB_Mo_planFault_183 K l 1 v5 (p_R s0 v0 14) s0 _ h
  · have h := p_ifF b1 h
    refine g_iconst (dk_Mo_planFault 87 rfl) (by decide) ?_
    cases h
    exact g_ret rfl rfl (dk_Mo_planFault 88 rfl) (fun os => ⟨_, rfl, p_okh os⟩)
set_option maxRecDepth 100000 in
set_option maxHeartbeats 4000000 in
theorem tF_Mo_planFault (K : p_K) (l : Launch) (v0 : Nat) (v1 : Int) (s0 : p_Hp) (r : (Int × p_Hp)) (h : F_Mo_planFault v0 v1 s0 = some r) : p_Ct K l m_Mo_planFault [p_r v0, p_i v1] s0 (some (p_i r.1), r.2) := by
  refine p_Ct.of (by decide +kernel) (Nat.le_of_ble_eq_true rfl) ?_
  unfold F_Mo_planFault at h
  show p_Go K l m_Mo_planFault 0 [(0, p_r v0), (1, p_i v1)] [] s0 _
  refine g_aload_n (i := 0) (j := 0) (dk_Mo_planFault 0 rfl) rfl rfl ?_
  obtain ⟨c1, h⟩ := p_gdE h
  refine g_getR fl_Mo_168 (Or.inr ⟨_, rfl⟩) (dk_Mo_planFault 1 rfl) c1 ?_
  refine g_iload_n (i := 1) (j := 1) (dk_Mo_planFault 2 rfl) rfl rfl ?_
  obtain ⟨c2, h⟩ := p_gdE h
  obtain ⟨c3, h⟩ := p_gdE h
  refine g_iaload (dk_Mo_planFault 3 rfl) c2 c3.1 c3.2 ?_
  refine g_istore_n (i := 2) [(2, p_i (p_Z s0 (p_R s0 v0 57) (v1 : Int).toNat)), (0, p_r v0), (1, p_i v1)] (dk_Mo_planFault 4 rfl) rfl (by decide) rfl ?_
  refine p_ltG (P := fun q => p_Go K l m_Mo_planFault 7 [(2, p_i q), (0, p_r v0), (1, p_i v1)] [] s0 _) ?_ h
  intro x4 h
  refine g_iload_n (i := 2) (j := 0) (dk_Mo_planFault 5 rfl) rfl rfl ?_
  refine g_iconst (dk_Mo_planFault 6 rfl) (by decide) ?_
  refine g_icmp_ge 14 (dk_Mo_planFault 7 rfl) (by decide) (fun b5 => ?_) (fun b5 => ?_)
  · have h := p_ifT b5 h
    refine g_aload_n (i := 0) (j := 1) (dk_Mo_planFault 10 rfl) rfl rfl ?_
    refine g_getR fl_Mo_171 (Or.inr ⟨_, rfl⟩) (dk_Mo_planFault 11 rfl) c1 ?_
    refine g_iconst (dk_Mo_planFault 12 rfl) (by decide) ?_
    refine g_iload_n (i := 1) (j := 2) (dk_Mo_planFault 13 rfl) rfl rfl ?_
    refine g_imul (dk_Mo_planFault 14 rfl) ?_
    refine g_iconst (dk_Mo_planFault 15 rfl) (by decide) ?_
    refine g_iadd (dk_Mo_planFault 16 rfl) ?_
    obtain ⟨c6, h⟩ := p_gdE h
    obtain ⟨c7, h⟩ := p_gdE h
    refine g_iaload (dk_Mo_planFault 17 rfl) c6 c7.1 c7.2 ?_
    refine g_istore_n (i := 3) [(3, p_i (p_Z s0 (p_R s0 v0 58) ((p_w ((p_w (4 * v1)) + 1)) : Int).toNat)), (2, p_i x4), (0, p_r v0), (1, p_i v1)] (dk_Mo_planFault 18 rfl) rfl (by decide) rfl ?_
    refine p_ltG (P := fun q => p_Go K l m_Mo_planFault 25 [(3, p_i q), (2, p_i x4), (0, p_r v0), (1, p_i v1)] [] s0 _) ?_ h
    intro x8 h
    refine g_iload_n (i := 3) (j := 0) (dk_Mo_planFault 19 rfl) rfl rfl ?_
    refine g_i2l (dk_Mo_planFault 20 rfl) ?_
    refine g_lconst (x := 0) (dk_Mo_planFault 21 rfl) rfl (by decide) ?_
    refine g_ldc2_w (x := 2) (dk_Mo_planFault 22 rfl) tw_7_61 (by decide) (by decide) ?_
    obtain ⟨r13, s9, q10, h⟩ := p_bdE h
    have t11 := tF_Mo_beyond K l x8 0 2 s0 _ q10
    refine g_callS (av := [p_j x8, p_j 0, p_j 2]) (rest := []) [p_i r13] mt_Mo_beyond tw_7_63 tw_7_62 ⟨Nat.le_of_ble_eq_true rfl, Nat.le_of_ble_eq_true rfl⟩ rfl (Nat.le_of_ble_eq_true rfl) (dk_Mo_planFault 23 rfl) rfl rfl t11 ?_
    have hs12 : p_x s0 s9 := t11.1
    show p_Go K l m_Mo_planFault 34 [(3, p_i x8), (2, p_i x4), (0, p_r v0), (1, p_i v1)] [p_i r13] s9 _
    refine g_if_ne 42 (dk_Mo_planFault 24 rfl) (by decide) (fun b14 => ?_) (fun b14 => ?_)
    · have h := p_ifT b14 h
      refine g_iconst (dk_Mo_planFault 28 rfl) (by decide) ?_
      cases h
      exact g_ret rfl rfl (dk_Mo_planFault 29 rfl) (fun os => ⟨_, rfl, p_okh os⟩)
    · have h := p_ifF b14 h
      refine g_iload_n (i := 2) (j := 1) (dk_Mo_planFault 25 rfl) rfl rfl ?_
      refine g_iconst (dk_Mo_planFault 26 rfl) (by decide) ?_
      refine g_icmp_ge 44 (dk_Mo_planFault 27 rfl) (by decide) (fun b15 => ?_) (fun b15 => ?_)
      · have h := p_ifT b15 h
        refine g_aload_n (i := 0) (j := 2) (dk_Mo_planFault 30 rfl) rfl rfl ?_
        refine g_getR fl_Mo_171 (Or.inr ⟨_, rfl⟩) (dk_Mo_planFault 31 rfl) (c1.up hs12) ?_
        refine g_iconst (dk_Mo_planFault 32 rfl) (by decide) ?_
        refine g_iload_n (i := 1) (j := 3) (dk_Mo_planFault 33 rfl) rfl rfl ?_
        refine g_imul (dk_Mo_planFault 34 rfl) ?_
        refine g_iconst (dk_Mo_planFault 35 rfl) (by decide) ?_
        refine g_iadd (dk_Mo_planFault 36 rfl) ?_
        obtain ⟨c16, h⟩ := p_gdE h
        obtain ⟨c17, h⟩ := p_gdE h
        refine g_iaload (dk_Mo_planFault 37 rfl) c16 c17.1 c17.2 ?_
        refine g_istore [(4, p_i (p_Z s9 (p_R s9 v0 58) ((p_w ((p_w (4 * v1)) + 2)) : Int).toNat)), (3, p_i x8), (2, p_i x4), (0, p_r v0), (1, p_i v1)] (dk_Mo_planFault 38 rfl) (by decide) rfl ?_
        refine p_ltG (P := fun q => p_Go K l m_Mo_planFault 56 [(4, p_i q), (3, p_i x8), (2, p_i x4), (0, p_r v0), (1, p_i v1)] [] s9 _) ?_ h
        intro x18 h
        refine g_iload (j := 0) (dk_Mo_planFault 39 rfl) rfl ?_
        refine g_i2l (dk_Mo_planFault 40 rfl) ?_
        refine g_lconst (x := 0) (dk_Mo_planFault 41 rfl) rfl (by decide) ?_
        refine g_ldc2_w (x := 39) (dk_Mo_planFault 42 rfl) tw_7_117 (by decide) (by decide) ?_
        obtain ⟨r23, s19, q20, h⟩ := p_bdE h
        have t21 := tF_Mo_beyond K l x18 0 39 s9 _ q20
        refine g_callS (av := [p_j x18, p_j 0, p_j 39]) (rest := []) [p_i r23] mt_Mo_beyond tw_7_63 tw_7_62 ⟨Nat.le_of_ble_eq_true rfl, Nat.le_of_ble_eq_true rfl⟩ rfl (Nat.le_of_ble_eq_true rfl) (dk_Mo_planFault 43 rfl) rfl rfl t21 ?_
        have hs22 : p_x s9 s19 := t21.1
        show p_Go K l m_Mo_planFault 66 [(4, p_i x18), (3, p_i x8), (2, p_i x4), (0, p_r v0), (1, p_i v1)] [p_i r23] s19 _
        refine g_if_eq 71 (dk_Mo_planFault 44 rfl) (by decide) (fun b24 => ?_) (fun b24 => ?_)
        · have h := p_ifT b24 h
          refine g_aload_n (i := 0) (j := 3) (dk_Mo_planFault 47 rfl) rfl rfl ?_
          refine g_iload (j := 0) (dk_Mo_planFault 48 rfl) rfl ?_
          obtain ⟨r29, s25, q26, h⟩ := p_bdE h
          have t27 := tF_Mo_noGear K l v0 x18 s19 _ q26
          refine g_callV (a := v0) (ci := 11) (q0 := (RX11, TX11, 90)) (As := [p_i x18]) (rest := []) [p_i r29] mt_Mo_noGear rfl rfl tw_7_106 ts_48 tw_7_104 ⟨Nat.le_of_ble_eq_true rfl, Nat.le_of_ble_eq_true rfl⟩ rfl (Nat.le_of_ble_eq_true rfl) (dk_Mo_planFault 49 rfl) rfl (c1.up (hs12.trans hs22)) rfl t27 ?_
          have hs28 : p_x s19 s25 := t27.1
          show p_Go K l m_Mo_planFault 77 [(4, p_i x18), (3, p_i x8), (2, p_i x4), (0, p_r v0), (1, p_i v1)] [p_i r29] s25 _
          refine g_if_eq 82 (dk_Mo_planFault 50 rfl) (by decide) (fun b30 => ?_) (fun b30 => ?_)
          · have h := p_ifT b30 h
            refine g_aload_n (i := 0) (j := 3) (dk_Mo_planFault 53 rfl) rfl rfl ?_
            refine g_iload (j := 0) (dk_Mo_planFault 54 rfl) rfl ?_
            obtain ⟨r35, s31, q32, h⟩ := p_bdE h
            have t33 := tF_Mo_g K l v0 x18 s25 _ q32
            refine g_callV (a := v0) (ci := 11) (q0 := (RX11, TX11, 90)) (As := [p_i x18]) (rest := []) [p_i r35] mt_Mo_g rfl rfl tw_7_84 ts_45 tw_7_82 ⟨Nat.le_of_ble_eq_true rfl, Nat.le_of_ble_eq_true rfl⟩ rfl (Nat.le_of_ble_eq_true rfl) (dk_Mo_planFault 55 rfl) rfl (c1.up (hs12.trans (hs22.trans hs28))) rfl t33 ?_
            have hs34 : p_x s25 s31 := t33.1
            show p_Go K l m_Mo_planFault 88 [(4, p_i x18), (3, p_i x8), (2, p_i x4), (0, p_r v0), (1, p_i v1)] [p_i r35] s31 _
            refine g_istore [(5, p_i r35), (4, p_i x18), (3, p_i x8), (2, p_i x4), (0, p_r v0), (1, p_i v1)] (dk_Mo_planFault 56 rfl) (by decide) rfl ?_
            refine g_iload_n (i := 3) (j := 2) (dk_Mo_planFault 57 rfl) rfl rfl ?_
            refine g_if_ne 109 (dk_Mo_planFault 58 rfl) (by decide) (fun b36 => ?_) (fun b36 => ?_)
            · have h := p_ifT b36 h
              refine g_iload_n (i := 3) (j := 2) (dk_Mo_planFault 66 rfl) rfl rfl ?_
              refine g_iconst (dk_Mo_planFault 67 rfl) (by decide) ?_
              refine g_icmp_ne 130 (dk_Mo_planFault 68 rfl) (by decide) (fun b37 => ?_) (fun b37 => ?_)
              · have h := p_ifT b37 h
                refine g_aload_n (i := 0) (j := 4) (dk_Mo_planFault 76 rfl) rfl rfl ?_
                refine g_getR fl_Mo_16 (Or.inr ⟨_, rfl⟩) (dk_Mo_planFault 77 rfl) (c1.up (hs12.trans (hs22.trans (hs28.trans hs34)))) ?_
                refine g_iload (j := 0) (dk_Mo_planFault 78 rfl) rfl ?_
                obtain ⟨c38, h⟩ := p_gdE h
                obtain ⟨c39, h⟩ := p_gdE h
                refine g_iaload (dk_Mo_planFault 79 rfl) c38 c39.1 c39.2 ?_
                refine g_bipush (dk_Mo_planFault 80 rfl) (by decide +kernel) (by decide) ?_
                refine g_icmp_eq 144 (dk_Mo_planFault 81 rfl) (by decide) (fun b40 => ?_) (fun b40 => ?_)
                · have h := p_ifT b40 h
                  refine g_sub [(0, p_r v0), (1, p_i v1), (2, p_i x4), (3, p_i x8), (5, p_i r35)] [4, 5, 3, 2, 0] rfl ?_
                  exact tB_Mo_planFault_144 K l v0 v1 x4 x8 r35 s31 _ h
                · have h := p_ifF b40 h
                  refine g_iconst (dk_Mo_planFault 82 rfl) (by decide) ?_
                  cases h
                  exact g_ret rfl rfl (dk_Mo_planFault 83 rfl) (fun os => ⟨_, rfl, p_okh os⟩)
              · have h := p_ifF b37 h
                refine g_aload_n (i := 0) (j := 4) (dk_Mo_planFault 69 rfl) rfl rfl ?_
                refine g_getR fl_Mo_16 (Or.inr ⟨_, rfl⟩) (dk_Mo_planFault 70 rfl) (c1.up (hs12.trans (hs22.trans (hs28.trans hs34)))) ?_
                refine g_iload (j := 0) (dk_Mo_planFault 71 rfl) rfl ?_
                obtain ⟨c41, h⟩ := p_gdE h
                obtain ⟨c42, h⟩ := p_gdE h
                refine g_iaload (dk_Mo_planFault 72 rfl) c41 c42.1 c42.2 ?_
                obtain ⟨r47, s43, q44, h⟩ := p_bdE h
                have t45 := tF_Mo_isDivert K l (p_Z s31 (p_R s31 v0 5) (r35 : Int).toNat) s31 _ q44
                refine g_callS (av := [p_i (p_Z s31 (p_R s31 v0 5) (r35 : Int).toNat)]) (rest := []) [p_i r47] mt_Mo_isDivert tw_7_94 tw_7_93 ⟨Nat.le_of_ble_eq_true rfl, Nat.le_of_ble_eq_true rfl⟩ rfl (Nat.le_of_ble_eq_true rfl) (dk_Mo_planFault 73 rfl) rfl rfl t45 ?_
                have hs46 : p_x s31 s43 := t45.1
                show p_Go K l m_Mo_planFault 124 [(5, p_i r35), (4, p_i x18), (3, p_i x8), (2, p_i x4), (0, p_r v0), (1, p_i v1)] [p_i r47] s43 _
                refine g_if_ne 144 (dk_Mo_planFault 74 rfl) (by decide) (fun b48 => ?_) (fun b48 => ?_)
                · have h := p_ifT b48 h
                  refine g_sub [(0, p_r v0), (1, p_i v1), (2, p_i x4), (3, p_i x8), (5, p_i r35)] [4, 5, 3, 2, 0] rfl ?_
                  exact tB_Mo_planFault_144 K l v0 v1 x4 x8 r35 s43 _ h
                · have h := p_ifF b48 h
                  refine g_goto 142 (dk_Mo_planFault 75 rfl) (by decide) ?_
                  refine g_iconst (dk_Mo_planFault 82 rfl) (by decide) ?_
                  cases h
                  exact g_ret rfl rfl (dk_Mo_planFault 83 rfl) (fun os => ⟨_, rfl, p_okh os⟩)
            · have h := p_ifF b36 h
              refine g_aload_n (i := 0) (j := 4) (dk_Mo_planFault 59 rfl) rfl rfl ?_
              refine g_getR fl_Mo_16 (Or.inr ⟨_, rfl⟩) (dk_Mo_planFault 60 rfl) (c1.up (hs12.trans (hs22.trans (hs28.trans hs34)))) ?_
              refine g_iload (j := 0) (dk_Mo_planFault 61 rfl) rfl ?_
              obtain ⟨c49, h⟩ := p_gdE h
              obtain ⟨c50, h⟩ := p_gdE h
              refine g_iaload (dk_Mo_planFault 62 rfl) c49 c50.1 c50.2 ?_
              refine g_bipush (dk_Mo_planFault 63 rfl) (by decide +kernel) (by decide) ?_
              refine g_icmp_eq 144 (dk_Mo_planFault 64 rfl) (by decide) (fun b51 => ?_) (fun b51 => ?_)
              · have h := p_ifT b51 h
                refine g_sub [(0, p_r v0), (1, p_i v1), (2, p_i x4), (3, p_i x8), (5, p_i r35)] [4, 5, 3, 2, 0] rfl ?_
                exact tB_Mo_planFault_144 K l v0 v1 x4 x8 r35 s31 _ h
              · have h := p_ifF b51 h
                refine g_goto 142 (dk_Mo_planFault 65 rfl) (by decide) ?_
                refine g_iconst (dk_Mo_planFault 82 rfl) (by decide) ?_
                cases h
                exact g_ret rfl rfl (dk_Mo_planFault 83 rfl) (fun os => ⟨_, rfl, p_okh os⟩)
          · have h := p_ifF b30 h
            refine g_iconst (dk_Mo_planFault 51 rfl) (by decide) ?_
            cases h
            exact g_ret rfl rfl (dk_Mo_planFault 52 rfl) (fun os => ⟨_, rfl, p_okh os⟩)
        · have h := p_ifF b24 h
          refine g_iconst (dk_Mo_planFault 45 rfl) (by decide) ?_
          cases h
          exact g_ret rfl rfl (dk_Mo_planFault 46 rfl) (fun os => ⟨_, rfl, p_okh os⟩)
      · have h := p_ifF b15 h
        refine g_iconst (dk_Mo_planFault 28 rfl) (by decide) ?_
        cases h
        exact g_ret rfl rfl (dk_Mo_planFault 29 rfl) (fun os => ⟨_, rfl, p_okh os⟩)
  · have h := p_ifF b5 h
    refine g_iconst (dk_Mo_planFault 8 rfl) (by decide) ?_
    cases h
    exact g_ret rfl rfl (dk_Mo_planFault 9 rfl) (fun os => ⟨_, rfl, p_okh os⟩)
def m_Mo_doPlans : p_Me := (⟨"SortWorksModel", "doPlans", "()V"⟩, prog_13_method_64_code, 3, none, 3, 72)
theorem mt_Mo_doPlans : p_Mt m_Mo_doPlans 0 := ⟨p_mem (p_tb8 (List.mem_of_getElem? (i := 78) rfl)) rfl, tw_1_12, by decide +kernel, by decide +kernel, by decide +kernel⟩
def dt_Mo_doPlans : List (Nat × Instr × Nat) := [(0, .aload_n 0, 1), (1, .iconst (-1), 1), (2, .putfield 379, 3), (5, .iconst 0, 1), (6, .istore_n 1, 1), (7, .iload_n 1, 1), (8, .aload_n 0, 1), (9, .getfield 165, 3), (12, .aload_n 0, 1), (13, .getfield 227, 3), (16, .iaload, 1), (17, .if_icmp .ge 62, 3), (20, .aload_n 0, 1), (21, .getfield 171, 3), (24, .bipush 64, 2), (26, .aload_n 0, 1), (27, .getfield 227, 3), (30, .imul, 1), (31, .iconst 4, 1), (32, .iload_n 1, 1), (33, .imul, 1), (34, .iadd, 1), (35, .iaload, 1), (36, .aload_n 0, 1), (37, .getfield 13, 3), (40, .aload_n 0, 1), (41, .getfield 227, 3), (44, .iaload, 1), (45, .if_icmp .ne 28, 3), (48, .aload_n 0, 1), (49, .bipush 16, 2), (51, .aload_n 0, 1), (52, .getfield 227, 3), (55, .imul, 1), (56, .iload_n 1, 1), (57, .iadd, 1), (58, .invokevirtual 392, 3), (61, .istore_n 2, 1), (62, .iload_n 2, 1), (63, .ifCond .le 10, 3), (66, .aload_n 0, 1), (67, .iconst 5, 1), (68, .iload_n 2, 1), (69, .iload_n 1, 1), (70, .invokevirtual 395, 3), (73, .iinc 1 1, 3), (76, .goto (-69), 3), (79, .return_, 1)]
theorem dk_Mo_doPlans (i : Nat) {pc : Nat} {ins : Instr} {len : Nat} (h : dt_Mo_doPlans[i]? = some (pc, ins, len)) : decode m_Mo_doPlans.2.1 pc = .ok (ins, len) := p_dk (b := m_Mo_doPlans.2.1) (t := dt_Mo_doPlans) (by decide +kernel) i h
def B_Mo_doPlans_73 (k7 : Nat → Int → p_Hp → Option p_Hp) (v0 : Nat) (v1 : Int) (s0 : p_Hp) : Option p_Hp :=
  p_bi (p_w (v1 + 1)) fun x1 =>
  k7 v0 x1 s0
def L_Mo_doPlans_7 (k7 : Nat → Int → p_Hp → Option p_Hp) (v0 : Nat) (v1 : Int) (s0 : p_Hp) : Option p_Hp :=
  p_gd (p_is s0 v0 11) <|
  p_gd (p_is s0 (p_R s0 v0 56) 100) <|
  p_gd ((0 : Int) ≤ (p_Z s0 v0 0) ∧ (p_Z s0 v0 0) < (p_L s0 (p_R s0 v0 56) : Int)) <|
  if (p_Z s0 (p_R s0 v0 56) ((p_Z s0 v0 0) : Int).toNat) ≤ v1 then
    some s0
  else
    p_gd (p_is s0 (p_R s0 v0 58) 100) <|
    p_gd ((0 : Int) ≤ (p_w ((p_w (64 * (p_Z s0 v0 0))) + (p_w (4 * v1)))) ∧ (p_w ((p_w (64 * (p_Z s0 v0 0))) + (p_w (4 * v1)))) < (p_L s0 (p_R s0 v0 58) : Int)) <|
    p_gd (p_is s0 (p_R s0 v0 4) 100) <|
    p_gd ((0 : Int) ≤ (p_Z s0 v0 0) ∧ (p_Z s0 v0 0) < (p_L s0 (p_R s0 v0 4) : Int)) <|
    if (p_Z s0 (p_R s0 v0 58) ((p_w ((p_w (64 * (p_Z s0 v0 0))) + (p_w (4 * v1)))) : Int).toNat) ≠ (p_Z s0 (p_R s0 v0 4) ((p_Z s0 v0 0) : Int).toNat) then
      B_Mo_doPlans_73 k7 v0 v1 s0
    else
      p_bd (F_Mo_planFault v0 (p_w ((p_w (16 * (p_Z s0 v0 0))) + v1)) s0) fun r14 s10 =>
      if r14 ≤ 0 then
        B_Mo_doPlans_73 k7 v0 v1 s10
      else
        p_bv (F_Mo_find v0 5 r14 v1 s10) fun s16 =>
        B_Mo_doPlans_73 k7 v0 v1 s16
def O_Mo_doPlans_7  : Nat → Nat → Int → p_Hp → Option p_Hp
  | 0 => fun _ _ _ => none
  | n + 1 => L_Mo_doPlans_7 (O_Mo_doPlans_7 n)
def F_Mo_doPlans (v0 : Nat) (s0 : p_Hp) : Option p_Hp :=
  p_gd (p_is s0 v0 11) <|
  p_bi (p_wZ s0 v0 71 (-1)) fun s2 =>
  O_Mo_doPlans_7 3000 v0 0 s2
set_option maxRecDepth 100000 in
set_option maxHeartbeats 4000000 in
theorem tB_Mo_doPlans_73 (K : p_K) (l : Launch) (k7 : Nat → Int → p_Hp → Option p_Hp) (hk7 : ∀ (v0 : Nat) (v1 : Int)  (s0 : p_Hp) (r : p_Hp), k7 v0 v1 s0 = some r → p_Go K l m_Mo_doPlans 7 [(0, p_r v0), (1, p_i v1)] [] s0 (none, r)) (v0 : Nat) (v1 : Int) (s0 : p_Hp) (r : p_Hp) (h : B_Mo_doPlans_73 k7 v0 v1 s0 = some r) : p_Go K l m_Mo_doPlans 73 [(0, p_r v0), (1, p_i v1)] [] s0 (none, r) := by
  unfold B_Mo_doPlans_73 at h
  refine g_iinc (j := 1) [(1, p_i (p_w (v1 + 1))), (0, p_r v0)] (dk_Mo_doPlans 45 rfl) rfl (by decide) rfl ?_
  refine p_ltG (P := fun q => p_Go K l m_Mo_doPlans 76 [(1, p_i q), (0, p_r v0)] [] s0 _) ?_ h
  intro x1 h
  refine g_goto 7 (dk_Mo_doPlans 46 rfl) (by decide) ?_
  refine g_sub [(0, p_r v0), (1, p_i x1)] [1, 0] rfl ?_
  exact hk7 v0 x1 s0 _ h
set_option maxRecDepth 100000 in
set_option maxHeartbeats 4000000 in
theorem tL_Mo_doPlans_7 (K : p_K) (l : Launch) (k7 : Nat → Int → p_Hp → Option p_Hp) (hk7 : ∀ (v0 : Nat) (v1 : Int)  (s0 : p_Hp) (r : p_Hp), k7 v0 v1 s0 = some r → p_Go K l m_Mo_doPlans 7 [(0, p_r v0), (1, p_i v1)] [] s0 (none, r)) (v0 : Nat) (v1 : Int) (s0 : p_Hp) (r : p_Hp) (h : L_Mo_doPlans_7 k7 v0 v1 s0 = some r) : p_Go K l m_Mo_doPlans 7 [(0, p_r v0), (1, p_i v1)] [] s0 (none, r) := by
  unfold L_Mo_doPlans_7 at h
  refine g_iload_n (i := 1) (j := 1) (dk_Mo_doPlans 5 rfl) rfl rfl ?_
  refine g_aload_n (i := 0) (j := 0) (dk_Mo_doPlans 6 rfl) rfl rfl ?_
  obtain ⟨c1, h⟩ := p_gdE h
  refine g_getR fl_Mo_165 (Or.inr ⟨_, rfl⟩) (dk_Mo_doPlans 7 rfl) c1 ?_
  refine g_aload_n (i := 0) (j := 0) (dk_Mo_doPlans 8 rfl) rfl rfl ?_
  refine g_getI fl_Mo_227 (Or.inl rfl) (dk_Mo_doPlans 9 rfl) c1 ?_
  obtain ⟨c2, h⟩ := p_gdE h
  obtain ⟨c3, h⟩ := p_gdE h
  refine g_iaload (dk_Mo_doPlans 10 rfl) c2 c3.1 c3.2 ?_
  refine g_icmp_ge 79 (dk_Mo_doPlans 11 rfl) (by decide) (fun b4 => ?_) (fun b4 => ?_)
  · have h := p_ifT b4 h
    cases h
    exact g_ret rfl rfl (dk_Mo_doPlans 47 rfl) (fun _ => rfl)
  · have h := p_ifF b4 h
    refine g_aload_n (i := 0) (j := 0) (dk_Mo_doPlans 12 rfl) rfl rfl ?_
    refine g_getR fl_Mo_171 (Or.inr ⟨_, rfl⟩) (dk_Mo_doPlans 13 rfl) c1 ?_
    refine g_bipush (dk_Mo_doPlans 14 rfl) (by decide +kernel) (by decide) ?_
    refine g_aload_n (i := 0) (j := 0) (dk_Mo_doPlans 15 rfl) rfl rfl ?_
    refine g_getI fl_Mo_227 (Or.inl rfl) (dk_Mo_doPlans 16 rfl) c1 ?_
    refine g_imul (dk_Mo_doPlans 17 rfl) ?_
    refine g_iconst (dk_Mo_doPlans 18 rfl) (by decide) ?_
    refine g_iload_n (i := 1) (j := 1) (dk_Mo_doPlans 19 rfl) rfl rfl ?_
    refine g_imul (dk_Mo_doPlans 20 rfl) ?_
    refine g_iadd (dk_Mo_doPlans 21 rfl) ?_
    obtain ⟨c5, h⟩ := p_gdE h
    obtain ⟨c6, h⟩ := p_gdE h
    refine g_iaload (dk_Mo_doPlans 22 rfl) c5 c6.1 c6.2 ?_
    refine g_aload_n (i := 0) (j := 0) (dk_Mo_doPlans 23 rfl) rfl rfl ?_
    refine g_getR fl_Mo_13 (Or.inr ⟨_, rfl⟩) (dk_Mo_doPlans 24 rfl) c1 ?_
    refine g_aload_n (i := 0) (j := 0) (dk_Mo_doPlans 25 rfl) rfl rfl ?_
    refine g_getI fl_Mo_227 (Or.inl rfl) (dk_Mo_doPlans 26 rfl) c1 ?_
    obtain ⟨c7, h⟩ := p_gdE h
    obtain ⟨c8, h⟩ := p_gdE h
    refine g_iaload (dk_Mo_doPlans 27 rfl) c7 c8.1 c8.2 ?_
    refine g_icmp_ne 73 (dk_Mo_doPlans 28 rfl) (by decide) (fun b9 => ?_) (fun b9 => ?_)
    · have h := p_ifT b9 h
      exact tB_Mo_doPlans_73 K l k7 hk7 v0 v1 s0 _ h
    · have h := p_ifF b9 h
      refine g_aload_n (i := 0) (j := 0) (dk_Mo_doPlans 29 rfl) rfl rfl ?_
      refine g_bipush (dk_Mo_doPlans 30 rfl) (by decide +kernel) (by decide) ?_
      refine g_aload_n (i := 0) (j := 0) (dk_Mo_doPlans 31 rfl) rfl rfl ?_
      refine g_getI fl_Mo_227 (Or.inl rfl) (dk_Mo_doPlans 32 rfl) c1 ?_
      refine g_imul (dk_Mo_doPlans 33 rfl) ?_
      refine g_iload_n (i := 1) (j := 1) (dk_Mo_doPlans 34 rfl) rfl rfl ?_
      refine g_iadd (dk_Mo_doPlans 35 rfl) ?_
      obtain ⟨r14, s10, q11, h⟩ := p_bdE h
      have t12 := tF_Mo_planFault K l v0 (p_w ((p_w (16 * (p_Z s0 v0 0))) + v1)) s0 _ q11
      refine g_callV (a := v0) (ci := 11) (q0 := (RX11, TX11, 90)) (As := [p_i (p_w ((p_w (16 * (p_Z s0 v0 0))) + v1))]) (rest := []) [p_i r14] mt_Mo_planFault rfl rfl tw_8_81 ts_75 tw_8_79 ⟨Nat.le_of_ble_eq_true rfl, Nat.le_of_ble_eq_true rfl⟩ rfl (Nat.le_of_ble_eq_true rfl) (dk_Mo_doPlans 36 rfl) rfl c1 rfl t12 ?_
      have hs13 : p_x s0 s10 := t12.1
      show p_Go K l m_Mo_doPlans 61 [(0, p_r v0), (1, p_i v1)] [p_i r14] s10 _
      refine g_istore_n (i := 2) [(2, p_i r14), (0, p_r v0), (1, p_i v1)] (dk_Mo_doPlans 37 rfl) rfl (by decide) rfl ?_
      refine g_iload_n (i := 2) (j := 0) (dk_Mo_doPlans 38 rfl) rfl rfl ?_
      refine g_if_le 73 (dk_Mo_doPlans 39 rfl) (by decide) (fun b15 => ?_) (fun b15 => ?_)
      · have h := p_ifT b15 h
        refine g_sub [(0, p_r v0), (1, p_i v1)] [1, 2] rfl ?_
        exact tB_Mo_doPlans_73 K l k7 hk7 v0 v1 s10 _ h
      · have h := p_ifF b15 h
        refine g_aload_n (i := 0) (j := 1) (dk_Mo_doPlans 40 rfl) rfl rfl ?_
        refine g_iconst (dk_Mo_doPlans 41 rfl) (by decide) ?_
        refine g_iload_n (i := 2) (j := 0) (dk_Mo_doPlans 42 rfl) rfl rfl ?_
        refine g_iload_n (i := 1) (j := 2) (dk_Mo_doPlans 43 rfl) rfl rfl ?_
        obtain ⟨s16, q17, h⟩ := p_bvE h
        have t18 := tF_Mo_find K l v0 5 r14 v1 s10 _ q17
        refine g_callV (a := v0) (ci := 11) (q0 := (RX11, TX11, 90)) (As := [p_i 5, p_i r14, p_i v1]) (rest := []) [] mt_Mo_find rfl rfl tw_8_85 ts_76 tw_8_83 ⟨Nat.le_of_ble_eq_true rfl, Nat.le_of_ble_eq_true rfl⟩ rfl (Nat.le_of_ble_eq_true rfl) (dk_Mo_doPlans 44 rfl) rfl (c1.up hs13) rfl t18 ?_
        have hs19 : p_x s10 s16 := t18.1
        show p_Go K l m_Mo_doPlans 73 [(2, p_i r14), (0, p_r v0), (1, p_i v1)] [] s16 _
        refine g_sub [(0, p_r v0), (1, p_i v1)] [1, 2] rfl ?_
        exact tB_Mo_doPlans_73 K l k7 hk7 v0 v1 s16 _ h
set_option maxRecDepth 100000 in
set_option maxHeartbeats 4000000 in
theorem tO_Mo_doPlans_7 (K : p_K) (l : Launch)  : ∀ (n : Nat) (v0 : Nat) (v1 : Int) (s0 : p_Hp) (r : p_Hp), O_Mo_doPlans_7 n v0 v1 s0 = some r → p_Go K l m_Mo_doPlans 7 [(0, p_r v0), (1, p_i v1)] [] s0 (none, r) := by
  intro n
  induction n with
  | zero => intro v0 v1 s0 r h; cases (show (none : Option p_Hp) = some r from h)
  | succ n ih => intro v0 v1 s0 r h; exact tL_Mo_doPlans_7 K l _ ih v0 v1 s0 r h
set_option maxRecDepth 100000 in
set_option maxHeartbeats 4000000 in
theorem tF_Mo_doPlans (K : p_K) (l : Launch) (v0 : Nat) (s0 : p_Hp) (r : p_Hp) (h : F_Mo_doPlans v0 s0 = some r) : p_Ct K l m_Mo_doPlans [p_r v0] s0 (none, r) := by
  refine p_Ct.of (by decide +kernel) (Nat.le_of_ble_eq_true rfl) ?_
  unfold F_Mo_doPlans at h
  show p_Go K l m_Mo_doPlans 0 [(0, p_r v0)] [] s0 _
  refine g_aload_n (i := 0) (j := 0) (dk_Mo_doPlans 0 rfl) rfl rfl ?_
  refine g_iconst (dk_Mo_doPlans 1 rfl) (by decide) ?_
  obtain ⟨c1, h⟩ := p_gdE h
  refine g_putI fl_Mo_379 (Or.inl rfl) (dk_Mo_doPlans 2 rfl) c1 ?_
  refine p_ltS (P := fun q => p_Go K l m_Mo_doPlans 5 [(0, p_r v0)] [] q _) (p_xZ _ _ _ _) ?_ h
  intro s2 hs3 h
  refine g_iconst (dk_Mo_doPlans 3 rfl) (by decide) ?_
  refine g_istore_n (i := 1) [(1, p_i 0), (0, p_r v0)] (dk_Mo_doPlans 4 rfl) rfl (by decide) rfl ?_
  refine g_sub [(0, p_r v0), (1, p_i 0)] [1, 0] rfl ?_
  exact tO_Mo_doPlans_7 K l 3000 v0 0 s2 _ h
def m_Mo_both : p_Me := (⟨"SortWorksModel", "both", "(I)I"⟩, prog_13_method_88_code, 3, (some .int), 0, 0)
theorem mt_Mo_both : p_Mt m_Mo_both 1 := ⟨p_mem (p_tb8 (List.mem_of_getElem? (i := 66) rfl)) rfl, tw_1_12, by decide +kernel, by decide +kernel, by decide +kernel⟩
def dt_Mo_both : List (Nat × Instr × Nat) := [(0, .aload_n 0, 1), (1, .getfield 496, 3), (4, .ifCond .eq 13, 3), (7, .aload_n 0, 1), (8, .getfield 214, 3), (11, .aload_n 0, 1), (12, .getfield 500, 3), (15, .iload_n 1, 1), (16, .iastore, 1), (17, .aload_n 0, 1), (18, .getfield 214, 3), (21, .aload_n 0, 1), (22, .getfield 500, 3), (25, .iaload, 1), (26, .istore_n 2, 1), (27, .aload_n 0, 1), (28, .dup, 1), (29, .getfield 500, 3), (32, .iconst 1, 1), (33, .iadd, 1), (34, .putfield 500, 3), (37, .iload_n 2, 1), (38, .ireturn, 1)]
theorem dk_Mo_both (i : Nat) {pc : Nat} {ins : Instr} {len : Nat} (h : dt_Mo_both[i]? = some (pc, ins, len)) : decode m_Mo_both.2.1 pc = .ok (ins, len) := p_dk (b := m_Mo_both.2.1) (t := dt_Mo_both) (by decide +kernel) i h
def B_Mo_both_17  (v0 : Nat) (s0 : p_Hp) : Option (Int × p_Hp) :=
  p_gd (p_is s0 v0 11) <|
  p_gd (p_is s0 (p_R s0 v0 83) 100) <|
  p_gd ((0 : Int) ≤ (p_Z s0 v0 84) ∧ (p_Z s0 v0 84) < (p_L s0 (p_R s0 v0 83) : Int)) <|
  p_bi ((p_Z s0 (p_R s0 v0 83) ((p_Z s0 v0 84) : Int).toNat)) fun x4 =>
  p_bi (p_wZ s0 v0 84 (p_w ((p_Z s0 v0 84) + 1))) fun s5 =>
  some (x4, s5)
def F_Mo_both (v0 : Nat) (v1 : Int) (s0 : p_Hp) : Option (Int × p_Hp) :=
  p_gd (p_is s0 v0 11) <|
  if (p_Z s0 v0 85) = 0 then
    B_Mo_both_17 v0 s0
  else
    p_gd (p_is s0 (p_R s0 v0 83) 100) <|
    p_gd ((0 : Int) ≤ (p_Z s0 v0 84) ∧ (p_Z s0 v0 84) < (p_L s0 (p_R s0 v0 83) : Int)) <|
    p_bi (p_wZ s0 (p_R s0 v0 83) ((p_Z s0 v0 84) : Int).toNat v1) fun s5 =>
    B_Mo_both_17 v0 s5
set_option maxRecDepth 100000 in
set_option maxHeartbeats 4000000 in
theorem tB_Mo_both_17 (K : p_K) (l : Launch)  (v0 : Nat) (s0 : p_Hp) (r : (Int × p_Hp)) (h : B_Mo_both_17 v0 s0 = some r) : p_Go K l m_Mo_both 17 [(0, p_r v0)] [] s0 (some (p_i r.1), r.2) := by
  unfold B_Mo_both_17 at h
  refine g_aload_n (i := 0) (j := 0) (dk_Mo_both 9 rfl) rfl rfl ?_
  obtain ⟨c1, h⟩ := p_gdE h
  refine g_getR fl_Mo_214 (Or.inr ⟨_, rfl⟩) (dk_Mo_both 10 rfl) c1 ?_
  refine g_aload_n (i := 0) (j := 0) (dk_Mo_both 11 rfl) rfl rfl ?_
  refine g_getI fl_Mo_500 (Or.inl rfl) (dk_Mo_both 12 rfl) c1 ?_
  obtain ⟨c2, h⟩ := p_gdE h
  obtain ⟨c3, h⟩ := p_gdE h
  refine g_iaload (dk_Mo_both 13 rfl) c2 c3.1 c3.2 ?_
  refine g_istore_n (i := 2) [(2, p_i (p_Z s0 (p_R s0 v0 83) ((p_Z s0 v0 84) : Int).toNat)), (0, p_r v0)] (dk_Mo_both 14 rfl) rfl (by decide) rfl ?_
  refine p_ltG (P := fun q => p_Go K l m_Mo_both 27 [(2, p_i q), (0, p_r v0)] [] s0 _) ?_ h
  intro x4 h
  refine g_aload_n (i := 0) (j := 1) (dk_Mo_both 15 rfl) rfl rfl ?_
  refine g_dup (dk_Mo_both 16 rfl) rfl ?_
  refine g_getI fl_Mo_500 (Or.inl rfl) (dk_Mo_both 17 rfl) c1 ?_
  refine g_iconst (dk_Mo_both 18 rfl) (by decide) ?_
  refine g_iadd (dk_Mo_both 19 rfl) ?_
  refine g_putI fl_Mo_500 (Or.inl rfl) (dk_Mo_both 20 rfl) c1 ?_
  refine p_ltS (P := fun q => p_Go K l m_Mo_both 37 [(2, p_i x4), (0, p_r v0)] [] q _) (p_xZ _ _ _ _) ?_ h
  intro s5 hs6 h
  refine g_iload_n (i := 2) (j := 0) (dk_Mo_both 21 rfl) rfl rfl ?_
  cases h
  exact g_ret rfl rfl (dk_Mo_both 22 rfl) (fun os => ⟨_, rfl, p_okh os⟩)
set_option maxRecDepth 100000 in
set_option maxHeartbeats 4000000 in
theorem tF_Mo_both (K : p_K) (l : Launch) (v0 : Nat) (v1 : Int) (s0 : p_Hp) (r : (Int × p_Hp)) (h : F_Mo_both v0 v1 s0 = some r) : p_Ct K l m_Mo_both [p_r v0, p_i v1] s0 (some (p_i r.1), r.2) := by
  refine p_Ct.of (by decide +kernel) (Nat.le_of_ble_eq_true rfl) ?_
  unfold F_Mo_both at h
  show p_Go K l m_Mo_both 0 [(0, p_r v0), (1, p_i v1)] [] s0 _
  refine g_aload_n (i := 0) (j := 0) (dk_Mo_both 0 rfl) rfl rfl ?_
  obtain ⟨c1, h⟩ := p_gdE h
  refine g_getI fl_Mo_496 (Or.inr rfl) (dk_Mo_both 1 rfl) c1 ?_
  refine g_if_eq 17 (dk_Mo_both 2 rfl) (by decide) (fun b2 => ?_) (fun b2 => ?_)
  · have h := p_ifT b2 h
    refine g_sub [(0, p_r v0)] [0] rfl ?_
    exact tB_Mo_both_17 K l v0 s0 _ h
  · have h := p_ifF b2 h
    refine g_aload_n (i := 0) (j := 0) (dk_Mo_both 3 rfl) rfl rfl ?_
    refine g_getR fl_Mo_214 (Or.inr ⟨_, rfl⟩) (dk_Mo_both 4 rfl) c1 ?_
    refine g_aload_n (i := 0) (j := 0) (dk_Mo_both 5 rfl) rfl rfl ?_
    refine g_getI fl_Mo_500 (Or.inl rfl) (dk_Mo_both 6 rfl) c1 ?_
    refine g_iload_n (i := 1) (j := 1) (dk_Mo_both 7 rfl) rfl rfl ?_
    obtain ⟨c3, h⟩ := p_gdE h
    obtain ⟨c4, h⟩ := p_gdE h
    refine g_iastore (dk_Mo_both 8 rfl) c3 c4.1 c4.2 ?_
    refine p_ltS (P := fun q => p_Go K l m_Mo_both 17 [(0, p_r v0), (1, p_i v1)] [] q _) (p_xZ _ _ _ _) ?_ h
    intro s5 hs6 h
    refine g_sub [(0, p_r v0)] [0] rfl ?_
    exact tB_Mo_both_17 K l v0 s5 _ h
def m_Mo_goOverGear : p_Me := (⟨"SortWorksModel", "goOverGear", "(I)V"⟩, prog_13_method_91_code, 3, none, 1, 22)
theorem mt_Mo_goOverGear : p_Mt m_Mo_goOverGear 1 := ⟨p_mem (p_tb8 (List.mem_of_getElem? (i := 70) rfl)) rfl, tw_1_12, by decide +kernel, by decide +kernel, by decide +kernel⟩
def dt_Mo_goOverGear : List (Nat × Instr × Nat) := [(0, .aload_n 0, 1), (1, .getfield 31, 3), (4, .iload_n 1, 1), (5, .aload_n 0, 1), (6, .aload_n 0, 1), (7, .getfield 31, 3), (10, .iload_n 1, 1), (11, .iaload, 1), (12, .invokevirtual 506, 3), (15, .iastore, 1), (16, .aload_n 0, 1), (17, .getfield 38, 3), (20, .iload_n 1, 1), (21, .aload_n 0, 1), (22, .aload_n 0, 1), (23, .getfield 38, 3), (26, .iload_n 1, 1), (27, .iaload, 1), (28, .invokevirtual 506, 3), (31, .iastore, 1), (32, .aload_n 0, 1), (33, .getfield 41, 3), (36, .iload_n 1, 1), (37, .aload_n 0, 1), (38, .aload_n 0, 1), (39, .getfield 41, 3), (42, .iload_n 1, 1), (43, .iaload, 1), (44, .invokevirtual 506, 3), (47, .iastore, 1), (48, .aload_n 0, 1), (49, .getfield 44, 3), (52, .iload_n 1, 1), (53, .aload_n 0, 1), (54, .aload_n 0, 1), (55, .getfield 44, 3), (58, .iload_n 1, 1), (59, .baload, 1), (60, .ifCond .eq 7, 3), (63, .iconst 1, 1), (64, .goto 4, 3), (67, .iconst 0, 1), (68, .invokevirtual 506, 3), (71, .iconst 1, 1), (72, .if_icmp .ne 7, 3), (75, .iconst 1, 1), (76, .goto 4, 3), (79, .iconst 0, 1), (80, .bastore, 1), (81, .aload_n 0, 1), (82, .getfield 48, 3), (85, .iload_n 1, 1), (86, .aload_n 0, 1), (87, .aload_n 0, 1), (88, .getfield 48, 3), (91, .iload_n 1, 1), (92, .iaload, 1), (93, .invokevirtual 506, 3), (96, .iastore, 1), (97, .aload_n 0, 1), (98, .getfield 51, 3), (101, .iload_n 1, 1), (102, .aload_n 0, 1), (103, .aload_n 0, 1), (104, .getfield 51, 3), (107, .iload_n 1, 1), (108, .iaload, 1), (109, .invokevirtual 506, 3), (112, .iastore, 1), (113, .aload_n 0, 1), (114, .getfield 54, 3), (117, .iload_n 1, 1), (118, .aload_n 0, 1), (119, .aload_n 0, 1), (120, .getfield 54, 3), (123, .iload_n 1, 1), (124, .iaload, 1), (125, .invokevirtual 506, 3), (128, .iastore, 1), (129, .aload_n 0, 1), (130, .getfield 57, 3), (133, .iload_n 1, 1), (134, .aload_n 0, 1), (135, .aload_n 0, 1), (136, .getfield 57, 3), (139, .iload_n 1, 1), (140, .iaload, 1), (141, .invokevirtual 506, 3), (144, .iastore, 1), (145, .aload_n 0, 1), (146, .getfield 60, 3), (149, .iload_n 1, 1), (150, .aload_n 0, 1), (151, .aload_n 0, 1), (152, .getfield 60, 3), (155, .iload_n 1, 1), (156, .iaload, 1), (157, .invokevirtual 506, 3), (160, .iastore, 1), (161, .aload_n 0, 1), (162, .getfield 63, 3), (165, .iload_n 1, 1), (166, .aload_n 0, 1), (167, .aload_n 0, 1), (168, .getfield 63, 3), (171, .iload_n 1, 1), (172, .iaload, 1), (173, .invokevirtual 506, 3), (176, .iastore, 1), (177, .aload_n 0, 1), (178, .getfield 66, 3), (181, .iload_n 1, 1), (182, .aload_n 0, 1), (183, .aload_n 0, 1), (184, .getfield 66, 3), (187, .iload_n 1, 1), (188, .iaload, 1), (189, .invokevirtual 506, 3), (192, .iastore, 1), (193, .bipush 8, 2), (195, .iload_n 1, 1), (196, .imul, 1), (197, .istore_n 2, 1), (198, .iload_n 2, 1), (199, .bipush 8, 2), (201, .iload_n 1, 1), (202, .imul, 1), (203, .bipush 8, 2), (205, .iadd, 1), (206, .if_icmp .ge 25, 3), (209, .aload_n 0, 1), (210, .getfield 69, 3), (213, .iload_n 2, 1), (214, .aload_n 0, 1), (215, .aload_n 0, 1), (216, .getfield 69, 3), (219, .iload_n 2, 1), (220, .iaload, 1), (221, .invokevirtual 506, 3), (224, .iastore, 1), (225, .iinc 2 1, 3), (228, .goto (-30), 3), (231, .return_, 1)]
theorem dk_Mo_goOverGear (i : Nat) {pc : Nat} {ins : Instr} {len : Nat} (h : dt_Mo_goOverGear[i]? = some (pc, ins, len)) : decode m_Mo_goOverGear.2.1 pc = .ok (ins, len) := p_dk (b := m_Mo_goOverGear.2.1) (t := dt_Mo_goOverGear) (by decide +kernel) i h
def L_Mo_goOverGear_198 (k198 : Nat → Int → Int → p_Hp → Option p_Hp) (v0 : Nat) (v1 : Int) (v2 : Int) (s0 : p_Hp) : Option p_Hp :=
  if (p_w ((p_w (8 * v1)) + 8)) ≤ v2 then
    some s0
  else
    p_gd (p_is s0 v0 11) <|
    p_gd (p_is s0 (p_R s0 v0 22) 100) <|
    p_gd ((0 : Int) ≤ v2 ∧ v2 < (p_L s0 (p_R s0 v0 22) : Int)) <|
    p_bd (F_Mo_both v0 (p_Z s0 (p_R s0 v0 22) (v2 : Int).toNat) s0) fun r9 s5 =>
    p_gd ((0 : Int) ≤ v2 ∧ v2 < (p_L s5 (p_R s0 v0 22) : Int)) <|
    p_bi (p_wZ s5 (p_R s0 v0 22) (v2 : Int).toNat r9) fun s11 =>
    p_bi (p_w (v2 + 1)) fun x13 =>
    k198 v0 v1 x13 s11
def O_Mo_goOverGear_198  : Nat → Nat → Int → Int → p_Hp → Option p_Hp
  | 0 => fun _ _ _ _ => none
  | n + 1 => L_Mo_goOverGear_198 (O_Mo_goOverGear_198 n)
def B_Mo_goOverGear_80  (v0 : Nat) (v1 : Int) (w0 : Int) (w1 : Int) (w2 : Nat) (s0 : p_Hp) : Option p_Hp :=
  p_gd (p_is s0 w2 102) <|
  p_gd ((0 : Int) ≤ w1 ∧ w1 < (p_L s0 w2 : Int)) <|
  p_gd (w0 = 0 ∨ w0 = 1) <|
  p_bi (p_wZ s0 w2 (w1 : Int).toNat w0) fun s4 =>
  p_gd (p_is s4 v0 11) <|
  p_gd (p_is s4 (p_R s4 v0 15) 100) <|
  p_gd ((0 : Int) ≤ v1 ∧ v1 < (p_L s4 (p_R s4 v0 15) : Int)) <|
  p_bd (F_Mo_both v0 (p_Z s4 (p_R s4 v0 15) (v1 : Int).toNat) s4) fun r13 s9 =>
  p_gd ((0 : Int) ≤ v1 ∧ v1 < (p_L s9 (p_R s4 v0 15) : Int)) <|
  p_bi (p_wZ s9 (p_R s4 v0 15) (v1 : Int).toNat r13) fun s15 =>
  p_gd (p_is s15 (p_R s15 v0 16) 100) <|
  p_gd ((0 : Int) ≤ v1 ∧ v1 < (p_L s15 (p_R s15 v0 16) : Int)) <|
  p_bd (F_Mo_both v0 (p_Z s15 (p_R s15 v0 16) (v1 : Int).toNat) s15) fun r23 s19 =>
  p_gd ((0 : Int) ≤ v1 ∧ v1 < (p_L s19 (p_R s15 v0 16) : Int)) <|
  p_bi (p_wZ s19 (p_R s15 v0 16) (v1 : Int).toNat r23) fun s25 =>
  p_gd (p_is s25 (p_R s25 v0 17) 100) <|
  p_gd ((0 : Int) ≤ v1 ∧ v1 < (p_L s25 (p_R s25 v0 17) : Int)) <|
  p_bd (F_Mo_both v0 (p_Z s25 (p_R s25 v0 17) (v1 : Int).toNat) s25) fun r33 s29 =>
  p_gd ((0 : Int) ≤ v1 ∧ v1 < (p_L s29 (p_R s25 v0 17) : Int)) <|
  p_bi (p_wZ s29 (p_R s25 v0 17) (v1 : Int).toNat r33) fun s35 =>
  p_gd (p_is s35 (p_R s35 v0 18) 100) <|
  p_gd ((0 : Int) ≤ v1 ∧ v1 < (p_L s35 (p_R s35 v0 18) : Int)) <|
  p_bd (F_Mo_both v0 (p_Z s35 (p_R s35 v0 18) (v1 : Int).toNat) s35) fun r43 s39 =>
  p_gd ((0 : Int) ≤ v1 ∧ v1 < (p_L s39 (p_R s35 v0 18) : Int)) <|
  p_bi (p_wZ s39 (p_R s35 v0 18) (v1 : Int).toNat r43) fun s45 =>
  p_gd (p_is s45 (p_R s45 v0 19) 100) <|
  p_gd ((0 : Int) ≤ v1 ∧ v1 < (p_L s45 (p_R s45 v0 19) : Int)) <|
  p_bd (F_Mo_both v0 (p_Z s45 (p_R s45 v0 19) (v1 : Int).toNat) s45) fun r53 s49 =>
  p_gd ((0 : Int) ≤ v1 ∧ v1 < (p_L s49 (p_R s45 v0 19) : Int)) <|
  p_bi (p_wZ s49 (p_R s45 v0 19) (v1 : Int).toNat r53) fun s55 =>
  p_gd (p_is s55 (p_R s55 v0 20) 100) <|
  p_gd ((0 : Int) ≤ v1 ∧ v1 < (p_L s55 (p_R s55 v0 20) : Int)) <|
  p_bd (F_Mo_both v0 (p_Z s55 (p_R s55 v0 20) (v1 : Int).toNat) s55) fun r63 s59 =>
  p_gd ((0 : Int) ≤ v1 ∧ v1 < (p_L s59 (p_R s55 v0 20) : Int)) <|
  p_bi (p_wZ s59 (p_R s55 v0 20) (v1 : Int).toNat r63) fun s65 =>
  p_gd (p_is s65 (p_R s65 v0 21) 100) <|
  p_gd ((0 : Int) ≤ v1 ∧ v1 < (p_L s65 (p_R s65 v0 21) : Int)) <|
  p_bd (F_Mo_both v0 (p_Z s65 (p_R s65 v0 21) (v1 : Int).toNat) s65) fun r73 s69 =>
  p_gd ((0 : Int) ≤ v1 ∧ v1 < (p_L s69 (p_R s65 v0 21) : Int)) <|
  p_bi (p_wZ s69 (p_R s65 v0 21) (v1 : Int).toNat r73) fun s75 =>
  p_bi ((p_w (8 * v1))) fun x77 =>
  O_Mo_goOverGear_198 3000 v0 v1 x77 s75
def B_Mo_goOverGear_68  (v0 : Nat) (v1 : Int) (w0 : Int) (w1 : Nat) (w2 : Int) (w3 : Nat) (s0 : p_Hp) : Option p_Hp :=
  p_gd (p_is s0 w1 11) <|
  p_bd (F_Mo_both w1 w0 s0) fun r6 s2 =>
  if r6 ≠ 1 then
    B_Mo_goOverGear_80 v0 v1 0 w2 w3 s2
  else
    B_Mo_goOverGear_80 v0 v1 1 w2 w3 s2
def F_Mo_goOverGear (v0 : Nat) (v1 : Int) (s0 : p_Hp) : Option p_Hp :=
  p_gd (p_is s0 v0 11) <|
  p_gd (p_is s0 (p_R s0 v0 10) 100) <|
  p_gd ((0 : Int) ≤ v1 ∧ v1 < (p_L s0 (p_R s0 v0 10) : Int)) <|
  p_bd (F_Mo_both v0 (p_Z s0 (p_R s0 v0 10) (v1 : Int).toNat) s0) fun r8 s4 =>
  p_gd ((0 : Int) ≤ v1 ∧ v1 < (p_L s4 (p_R s0 v0 10) : Int)) <|
  p_bi (p_wZ s4 (p_R s0 v0 10) (v1 : Int).toNat r8) fun s10 =>
  p_gd (p_is s10 (p_R s10 v0 12) 100) <|
  p_gd ((0 : Int) ≤ v1 ∧ v1 < (p_L s10 (p_R s10 v0 12) : Int)) <|
  p_bd (F_Mo_both v0 (p_Z s10 (p_R s10 v0 12) (v1 : Int).toNat) s10) fun r18 s14 =>
  p_gd ((0 : Int) ≤ v1 ∧ v1 < (p_L s14 (p_R s10 v0 12) : Int)) <|
  p_bi (p_wZ s14 (p_R s10 v0 12) (v1 : Int).toNat r18) fun s20 =>
  p_gd (p_is s20 (p_R s20 v0 13) 100) <|
  p_gd ((0 : Int) ≤ v1 ∧ v1 < (p_L s20 (p_R s20 v0 13) : Int)) <|
  p_bd (F_Mo_both v0 (p_Z s20 (p_R s20 v0 13) (v1 : Int).toNat) s20) fun r28 s24 =>
  p_gd ((0 : Int) ≤ v1 ∧ v1 < (p_L s24 (p_R s20 v0 13) : Int)) <|
  p_bi (p_wZ s24 (p_R s20 v0 13) (v1 : Int).toNat r28) fun s30 =>
  p_gd (p_is s30 (p_R s30 v0 14) 102) <|
  p_gd ((0 : Int) ≤ v1 ∧ v1 < (p_L s30 (p_R s30 v0 14) : Int)) <|
  if (p_Z s30 (p_R s30 v0 14) (v1 : Int).toNat) = 0 then
    B_Mo_goOverGear_68 v0 v1 0 v0 v1 (p_R s30 v0 14) s30
  else
    B_Mo_goOverGear_68 v0 v1 1 v0 v1 (p_R s30 v0 14) s30
set_option maxRecDepth 100000 in
set_option maxHeartbeats 4000000 in
theorem tL_Mo_goOverGear_198 (K : p_K) (l : Launch) (k198 : Nat → Int → Int → p_Hp → Option p_Hp) (hk198 : ∀ (v0 : Nat) (v1 : Int) (v2 : Int)  (s0 : p_Hp) (r : p_Hp), k198 v0 v1 v2 s0 = some r → p_Go K l m_Mo_goOverGear 198 [(0, p_r v0), (1, p_i v1), (2, p_i v2)] [] s0 (none, r)) (v0 : Nat) (v1 : Int) (v2 : Int) (s0 : p_Hp) (r : p_Hp) (h : L_Mo_goOverGear_198 k198 v0 v1 v2 s0 = some r) : p_Go K l m_Mo_goOverGear 198 [(0, p_r v0), (1, p_i v1), (2, p_i v2)] [] s0 (none, r) := by
  unfold L_Mo_goOverGear_198 at h
  refine g_iload_n (i := 2) (j := 2) (dk_Mo_goOverGear 123 rfl) rfl rfl ?_
  refine g_bipush (dk_Mo_goOverGear 124 rfl) (by decide +kernel) (by decide) ?_
  refine g_iload_n (i := 1) (j := 1) (dk_Mo_goOverGear 125 rfl) rfl rfl ?_
  refine g_imul (dk_Mo_goOverGear 126 rfl) ?_
  refine g_bipush (dk_Mo_goOverGear 127 rfl) (by decide +kernel) (by decide) ?_
  refine g_iadd (dk_Mo_goOverGear 128 rfl) ?_
  refine g_icmp_ge 231 (dk_Mo_goOverGear 129 rfl) (by decide) (fun b1 => ?_) (fun b1 => ?_)
  · have h := p_ifT b1 h
    cases h
    exact g_ret rfl rfl (dk_Mo_goOverGear 142 rfl) (fun _ => rfl)
  · have h := p_ifF b1 h
    refine g_aload_n (i := 0) (j := 0) (dk_Mo_goOverGear 130 rfl) rfl rfl ?_
    obtain ⟨c2, h⟩ := p_gdE h
    refine g_getR fl_Mo_69 (Or.inr ⟨_, rfl⟩) (dk_Mo_goOverGear 131 rfl) c2 ?_
    refine g_iload_n (i := 2) (j := 2) (dk_Mo_goOverGear 132 rfl) rfl rfl ?_
    refine g_aload_n (i := 0) (j := 0) (dk_Mo_goOverGear 133 rfl) rfl rfl ?_
    refine g_aload_n (i := 0) (j := 0) (dk_Mo_goOverGear 134 rfl) rfl rfl ?_
    refine g_getR fl_Mo_69 (Or.inr ⟨_, rfl⟩) (dk_Mo_goOverGear 135 rfl) c2 ?_
    refine g_iload_n (i := 2) (j := 2) (dk_Mo_goOverGear 136 rfl) rfl rfl ?_
    obtain ⟨c3, h⟩ := p_gdE h
    obtain ⟨c4, h⟩ := p_gdE h
    refine g_iaload (dk_Mo_goOverGear 137 rfl) c3 c4.1 c4.2 ?_
    obtain ⟨r9, s5, q6, h⟩ := p_bdE h
    have t7 := tF_Mo_both K l v0 (p_Z s0 (p_R s0 v0 22) (v2 : Int).toNat) s0 _ q6
    refine g_callV (a := v0) (ci := 11) (q0 := (RX11, TX11, 90)) (As := [p_i (p_Z s0 (p_R s0 v0 22) (v2 : Int).toNat)]) (rest := [p_i v2, p_r (p_R s0 v0 22)]) [p_i r9, p_i v2, p_r (p_R s0 v0 22)] mt_Mo_both rfl rfl tw_8_65 ts_71 tw_8_63 ⟨Nat.le_of_ble_eq_true rfl, Nat.le_of_ble_eq_true rfl⟩ rfl (Nat.le_of_ble_eq_true rfl) (dk_Mo_goOverGear 138 rfl) rfl c2 rfl t7 ?_
    have hs8 : p_x s0 s5 := t7.1
    show p_Go K l m_Mo_goOverGear 224 [(0, p_r v0), (1, p_i v1), (2, p_i v2)] [p_i r9, p_i v2, p_r (p_R s0 v0 22)] s5 _
    obtain ⟨c10, h⟩ := p_gdE h
    refine g_iastore (dk_Mo_goOverGear 139 rfl) (c3.up hs8) c10.1 c10.2 ?_
    refine p_ltS (P := fun q => p_Go K l m_Mo_goOverGear 225 [(0, p_r v0), (1, p_i v1), (2, p_i v2)] [] q _) (p_xZ _ _ _ _) ?_ h
    intro s11 hs12 h
    refine g_iinc (j := 2) [(2, p_i (p_w (v2 + 1))), (0, p_r v0), (1, p_i v1)] (dk_Mo_goOverGear 140 rfl) rfl (by decide) rfl ?_
    refine p_ltG (P := fun q => p_Go K l m_Mo_goOverGear 228 [(2, p_i q), (0, p_r v0), (1, p_i v1)] [] s11 _) ?_ h
    intro x13 h
    refine g_goto 198 (dk_Mo_goOverGear 141 rfl) (by decide) ?_
    refine g_sub [(0, p_r v0), (1, p_i v1), (2, p_i x13)] [1, 2, 0] rfl ?_
    exact hk198 v0 v1 x13 s11 _ h
set_option maxRecDepth 100000 in
set_option maxHeartbeats 4000000 in
theorem tO_Mo_goOverGear_198 (K : p_K) (l : Launch)  : ∀ (n : Nat) (v0 : Nat) (v1 : Int) (v2 : Int) (s0 : p_Hp) (r : p_Hp), O_Mo_goOverGear_198 n v0 v1 v2 s0 = some r → p_Go K l m_Mo_goOverGear 198 [(0, p_r v0), (1, p_i v1), (2, p_i v2)] [] s0 (none, r) := by
  intro n
  induction n with
  | zero => intro v0 v1 v2 s0 r h; cases (show (none : Option p_Hp) = some r from h)
  | succ n ih => intro v0 v1 v2 s0 r h; exact tL_Mo_goOverGear_198 K l _ ih v0 v1 v2 s0 r h
set_option maxRecDepth 100000 in
set_option maxHeartbeats 4000000 in
theorem tB_Mo_goOverGear_80 (K : p_K) (l : Launch)  (v0 : Nat) (v1 : Int) (w0 : Int) (w1 : Int) (w2 : Nat) (s0 : p_Hp) (r : p_Hp) (h : B_Mo_goOverGear_80 v0 v1 w0 w1 w2 s0 = some r) : p_Go K l m_Mo_goOverGear 80 [(0, p_r v0), (1, p_i v1)] [p_i w0, p_i w1, p_r w2] s0 (none, r) := by
  unfold B_Mo_goOverGear_80 at h
  obtain ⟨c1, h⟩ := p_gdE h
  obtain ⟨c2, h⟩ := p_gdE h
  obtain ⟨c3, h⟩ := p_gdE h
  refine g_bastore (dk_Mo_goOverGear 48 rfl) c1 c2.1 c2.2 c3 ?_
  refine p_ltS (P := fun q => p_Go K l m_Mo_goOverGear 81 [(0, p_r v0), (1, p_i v1)] [] q _) (p_xZ _ _ _ _) ?_ h
  intro s4 hs5 h
  refine g_aload_n (i := 0) (j := 0) (dk_Mo_goOverGear 49 rfl) rfl rfl ?_
  obtain ⟨c6, h⟩ := p_gdE h
  refine g_getR fl_Mo_48 (Or.inr ⟨_, rfl⟩) (dk_Mo_goOverGear 50 rfl) c6 ?_
  refine g_iload_n (i := 1) (j := 1) (dk_Mo_goOverGear 51 rfl) rfl rfl ?_
  refine g_aload_n (i := 0) (j := 0) (dk_Mo_goOverGear 52 rfl) rfl rfl ?_
  refine g_aload_n (i := 0) (j := 0) (dk_Mo_goOverGear 53 rfl) rfl rfl ?_
  refine g_getR fl_Mo_48 (Or.inr ⟨_, rfl⟩) (dk_Mo_goOverGear 54 rfl) c6 ?_
  refine g_iload_n (i := 1) (j := 1) (dk_Mo_goOverGear 55 rfl) rfl rfl ?_
  obtain ⟨c7, h⟩ := p_gdE h
  obtain ⟨c8, h⟩ := p_gdE h
  refine g_iaload (dk_Mo_goOverGear 56 rfl) c7 c8.1 c8.2 ?_
  obtain ⟨r13, s9, q10, h⟩ := p_bdE h
  have t11 := tF_Mo_both K l v0 (p_Z s4 (p_R s4 v0 15) (v1 : Int).toNat) s4 _ q10
  refine g_callV (a := v0) (ci := 11) (q0 := (RX11, TX11, 90)) (As := [p_i (p_Z s4 (p_R s4 v0 15) (v1 : Int).toNat)]) (rest := [p_i v1, p_r (p_R s4 v0 15)]) [p_i r13, p_i v1, p_r (p_R s4 v0 15)] mt_Mo_both rfl rfl tw_8_65 ts_71 tw_8_63 ⟨Nat.le_of_ble_eq_true rfl, Nat.le_of_ble_eq_true rfl⟩ rfl (Nat.le_of_ble_eq_true rfl) (dk_Mo_goOverGear 57 rfl) rfl c6 rfl t11 ?_
  have hs12 : p_x s4 s9 := t11.1
  show p_Go K l m_Mo_goOverGear 96 [(0, p_r v0), (1, p_i v1)] [p_i r13, p_i v1, p_r (p_R s4 v0 15)] s9 _
  obtain ⟨c14, h⟩ := p_gdE h
  refine g_iastore (dk_Mo_goOverGear 58 rfl) (c7.up hs12) c14.1 c14.2 ?_
  refine p_ltS (P := fun q => p_Go K l m_Mo_goOverGear 97 [(0, p_r v0), (1, p_i v1)] [] q _) (p_xZ _ _ _ _) ?_ h
  intro s15 hs16 h
  refine g_aload_n (i := 0) (j := 0) (dk_Mo_goOverGear 59 rfl) rfl rfl ?_
  refine g_getR fl_Mo_51 (Or.inr ⟨_, rfl⟩) (dk_Mo_goOverGear 60 rfl) (c6.up (hs12.trans hs16)) ?_
  refine g_iload_n (i := 1) (j := 1) (dk_Mo_goOverGear 61 rfl) rfl rfl ?_
  refine g_aload_n (i := 0) (j := 0) (dk_Mo_goOverGear 62 rfl) rfl rfl ?_
  refine g_aload_n (i := 0) (j := 0) (dk_Mo_goOverGear 63 rfl) rfl rfl ?_
  refine g_getR fl_Mo_51 (Or.inr ⟨_, rfl⟩) (dk_Mo_goOverGear 64 rfl) (c6.up (hs12.trans hs16)) ?_
  refine g_iload_n (i := 1) (j := 1) (dk_Mo_goOverGear 65 rfl) rfl rfl ?_
  obtain ⟨c17, h⟩ := p_gdE h
  obtain ⟨c18, h⟩ := p_gdE h
  refine g_iaload (dk_Mo_goOverGear 66 rfl) c17 c18.1 c18.2 ?_
  obtain ⟨r23, s19, q20, h⟩ := p_bdE h
  have t21 := tF_Mo_both K l v0 (p_Z s15 (p_R s15 v0 16) (v1 : Int).toNat) s15 _ q20
  refine g_callV (a := v0) (ci := 11) (q0 := (RX11, TX11, 90)) (As := [p_i (p_Z s15 (p_R s15 v0 16) (v1 : Int).toNat)]) (rest := [p_i v1, p_r (p_R s15 v0 16)]) [p_i r23, p_i v1, p_r (p_R s15 v0 16)] mt_Mo_both rfl rfl tw_8_65 ts_71 tw_8_63 ⟨Nat.le_of_ble_eq_true rfl, Nat.le_of_ble_eq_true rfl⟩ rfl (Nat.le_of_ble_eq_true rfl) (dk_Mo_goOverGear 67 rfl) rfl (c6.up (hs12.trans hs16)) rfl t21 ?_
  have hs22 : p_x s15 s19 := t21.1
  show p_Go K l m_Mo_goOverGear 112 [(0, p_r v0), (1, p_i v1)] [p_i r23, p_i v1, p_r (p_R s15 v0 16)] s19 _
  obtain ⟨c24, h⟩ := p_gdE h
  refine g_iastore (dk_Mo_goOverGear 68 rfl) (c17.up hs22) c24.1 c24.2 ?_
  refine p_ltS (P := fun q => p_Go K l m_Mo_goOverGear 113 [(0, p_r v0), (1, p_i v1)] [] q _) (p_xZ _ _ _ _) ?_ h
  intro s25 hs26 h
  refine g_aload_n (i := 0) (j := 0) (dk_Mo_goOverGear 69 rfl) rfl rfl ?_
  refine g_getR fl_Mo_54 (Or.inr ⟨_, rfl⟩) (dk_Mo_goOverGear 70 rfl) (c6.up (hs12.trans (hs16.trans (hs22.trans hs26)))) ?_
  refine g_iload_n (i := 1) (j := 1) (dk_Mo_goOverGear 71 rfl) rfl rfl ?_
  refine g_aload_n (i := 0) (j := 0) (dk_Mo_goOverGear 72 rfl) rfl rfl ?_
  refine g_aload_n (i := 0) (j := 0) (dk_Mo_goOverGear 73 rfl) rfl rfl ?_
  refine g_getR fl_Mo_54 (Or.inr ⟨_, rfl⟩) (dk_Mo_goOverGear 74 rfl) (c6.up (hs12.trans (hs16.trans (hs22.trans hs26)))) ?_
  refine g_iload_n (i := 1) (j := 1) (dk_Mo_goOverGear 75 rfl) rfl rfl ?_
  obtain ⟨c27, h⟩ := p_gdE h
  obtain ⟨c28, h⟩ := p_gdE h
  refine g_iaload (dk_Mo_goOverGear 76 rfl) c27 c28.1 c28.2 ?_
  obtain ⟨r33, s29, q30, h⟩ := p_bdE h
  have t31 := tF_Mo_both K l v0 (p_Z s25 (p_R s25 v0 17) (v1 : Int).toNat) s25 _ q30
  refine g_callV (a := v0) (ci := 11) (q0 := (RX11, TX11, 90)) (As := [p_i (p_Z s25 (p_R s25 v0 17) (v1 : Int).toNat)]) (rest := [p_i v1, p_r (p_R s25 v0 17)]) [p_i r33, p_i v1, p_r (p_R s25 v0 17)] mt_Mo_both rfl rfl tw_8_65 ts_71 tw_8_63 ⟨Nat.le_of_ble_eq_true rfl, Nat.le_of_ble_eq_true rfl⟩ rfl (Nat.le_of_ble_eq_true rfl) (dk_Mo_goOverGear 77 rfl) rfl (c6.up (hs12.trans (hs16.trans (hs22.trans hs26)))) rfl t31 ?_
  have hs32 : p_x s25 s29 := t31.1
  show p_Go K l m_Mo_goOverGear 128 [(0, p_r v0), (1, p_i v1)] [p_i r33, p_i v1, p_r (p_R s25 v0 17)] s29 _
  obtain ⟨c34, h⟩ := p_gdE h
  refine g_iastore (dk_Mo_goOverGear 78 rfl) (c27.up hs32) c34.1 c34.2 ?_
  refine p_ltS (P := fun q => p_Go K l m_Mo_goOverGear 129 [(0, p_r v0), (1, p_i v1)] [] q _) (p_xZ _ _ _ _) ?_ h
  intro s35 hs36 h
  refine g_aload_n (i := 0) (j := 0) (dk_Mo_goOverGear 79 rfl) rfl rfl ?_
  refine g_getR fl_Mo_57 (Or.inr ⟨_, rfl⟩) (dk_Mo_goOverGear 80 rfl) (c6.up (hs12.trans (hs16.trans (hs22.trans (hs26.trans (hs32.trans hs36)))))) ?_
  refine g_iload_n (i := 1) (j := 1) (dk_Mo_goOverGear 81 rfl) rfl rfl ?_
  refine g_aload_n (i := 0) (j := 0) (dk_Mo_goOverGear 82 rfl) rfl rfl ?_
  refine g_aload_n (i := 0) (j := 0) (dk_Mo_goOverGear 83 rfl) rfl rfl ?_
  refine g_getR fl_Mo_57 (Or.inr ⟨_, rfl⟩) (dk_Mo_goOverGear 84 rfl) (c6.up (hs12.trans (hs16.trans (hs22.trans (hs26.trans (hs32.trans hs36)))))) ?_
  refine g_iload_n (i := 1) (j := 1) (dk_Mo_goOverGear 85 rfl) rfl rfl ?_
  obtain ⟨c37, h⟩ := p_gdE h
  obtain ⟨c38, h⟩ := p_gdE h
  refine g_iaload (dk_Mo_goOverGear 86 rfl) c37 c38.1 c38.2 ?_
  obtain ⟨r43, s39, q40, h⟩ := p_bdE h
  have t41 := tF_Mo_both K l v0 (p_Z s35 (p_R s35 v0 18) (v1 : Int).toNat) s35 _ q40
  refine g_callV (a := v0) (ci := 11) (q0 := (RX11, TX11, 90)) (As := [p_i (p_Z s35 (p_R s35 v0 18) (v1 : Int).toNat)]) (rest := [p_i v1, p_r (p_R s35 v0 18)]) [p_i r43, p_i v1, p_r (p_R s35 v0 18)] mt_Mo_both rfl rfl tw_8_65 ts_71 tw_8_63 ⟨Nat.le_of_ble_eq_true rfl, Nat.le_of_ble_eq_true rfl⟩ rfl (Nat.le_of_ble_eq_true rfl) (dk_Mo_goOverGear 87 rfl) rfl (c6.up (hs12.trans (hs16.trans (hs22.trans (hs26.trans (hs32.trans hs36)))))) rfl t41 ?_
  have hs42 : p_x s35 s39 := t41.1
  show p_Go K l m_Mo_goOverGear 144 [(0, p_r v0), (1, p_i v1)] [p_i r43, p_i v1, p_r (p_R s35 v0 18)] s39 _
  obtain ⟨c44, h⟩ := p_gdE h
  refine g_iastore (dk_Mo_goOverGear 88 rfl) (c37.up hs42) c44.1 c44.2 ?_
  refine p_ltS (P := fun q => p_Go K l m_Mo_goOverGear 145 [(0, p_r v0), (1, p_i v1)] [] q _) (p_xZ _ _ _ _) ?_ h
  intro s45 hs46 h
  refine g_aload_n (i := 0) (j := 0) (dk_Mo_goOverGear 89 rfl) rfl rfl ?_
  refine g_getR fl_Mo_60 (Or.inr ⟨_, rfl⟩) (dk_Mo_goOverGear 90 rfl) (c6.up (hs12.trans (hs16.trans (hs22.trans (hs26.trans (hs32.trans (hs36.trans (hs42.trans hs46)))))))) ?_
  refine g_iload_n (i := 1) (j := 1) (dk_Mo_goOverGear 91 rfl) rfl rfl ?_
  refine g_aload_n (i := 0) (j := 0) (dk_Mo_goOverGear 92 rfl) rfl rfl ?_
  refine g_aload_n (i := 0) (j := 0) (dk_Mo_goOverGear 93 rfl) rfl rfl ?_
  refine g_getR fl_Mo_60 (Or.inr ⟨_, rfl⟩) (dk_Mo_goOverGear 94 rfl) (c6.up (hs12.trans (hs16.trans (hs22.trans (hs26.trans (hs32.trans (hs36.trans (hs42.trans hs46)))))))) ?_
  refine g_iload_n (i := 1) (j := 1) (dk_Mo_goOverGear 95 rfl) rfl rfl ?_
  obtain ⟨c47, h⟩ := p_gdE h
  obtain ⟨c48, h⟩ := p_gdE h
  refine g_iaload (dk_Mo_goOverGear 96 rfl) c47 c48.1 c48.2 ?_
  obtain ⟨r53, s49, q50, h⟩ := p_bdE h
  have t51 := tF_Mo_both K l v0 (p_Z s45 (p_R s45 v0 19) (v1 : Int).toNat) s45 _ q50
  refine g_callV (a := v0) (ci := 11) (q0 := (RX11, TX11, 90)) (As := [p_i (p_Z s45 (p_R s45 v0 19) (v1 : Int).toNat)]) (rest := [p_i v1, p_r (p_R s45 v0 19)]) [p_i r53, p_i v1, p_r (p_R s45 v0 19)] mt_Mo_both rfl rfl tw_8_65 ts_71 tw_8_63 ⟨Nat.le_of_ble_eq_true rfl, Nat.le_of_ble_eq_true rfl⟩ rfl (Nat.le_of_ble_eq_true rfl) (dk_Mo_goOverGear 97 rfl) rfl (c6.up (hs12.trans (hs16.trans (hs22.trans (hs26.trans (hs32.trans (hs36.trans (hs42.trans hs46)))))))) rfl t51 ?_
  have hs52 : p_x s45 s49 := t51.1
  show p_Go K l m_Mo_goOverGear 160 [(0, p_r v0), (1, p_i v1)] [p_i r53, p_i v1, p_r (p_R s45 v0 19)] s49 _
  obtain ⟨c54, h⟩ := p_gdE h
  refine g_iastore (dk_Mo_goOverGear 98 rfl) (c47.up hs52) c54.1 c54.2 ?_
  refine p_ltS (P := fun q => p_Go K l m_Mo_goOverGear 161 [(0, p_r v0), (1, p_i v1)] [] q _) (p_xZ _ _ _ _) ?_ h
  intro s55 hs56 h
  refine g_aload_n (i := 0) (j := 0) (dk_Mo_goOverGear 99 rfl) rfl rfl ?_
  refine g_getR fl_Mo_63 (Or.inr ⟨_, rfl⟩) (dk_Mo_goOverGear 100 rfl) (c6.up (hs12.trans (hs16.trans (hs22.trans (hs26.trans (hs32.trans (hs36.trans (hs42.trans (hs46.trans (hs52.trans hs56)))))))))) ?_
  refine g_iload_n (i := 1) (j := 1) (dk_Mo_goOverGear 101 rfl) rfl rfl ?_
  refine g_aload_n (i := 0) (j := 0) (dk_Mo_goOverGear 102 rfl) rfl rfl ?_
  refine g_aload_n (i := 0) (j := 0) (dk_Mo_goOverGear 103 rfl) rfl rfl ?_
  refine g_getR fl_Mo_63 (Or.inr ⟨_, rfl⟩) (dk_Mo_goOverGear 104 rfl) (c6.up (hs12.trans (hs16.trans (hs22.trans (hs26.trans (hs32.trans (hs36.trans (hs42.trans (hs46.trans (hs52.trans hs56)))))))))) ?_
  refine g_iload_n (i := 1) (j := 1) (dk_Mo_goOverGear 105 rfl) rfl rfl ?_
  obtain ⟨c57, h⟩ := p_gdE h
  obtain ⟨c58, h⟩ := p_gdE h
  refine g_iaload (dk_Mo_goOverGear 106 rfl) c57 c58.1 c58.2 ?_
  obtain ⟨r63, s59, q60, h⟩ := p_bdE h
  have t61 := tF_Mo_both K l v0 (p_Z s55 (p_R s55 v0 20) (v1 : Int).toNat) s55 _ q60
  refine g_callV (a := v0) (ci := 11) (q0 := (RX11, TX11, 90)) (As := [p_i (p_Z s55 (p_R s55 v0 20) (v1 : Int).toNat)]) (rest := [p_i v1, p_r (p_R s55 v0 20)]) [p_i r63, p_i v1, p_r (p_R s55 v0 20)] mt_Mo_both rfl rfl tw_8_65 ts_71 tw_8_63 ⟨Nat.le_of_ble_eq_true rfl, Nat.le_of_ble_eq_true rfl⟩ rfl (Nat.le_of_ble_eq_true rfl) (dk_Mo_goOverGear 107 rfl) rfl (c6.up (hs12.trans (hs16.trans (hs22.trans (hs26.trans (hs32.trans (hs36.trans (hs42.trans (hs46.trans (hs52.trans hs56)))))))))) rfl t61 ?_
  have hs62 : p_x s55 s59 := t61.1
  show p_Go K l m_Mo_goOverGear 176 [(0, p_r v0), (1, p_i v1)] [p_i r63, p_i v1, p_r (p_R s55 v0 20)] s59 _
  obtain ⟨c64, h⟩ := p_gdE h
  refine g_iastore (dk_Mo_goOverGear 108 rfl) (c57.up hs62) c64.1 c64.2 ?_
  refine p_ltS (P := fun q => p_Go K l m_Mo_goOverGear 177 [(0, p_r v0), (1, p_i v1)] [] q _) (p_xZ _ _ _ _) ?_ h
  intro s65 hs66 h
  refine g_aload_n (i := 0) (j := 0) (dk_Mo_goOverGear 109 rfl) rfl rfl ?_
  refine g_getR fl_Mo_66 (Or.inr ⟨_, rfl⟩) (dk_Mo_goOverGear 110 rfl) (c6.up (hs12.trans (hs16.trans (hs22.trans (hs26.trans (hs32.trans (hs36.trans (hs42.trans (hs46.trans (hs52.trans (hs56.trans (hs62.trans hs66)))))))))))) ?_
  refine g_iload_n (i := 1) (j := 1) (dk_Mo_goOverGear 111 rfl) rfl rfl ?_
  refine g_aload_n (i := 0) (j := 0) (dk_Mo_goOverGear 112 rfl) rfl rfl ?_
  refine g_aload_n (i := 0) (j := 0) (dk_Mo_goOverGear 113 rfl) rfl rfl ?_
  refine g_getR fl_Mo_66 (Or.inr ⟨_, rfl⟩) (dk_Mo_goOverGear 114 rfl) (c6.up (hs12.trans (hs16.trans (hs22.trans (hs26.trans (hs32.trans (hs36.trans (hs42.trans (hs46.trans (hs52.trans (hs56.trans (hs62.trans hs66)))))))))))) ?_
  refine g_iload_n (i := 1) (j := 1) (dk_Mo_goOverGear 115 rfl) rfl rfl ?_
  obtain ⟨c67, h⟩ := p_gdE h
  obtain ⟨c68, h⟩ := p_gdE h
  refine g_iaload (dk_Mo_goOverGear 116 rfl) c67 c68.1 c68.2 ?_
  obtain ⟨r73, s69, q70, h⟩ := p_bdE h
  have t71 := tF_Mo_both K l v0 (p_Z s65 (p_R s65 v0 21) (v1 : Int).toNat) s65 _ q70
  refine g_callV (a := v0) (ci := 11) (q0 := (RX11, TX11, 90)) (As := [p_i (p_Z s65 (p_R s65 v0 21) (v1 : Int).toNat)]) (rest := [p_i v1, p_r (p_R s65 v0 21)]) [p_i r73, p_i v1, p_r (p_R s65 v0 21)] mt_Mo_both rfl rfl tw_8_65 ts_71 tw_8_63 ⟨Nat.le_of_ble_eq_true rfl, Nat.le_of_ble_eq_true rfl⟩ rfl (Nat.le_of_ble_eq_true rfl) (dk_Mo_goOverGear 117 rfl) rfl (c6.up (hs12.trans (hs16.trans (hs22.trans (hs26.trans (hs32.trans (hs36.trans (hs42.trans (hs46.trans (hs52.trans (hs56.trans (hs62.trans hs66)))))))))))) rfl t71 ?_
  have hs72 : p_x s65 s69 := t71.1
  show p_Go K l m_Mo_goOverGear 192 [(0, p_r v0), (1, p_i v1)] [p_i r73, p_i v1, p_r (p_R s65 v0 21)] s69 _
  obtain ⟨c74, h⟩ := p_gdE h
  refine g_iastore (dk_Mo_goOverGear 118 rfl) (c67.up hs72) c74.1 c74.2 ?_
  refine p_ltS (P := fun q => p_Go K l m_Mo_goOverGear 193 [(0, p_r v0), (1, p_i v1)] [] q _) (p_xZ _ _ _ _) ?_ h
  intro s75 hs76 h
  refine g_bipush (dk_Mo_goOverGear 119 rfl) (by decide +kernel) (by decide) ?_
  refine g_iload_n (i := 1) (j := 1) (dk_Mo_goOverGear 120 rfl) rfl rfl ?_
  refine g_imul (dk_Mo_goOverGear 121 rfl) ?_
  refine g_istore_n (i := 2) [(2, p_i (p_w (8 * v1))), (0, p_r v0), (1, p_i v1)] (dk_Mo_goOverGear 122 rfl) rfl (by decide) rfl ?_
  refine p_ltG (P := fun q => p_Go K l m_Mo_goOverGear 198 [(2, p_i q), (0, p_r v0), (1, p_i v1)] [] s75 _) ?_ h
  intro x77 h
  refine g_sub [(0, p_r v0), (1, p_i v1), (2, p_i x77)] [1, 2, 0] rfl ?_
  exact tO_Mo_goOverGear_198 K l 3000 v0 v1 x77 s75 _ h
set_option maxRecDepth 100000 in
set_option maxHeartbeats 4000000 in
theorem tB_Mo_goOverGear_68 (K : p_K) (l : Launch)  (v0 : Nat) (v1 : Int) (w0 : Int) (w1 : Nat) (w2 : Int) (w3 : Nat) (s0 : p_Hp) (r : p_Hp) (h : B_Mo_goOverGear_68 v0 v1 w0 w1 w2 w3 s0 = some r) : p_Go K l m_Mo_goOverGear 68 [(0, p_r v0), (1, p_i v1)] [p_i w0, p_r w1, p_i w2, p_r w3] s0 (none, r) := by
  unfold B_Mo_goOverGear_68 at h
  obtain ⟨c1, h⟩ := p_gdE h
  obtain ⟨r6, s2, q3, h⟩ := p_bdE h
  have t4 := tF_Mo_both K l w1 w0 s0 _ q3
  refine g_callV (a := w1) (ci := 11) (q0 := (RX11, TX11, 90)) (As := [p_i w0]) (rest := [p_i w2, p_r w3]) [p_i r6, p_i w2, p_r w3] mt_Mo_both rfl rfl tw_8_65 ts_71 tw_8_63 ⟨Nat.le_of_ble_eq_true rfl, Nat.le_of_ble_eq_true rfl⟩ rfl (Nat.le_of_ble_eq_true rfl) (dk_Mo_goOverGear 42 rfl) rfl c1 rfl t4 ?_
  have hs5 : p_x s0 s2 := t4.1
  show p_Go K l m_Mo_goOverGear 71 [(0, p_r v0), (1, p_i v1)] [p_i r6, p_i w2, p_r w3] s2 _
  refine g_iconst (dk_Mo_goOverGear 43 rfl) (by decide) ?_
  refine g_icmp_ne 79 (dk_Mo_goOverGear 44 rfl) (by decide) (fun b7 => ?_) (fun b7 => ?_)
  · have h := p_ifT b7 h
    refine g_iconst (dk_Mo_goOverGear 47 rfl) (by decide) ?_
    exact tB_Mo_goOverGear_80 K l v0 v1 0 w2 w3 s2 _ h
  · have h := p_ifF b7 h
    refine g_iconst (dk_Mo_goOverGear 45 rfl) (by decide) ?_
    refine g_goto 80 (dk_Mo_goOverGear 46 rfl) (by decide) ?_
    exact tB_Mo_goOverGear_80 K l v0 v1 1 w2 w3 s2 _ h
set_option maxRecDepth 100000 in
set_option maxHeartbeats 4000000 in
theorem tF_Mo_goOverGear (K : p_K) (l : Launch) (v0 : Nat) (v1 : Int) (s0 : p_Hp) (r : p_Hp) (h : F_Mo_goOverGear v0 v1 s0 = some r) : p_Ct K l m_Mo_goOverGear [p_r v0, p_i v1] s0 (none, r) := by
  refine p_Ct.of (by decide +kernel) (Nat.le_of_ble_eq_true rfl) ?_
  unfold F_Mo_goOverGear at h
  show p_Go K l m_Mo_goOverGear 0 [(0, p_r v0), (1, p_i v1)] [] s0 _
  refine g_aload_n (i := 0) (j := 0) (dk_Mo_goOverGear 0 rfl) rfl rfl ?_
  obtain ⟨c1, h⟩ := p_gdE h
  refine g_getR fl_Mo_31 (Or.inr ⟨_, rfl⟩) (dk_Mo_goOverGear 1 rfl) c1 ?_
  refine g_iload_n (i := 1) (j := 1) (dk_Mo_goOverGear 2 rfl) rfl rfl ?_
  refine g_aload_n (i := 0) (j := 0) (dk_Mo_goOverGear 3 rfl) rfl rfl ?_
  refine g_aload_n (i := 0) (j := 0) (dk_Mo_goOverGear 4 rfl) rfl rfl ?_
  refine g_getR fl_Mo_31 (Or.inr ⟨_, rfl⟩) (dk_Mo_goOverGear 5 rfl) c1 ?_
  refine g_iload_n (i := 1) (j := 1) (dk_Mo_goOverGear 6 rfl) rfl rfl ?_
  obtain ⟨c2, h⟩ := p_gdE h
  obtain ⟨c3, h⟩ := p_gdE h
  refine g_iaload (dk_Mo_goOverGear 7 rfl) c2 c3.1 c3.2 ?_
  obtain ⟨r8, s4, q5, h⟩ := p_bdE h
  have t6 := tF_Mo_both K l v0 (p_Z s0 (p_R s0 v0 10) (v1 : Int).toNat) s0 _ q5
  refine g_callV (a := v0) (ci := 11) (q0 := (RX11, TX11, 90)) (As := [p_i (p_Z s0 (p_R s0 v0 10) (v1 : Int).toNat)]) (rest := [p_i v1, p_r (p_R s0 v0 10)]) [p_i r8, p_i v1, p_r (p_R s0 v0 10)] mt_Mo_both rfl rfl tw_8_65 ts_71 tw_8_63 ⟨Nat.le_of_ble_eq_true rfl, Nat.le_of_ble_eq_true rfl⟩ rfl (Nat.le_of_ble_eq_true rfl) (dk_Mo_goOverGear 8 rfl) rfl c1 rfl t6 ?_
  have hs7 : p_x s0 s4 := t6.1
  show p_Go K l m_Mo_goOverGear 15 [(0, p_r v0), (1, p_i v1)] [p_i r8, p_i v1, p_r (p_R s0 v0 10)] s4 _
  obtain ⟨c9, h⟩ := p_gdE h
  refine g_iastore (dk_Mo_goOverGear 9 rfl) (c2.up hs7) c9.1 c9.2 ?_
  refine p_ltS (P := fun q => p_Go K l m_Mo_goOverGear 16 [(0, p_r v0), (1, p_i v1)] [] q _) (p_xZ _ _ _ _) ?_ h
  intro s10 hs11 h
  refine g_aload_n (i := 0) (j := 0) (dk_Mo_goOverGear 10 rfl) rfl rfl ?_
  refine g_getR fl_Mo_38 (Or.inr ⟨_, rfl⟩) (dk_Mo_goOverGear 11 rfl) (c1.up (hs7.trans hs11)) ?_
  refine g_iload_n (i := 1) (j := 1) (dk_Mo_goOverGear 12 rfl) rfl rfl ?_
  refine g_aload_n (i := 0) (j := 0) (dk_Mo_goOverGear 13 rfl) rfl rfl ?_
  refine g_aload_n (i := 0) (j := 0) (dk_Mo_goOverGear 14 rfl) rfl rfl ?_
  refine g_getR fl_Mo_38 (Or.inr ⟨_, rfl⟩) (dk_Mo_goOverGear 15 rfl) (c1.up (hs7.trans hs11)) ?_
  refine g_iload_n (i := 1) (j := 1) (dk_Mo_goOverGear 16 rfl) rfl rfl ?_
  obtain ⟨c12, h⟩ := p_gdE h
  obtain ⟨c13, h⟩ := p_gdE h
  refine g_iaload (dk_Mo_goOverGear 17 rfl) c12 c13.1 c13.2 ?_
  obtain ⟨r18, s14, q15, h⟩ := p_bdE h
  have t16 := tF_Mo_both K l v0 (p_Z s10 (p_R s10 v0 12) (v1 : Int).toNat) s10 _ q15
  refine g_callV (a := v0) (ci := 11) (q0 := (RX11, TX11, 90)) (As := [p_i (p_Z s10 (p_R s10 v0 12) (v1 : Int).toNat)]) (rest := [p_i v1, p_r (p_R s10 v0 12)]) [p_i r18, p_i v1, p_r (p_R s10 v0 12)] mt_Mo_both rfl rfl tw_8_65 ts_71 tw_8_63 ⟨Nat.le_of_ble_eq_true rfl, Nat.le_of_ble_eq_true rfl⟩ rfl (Nat.le_of_ble_eq_true rfl) (dk_Mo_goOverGear 18 rfl) rfl (c1.up (hs7.trans hs11)) rfl t16 ?_
  have hs17 : p_x s10 s14 := t16.1
  show p_Go K l m_Mo_goOverGear 31 [(0, p_r v0), (1, p_i v1)] [p_i r18, p_i v1, p_r (p_R s10 v0 12)] s14 _
  obtain ⟨c19, h⟩ := p_gdE h
  refine g_iastore (dk_Mo_goOverGear 19 rfl) (c12.up hs17) c19.1 c19.2 ?_
  refine p_ltS (P := fun q => p_Go K l m_Mo_goOverGear 32 [(0, p_r v0), (1, p_i v1)] [] q _) (p_xZ _ _ _ _) ?_ h
  intro s20 hs21 h
  refine g_aload_n (i := 0) (j := 0) (dk_Mo_goOverGear 20 rfl) rfl rfl ?_
  refine g_getR fl_Mo_41 (Or.inr ⟨_, rfl⟩) (dk_Mo_goOverGear 21 rfl) (c1.up (hs7.trans (hs11.trans (hs17.trans hs21)))) ?_
  refine g_iload_n (i := 1) (j := 1) (dk_Mo_goOverGear 22 rfl) rfl rfl ?_
  refine g_aload_n (i := 0) (j := 0) (dk_Mo_goOverGear 23 rfl) rfl rfl ?_
  refine g_aload_n (i := 0) (j := 0) (dk_Mo_goOverGear 24 rfl) rfl rfl ?_
  refine g_getR fl_Mo_41 (Or.inr ⟨_, rfl⟩) (dk_Mo_goOverGear 25 rfl) (c1.up (hs7.trans (hs11.trans (hs17.trans hs21)))) ?_
  refine g_iload_n (i := 1) (j := 1) (dk_Mo_goOverGear 26 rfl) rfl rfl ?_
  obtain ⟨c22, h⟩ := p_gdE h
  obtain ⟨c23, h⟩ := p_gdE h
  refine g_iaload (dk_Mo_goOverGear 27 rfl) c22 c23.1 c23.2 ?_
  obtain ⟨r28, s24, q25, h⟩ := p_bdE h
  have t26 := tF_Mo_both K l v0 (p_Z s20 (p_R s20 v0 13) (v1 : Int).toNat) s20 _ q25
  refine g_callV (a := v0) (ci := 11) (q0 := (RX11, TX11, 90)) (As := [p_i (p_Z s20 (p_R s20 v0 13) (v1 : Int).toNat)]) (rest := [p_i v1, p_r (p_R s20 v0 13)]) [p_i r28, p_i v1, p_r (p_R s20 v0 13)] mt_Mo_both rfl rfl tw_8_65 ts_71 tw_8_63 ⟨Nat.le_of_ble_eq_true rfl, Nat.le_of_ble_eq_true rfl⟩ rfl (Nat.le_of_ble_eq_true rfl) (dk_Mo_goOverGear 28 rfl) rfl (c1.up (hs7.trans (hs11.trans (hs17.trans hs21)))) rfl t26 ?_
  have hs27 : p_x s20 s24 := t26.1
  show p_Go K l m_Mo_goOverGear 47 [(0, p_r v0), (1, p_i v1)] [p_i r28, p_i v1, p_r (p_R s20 v0 13)] s24 _
  obtain ⟨c29, h⟩ := p_gdE h
  refine g_iastore (dk_Mo_goOverGear 29 rfl) (c22.up hs27) c29.1 c29.2 ?_
  refine p_ltS (P := fun q => p_Go K l m_Mo_goOverGear 48 [(0, p_r v0), (1, p_i v1)] [] q _) (p_xZ _ _ _ _) ?_ h
  intro s30 hs31 h
  refine g_aload_n (i := 0) (j := 0) (dk_Mo_goOverGear 30 rfl) rfl rfl ?_
  refine g_getR fl_Mo_44 (Or.inr ⟨_, rfl⟩) (dk_Mo_goOverGear 31 rfl) (c1.up (hs7.trans (hs11.trans (hs17.trans (hs21.trans (hs27.trans hs31)))))) ?_
  refine g_iload_n (i := 1) (j := 1) (dk_Mo_goOverGear 32 rfl) rfl rfl ?_
  refine g_aload_n (i := 0) (j := 0) (dk_Mo_goOverGear 33 rfl) rfl rfl ?_
  refine g_aload_n (i := 0) (j := 0) (dk_Mo_goOverGear 34 rfl) rfl rfl ?_
  refine g_getR fl_Mo_44 (Or.inr ⟨_, rfl⟩) (dk_Mo_goOverGear 35 rfl) (c1.up (hs7.trans (hs11.trans (hs17.trans (hs21.trans (hs27.trans hs31)))))) ?_
  refine g_iload_n (i := 1) (j := 1) (dk_Mo_goOverGear 36 rfl) rfl rfl ?_
  obtain ⟨c32, h⟩ := p_gdE h
  obtain ⟨c33, h⟩ := p_gdE h
  refine g_baload (dk_Mo_goOverGear 37 rfl) c32 c33.1 c33.2 ?_
  refine g_if_eq 67 (dk_Mo_goOverGear 38 rfl) (by decide) (fun b34 => ?_) (fun b34 => ?_)
  · have h := p_ifT b34 h
    refine g_iconst (dk_Mo_goOverGear 41 rfl) (by decide) ?_
    exact tB_Mo_goOverGear_68 K l v0 v1 0 v0 v1 (p_R s30 v0 14) s30 _ h
  · have h := p_ifF b34 h
    refine g_iconst (dk_Mo_goOverGear 39 rfl) (by decide) ?_
    refine g_goto 68 (dk_Mo_goOverGear 40 rfl) (by decide) ?_
    exact tB_Mo_goOverGear_68 K l v0 v1 1 v0 v1 (p_R s30 v0 14) s30 _ h
def m_Mo_goOverParcels : p_Me := (⟨"SortWorksModel", "goOverParcels", "()V"⟩, prog_13_method_92_code, 4, none, 1, 22)
theorem mt_Mo_goOverParcels : p_Mt m_Mo_goOverParcels 0 := ⟨p_mem (p_tb8 (List.mem_of_getElem? (i := 74) rfl)) rfl, tw_1_12, by decide +kernel, by decide +kernel, by decide +kernel⟩
def dt_Mo_goOverParcels : List (Nat × Instr × Nat) := [(0, .sipush 320, 3), (3, .aload_n 0, 1), (4, .getfield 227, 3), (7, .imul, 1), (8, .istore_n 1, 1), (9, .iload_n 1, 1), (10, .sipush 320, 3), (13, .aload_n 0, 1), (14, .getfield 227, 3), (17, .imul, 1), (18, .bipush 8, 2), (20, .aload_n 0, 1), (21, .getfield 7, 3), (24, .aload_n 0, 1), (25, .getfield 227, 3), (28, .iaload, 1), (29, .imul, 1), (30, .iadd, 1), (31, .if_icmp .ge 216, 3), (34, .aload_n 0, 1), (35, .getfield 69, 3), (38, .iload_n 1, 1), (39, .iaload, 1), (40, .istore_n 2, 1), (41, .iload_n 2, 1), (42, .ifCond .le 199, 3), (45, .aload_n 0, 1), (46, .getfield 75, 3), (49, .iload_n 2, 1), (50, .iconst 1, 1), (51, .iastore, 1), (52, .aload_n 0, 1), (53, .getfield 78, 3), (56, .iload_n 2, 1), (57, .aload_n 0, 1), (58, .aload_n 0, 1), (59, .getfield 78, 3), (62, .iload_n 2, 1), (63, .iaload, 1), (64, .invokevirtual 506, 3), (67, .iastore, 1), (68, .aload_n 0, 1), (69, .getfield 81, 3), (72, .iload_n 2, 1), (73, .aload_n 0, 1), (74, .aload_n 0, 1), (75, .getfield 81, 3), (78, .iload_n 2, 1), (79, .iaload, 1), (80, .invokevirtual 506, 3), (83, .iastore, 1), (84, .aload_n 0, 1), (85, .getfield 90, 3), (88, .iload_n 2, 1), (89, .aload_n 0, 1), (90, .aload_n 0, 1), (91, .getfield 90, 3), (94, .iload_n 2, 1), (95, .iaload, 1), (96, .invokevirtual 506, 3), (99, .iastore, 1), (100, .aload_n 0, 1), (101, .getfield 93, 3), (104, .iload_n 2, 1), (105, .aload_n 0, 1), (106, .aload_n 0, 1), (107, .getfield 93, 3), (110, .iload_n 2, 1), (111, .iaload, 1), (112, .invokevirtual 506, 3), (115, .iastore, 1), (116, .aload_n 0, 1), (117, .getfield 99, 3), (120, .iload_n 2, 1), (121, .aload_n 0, 1), (122, .aload_n 0, 1), (123, .getfield 99, 3), (126, .iload_n 2, 1), (127, .iaload, 1), (128, .invokevirtual 506, 3), (131, .iastore, 1), (132, .aload_n 0, 1), (133, .getfield 105, 3), (136, .iload_n 2, 1), (137, .aload_n 0, 1), (138, .aload_n 0, 1), (139, .getfield 105, 3), (142, .iload_n 2, 1), (143, .baload, 1), (144, .ifCond .eq 7, 3), (147, .iconst 1, 1), (148, .goto 4, 3), (151, .iconst 0, 1), (152, .invokevirtual 506, 3), (155, .iconst 1, 1), (156, .if_icmp .ne 7, 3), (159, .iconst 1, 1), (160, .goto 4, 3), (163, .iconst 0, 1), (164, .bastore, 1), (165, .bipush 12, 2), (167, .iload_n 2, 1), (168, .imul, 1), (169, .istore_n 3, 1), (170, .iload_n 3, 1), (171, .bipush 12, 2), (173, .iload_n 2, 1), (174, .imul, 1), (175, .bipush 12, 2), (177, .iadd, 1), (178, .if_icmp .ge 25, 3), (181, .aload_n 0, 1), (182, .getfield 96, 3), (185, .iload_n 3, 1), (186, .aload_n 0, 1), (187, .aload_n 0, 1), (188, .getfield 96, 3), (191, .iload_n 3, 1), (192, .iaload, 1), (193, .invokevirtual 506, 3), (196, .iastore, 1), (197, .iinc 3 1, 3), (200, .goto (-30), 3), (203, .bipush 16, 2), (205, .iload_n 2, 1), (206, .imul, 1), (207, .istore_n 3, 1), (208, .iload_n 3, 1), (209, .bipush 16, 2), (211, .iload_n 2, 1), (212, .imul, 1), (213, .bipush 16, 2), (215, .iadd, 1), (216, .if_icmp .ge 25, 3), (219, .aload_n 0, 1), (220, .getfield 102, 3), (223, .iload_n 3, 1), (224, .aload_n 0, 1), (225, .aload_n 0, 1), (226, .getfield 102, 3), (229, .iload_n 3, 1), (230, .iaload, 1), (231, .invokevirtual 506, 3), (234, .iastore, 1), (235, .iinc 3 1, 3), (238, .goto (-30), 3), (241, .iinc 1 1, 3), (244, .goto (-235), 3), (247, .return_, 1)]
theorem dk_Mo_goOverParcels (i : Nat) {pc : Nat} {ins : Instr} {len : Nat} (h : dt_Mo_goOverParcels[i]? = some (pc, ins, len)) : decode m_Mo_goOverParcels.2.1 pc = .ok (ins, len) := p_dk (b := m_Mo_goOverParcels.2.1) (t := dt_Mo_goOverParcels) (by decide +kernel) i h
def B_Mo_goOverParcels_241 (k9 : Nat → Int → p_Hp → Option p_Hp) (v0 : Nat) (v1 : Int) (s0 : p_Hp) : Option p_Hp :=
  p_bi (p_w (v1 + 1)) fun x1 =>
  k9 v0 x1 s0
def L_Mo_goOverParcels_208 (k9 : Nat → Int → p_Hp → Option p_Hp) (k208 : Nat → Int → Int → Int → p_Hp → Option p_Hp) (v0 : Nat) (v1 : Int) (v2 : Int) (v3 : Int) (s0 : p_Hp) : Option p_Hp :=
  if (p_w ((p_w (16 * v2)) + 16)) ≤ v3 then
    B_Mo_goOverParcels_241 k9 v0 v1 s0
  else
    p_gd (p_is s0 v0 11) <|
    p_gd (p_is s0 (p_R s0 v0 34) 100) <|
    p_gd ((0 : Int) ≤ v3 ∧ v3 < (p_L s0 (p_R s0 v0 34) : Int)) <|
    p_bd (F_Mo_both v0 (p_Z s0 (p_R s0 v0 34) (v3 : Int).toNat) s0) fun r9 s5 =>
    p_gd ((0 : Int) ≤ v3 ∧ v3 < (p_L s5 (p_R s0 v0 34) : Int)) <|
    p_bi (p_wZ s5 (p_R s0 v0 34) (v3 : Int).toNat r9) fun s11 =>
    p_bi (p_w (v3 + 1)) fun x13 =>
    k208 v0 v1 v2 x13 s11
def O_Mo_goOverParcels_208 (k9 : Nat → Int → p_Hp → Option p_Hp) : Nat → Nat → Int → Int → Int → p_Hp → Option p_Hp
  | 0 => fun _ _ _ _ _ => none
  | n + 1 => L_Mo_goOverParcels_208 k9 (O_Mo_goOverParcels_208 k9 n)
def L_Mo_goOverParcels_170 (k9 : Nat → Int → p_Hp → Option p_Hp) (k170 : Nat → Int → Int → Int → p_Hp → Option p_Hp) (v0 : Nat) (v1 : Int) (v2 : Int) (v3 : Int) (s0 : p_Hp) : Option p_Hp :=
  if (p_w ((p_w (12 * v2)) + 12)) ≤ v3 then
    p_bi ((p_w (16 * v2))) fun x2 =>
    O_Mo_goOverParcels_208 k9 3000 v0 v1 v2 x2 s0
  else
    p_gd (p_is s0 v0 11) <|
    p_gd (p_is s0 (p_R s0 v0 32) 100) <|
    p_gd ((0 : Int) ≤ v3 ∧ v3 < (p_L s0 (p_R s0 v0 32) : Int)) <|
    p_bd (F_Mo_both v0 (p_Z s0 (p_R s0 v0 32) (v3 : Int).toNat) s0) fun r10 s6 =>
    p_gd ((0 : Int) ≤ v3 ∧ v3 < (p_L s6 (p_R s0 v0 32) : Int)) <|
    p_bi (p_wZ s6 (p_R s0 v0 32) (v3 : Int).toNat r10) fun s12 =>
    p_bi (p_w (v3 + 1)) fun x14 =>
    k170 v0 v1 v2 x14 s12
def O_Mo_goOverParcels_170 (k9 : Nat → Int → p_Hp → Option p_Hp) : Nat → Nat → Int → Int → Int → p_Hp → Option p_Hp
  | 0 => fun _ _ _ _ _ => none
  | n + 1 => L_Mo_goOverParcels_170 k9 (O_Mo_goOverParcels_170 k9 n)
def B_Mo_goOverParcels_164 (k9 : Nat → Int → p_Hp → Option p_Hp) (v0 : Nat) (v1 : Int) (v2 : Int) (w0 : Int) (w1 : Int) (w2 : Nat) (s0 : p_Hp) : Option p_Hp :=
  p_gd (p_is s0 w2 102) <|
  p_gd ((0 : Int) ≤ w1 ∧ w1 < (p_L s0 w2 : Int)) <|
  p_gd (w0 = 0 ∨ w0 = 1) <|
  p_bi (p_wZ s0 w2 (w1 : Int).toNat w0) fun s4 =>
  p_bi ((p_w (12 * v2))) fun x6 =>
  O_Mo_goOverParcels_170 k9 3000 v0 v1 v2 x6 s4
def B_Mo_goOverParcels_152 (k9 : Nat → Int → p_Hp → Option p_Hp) (v0 : Nat) (v1 : Int) (v2 : Int) (w0 : Int) (w1 : Nat) (w2 : Int) (w3 : Nat) (s0 : p_Hp) : Option p_Hp :=
  p_gd (p_is s0 w1 11) <|
  p_bd (F_Mo_both w1 w0 s0) fun r6 s2 =>
  if r6 ≠ 1 then
    B_Mo_goOverParcels_164 k9 v0 v1 v2 0 w2 w3 s2
  else
    B_Mo_goOverParcels_164 k9 v0 v1 v2 1 w2 w3 s2
def L_Mo_goOverParcels_9 (k9 : Nat → Int → p_Hp → Option p_Hp) (v0 : Nat) (v1 : Int) (s0 : p_Hp) : Option p_Hp :=
  p_gd (p_is s0 v0 11) <|
  p_gd (p_is s0 (p_R s0 v0 3) 100) <|
  p_gd ((0 : Int) ≤ (p_Z s0 v0 0) ∧ (p_Z s0 v0 0) < (p_L s0 (p_R s0 v0 3) : Int)) <|
  if (p_w ((p_w (320 * (p_Z s0 v0 0))) + (p_w (8 * (p_Z s0 (p_R s0 v0 3) ((p_Z s0 v0 0) : Int).toNat))))) ≤ v1 then
    some s0
  else
    p_gd (p_is s0 (p_R s0 v0 22) 100) <|
    p_gd ((0 : Int) ≤ v1 ∧ v1 < (p_L s0 (p_R s0 v0 22) : Int)) <|
    p_bi ((p_Z s0 (p_R s0 v0 22) (v1 : Int).toNat)) fun x7 =>
    if x7 ≤ 0 then
      B_Mo_goOverParcels_241 k9 v0 v1 s0
    else
      p_gd (p_is s0 (p_R s0 v0 25) 100) <|
      p_gd ((0 : Int) ≤ x7 ∧ x7 < (p_L s0 (p_R s0 v0 25) : Int)) <|
      p_bi (p_wZ s0 (p_R s0 v0 25) (x7 : Int).toNat 1) fun s11 =>
      p_gd (p_is s11 (p_R s11 v0 26) 100) <|
      p_gd ((0 : Int) ≤ x7 ∧ x7 < (p_L s11 (p_R s11 v0 26) : Int)) <|
      p_bd (F_Mo_both v0 (p_Z s11 (p_R s11 v0 26) (x7 : Int).toNat) s11) fun r19 s15 =>
      p_gd ((0 : Int) ≤ x7 ∧ x7 < (p_L s15 (p_R s11 v0 26) : Int)) <|
      p_bi (p_wZ s15 (p_R s11 v0 26) (x7 : Int).toNat r19) fun s21 =>
      p_gd (p_is s21 (p_R s21 v0 27) 100) <|
      p_gd ((0 : Int) ≤ x7 ∧ x7 < (p_L s21 (p_R s21 v0 27) : Int)) <|
      p_bd (F_Mo_both v0 (p_Z s21 (p_R s21 v0 27) (x7 : Int).toNat) s21) fun r29 s25 =>
      p_gd ((0 : Int) ≤ x7 ∧ x7 < (p_L s25 (p_R s21 v0 27) : Int)) <|
      p_bi (p_wZ s25 (p_R s21 v0 27) (x7 : Int).toNat r29) fun s31 =>
      p_gd (p_is s31 (p_R s31 v0 30) 100) <|
      p_gd ((0 : Int) ≤ x7 ∧ x7 < (p_L s31 (p_R s31 v0 30) : Int)) <|
      p_bd (F_Mo_both v0 (p_Z s31 (p_R s31 v0 30) (x7 : Int).toNat) s31) fun r39 s35 =>
      p_gd ((0 : Int) ≤ x7 ∧ x7 < (p_L s35 (p_R s31 v0 30) : Int)) <|
      p_bi (p_wZ s35 (p_R s31 v0 30) (x7 : Int).toNat r39) fun s41 =>
      p_gd (p_is s41 (p_R s41 v0 31) 100) <|
      p_gd ((0 : Int) ≤ x7 ∧ x7 < (p_L s41 (p_R s41 v0 31) : Int)) <|
      p_bd (F_Mo_both v0 (p_Z s41 (p_R s41 v0 31) (x7 : Int).toNat) s41) fun r49 s45 =>
      p_gd ((0 : Int) ≤ x7 ∧ x7 < (p_L s45 (p_R s41 v0 31) : Int)) <|
      p_bi (p_wZ s45 (p_R s41 v0 31) (x7 : Int).toNat r49) fun s51 =>
      p_gd (p_is s51 (p_R s51 v0 33) 100) <|
      p_gd ((0 : Int) ≤ x7 ∧ x7 < (p_L s51 (p_R s51 v0 33) : Int)) <|
      p_bd (F_Mo_both v0 (p_Z s51 (p_R s51 v0 33) (x7 : Int).toNat) s51) fun r59 s55 =>
      p_gd ((0 : Int) ≤ x7 ∧ x7 < (p_L s55 (p_R s51 v0 33) : Int)) <|
      p_bi (p_wZ s55 (p_R s51 v0 33) (x7 : Int).toNat r59) fun s61 =>
      p_gd (p_is s61 (p_R s61 v0 35) 102) <|
      p_gd ((0 : Int) ≤ x7 ∧ x7 < (p_L s61 (p_R s61 v0 35) : Int)) <|
      if (p_Z s61 (p_R s61 v0 35) (x7 : Int).toNat) = 0 then
        B_Mo_goOverParcels_152 k9 v0 v1 x7 0 v0 x7 (p_R s61 v0 35) s61
      else
        B_Mo_goOverParcels_152 k9 v0 v1 x7 1 v0 x7 (p_R s61 v0 35) s61
def O_Mo_goOverParcels_9  : Nat → Nat → Int → p_Hp → Option p_Hp
  | 0 => fun _ _ _ => none
  | n + 1 => L_Mo_goOverParcels_9 (O_Mo_goOverParcels_9 n)
def F_Mo_goOverParcels (v0 : Nat) (s0 : p_Hp) : Option p_Hp :=
  p_gd (p_is s0 v0 11) <|
  p_bi ((p_w (320 * (p_Z s0 v0 0)))) fun x2 =>
  O_Mo_goOverParcels_9 3000 v0 x2 s0
set_option maxRecDepth 100000 in
set_option maxHeartbeats 4000000 in
theorem tB_Mo_goOverParcels_241 (K : p_K) (l : Launch) (k9 : Nat → Int → p_Hp → Option p_Hp) (hk9 : ∀ (v0 : Nat) (v1 : Int)  (s0 : p_Hp) (r : p_Hp), k9 v0 v1 s0 = some r → p_Go K l m_Mo_goOverParcels 9 [(0, p_r v0), (1, p_i v1)] [] s0 (none, r)) (v0 : Nat) (v1 : Int) (s0 : p_Hp) (r : p_Hp) (h : B_Mo_goOverParcels_241 k9 v0 v1 s0 = some r) : p_Go K l m_Mo_goOverParcels 241 [(0, p_r v0), (1, p_i v1)] [] s0 (none, r) := by
  unfold B_Mo_goOverParcels_241 at h
  refine g_iinc (j := 1) [(1, p_i (p_w (v1 + 1))), (0, p_r v0)] (dk_Mo_goOverParcels 146 rfl) rfl (by decide) rfl ?_
  refine p_ltG (P := fun q => p_Go K l m_Mo_goOverParcels 244 [(1, p_i q), (0, p_r v0)] [] s0 _) ?_ h
  intro x1 h
  refine g_goto 9 (dk_Mo_goOverParcels 147 rfl) (by decide) ?_
  refine g_sub [(0, p_r v0), (1, p_i x1)] [1, 0] rfl ?_
  exact hk9 v0 x1 s0 _ h
set_option maxRecDepth 100000 in
set_option maxHeartbeats 4000000 in
theorem tL_Mo_goOverParcels_208 (K : p_K) (l : Launch) (k9 : Nat → Int → p_Hp → Option p_Hp) (hk9 : ∀ (v0 : Nat) (v1 : Int)  (s0 : p_Hp) (r : p_Hp), k9 v0 v1 s0 = some r → p_Go K l m_Mo_goOverParcels 9 [(0, p_r v0), (1, p_i v1)] [] s0 (none, r)) (k208 : Nat → Int → Int → Int → p_Hp → Option p_Hp) (hk208 : ∀ (v0 : Nat) (v1 : Int) (v2 : Int) (v3 : Int)  (s0 : p_Hp) (r : p_Hp), k208 v0 v1 v2 v3 s0 = some r → p_Go K l m_Mo_goOverParcels 208 [(0, p_r v0), (1, p_i v1), (2, p_i v2), (3, p_i v3)] [] s0 (none, r)) (v0 : Nat) (v1 : Int) (v2 : Int) (v3 : Int) (s0 : p_Hp) (r : p_Hp) (h : L_Mo_goOverParcels_208 k9 k208 v0 v1 v2 v3 s0 = some r) : p_Go K l m_Mo_goOverParcels 208 [(0, p_r v0), (1, p_i v1), (2, p_i v2), (3, p_i v3)] [] s0 (none, r) := by
  unfold L_Mo_goOverParcels_208 at h
  refine g_iload_n (i := 3) (j := 3) (dk_Mo_goOverParcels 127 rfl) rfl rfl ?_
  refine g_bipush (dk_Mo_goOverParcels 128 rfl) (by decide +kernel) (by decide) ?_
  refine g_iload_n (i := 2) (j := 2) (dk_Mo_goOverParcels 129 rfl) rfl rfl ?_
  refine g_imul (dk_Mo_goOverParcels 130 rfl) ?_
  refine g_bipush (dk_Mo_goOverParcels 131 rfl) (by decide +kernel) (by decide) ?_
  refine g_iadd (dk_Mo_goOverParcels 132 rfl) ?_
  refine g_icmp_ge 241 (dk_Mo_goOverParcels 133 rfl) (by decide) (fun b1 => ?_) (fun b1 => ?_)
  · have h := p_ifT b1 h
    refine g_sub [(0, p_r v0), (1, p_i v1)] [0, 1] rfl ?_
    exact tB_Mo_goOverParcels_241 K l k9 hk9 v0 v1 s0 _ h
  · have h := p_ifF b1 h
    refine g_aload_n (i := 0) (j := 0) (dk_Mo_goOverParcels 134 rfl) rfl rfl ?_
    obtain ⟨c2, h⟩ := p_gdE h
    refine g_getR fl_Mo_102 (Or.inr ⟨_, rfl⟩) (dk_Mo_goOverParcels 135 rfl) c2 ?_
    refine g_iload_n (i := 3) (j := 3) (dk_Mo_goOverParcels 136 rfl) rfl rfl ?_
    refine g_aload_n (i := 0) (j := 0) (dk_Mo_goOverParcels 137 rfl) rfl rfl ?_
    refine g_aload_n (i := 0) (j := 0) (dk_Mo_goOverParcels 138 rfl) rfl rfl ?_
    refine g_getR fl_Mo_102 (Or.inr ⟨_, rfl⟩) (dk_Mo_goOverParcels 139 rfl) c2 ?_
    refine g_iload_n (i := 3) (j := 3) (dk_Mo_goOverParcels 140 rfl) rfl rfl ?_
    obtain ⟨c3, h⟩ := p_gdE h
    obtain ⟨c4, h⟩ := p_gdE h
    refine g_iaload (dk_Mo_goOverParcels 141 rfl) c3 c4.1 c4.2 ?_
    obtain ⟨r9, s5, q6, h⟩ := p_bdE h
    have t7 := tF_Mo_both K l v0 (p_Z s0 (p_R s0 v0 34) (v3 : Int).toNat) s0 _ q6
    refine g_callV (a := v0) (ci := 11) (q0 := (RX11, TX11, 90)) (As := [p_i (p_Z s0 (p_R s0 v0 34) (v3 : Int).toNat)]) (rest := [p_i v3, p_r (p_R s0 v0 34)]) [p_i r9, p_i v3, p_r (p_R s0 v0 34)] mt_Mo_both rfl rfl tw_8_65 ts_71 tw_8_63 ⟨Nat.le_of_ble_eq_true rfl, Nat.le_of_ble_eq_true rfl⟩ rfl (Nat.le_of_ble_eq_true rfl) (dk_Mo_goOverParcels 142 rfl) rfl c2 rfl t7 ?_
    have hs8 : p_x s0 s5 := t7.1
    show p_Go K l m_Mo_goOverParcels 234 [(0, p_r v0), (1, p_i v1), (2, p_i v2), (3, p_i v3)] [p_i r9, p_i v3, p_r (p_R s0 v0 34)] s5 _
    obtain ⟨c10, h⟩ := p_gdE h
    refine g_iastore (dk_Mo_goOverParcels 143 rfl) (c3.up hs8) c10.1 c10.2 ?_
    refine p_ltS (P := fun q => p_Go K l m_Mo_goOverParcels 235 [(0, p_r v0), (1, p_i v1), (2, p_i v2), (3, p_i v3)] [] q _) (p_xZ _ _ _ _) ?_ h
    intro s11 hs12 h
    refine g_iinc (j := 3) [(3, p_i (p_w (v3 + 1))), (0, p_r v0), (1, p_i v1), (2, p_i v2)] (dk_Mo_goOverParcels 144 rfl) rfl (by decide) rfl ?_
    refine p_ltG (P := fun q => p_Go K l m_Mo_goOverParcels 238 [(3, p_i q), (0, p_r v0), (1, p_i v1), (2, p_i v2)] [] s11 _) ?_ h
    intro x13 h
    refine g_goto 208 (dk_Mo_goOverParcels 145 rfl) (by decide) ?_
    refine g_sub [(0, p_r v0), (1, p_i v1), (2, p_i v2), (3, p_i x13)] [1, 2, 3, 0] rfl ?_
    exact hk208 v0 v1 v2 x13 s11 _ h
set_option maxRecDepth 100000 in
set_option maxHeartbeats 4000000 in
theorem tO_Mo_goOverParcels_208 (K : p_K) (l : Launch) (k9 : Nat → Int → p_Hp → Option p_Hp) (hk9 : ∀ (v0 : Nat) (v1 : Int)  (s0 : p_Hp) (r : p_Hp), k9 v0 v1 s0 = some r → p_Go K l m_Mo_goOverParcels 9 [(0, p_r v0), (1, p_i v1)] [] s0 (none, r)) : ∀ (n : Nat) (v0 : Nat) (v1 : Int) (v2 : Int) (v3 : Int) (s0 : p_Hp) (r : p_Hp), O_Mo_goOverParcels_208 k9 n v0 v1 v2 v3 s0 = some r → p_Go K l m_Mo_goOverParcels 208 [(0, p_r v0), (1, p_i v1), (2, p_i v2), (3, p_i v3)] [] s0 (none, r) := by
  intro n
  induction n with
  | zero => intro v0 v1 v2 v3 s0 r h; cases (show (none : Option p_Hp) = some r from h)
  | succ n ih => intro v0 v1 v2 v3 s0 r h; exact tL_Mo_goOverParcels_208 K l k9 hk9 _ ih v0 v1 v2 v3 s0 r h
set_option maxRecDepth 100000 in
set_option maxHeartbeats 4000000 in
theorem tL_Mo_goOverParcels_170 (K : p_K) (l : Launch) (k9 : Nat → Int → p_Hp → Option p_Hp) (hk9 : ∀ (v0 : Nat) (v1 : Int)  (s0 : p_Hp) (r : p_Hp), k9 v0 v1 s0 = some r → p_Go K l m_Mo_goOverParcels 9 [(0, p_r v0), (1, p_i v1)] [] s0 (none, r)) (k170 : Nat → Int → Int → Int → p_Hp → Option p_Hp) (hk170 : ∀ (v0 : Nat) (v1 : Int) (v2 : Int) (v3 : Int)  (s0 : p_Hp) (r : p_Hp), k170 v0 v1 v2 v3 s0 = some r → p_Go K l m_Mo_goOverParcels 170 [(0, p_r v0), (1, p_i v1), (2, p_i v2), (3, p_i v3)] [] s0 (none, r)) (v0 : Nat) (v1 : Int) (v2 : Int) (v3 : Int) (s0 : p_Hp) (r : p_Hp) (h : L_Mo_goOverParcels_170 k9 k170 v0 v1 v2 v3 s0 = some r) : p_Go K l m_Mo_goOverParcels 170 [(0, p_r v0), (1, p_i v1), (2, p_i v2), (3, p_i v3)] [] s0 (none, r) := by
  unfold L_Mo_goOverParcels_170 at h
  refine g_iload_n (i := 3) (j := 3) (dk_Mo_goOverParcels 104 rfl) rfl rfl ?_
  refine g_bipush (dk_Mo_goOverParcels 105 rfl) (by decide +kernel) (by decide) ?_
  refine g_iload_n (i := 2) (j := 2) (dk_Mo_goOverParcels 106 rfl) rfl rfl ?_
  refine g_imul (dk_Mo_goOverParcels 107 rfl) ?_
  refine g_bipush (dk_Mo_goOverParcels 108 rfl) (by decide +kernel) (by decide) ?_
  refine g_iadd (dk_Mo_goOverParcels 109 rfl) ?_
  refine g_icmp_ge 203 (dk_Mo_goOverParcels 110 rfl) (by decide) (fun b1 => ?_) (fun b1 => ?_)
  · have h := p_ifT b1 h
    refine g_bipush (dk_Mo_goOverParcels 123 rfl) (by decide +kernel) (by decide) ?_
    refine g_iload_n (i := 2) (j := 2) (dk_Mo_goOverParcels 124 rfl) rfl rfl ?_
    refine g_imul (dk_Mo_goOverParcels 125 rfl) ?_
    refine g_istore_n (i := 3) [(3, p_i (p_w (16 * v2))), (0, p_r v0), (1, p_i v1), (2, p_i v2)] (dk_Mo_goOverParcels 126 rfl) rfl (by decide) rfl ?_
    refine p_ltG (P := fun q => p_Go K l m_Mo_goOverParcels 208 [(3, p_i q), (0, p_r v0), (1, p_i v1), (2, p_i v2)] [] s0 _) ?_ h
    intro x2 h
    refine g_sub [(0, p_r v0), (1, p_i v1), (2, p_i v2), (3, p_i x2)] [1, 2, 3, 0] rfl ?_
    exact tO_Mo_goOverParcels_208 K l k9 hk9 3000 v0 v1 v2 x2 s0 _ h
  · have h := p_ifF b1 h
    refine g_aload_n (i := 0) (j := 0) (dk_Mo_goOverParcels 111 rfl) rfl rfl ?_
    obtain ⟨c3, h⟩ := p_gdE h
    refine g_getR fl_Mo_96 (Or.inr ⟨_, rfl⟩) (dk_Mo_goOverParcels 112 rfl) c3 ?_
    refine g_iload_n (i := 3) (j := 3) (dk_Mo_goOverParcels 113 rfl) rfl rfl ?_
    refine g_aload_n (i := 0) (j := 0) (dk_Mo_goOverParcels 114 rfl) rfl rfl ?_
    refine g_aload_n (i := 0) (j := 0) (dk_Mo_goOverParcels 115 rfl) rfl rfl ?_
    refine g_getR fl_Mo_96 (Or.inr ⟨_, rfl⟩) (dk_Mo_goOverParcels 116 rfl) c3 ?_
    refine g_iload_n (i := 3) (j := 3) (dk_Mo_goOverParcels 117 rfl) rfl rfl ?_
    obtain ⟨c4, h⟩ := p_gdE h
    obtain ⟨c5, h⟩ := p_gdE h
    refine g_iaload (dk_Mo_goOverParcels 118 rfl) c4 c5.1 c5.2 ?_
    obtain ⟨r10, s6, q7, h⟩ := p_bdE h
    have t8 := tF_Mo_both K l v0 (p_Z s0 (p_R s0 v0 32) (v3 : Int).toNat) s0 _ q7
    refine g_callV (a := v0) (ci := 11) (q0 := (RX11, TX11, 90)) (As := [p_i (p_Z s0 (p_R s0 v0 32) (v3 : Int).toNat)]) (rest := [p_i v3, p_r (p_R s0 v0 32)]) [p_i r10, p_i v3, p_r (p_R s0 v0 32)] mt_Mo_both rfl rfl tw_8_65 ts_71 tw_8_63 ⟨Nat.le_of_ble_eq_true rfl, Nat.le_of_ble_eq_true rfl⟩ rfl (Nat.le_of_ble_eq_true rfl) (dk_Mo_goOverParcels 119 rfl) rfl c3 rfl t8 ?_
    have hs9 : p_x s0 s6 := t8.1
    show p_Go K l m_Mo_goOverParcels 196 [(0, p_r v0), (1, p_i v1), (2, p_i v2), (3, p_i v3)] [p_i r10, p_i v3, p_r (p_R s0 v0 32)] s6 _
    obtain ⟨c11, h⟩ := p_gdE h
    refine g_iastore (dk_Mo_goOverParcels 120 rfl) (c4.up hs9) c11.1 c11.2 ?_
    refine p_ltS (P := fun q => p_Go K l m_Mo_goOverParcels 197 [(0, p_r v0), (1, p_i v1), (2, p_i v2), (3, p_i v3)] [] q _) (p_xZ _ _ _ _) ?_ h
    intro s12 hs13 h
    refine g_iinc (j := 3) [(3, p_i (p_w (v3 + 1))), (0, p_r v0), (1, p_i v1), (2, p_i v2)] (dk_Mo_goOverParcels 121 rfl) rfl (by decide) rfl ?_
    refine p_ltG (P := fun q => p_Go K l m_Mo_goOverParcels 200 [(3, p_i q), (0, p_r v0), (1, p_i v1), (2, p_i v2)] [] s12 _) ?_ h
    intro x14 h
    refine g_goto 170 (dk_Mo_goOverParcels 122 rfl) (by decide) ?_
    refine g_sub [(0, p_r v0), (1, p_i v1), (2, p_i v2), (3, p_i x14)] [1, 2, 3, 0] rfl ?_
    exact hk170 v0 v1 v2 x14 s12 _ h
set_option maxRecDepth 100000 in
set_option maxHeartbeats 4000000 in
theorem tO_Mo_goOverParcels_170 (K : p_K) (l : Launch) (k9 : Nat → Int → p_Hp → Option p_Hp) (hk9 : ∀ (v0 : Nat) (v1 : Int)  (s0 : p_Hp) (r : p_Hp), k9 v0 v1 s0 = some r → p_Go K l m_Mo_goOverParcels 9 [(0, p_r v0), (1, p_i v1)] [] s0 (none, r)) : ∀ (n : Nat) (v0 : Nat) (v1 : Int) (v2 : Int) (v3 : Int) (s0 : p_Hp) (r : p_Hp), O_Mo_goOverParcels_170 k9 n v0 v1 v2 v3 s0 = some r → p_Go K l m_Mo_goOverParcels 170 [(0, p_r v0), (1, p_i v1), (2, p_i v2), (3, p_i v3)] [] s0 (none, r) := by
  intro n
  induction n with
  | zero => intro v0 v1 v2 v3 s0 r h; cases (show (none : Option p_Hp) = some r from h)
  | succ n ih => intro v0 v1 v2 v3 s0 r h; exact tL_Mo_goOverParcels_170 K l k9 hk9 _ ih v0 v1 v2 v3 s0 r h
set_option maxRecDepth 100000 in
set_option maxHeartbeats 4000000 in
theorem tB_Mo_goOverParcels_164 (K : p_K) (l : Launch) (k9 : Nat → Int → p_Hp → Option p_Hp) (hk9 : ∀ (v0 : Nat) (v1 : Int)  (s0 : p_Hp) (r : p_Hp), k9 v0 v1 s0 = some r → p_Go K l m_Mo_goOverParcels 9 [(0, p_r v0), (1, p_i v1)] [] s0 (none, r)) (v0 : Nat) (v1 : Int) (v2 : Int) (w0 : Int) (w1 : Int) (w2 : Nat) (s0 : p_Hp) (r : p_Hp) (h : B_Mo_goOverParcels_164 k9 v0 v1 v2 w0 w1 w2 s0 = some r) : p_Go K l m_Mo_goOverParcels 164 [(0, p_r v0), (1, p_i v1), (2, p_i v2)] [p_i w0, p_i w1, p_r w2] s0 (none, r) := by
  unfold B_Mo_goOverParcels_164 at h
  obtain ⟨c1, h⟩ := p_gdE h
  obtain ⟨c2, h⟩ := p_gdE h
  obtain ⟨c3, h⟩ := p_gdE h
  refine g_bastore (dk_Mo_goOverParcels 99 rfl) c1 c2.1 c2.2 c3 ?_
  refine p_ltS (P := fun q => p_Go K l m_Mo_goOverParcels 165 [(0, p_r v0), (1, p_i v1), (2, p_i v2)] [] q _) (p_xZ _ _ _ _) ?_ h
  intro s4 hs5 h
  refine g_bipush (dk_Mo_goOverParcels 100 rfl) (by decide +kernel) (by decide) ?_
  refine g_iload_n (i := 2) (j := 2) (dk_Mo_goOverParcels 101 rfl) rfl rfl ?_
  refine g_imul (dk_Mo_goOverParcels 102 rfl) ?_
  refine g_istore_n (i := 3) [(3, p_i (p_w (12 * v2))), (0, p_r v0), (1, p_i v1), (2, p_i v2)] (dk_Mo_goOverParcels 103 rfl) rfl (by decide) rfl ?_
  refine p_ltG (P := fun q => p_Go K l m_Mo_goOverParcels 170 [(3, p_i q), (0, p_r v0), (1, p_i v1), (2, p_i v2)] [] s4 _) ?_ h
  intro x6 h
  refine g_sub [(0, p_r v0), (1, p_i v1), (2, p_i v2), (3, p_i x6)] [1, 2, 3, 0] rfl ?_
  exact tO_Mo_goOverParcels_170 K l k9 hk9 3000 v0 v1 v2 x6 s4 _ h
set_option maxRecDepth 100000 in
set_option maxHeartbeats 4000000 in
theorem tB_Mo_goOverParcels_152 (K : p_K) (l : Launch) (k9 : Nat → Int → p_Hp → Option p_Hp) (hk9 : ∀ (v0 : Nat) (v1 : Int)  (s0 : p_Hp) (r : p_Hp), k9 v0 v1 s0 = some r → p_Go K l m_Mo_goOverParcels 9 [(0, p_r v0), (1, p_i v1)] [] s0 (none, r)) (v0 : Nat) (v1 : Int) (v2 : Int) (w0 : Int) (w1 : Nat) (w2 : Int) (w3 : Nat) (s0 : p_Hp) (r : p_Hp) (h : B_Mo_goOverParcels_152 k9 v0 v1 v2 w0 w1 w2 w3 s0 = some r) : p_Go K l m_Mo_goOverParcels 152 [(0, p_r v0), (1, p_i v1), (2, p_i v2)] [p_i w0, p_r w1, p_i w2, p_r w3] s0 (none, r) := by
  unfold B_Mo_goOverParcels_152 at h
  obtain ⟨c1, h⟩ := p_gdE h
  obtain ⟨r6, s2, q3, h⟩ := p_bdE h
  have t4 := tF_Mo_both K l w1 w0 s0 _ q3
  refine g_callV (a := w1) (ci := 11) (q0 := (RX11, TX11, 90)) (As := [p_i w0]) (rest := [p_i w2, p_r w3]) [p_i r6, p_i w2, p_r w3] mt_Mo_both rfl rfl tw_8_65 ts_71 tw_8_63 ⟨Nat.le_of_ble_eq_true rfl, Nat.le_of_ble_eq_true rfl⟩ rfl (Nat.le_of_ble_eq_true rfl) (dk_Mo_goOverParcels 93 rfl) rfl c1 rfl t4 ?_
  have hs5 : p_x s0 s2 := t4.1
  show p_Go K l m_Mo_goOverParcels 155 [(0, p_r v0), (1, p_i v1), (2, p_i v2)] [p_i r6, p_i w2, p_r w3] s2 _
  refine g_iconst (dk_Mo_goOverParcels 94 rfl) (by decide) ?_
  refine g_icmp_ne 163 (dk_Mo_goOverParcels 95 rfl) (by decide) (fun b7 => ?_) (fun b7 => ?_)
  · have h := p_ifT b7 h
    refine g_iconst (dk_Mo_goOverParcels 98 rfl) (by decide) ?_
    exact tB_Mo_goOverParcels_164 K l k9 hk9 v0 v1 v2 0 w2 w3 s2 _ h
  · have h := p_ifF b7 h
    refine g_iconst (dk_Mo_goOverParcels 96 rfl) (by decide) ?_
    refine g_goto 164 (dk_Mo_goOverParcels 97 rfl) (by decide) ?_
    exact tB_Mo_goOverParcels_164 K l k9 hk9 v0 v1 v2 1 w2 w3 s2 _ h
set_option maxRecDepth 100000 in
set_option maxHeartbeats 4000000 in
theorem tL_Mo_goOverParcels_9 (K : p_K) (l : Launch) (k9 : Nat → Int → p_Hp → Option p_Hp) (hk9 : ∀ (v0 : Nat) (v1 : Int)  (s0 : p_Hp) (r : p_Hp), k9 v0 v1 s0 = some r → p_Go K l m_Mo_goOverParcels 9 [(0, p_r v0), (1, p_i v1)] [] s0 (none, r)) (v0 : Nat) (v1 : Int) (s0 : p_Hp) (r : p_Hp) (h : L_Mo_goOverParcels_9 k9 v0 v1 s0 = some r) : p_Go K l m_Mo_goOverParcels 9 [(0, p_r v0), (1, p_i v1)] [] s0 (none, r) := by
  unfold L_Mo_goOverParcels_9 at h
  refine g_iload_n (i := 1) (j := 1) (dk_Mo_goOverParcels 5 rfl) rfl rfl ?_
  refine g_sipush (dk_Mo_goOverParcels 6 rfl) (by decide +kernel) (by decide) ?_
  refine g_aload_n (i := 0) (j := 0) (dk_Mo_goOverParcels 7 rfl) rfl rfl ?_
  obtain ⟨c1, h⟩ := p_gdE h
  refine g_getI fl_Mo_227 (Or.inl rfl) (dk_Mo_goOverParcels 8 rfl) c1 ?_
  refine g_imul (dk_Mo_goOverParcels 9 rfl) ?_
  refine g_bipush (dk_Mo_goOverParcels 10 rfl) (by decide +kernel) (by decide) ?_
  refine g_aload_n (i := 0) (j := 0) (dk_Mo_goOverParcels 11 rfl) rfl rfl ?_
  refine g_getR fl_Mo_7 (Or.inr ⟨_, rfl⟩) (dk_Mo_goOverParcels 12 rfl) c1 ?_
  refine g_aload_n (i := 0) (j := 0) (dk_Mo_goOverParcels 13 rfl) rfl rfl ?_
  refine g_getI fl_Mo_227 (Or.inl rfl) (dk_Mo_goOverParcels 14 rfl) c1 ?_
  obtain ⟨c2, h⟩ := p_gdE h
  obtain ⟨c3, h⟩ := p_gdE h
  refine g_iaload (dk_Mo_goOverParcels 15 rfl) c2 c3.1 c3.2 ?_
  refine g_imul (dk_Mo_goOverParcels 16 rfl) ?_
  refine g_iadd (dk_Mo_goOverParcels 17 rfl) ?_
  refine g_icmp_ge 247 (dk_Mo_goOverParcels 18 rfl) (by decide) (fun b4 => ?_) (fun b4 => ?_)
  · have h := p_ifT b4 h
    cases h
    exact g_ret rfl rfl (dk_Mo_goOverParcels 148 rfl) (fun _ => rfl)
  · have h := p_ifF b4 h
    refine g_aload_n (i := 0) (j := 0) (dk_Mo_goOverParcels 19 rfl) rfl rfl ?_
    refine g_getR fl_Mo_69 (Or.inr ⟨_, rfl⟩) (dk_Mo_goOverParcels 20 rfl) c1 ?_
    refine g_iload_n (i := 1) (j := 1) (dk_Mo_goOverParcels 21 rfl) rfl rfl ?_
    obtain ⟨c5, h⟩ := p_gdE h
    obtain ⟨c6, h⟩ := p_gdE h
    refine g_iaload (dk_Mo_goOverParcels 22 rfl) c5 c6.1 c6.2 ?_
    refine g_istore_n (i := 2) [(2, p_i (p_Z s0 (p_R s0 v0 22) (v1 : Int).toNat)), (0, p_r v0), (1, p_i v1)] (dk_Mo_goOverParcels 23 rfl) rfl (by decide) rfl ?_
    refine p_ltG (P := fun q => p_Go K l m_Mo_goOverParcels 41 [(2, p_i q), (0, p_r v0), (1, p_i v1)] [] s0 _) ?_ h
    intro x7 h
    refine g_iload_n (i := 2) (j := 0) (dk_Mo_goOverParcels 24 rfl) rfl rfl ?_
    refine g_if_le 241 (dk_Mo_goOverParcels 25 rfl) (by decide) (fun b8 => ?_) (fun b8 => ?_)
    · have h := p_ifT b8 h
      refine g_sub [(0, p_r v0), (1, p_i v1)] [1, 2] rfl ?_
      exact tB_Mo_goOverParcels_241 K l k9 hk9 v0 v1 s0 _ h
    · have h := p_ifF b8 h
      refine g_aload_n (i := 0) (j := 1) (dk_Mo_goOverParcels 26 rfl) rfl rfl ?_
      refine g_getR fl_Mo_75 (Or.inr ⟨_, rfl⟩) (dk_Mo_goOverParcels 27 rfl) c1 ?_
      refine g_iload_n (i := 2) (j := 0) (dk_Mo_goOverParcels 28 rfl) rfl rfl ?_
      refine g_iconst (dk_Mo_goOverParcels 29 rfl) (by decide) ?_
      obtain ⟨c9, h⟩ := p_gdE h
      obtain ⟨c10, h⟩ := p_gdE h
      refine g_iastore (dk_Mo_goOverParcels 30 rfl) c9 c10.1 c10.2 ?_
      refine p_ltS (P := fun q => p_Go K l m_Mo_goOverParcels 52 [(2, p_i x7), (0, p_r v0), (1, p_i v1)] [] q _) (p_xZ _ _ _ _) ?_ h
      intro s11 hs12 h
      refine g_aload_n (i := 0) (j := 1) (dk_Mo_goOverParcels 31 rfl) rfl rfl ?_
      refine g_getR fl_Mo_78 (Or.inr ⟨_, rfl⟩) (dk_Mo_goOverParcels 32 rfl) (c1.up hs12) ?_
      refine g_iload_n (i := 2) (j := 0) (dk_Mo_goOverParcels 33 rfl) rfl rfl ?_
      refine g_aload_n (i := 0) (j := 1) (dk_Mo_goOverParcels 34 rfl) rfl rfl ?_
      refine g_aload_n (i := 0) (j := 1) (dk_Mo_goOverParcels 35 rfl) rfl rfl ?_
      refine g_getR fl_Mo_78 (Or.inr ⟨_, rfl⟩) (dk_Mo_goOverParcels 36 rfl) (c1.up hs12) ?_
      refine g_iload_n (i := 2) (j := 0) (dk_Mo_goOverParcels 37 rfl) rfl rfl ?_
      obtain ⟨c13, h⟩ := p_gdE h
      obtain ⟨c14, h⟩ := p_gdE h
      refine g_iaload (dk_Mo_goOverParcels 38 rfl) c13 c14.1 c14.2 ?_
      obtain ⟨r19, s15, q16, h⟩ := p_bdE h
      have t17 := tF_Mo_both K l v0 (p_Z s11 (p_R s11 v0 26) (x7 : Int).toNat) s11 _ q16
      refine g_callV (a := v0) (ci := 11) (q0 := (RX11, TX11, 90)) (As := [p_i (p_Z s11 (p_R s11 v0 26) (x7 : Int).toNat)]) (rest := [p_i x7, p_r (p_R s11 v0 26)]) [p_i r19, p_i x7, p_r (p_R s11 v0 26)] mt_Mo_both rfl rfl tw_8_65 ts_71 tw_8_63 ⟨Nat.le_of_ble_eq_true rfl, Nat.le_of_ble_eq_true rfl⟩ rfl (Nat.le_of_ble_eq_true rfl) (dk_Mo_goOverParcels 39 rfl) rfl (c1.up hs12) rfl t17 ?_
      have hs18 : p_x s11 s15 := t17.1
      show p_Go K l m_Mo_goOverParcels 67 [(2, p_i x7), (0, p_r v0), (1, p_i v1)] [p_i r19, p_i x7, p_r (p_R s11 v0 26)] s15 _
      obtain ⟨c20, h⟩ := p_gdE h
      refine g_iastore (dk_Mo_goOverParcels 40 rfl) (c13.up hs18) c20.1 c20.2 ?_
      refine p_ltS (P := fun q => p_Go K l m_Mo_goOverParcels 68 [(2, p_i x7), (0, p_r v0), (1, p_i v1)] [] q _) (p_xZ _ _ _ _) ?_ h
      intro s21 hs22 h
      refine g_aload_n (i := 0) (j := 1) (dk_Mo_goOverParcels 41 rfl) rfl rfl ?_
      refine g_getR fl_Mo_81 (Or.inr ⟨_, rfl⟩) (dk_Mo_goOverParcels 42 rfl) (c1.up (hs12.trans (hs18.trans hs22))) ?_
      refine g_iload_n (i := 2) (j := 0) (dk_Mo_goOverParcels 43 rfl) rfl rfl ?_
      refine g_aload_n (i := 0) (j := 1) (dk_Mo_goOverParcels 44 rfl) rfl rfl ?_
      refine g_aload_n (i := 0) (j := 1) (dk_Mo_goOverParcels 45 rfl) rfl rfl ?_
      refine g_getR fl_Mo_81 (Or.inr ⟨_, rfl⟩) (dk_Mo_goOverParcels 46 rfl) (c1.up (hs12.trans (hs18.trans hs22))) ?_
      refine g_iload_n (i := 2) (j := 0) (dk_Mo_goOverParcels 47 rfl) rfl rfl ?_
      obtain ⟨c23, h⟩ := p_gdE h
      obtain ⟨c24, h⟩ := p_gdE h
      refine g_iaload (dk_Mo_goOverParcels 48 rfl) c23 c24.1 c24.2 ?_
      obtain ⟨r29, s25, q26, h⟩ := p_bdE h
      have t27 := tF_Mo_both K l v0 (p_Z s21 (p_R s21 v0 27) (x7 : Int).toNat) s21 _ q26
      refine g_callV (a := v0) (ci := 11) (q0 := (RX11, TX11, 90)) (As := [p_i (p_Z s21 (p_R s21 v0 27) (x7 : Int).toNat)]) (rest := [p_i x7, p_r (p_R s21 v0 27)]) [p_i r29, p_i x7, p_r (p_R s21 v0 27)] mt_Mo_both rfl rfl tw_8_65 ts_71 tw_8_63 ⟨Nat.le_of_ble_eq_true rfl, Nat.le_of_ble_eq_true rfl⟩ rfl (Nat.le_of_ble_eq_true rfl) (dk_Mo_goOverParcels 49 rfl) rfl (c1.up (hs12.trans (hs18.trans hs22))) rfl t27 ?_
      have hs28 : p_x s21 s25 := t27.1
      show p_Go K l m_Mo_goOverParcels 83 [(2, p_i x7), (0, p_r v0), (1, p_i v1)] [p_i r29, p_i x7, p_r (p_R s21 v0 27)] s25 _
      obtain ⟨c30, h⟩ := p_gdE h
      refine g_iastore (dk_Mo_goOverParcels 50 rfl) (c23.up hs28) c30.1 c30.2 ?_
      refine p_ltS (P := fun q => p_Go K l m_Mo_goOverParcels 84 [(2, p_i x7), (0, p_r v0), (1, p_i v1)] [] q _) (p_xZ _ _ _ _) ?_ h
      intro s31 hs32 h
      refine g_aload_n (i := 0) (j := 1) (dk_Mo_goOverParcels 51 rfl) rfl rfl ?_
      refine g_getR fl_Mo_90 (Or.inr ⟨_, rfl⟩) (dk_Mo_goOverParcels 52 rfl) (c1.up (hs12.trans (hs18.trans (hs22.trans (hs28.trans hs32))))) ?_
      refine g_iload_n (i := 2) (j := 0) (dk_Mo_goOverParcels 53 rfl) rfl rfl ?_
      refine g_aload_n (i := 0) (j := 1) (dk_Mo_goOverParcels 54 rfl) rfl rfl ?_
      refine g_aload_n (i := 0) (j := 1) (dk_Mo_goOverParcels 55 rfl) rfl rfl ?_
      refine g_getR fl_Mo_90 (Or.inr ⟨_, rfl⟩) (dk_Mo_goOverParcels 56 rfl) (c1.up (hs12.trans (hs18.trans (hs22.trans (hs28.trans hs32))))) ?_
      refine g_iload_n (i := 2) (j := 0) (dk_Mo_goOverParcels 57 rfl) rfl rfl ?_
      obtain ⟨c33, h⟩ := p_gdE h
      obtain ⟨c34, h⟩ := p_gdE h
      refine g_iaload (dk_Mo_goOverParcels 58 rfl) c33 c34.1 c34.2 ?_
      obtain ⟨r39, s35, q36, h⟩ := p_bdE h
      have t37 := tF_Mo_both K l v0 (p_Z s31 (p_R s31 v0 30) (x7 : Int).toNat) s31 _ q36
      refine g_callV (a := v0) (ci := 11) (q0 := (RX11, TX11, 90)) (As := [p_i (p_Z s31 (p_R s31 v0 30) (x7 : Int).toNat)]) (rest := [p_i x7, p_r (p_R s31 v0 30)]) [p_i r39, p_i x7, p_r (p_R s31 v0 30)] mt_Mo_both rfl rfl tw_8_65 ts_71 tw_8_63 ⟨Nat.le_of_ble_eq_true rfl, Nat.le_of_ble_eq_true rfl⟩ rfl (Nat.le_of_ble_eq_true rfl) (dk_Mo_goOverParcels 59 rfl) rfl (c1.up (hs12.trans (hs18.trans (hs22.trans (hs28.trans hs32))))) rfl t37 ?_
      have hs38 : p_x s31 s35 := t37.1
      show p_Go K l m_Mo_goOverParcels 99 [(2, p_i x7), (0, p_r v0), (1, p_i v1)] [p_i r39, p_i x7, p_r (p_R s31 v0 30)] s35 _
      obtain ⟨c40, h⟩ := p_gdE h
      refine g_iastore (dk_Mo_goOverParcels 60 rfl) (c33.up hs38) c40.1 c40.2 ?_
      refine p_ltS (P := fun q => p_Go K l m_Mo_goOverParcels 100 [(2, p_i x7), (0, p_r v0), (1, p_i v1)] [] q _) (p_xZ _ _ _ _) ?_ h
      intro s41 hs42 h
      refine g_aload_n (i := 0) (j := 1) (dk_Mo_goOverParcels 61 rfl) rfl rfl ?_
      refine g_getR fl_Mo_93 (Or.inr ⟨_, rfl⟩) (dk_Mo_goOverParcels 62 rfl) (c1.up (hs12.trans (hs18.trans (hs22.trans (hs28.trans (hs32.trans (hs38.trans hs42))))))) ?_
      refine g_iload_n (i := 2) (j := 0) (dk_Mo_goOverParcels 63 rfl) rfl rfl ?_
      refine g_aload_n (i := 0) (j := 1) (dk_Mo_goOverParcels 64 rfl) rfl rfl ?_
      refine g_aload_n (i := 0) (j := 1) (dk_Mo_goOverParcels 65 rfl) rfl rfl ?_
      refine g_getR fl_Mo_93 (Or.inr ⟨_, rfl⟩) (dk_Mo_goOverParcels 66 rfl) (c1.up (hs12.trans (hs18.trans (hs22.trans (hs28.trans (hs32.trans (hs38.trans hs42))))))) ?_
      refine g_iload_n (i := 2) (j := 0) (dk_Mo_goOverParcels 67 rfl) rfl rfl ?_
      obtain ⟨c43, h⟩ := p_gdE h
      obtain ⟨c44, h⟩ := p_gdE h
      refine g_iaload (dk_Mo_goOverParcels 68 rfl) c43 c44.1 c44.2 ?_
      obtain ⟨r49, s45, q46, h⟩ := p_bdE h
      have t47 := tF_Mo_both K l v0 (p_Z s41 (p_R s41 v0 31) (x7 : Int).toNat) s41 _ q46
      refine g_callV (a := v0) (ci := 11) (q0 := (RX11, TX11, 90)) (As := [p_i (p_Z s41 (p_R s41 v0 31) (x7 : Int).toNat)]) (rest := [p_i x7, p_r (p_R s41 v0 31)]) [p_i r49, p_i x7, p_r (p_R s41 v0 31)] mt_Mo_both rfl rfl tw_8_65 ts_71 tw_8_63 ⟨Nat.le_of_ble_eq_true rfl, Nat.le_of_ble_eq_true rfl⟩ rfl (Nat.le_of_ble_eq_true rfl) (dk_Mo_goOverParcels 69 rfl) rfl (c1.up (hs12.trans (hs18.trans (hs22.trans (hs28.trans (hs32.trans (hs38.trans hs42))))))) rfl t47 ?_
      have hs48 : p_x s41 s45 := t47.1
      show p_Go K l m_Mo_goOverParcels 115 [(2, p_i x7), (0, p_r v0), (1, p_i v1)] [p_i r49, p_i x7, p_r (p_R s41 v0 31)] s45 _
      obtain ⟨c50, h⟩ := p_gdE h
      refine g_iastore (dk_Mo_goOverParcels 70 rfl) (c43.up hs48) c50.1 c50.2 ?_
      refine p_ltS (P := fun q => p_Go K l m_Mo_goOverParcels 116 [(2, p_i x7), (0, p_r v0), (1, p_i v1)] [] q _) (p_xZ _ _ _ _) ?_ h
      intro s51 hs52 h
      refine g_aload_n (i := 0) (j := 1) (dk_Mo_goOverParcels 71 rfl) rfl rfl ?_
      refine g_getR fl_Mo_99 (Or.inr ⟨_, rfl⟩) (dk_Mo_goOverParcels 72 rfl) (c1.up (hs12.trans (hs18.trans (hs22.trans (hs28.trans (hs32.trans (hs38.trans (hs42.trans (hs48.trans hs52))))))))) ?_
      refine g_iload_n (i := 2) (j := 0) (dk_Mo_goOverParcels 73 rfl) rfl rfl ?_
      refine g_aload_n (i := 0) (j := 1) (dk_Mo_goOverParcels 74 rfl) rfl rfl ?_
      refine g_aload_n (i := 0) (j := 1) (dk_Mo_goOverParcels 75 rfl) rfl rfl ?_
      refine g_getR fl_Mo_99 (Or.inr ⟨_, rfl⟩) (dk_Mo_goOverParcels 76 rfl) (c1.up (hs12.trans (hs18.trans (hs22.trans (hs28.trans (hs32.trans (hs38.trans (hs42.trans (hs48.trans hs52))))))))) ?_
      refine g_iload_n (i := 2) (j := 0) (dk_Mo_goOverParcels 77 rfl) rfl rfl ?_
      obtain ⟨c53, h⟩ := p_gdE h
      obtain ⟨c54, h⟩ := p_gdE h
      refine g_iaload (dk_Mo_goOverParcels 78 rfl) c53 c54.1 c54.2 ?_
      obtain ⟨r59, s55, q56, h⟩ := p_bdE h
      have t57 := tF_Mo_both K l v0 (p_Z s51 (p_R s51 v0 33) (x7 : Int).toNat) s51 _ q56
      refine g_callV (a := v0) (ci := 11) (q0 := (RX11, TX11, 90)) (As := [p_i (p_Z s51 (p_R s51 v0 33) (x7 : Int).toNat)]) (rest := [p_i x7, p_r (p_R s51 v0 33)]) [p_i r59, p_i x7, p_r (p_R s51 v0 33)] mt_Mo_both rfl rfl tw_8_65 ts_71 tw_8_63 ⟨Nat.le_of_ble_eq_true rfl, Nat.le_of_ble_eq_true rfl⟩ rfl (Nat.le_of_ble_eq_true rfl) (dk_Mo_goOverParcels 79 rfl) rfl (c1.up (hs12.trans (hs18.trans (hs22.trans (hs28.trans (hs32.trans (hs38.trans (hs42.trans (hs48.trans hs52))))))))) rfl t57 ?_
      have hs58 : p_x s51 s55 := t57.1
      show p_Go K l m_Mo_goOverParcels 131 [(2, p_i x7), (0, p_r v0), (1, p_i v1)] [p_i r59, p_i x7, p_r (p_R s51 v0 33)] s55 _
      obtain ⟨c60, h⟩ := p_gdE h
      refine g_iastore (dk_Mo_goOverParcels 80 rfl) (c53.up hs58) c60.1 c60.2 ?_
      refine p_ltS (P := fun q => p_Go K l m_Mo_goOverParcels 132 [(2, p_i x7), (0, p_r v0), (1, p_i v1)] [] q _) (p_xZ _ _ _ _) ?_ h
      intro s61 hs62 h
      refine g_aload_n (i := 0) (j := 1) (dk_Mo_goOverParcels 81 rfl) rfl rfl ?_
      refine g_getR fl_Mo_105 (Or.inr ⟨_, rfl⟩) (dk_Mo_goOverParcels 82 rfl) (c1.up (hs12.trans (hs18.trans (hs22.trans (hs28.trans (hs32.trans (hs38.trans (hs42.trans (hs48.trans (hs52.trans (hs58.trans hs62))))))))))) ?_
      refine g_iload_n (i := 2) (j := 0) (dk_Mo_goOverParcels 83 rfl) rfl rfl ?_
      refine g_aload_n (i := 0) (j := 1) (dk_Mo_goOverParcels 84 rfl) rfl rfl ?_
      refine g_aload_n (i := 0) (j := 1) (dk_Mo_goOverParcels 85 rfl) rfl rfl ?_
      refine g_getR fl_Mo_105 (Or.inr ⟨_, rfl⟩) (dk_Mo_goOverParcels 86 rfl) (c1.up (hs12.trans (hs18.trans (hs22.trans (hs28.trans (hs32.trans (hs38.trans (hs42.trans (hs48.trans (hs52.trans (hs58.trans hs62))))))))))) ?_
      refine g_iload_n (i := 2) (j := 0) (dk_Mo_goOverParcels 87 rfl) rfl rfl ?_
      obtain ⟨c63, h⟩ := p_gdE h
      obtain ⟨c64, h⟩ := p_gdE h
      refine g_baload (dk_Mo_goOverParcels 88 rfl) c63 c64.1 c64.2 ?_
      refine g_if_eq 151 (dk_Mo_goOverParcels 89 rfl) (by decide) (fun b65 => ?_) (fun b65 => ?_)
      · have h := p_ifT b65 h
        refine g_iconst (dk_Mo_goOverParcels 92 rfl) (by decide) ?_
        refine g_sub [(0, p_r v0), (1, p_i v1), (2, p_i x7)] [1, 2, 0] rfl ?_
        exact tB_Mo_goOverParcels_152 K l k9 hk9 v0 v1 x7 0 v0 x7 (p_R s61 v0 35) s61 _ h
      · have h := p_ifF b65 h
        refine g_iconst (dk_Mo_goOverParcels 90 rfl) (by decide) ?_
        refine g_goto 152 (dk_Mo_goOverParcels 91 rfl) (by decide) ?_
        refine g_sub [(0, p_r v0), (1, p_i v1), (2, p_i x7)] [1, 2, 0] rfl ?_
        exact tB_Mo_goOverParcels_152 K l k9 hk9 v0 v1 x7 1 v0 x7 (p_R s61 v0 35) s61 _ h
set_option maxRecDepth 100000 in
set_option maxHeartbeats 4000000 in
theorem tO_Mo_goOverParcels_9 (K : p_K) (l : Launch)  : ∀ (n : Nat) (v0 : Nat) (v1 : Int) (s0 : p_Hp) (r : p_Hp), O_Mo_goOverParcels_9 n v0 v1 s0 = some r → p_Go K l m_Mo_goOverParcels 9 [(0, p_r v0), (1, p_i v1)] [] s0 (none, r) := by
  intro n
  induction n with
  | zero => intro v0 v1 s0 r h; cases (show (none : Option p_Hp) = some r from h)
  | succ n ih => intro v0 v1 s0 r h; exact tL_Mo_goOverParcels_9 K l _ ih v0 v1 s0 r h
set_option maxRecDepth 100000 in
set_option maxHeartbeats 4000000 in
theorem tF_Mo_goOverParcels (K : p_K) (l : Launch) (v0 : Nat) (s0 : p_Hp) (r : p_Hp) (h : F_Mo_goOverParcels v0 s0 = some r) : p_Ct K l m_Mo_goOverParcels [p_r v0] s0 (none, r) := by
  refine p_Ct.of (by decide +kernel) (Nat.le_of_ble_eq_true rfl) ?_
  unfold F_Mo_goOverParcels at h
  show p_Go K l m_Mo_goOverParcels 0 [(0, p_r v0)] [] s0 _
  refine g_sipush (dk_Mo_goOverParcels 0 rfl) (by decide +kernel) (by decide) ?_
  refine g_aload_n (i := 0) (j := 0) (dk_Mo_goOverParcels 1 rfl) rfl rfl ?_
  obtain ⟨c1, h⟩ := p_gdE h
  refine g_getI fl_Mo_227 (Or.inl rfl) (dk_Mo_goOverParcels 2 rfl) c1 ?_
  refine g_imul (dk_Mo_goOverParcels 3 rfl) ?_
  refine g_istore_n (i := 1) [(1, p_i (p_w (320 * (p_Z s0 v0 0)))), (0, p_r v0)] (dk_Mo_goOverParcels 4 rfl) rfl (by decide) rfl ?_
  refine p_ltG (P := fun q => p_Go K l m_Mo_goOverParcels 9 [(1, p_i q), (0, p_r v0)] [] s0 _) ?_ h
  intro x2 h
  refine g_sub [(0, p_r v0), (1, p_i x2)] [1, 0] rfl ?_
  exact tO_Mo_goOverParcels_9 K l 3000 v0 x2 s0 _ h
