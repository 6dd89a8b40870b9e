def m_Mo_rule_1 : p_Me := (⟨"SortWorksModel", "rule", "(II)I"⟩, prog_13_method_104_code, 4, (some .int), 1, 25)
theorem mt_Mo_rule_1 : p_Mt m_Mo_rule_1 2 := ⟨p_mem (p_tb8 (List.mem_of_getElem? (i := 235) rfl)) rfl, tw_1_12, by decide +kernel, by decide +kernel, by decide +kernel⟩
def dt_Mo_rule_1 : List (Nat × Instr × Nat) := [(0, .iload_n 1, 1), (1, .i2l, 1), (2, .lconst 0, 1), (3, .aload_n 0, 1), (4, .getfield 141, 3), (7, .aload_n 0, 1), (8, .getfield 227, 3), (11, .iaload, 1), (12, .iconst 1, 1), (13, .isub, 1), (14, .i2l, 1), (15, .invokestatic 230, 3), (18, .ifCond .ne 15, 3), (21, .iload_n 2, 1), (22, .i2l, 1), (23, .lconst 0, 1), (24, .ldc2_w 238, 3), (27, .invokestatic 230, 3), (30, .ifCond .eq 6, 3), (33, .bipush (-9), 2), (35, .ireturn, 1), (36, .bipush 12, 2), (38, .aload_n 0, 1), (39, .getfield 227, 3), (42, .imul, 1), (43, .iload_n 1, 1), (44, .iadd, 1), (45, .istore_n 3, 1), (46, .iload_n 2, 1), (47, .ifCond .ne 12, 3), (50, .aload_n 0, 1), (51, .getfield 144, 3), (54, .iload_n 3, 1), (55, .iaload, 1), (56, .goto 23, 3), (59, .iload_n 2, 1), (60, .iconst 1, 1), (61, .if_icmp .ne 12, 3), (64, .aload_n 0, 1), (65, .getfield 147, 3), (68, .iload_n 3, 1), (69, .iaload, 1), (70, .goto 9, 3), (73, .aload_n 0, 1), (74, .getfield 150, 3), (77, .iload_n 3, 1), (78, .iaload, 1), (79, .ireturn, 1)]
theorem dk_Mo_rule_1 (i : Nat) {pc : Nat} {ins : Instr} {len : Nat} (h : dt_Mo_rule_1[i]? = some (pc, ins, len)) : decode m_Mo_rule_1.2.1 pc = .ok (ins, len) := p_dk (b := m_Mo_rule_1.2.1) (t := dt_Mo_rule_1) (by decide +kernel) i h
def F_Mo_rule_1 (v0 : Nat) (v1 : Int) (v2 : Int) (s0 : p_Hp) : Option (Int × p_Hp) :=
  p_gd (p_is s0 v0 11) <|
  p_gd (p_is s0 (p_R s0 v0 48) 100) <|
  p_gd ((0 : Int) ≤ (p_Z s0 v0 0) ∧ (p_Z s0 v0 0) < (p_L s0 (p_R s0 v0 48) : Int)) <|
  p_bd (F_Mo_beyond v1 0 (p_w ((p_Z s0 (p_R s0 v0 48) ((p_Z s0 v0 0) : Int).toNat) - 1)) s0) fun r8 s4 =>
  if r8 ≠ 0 then
    some ((-9), s4)
  else
    p_bd (F_Mo_beyond v2 0 2 s4) fun r14 s10 =>
    if r14 = 0 then
      p_bi ((p_w ((p_w (12 * (p_Z s10 v0 0))) + v1))) fun x16 =>
      if v2 ≠ 0 then
        if v2 ≠ 1 then
          p_gd (p_is s10 (p_R s10 v0 51) 100) <|
          p_gd ((0 : Int) ≤ x16 ∧ x16 < (p_L s10 (p_R s10 v0 51) : Int)) <|
          some ((p_Z s10 (p_R s10 v0 51) (x16 : Int).toNat), s10)
        else
          p_gd (p_is s10 (p_R s10 v0 50) 100) <|
          p_gd ((0 : Int) ≤ x16 ∧ x16 < (p_L s10 (p_R s10 v0 50) : Int)) <|
          some ((p_Z s10 (p_R s10 v0 50) (x16 : Int).toNat), s10)
      else
        p_gd (p_is s10 (p_R s10 v0 49) 100) <|
        p_gd ((0 : Int) ≤ x16 ∧ x16 < (p_L s10 (p_R s10 v0 49) : Int)) <|
        some ((p_Z s10 (p_R s10 v0 49) (x16 : Int).toNat), s10)
    else
      some ((-9), s10)
set_option maxRecDepth 100000 in
set_option maxHeartbeats 4000000 in
theorem tF_Mo_rule_1 (K : p_K) (l : Launch) (v0 : Nat) (v1 : Int) (v2 : Int) (s0 : p_Hp) (r : (Int × p_Hp)) (h : F_Mo_rule_1 v0 v1 v2 s0 = some r) : p_Ct K l m_Mo_rule_1 [p_r v0, p_i v1, p_i v2] s0 (some (p_i r.1), r.2) := by
  refine p_Ct.of (by decide +kernel) (Nat.le_of_ble_eq_true rfl) ?_
  unfold F_Mo_rule_1 at h
  show p_Go K l m_Mo_rule_1 0 [(0, p_r v0), (1, p_i v1), (2, p_i v2)] [] s0 _
  refine g_iload_n (i := 1) (j := 1) (dk_Mo_rule_1 0 rfl) rfl rfl ?_
  refine g_i2l (dk_Mo_rule_1 1 rfl) ?_
  refine g_lconst (x := 0) (dk_Mo_rule_1 2 rfl) rfl (by decide) ?_
  refine g_aload_n (i := 0) (j := 0) (dk_Mo_rule_1 3 rfl) rfl rfl ?_
  obtain ⟨c1, h⟩ := p_gdE h
  refine g_getR fl_Mo_141 (Or.inr ⟨_, rfl⟩) (dk_Mo_rule_1 4 rfl) c1 ?_
  refine g_aload_n (i := 0) (j := 0) (dk_Mo_rule_1 5 rfl) rfl rfl ?_
  refine g_getI fl_Mo_227 (Or.inl rfl) (dk_Mo_rule_1 6 rfl) c1 ?_
  obtain ⟨c2, h⟩ := p_gdE h
  obtain ⟨c3, h⟩ := p_gdE h
  refine g_iaload (dk_Mo_rule_1 7 rfl) c2 c3.1 c3.2 ?_
  refine g_iconst (dk_Mo_rule_1 8 rfl) (by decide) ?_
  refine g_isub (dk_Mo_rule_1 9 rfl) ?_
  refine g_i2l (dk_Mo_rule_1 10 rfl) ?_
  obtain ⟨r8, s4, q5, h⟩ := p_bdE h
  have t6 := tF_Mo_beyond K l v1 0 (p_w ((p_Z s0 (p_R s0 v0 48) ((p_Z s0 v0 0) : Int).toNat) - 1)) s0 _ q5
  refine g_callS (av := [p_j v1, p_j 0, p_j (p_w ((p_Z s0 (p_R s0 v0 48) ((p_Z s0 v0 0) : Int).toNat) - 1))]) (rest := []) [p_i r8] mt_Mo_beyond tw_7_63 tw_7_62 ⟨Nat.le_of_ble_eq_true rfl, Nat.le_of_ble_eq_true rfl⟩ rfl (Nat.le_of_ble_eq_true rfl) (dk_Mo_rule_1 11 rfl) rfl rfl t6 ?_
  have hs7 : p_x s0 s4 := t6.1
  show p_Go K l m_Mo_rule_1 18 [(0, p_r v0), (1, p_i v1), (2, p_i v2)] [p_i r8] s4 _
  refine g_if_ne 33 (dk_Mo_rule_1 12 rfl) (by decide) (fun b9 => ?_) (fun b9 => ?_)
  · have h := p_ifT b9 h
    refine g_bipush (dk_Mo_rule_1 19 rfl) (by decide +kernel) (by decide) ?_
    cases h
    exact g_ret rfl rfl (dk_Mo_rule_1 20 rfl) (fun os => ⟨_, rfl, p_okh os⟩)
  · have h := p_ifF b9 h
    refine g_iload_n (i := 2) (j := 2) (dk_Mo_rule_1 13 rfl) rfl rfl ?_
    refine g_i2l (dk_Mo_rule_1 14 rfl) ?_
    refine g_lconst (x := 0) (dk_Mo_rule_1 15 rfl) rfl (by decide) ?_
    refine g_ldc2_w (x := 2) (dk_Mo_rule_1 16 rfl) tw_7_61 (by decide) (by decide) ?_
    obtain ⟨r14, s10, q11, h⟩ := p_bdE h
    have t12 := tF_Mo_beyond K l v2 0 2 s4 _ q11
    refine g_callS (av := [p_j v2, p_j 0, p_j 2]) (rest := []) [p_i r14] mt_Mo_beyond tw_7_63 tw_7_62 ⟨Nat.le_of_ble_eq_true rfl, Nat.le_of_ble_eq_true rfl⟩ rfl (Nat.le_of_ble_eq_true rfl) (dk_Mo_rule_1 17 rfl) rfl rfl t12 ?_
    have hs13 : p_x s4 s10 := t12.1
    show p_Go K l m_Mo_rule_1 30 [(0, p_r v0), (1, p_i v1), (2, p_i v2)] [p_i r14] s10 _
    refine g_if_eq 36 (dk_Mo_rule_1 18 rfl) (by decide) (fun b15 => ?_) (fun b15 => ?_)
    · have h := p_ifT b15 h
      refine g_bipush (dk_Mo_rule_1 21 rfl) (by decide +kernel) (by decide) ?_
      refine g_aload_n (i := 0) (j := 0) (dk_Mo_rule_1 22 rfl) rfl rfl ?_
      refine g_getI fl_Mo_227 (Or.inl rfl) (dk_Mo_rule_1 23 rfl) (c1.up (hs7.trans hs13)) ?_
      refine g_imul (dk_Mo_rule_1 24 rfl) ?_
      refine g_iload_n (i := 1) (j := 1) (dk_Mo_rule_1 25 rfl) rfl rfl ?_
      refine g_iadd (dk_Mo_rule_1 26 rfl) ?_
      refine g_istore_n (i := 3) [(3, p_i (p_w ((p_w (12 * (p_Z s10 v0 0))) + v1))), (0, p_r v0), (1, p_i v1), (2, p_i v2)] (dk_Mo_rule_1 27 rfl) rfl (by decide) rfl ?_
      refine p_ltG (P := fun q => p_Go K l m_Mo_rule_1 46 [(3, p_i q), (0, p_r v0), (1, p_i v1), (2, p_i v2)] [] s10 _) ?_ h
      intro x16 h
      refine g_iload_n (i := 2) (j := 3) (dk_Mo_rule_1 28 rfl) rfl rfl ?_
      refine g_if_ne 59 (dk_Mo_rule_1 29 rfl) (by decide) (fun b17 => ?_) (fun b17 => ?_)
      · have h := p_ifT b17 h
        refine g_iload_n (i := 2) (j := 3) (dk_Mo_rule_1 35 rfl) rfl rfl ?_
        refine g_iconst (dk_Mo_rule_1 36 rfl) (by decide) ?_
        refine g_icmp_ne 73 (dk_Mo_rule_1 37 rfl) (by decide) (fun b18 => ?_) (fun b18 => ?_)
        · have h := p_ifT b18 h
          refine g_aload_n (i := 0) (j := 1) (dk_Mo_rule_1 43 rfl) rfl rfl ?_
          refine g_getR fl_Mo_150 (Or.inr ⟨_, rfl⟩) (dk_Mo_rule_1 44 rfl) (c1.up (hs7.trans hs13)) ?_
          refine g_iload_n (i := 3) (j := 0) (dk_Mo_rule_1 45 rfl) rfl rfl ?_
          obtain ⟨c19, h⟩ := p_gdE h
          obtain ⟨c20, h⟩ := p_gdE h
          refine g_iaload (dk_Mo_rule_1 46 rfl) c19 c20.1 c20.2 ?_
          cases h
          exact g_ret rfl rfl (dk_Mo_rule_1 47 rfl) (fun os => ⟨_, rfl, p_okh os⟩)
        · have h := p_ifF b18 h
          refine g_aload_n (i := 0) (j := 1) (dk_Mo_rule_1 38 rfl) rfl rfl ?_
          refine g_getR fl_Mo_147 (Or.inr ⟨_, rfl⟩) (dk_Mo_rule_1 39 rfl) (c1.up (hs7.trans hs13)) ?_
          refine g_iload_n (i := 3) (j := 0) (dk_Mo_rule_1 40 rfl) rfl rfl ?_
          obtain ⟨c21, h⟩ := p_gdE h
          obtain ⟨c22, h⟩ := p_gdE h
          refine g_iaload (dk_Mo_rule_1 41 rfl) c21 c22.1 c22.2 ?_
          refine g_goto 79 (dk_Mo_rule_1 42 rfl) (by decide) ?_
          cases h
          exact g_ret rfl rfl (dk_Mo_rule_1 47 rfl) (fun os => ⟨_, rfl, p_okh os⟩)
      · have h := p_ifF b17 h
        refine g_aload_n (i := 0) (j := 1) (dk_Mo_rule_1 30 rfl) rfl rfl ?_
        refine g_getR fl_Mo_144 (Or.inr ⟨_, rfl⟩) (dk_Mo_rule_1 31 rfl) (c1.up (hs7.trans hs13)) ?_
        refine g_iload_n (i := 3) (j := 0) (dk_Mo_rule_1 32 rfl) rfl rfl ?_
        obtain ⟨c23, h⟩ := p_gdE h
        obtain ⟨c24, h⟩ := p_gdE h
        refine g_iaload (dk_Mo_rule_1 33 rfl) c23 c24.1 c24.2 ?_
        refine g_goto 79 (dk_Mo_rule_1 34 rfl) (by decide) ?_
        cases h
        exact g_ret rfl rfl (dk_Mo_rule_1 47 rfl) (fun os => ⟨_, rfl, p_okh os⟩)
    · have h := p_ifF b15 h
      refine g_bipush (dk_Mo_rule_1 19 rfl) (by decide +kernel) (by decide) ?_
      cases h
      exact g_ret rfl rfl (dk_Mo_rule_1 20 rfl) (fun os => ⟨_, rfl, p_okh os⟩)
def m_Mo_says : p_Me := (⟨"SortWorksModel", "says", "(I)V"⟩, prog_13_method_105_code, 2, none, 0, 0)
theorem mt_Mo_says : p_Mt m_Mo_says 1 := ⟨p_mem (p_tb9 (List.mem_of_getElem? (i := 3) rfl)) rfl, tw_1_12, by decide +kernel, by decide +kernel, by decide +kernel⟩
def dt_Mo_says : List (Nat × Instr × Nat) := [(0, .aload_n 0, 1), (1, .getfield 520, 3), (4, .ifCond .ne 8, 3), (7, .aload_n 0, 1), (8, .iload_n 1, 1), (9, .putfield 523, 3), (12, .aload_n 0, 1), (13, .dup, 1), (14, .getfield 520, 3), (17, .iconst 1, 1), (18, .isub, 1), (19, .putfield 520, 3), (22, .return_, 1)]
theorem dk_Mo_says (i : Nat) {pc : Nat} {ins : Instr} {len : Nat} (h : dt_Mo_says[i]? = some (pc, ins, len)) : decode m_Mo_says.2.1 pc = .ok (ins, len) := p_dk (b := m_Mo_says.2.1) (t := dt_Mo_says) (by decide +kernel) i h
def B_Mo_says_12  (v0 : Nat) (s0 : p_Hp) : Option p_Hp :=
  p_gd (p_is s0 v0 11) <|
  p_bi (p_wZ s0 v0 86 (p_w ((p_Z s0 v0 86) - 1))) fun s2 =>
  some s2
def F_Mo_says (v0 : Nat) (v1 : Int) (s0 : p_Hp) : Option p_Hp :=
  p_gd (p_is s0 v0 11) <|
  if (p_Z s0 v0 86) ≠ 0 then
    B_Mo_says_12 v0 s0
  else
    p_bi (p_wZ s0 v0 87 v1) fun s3 =>
    B_Mo_says_12 v0 s3
set_option maxRecDepth 100000 in
set_option maxHeartbeats 4000000 in
theorem tB_Mo_says_12 (K : p_K) (l : Launch)  (v0 : Nat) (s0 : p_Hp) (r : p_Hp) (h : B_Mo_says_12 v0 s0 = some r) : p_Go K l m_Mo_says 12 [(0, p_r v0)] [] s0 (none, r) := by
  unfold B_Mo_says_12 at h
  refine g_aload_n (i := 0) (j := 0) (dk_Mo_says 6 rfl) rfl rfl ?_
  refine g_dup (dk_Mo_says 7 rfl) rfl ?_
  obtain ⟨c1, h⟩ := p_gdE h
  refine g_getI fl_Mo_520 (Or.inl rfl) (dk_Mo_says 8 rfl) c1 ?_
  refine g_iconst (dk_Mo_says 9 rfl) (by decide) ?_
  refine g_isub (dk_Mo_says 10 rfl) ?_
  refine g_putI fl_Mo_520 (Or.inl rfl) (dk_Mo_says 11 rfl) c1 ?_
  refine p_ltS (P := fun q => p_Go K l m_Mo_says 22 [(0, p_r v0)] [] q _) (p_xZ _ _ _ _) ?_ h
  intro s2 hs3 h
  cases h
  exact g_ret rfl rfl (dk_Mo_says 12 rfl) (fun _ => rfl)
set_option maxRecDepth 100000 in
set_option maxHeartbeats 4000000 in
theorem tF_Mo_says (K : p_K) (l : Launch) (v0 : Nat) (v1 : Int) (s0 : p_Hp) (r : p_Hp) (h : F_Mo_says v0 v1 s0 = some r) : p_Ct K l m_Mo_says [p_r v0, p_i v1] s0 (none, r) := by
  refine p_Ct.of (by decide +kernel) (Nat.le_of_ble_eq_true rfl) ?_
  unfold F_Mo_says at h
  show p_Go K l m_Mo_says 0 [(0, p_r v0), (1, p_i v1)] [] s0 _
  refine g_aload_n (i := 0) (j := 0) (dk_Mo_says 0 rfl) rfl rfl ?_
  obtain ⟨c1, h⟩ := p_gdE h
  refine g_getI fl_Mo_520 (Or.inl rfl) (dk_Mo_says 1 rfl) c1 ?_
  refine g_if_ne 12 (dk_Mo_says 2 rfl) (by decide) (fun b2 => ?_) (fun b2 => ?_)
  · have h := p_ifT b2 h
    refine g_sub [(0, p_r v0)] [0] rfl ?_
    exact tB_Mo_says_12 K l v0 s0 _ h
  · have h := p_ifF b2 h
    refine g_aload_n (i := 0) (j := 0) (dk_Mo_says 3 rfl) rfl rfl ?_
    refine g_iload_n (i := 1) (j := 1) (dk_Mo_says 4 rfl) rfl rfl ?_
    refine g_putI fl_Mo_523 (Or.inl rfl) (dk_Mo_says 5 rfl) c1 ?_
    refine p_ltS (P := fun q => p_Go K l m_Mo_says 12 [(0, p_r v0), (1, p_i v1)] [] q _) (p_xZ _ _ _ _) ?_ h
    intro s3 hs4 h
    refine g_sub [(0, p_r v0)] [0] rfl ?_
    exact tB_Mo_says_12 K l v0 s3 _ h
def m_Mo_saysNumber : p_Me := (⟨"SortWorksModel", "saysNumber", "(I)V"⟩, prog_13_method_106_code, 3, none, 1, 21)
theorem mt_Mo_saysNumber : p_Mt m_Mo_saysNumber 1 := ⟨p_mem (p_tb9 (List.mem_of_getElem? (i := 7) rfl)) rfl, tw_1_12, by decide +kernel, by decide +kernel, by decide +kernel⟩
def dt_Mo_saysNumber : List (Nat × Instr × Nat) := [(0, .iload_n 1, 1), (1, .sipush 999, 3), (4, .if_icmp .le 9, 3), (7, .sipush 1000, 3), (10, .goto 26, 3), (13, .iload_n 1, 1), (14, .bipush 99, 2), (16, .if_icmp .le 8, 3), (19, .bipush 100, 2), (21, .goto 15, 3), (24, .iload_n 1, 1), (25, .bipush 9, 2), (27, .if_icmp .le 8, 3), (30, .bipush 10, 2), (32, .goto 4, 3), (35, .iconst 1, 1), (36, .istore_n 2, 1), (37, .iload_n 2, 1), (38, .ifCond .le 24, 3), (41, .aload_n 0, 1), (42, .bipush 48, 2), (44, .iload_n 1, 1), (45, .iload_n 2, 1), (46, .idiv, 1), (47, .bipush 10, 2), (49, .irem, 1), (50, .iadd, 1), (51, .invokevirtual 526, 3), (54, .iload_n 2, 1), (55, .bipush 10, 2), (57, .idiv, 1), (58, .istore_n 2, 1), (59, .goto (-22), 3), (62, .return_, 1)]
theorem dk_Mo_saysNumber (i : Nat) {pc : Nat} {ins : Instr} {len : Nat} (h : dt_Mo_saysNumber[i]? = some (pc, ins, len)) : decode m_Mo_saysNumber.2.1 pc = .ok (ins, len) := p_dk (b := m_Mo_saysNumber.2.1) (t := dt_Mo_saysNumber) (by decide +kernel) i h
def L_Mo_saysNumber_37 (k37 : Nat → Int → Int → p_Hp → Option p_Hp) (v0 : Nat) (v1 : Int) (v2 : Int) (s0 : p_Hp) : Option p_Hp :=
  if v2 ≤ 0 then
    some s0
  else
    p_gd (v2 ≠ 0) <|
    p_gd (p_is s0 v0 11) <|
    p_bv (F_Mo_says v0 (p_w (48 + (p_rem (p_div v1 v2) 10))) s0) fun s4 =>
    p_bi ((p_div v2 10)) fun x8 =>
    k37 v0 v1 x8 s4
def O_Mo_saysNumber_37  : Nat → Nat → Int → Int → p_Hp → Option p_Hp
  | 0 => fun _ _ _ _ => none
  | n + 1 => L_Mo_saysNumber_37 (O_Mo_saysNumber_37 n)
def B_Mo_saysNumber_36  (v0 : Nat) (v1 : Int) (w0 : Int) (s0 : p_Hp) : Option p_Hp :=
  O_Mo_saysNumber_37 3000 v0 v1 w0 s0
def F_Mo_saysNumber (v0 : Nat) (v1 : Int) (s0 : p_Hp) : Option p_Hp :=
  if v1 ≤ 999 then
    if v1 ≤ 99 then
      if v1 ≤ 9 then
        B_Mo_saysNumber_36 v0 v1 1 s0
      else
        B_Mo_saysNumber_36 v0 v1 10 s0
    else
      B_Mo_saysNumber_36 v0 v1 100 s0
  else
    B_Mo_saysNumber_36 v0 v1 1000 s0
set_option maxRecDepth 100000 in
set_option maxHeartbeats 4000000 in
theorem tL_Mo_saysNumber_37 (K : p_K) (l : Launch) (k37 : Nat → Int → Int → p_Hp → Option p_Hp) (hk37 : ∀ (v0 : Nat) (v1 : Int) (v2 : Int)  (s0 : p_Hp) (r : p_Hp), k37 v0 v1 v2 s0 = some r → p_Go K l m_Mo_saysNumber 37 [(0, p_r v0), (1, p_i v1), (2, p_i v2)] [] s0 (none, r)) (v0 : Nat) (v1 : Int) (v2 : Int) (s0 : p_Hp) (r : p_Hp) (h : L_Mo_saysNumber_37 k37 v0 v1 v2 s0 = some r) : p_Go K l m_Mo_saysNumber 37 [(0, p_r v0), (1, p_i v1), (2, p_i v2)] [] s0 (none, r) := by
  unfold L_Mo_saysNumber_37 at h
  refine g_iload_n (i := 2) (j := 2) (dk_Mo_saysNumber 17 rfl) rfl rfl ?_
  refine g_if_le 62 (dk_Mo_saysNumber 18 rfl) (by decide) (fun b1 => ?_) (fun b1 => ?_)
  · have h := p_ifT b1 h
    cases h
    exact g_ret rfl rfl (dk_Mo_saysNumber 33 rfl) (fun _ => rfl)
  · have h := p_ifF b1 h
    refine g_aload_n (i := 0) (j := 0) (dk_Mo_saysNumber 19 rfl) rfl rfl ?_
    refine g_bipush (dk_Mo_saysNumber 20 rfl) (by decide +kernel) (by decide) ?_
    refine g_iload_n (i := 1) (j := 1) (dk_Mo_saysNumber 21 rfl) rfl rfl ?_
    refine g_iload_n (i := 2) (j := 2) (dk_Mo_saysNumber 22 rfl) rfl rfl ?_
    obtain ⟨c2, h⟩ := p_gdE h
    refine g_idiv (dk_Mo_saysNumber 23 rfl) c2 ?_
    refine g_bipush (dk_Mo_saysNumber 24 rfl) (by decide +kernel) (by decide) ?_
    refine g_irem (dk_Mo_saysNumber 25 rfl) (by decide) ?_
    refine g_iadd (dk_Mo_saysNumber 26 rfl) ?_
    obtain ⟨c3, h⟩ := p_gdE h
    obtain ⟨s4, q5, h⟩ := p_bvE h
    have t6 := tF_Mo_says K l v0 (p_w (48 + (p_rem (p_div v1 v2) 10))) s0 _ q5
    refine g_callV (a := v0) (ci := 11) (q0 := (RX11, TX11, 90)) (As := [p_i (p_w (48 + (p_rem (p_div v1 v2) 10)))]) (rest := []) [] mt_Mo_says rfl rfl tw_9_2 ts_101 tw_9_0 ⟨Nat.le_of_ble_eq_true rfl, Nat.le_of_ble_eq_true rfl⟩ rfl (Nat.le_of_ble_eq_true rfl) (dk_Mo_saysNumber 27 rfl) rfl c3 rfl t6 ?_
    have hs7 : p_x s0 s4 := t6.1
    show p_Go K l m_Mo_saysNumber 54 [(0, p_r v0), (1, p_i v1), (2, p_i v2)] [] s4 _
    refine g_iload_n (i := 2) (j := 2) (dk_Mo_saysNumber 28 rfl) rfl rfl ?_
    refine g_bipush (dk_Mo_saysNumber 29 rfl) (by decide +kernel) (by decide) ?_
    refine g_idiv (dk_Mo_saysNumber 30 rfl) (by decide) ?_
    refine g_istore_n (i := 2) [(2, p_i (p_div v2 10)), (0, p_r v0), (1, p_i v1)] (dk_Mo_saysNumber 31 rfl) rfl (by decide) rfl ?_
    refine p_ltG (P := fun q => p_Go K l m_Mo_saysNumber 59 [(2, p_i q), (0, p_r v0), (1, p_i v1)] [] s4 _) ?_ h
    intro x8 h
    refine g_goto 37 (dk_Mo_saysNumber 32 rfl) (by decide) ?_
    refine g_sub [(0, p_r v0), (1, p_i v1), (2, p_i x8)] [1, 2, 0] rfl ?_
    exact hk37 v0 v1 x8 s4 _ h
set_option maxRecDepth 100000 in
set_option maxHeartbeats 4000000 in
theorem tO_Mo_saysNumber_37 (K : p_K) (l : Launch)  : ∀ (n : Nat) (v0 : Nat) (v1 : Int) (v2 : Int) (s0 : p_Hp) (r : p_Hp), O_Mo_saysNumber_37 n v0 v1 v2 s0 = some r → p_Go K l m_Mo_saysNumber 37 [(0, p_r v0), (1, p_i v1), (2, p_i v2)] [] s0 (none, r) := by
  intro n
  induction n with
  | zero => intro v0 v1 v2 s0 r h; cases (show (none : Option p_Hp) = some r from h)
  | succ n ih => intro v0 v1 v2 s0 r h; exact tL_Mo_saysNumber_37 K l _ ih v0 v1 v2 s0 r h
set_option maxRecDepth 100000 in
set_option maxHeartbeats 4000000 in
theorem tB_Mo_saysNumber_36 (K : p_K) (l : Launch)  (v0 : Nat) (v1 : Int) (w0 : Int) (s0 : p_Hp) (r : p_Hp) (h : B_Mo_saysNumber_36 v0 v1 w0 s0 = some r) : p_Go K l m_Mo_saysNumber 36 [(0, p_r v0), (1, p_i v1)] [p_i w0] s0 (none, r) := by
  unfold B_Mo_saysNumber_36 at h
  refine g_istore_n (i := 2) [(2, p_i w0), (0, p_r v0), (1, p_i v1)] (dk_Mo_saysNumber 16 rfl) rfl (by decide) rfl ?_
  refine g_sub [(0, p_r v0), (1, p_i v1), (2, p_i w0)] [1, 2, 0] rfl ?_
  exact tO_Mo_saysNumber_37 K l 3000 v0 v1 w0 s0 _ h
set_option maxRecDepth 100000 in
set_option maxHeartbeats 4000000 in
theorem tF_Mo_saysNumber (K : p_K) (l : Launch) (v0 : Nat) (v1 : Int) (s0 : p_Hp) (r : p_Hp) (h : F_Mo_saysNumber v0 v1 s0 = some r) : p_Ct K l m_Mo_saysNumber [p_r v0, p_i v1] s0 (none, r) := by
  refine p_Ct.of (by decide +kernel) (Nat.le_of_ble_eq_true rfl) ?_
  unfold F_Mo_saysNumber at h
  show p_Go K l m_Mo_saysNumber 0 [(0, p_r v0), (1, p_i v1)] [] s0 _
  refine g_iload_n (i := 1) (j := 1) (dk_Mo_saysNumber 0 rfl) rfl rfl ?_
  refine g_sipush (dk_Mo_saysNumber 1 rfl) (by decide +kernel) (by decide) ?_
  refine g_icmp_le 13 (dk_Mo_saysNumber 2 rfl) (by decide) (fun b1 => ?_) (fun b1 => ?_)
  · have h := p_ifT b1 h
    refine g_iload_n (i := 1) (j := 1) (dk_Mo_saysNumber 5 rfl) rfl rfl ?_
    refine g_bipush (dk_Mo_saysNumber 6 rfl) (by decide +kernel) (by decide) ?_
    refine g_icmp_le 24 (dk_Mo_saysNumber 7 rfl) (by decide) (fun b2 => ?_) (fun b2 => ?_)
    · have h := p_ifT b2 h
      refine g_iload_n (i := 1) (j := 1) (dk_Mo_saysNumber 10 rfl) rfl rfl ?_
      refine g_bipush (dk_Mo_saysNumber 11 rfl) (by decide +kernel) (by decide) ?_
      refine g_icmp_le 35 (dk_Mo_saysNumber 12 rfl) (by decide) (fun b3 => ?_) (fun b3 => ?_)
      · have h := p_ifT b3 h
        refine g_iconst (dk_Mo_saysNumber 15 rfl) (by decide) ?_
        exact tB_Mo_saysNumber_36 K l v0 v1 1 s0 _ h
      · have h := p_ifF b3 h
        refine g_bipush (dk_Mo_saysNumber 13 rfl) (by decide +kernel) (by decide) ?_
        refine g_goto 36 (dk_Mo_saysNumber 14 rfl) (by decide) ?_
        exact tB_Mo_saysNumber_36 K l v0 v1 10 s0 _ h
    · have h := p_ifF b2 h
      refine g_bipush (dk_Mo_saysNumber 8 rfl) (by decide +kernel) (by decide) ?_
      refine g_goto 36 (dk_Mo_saysNumber 9 rfl) (by decide) ?_
      exact tB_Mo_saysNumber_36 K l v0 v1 100 s0 _ h
  · have h := p_ifF b1 h
    refine g_sipush (dk_Mo_saysNumber 3 rfl) (by decide +kernel) (by decide) ?_
    refine g_goto 36 (dk_Mo_saysNumber 4 rfl) (by decide) ?_
    exact tB_Mo_saysNumber_36 K l v0 v1 1000 s0 _ h
def m_Mo_said : p_Me := (⟨"SortWorksModel", "said", "(I)I"⟩, prog_13_method_107_code, 4, (some .int), 2, 43)
theorem mt_Mo_said : p_Mt m_Mo_said 1 := ⟨p_mem (p_tb8 (List.mem_of_getElem? (i := 239) rfl)) rfl, tw_1_12, by decide +kernel, by decide +kernel, by decide +kernel⟩
def dt_Mo_said : List (Nat × Instr × Nat) := [(0, .iload_n 1, 1), (1, .ifCond .ge 6, 3), (4, .bipush (-9), 2), (6, .ireturn, 1), (7, .aload_n 0, 1), (8, .iload_n 1, 1), (9, .putfield 520, 3), (12, .aload_n 0, 1), (13, .bipush (-9), 2), (15, .putfield 523, 3), (18, .bipush 12, 2), (20, .aload_n 0, 1), (21, .getfield 227, 3), (24, .imul, 1), (25, .istore_n 2, 1), (26, .iload_n 2, 1), (27, .bipush 12, 2), (29, .aload_n 0, 1), (30, .getfield 227, 3), (33, .imul, 1), (34, .aload_n 0, 1), (35, .getfield 141, 3), (38, .aload_n 0, 1), (39, .getfield 227, 3), (42, .iaload, 1), (43, .iadd, 1), (44, .if_icmp .ge 119, 3), (47, .iconst 4, 1), (48, .iload_n 2, 1), (49, .imul, 1), (50, .istore_n 3, 1), (51, .iload_n 3, 1), (52, .iconst 4, 1), (53, .iload_n 2, 1), (54, .imul, 1), (55, .aload_n 0, 1), (56, .getfield 147, 3), (59, .iload_n 2, 1), (60, .iaload, 1), (61, .iadd, 1), (62, .if_icmp .ge 73, 3), (65, .iload_n 3, 1), (66, .iconst 4, 1), (67, .iload_n 2, 1), (68, .imul, 1), (69, .if_icmp .le 9, 3), (72, .aload_n 0, 1), (73, .bipush 44, 2), (75, .invokevirtual 526, 3), (78, .aload_n 0, 1), (79, .aload_n 0, 1), (80, .getfield 153, 3), (83, .iload_n 3, 1), (84, .iaload, 1), (85, .invokevirtual 526, 3), (88, .aload_n 0, 1), (89, .getfield 153, 3), (92, .iload_n 3, 1), (93, .iaload, 1), (94, .bipush 81, 2), (96, .if_icmp .ne 13, 3), (99, .aload_n 0, 1), (100, .aload_n 0, 1), (101, .getfield 156, 3), (104, .iload_n 3, 1), (105, .iaload, 1), (106, .invokevirtual 529, 3), (109, .aload_n 0, 1), (110, .aload_n 0, 1), (111, .getfield 159, 3), (114, .iload_n 3, 1), (115, .iaload, 1), (116, .invokevirtual 526, 3), (119, .aload_n 0, 1), (120, .aload_n 0, 1), (121, .getfield 162, 3), (124, .iload_n 3, 1), (125, .iaload, 1), (126, .invokevirtual 529, 3), (129, .iinc 3 1, 3), (132, .goto (-81), 3), (135, .aload_n 0, 1), (136, .bipush 58, 2), (138, .invokevirtual 526, 3), (141, .aload_n 0, 1), (142, .aload_n 0, 1), (143, .getfield 144, 3), (146, .iload_n 2, 1), (147, .iaload, 1), (148, .invokevirtual 529, 3), (151, .aload_n 0, 1), (152, .bipush 59, 2), (154, .invokevirtual 526, 3), (157, .iinc 2 1, 3), (160, .goto (-134), 3), (163, .aload_n 0, 1), (164, .getfield 523, 3), (167, .ireturn, 1)]
theorem dk_Mo_said (i : Nat) {pc : Nat} {ins : Instr} {len : Nat} (h : dt_Mo_said[i]? = some (pc, ins, len)) : decode m_Mo_said.2.1 pc = .ok (ins, len) := p_dk (b := m_Mo_said.2.1) (t := dt_Mo_said) (by decide +kernel) i h
def B_Mo_said_109 (k26 : Nat → Int → p_Hp → Option (Int × p_Hp)) (k51 : Nat → Int → Int → p_Hp → Option (Int × p_Hp)) (v0 : Nat) (v2 : Int) (v3 : Int) (s0 : p_Hp) : Option (Int × p_Hp) :=
  p_gd (p_is s0 v0 11) <|
  p_gd (p_is s0 (p_R s0 v0 54) 100) <|
  p_gd ((0 : Int) ≤ v3 ∧ v3 < (p_L s0 (p_R s0 v0 54) : Int)) <|
  p_bv (F_Mo_says v0 (p_Z s0 (p_R s0 v0 54) (v3 : Int).toNat) s0) fun s4 =>
  p_gd (p_is s4 (p_R s4 v0 55) 100) <|
  p_gd ((0 : Int) ≤ v3 ∧ v3 < (p_L s4 (p_R s4 v0 55) : Int)) <|
  p_bv (F_Mo_saysNumber v0 (p_Z s4 (p_R s4 v0 55) (v3 : Int).toNat) s4) fun s10 =>
  p_bi (p_w (v3 + 1)) fun x14 =>
  k51 v0 v2 x14 s10
def B_Mo_said_78 (k26 : Nat → Int → p_Hp → Option (Int × p_Hp)) (k51 : Nat → Int → Int → p_Hp → Option (Int × p_Hp)) (v0 : Nat) (v2 : Int) (v3 : Int) (s0 : p_Hp) : Option (Int × p_Hp) :=
  p_gd (p_is s0 v0 11) <|
  p_gd (p_is s0 (p_R s0 v0 52) 100) <|
  p_gd ((0 : Int) ≤ v3 ∧ v3 < (p_L s0 (p_R s0 v0 52) : Int)) <|
  p_bv (F_Mo_says v0 (p_Z s0 (p_R s0 v0 52) (v3 : Int).toNat) s0) fun s4 =>
  p_gd (p_is s4 (p_R s4 v0 52) 100) <|
  p_gd ((0 : Int) ≤ v3 ∧ v3 < (p_L s4 (p_R s4 v0 52) : Int)) <|
  if (p_Z s4 (p_R s4 v0 52) (v3 : Int).toNat) ≠ 81 then
    B_Mo_said_109 k26 k51 v0 v2 v3 s4
  else
    p_gd (p_is s4 (p_R s4 v0 53) 100) <|
    p_gd ((0 : Int) ≤ v3 ∧ v3 < (p_L s4 (p_R s4 v0 53) : Int)) <|
    p_bv (F_Mo_saysNumber v0 (p_Z s4 (p_R s4 v0 53) (v3 : Int).toNat) s4) fun s13 =>
    B_Mo_said_109 k26 k51 v0 v2 v3 s13
def L_Mo_said_51 (k26 : Nat → Int → p_Hp → Option (Int × p_Hp)) (k51 : Nat → Int → Int → p_Hp → Option (Int × p_Hp)) (v0 : Nat) (v2 : Int) (v3 : Int) (s0 : p_Hp) : Option (Int × p_Hp) :=
  p_gd (p_is s0 v0 11) <|
  p_gd (p_is s0 (p_R s0 v0 50) 100) <|
  p_gd ((0 : Int) ≤ v2 ∧ v2 < (p_L s0 (p_R s0 v0 50) : Int)) <|
  if (p_w ((p_w (4 * v2)) + (p_Z s0 (p_R s0 v0 50) (v2 : Int).toNat))) ≤ v3 then
    p_bv (F_Mo_says v0 58 s0) fun s5 =>
    p_gd (p_is s5 (p_R s5 v0 49) 100) <|
    p_gd ((0 : Int) ≤ v2 ∧ v2 < (p_L s5 (p_R s5 v0 49) : Int)) <|
    p_bv (F_Mo_saysNumber v0 (p_Z s5 (p_R s5 v0 49) (v2 : Int).toNat) s5) fun s11 =>
    p_bv (F_Mo_says v0 59 s11) fun s15 =>
    p_bi (p_w (v2 + 1)) fun x19 =>
    k26 v0 x19 s15
  else
    if v3 ≤ (p_w (4 * v2)) then
      B_Mo_said_78 k26 k51 v0 v2 v3 s0
    else
      p_bv (F_Mo_says v0 44 s0) fun s21 =>
      B_Mo_said_78 k26 k51 v0 v2 v3 s21
def O_Mo_said_51 (k26 : Nat → Int → p_Hp → Option (Int × p_Hp)) : Nat → Nat → Int → Int → p_Hp → Option (Int × p_Hp)
  | 0 => fun _ _ _ _ => none
  | n + 1 => L_Mo_said_51 k26 (O_Mo_said_51 k26 n)
def L_Mo_said_26 (k26 : Nat → Int → p_Hp → Option (Int × p_Hp)) (v0 : Nat) (v2 : Int) (s0 : p_Hp) : Option (Int × p_Hp) :=
  p_gd (p_is s0 v0 11) <|
  p_gd (p_is s0 (p_R s0 v0 48) 100) <|
  p_gd ((0 : Int) ≤ (p_Z s0 v0 0) ∧ (p_Z s0 v0 0) < (p_L s0 (p_R s0 v0 48) : Int)) <|
  if (p_w ((p_w (12 * (p_Z s0 v0 0))) + (p_Z s0 (p_R s0 v0 48) ((p_Z s0 v0 0) : Int).toNat))) ≤ v2 then
    some ((p_Z s0 v0 87), s0)
  else
    p_bi ((p_w (4 * v2))) fun x5 =>
    O_Mo_said_51 k26 3000 v0 v2 x5 s0
def O_Mo_said_26  : Nat → Nat → Int → p_Hp → Option (Int × p_Hp)
  | 0 => fun _ _ _ => none
  | n + 1 => L_Mo_said_26 (O_Mo_said_26 n)
def F_Mo_said (v0 : Nat) (v1 : Int) (s0 : p_Hp) : Option (Int × p_Hp) :=
  if 0 ≤ v1 then
    p_gd (p_is s0 v0 11) <|
    p_bi (p_wZ s0 v0 86 v1) fun s3 =>
    p_bi (p_wZ s3 v0 87 (-9)) fun s5 =>
    p_bi ((p_w (12 * (p_Z s5 v0 0)))) fun x7 =>
    O_Mo_said_26 3000 v0 x7 s5
  else
    some ((-9), s0)
set_option maxRecDepth 100000 in
set_option maxHeartbeats 4000000 in
theorem tB_Mo_said_109 (K : p_K) (l : Launch) (k26 : Nat → Int → p_Hp → Option (Int × p_Hp)) (hk26 : ∀ (v0 : Nat) (v2 : Int)  (s0 : p_Hp) (r : (Int × p_Hp)), k26 v0 v2 s0 = some r → p_Go K l m_Mo_said 26 [(0, p_r v0), (2, p_i v2)] [] s0 (some (p_i r.1), r.2)) (k51 : Nat → Int → Int → p_Hp → Option (Int × p_Hp)) (hk51 : ∀ (v0 : Nat) (v2 : Int) (v3 : Int)  (s0 : p_Hp) (r : (Int × p_Hp)), k51 v0 v2 v3 s0 = some r → p_Go K l m_Mo_said 51 [(0, p_r v0), (2, p_i v2), (3, p_i v3)] [] s0 (some (p_i r.1), r.2)) (v0 : Nat) (v2 : Int) (v3 : Int) (s0 : p_Hp) (r : (Int × p_Hp)) (h : B_Mo_said_109 k26 k51 v0 v2 v3 s0 = some r) : p_Go K l m_Mo_said 109 [(0, p_r v0), (2, p_i v2), (3, p_i v3)] [] s0 (some (p_i r.1), r.2) := by
  unfold B_Mo_said_109 at h
  refine g_aload_n (i := 0) (j := 0) (dk_Mo_said 67 rfl) rfl rfl ?_
  refine g_aload_n (i := 0) (j := 0) (dk_Mo_said 68 rfl) rfl rfl ?_
  obtain ⟨c1, h⟩ := p_gdE h
  refine g_getR fl_Mo_159 (Or.inr ⟨_, rfl⟩) (dk_Mo_said 69 rfl) c1 ?_
  refine g_iload_n (i := 3) (j := 2) (dk_Mo_said 70 rfl) rfl rfl ?_
  obtain ⟨c2, h⟩ := p_gdE h
  obtain ⟨c3, h⟩ := p_gdE h
  refine g_iaload (dk_Mo_said 71 rfl) c2 c3.1 c3.2 ?_
  obtain ⟨s4, q5, h⟩ := p_bvE h
  have t6 := tF_Mo_says K l v0 (p_Z s0 (p_R s0 v0 54) (v3 : Int).toNat) s0 _ q5
  refine g_callV (a := v0) (ci := 11) (q0 := (RX11, TX11, 90)) (As := [p_i (p_Z s0 (p_R s0 v0 54) (v3 : Int).toNat)]) (rest := []) [] mt_Mo_says rfl rfl tw_9_2 ts_101 tw_9_0 ⟨Nat.le_of_ble_eq_true rfl, Nat.le_of_ble_eq_true rfl⟩ rfl (Nat.le_of_ble_eq_true rfl) (dk_Mo_said 72 rfl) rfl c1 rfl t6 ?_
  have hs7 : p_x s0 s4 := t6.1
  show p_Go K l m_Mo_said 119 [(0, p_r v0), (2, p_i v2), (3, p_i v3)] [] s4 _
  refine g_aload_n (i := 0) (j := 0) (dk_Mo_said 73 rfl) rfl rfl ?_
  refine g_aload_n (i := 0) (j := 0) (dk_Mo_said 74 rfl) rfl rfl ?_
  refine g_getR fl_Mo_162 (Or.inr ⟨_, rfl⟩) (dk_Mo_said 75 rfl) (c1.up hs7) ?_
  refine g_iload_n (i := 3) (j := 2) (dk_Mo_said 76 rfl) rfl rfl ?_
  obtain ⟨c8, h⟩ := p_gdE h
  obtain ⟨c9, h⟩ := p_gdE h
  refine g_iaload (dk_Mo_said 77 rfl) c8 c9.1 c9.2 ?_
  obtain ⟨s10, q11, h⟩ := p_bvE h
  have t12 := tF_Mo_saysNumber K l v0 (p_Z s4 (p_R s4 v0 55) (v3 : Int).toNat) s4 _ q11
  refine g_callV (a := v0) (ci := 11) (q0 := (RX11, TX11, 90)) (As := [p_i (p_Z s4 (p_R s4 v0 55) (v3 : Int).toNat)]) (rest := []) [] mt_Mo_saysNumber rfl rfl tw_9_6 ts_102 tw_9_4 ⟨Nat.le_of_ble_eq_true rfl, Nat.le_of_ble_eq_true rfl⟩ rfl (Nat.le_of_ble_eq_true rfl) (dk_Mo_said 78 rfl) rfl (c1.up hs7) rfl t12 ?_
  have hs13 : p_x s4 s10 := t12.1
  show p_Go K l m_Mo_said 129 [(0, p_r v0), (2, p_i v2), (3, p_i v3)] [] s10 _
  refine g_iinc (j := 2) [(3, p_i (p_w (v3 + 1))), (0, p_r v0), (2, p_i v2)] (dk_Mo_said 79 rfl) rfl (by decide) rfl ?_
  refine p_ltG (P := fun q => p_Go K l m_Mo_said 132 [(3, p_i q), (0, p_r v0), (2, p_i v2)] [] s10 _) ?_ h
  intro x14 h
  refine g_goto 51 (dk_Mo_said 80 rfl) (by decide) ?_
  refine g_sub [(0, p_r v0), (2, p_i v2), (3, p_i x14)] [1, 2, 0] rfl ?_
  exact hk51 v0 v2 x14 s10 _ h
set_option maxRecDepth 100000 in
set_option maxHeartbeats 4000000 in
theorem tB_Mo_said_78 (K : p_K) (l : Launch) (k26 : Nat → Int → p_Hp → Option (Int × p_Hp)) (hk26 : ∀ (v0 : Nat) (v2 : Int)  (s0 : p_Hp) (r : (Int × p_Hp)), k26 v0 v2 s0 = some r → p_Go K l m_Mo_said 26 [(0, p_r v0), (2, p_i v2)] [] s0 (some (p_i r.1), r.2)) (k51 : Nat → Int → Int → p_Hp → Option (Int × p_Hp)) (hk51 : ∀ (v0 : Nat) (v2 : Int) (v3 : Int)  (s0 : p_Hp) (r : (Int × p_Hp)), k51 v0 v2 v3 s0 = some r → p_Go K l m_Mo_said 51 [(0, p_r v0), (2, p_i v2), (3, p_i v3)] [] s0 (some (p_i r.1), r.2)) (v0 : Nat) (v2 : Int) (v3 : Int) (s0 : p_Hp) (r : (Int × p_Hp)) (h : B_Mo_said_78 k26 k51 v0 v2 v3 s0 = some r) : p_Go K l m_Mo_said 78 [(0, p_r v0), (2, p_i v2), (3, p_i v3)] [] s0 (some (p_i r.1), r.2) := by
  unfold B_Mo_said_78 at h
  refine g_aload_n (i := 0) (j := 0) (dk_Mo_said 49 rfl) rfl rfl ?_
  refine g_aload_n (i := 0) (j := 0) (dk_Mo_said 50 rfl) rfl rfl ?_
  obtain ⟨c1, h⟩ := p_gdE h
  refine g_getR fl_Mo_153 (Or.inr ⟨_, rfl⟩) (dk_Mo_said 51 rfl) c1 ?_
  refine g_iload_n (i := 3) (j := 2) (dk_Mo_said 52 rfl) rfl rfl ?_
  obtain ⟨c2, h⟩ := p_gdE h
  obtain ⟨c3, h⟩ := p_gdE h
  refine g_iaload (dk_Mo_said 53 rfl) c2 c3.1 c3.2 ?_
  obtain ⟨s4, q5, h⟩ := p_bvE h
  have t6 := tF_Mo_says K l v0 (p_Z s0 (p_R s0 v0 52) (v3 : Int).toNat) s0 _ q5
  refine g_callV (a := v0) (ci := 11) (q0 := (RX11, TX11, 90)) (As := [p_i (p_Z s0 (p_R s0 v0 52) (v3 : Int).toNat)]) (rest := []) [] mt_Mo_says rfl rfl tw_9_2 ts_101 tw_9_0 ⟨Nat.le_of_ble_eq_true rfl, Nat.le_of_ble_eq_true rfl⟩ rfl (Nat.le_of_ble_eq_true rfl) (dk_Mo_said 54 rfl) rfl c1 rfl t6 ?_
  have hs7 : p_x s0 s4 := t6.1
  show p_Go K l m_Mo_said 88 [(0, p_r v0), (2, p_i v2), (3, p_i v3)] [] s4 _
  refine g_aload_n (i := 0) (j := 0) (dk_Mo_said 55 rfl) rfl rfl ?_
  refine g_getR fl_Mo_153 (Or.inr ⟨_, rfl⟩) (dk_Mo_said 56 rfl) (c1.up hs7) ?_
  refine g_iload_n (i := 3) (j := 2) (dk_Mo_said 57 rfl) rfl rfl ?_
  obtain ⟨c8, h⟩ := p_gdE h
  obtain ⟨c9, h⟩ := p_gdE h
  refine g_iaload (dk_Mo_said 58 rfl) c8 c9.1 c9.2 ?_
  refine g_bipush (dk_Mo_said 59 rfl) (by decide +kernel) (by decide) ?_
  refine g_icmp_ne 109 (dk_Mo_said 60 rfl) (by decide) (fun b10 => ?_) (fun b10 => ?_)
  · have h := p_ifT b10 h
    exact tB_Mo_said_109 K l k26 hk26 k51 hk51 v0 v2 v3 s4 _ h
  · have h := p_ifF b10 h
    refine g_aload_n (i := 0) (j := 0) (dk_Mo_said 61 rfl) rfl rfl ?_
    refine g_aload_n (i := 0) (j := 0) (dk_Mo_said 62 rfl) rfl rfl ?_
    refine g_getR fl_Mo_156 (Or.inr ⟨_, rfl⟩) (dk_Mo_said 63 rfl) (c1.up hs7) ?_
    refine g_iload_n (i := 3) (j := 2) (dk_Mo_said 64 rfl) rfl rfl ?_
    obtain ⟨c11, h⟩ := p_gdE h
    obtain ⟨c12, h⟩ := p_gdE h
    refine g_iaload (dk_Mo_said 65 rfl) c11 c12.1 c12.2 ?_
    obtain ⟨s13, q14, h⟩ := p_bvE h
    have t15 := tF_Mo_saysNumber K l v0 (p_Z s4 (p_R s4 v0 53) (v3 : Int).toNat) s4 _ q14
    refine g_callV (a := v0) (ci := 11) (q0 := (RX11, TX11, 90)) (As := [p_i (p_Z s4 (p_R s4 v0 53) (v3 : Int).toNat)]) (rest := []) [] mt_Mo_saysNumber rfl rfl tw_9_6 ts_102 tw_9_4 ⟨Nat.le_of_ble_eq_true rfl, Nat.le_of_ble_eq_true rfl⟩ rfl (Nat.le_of_ble_eq_true rfl) (dk_Mo_said 66 rfl) rfl (c1.up hs7) rfl t15 ?_
    have hs16 : p_x s4 s13 := t15.1
    show p_Go K l m_Mo_said 109 [(0, p_r v0), (2, p_i v2), (3, p_i v3)] [] s13 _
    exact tB_Mo_said_109 K l k26 hk26 k51 hk51 v0 v2 v3 s13 _ h
set_option maxRecDepth 100000 in
set_option maxHeartbeats 4000000 in
theorem tL_Mo_said_51 (K : p_K) (l : Launch) (k26 : Nat → Int → p_Hp → Option (Int × p_Hp)) (hk26 : ∀ (v0 : Nat) (v2 : Int)  (s0 : p_Hp) (r : (Int × p_Hp)), k26 v0 v2 s0 = some r → p_Go K l m_Mo_said 26 [(0, p_r v0), (2, p_i v2)] [] s0 (some (p_i r.1), r.2)) (k51 : Nat → Int → Int → p_Hp → Option (Int × p_Hp)) (hk51 : ∀ (v0 : Nat) (v2 : Int) (v3 : Int)  (s0 : p_Hp) (r : (Int × p_Hp)), k51 v0 v2 v3 s0 = some r → p_Go K l m_Mo_said 51 [(0, p_r v0), (2, p_i v2), (3, p_i v3)] [] s0 (some (p_i r.1), r.2)) (v0 : Nat) (v2 : Int) (v3 : Int) (s0 : p_Hp) (r : (Int × p_Hp)) (h : L_Mo_said_51 k26 k51 v0 v2 v3 s0 = some r) : p_Go K l m_Mo_said 51 [(0, p_r v0), (2, p_i v2), (3, p_i v3)] [] s0 (some (p_i r.1), r.2) := by
  unfold L_Mo_said_51 at h
  refine g_iload_n (i := 3) (j := 2) (dk_Mo_said 31 rfl) rfl rfl ?_
  refine g_iconst (dk_Mo_said 32 rfl) (by decide) ?_
  refine g_iload_n (i := 2) (j := 1) (dk_Mo_said 33 rfl) rfl rfl ?_
  refine g_imul (dk_Mo_said 34 rfl) ?_
  refine g_aload_n (i := 0) (j := 0) (dk_Mo_said 35 rfl) rfl rfl ?_
  obtain ⟨c1, h⟩ := p_gdE h
  refine g_getR fl_Mo_147 (Or.inr ⟨_, rfl⟩) (dk_Mo_said 36 rfl) c1 ?_
  refine g_iload_n (i := 2) (j := 1) (dk_Mo_said 37 rfl) rfl rfl ?_
  obtain ⟨c2, h⟩ := p_gdE h
  obtain ⟨c3, h⟩ := p_gdE h
  refine g_iaload (dk_Mo_said 38 rfl) c2 c3.1 c3.2 ?_
  refine g_iadd (dk_Mo_said 39 rfl) ?_
  refine g_icmp_ge 135 (dk_Mo_said 40 rfl) (by decide) (fun b4 => ?_) (fun b4 => ?_)
  · have h := p_ifT b4 h
    refine g_aload_n (i := 0) (j := 0) (dk_Mo_said 81 rfl) rfl rfl ?_
    refine g_bipush (dk_Mo_said 82 rfl) (by decide +kernel) (by decide) ?_
    obtain ⟨s5, q6, h⟩ := p_bvE h
    have t7 := tF_Mo_says K l v0 58 s0 _ q6
    refine g_callV (a := v0) (ci := 11) (q0 := (RX11, TX11, 90)) (As := [p_i 58]) (rest := []) [] mt_Mo_says rfl rfl tw_9_2 ts_101 tw_9_0 ⟨Nat.le_of_ble_eq_true rfl, Nat.le_of_ble_eq_true rfl⟩ rfl (Nat.le_of_ble_eq_true rfl) (dk_Mo_said 83 rfl) rfl c1 rfl t7 ?_
    have hs8 : p_x s0 s5 := t7.1
    show p_Go K l m_Mo_said 141 [(0, p_r v0), (2, p_i v2), (3, p_i v3)] [] s5 _
    refine g_aload_n (i := 0) (j := 0) (dk_Mo_said 84 rfl) rfl rfl ?_
    refine g_aload_n (i := 0) (j := 0) (dk_Mo_said 85 rfl) rfl rfl ?_
    refine g_getR fl_Mo_144 (Or.inr ⟨_, rfl⟩) (dk_Mo_said 86 rfl) (c1.up hs8) ?_
    refine g_iload_n (i := 2) (j := 1) (dk_Mo_said 87 rfl) rfl rfl ?_
    obtain ⟨c9, h⟩ := p_gdE h
    obtain ⟨c10, h⟩ := p_gdE h
    refine g_iaload (dk_Mo_said 88 rfl) c9 c10.1 c10.2 ?_
    obtain ⟨s11, q12, h⟩ := p_bvE h
    have t13 := tF_Mo_saysNumber K l v0 (p_Z s5 (p_R s5 v0 49) (v2 : Int).toNat) s5 _ q12
    refine g_callV (a := v0) (ci := 11) (q0 := (RX11, TX11, 90)) (As := [p_i (p_Z s5 (p_R s5 v0 49) (v2 : Int).toNat)]) (rest := []) [] mt_Mo_saysNumber rfl rfl tw_9_6 ts_102 tw_9_4 ⟨Nat.le_of_ble_eq_true rfl, Nat.le_of_ble_eq_true rfl⟩ rfl (Nat.le_of_ble_eq_true rfl) (dk_Mo_said 89 rfl) rfl (c1.up hs8) rfl t13 ?_
    have hs14 : p_x s5 s11 := t13.1
    show p_Go K l m_Mo_said 151 [(0, p_r v0), (2, p_i v2), (3, p_i v3)] [] s11 _
    refine g_aload_n (i := 0) (j := 0) (dk_Mo_said 90 rfl) rfl rfl ?_
    refine g_bipush (dk_Mo_said 91 rfl) (by decide +kernel) (by decide) ?_
    obtain ⟨s15, q16, h⟩ := p_bvE h
    have t17 := tF_Mo_says K l v0 59 s11 _ q16
    refine g_callV (a := v0) (ci := 11) (q0 := (RX11, TX11, 90)) (As := [p_i 59]) (rest := []) [] mt_Mo_says rfl rfl tw_9_2 ts_101 tw_9_0 ⟨Nat.le_of_ble_eq_true rfl, Nat.le_of_ble_eq_true rfl⟩ rfl (Nat.le_of_ble_eq_true rfl) (dk_Mo_said 92 rfl) rfl (c1.up (hs8.trans hs14)) rfl t17 ?_
    have hs18 : p_x s11 s15 := t17.1
    show p_Go K l m_Mo_said 157 [(0, p_r v0), (2, p_i v2), (3, p_i v3)] [] s15 _
    refine g_iinc (j := 1) [(2, p_i (p_w (v2 + 1))), (0, p_r v0), (3, p_i v3)] (dk_Mo_said 93 rfl) rfl (by decide) rfl ?_
    refine p_ltG (P := fun q => p_Go K l m_Mo_said 160 [(2, p_i q), (0, p_r v0), (3, p_i v3)] [] s15 _) ?_ h
    intro x19 h
    refine g_goto 26 (dk_Mo_said 94 rfl) (by decide) ?_
    refine g_sub [(0, p_r v0), (2, p_i x19)] [1, 0] rfl ?_
    exact hk26 v0 x19 s15 _ h
  · have h := p_ifF b4 h
    refine g_iload_n (i := 3) (j := 2) (dk_Mo_said 41 rfl) rfl rfl ?_
    refine g_iconst (dk_Mo_said 42 rfl) (by decide) ?_
    refine g_iload_n (i := 2) (j := 1) (dk_Mo_said 43 rfl) rfl rfl ?_
    refine g_imul (dk_Mo_said 44 rfl) ?_
    refine g_icmp_le 78 (dk_Mo_said 45 rfl) (by decide) (fun b20 => ?_) (fun b20 => ?_)
    · have h := p_ifT b20 h
      exact tB_Mo_said_78 K l k26 hk26 k51 hk51 v0 v2 v3 s0 _ h
    · have h := p_ifF b20 h
      refine g_aload_n (i := 0) (j := 0) (dk_Mo_said 46 rfl) rfl rfl ?_
      refine g_bipush (dk_Mo_said 47 rfl) (by decide +kernel) (by decide) ?_
      obtain ⟨s21, q22, h⟩ := p_bvE h
      have t23 := tF_Mo_says K l v0 44 s0 _ q22
      refine g_callV (a := v0) (ci := 11) (q0 := (RX11, TX11, 90)) (As := [p_i 44]) (rest := []) [] mt_Mo_says rfl rfl tw_9_2 ts_101 tw_9_0 ⟨Nat.le_of_ble_eq_true rfl, Nat.le_of_ble_eq_true rfl⟩ rfl (Nat.le_of_ble_eq_true rfl) (dk_Mo_said 48 rfl) rfl c1 rfl t23 ?_
      have hs24 : p_x s0 s21 := t23.1
      show p_Go K l m_Mo_said 78 [(0, p_r v0), (2, p_i v2), (3, p_i v3)] [] s21 _
      exact tB_Mo_said_78 K l k26 hk26 k51 hk51 v0 v2 v3 s21 _ h
set_option maxRecDepth 100000 in
set_option maxHeartbeats 4000000 in
theorem tO_Mo_said_51 (K : p_K) (l : Launch) (k26 : Nat → Int → p_Hp → Option (Int × p_Hp)) (hk26 : ∀ (v0 : Nat) (v2 : Int)  (s0 : p_Hp) (r : (Int × p_Hp)), k26 v0 v2 s0 = some r → p_Go K l m_Mo_said 26 [(0, p_r v0), (2, p_i v2)] [] s0 (some (p_i r.1), r.2)) : ∀ (n : Nat) (v0 : Nat) (v2 : Int) (v3 : Int) (s0 : p_Hp) (r : (Int × p_Hp)), O_Mo_said_51 k26 n v0 v2 v3 s0 = some r → p_Go K l m_Mo_said 51 [(0, p_r v0), (2, p_i v2), (3, p_i v3)] [] s0 (some (p_i r.1), r.2) := by
  intro n
  induction n with
  | zero => intro v0 v2 v3 s0 r h; cases (show (none : Option (Int × p_Hp)) = some r from h)
  | succ n ih => intro v0 v2 v3 s0 r h; exact tL_Mo_said_51 K l k26 hk26 _ ih v0 v2 v3 s0 r h
set_option maxRecDepth 100000 in
set_option maxHeartbeats 4000000 in
theorem tL_Mo_said_26 (K : p_K) (l : Launch) (k26 : Nat → Int → p_Hp → Option (Int × p_Hp)) (hk26 : ∀ (v0 : Nat) (v2 : Int)  (s0 : p_Hp) (r : (Int × p_Hp)), k26 v0 v2 s0 = some r → p_Go K l m_Mo_said 26 [(0, p_r v0), (2, p_i v2)] [] s0 (some (p_i r.1), r.2)) (v0 : Nat) (v2 : Int) (s0 : p_Hp) (r : (Int × p_Hp)) (h : L_Mo_said_26 k26 v0 v2 s0 = some r) : p_Go K l m_Mo_said 26 [(0, p_r v0), (2, p_i v2)] [] s0 (some (p_i r.1), r.2) := by
  unfold L_Mo_said_26 at h
  refine g_iload_n (i := 2) (j := 1) (dk_Mo_said 15 rfl) rfl rfl ?_
  refine g_bipush (dk_Mo_said 16 rfl) (by decide +kernel) (by decide) ?_
  refine g_aload_n (i := 0) (j := 0) (dk_Mo_said 17 rfl) rfl rfl ?_
  obtain ⟨c1, h⟩ := p_gdE h
  refine g_getI fl_Mo_227 (Or.inl rfl) (dk_Mo_said 18 rfl) c1 ?_
  refine g_imul (dk_Mo_said 19 rfl) ?_
  refine g_aload_n (i := 0) (j := 0) (dk_Mo_said 20 rfl) rfl rfl ?_
  refine g_getR fl_Mo_141 (Or.inr ⟨_, rfl⟩) (dk_Mo_said 21 rfl) c1 ?_
  refine g_aload_n (i := 0) (j := 0) (dk_Mo_said 22 rfl) rfl rfl ?_
  refine g_getI fl_Mo_227 (Or.inl rfl) (dk_Mo_said 23 rfl) c1 ?_
  obtain ⟨c2, h⟩ := p_gdE h
  obtain ⟨c3, h⟩ := p_gdE h
  refine g_iaload (dk_Mo_said 24 rfl) c2 c3.1 c3.2 ?_
  refine g_iadd (dk_Mo_said 25 rfl) ?_
  refine g_icmp_ge 163 (dk_Mo_said 26 rfl) (by decide) (fun b4 => ?_) (fun b4 => ?_)
  · have h := p_ifT b4 h
    refine g_aload_n (i := 0) (j := 0) (dk_Mo_said 95 rfl) rfl rfl ?_
    refine g_getI fl_Mo_523 (Or.inl rfl) (dk_Mo_said 96 rfl) c1 ?_
    cases h
    exact g_ret rfl rfl (dk_Mo_said 97 rfl) (fun os => ⟨_, rfl, p_okh os⟩)
  · have h := p_ifF b4 h
    refine g_iconst (dk_Mo_said 27 rfl) (by decide) ?_
    refine g_iload_n (i := 2) (j := 1) (dk_Mo_said 28 rfl) rfl rfl ?_
    refine g_imul (dk_Mo_said 29 rfl) ?_
    refine g_istore_n (i := 3) [(3, p_i (p_w (4 * v2))), (0, p_r v0), (2, p_i v2)] (dk_Mo_said 30 rfl) rfl (by decide) rfl ?_
    refine p_ltG (P := fun q => p_Go K l m_Mo_said 51 [(3, p_i q), (0, p_r v0), (2, p_i v2)] [] s0 _) ?_ h
    intro x5 h
    refine g_sub [(0, p_r v0), (2, p_i v2), (3, p_i x5)] [1, 2, 0] rfl ?_
    exact tO_Mo_said_51 K l k26 hk26 3000 v0 v2 x5 s0 _ h
set_option maxRecDepth 100000 in
set_option maxHeartbeats 4000000 in
theorem tO_Mo_said_26 (K : p_K) (l : Launch)  : ∀ (n : Nat) (v0 : Nat) (v2 : Int) (s0 : p_Hp) (r : (Int × p_Hp)), O_Mo_said_26 n v0 v2 s0 = some r → p_Go K l m_Mo_said 26 [(0, p_r v0), (2, p_i v2)] [] s0 (some (p_i r.1), r.2) := by
  intro n
  induction n with
  | zero => intro v0 v2 s0 r h; cases (show (none : Option (Int × p_Hp)) = some r from h)
  | succ n ih => intro v0 v2 s0 r h; exact tL_Mo_said_26 K l _ ih v0 v2 s0 r h
set_option maxRecDepth 100000 in
set_option maxHeartbeats 4000000 in
theorem tF_Mo_said (K : p_K) (l : Launch) (v0 : Nat) (v1 : Int) (s0 : p_Hp) (r : (Int × p_Hp)) (h : F_Mo_said v0 v1 s0 = some r) : p_Ct K l m_Mo_said [p_r v0, p_i v1] s0 (some (p_i r.1), r.2) := by
  refine p_Ct.of (by decide +kernel) (Nat.le_of_ble_eq_true rfl) ?_
  unfold F_Mo_said at h
  show p_Go K l m_Mo_said 0 [(0, p_r v0), (1, p_i v1)] [] s0 _
  refine g_iload_n (i := 1) (j := 1) (dk_Mo_said 0 rfl) rfl rfl ?_
  refine g_if_ge 7 (dk_Mo_said 1 rfl) (by decide) (fun b1 => ?_) (fun b1 => ?_)
  · have h := p_ifT b1 h
    refine g_aload_n (i := 0) (j := 0) (dk_Mo_said 4 rfl) rfl rfl ?_
    refine g_iload_n (i := 1) (j := 1) (dk_Mo_said 5 rfl) rfl rfl ?_
    obtain ⟨c2, h⟩ := p_gdE h
    refine g_putI fl_Mo_520 (Or.inl rfl) (dk_Mo_said 6 rfl) c2 ?_
    refine p_ltS (P := fun q => p_Go K l m_Mo_said 12 [(0, p_r v0), (1, p_i v1)] [] q _) (p_xZ _ _ _ _) ?_ h
    intro s3 hs4 h
    refine g_aload_n (i := 0) (j := 0) (dk_Mo_said 7 rfl) rfl rfl ?_
    refine g_bipush (dk_Mo_said 8 rfl) (by decide +kernel) (by decide) ?_
    refine g_putI fl_Mo_523 (Or.inl rfl) (dk_Mo_said 9 rfl) (c2.up hs4) ?_
    refine p_ltS (P := fun q => p_Go K l m_Mo_said 18 [(0, p_r v0), (1, p_i v1)] [] q _) (p_xZ _ _ _ _) ?_ h
    intro s5 hs6 h
    refine g_bipush (dk_Mo_said 10 rfl) (by decide +kernel) (by decide) ?_
    refine g_aload_n (i := 0) (j := 0) (dk_Mo_said 11 rfl) rfl rfl ?_
    refine g_getI fl_Mo_227 (Or.inl rfl) (dk_Mo_said 12 rfl) (c2.up (hs4.trans hs6)) ?_
    refine g_imul (dk_Mo_said 13 rfl) ?_
    refine g_istore_n (i := 2) [(2, p_i (p_w (12 * (p_Z s5 v0 0)))), (0, p_r v0), (1, p_i v1)] (dk_Mo_said 14 rfl) rfl (by decide) rfl ?_
    refine p_ltG (P := fun q => p_Go K l m_Mo_said 26 [(2, p_i q), (0, p_r v0), (1, p_i v1)] [] s5 _) ?_ h
    intro x7 h
    refine g_sub [(0, p_r v0), (2, p_i x7)] [1, 0] rfl ?_
    exact tO_Mo_said_26 K l 3000 v0 x7 s5 _ h
  · have h := p_ifF b1 h
    refine g_bipush (dk_Mo_said 2 rfl) (by decide +kernel) (by decide) ?_
    cases h
    exact g_ret rfl rfl (dk_Mo_said 3 rfl) (fun os => ⟨_, rfl, p_okh os⟩)
def m_Mo_unused : p_Me := (⟨"SortWorksModel", "unused", "(I)I"⟩, prog_13_method_108_code, 4, (some .int), 0, 0)
theorem mt_Mo_unused : p_Mt m_Mo_unused 1 := ⟨p_mem (p_tb9 (List.mem_of_getElem? (i := 11) rfl)) rfl, tw_1_12, by decide +kernel, by decide +kernel, by decide +kernel⟩
def dt_Mo_unused : List (Nat × Instr × Nat) := [(0, .iload_n 1, 1), (1, .istore_n 2, 1), (2, .iconst 0, 1), (3, .istore_n 3, 1), (4, .iload_n 3, 1), (5, .aload_n 0, 1), (6, .getfield 141, 3), (9, .aload_n 0, 1), (10, .getfield 227, 3), (13, .iaload, 1), (14, .if_icmp .ge 35, 3), (17, .aload_n 0, 1), (18, .getfield 150, 3), (21, .bipush 12, 2), (23, .aload_n 0, 1), (24, .getfield 227, 3), (27, .imul, 1), (28, .iload_n 3, 1), (29, .iadd, 1), (30, .iaload, 1), (31, .ifCond .ne 12, 3), (34, .iload_n 2, 1), (35, .ifCond .ne 5, 3), (38, .iload_n 3, 1), (39, .ireturn, 1), (40, .iinc 2 (-1), 3), (43, .iinc 3 1, 3), (46, .goto (-42), 3), (49, .bipush (-9), 2), (51, .ireturn, 1)]
theorem dk_Mo_unused (i : Nat) {pc : Nat} {ins : Instr} {len : Nat} (h : dt_Mo_unused[i]? = some (pc, ins, len)) : decode m_Mo_unused.2.1 pc = .ok (ins, len) := p_dk (b := m_Mo_unused.2.1) (t := dt_Mo_unused) (by decide +kernel) i h
def B_Mo_unused_43 (k4 : Nat → Int → Int → p_Hp → Option (Int × p_Hp)) (v0 : Nat) (v2 : Int) (v3 : Int) (s0 : p_Hp) : Option (Int × p_Hp) :=
  p_bi (p_w (v3 + 1)) fun x1 =>
  k4 v0 v2 x1 s0
def L_Mo_unused_4 (k4 : Nat → Int → Int → p_Hp → Option (Int × p_Hp)) (v0 : Nat) (v2 : Int) (v3 : Int) (s0 : p_Hp) : Option (Int × p_Hp) :=
  p_gd (p_is s0 v0 11) <|
  p_gd (p_is s0 (p_R s0 v0 48) 100) <|
  p_gd ((0 : Int) ≤ (p_Z s0 v0 0) ∧ (p_Z s0 v0 0) < (p_L s0 (p_R s0 v0 48) : Int)) <|
  if (p_Z s0 (p_R s0 v0 48) ((p_Z s0 v0 0) : Int).toNat) ≤ v3 then
    some ((-9), s0)
  else
    p_gd (p_is s0 (p_R s0 v0 51) 100) <|
    p_gd ((0 : Int) ≤ (p_w ((p_w (12 * (p_Z s0 v0 0))) + v3)) ∧ (p_w ((p_w (12 * (p_Z s0 v0 0))) + v3)) < (p_L s0 (p_R s0 v0 51) : Int)) <|
    if (p_Z s0 (p_R s0 v0 51) ((p_w ((p_w (12 * (p_Z s0 v0 0))) + v3)) : Int).toNat) ≠ 0 then
      B_Mo_unused_43 k4 v0 v2 v3 s0
    else
      if v2 ≠ 0 then
        p_bi (p_w (v2 + (-1))) fun x9 =>
        B_Mo_unused_43 k4 v0 x9 v3 s0
      else
        some (v3, s0)
def O_Mo_unused_4  : Nat → Nat → Int → Int → p_Hp → Option (Int × p_Hp)
  | 0 => fun _ _ _ _ => none
  | n + 1 => L_Mo_unused_4 (O_Mo_unused_4 n)
def F_Mo_unused (v0 : Nat) (v1 : Int) (s0 : p_Hp) : Option (Int × p_Hp) :=
  O_Mo_unused_4 3000 v0 v1 0 s0
set_option maxRecDepth 100000 in
set_option maxHeartbeats 4000000 in
theorem tB_Mo_unused_43 (K : p_K) (l : Launch) (k4 : Nat → Int → Int → p_Hp → Option (Int × p_Hp)) (hk4 : ∀ (v0 : Nat) (v2 : Int) (v3 : Int)  (s0 : p_Hp) (r : (Int × p_Hp)), k4 v0 v2 v3 s0 = some r → p_Go K l m_Mo_unused 4 [(0, p_r v0), (2, p_i v2), (3, p_i v3)] [] s0 (some (p_i r.1), r.2)) (v0 : Nat) (v2 : Int) (v3 : Int) (s0 : p_Hp) (r : (Int × p_Hp)) (h : B_Mo_unused_43 k4 v0 v2 v3 s0 = some r) : p_Go K l m_Mo_unused 43 [(0, p_r v0), (2, p_i v2), (3, p_i v3)] [] s0 (some (p_i r.1), r.2) := by
  unfold B_Mo_unused_43 at h
  refine g_iinc (j := 2) [(3, p_i (p_w (v3 + 1))), (0, p_r v0), (2, p_i v2)] (dk_Mo_unused 26 rfl) rfl (by decide) rfl ?_
  refine p_ltG (P := fun q => p_Go K l m_Mo_unused 46 [(3, p_i q), (0, p_r v0), (2, p_i v2)] [] s0 _) ?_ h
  intro x1 h
  refine g_goto 4 (dk_Mo_unused 27 rfl) (by decide) ?_
  refine g_sub [(0, p_r v0), (2, p_i v2), (3, p_i x1)] [1, 2, 0] rfl ?_
  exact hk4 v0 v2 x1 s0 _ h
set_option maxRecDepth 100000 in
set_option maxHeartbeats 4000000 in
theorem tL_Mo_unused_4 (K : p_K) (l : Launch) (k4 : Nat → Int → Int → p_Hp → Option (Int × p_Hp)) (hk4 : ∀ (v0 : Nat) (v2 : Int) (v3 : Int)  (s0 : p_Hp) (r : (Int × p_Hp)), k4 v0 v2 v3 s0 = some r → p_Go K l m_Mo_unused 4 [(0, p_r v0), (2, p_i v2), (3, p_i v3)] [] s0 (some (p_i r.1), r.2)) (v0 : Nat) (v2 : Int) (v3 : Int) (s0 : p_Hp) (r : (Int × p_Hp)) (h : L_Mo_unused_4 k4 v0 v2 v3 s0 = some r) : p_Go K l m_Mo_unused 4 [(0, p_r v0), (2, p_i v2), (3, p_i v3)] [] s0 (some (p_i r.1), r.2) := by
  unfold L_Mo_unused_4 at h
  refine g_iload_n (i := 3) (j := 2) (dk_Mo_unused 4 rfl) rfl rfl ?_
  refine g_aload_n (i := 0) (j := 0) (dk_Mo_unused 5 rfl) rfl rfl ?_
  obtain ⟨c1, h⟩ := p_gdE h
  refine g_getR fl_Mo_141 (Or.inr ⟨_, rfl⟩) (dk_Mo_unused 6 rfl) c1 ?_
  refine g_aload_n (i := 0) (j := 0) (dk_Mo_unused 7 rfl) rfl rfl ?_
  refine g_getI fl_Mo_227 (Or.inl rfl) (dk_Mo_unused 8 rfl) c1 ?_
  obtain ⟨c2, h⟩ := p_gdE h
  obtain ⟨c3, h⟩ := p_gdE h
  refine g_iaload (dk_Mo_unused 9 rfl) c2 c3.1 c3.2 ?_
  refine g_icmp_ge 49 (dk_Mo_unused 10 rfl) (by decide) (fun b4 => ?_) (fun b4 => ?_)
  · have h := p_ifT b4 h
    refine g_bipush (dk_Mo_unused 28 rfl) (by decide +kernel) (by decide) ?_
    cases h
    exact g_ret rfl rfl (dk_Mo_unused 29 rfl) (fun os => ⟨_, rfl, p_okh os⟩)
  · have h := p_ifF b4 h
    refine g_aload_n (i := 0) (j := 0) (dk_Mo_unused 11 rfl) rfl rfl ?_
    refine g_getR fl_Mo_150 (Or.inr ⟨_, rfl⟩) (dk_Mo_unused 12 rfl) c1 ?_
    refine g_bipush (dk_Mo_unused 13 rfl) (by decide +kernel) (by decide) ?_
    refine g_aload_n (i := 0) (j := 0) (dk_Mo_unused 14 rfl) rfl rfl ?_
    refine g_getI fl_Mo_227 (Or.inl rfl) (dk_Mo_unused 15 rfl) c1 ?_
    refine g_imul (dk_Mo_unused 16 rfl) ?_
    refine g_iload_n (i := 3) (j := 2) (dk_Mo_unused 17 rfl) rfl rfl ?_
    refine g_iadd (dk_Mo_unused 18 rfl) ?_
    obtain ⟨c5, h⟩ := p_gdE h
    obtain ⟨c6, h⟩ := p_gdE h
    refine g_iaload (dk_Mo_unused 19 rfl) c5 c6.1 c6.2 ?_
    refine g_if_ne 43 (dk_Mo_unused 20 rfl) (by decide) (fun b7 => ?_) (fun b7 => ?_)
    · have h := p_ifT b7 h
      exact tB_Mo_unused_43 K l k4 hk4 v0 v2 v3 s0 _ h
    · have h := p_ifF b7 h
      refine g_iload_n (i := 2) (j := 1) (dk_Mo_unused 21 rfl) rfl rfl ?_
      refine g_if_ne 40 (dk_Mo_unused 22 rfl) (by decide) (fun b8 => ?_) (fun b8 => ?_)
      · have h := p_ifT b8 h
        refine g_iinc (j := 1) [(2, p_i (p_w (v2 + (-1)))), (0, p_r v0), (3, p_i v3)] (dk_Mo_unused 25 rfl) rfl (by decide) rfl ?_
        refine p_ltG (P := fun q => p_Go K l m_Mo_unused 43 [(2, p_i q), (0, p_r v0), (3, p_i v3)] [] s0 _) ?_ h
        intro x9 h
        refine g_sub [(0, p_r v0), (2, p_i x9), (3, p_i v3)] [1, 0, 2] rfl ?_
        exact tB_Mo_unused_43 K l k4 hk4 v0 x9 v3 s0 _ h
      · have h := p_ifF b8 h
        refine g_iload_n (i := 3) (j := 2) (dk_Mo_unused 23 rfl) rfl rfl ?_
        cases h
        exact g_ret rfl rfl (dk_Mo_unused 24 rfl) (fun os => ⟨_, rfl, p_okh os⟩)
set_option maxRecDepth 100000 in
set_option maxHeartbeats 4000000 in
theorem tO_Mo_unused_4 (K : p_K) (l : Launch)  : ∀ (n : Nat) (v0 : Nat) (v2 : Int) (v3 : Int) (s0 : p_Hp) (r : (Int × p_Hp)), O_Mo_unused_4 n v0 v2 v3 s0 = some r → p_Go K l m_Mo_unused 4 [(0, p_r v0), (2, p_i v2), (3, p_i v3)] [] s0 (some (p_i r.1), r.2) := by
  intro n
  induction n with
  | zero => intro v0 v2 v3 s0 r h; cases (show (none : Option (Int × p_Hp)) = some r from h)
  | succ n ih => intro v0 v2 v3 s0 r h; exact tL_Mo_unused_4 K l _ ih v0 v2 v3 s0 r h
set_option maxRecDepth 100000 in
set_option maxHeartbeats 4000000 in
theorem tF_Mo_unused (K : p_K) (l : Launch) (v0 : Nat) (v1 : Int) (s0 : p_Hp) (r : (Int × p_Hp)) (h : F_Mo_unused v0 v1 s0 = some r) : p_Ct K l m_Mo_unused [p_r v0, p_i v1] s0 (some (p_i r.1), r.2) := by
  refine p_Ct.of (by decide +kernel) (Nat.le_of_ble_eq_true rfl) ?_
  unfold F_Mo_unused at h
  show p_Go K l m_Mo_unused 0 [(0, p_r v0), (1, p_i v1)] [] s0 _
  refine g_iload_n (i := 1) (j := 1) (dk_Mo_unused 0 rfl) rfl rfl ?_
  refine g_istore_n (i := 2) [(2, p_i v1), (0, p_r v0), (1, p_i v1)] (dk_Mo_unused 1 rfl) rfl (by decide) rfl ?_
  refine g_iconst (dk_Mo_unused 2 rfl) (by decide) ?_
  refine g_istore_n (i := 3) [(3, p_i 0), (2, p_i v1), (0, p_r v0), (1, p_i v1)] (dk_Mo_unused 3 rfl) rfl (by decide) rfl ?_
  refine g_sub [(0, p_r v0), (2, p_i v1), (3, p_i 0)] [2, 1, 0] rfl ?_
  exact tO_Mo_unused_4 K l 3000 v0 v1 0 s0 _ h
def m_Mo_finding : p_Me := (⟨"SortWorksModel", "finding", "(II)I"⟩, prog_13_method_109_code, 3, (some .int), 1, 25)
theorem mt_Mo_finding : p_Mt m_Mo_finding 2 := ⟨p_mem (p_tb9 (List.mem_of_getElem? (i := 15) rfl)) rfl, tw_1_12, by decide +kernel, by decide +kernel, by decide +kernel⟩
def dt_Mo_finding : List (Nat × Instr × Nat) := [(0, .iload_n 1, 1), (1, .ifCond .lt 34, 3), (4, .iload_n 1, 1), (5, .bipush 40, 2), (7, .if_icmp .ge 28, 3), (10, .iload_n 1, 1), (11, .aload_n 0, 1), (12, .getfield 126, 3), (15, .aload_n 0, 1), (16, .getfield 227, 3), (19, .iaload, 1), (20, .if_icmp .ge 15, 3), (23, .iload_n 2, 1), (24, .i2l, 1), (25, .lconst 0, 1), (26, .ldc2_w 330, 3), (29, .invokestatic 230, 3), (32, .ifCond .eq 6, 3), (35, .bipush (-9), 2), (37, .ireturn, 1), (38, .aload_n 0, 1), (39, .getfield 129, 3), (42, .iconst 5, 1), (43, .bipush 40, 2), (45, .aload_n 0, 1), (46, .getfield 227, 3), (49, .imul, 1), (50, .aload_n 0, 1), (51, .getfield 126, 3), (54, .aload_n 0, 1), (55, .getfield 227, 3), (58, .iaload, 1), (59, .iconst 1, 1), (60, .isub, 1), (61, .iload_n 1, 1), (62, .isub, 1), (63, .bipush 40, 2), (65, .irem, 1), (66, .iadd, 1), (67, .imul, 1), (68, .iload_n 2, 1), (69, .iadd, 1), (70, .iaload, 1), (71, .ireturn, 1)]
theorem dk_Mo_finding (i : Nat) {pc : Nat} {ins : Instr} {len : Nat} (h : dt_Mo_finding[i]? = some (pc, ins, len)) : decode m_Mo_finding.2.1 pc = .ok (ins, len) := p_dk (b := m_Mo_finding.2.1) (t := dt_Mo_finding) (by decide +kernel) i h
def F_Mo_finding (v0 : Nat) (v1 : Int) (v2 : Int) (s0 : p_Hp) : Option (Int × p_Hp) :=
  if v1 < 0 then
    some ((-9), s0)
  else
    if 40 ≤ v1 then
      some ((-9), s0)
    else
      p_gd (p_is s0 v0 11) <|
      p_gd (p_is s0 (p_R s0 v0 42) 100) <|
      p_gd ((0 : Int) ≤ (p_Z s0 v0 0) ∧ (p_Z s0 v0 0) < (p_L s0 (p_R s0 v0 42) : Int)) <|
      if (p_Z s0 (p_R s0 v0 42) ((p_Z s0 v0 0) : Int).toNat) ≤ v1 then
        some ((-9), s0)
      else
        p_bd (F_Mo_beyond v2 0 4 s0) fun r11 s7 =>
        if r11 = 0 then
          p_gd (p_is s7 (p_R s7 v0 42) 100) <|
          p_gd ((0 : Int) ≤ (p_Z s7 v0 0) ∧ (p_Z s7 v0 0) < (p_L s7 (p_R s7 v0 42) : Int)) <|
          p_gd (p_is s7 (p_R s7 v0 43) 100) <|
          p_gd ((0 : Int) ≤ (p_w ((p_w (5 * (p_w ((p_w (40 * (p_Z s7 v0 0))) + (p_rem (p_w ((p_w ((p_Z s7 (p_R s7 v0 42) ((p_Z s7 v0 0) : Int).toNat) - 1)) - v1)) 40))))) + v2)) ∧ (p_w ((p_w (5 * (p_w ((p_w (40 * (p_Z s7 v0 0))) + (p_rem (p_w ((p_w ((p_Z s7 (p_R s7 v0 42) ((p_Z s7 v0 0) : Int).toNat) - 1)) - v1)) 40))))) + v2)) < (p_L s7 (p_R s7 v0 43) : Int)) <|
          some ((p_Z s7 (p_R s7 v0 43) ((p_w ((p_w (5 * (p_w ((p_w (40 * (p_Z s7 v0 0))) + (p_rem (p_w ((p_w ((p_Z s7 (p_R s7 v0 42) ((p_Z s7 v0 0) : Int).toNat) - 1)) - v1)) 40))))) + v2)) : Int).toNat), s7)
        else
          some ((-9), s7)
set_option maxRecDepth 100000 in
set_option maxHeartbeats 4000000 in
theorem tF_Mo_finding (K : p_K) (l : Launch) (v0 : Nat) (v1 : Int) (v2 : Int) (s0 : p_Hp) (r : (Int × p_Hp)) (h : F_Mo_finding v0 v1 v2 s0 = some r) : p_Ct K l m_Mo_finding [p_r v0, p_i v1, p_i v2] s0 (some (p_i r.1), r.2) := by
  refine p_Ct.of (by decide +kernel) (Nat.le_of_ble_eq_true rfl) ?_
  unfold F_Mo_finding at h
  show p_Go K l m_Mo_finding 0 [(0, p_r v0), (1, p_i v1), (2, p_i v2)] [] s0 _
  refine g_iload_n (i := 1) (j := 1) (dk_Mo_finding 0 rfl) rfl rfl ?_
  refine g_if_lt 35 (dk_Mo_finding 1 rfl) (by decide) (fun b1 => ?_) (fun b1 => ?_)
  · have h := p_ifT b1 h
    refine g_bipush (dk_Mo_finding 18 rfl) (by decide +kernel) (by decide) ?_
    cases h
    exact g_ret rfl rfl (dk_Mo_finding 19 rfl) (fun os => ⟨_, rfl, p_okh os⟩)
  · have h := p_ifF b1 h
    refine g_iload_n (i := 1) (j := 1) (dk_Mo_finding 2 rfl) rfl rfl ?_
    refine g_bipush (dk_Mo_finding 3 rfl) (by decide +kernel) (by decide) ?_
    refine g_icmp_ge 35 (dk_Mo_finding 4 rfl) (by decide) (fun b2 => ?_) (fun b2 => ?_)
    · have h := p_ifT b2 h
      refine g_bipush (dk_Mo_finding 18 rfl) (by decide +kernel) (by decide) ?_
      cases h
      exact g_ret rfl rfl (dk_Mo_finding 19 rfl) (fun os => ⟨_, rfl, p_okh os⟩)
    · have h := p_ifF b2 h
      refine g_iload_n (i := 1) (j := 1) (dk_Mo_finding 5 rfl) rfl rfl ?_
      refine g_aload_n (i := 0) (j := 0) (dk_Mo_finding 6 rfl) rfl rfl ?_
      obtain ⟨c3, h⟩ := p_gdE h
      refine g_getR fl_Mo_126 (Or.inr ⟨_, rfl⟩) (dk_Mo_finding 7 rfl) c3 ?_
      refine g_aload_n (i := 0) (j := 0) (dk_Mo_finding 8 rfl) rfl rfl ?_
      refine g_getI fl_Mo_227 (Or.inl rfl) (dk_Mo_finding 9 rfl) c3 ?_
      obtain ⟨c4, h⟩ := p_gdE h
      obtain ⟨c5, h⟩ := p_gdE h
      refine g_iaload (dk_Mo_finding 10 rfl) c4 c5.1 c5.2 ?_
      refine g_icmp_ge 35 (dk_Mo_finding 11 rfl) (by decide) (fun b6 => ?_) (fun b6 => ?_)
      · have h := p_ifT b6 h
        refine g_bipush (dk_Mo_finding 18 rfl) (by decide +kernel) (by decide) ?_
        cases h
        exact g_ret rfl rfl (dk_Mo_finding 19 rfl) (fun os => ⟨_, rfl, p_okh os⟩)
      · have h := p_ifF b6 h
        refine g_iload_n (i := 2) (j := 2) (dk_Mo_finding 12 rfl) rfl rfl ?_
        refine g_i2l (dk_Mo_finding 13 rfl) ?_
        refine g_lconst (x := 0) (dk_Mo_finding 14 rfl) rfl (by decide) ?_
        refine g_ldc2_w (x := 4) (dk_Mo_finding 15 rfl) tw_7_191 (by decide) (by decide) ?_
        obtain ⟨r11, s7, q8, h⟩ := p_bdE h
        have t9 := tF_Mo_beyond K l v2 0 4 s0 _ q8
        refine g_callS (av := [p_j v2, p_j 0, p_j 4]) (rest := []) [p_i r11] mt_Mo_beyond tw_7_63 tw_7_62 ⟨Nat.le_of_ble_eq_true rfl, Nat.le_of_ble_eq_true rfl⟩ rfl (Nat.le_of_ble_eq_true rfl) (dk_Mo_finding 16 rfl) rfl rfl t9 ?_
        have hs10 : p_x s0 s7 := t9.1
        show p_Go K l m_Mo_finding 32 [(0, p_r v0), (1, p_i v1), (2, p_i v2)] [p_i r11] s7 _
        refine g_if_eq 38 (dk_Mo_finding 17 rfl) (by decide) (fun b12 => ?_) (fun b12 => ?_)
        · have h := p_ifT b12 h
          refine g_aload_n (i := 0) (j := 0) (dk_Mo_finding 20 rfl) rfl rfl ?_
          refine g_getR fl_Mo_129 (Or.inr ⟨_, rfl⟩) (dk_Mo_finding 21 rfl) (c3.up hs10) ?_
          refine g_iconst (dk_Mo_finding 22 rfl) (by decide) ?_
          refine g_bipush (dk_Mo_finding 23 rfl) (by decide +kernel) (by decide) ?_
          refine g_aload_n (i := 0) (j := 0) (dk_Mo_finding 24 rfl) rfl rfl ?_
          refine g_getI fl_Mo_227 (Or.inl rfl) (dk_Mo_finding 25 rfl) (c3.up hs10) ?_
          refine g_imul (dk_Mo_finding 26 rfl) ?_
          refine g_aload_n (i := 0) (j := 0) (dk_Mo_finding 27 rfl) rfl rfl ?_
          refine g_getR fl_Mo_126 (Or.inr ⟨_, rfl⟩) (dk_Mo_finding 28 rfl) (c3.up hs10) ?_
          refine g_aload_n (i := 0) (j := 0) (dk_Mo_finding 29 rfl) rfl rfl ?_
          refine g_getI fl_Mo_227 (Or.inl rfl) (dk_Mo_finding 30 rfl) (c3.up hs10) ?_
          obtain ⟨c13, h⟩ := p_gdE h
          obtain ⟨c14, h⟩ := p_gdE h
          refine g_iaload (dk_Mo_finding 31 rfl) c13 c14.1 c14.2 ?_
          refine g_iconst (dk_Mo_finding 32 rfl) (by decide) ?_
          refine g_isub (dk_Mo_finding 33 rfl) ?_
          refine g_iload_n (i := 1) (j := 1) (dk_Mo_finding 34 rfl) rfl rfl ?_
          refine g_isub (dk_Mo_finding 35 rfl) ?_
          refine g_bipush (dk_Mo_finding 36 rfl) (by decide +kernel) (by decide) ?_
          refine g_irem (dk_Mo_finding 37 rfl) (by decide) ?_
          refine g_iadd (dk_Mo_finding 38 rfl) ?_
          refine g_imul (dk_Mo_finding 39 rfl) ?_
          refine g_iload_n (i := 2) (j := 2) (dk_Mo_finding 40 rfl) rfl rfl ?_
          refine g_iadd (dk_Mo_finding 41 rfl) ?_
          obtain ⟨c15, h⟩ := p_gdE h
          obtain ⟨c16, h⟩ := p_gdE h
          refine g_iaload (dk_Mo_finding 42 rfl) c15 c16.1 c16.2 ?_
          cases h
          exact g_ret rfl rfl (dk_Mo_finding 43 rfl) (fun os => ⟨_, rfl, p_okh os⟩)
        · have h := p_ifF b12 h
          refine g_bipush (dk_Mo_finding 18 rfl) (by decide +kernel) (by decide) ?_
          cases h
          exact g_ret rfl rfl (dk_Mo_finding 19 rfl) (fun os => ⟨_, rfl, p_okh os⟩)
def m_Mo_trace : p_Me := (⟨"SortWorksModel", "trace", "(I)I"⟩, prog_13_method_110_code, 2, (some .int), 0, 0)
theorem mt_Mo_trace : p_Mt m_Mo_trace 1 := ⟨p_mem (p_tb9 (List.mem_of_getElem? (i := 19) rfl)) rfl, tw_1_12, by decide +kernel, by decide +kernel, by decide +kernel⟩
def dt_Mo_trace : List (Nat × Instr × Nat) := [(0, .iload_n 1, 1), (1, .ifCond .lt 22, 3), (4, .iload_n 1, 1), (5, .bipush 60, 2), (7, .if_icmp .ge 16, 3), (10, .iload_n 1, 1), (11, .aload_n 0, 1), (12, .getfield 132, 3), (15, .aload_n 0, 1), (16, .getfield 227, 3), (19, .iaload, 1), (20, .if_icmp .lt 8, 3), (23, .bipush (-9), 2), (25, .goto 17, 3), (28, .aload_n 0, 1), (29, .getfield 135, 3), (32, .bipush 60, 2), (34, .aload_n 0, 1), (35, .getfield 227, 3), (38, .imul, 1), (39, .iload_n 1, 1), (40, .iadd, 1), (41, .iaload, 1), (42, .ireturn, 1)]
theorem dk_Mo_trace (i : Nat) {pc : Nat} {ins : Instr} {len : Nat} (h : dt_Mo_trace[i]? = some (pc, ins, len)) : decode m_Mo_trace.2.1 pc = .ok (ins, len) := p_dk (b := m_Mo_trace.2.1) (t := dt_Mo_trace) (by decide +kernel) i h
def B_Mo_trace_23   (s0 : p_Hp) : Option (Int × p_Hp) :=
  some ((-9), s0)
def F_Mo_trace (v0 : Nat) (v1 : Int) (s0 : p_Hp) : Option (Int × p_Hp) :=
  if v1 < 0 then
    B_Mo_trace_23 s0
  else
    if 60 ≤ v1 then
      B_Mo_trace_23 s0
    else
      p_gd (p_is s0 v0 11) <|
      p_gd (p_is s0 (p_R s0 v0 44) 100) <|
      p_gd ((0 : Int) ≤ (p_Z s0 v0 0) ∧ (p_Z s0 v0 0) < (p_L s0 (p_R s0 v0 44) : Int)) <|
      if v1 < (p_Z s0 (p_R s0 v0 44) ((p_Z s0 v0 0) : Int).toNat) then
        p_gd (p_is s0 (p_R s0 v0 45) 100) <|
        p_gd ((0 : Int) ≤ (p_w ((p_w (60 * (p_Z s0 v0 0))) + v1)) ∧ (p_w ((p_w (60 * (p_Z s0 v0 0))) + v1)) < (p_L s0 (p_R s0 v0 45) : Int)) <|
        some ((p_Z s0 (p_R s0 v0 45) ((p_w ((p_w (60 * (p_Z s0 v0 0))) + v1)) : Int).toNat), s0)
      else
        B_Mo_trace_23 s0
set_option maxRecDepth 100000 in
set_option maxHeartbeats 4000000 in
theorem tB_Mo_trace_23 (K : p_K) (l : Launch)   (s0 : p_Hp) (r : (Int × p_Hp)) (h : B_Mo_trace_23  s0 = some r) : p_Go K l m_Mo_trace 23 [] [] s0 (some (p_i r.1), r.2) := by
  unfold B_Mo_trace_23 at h
  refine g_bipush (dk_Mo_trace 12 rfl) (by decide +kernel) (by decide) ?_
  refine g_goto 42 (dk_Mo_trace 13 rfl) (by decide) ?_
  cases h
  exact g_ret rfl rfl (dk_Mo_trace 23 rfl) (fun os => ⟨_, rfl, p_okh os⟩)
set_option maxRecDepth 100000 in
set_option maxHeartbeats 4000000 in
theorem tF_Mo_trace (K : p_K) (l : Launch) (v0 : Nat) (v1 : Int) (s0 : p_Hp) (r : (Int × p_Hp)) (h : F_Mo_trace v0 v1 s0 = some r) : p_Ct K l m_Mo_trace [p_r v0, p_i v1] s0 (some (p_i r.1), r.2) := by
  refine p_Ct.of (by decide +kernel) (Nat.le_of_ble_eq_true rfl) ?_
  unfold F_Mo_trace at h
  show p_Go K l m_Mo_trace 0 [(0, p_r v0), (1, p_i v1)] [] s0 _
  refine g_iload_n (i := 1) (j := 1) (dk_Mo_trace 0 rfl) rfl rfl ?_
  refine g_if_lt 23 (dk_Mo_trace 1 rfl) (by decide) (fun b1 => ?_) (fun b1 => ?_)
  · have h := p_ifT b1 h
    refine g_sub [] [] rfl ?_
    exact tB_Mo_trace_23 K l s0 _ h
  · have h := p_ifF b1 h
    refine g_iload_n (i := 1) (j := 1) (dk_Mo_trace 2 rfl) rfl rfl ?_
    refine g_bipush (dk_Mo_trace 3 rfl) (by decide +kernel) (by decide) ?_
    refine g_icmp_ge 23 (dk_Mo_trace 4 rfl) (by decide) (fun b2 => ?_) (fun b2 => ?_)
    · have h := p_ifT b2 h
      refine g_sub [] [] rfl ?_
      exact tB_Mo_trace_23 K l s0 _ h
    · have h := p_ifF b2 h
      refine g_iload_n (i := 1) (j := 1) (dk_Mo_trace 5 rfl) rfl rfl ?_
      refine g_aload_n (i := 0) (j := 0) (dk_Mo_trace 6 rfl) rfl rfl ?_
      obtain ⟨c3, h⟩ := p_gdE h
      refine g_getR fl_Mo_132 (Or.inr ⟨_, rfl⟩) (dk_Mo_trace 7 rfl) c3 ?_
      refine g_aload_n (i := 0) (j := 0) (dk_Mo_trace 8 rfl) rfl rfl ?_
      refine g_getI fl_Mo_227 (Or.inl rfl) (dk_Mo_trace 9 rfl) c3 ?_
      obtain ⟨c4, h⟩ := p_gdE h
      obtain ⟨c5, h⟩ := p_gdE h
      refine g_iaload (dk_Mo_trace 10 rfl) c4 c5.1 c5.2 ?_
      refine g_icmp_lt 28 (dk_Mo_trace 11 rfl) (by decide) (fun b6 => ?_) (fun b6 => ?_)
      · have h := p_ifT b6 h
        refine g_aload_n (i := 0) (j := 0) (dk_Mo_trace 14 rfl) rfl rfl ?_
        refine g_getR fl_Mo_135 (Or.inr ⟨_, rfl⟩) (dk_Mo_trace 15 rfl) c3 ?_
        refine g_bipush (dk_Mo_trace 16 rfl) (by decide +kernel) (by decide) ?_
        refine g_aload_n (i := 0) (j := 0) (dk_Mo_trace 17 rfl) rfl rfl ?_
        refine g_getI fl_Mo_227 (Or.inl rfl) (dk_Mo_trace 18 rfl) c3 ?_
        refine g_imul (dk_Mo_trace 19 rfl) ?_
        refine g_iload_n (i := 1) (j := 1) (dk_Mo_trace 20 rfl) rfl rfl ?_
        refine g_iadd (dk_Mo_trace 21 rfl) ?_
        obtain ⟨c7, h⟩ := p_gdE h
        obtain ⟨c8, h⟩ := p_gdE h
        refine g_iaload (dk_Mo_trace 22 rfl) c7 c8.1 c8.2 ?_
        cases h
        exact g_ret rfl rfl (dk_Mo_trace 23 rfl) (fun os => ⟨_, rfl, p_okh os⟩)
      · have h := p_ifF b6 h
        refine g_sub [] [] rfl ?_
        exact tB_Mo_trace_23 K l s0 _ h
def m_Mo_jam : p_Me := (⟨"SortWorksModel", "jam", "(I)I"⟩, prog_13_method_111_code, 4, (some .int), 2, 41)
theorem mt_Mo_jam : p_Mt m_Mo_jam 1 := ⟨p_mem (p_tb9 (List.mem_of_getElem? (i := 23) rfl)) rfl, tw_1_12, by decide +kernel, by decide +kernel, by decide +kernel⟩
def dt_Mo_jam : List (Nat × Instr × Nat) := [(0, .iload_n 1, 1), (1, .istore_n 2, 1), (2, .iconst 0, 1), (3, .istore_n 3, 1), (4, .iload_n 3, 1), (5, .aload_n 0, 1), (6, .getfield 7, 3), (9, .aload_n 0, 1), (10, .getfield 227, 3), (13, .iaload, 1), (14, .if_icmp .ge 30, 3), (17, .aload_n 0, 1), (18, .aload_n 0, 1), (19, .iload_n 3, 1), (20, .invokevirtual 257, 3), (23, .invokevirtual 366, 3), (26, .ifCond .eq 12, 3), (29, .iload_n 2, 1), (30, .ifCond .ne 5, 3), (33, .iload_n 3, 1), (34, .ireturn, 1), (35, .iinc 2 (-1), 3), (38, .iinc 3 1, 3), (41, .goto (-37), 3), (44, .bipush (-9), 2), (46, .ireturn, 1)]
theorem dk_Mo_jam (i : Nat) {pc : Nat} {ins : Instr} {len : Nat} (h : dt_Mo_jam[i]? = some (pc, ins, len)) : decode m_Mo_jam.2.1 pc = .ok (ins, len) := p_dk (b := m_Mo_jam.2.1) (t := dt_Mo_jam) (by decide +kernel) i h
def B_Mo_jam_38 (k4 : Nat → Int → Int → p_Hp → Option (Int × p_Hp)) (v0 : Nat) (v2 : Int) (v3 : Int) (s0 : p_Hp) : Option (Int × p_Hp) :=
  p_bi (p_w (v3 + 1)) fun x1 =>
  k4 v0 v2 x1 s0
def L_Mo_jam_4 (k4 : Nat → Int → Int → p_Hp → Option (Int × p_Hp)) (v0 : Nat) (v2 : Int) (v3 : Int) (s0 : p_Hp) : Option (Int × p_Hp) :=
  p_gd (p_is s0 v0 11) <|
  p_gd (p_is s0 (p_R s0 v0 3) 100) <|
  p_gd ((0 : Int) ≤ (p_Z s0 v0 0) ∧ (p_Z s0 v0 0) < (p_L s0 (p_R s0 v0 3) : Int)) <|
  if (p_Z s0 (p_R s0 v0 3) ((p_Z s0 v0 0) : Int).toNat) ≤ v3 then
    some ((-9), s0)
  else
    p_bd (F_Mo_g v0 v3 s0) fun r9 s5 =>
    p_bd (F_Mo_isJammed v0 r9 s5) fun r14 s10 =>
    if r14 = 0 then
      B_Mo_jam_38 k4 v0 v2 v3 s10
    else
      if v2 ≠ 0 then
        p_bi (p_w (v2 + (-1))) fun x17 =>
        B_Mo_jam_38 k4 v0 x17 v3 s10
      else
        some (v3, s10)
def O_Mo_jam_4  : Nat → Nat → Int → Int → p_Hp → Option (Int × p_Hp)
  | 0 => fun _ _ _ _ => none
  | n + 1 => L_Mo_jam_4 (O_Mo_jam_4 n)
def F_Mo_jam (v0 : Nat) (v1 : Int) (s0 : p_Hp) : Option (Int × p_Hp) :=
  O_Mo_jam_4 3000 v0 v1 0 s0
set_option maxRecDepth 100000 in
set_option maxHeartbeats 4000000 in
theorem tB_Mo_jam_38 (K : p_K) (l : Launch) (k4 : Nat → Int → Int → p_Hp → Option (Int × p_Hp)) (hk4 : ∀ (v0 : Nat) (v2 : Int) (v3 : Int)  (s0 : p_Hp) (r : (Int × p_Hp)), k4 v0 v2 v3 s0 = some r → p_Go K l m_Mo_jam 4 [(0, p_r v0), (2, p_i v2), (3, p_i v3)] [] s0 (some (p_i r.1), r.2)) (v0 : Nat) (v2 : Int) (v3 : Int) (s0 : p_Hp) (r : (Int × p_Hp)) (h : B_Mo_jam_38 k4 v0 v2 v3 s0 = some r) : p_Go K l m_Mo_jam 38 [(0, p_r v0), (2, p_i v2), (3, p_i v3)] [] s0 (some (p_i r.1), r.2) := by
  unfold B_Mo_jam_38 at h
  refine g_iinc (j := 2) [(3, p_i (p_w (v3 + 1))), (0, p_r v0), (2, p_i v2)] (dk_Mo_jam 22 rfl) rfl (by decide) rfl ?_
  refine p_ltG (P := fun q => p_Go K l m_Mo_jam 41 [(3, p_i q), (0, p_r v0), (2, p_i v2)] [] s0 _) ?_ h
  intro x1 h
  refine g_goto 4 (dk_Mo_jam 23 rfl) (by decide) ?_
  refine g_sub [(0, p_r v0), (2, p_i v2), (3, p_i x1)] [1, 2, 0] rfl ?_
  exact hk4 v0 v2 x1 s0 _ h
set_option maxRecDepth 100000 in
set_option maxHeartbeats 4000000 in
theorem tL_Mo_jam_4 (K : p_K) (l : Launch) (k4 : Nat → Int → Int → p_Hp → Option (Int × p_Hp)) (hk4 : ∀ (v0 : Nat) (v2 : Int) (v3 : Int)  (s0 : p_Hp) (r : (Int × p_Hp)), k4 v0 v2 v3 s0 = some r → p_Go K l m_Mo_jam 4 [(0, p_r v0), (2, p_i v2), (3, p_i v3)] [] s0 (some (p_i r.1), r.2)) (v0 : Nat) (v2 : Int) (v3 : Int) (s0 : p_Hp) (r : (Int × p_Hp)) (h : L_Mo_jam_4 k4 v0 v2 v3 s0 = some r) : p_Go K l m_Mo_jam 4 [(0, p_r v0), (2, p_i v2), (3, p_i v3)] [] s0 (some (p_i r.1), r.2) := by
  unfold L_Mo_jam_4 at h
  refine g_iload_n (i := 3) (j := 2) (dk_Mo_jam 4 rfl) rfl rfl ?_
  refine g_aload_n (i := 0) (j := 0) (dk_Mo_jam 5 rfl) rfl rfl ?_
  obtain ⟨c1, h⟩ := p_gdE h
  refine g_getR fl_Mo_7 (Or.inr ⟨_, rfl⟩) (dk_Mo_jam 6 rfl) c1 ?_
  refine g_aload_n (i := 0) (j := 0) (dk_Mo_jam 7 rfl) rfl rfl ?_
  refine g_getI fl_Mo_227 (Or.inl rfl) (dk_Mo_jam 8 rfl) c1 ?_
  obtain ⟨c2, h⟩ := p_gdE h
  obtain ⟨c3, h⟩ := p_gdE h
  refine g_iaload (dk_Mo_jam 9 rfl) c2 c3.1 c3.2 ?_
  refine g_icmp_ge 44 (dk_Mo_jam 10 rfl) (by decide) (fun b4 => ?_) (fun b4 => ?_)
  · have h := p_ifT b4 h
    refine g_bipush (dk_Mo_jam 24 rfl) (by decide +kernel) (by decide) ?_
    cases h
    exact g_ret rfl rfl (dk_Mo_jam 25 rfl) (fun os => ⟨_, rfl, p_okh os⟩)
  · have h := p_ifF b4 h
    refine g_aload_n (i := 0) (j := 0) (dk_Mo_jam 11 rfl) rfl rfl ?_
    refine g_aload_n (i := 0) (j := 0) (dk_Mo_jam 12 rfl) rfl rfl ?_
    refine g_iload_n (i := 3) (j := 2) (dk_Mo_jam 13 rfl) rfl rfl ?_
    obtain ⟨r9, s5, q6, h⟩ := p_bdE h
    have t7 := tF_Mo_g K l v0 v3 s0 _ q6
    refine g_callV (a := v0) (ci := 11) (q0 := (RX11, TX11, 90)) (As := [p_i v3]) (rest := [p_r v0]) [p_i r9, p_r v0] mt_Mo_g rfl rfl tw_7_84 ts_45 tw_7_82 ⟨Nat.le_of_ble_eq_true rfl, Nat.le_of_ble_eq_true rfl⟩ rfl (Nat.le_of_ble_eq_true rfl) (dk_Mo_jam 14 rfl) rfl c1 rfl t7 ?_
    have hs8 : p_x s0 s5 := t7.1
    show p_Go K l m_Mo_jam 23 [(0, p_r v0), (2, p_i v2), (3, p_i v3)] [p_i r9, p_r v0] s5 _
    obtain ⟨r14, s10, q11, h⟩ := p_bdE h
    have t12 := tF_Mo_isJammed K l v0 r9 s5 _ q11
    refine g_callV (a := v0) (ci := 11) (q0 := (RX11, TX11, 90)) (As := [p_i r9]) (rest := []) [p_i r14] mt_Mo_isJammed rfl rfl tw_8_17 ts_65 tw_8_15 ⟨Nat.le_of_ble_eq_true rfl, Nat.le_of_ble_eq_true rfl⟩ rfl (Nat.le_of_ble_eq_true rfl) (dk_Mo_jam 15 rfl) rfl (c1.up hs8) rfl t12 ?_
    have hs13 : p_x s5 s10 := t12.1
    show p_Go K l m_Mo_jam 26 [(0, p_r v0), (2, p_i v2), (3, p_i v3)] [p_i r14] s10 _
    refine g_if_eq 38 (dk_Mo_jam 16 rfl) (by decide) (fun b15 => ?_) (fun b15 => ?_)
    · have h := p_ifT b15 h
      exact tB_Mo_jam_38 K l k4 hk4 v0 v2 v3 s10 _ h
    · have h := p_ifF b15 h
      refine g_iload_n (i := 2) (j := 1) (dk_Mo_jam 17 rfl) rfl rfl ?_
      refine g_if_ne 35 (dk_Mo_jam 18 rfl) (by decide) (fun b16 => ?_) (fun b16 => ?_)
      · have h := p_ifT b16 h
        refine g_iinc (j := 1) [(2, p_i (p_w (v2 + (-1)))), (0, p_r v0), (3, p_i v3)] (dk_Mo_jam 21 rfl) rfl (by decide) rfl ?_
        refine p_ltG (P := fun q => p_Go K l m_Mo_jam 38 [(2, p_i q), (0, p_r v0), (3, p_i v3)] [] s10 _) ?_ h
        intro x17 h
        refine g_sub [(0, p_r v0), (2, p_i x17), (3, p_i v3)] [1, 0, 2] rfl ?_
        exact tB_Mo_jam_38 K l k4 hk4 v0 x17 v3 s10 _ h
      · have h := p_ifF b16 h
        refine g_iload_n (i := 3) (j := 2) (dk_Mo_jam 19 rfl) rfl rfl ?_
        cases h
        exact g_ret rfl rfl (dk_Mo_jam 20 rfl) (fun os => ⟨_, rfl, p_okh os⟩)
set_option maxRecDepth 100000 in
set_option maxHeartbeats 4000000 in
theorem tO_Mo_jam_4 (K : p_K) (l : Launch)  : ∀ (n : Nat) (v0 : Nat) (v2 : Int) (v3 : Int) (s0 : p_Hp) (r : (Int × p_Hp)), O_Mo_jam_4 n v0 v2 v3 s0 = some r → p_Go K l m_Mo_jam 4 [(0, p_r v0), (2, p_i v2), (3, p_i v3)] [] s0 (some (p_i r.1), r.2) := by
  intro n
  induction n with
  | zero => intro v0 v2 v3 s0 r h; cases (show (none : Option (Int × p_Hp)) = some r from h)
  | succ n ih => intro v0 v2 v3 s0 r h; exact tL_Mo_jam_4 K l _ ih v0 v2 v3 s0 r h
set_option maxRecDepth 100000 in
set_option maxHeartbeats 4000000 in
theorem tF_Mo_jam (K : p_K) (l : Launch) (v0 : Nat) (v1 : Int) (s0 : p_Hp) (r : (Int × p_Hp)) (h : F_Mo_jam v0 v1 s0 = some r) : p_Ct K l m_Mo_jam [p_r v0, p_i v1] s0 (some (p_i r.1), r.2) := by
  refine p_Ct.of (by decide +kernel) (Nat.le_of_ble_eq_true rfl) ?_
  unfold F_Mo_jam at h
  show p_Go K l m_Mo_jam 0 [(0, p_r v0), (1, p_i v1)] [] s0 _
  refine g_iload_n (i := 1) (j := 1) (dk_Mo_jam 0 rfl) rfl rfl ?_
  refine g_istore_n (i := 2) [(2, p_i v1), (0, p_r v0), (1, p_i v1)] (dk_Mo_jam 1 rfl) rfl (by decide) rfl ?_
  refine g_iconst (dk_Mo_jam 2 rfl) (by decide) ?_
  refine g_istore_n (i := 3) [(3, p_i 0), (2, p_i v1), (0, p_r v0), (1, p_i v1)] (dk_Mo_jam 3 rfl) rfl (by decide) rfl ?_
  refine g_sub [(0, p_r v0), (2, p_i v1), (3, p_i 0)] [2, 1, 0] rfl ?_
  exact tO_Mo_jam_4 K l 3000 v0 v1 0 s0 _ h
def m_Mo_ahead : p_Me := (⟨"SortWorksModel", "ahead", "(II)V"⟩, prog_13_method_112_code, 7, none, 3, 69)
theorem mt_Mo_ahead : p_Mt m_Mo_ahead 2 := ⟨p_mem (p_tb9 (List.mem_of_getElem? (i := 35) rfl)) rfl, tw_1_12, by decide +kernel, by decide +kernel, by decide +kernel⟩
def dt_Mo_ahead : List (Nat × Instr × Nat) := [(0, .aload_n 0, 1), (1, .iload_n 1, 1), (2, .invokevirtual 257, 3), (5, .istore_n 3, 1), (6, .aload_n 0, 1), (7, .getfield 16, 3), (10, .iload_n 3, 1), (11, .iaload, 1), (12, .invokestatic 252, 3), (15, .ifCond .eq 14, 3), (18, .aload_n 0, 1), (19, .getfield 16, 3), (22, .iload_n 3, 1), (23, .iaload, 1), (24, .bipush 7, 2), (26, .if_icmp .ne 7, 3), (29, .iconst 0, 1), (30, .goto 28, 3), (33, .aload_n 0, 1), (34, .getfield 16, 3), (37, .iload_n 3, 1), (38, .iaload, 1), (39, .invokestatic 234, 3), (42, .ifCond .eq 15, 3), (45, .aload_n 0, 1), (46, .getfield 16, 3), (49, .iload_n 3, 1), (50, .iaload, 1), (51, .invokestatic 277, 3), (54, .goto 4, 3), (57, .iconst 1, 1), (58, .istore 4, 2), (60, .iconst 0, 1), (61, .istore 5, 2), (63, .iload 5, 2), (65, .iload 4, 2), (67, .if_icmp .ge 97, 3), (70, .aload_n 0, 1), (71, .iload_n 1, 1), (72, .iload 5, 2), (74, .invokevirtual 388, 3), (77, .ifCond .ne 81, 3), (80, .aload_n 0, 1), (81, .getfield 16, 3), (84, .aload_n 0, 1), (85, .aload_n 0, 1), (86, .getfield 385, 3), (89, .invokevirtual 257, 3), (92, .iaload, 1), (93, .invokestatic 252, 3), (96, .ifCond .eq 62, 3), (99, .iload_n 2, 1), (100, .aload_n 0, 1), (101, .getfield 19, 3), (104, .iload_n 3, 1), (105, .iaload, 1), (106, .iadd, 1), (107, .istore 6, 2), (109, .aload_n 0, 1), (110, .getfield 217, 3), (113, .aload_n 0, 1), (114, .getfield 385, 3), (117, .aload_n 0, 1), (118, .getfield 217, 3), (121, .aload_n 0, 1), (122, .getfield 385, 3), (125, .iaload, 1), (126, .ifCond .lt 17, 3), (129, .iload 6, 2), (131, .aload_n 0, 1), (132, .getfield 217, 3), (135, .aload_n 0, 1), (136, .getfield 385, 3), (139, .iaload, 1), (140, .if_icmp .ge 8, 3), (143, .iload 6, 2), (145, .goto 12, 3), (148, .aload_n 0, 1), (149, .getfield 217, 3), (152, .aload_n 0, 1), (153, .getfield 385, 3), (156, .iaload, 1), (157, .iastore, 1), (158, .iinc 5 1, 3), (161, .goto (-98), 3), (164, .return_, 1)]
theorem dk_Mo_ahead (i : Nat) {pc : Nat} {ins : Instr} {len : Nat} (h : dt_Mo_ahead[i]? = some (pc, ins, len)) : decode m_Mo_ahead.2.1 pc = .ok (ins, len) := p_dk (b := m_Mo_ahead.2.1) (t := dt_Mo_ahead) (by decide +kernel) i h
def B_Mo_ahead_158 (k63 : Nat → Int → Int → Int → Int → Int → p_Hp → Option p_Hp) (v0 : Nat) (v1 : Int) (v2 : Int) (v3 : Int) (v4 : Int) (v5 : Int) (s0 : p_Hp) : Option p_Hp :=
  p_bi (p_w (v5 + 1)) fun x1 =>
  k63 v0 v1 v2 v3 v4 x1 s0
def B_Mo_ahead_157 (k63 : Nat → Int → Int → Int → Int → Int → p_Hp → Option p_Hp) (v0 : Nat) (v1 : Int) (v2 : Int) (v3 : Int) (v4 : Int) (v5 : Int) (w0 : Int) (w1 : Int) (w2 : Nat) (s0 : p_Hp) : Option p_Hp :=
  p_gd (p_is s0 w2 100) <|
  p_gd ((0 : Int) ≤ w1 ∧ w1 < (p_L s0 w2 : Int)) <|
  p_bi (p_wZ s0 w2 (w1 : Int).toNat w0) fun s3 =>
  B_Mo_ahead_158 k63 v0 v1 v2 v3 v4 v5 s3
def B_Mo_ahead_143 (k63 : Nat → Int → Int → Int → Int → Int → p_Hp → Option p_Hp) (v0 : Nat) (v1 : Int) (v2 : Int) (v3 : Int) (v4 : Int) (v5 : Int) (v6 : Int) (w0 : Int) (w1 : Nat) (s0 : p_Hp) : Option p_Hp :=
  B_Mo_ahead_157 k63 v0 v1 v2 v3 v4 v5 v6 w0 w1 s0
def L_Mo_ahead_63 (k63 : Nat → Int → Int → Int → Int → Int → p_Hp → Option p_Hp) (v0 : Nat) (v1 : Int) (v2 : Int) (v3 : Int) (v4 : Int) (v5 : Int) (s0 : p_Hp) : Option p_Hp :=
  if v4 ≤ v5 then
    some s0
  else
    p_gd (p_is s0 v0 11) <|
    p_bd (F_Mo_follow v0 v1 v5 s0) fun r7 s3 =>
    if r7 ≠ 0 then
      B_Mo_ahead_158 k63 v0 v1 v2 v3 v4 v5 s3
    else
      p_bd (F_Mo_g v0 (p_Z s3 v0 73) s3) fun r13 s9 =>
      p_gd (p_is s9 (p_R s3 v0 5) 100) <|
      p_gd ((0 : Int) ≤ r13 ∧ r13 < (p_L s9 (p_R s3 v0 5) : Int)) <|
      p_bd (F_Mo_isTaker (p_Z s9 (p_R s3 v0 5) (r13 : Int).toNat) s9) fun r20 s16 =>
      if r20 = 0 then
        B_Mo_ahead_158 k63 v0 v1 v2 v3 v4 v5 s16
      else
        p_gd (p_is s16 (p_R s16 v0 6) 100) <|
        p_gd ((0 : Int) ≤ v3 ∧ v3 < (p_L s16 (p_R s16 v0 6) : Int)) <|
        p_bi ((p_w (v2 + (p_Z s16 (p_R s16 v0 6) (v3 : Int).toNat)))) fun x24 =>
        p_gd (p_is s16 (p_R s16 v0 88) 100) <|
        p_gd ((0 : Int) ≤ (p_Z s16 v0 73) ∧ (p_Z s16 v0 73) < (p_L s16 (p_R s16 v0 88) : Int)) <|
        if (p_Z s16 (p_R s16 v0 88) ((p_Z s16 v0 73) : Int).toNat) < 0 then
          B_Mo_ahead_143 k63 v0 v1 v2 v3 v4 v5 x24 (p_Z s16 v0 73) (p_R s16 v0 88) s16
        else
          p_gd ((0 : Int) ≤ (p_Z s16 v0 73) ∧ (p_Z s16 v0 73) < (p_L s16 (p_R s16 v0 88) : Int)) <|
          if (p_Z s16 (p_R s16 v0 88) ((p_Z s16 v0 73) : Int).toNat) ≤ x24 then
            p_gd ((0 : Int) ≤ (p_Z s16 v0 73) ∧ (p_Z s16 v0 73) < (p_L s16 (p_R s16 v0 88) : Int)) <|
            B_Mo_ahead_157 k63 v0 v1 v2 v3 v4 v5 (p_Z s16 (p_R s16 v0 88) ((p_Z s16 v0 73) : Int).toNat) (p_Z s16 v0 73) (p_R s16 v0 88) s16
          else
            B_Mo_ahead_143 k63 v0 v1 v2 v3 v4 v5 x24 (p_Z s16 v0 73) (p_R s16 v0 88) s16
def O_Mo_ahead_63  : Nat → Nat → Int → Int → Int → Int → Int → p_Hp → Option p_Hp
  | 0 => fun _ _ _ _ _ _ _ => none
  | n + 1 => L_Mo_ahead_63 (O_Mo_ahead_63 n)
def B_Mo_ahead_58  (v0 : Nat) (v1 : Int) (v2 : Int) (v3 : Int) (w0 : Int) (s0 : p_Hp) : Option p_Hp :=
  O_Mo_ahead_63 3000 v0 v1 v2 v3 w0 0 s0
def B_Mo_ahead_29  (v0 : Nat) (v1 : Int) (v2 : Int) (v3 : Int) (s0 : p_Hp) : Option p_Hp :=
  B_Mo_ahead_58 v0 v1 v2 v3 0 s0
def F_Mo_ahead (v0 : Nat) (v1 : Int) (v2 : Int) (s0 : p_Hp) : Option p_Hp :=
  p_gd (p_is s0 v0 11) <|
  p_bd (F_Mo_g v0 v1 s0) fun r6 s2 =>
  p_gd (p_is s2 (p_R s2 v0 5) 100) <|
  p_gd ((0 : Int) ≤ r6 ∧ r6 < (p_L s2 (p_R s2 v0 5) : Int)) <|
  p_bd (F_Mo_isTaker (p_Z s2 (p_R s2 v0 5) (r6 : Int).toNat) s2) fun r13 s9 =>
  if r13 = 0 then
    B_Mo_ahead_29 v0 v1 v2 r6 s9
  else
    p_gd (p_is s9 (p_R s9 v0 5) 100) <|
    p_gd ((0 : Int) ≤ r6 ∧ r6 < (p_L s9 (p_R s9 v0 5) : Int)) <|
    if (p_Z s9 (p_R s9 v0 5) (r6 : Int).toNat) ≠ 7 then
      p_gd ((0 : Int) ≤ r6 ∧ r6 < (p_L s9 (p_R s9 v0 5) : Int)) <|
      p_bd (F_Mo_isDivert (p_Z s9 (p_R s9 v0 5) (r6 : Int).toNat) s9) fun r23 s19 =>
      if r23 = 0 then
        B_Mo_ahead_58 v0 v1 v2 r6 1 s19
      else
        p_gd (p_is s19 (p_R s19 v0 5) 100) <|
        p_gd ((0 : Int) ≤ r6 ∧ r6 < (p_L s19 (p_R s19 v0 5) : Int)) <|
        p_bd (F_Mo_sidesOf (p_Z s19 (p_R s19 v0 5) (r6 : Int).toNat) s19) fun r31 s27 =>
        B_Mo_ahead_58 v0 v1 v2 r6 r31 s27
    else
      B_Mo_ahead_29 v0 v1 v2 r6 s9
set_option maxRecDepth 100000 in
set_option maxHeartbeats 4000000 in
theorem tB_Mo_ahead_158 (K : p_K) (l : Launch) (k63 : Nat → Int → Int → Int → Int → Int → p_Hp → Option p_Hp) (hk63 : ∀ (v0 : Nat) (v1 : Int) (v2 : Int) (v3 : Int) (v4 : Int) (v5 : Int)  (s0 : p_Hp) (r : p_Hp), k63 v0 v1 v2 v3 v4 v5 s0 = some r → p_Go K l m_Mo_ahead 63 [(0, p_r v0), (1, p_i v1), (2, p_i v2), (3, p_i v3), (4, p_i v4), (5, p_i v5)] [] s0 (none, r)) (v0 : Nat) (v1 : Int) (v2 : Int) (v3 : Int) (v4 : Int) (v5 : Int) (s0 : p_Hp) (r : p_Hp) (h : B_Mo_ahead_158 k63 v0 v1 v2 v3 v4 v5 s0 = some r) : p_Go K l m_Mo_ahead 158 [(0, p_r v0), (1, p_i v1), (2, p_i v2), (3, p_i v3), (4, p_i v4), (5, p_i v5)] [] s0 (none, r) := by
  unfold B_Mo_ahead_158 at h
  refine g_iinc (j := 5) [(5, p_i (p_w (v5 + 1))), (0, p_r v0), (1, p_i v1), (2, p_i v2), (3, p_i v3), (4, p_i v4)] (dk_Mo_ahead 83 rfl) rfl (by decide) rfl ?_
  refine p_ltG (P := fun q => p_Go K l m_Mo_ahead 161 [(5, p_i q), (0, p_r v0), (1, p_i v1), (2, p_i v2), (3, p_i v3), (4, p_i v4)] [] s0 _) ?_ h
  intro x1 h
  refine g_goto 63 (dk_Mo_ahead 84 rfl) (by decide) ?_
  refine g_sub [(0, p_r v0), (1, p_i v1), (2, p_i v2), (3, p_i v3), (4, p_i v4), (5, p_i x1)] [1, 2, 3, 4, 5, 0] rfl ?_
  exact hk63 v0 v1 v2 v3 v4 x1 s0 _ h
set_option maxRecDepth 100000 in
set_option maxHeartbeats 4000000 in
theorem tB_Mo_ahead_157 (K : p_K) (l : Launch) (k63 : Nat → Int → Int → Int → Int → Int → p_Hp → Option p_Hp) (hk63 : ∀ (v0 : Nat) (v1 : Int) (v2 : Int) (v3 : Int) (v4 : Int) (v5 : Int)  (s0 : p_Hp) (r : p_Hp), k63 v0 v1 v2 v3 v4 v5 s0 = some r → p_Go K l m_Mo_ahead 63 [(0, p_r v0), (1, p_i v1), (2, p_i v2), (3, p_i v3), (4, p_i v4), (5, p_i v5)] [] s0 (none, r)) (v0 : Nat) (v1 : Int) (v2 : Int) (v3 : Int) (v4 : Int) (v5 : Int) (w0 : Int) (w1 : Int) (w2 : Nat) (s0 : p_Hp) (r : p_Hp) (h : B_Mo_ahead_157 k63 v0 v1 v2 v3 v4 v5 w0 w1 w2 s0 = some r) : p_Go K l m_Mo_ahead 157 [(0, p_r v0), (1, p_i v1), (2, p_i v2), (3, p_i v3), (4, p_i v4), (5, p_i v5)] [p_i w0, p_i w1, p_r w2] s0 (none, r) := by
  unfold B_Mo_ahead_157 at h
  obtain ⟨c1, h⟩ := p_gdE h
  obtain ⟨c2, h⟩ := p_gdE h
  refine g_iastore (dk_Mo_ahead 82 rfl) c1 c2.1 c2.2 ?_
  refine p_ltS (P := fun q => p_Go K l m_Mo_ahead 158 [(0, p_r v0), (1, p_i v1), (2, p_i v2), (3, p_i v3), (4, p_i v4), (5, p_i v5)] [] q _) (p_xZ _ _ _ _) ?_ h
  intro s3 hs4 h
  exact tB_Mo_ahead_158 K l k63 hk63 v0 v1 v2 v3 v4 v5 s3 _ h
set_option maxRecDepth 100000 in
set_option maxHeartbeats 4000000 in
theorem tB_Mo_ahead_143 (K : p_K) (l : Launch) (k63 : Nat → Int → Int → Int → Int → Int → p_Hp → Option p_Hp) (hk63 : ∀ (v0 : Nat) (v1 : Int) (v2 : Int) (v3 : Int) (v4 : Int) (v5 : Int)  (s0 : p_Hp) (r : p_Hp), k63 v0 v1 v2 v3 v4 v5 s0 = some r → p_Go K l m_Mo_ahead 63 [(0, p_r v0), (1, p_i v1), (2, p_i v2), (3, p_i v3), (4, p_i v4), (5, p_i v5)] [] s0 (none, r)) (v0 : Nat) (v1 : Int) (v2 : Int) (v3 : Int) (v4 : Int) (v5 : Int) (v6 : Int) (w0 : Int) (w1 : Nat) (s0 : p_Hp) (r : p_Hp) (h : B_Mo_ahead_143 k63 v0 v1 v2 v3 v4 v5 v6 w0 w1 s0 = some r) : p_Go K l m_Mo_ahead 143 [(0, p_r v0), (1, p_i v1), (2, p_i v2), (3, p_i v3), (4, p_i v4), (5, p_i v5), (6, p_i v6)] [p_i w0, p_r w1] s0 (none, r) := by
  unfold B_Mo_ahead_143 at h
  refine g_iload (j := 6) (dk_Mo_ahead 75 rfl) rfl ?_
  refine g_goto 157 (dk_Mo_ahead 76 rfl) (by decide) ?_
  refine g_sub [(0, p_r v0), (1, p_i v1), (2, p_i v2), (3, p_i v3), (4, p_i v4), (5, p_i v5)] [0, 1, 2, 3, 4, 5] rfl ?_
  exact tB_Mo_ahead_157 K l k63 hk63 v0 v1 v2 v3 v4 v5 v6 w0 w1 s0 _ h
set_option maxRecDepth 100000 in
set_option maxHeartbeats 4000000 in
theorem tL_Mo_ahead_63 (K : p_K) (l : Launch) (k63 : Nat → Int → Int → Int → Int → Int → p_Hp → Option p_Hp) (hk63 : ∀ (v0 : Nat) (v1 : Int) (v2 : Int) (v3 : Int) (v4 : Int) (v5 : Int)  (s0 : p_Hp) (r : p_Hp), k63 v0 v1 v2 v3 v4 v5 s0 = some r → p_Go K l m_Mo_ahead 63 [(0, p_r v0), (1, p_i v1), (2, p_i v2), (3, p_i v3), (4, p_i v4), (5, p_i v5)] [] s0 (none, r)) (v0 : Nat) (v1 : Int) (v2 : Int) (v3 : Int) (v4 : Int) (v5 : Int) (s0 : p_Hp) (r : p_Hp) (h : L_Mo_ahead_63 k63 v0 v1 v2 v3 v4 v5 s0 = some r) : p_Go K l m_Mo_ahead 63 [(0, p_r v0), (1, p_i v1), (2, p_i v2), (3, p_i v3), (4, p_i v4), (5, p_i v5)] [] s0 (none, r) := by
  unfold L_Mo_ahead_63 at h
  refine g_iload (j := 5) (dk_Mo_ahead 34 rfl) rfl ?_
  refine g_iload (j := 4) (dk_Mo_ahead 35 rfl) rfl ?_
  refine g_icmp_ge 164 (dk_Mo_ahead 36 rfl) (by decide) (fun b1 => ?_) (fun b1 => ?_)
  · have h := p_ifT b1 h
    cases h
    exact g_ret rfl rfl (dk_Mo_ahead 85 rfl) (fun _ => rfl)
  · have h := p_ifF b1 h
    refine g_aload_n (i := 0) (j := 0) (dk_Mo_ahead 37 rfl) rfl rfl ?_
    refine g_iload_n (i := 1) (j := 1) (dk_Mo_ahead 38 rfl) rfl rfl ?_
    refine g_iload (j := 5) (dk_Mo_ahead 39 rfl) rfl ?_
    obtain ⟨c2, h⟩ := p_gdE h
    obtain ⟨r7, s3, q4, h⟩ := p_bdE h
    have t5 := tF_Mo_follow K l v0 v1 v5 s0 _ q4
    refine g_callV (a := v0) (ci := 11) (q0 := (RX11, TX11, 90)) (As := [p_i v1, p_i v5]) (rest := []) [p_i r7] mt_Mo_follow rfl rfl tw_8_112 ts_82 tw_8_110 ⟨Nat.le_of_ble_eq_true rfl, Nat.le_of_ble_eq_true rfl⟩ rfl (Nat.le_of_ble_eq_true rfl) (dk_Mo_ahead 40 rfl) rfl c2 rfl t5 ?_
    have hs6 : p_x s0 s3 := t5.1
    show p_Go K l m_Mo_ahead 77 [(0, p_r v0), (1, p_i v1), (2, p_i v2), (3, p_i v3), (4, p_i v4), (5, p_i v5)] [p_i r7] s3 _
    refine g_if_ne 158 (dk_Mo_ahead 41 rfl) (by decide) (fun b8 => ?_) (fun b8 => ?_)
    · have h := p_ifT b8 h
      exact tB_Mo_ahead_158 K l k63 hk63 v0 v1 v2 v3 v4 v5 s3 _ h
    · have h := p_ifF b8 h
      refine g_aload_n (i := 0) (j := 0) (dk_Mo_ahead 42 rfl) rfl rfl ?_
      refine g_getR fl_Mo_16 (Or.inr ⟨_, rfl⟩) (dk_Mo_ahead 43 rfl) (c2.up hs6) ?_
      refine g_aload_n (i := 0) (j := 0) (dk_Mo_ahead 44 rfl) rfl rfl ?_
      refine g_aload_n (i := 0) (j := 0) (dk_Mo_ahead 45 rfl) rfl rfl ?_
      refine g_getI fl_Mo_385 (Or.inl rfl) (dk_Mo_ahead 46 rfl) (c2.up hs6) ?_
      obtain ⟨r13, s9, q10, h⟩ := p_bdE h
      have t11 := tF_Mo_g K l v0 (p_Z s3 v0 73) s3 _ q10
      refine g_callV (a := v0) (ci := 11) (q0 := (RX11, TX11, 90)) (As := [p_i (p_Z s3 v0 73)]) (rest := [p_r (p_R s3 v0 5)]) [p_i r13, p_r (p_R s3 v0 5)] mt_Mo_g rfl rfl tw_7_84 ts_45 tw_7_82 ⟨Nat.le_of_ble_eq_true rfl, Nat.le_of_ble_eq_true rfl⟩ rfl (Nat.le_of_ble_eq_true rfl) (dk_Mo_ahead 47 rfl) rfl (c2.up hs6) rfl t11 ?_
      have hs12 : p_x s3 s9 := t11.1
      show p_Go K l m_Mo_ahead 92 [(0, p_r v0), (1, p_i v1), (2, p_i v2), (3, p_i v3), (4, p_i v4), (5, p_i v5)] [p_i r13, p_r (p_R s3 v0 5)] s9 _
      obtain ⟨c14, h⟩ := p_gdE h
      obtain ⟨c15, h⟩ := p_gdE h
      refine g_iaload (dk_Mo_ahead 48 rfl) c14 c15.1 c15.2 ?_
      obtain ⟨r20, s16, q17, h⟩ := p_bdE h
      have t18 := tF_Mo_isTaker K l (p_Z s9 (p_R s3 v0 5) (r13 : Int).toNat) s9 _ q17
      refine g_callS (av := [p_i (p_Z s9 (p_R s3 v0 5) (r13 : Int).toNat)]) (rest := []) [p_i r20] mt_Mo_isTaker tw_7_79 tw_7_78 ⟨Nat.le_of_ble_eq_true rfl, Nat.le_of_ble_eq_true rfl⟩ rfl (Nat.le_of_ble_eq_true rfl) (dk_Mo_ahead 49 rfl) rfl rfl t18 ?_
      have hs19 : p_x s9 s16 := t18.1
      show p_Go K l m_Mo_ahead 96 [(0, p_r v0), (1, p_i v1), (2, p_i v2), (3, p_i v3), (4, p_i v4), (5, p_i v5)] [p_i r20] s16 _
      refine g_if_eq 158 (dk_Mo_ahead 50 rfl) (by decide) (fun b21 => ?_) (fun b21 => ?_)
      · have h := p_ifT b21 h
        exact tB_Mo_ahead_158 K l k63 hk63 v0 v1 v2 v3 v4 v5 s16 _ h
      · have h := p_ifF b21 h
        refine g_iload_n (i := 2) (j := 2) (dk_Mo_ahead 51 rfl) rfl rfl ?_
        refine g_aload_n (i := 0) (j := 0) (dk_Mo_ahead 52 rfl) rfl rfl ?_
        refine g_getR fl_Mo_19 (Or.inr ⟨_, rfl⟩) (dk_Mo_ahead 53 rfl) (c2.up (hs6.trans (hs12.trans hs19))) ?_
        refine g_iload_n (i := 3) (j := 3) (dk_Mo_ahead 54 rfl) rfl rfl ?_
        obtain ⟨c22, h⟩ := p_gdE h
        obtain ⟨c23, h⟩ := p_gdE h
        refine g_iaload (dk_Mo_ahead 55 rfl) c22 c23.1 c23.2 ?_
        refine g_iadd (dk_Mo_ahead 56 rfl) ?_
        refine g_istore [(6, p_i (p_w (v2 + (p_Z s16 (p_R s16 v0 6) (v3 : Int).toNat)))), (0, p_r v0), (1, p_i v1), (2, p_i v2), (3, p_i v3), (4, p_i v4), (5, p_i v5)] (dk_Mo_ahead 57 rfl) (by decide) rfl ?_
        refine p_ltG (P := fun q => p_Go K l m_Mo_ahead 109 [(6, p_i q), (0, p_r v0), (1, p_i v1), (2, p_i v2), (3, p_i v3), (4, p_i v4), (5, p_i v5)] [] s16 _) ?_ h
        intro x24 h
        refine g_aload_n (i := 0) (j := 1) (dk_Mo_ahead 58 rfl) rfl rfl ?_
        refine g_getR fl_Mo_217 (Or.inr ⟨_, rfl⟩) (dk_Mo_ahead 59 rfl) (c2.up (hs6.trans (hs12.trans hs19))) ?_
        refine g_aload_n (i := 0) (j := 1) (dk_Mo_ahead 60 rfl) rfl rfl ?_
        refine g_getI fl_Mo_385 (Or.inl rfl) (dk_Mo_ahead 61 rfl) (c2.up (hs6.trans (hs12.trans hs19))) ?_
        refine g_aload_n (i := 0) (j := 1) (dk_Mo_ahead 62 rfl) rfl rfl ?_
        refine g_getR fl_Mo_217 (Or.inr ⟨_, rfl⟩) (dk_Mo_ahead 63 rfl) (c2.up (hs6.trans (hs12.trans hs19))) ?_
        refine g_aload_n (i := 0) (j := 1) (dk_Mo_ahead 64 rfl) rfl rfl ?_
        refine g_getI fl_Mo_385 (Or.inl rfl) (dk_Mo_ahead 65 rfl) (c2.up (hs6.trans (hs12.trans hs19))) ?_
        obtain ⟨c25, h⟩ := p_gdE h
        obtain ⟨c26, h⟩ := p_gdE h
        refine g_iaload (dk_Mo_ahead 66 rfl) c25 c26.1 c26.2 ?_
        refine g_if_lt 143 (dk_Mo_ahead 67 rfl) (by decide) (fun b27 => ?_) (fun b27 => ?_)
        · have h := p_ifT b27 h
          refine g_sub [(0, p_r v0), (1, p_i v1), (2, p_i v2), (3, p_i v3), (4, p_i v4), (5, p_i v5), (6, p_i x24)] [1, 2, 3, 4, 5, 6, 0] rfl ?_
          exact tB_Mo_ahead_143 K l k63 hk63 v0 v1 v2 v3 v4 v5 x24 (p_Z s16 v0 73) (p_R s16 v0 88) s16 _ h
        · have h := p_ifF b27 h
          refine g_iload (j := 0) (dk_Mo_ahead 68 rfl) rfl ?_
          refine g_aload_n (i := 0) (j := 1) (dk_Mo_ahead 69 rfl) rfl rfl ?_
          refine g_getR fl_Mo_217 (Or.inr ⟨_, rfl⟩) (dk_Mo_ahead 70 rfl) (c2.up (hs6.trans (hs12.trans hs19))) ?_
          refine g_aload_n (i := 0) (j := 1) (dk_Mo_ahead 71 rfl) rfl rfl ?_
          refine g_getI fl_Mo_385 (Or.inl rfl) (dk_Mo_ahead 72 rfl) (c2.up (hs6.trans (hs12.trans hs19))) ?_
          obtain ⟨c28, h⟩ := p_gdE h
          refine g_iaload (dk_Mo_ahead 73 rfl) c25 c28.1 c28.2 ?_
          refine g_icmp_ge 148 (dk_Mo_ahead 74 rfl) (by decide) (fun b29 => ?_) (fun b29 => ?_)
          · have h := p_ifT b29 h
            refine g_aload_n (i := 0) (j := 1) (dk_Mo_ahead 77 rfl) rfl rfl ?_
            refine g_getR fl_Mo_217 (Or.inr ⟨_, rfl⟩) (dk_Mo_ahead 78 rfl) (c2.up (hs6.trans (hs12.trans hs19))) ?_
            refine g_aload_n (i := 0) (j := 1) (dk_Mo_ahead 79 rfl) rfl rfl ?_
            refine g_getI fl_Mo_385 (Or.inl rfl) (dk_Mo_ahead 80 rfl) (c2.up (hs6.trans (hs12.trans hs19))) ?_
            obtain ⟨c30, h⟩ := p_gdE h
            refine g_iaload (dk_Mo_ahead 81 rfl) c25 c30.1 c30.2 ?_
            refine g_sub [(0, p_r v0), (1, p_i v1), (2, p_i v2), (3, p_i v3), (4, p_i v4), (5, p_i v5)] [1, 2, 3, 4, 5, 6] rfl ?_
            exact tB_Mo_ahead_157 K l k63 hk63 v0 v1 v2 v3 v4 v5 (p_Z s16 (p_R s16 v0 88) ((p_Z s16 v0 73) : Int).toNat) (p_Z s16 v0 73) (p_R s16 v0 88) s16 _ h
          · have h := p_ifF b29 h
            refine g_sub [(0, p_r v0), (1, p_i v1), (2, p_i v2), (3, p_i v3), (4, p_i v4), (5, p_i v5), (6, p_i x24)] [1, 2, 3, 4, 5, 6, 0] rfl ?_
            exact tB_Mo_ahead_143 K l k63 hk63 v0 v1 v2 v3 v4 v5 x24 (p_Z s16 v0 73) (p_R s16 v0 88) s16 _ h
set_option maxRecDepth 100000 in
set_option maxHeartbeats 4000000 in
theorem tO_Mo_ahead_63 (K : p_K) (l : Launch)  : ∀ (n : Nat) (v0 : Nat) (v1 : Int) (v2 : Int) (v3 : Int) (v4 : Int) (v5 : Int) (s0 : p_Hp) (r : p_Hp), O_Mo_ahead_63 n v0 v1 v2 v3 v4 v5 s0 = some r → p_Go K l m_Mo_ahead 63 [(0, p_r v0), (1, p_i v1), (2, p_i v2), (3, p_i v3), (4, p_i v4), (5, p_i v5)] [] s0 (none, r) := by
  intro n
  induction n with
  | zero => intro v0 v1 v2 v3 v4 v5 s0 r h; cases (show (none : Option p_Hp) = some r from h)
  | succ n ih => intro v0 v1 v2 v3 v4 v5 s0 r h; exact tL_Mo_ahead_63 K l _ ih v0 v1 v2 v3 v4 v5 s0 r h
set_option maxRecDepth 100000 in
set_option maxHeartbeats 4000000 in
theorem tB_Mo_ahead_58 (K : p_K) (l : Launch)  (v0 : Nat) (v1 : Int) (v2 : Int) (v3 : Int) (w0 : Int) (s0 : p_Hp) (r : p_Hp) (h : B_Mo_ahead_58 v0 v1 v2 v3 w0 s0 = some r) : p_Go K l m_Mo_ahead 58 [(0, p_r v0), (1, p_i v1), (2, p_i v2), (3, p_i v3)] [p_i w0] s0 (none, r) := by
  unfold B_Mo_ahead_58 at h
  refine g_istore [(4, p_i w0), (0, p_r v0), (1, p_i v1), (2, p_i v2), (3, p_i v3)] (dk_Mo_ahead 31 rfl) (by decide) rfl ?_
  refine g_iconst (dk_Mo_ahead 32 rfl) (by decide) ?_
  refine g_istore [(5, p_i 0), (4, p_i w0), (0, p_r v0), (1, p_i v1), (2, p_i v2), (3, p_i v3)] (dk_Mo_ahead 33 rfl) (by decide) rfl ?_
  refine g_sub [(0, p_r v0), (1, p_i v1), (2, p_i v2), (3, p_i v3), (4, p_i w0), (5, p_i 0)] [2, 3, 4, 5, 1, 0] rfl ?_
  exact tO_Mo_ahead_63 K l 3000 v0 v1 v2 v3 w0 0 s0 _ h
set_option maxRecDepth 100000 in
set_option maxHeartbeats 4000000 in
theorem tB_Mo_ahead_29 (K : p_K) (l : Launch)  (v0 : Nat) (v1 : Int) (v2 : Int) (v3 : Int) (s0 : p_Hp) (r : p_Hp) (h : B_Mo_ahead_29 v0 v1 v2 v3 s0 = some r) : p_Go K l m_Mo_ahead 29 [(0, p_r v0), (1, p_i v1), (2, p_i v2), (3, p_i v3)] [] s0 (none, r) := by
  unfold B_Mo_ahead_29 at h
  refine g_iconst (dk_Mo_ahead 16 rfl) (by decide) ?_
  refine g_goto 58 (dk_Mo_ahead 17 rfl) (by decide) ?_
  exact tB_Mo_ahead_58 K l v0 v1 v2 v3 0 s0 _ h
set_option maxRecDepth 100000 in
set_option maxHeartbeats 4000000 in
theorem tF_Mo_ahead (K : p_K) (l : Launch) (v0 : Nat) (v1 : Int) (v2 : Int) (s0 : p_Hp) (r : p_Hp) (h : F_Mo_ahead v0 v1 v2 s0 = some r) : p_Ct K l m_Mo_ahead [p_r v0, p_i v1, p_i v2] s0 (none, r) := by
  refine p_Ct.of (by decide +kernel) (Nat.le_of_ble_eq_true rfl) ?_
  unfold F_Mo_ahead at h
  show p_Go K l m_Mo_ahead 0 [(0, p_r v0), (1, p_i v1), (2, p_i v2)] [] s0 _
  refine g_aload_n (i := 0) (j := 0) (dk_Mo_ahead 0 rfl) rfl rfl ?_
  refine g_iload_n (i := 1) (j := 1) (dk_Mo_ahead 1 rfl) rfl rfl ?_
  obtain ⟨c1, h⟩ := p_gdE h
  obtain ⟨r6, s2, q3, h⟩ := p_bdE h
  have t4 := tF_Mo_g K l v0 v1 s0 _ q3
  refine g_callV (a := v0) (ci := 11) (q0 := (RX11, TX11, 90)) (As := [p_i v1]) (rest := []) [p_i r6] mt_Mo_g rfl rfl tw_7_84 ts_45 tw_7_82 ⟨Nat.le_of_ble_eq_true rfl, Nat.le_of_ble_eq_true rfl⟩ rfl (Nat.le_of_ble_eq_true rfl) (dk_Mo_ahead 2 rfl) rfl c1 rfl t4 ?_
  have hs5 : p_x s0 s2 := t4.1
  show p_Go K l m_Mo_ahead 5 [(0, p_r v0), (1, p_i v1), (2, p_i v2)] [p_i r6] s2 _
  refine g_istore_n (i := 3) [(3, p_i r6), (0, p_r v0), (1, p_i v1), (2, p_i v2)] (dk_Mo_ahead 3 rfl) rfl (by decide) rfl ?_
  refine g_aload_n (i := 0) (j := 1) (dk_Mo_ahead 4 rfl) rfl rfl ?_
  refine g_getR fl_Mo_16 (Or.inr ⟨_, rfl⟩) (dk_Mo_ahead 5 rfl) (c1.up hs5) ?_
  refine g_iload_n (i := 3) (j := 0) (dk_Mo_ahead 6 rfl) rfl rfl ?_
  obtain ⟨c7, h⟩ := p_gdE h
  obtain ⟨c8, h⟩ := p_gdE h
  refine g_iaload (dk_Mo_ahead 7 rfl) c7 c8.1 c8.2 ?_
  obtain ⟨r13, s9, q10, h⟩ := p_bdE h
  have t11 := tF_Mo_isTaker K l (p_Z s2 (p_R s2 v0 5) (r6 : Int).toNat) s2 _ q10
  refine g_callS (av := [p_i (p_Z s2 (p_R s2 v0 5) (r6 : Int).toNat)]) (rest := []) [p_i r13] mt_Mo_isTaker tw_7_79 tw_7_78 ⟨Nat.le_of_ble_eq_true rfl, Nat.le_of_ble_eq_true rfl⟩ rfl (Nat.le_of_ble_eq_true rfl) (dk_Mo_ahead 8 rfl) rfl rfl t11 ?_
  have hs12 : p_x s2 s9 := t11.1
  show p_Go K l m_Mo_ahead 15 [(3, p_i r6), (0, p_r v0), (1, p_i v1), (2, p_i v2)] [p_i r13] s9 _
  refine g_if_eq 29 (dk_Mo_ahead 9 rfl) (by decide) (fun b14 => ?_) (fun b14 => ?_)
  · have h := p_ifT b14 h
    refine g_sub [(0, p_r v0), (1, p_i v1), (2, p_i v2), (3, p_i r6)] [1, 2, 3, 0] rfl ?_
    exact tB_Mo_ahead_29 K l v0 v1 v2 r6 s9 _ h
  · have h := p_ifF b14 h
    refine g_aload_n (i := 0) (j := 1) (dk_Mo_ahead 10 rfl) rfl rfl ?_
    refine g_getR fl_Mo_16 (Or.inr ⟨_, rfl⟩) (dk_Mo_ahead 11 rfl) (c1.up (hs5.trans hs12)) ?_
    refine g_iload_n (i := 3) (j := 0) (dk_Mo_ahead 12 rfl) rfl rfl ?_
    obtain ⟨c15, h⟩ := p_gdE h
    obtain ⟨c16, h⟩ := p_gdE h
    refine g_iaload (dk_Mo_ahead 13 rfl) c15 c16.1 c16.2 ?_
    refine g_bipush (dk_Mo_ahead 14 rfl) (by decide +kernel) (by decide) ?_
    refine g_icmp_ne 33 (dk_Mo_ahead 15 rfl) (by decide) (fun b17 => ?_) (fun b17 => ?_)
    · have h := p_ifT b17 h
      refine g_aload_n (i := 0) (j := 1) (dk_Mo_ahead 18 rfl) rfl rfl ?_
      refine g_getR fl_Mo_16 (Or.inr ⟨_, rfl⟩) (dk_Mo_ahead 19 rfl) (c1.up (hs5.trans hs12)) ?_
      refine g_iload_n (i := 3) (j := 0) (dk_Mo_ahead 20 rfl) rfl rfl ?_
      obtain ⟨c18, h⟩ := p_gdE h
      refine g_iaload (dk_Mo_ahead 21 rfl) c15 c18.1 c18.2 ?_
      obtain ⟨r23, s19, q20, h⟩ := p_bdE h
      have t21 := tF_Mo_isDivert K l (p_Z s9 (p_R s9 v0 5) (r6 : Int).toNat) s9 _ q20
      refine g_callS (av := [p_i (p_Z s9 (p_R s9 v0 5) (r6 : Int).toNat)]) (rest := []) [p_i r23] mt_Mo_isDivert tw_7_94 tw_7_93 ⟨Nat.le_of_ble_eq_true rfl, Nat.le_of_ble_eq_true rfl⟩ rfl (Nat.le_of_ble_eq_true rfl) (dk_Mo_ahead 22 rfl) rfl rfl t21 ?_
      have hs22 : p_x s9 s19 := t21.1
      show p_Go K l m_Mo_ahead 42 [(3, p_i r6), (0, p_r v0), (1, p_i v1), (2, p_i v2)] [p_i r23] s19 _
      refine g_if_eq 57 (dk_Mo_ahead 23 rfl) (by decide) (fun b24 => ?_) (fun b24 => ?_)
      · have h := p_ifT b24 h
        refine g_iconst (dk_Mo_ahead 30 rfl) (by decide) ?_
        refine g_sub [(0, p_r v0), (1, p_i v1), (2, p_i v2), (3, p_i r6)] [1, 2, 3, 0] rfl ?_
        exact tB_Mo_ahead_58 K l v0 v1 v2 r6 1 s19 _ h
      · have h := p_ifF b24 h
        refine g_aload_n (i := 0) (j := 1) (dk_Mo_ahead 24 rfl) rfl rfl ?_
        refine g_getR fl_Mo_16 (Or.inr ⟨_, rfl⟩) (dk_Mo_ahead 25 rfl) (c1.up (hs5.trans (hs12.trans hs22))) ?_
        refine g_iload_n (i := 3) (j := 0) (dk_Mo_ahead 26 rfl) rfl rfl ?_
        obtain ⟨c25, h⟩ := p_gdE h
        obtain ⟨c26, h⟩ := p_gdE h
        refine g_iaload (dk_Mo_ahead 27 rfl) c25 c26.1 c26.2 ?_
        obtain ⟨r31, s27, q28, h⟩ := p_bdE h
        have t29 := tF_Mo_sidesOf K l (p_Z s19 (p_R s19 v0 5) (r6 : Int).toNat) s19 _ q28
        refine g_callS (av := [p_i (p_Z s19 (p_R s19 v0 5) (r6 : Int).toNat)]) (rest := []) [p_i r31] mt_Mo_sidesOf tw_7_123 tw_7_122 ⟨Nat.le_of_ble_eq_true rfl, Nat.le_of_ble_eq_true rfl⟩ rfl (Nat.le_of_ble_eq_true rfl) (dk_Mo_ahead 28 rfl) rfl rfl t29 ?_
        have hs30 : p_x s19 s27 := t29.1
        show p_Go K l m_Mo_ahead 54 [(3, p_i r6), (0, p_r v0), (1, p_i v1), (2, p_i v2)] [p_i r31] s27 _
        refine g_goto 58 (dk_Mo_ahead 29 rfl) (by decide) ?_
        refine g_sub [(0, p_r v0), (1, p_i v1), (2, p_i v2), (3, p_i r6)] [1, 2, 3, 0] rfl ?_
        exact tB_Mo_ahead_58 K l v0 v1 v2 r6 r31 s27 _ h
    · have h := p_ifF b17 h
      refine g_sub [(0, p_r v0), (1, p_i v1), (2, p_i v2), (3, p_i r6)] [1, 2, 3, 0] rfl ?_
      exact tB_Mo_ahead_29 K l v0 v1 v2 r6 s9 _ h
def m_Mo_spread : p_Me := (⟨"SortWorksModel", "spread", "(I)V"⟩, prog_13_method_113_code, 4, none, 4, 95)
theorem mt_Mo_spread : p_Mt m_Mo_spread 1 := ⟨p_mem (p_tb9 (List.mem_of_getElem? (i := 31) rfl)) rfl, tw_1_12, by decide +kernel, by decide +kernel, by decide +kernel⟩
def dt_Mo_spread : List (Nat × Instr × Nat) := [(0, .iconst 0, 1), (1, .istore_n 2, 1), (2, .iload_n 2, 1), (3, .bipush 40, 2), (5, .if_icmp .ge 16, 3), (8, .aload_n 0, 1), (9, .getfield 217, 3), (12, .iload_n 2, 1), (13, .iconst (-1), 1), (14, .iastore, 1), (15, .iinc 2 1, 3), (18, .goto (-16), 3), (21, .aload_n 0, 1), (22, .iload_n 1, 1), (23, .iconst 0, 1), (24, .invokevirtual 532, 3), (27, .iconst 0, 1), (28, .istore_n 2, 1), (29, .iload_n 2, 1), (30, .bipush 41, 2), (32, .if_icmp .ge 50, 3), (35, .iconst 0, 1), (36, .istore_n 3, 1), (37, .iload_n 3, 1), (38, .aload_n 0, 1), (39, .getfield 7, 3), (42, .aload_n 0, 1), (43, .getfield 227, 3), (46, .iaload, 1), (47, .if_icmp .ge 29, 3), (50, .aload_n 0, 1), (51, .getfield 217, 3), (54, .iload_n 3, 1), (55, .iaload, 1), (56, .ifCond .lt 14, 3), (59, .aload_n 0, 1), (60, .iload_n 3, 1), (61, .aload_n 0, 1), (62, .getfield 217, 3), (65, .iload_n 3, 1), (66, .iaload, 1), (67, .invokevirtual 532, 3), (70, .iinc 3 1, 3), (73, .goto (-36), 3), (76, .iinc 2 1, 3), (79, .goto (-50), 3), (82, .return_, 1)]
theorem dk_Mo_spread (i : Nat) {pc : Nat} {ins : Instr} {len : Nat} (h : dt_Mo_spread[i]? = some (pc, ins, len)) : decode m_Mo_spread.2.1 pc = .ok (ins, len) := p_dk (b := m_Mo_spread.2.1) (t := dt_Mo_spread) (by decide +kernel) i h
def B_Mo_spread_70 (k29 : Nat → Int → p_Hp → Option p_Hp) (k37 : Nat → Int → Int → p_Hp → Option p_Hp) (v0 : Nat) (v2 : Int) (v3 : Int) (s0 : p_Hp) : Option p_Hp :=
  p_bi (p_w (v3 + 1)) fun x1 =>
  k37 v0 v2 x1 s0
def L_Mo_spread_37 (k29 : Nat → Int → p_Hp → Option p_Hp) (k37 : Nat → Int → Int → p_Hp → Option p_Hp) (v0 : Nat) (v2 : Int) (v3 : Int) (s0 : p_Hp) : Option p_Hp :=
  p_gd (p_is s0 v0 11) <|
  p_gd (p_is s0 (p_R s0 v0 3) 100) <|
  p_gd ((0 : Int) ≤ (p_Z s0 v0 0) ∧ (p_Z s0 v0 0) < (p_L s0 (p_R s0 v0 3) : Int)) <|
  if (p_Z s0 (p_R s0 v0 3) ((p_Z s0 v0 0) : Int).toNat) ≤ v3 then
    p_bi (p_w (v2 + 1)) fun x5 =>
    k29 v0 x5 s0
  else
    p_gd (p_is s0 (p_R s0 v0 88) 100) <|
    p_gd ((0 : Int) ≤ v3 ∧ v3 < (p_L s0 (p_R s0 v0 88) : Int)) <|
    if (p_Z s0 (p_R s0 v0 88) (v3 : Int).toNat) < 0 then
      B_Mo_spread_70 k29 k37 v0 v2 v3 s0
    else
      p_gd ((0 : Int) ≤ v3 ∧ v3 < (p_L s0 (p_R s0 v0 88) : Int)) <|
      p_bv (F_Mo_ahead v0 v3 (p_Z s0 (p_R s0 v0 88) (v3 : Int).toNat) s0) fun s10 =>
      B_Mo_spread_70 k29 k37 v0 v2 v3 s10
def O_Mo_spread_37 (k29 : Nat → Int → p_Hp → Option p_Hp) : Nat → Nat → Int → Int → p_Hp → Option p_Hp
  | 0 => fun _ _ _ _ => none
  | n + 1 => L_Mo_spread_37 k29 (O_Mo_spread_37 k29 n)
def L_Mo_spread_29 (k29 : Nat → Int → p_Hp → Option p_Hp) (v0 : Nat) (v2 : Int) (s0 : p_Hp) : Option p_Hp :=
  if 41 ≤ v2 then
    some s0
  else
    O_Mo_spread_37 k29 3000 v0 v2 0 s0
def O_Mo_spread_29  : Nat → Nat → Int → p_Hp → Option p_Hp
  | 0 => fun _ _ _ => none
  | n + 1 => L_Mo_spread_29 (O_Mo_spread_29 n)
def L_Mo_spread_2 (k2 : Nat → Int → Int → p_Hp → Option p_Hp) (v0 : Nat) (v1 : Int) (v2 : Int) (s0 : p_Hp) : Option p_Hp :=
  if 40 ≤ v2 then
    p_gd (p_is s0 v0 11) <|
    p_bv (F_Mo_ahead v0 v1 0 s0) fun s3 =>
    O_Mo_spread_29 3000 v0 0 s3
  else
    p_gd (p_is s0 v0 11) <|
    p_gd (p_is s0 (p_R s0 v0 88) 100) <|
    p_gd ((0 : Int) ≤ v2 ∧ v2 < (p_L s0 (p_R s0 v0 88) : Int)) <|
    p_bi (p_wZ s0 (p_R s0 v0 88) (v2 : Int).toNat (-1)) fun s10 =>
    p_bi (p_w (v2 + 1)) fun x12 =>
    k2 v0 v1 x12 s10
def O_Mo_spread_2  : Nat → Nat → Int → Int → p_Hp → Option p_Hp
  | 0 => fun _ _ _ _ => none
  | n + 1 => L_Mo_spread_2 (O_Mo_spread_2 n)
def F_Mo_spread (v0 : Nat) (v1 : Int) (s0 : p_Hp) : Option p_Hp :=
  O_Mo_spread_2 3000 v0 v1 0 s0
set_option maxRecDepth 100000 in
set_option maxHeartbeats 4000000 in
theorem tB_Mo_spread_70 (K : p_K) (l : Launch) (k29 : Nat → Int → p_Hp → Option p_Hp) (hk29 : ∀ (v0 : Nat) (v2 : Int)  (s0 : p_Hp) (r : p_Hp), k29 v0 v2 s0 = some r → p_Go K l m_Mo_spread 29 [(0, p_r v0), (2, p_i v2)] [] s0 (none, r)) (k37 : Nat → Int → Int → p_Hp → Option p_Hp) (hk37 : ∀ (v0 : Nat) (v2 : Int) (v3 : Int)  (s0 : p_Hp) (r : p_Hp), k37 v0 v2 v3 s0 = some r → p_Go K l m_Mo_spread 37 [(0, p_r v0), (2, p_i v2), (3, p_i v3)] [] s0 (none, r)) (v0 : Nat) (v2 : Int) (v3 : Int) (s0 : p_Hp) (r : p_Hp) (h : B_Mo_spread_70 k29 k37 v0 v2 v3 s0 = some r) : p_Go K l m_Mo_spread 70 [(0, p_r v0), (2, p_i v2), (3, p_i v3)] [] s0 (none, r) := by
  unfold B_Mo_spread_70 at h
  refine g_iinc (j := 2) [(3, p_i (p_w (v3 + 1))), (0, p_r v0), (2, p_i v2)] (dk_Mo_spread 42 rfl) rfl (by decide) rfl ?_
  refine p_ltG (P := fun q => p_Go K l m_Mo_spread 73 [(3, p_i q), (0, p_r v0), (2, p_i v2)] [] s0 _) ?_ h
  intro x1 h
  refine g_goto 37 (dk_Mo_spread 43 rfl) (by decide) ?_
  refine g_sub [(0, p_r v0), (2, p_i v2), (3, p_i x1)] [1, 2, 0] rfl ?_
  exact hk37 v0 v2 x1 s0 _ h
set_option maxRecDepth 100000 in
set_option maxHeartbeats 4000000 in
theorem tL_Mo_spread_37 (K : p_K) (l : Launch) (k29 : Nat → Int → p_Hp → Option p_Hp) (hk29 : ∀ (v0 : Nat) (v2 : Int)  (s0 : p_Hp) (r : p_Hp), k29 v0 v2 s0 = some r → p_Go K l m_Mo_spread 29 [(0, p_r v0), (2, p_i v2)] [] s0 (none, r)) (k37 : Nat → Int → Int → p_Hp → Option p_Hp) (hk37 : ∀ (v0 : Nat) (v2 : Int) (v3 : Int)  (s0 : p_Hp) (r : p_Hp), k37 v0 v2 v3 s0 = some r → p_Go K l m_Mo_spread 37 [(0, p_r v0), (2, p_i v2), (3, p_i v3)] [] s0 (none, r)) (v0 : Nat) (v2 : Int) (v3 : Int) (s0 : p_Hp) (r : p_Hp) (h : L_Mo_spread_37 k29 k37 v0 v2 v3 s0 = some r) : p_Go K l m_Mo_spread 37 [(0, p_r v0), (2, p_i v2), (3, p_i v3)] [] s0 (none, r) := by
  unfold L_Mo_spread_37 at h
  refine g_iload_n (i := 3) (j := 2) (dk_Mo_spread 23 rfl) rfl rfl ?_
  refine g_aload_n (i := 0) (j := 0) (dk_Mo_spread 24 rfl) rfl rfl ?_
  obtain ⟨c1, h⟩ := p_gdE h
  refine g_getR fl_Mo_7 (Or.inr ⟨_, rfl⟩) (dk_Mo_spread 25 rfl) c1 ?_
  refine g_aload_n (i := 0) (j := 0) (dk_Mo_spread 26 rfl) rfl rfl ?_
  refine g_getI fl_Mo_227 (Or.inl rfl) (dk_Mo_spread 27 rfl) c1 ?_
  obtain ⟨c2, h⟩ := p_gdE h
  obtain ⟨c3, h⟩ := p_gdE h
  refine g_iaload (dk_Mo_spread 28 rfl) c2 c3.1 c3.2 ?_
  refine g_icmp_ge 76 (dk_Mo_spread 29 rfl) (by decide) (fun b4 => ?_) (fun b4 => ?_)
  · have h := p_ifT b4 h
    refine g_iinc (j := 1) [(2, p_i (p_w (v2 + 1))), (0, p_r v0), (3, p_i v3)] (dk_Mo_spread 44 rfl) rfl (by decide) rfl ?_
    refine p_ltG (P := fun q => p_Go K l m_Mo_spread 79 [(2, p_i q), (0, p_r v0), (3, p_i v3)] [] s0 _) ?_ h
    intro x5 h
    refine g_goto 29 (dk_Mo_spread 45 rfl) (by decide) ?_
    refine g_sub [(0, p_r v0), (2, p_i x5)] [1, 0] rfl ?_
    exact hk29 v0 x5 s0 _ h
  · have h := p_ifF b4 h
    refine g_aload_n (i := 0) (j := 0) (dk_Mo_spread 30 rfl) rfl rfl ?_
    refine g_getR fl_Mo_217 (Or.inr ⟨_, rfl⟩) (dk_Mo_spread 31 rfl) c1 ?_
    refine g_iload_n (i := 3) (j := 2) (dk_Mo_spread 32 rfl) rfl rfl ?_
    obtain ⟨c6, h⟩ := p_gdE h
    obtain ⟨c7, h⟩ := p_gdE h
    refine g_iaload (dk_Mo_spread 33 rfl) c6 c7.1 c7.2 ?_
    refine g_if_lt 70 (dk_Mo_spread 34 rfl) (by decide) (fun b8 => ?_) (fun b8 => ?_)
    · have h := p_ifT b8 h
      exact tB_Mo_spread_70 K l k29 hk29 k37 hk37 v0 v2 v3 s0 _ h
    · have h := p_ifF b8 h
      refine g_aload_n (i := 0) (j := 0) (dk_Mo_spread 35 rfl) rfl rfl ?_
      refine g_iload_n (i := 3) (j := 2) (dk_Mo_spread 36 rfl) rfl rfl ?_
      refine g_aload_n (i := 0) (j := 0) (dk_Mo_spread 37 rfl) rfl rfl ?_
      refine g_getR fl_Mo_217 (Or.inr ⟨_, rfl⟩) (dk_Mo_spread 38 rfl) c1 ?_
      refine g_iload_n (i := 3) (j := 2) (dk_Mo_spread 39 rfl) rfl rfl ?_
      obtain ⟨c9, h⟩ := p_gdE h
      refine g_iaload (dk_Mo_spread 40 rfl) c6 c9.1 c9.2 ?_
      obtain ⟨s10, q11, h⟩ := p_bvE h
      have t12 := tF_Mo_ahead K l v0 v3 (p_Z s0 (p_R s0 v0 88) (v3 : Int).toNat) s0 _ q11
      refine g_callV (a := v0) (ci := 11) (q0 := (RX11, TX11, 90)) (As := [p_i v3, p_i (p_Z s0 (p_R s0 v0 88) (v3 : Int).toNat)]) (rest := []) [] mt_Mo_ahead rfl rfl tw_9_34 ts_104 tw_9_32 ⟨Nat.le_of_ble_eq_true rfl, Nat.le_of_ble_eq_true rfl⟩ rfl (Nat.le_of_ble_eq_true rfl) (dk_Mo_spread 41 rfl) rfl c1 rfl t12 ?_
      have hs13 : p_x s0 s10 := t12.1
      show p_Go K l m_Mo_spread 70 [(0, p_r v0), (2, p_i v2), (3, p_i v3)] [] s10 _
      exact tB_Mo_spread_70 K l k29 hk29 k37 hk37 v0 v2 v3 s10 _ h
set_option maxRecDepth 100000 in
set_option maxHeartbeats 4000000 in
theorem tO_Mo_spread_37 (K : p_K) (l : Launch) (k29 : Nat → Int → p_Hp → Option p_Hp) (hk29 : ∀ (v0 : Nat) (v2 : Int)  (s0 : p_Hp) (r : p_Hp), k29 v0 v2 s0 = some r → p_Go K l m_Mo_spread 29 [(0, p_r v0), (2, p_i v2)] [] s0 (none, r)) : ∀ (n : Nat) (v0 : Nat) (v2 : Int) (v3 : Int) (s0 : p_Hp) (r : p_Hp), O_Mo_spread_37 k29 n v0 v2 v3 s0 = some r → p_Go K l m_Mo_spread 37 [(0, p_r v0), (2, p_i v2), (3, p_i v3)] [] s0 (none, r) := by
  intro n
  induction n with
  | zero => intro v0 v2 v3 s0 r h; cases (show (none : Option p_Hp) = some r from h)
  | succ n ih => intro v0 v2 v3 s0 r h; exact tL_Mo_spread_37 K l k29 hk29 _ ih v0 v2 v3 s0 r h
set_option maxRecDepth 100000 in
set_option maxHeartbeats 4000000 in
theorem tL_Mo_spread_29 (K : p_K) (l : Launch) (k29 : Nat → Int → p_Hp → Option p_Hp) (hk29 : ∀ (v0 : Nat) (v2 : Int)  (s0 : p_Hp) (r : p_Hp), k29 v0 v2 s0 = some r → p_Go K l m_Mo_spread 29 [(0, p_r v0), (2, p_i v2)] [] s0 (none, r)) (v0 : Nat) (v2 : Int) (s0 : p_Hp) (r : p_Hp) (h : L_Mo_spread_29 k29 v0 v2 s0 = some r) : p_Go K l m_Mo_spread 29 [(0, p_r v0), (2, p_i v2)] [] s0 (none, r) := by
  unfold L_Mo_spread_29 at h
  refine g_iload_n (i := 2) (j := 1) (dk_Mo_spread 18 rfl) rfl rfl ?_
  refine g_bipush (dk_Mo_spread 19 rfl) (by decide +kernel) (by decide) ?_
  refine g_icmp_ge 82 (dk_Mo_spread 20 rfl) (by decide) (fun b1 => ?_) (fun b1 => ?_)
  · have h := p_ifT b1 h
    cases h
    exact g_ret rfl rfl (dk_Mo_spread 46 rfl) (fun _ => rfl)
  · have h := p_ifF b1 h
    refine g_iconst (dk_Mo_spread 21 rfl) (by decide) ?_
    refine g_istore_n (i := 3) [(3, p_i 0), (0, p_r v0), (2, p_i v2)] (dk_Mo_spread 22 rfl) rfl (by decide) rfl ?_
    refine g_sub [(0, p_r v0), (2, p_i v2), (3, p_i 0)] [1, 2, 0] rfl ?_
    exact tO_Mo_spread_37 K l k29 hk29 3000 v0 v2 0 s0 _ h
set_option maxRecDepth 100000 in
set_option maxHeartbeats 4000000 in
theorem tO_Mo_spread_29 (K : p_K) (l : Launch)  : ∀ (n : Nat) (v0 : Nat) (v2 : Int) (s0 : p_Hp) (r : p_Hp), O_Mo_spread_29 n v0 v2 s0 = some r → p_Go K l m_Mo_spread 29 [(0, p_r v0), (2, p_i v2)] [] s0 (none, r) := by
  intro n
  induction n with
  | zero => intro v0 v2 s0 r h; cases (show (none : Option p_Hp) = some r from h)
  | succ n ih => intro v0 v2 s0 r h; exact tL_Mo_spread_29 K l _ ih v0 v2 s0 r h
set_option maxRecDepth 100000 in
set_option maxHeartbeats 4000000 in
theorem tL_Mo_spread_2 (K : p_K) (l : Launch) (k2 : Nat → Int → Int → p_Hp → Option p_Hp) (hk2 : ∀ (v0 : Nat) (v1 : Int) (v2 : Int)  (s0 : p_Hp) (r : p_Hp), k2 v0 v1 v2 s0 = some r → p_Go K l m_Mo_spread 2 [(0, p_r v0), (1, p_i v1), (2, p_i v2)] [] s0 (none, r)) (v0 : Nat) (v1 : Int) (v2 : Int) (s0 : p_Hp) (r : p_Hp) (h : L_Mo_spread_2 k2 v0 v1 v2 s0 = some r) : p_Go K l m_Mo_spread 2 [(0, p_r v0), (1, p_i v1), (2, p_i v2)] [] s0 (none, r) := by
  unfold L_Mo_spread_2 at h
  refine g_iload_n (i := 2) (j := 2) (dk_Mo_spread 2 rfl) rfl rfl ?_
  refine g_bipush (dk_Mo_spread 3 rfl) (by decide +kernel) (by decide) ?_
  refine g_icmp_ge 21 (dk_Mo_spread 4 rfl) (by decide) (fun b1 => ?_) (fun b1 => ?_)
  · have h := p_ifT b1 h
    refine g_aload_n (i := 0) (j := 0) (dk_Mo_spread 12 rfl) rfl rfl ?_
    refine g_iload_n (i := 1) (j := 1) (dk_Mo_spread 13 rfl) rfl rfl ?_
    refine g_iconst (dk_Mo_spread 14 rfl) (by decide) ?_
    obtain ⟨c2, h⟩ := p_gdE h
    obtain ⟨s3, q4, h⟩ := p_bvE h
    have t5 := tF_Mo_ahead K l v0 v1 0 s0 _ q4
    refine g_callV (a := v0) (ci := 11) (q0 := (RX11, TX11, 90)) (As := [p_i v1, p_i 0]) (rest := []) [] mt_Mo_ahead rfl rfl tw_9_34 ts_104 tw_9_32 ⟨Nat.le_of_ble_eq_true rfl, Nat.le_of_ble_eq_true rfl⟩ rfl (Nat.le_of_ble_eq_true rfl) (dk_Mo_spread 15 rfl) rfl c2 rfl t5 ?_
    have hs6 : p_x s0 s3 := t5.1
    show p_Go K l m_Mo_spread 27 [(0, p_r v0), (1, p_i v1), (2, p_i v2)] [] s3 _
    refine g_iconst (dk_Mo_spread 16 rfl) (by decide) ?_
    refine g_istore_n (i := 2) [(2, p_i 0), (0, p_r v0), (1, p_i v1)] (dk_Mo_spread 17 rfl) rfl (by decide) rfl ?_
    refine g_sub [(0, p_r v0), (2, p_i 0)] [1, 0] rfl ?_
    exact tO_Mo_spread_29 K l 3000 v0 0 s3 _ h
  · have h := p_ifF b1 h
    refine g_aload_n (i := 0) (j := 0) (dk_Mo_spread 5 rfl) rfl rfl ?_
    obtain ⟨c7, h⟩ := p_gdE h
    refine g_getR fl_Mo_217 (Or.inr ⟨_, rfl⟩) (dk_Mo_spread 6 rfl) c7 ?_
    refine g_iload_n (i := 2) (j := 2) (dk_Mo_spread 7 rfl) rfl rfl ?_
    refine g_iconst (dk_Mo_spread 8 rfl) (by decide) ?_
    obtain ⟨c8, h⟩ := p_gdE h
    obtain ⟨c9, h⟩ := p_gdE h
    refine g_iastore (dk_Mo_spread 9 rfl) c8 c9.1 c9.2 ?_
    refine p_ltS (P := fun q => p_Go K l m_Mo_spread 15 [(0, p_r v0), (1, p_i v1), (2, p_i v2)] [] q _) (p_xZ _ _ _ _) ?_ h
    intro s10 hs11 h
    refine g_iinc (j := 2) [(2, p_i (p_w (v2 + 1))), (0, p_r v0), (1, p_i v1)] (dk_Mo_spread 10 rfl) rfl (by decide) rfl ?_
    refine p_ltG (P := fun q => p_Go K l m_Mo_spread 18 [(2, p_i q), (0, p_r v0), (1, p_i v1)] [] s10 _) ?_ h
    intro x12 h
    refine g_goto 2 (dk_Mo_spread 11 rfl) (by decide) ?_
    refine g_sub [(0, p_r v0), (1, p_i v1), (2, p_i x12)] [1, 2, 0] rfl ?_
    exact hk2 v0 v1 x12 s10 _ h
set_option maxRecDepth 100000 in
set_option maxHeartbeats 4000000 in
theorem tO_Mo_spread_2 (K : p_K) (l : Launch)  : ∀ (n : Nat) (v0 : Nat) (v1 : Int) (v2 : Int) (s0 : p_Hp) (r : p_Hp), O_Mo_spread_2 n v0 v1 v2 s0 = some r → p_Go K l m_Mo_spread 2 [(0, p_r v0), (1, p_i v1), (2, p_i v2)] [] s0 (none, r) := by
  intro n
  induction n with
  | zero => intro v0 v1 v2 s0 r h; cases (show (none : Option p_Hp) = some r from h)
  | succ n ih => intro v0 v1 v2 s0 r h; exact tL_Mo_spread_2 K l _ ih v0 v1 v2 s0 r h
set_option maxRecDepth 100000 in
set_option maxHeartbeats 4000000 in
theorem tF_Mo_spread (K : p_K) (l : Launch) (v0 : Nat) (v1 : Int) (s0 : p_Hp) (r : p_Hp) (h : F_Mo_spread v0 v1 s0 = some r) : p_Ct K l m_Mo_spread [p_r v0, p_i v1] s0 (none, r) := by
  refine p_Ct.of (by decide +kernel) (Nat.le_of_ble_eq_true rfl) ?_
  unfold F_Mo_spread at h
  show p_Go K l m_Mo_spread 0 [(0, p_r v0), (1, p_i v1)] [] s0 _
  refine g_iconst (dk_Mo_spread 0 rfl) (by decide) ?_
  refine g_istore_n (i := 2) [(2, p_i 0), (0, p_r v0), (1, p_i v1)] (dk_Mo_spread 1 rfl) rfl (by decide) rfl ?_
  refine g_sub [(0, p_r v0), (1, p_i v1), (2, p_i 0)] [1, 2, 0] rfl ?_
  exact tO_Mo_spread_2 K l 3000 v0 v1 0 s0 _ h
def m_Mo_far : p_Me := (⟨"SortWorksModel", "far", "(II)I"⟩, prog_13_method_114_code, 3, (some .int), 5, 118)
theorem mt_Mo_far : p_Mt m_Mo_far 2 := ⟨p_mem (p_tb9 (List.mem_of_getElem? (i := 27) rfl)) rfl, tw_1_12, by decide +kernel, by decide +kernel, by decide +kernel⟩
def dt_Mo_far : List (Nat × Instr × Nat) := [(0, .aload_n 0, 1), (1, .iload_n 1, 1), (2, .invokevirtual 267, 3), (5, .ifCond .ne 11, 3), (8, .aload_n 0, 1), (9, .iload_n 2, 1), (10, .invokevirtual 267, 3), (13, .ifCond .eq 5, 3), (16, .iconst (-1), 1), (17, .ireturn, 1), (18, .iload_n 1, 1), (19, .iload_n 2, 1), (20, .if_icmp .ne 5, 3), (23, .iconst 0, 1), (24, .ireturn, 1), (25, .aload_n 0, 1), (26, .iload_n 1, 1), (27, .invokevirtual 535, 3), (30, .aload_n 0, 1), (31, .getfield 217, 3), (34, .iload_n 2, 1), (35, .iaload, 1), (36, .ifCond .ge 8, 3), (39, .bipush (-9), 2), (41, .goto 9, 3), (44, .aload_n 0, 1), (45, .getfield 217, 3), (48, .iload_n 2, 1), (49, .iaload, 1), (50, .ireturn, 1)]
theorem dk_Mo_far (i : Nat) {pc : Nat} {ins : Instr} {len : Nat} (h : dt_Mo_far[i]? = some (pc, ins, len)) : decode m_Mo_far.2.1 pc = .ok (ins, len) := p_dk (b := m_Mo_far.2.1) (t := dt_Mo_far) (by decide +kernel) i h
def F_Mo_far (v0 : Nat) (v1 : Int) (v2 : Int) (s0 : p_Hp) : Option (Int × p_Hp) :=
  p_gd (p_is s0 v0 11) <|
  p_bd (F_Mo_noGear v0 v1 s0) fun r6 s2 =>
  if r6 ≠ 0 then
    some ((-1), s2)
  else
    p_bd (F_Mo_noGear v0 v2 s2) fun r12 s8 =>
    if r12 = 0 then
      if v1 ≠ v2 then
        p_bv (F_Mo_spread v0 v1 s8) fun s15 =>
        p_gd (p_is s15 (p_R s15 v0 88) 100) <|
        p_gd ((0 : Int) ≤ v2 ∧ v2 < (p_L s15 (p_R s15 v0 88) : Int)) <|
        if 0 ≤ (p_Z s15 (p_R s15 v0 88) (v2 : Int).toNat) then
          p_gd ((0 : Int) ≤ v2 ∧ v2 < (p_L s15 (p_R s15 v0 88) : Int)) <|
          some ((p_Z s15 (p_R s15 v0 88) (v2 : Int).toNat), s15)
        else
          some ((-9), s15)
      else
        some (0, s8)
    else
      some ((-1), s8)
set_option maxRecDepth 100000 in
set_option maxHeartbeats 4000000 in
theorem tF_Mo_far (K : p_K) (l : Launch) (v0 : Nat) (v1 : Int) (v2 : Int) (s0 : p_Hp) (r : (Int × p_Hp)) (h : F_Mo_far v0 v1 v2 s0 = some r) : p_Ct K l m_Mo_far [p_r v0, p_i v1, p_i v2] s0 (some (p_i r.1), r.2) := by
  refine p_Ct.of (by decide +kernel) (Nat.le_of_ble_eq_true rfl) ?_
  unfold F_Mo_far at h
  show p_Go K l m_Mo_far 0 [(0, p_r v0), (1, p_i v1), (2, p_i v2)] [] s0 _
  refine g_aload_n (i := 0) (j := 0) (dk_Mo_far 0 rfl) rfl rfl ?_
  refine g_iload_n (i := 1) (j := 1) (dk_Mo_far 1 rfl) rfl rfl ?_
  obtain ⟨c1, h⟩ := p_gdE h
  obtain ⟨r6, s2, q3, h⟩ := p_bdE h
  have t4 := tF_Mo_noGear K l v0 v1 s0 _ q3
  refine g_callV (a := v0) (ci := 11) (q0 := (RX11, TX11, 90)) (As := [p_i v1]) (rest := []) [p_i r6] mt_Mo_noGear rfl rfl tw_7_106 ts_48 tw_7_104 ⟨Nat.le_of_ble_eq_true rfl, Nat.le_of_ble_eq_true rfl⟩ rfl (Nat.le_of_ble_eq_true rfl) (dk_Mo_far 2 rfl) rfl c1 rfl t4 ?_
  have hs5 : p_x s0 s2 := t4.1
  show p_Go K l m_Mo_far 5 [(0, p_r v0), (1, p_i v1), (2, p_i v2)] [p_i r6] s2 _
  refine g_if_ne 16 (dk_Mo_far 3 rfl) (by decide) (fun b7 => ?_) (fun b7 => ?_)
  · have h := p_ifT b7 h
    refine g_iconst (dk_Mo_far 8 rfl) (by decide) ?_
    cases h
    exact g_ret rfl rfl (dk_Mo_far 9 rfl) (fun os => ⟨_, rfl, p_okh os⟩)
  · have h := p_ifF b7 h
    refine g_aload_n (i := 0) (j := 0) (dk_Mo_far 4 rfl) rfl rfl ?_
    refine g_iload_n (i := 2) (j := 2) (dk_Mo_far 5 rfl) rfl rfl ?_
    obtain ⟨r12, s8, q9, h⟩ := p_bdE h
    have t10 := tF_Mo_noGear K l v0 v2 s2 _ q9
    refine g_callV (a := v0) (ci := 11) (q0 := (RX11, TX11, 90)) (As := [p_i v2]) (rest := []) [p_i r12] mt_Mo_noGear rfl rfl tw_7_106 ts_48 tw_7_104 ⟨Nat.le_of_ble_eq_true rfl, Nat.le_of_ble_eq_true rfl⟩ rfl (Nat.le_of_ble_eq_true rfl) (dk_Mo_far 6 rfl) rfl (c1.up hs5) rfl t10 ?_
    have hs11 : p_x s2 s8 := t10.1
    show p_Go K l m_Mo_far 13 [(0, p_r v0), (1, p_i v1), (2, p_i v2)] [p_i r12] s8 _
    refine g_if_eq 18 (dk_Mo_far 7 rfl) (by decide) (fun b13 => ?_) (fun b13 => ?_)
    · have h := p_ifT b13 h
      refine g_iload_n (i := 1) (j := 1) (dk_Mo_far 10 rfl) rfl rfl ?_
      refine g_iload_n (i := 2) (j := 2) (dk_Mo_far 11 rfl) rfl rfl ?_
      refine g_icmp_ne 25 (dk_Mo_far 12 rfl) (by decide) (fun b14 => ?_) (fun b14 => ?_)
      · have h := p_ifT b14 h
        refine g_aload_n (i := 0) (j := 0) (dk_Mo_far 15 rfl) rfl rfl ?_
        refine g_iload_n (i := 1) (j := 1) (dk_Mo_far 16 rfl) rfl rfl ?_
        obtain ⟨s15, q16, h⟩ := p_bvE h
        have t17 := tF_Mo_spread K l v0 v1 s8 _ q16
        refine g_callV (a := v0) (ci := 11) (q0 := (RX11, TX11, 90)) (As := [p_i v1]) (rest := []) [] mt_Mo_spread rfl rfl tw_9_30 ts_103 tw_9_28 ⟨Nat.le_of_ble_eq_true rfl, Nat.le_of_ble_eq_true rfl⟩ rfl (Nat.le_of_ble_eq_true rfl) (dk_Mo_far 17 rfl) rfl (c1.up (hs5.trans hs11)) rfl t17 ?_
        have hs18 : p_x s8 s15 := t17.1
        show p_Go K l m_Mo_far 30 [(0, p_r v0), (1, p_i v1), (2, p_i v2)] [] s15 _
        refine g_aload_n (i := 0) (j := 0) (dk_Mo_far 18 rfl) rfl rfl ?_
        refine g_getR fl_Mo_217 (Or.inr ⟨_, rfl⟩) (dk_Mo_far 19 rfl) (c1.up (hs5.trans (hs11.trans hs18))) ?_
        refine g_iload_n (i := 2) (j := 2) (dk_Mo_far 20 rfl) rfl rfl ?_
        obtain ⟨c19, h⟩ := p_gdE h
        obtain ⟨c20, h⟩ := p_gdE h
        refine g_iaload (dk_Mo_far 21 rfl) c19 c20.1 c20.2 ?_
        refine g_if_ge 44 (dk_Mo_far 22 rfl) (by decide) (fun b21 => ?_) (fun b21 => ?_)
        · have h := p_ifT b21 h
          refine g_aload_n (i := 0) (j := 0) (dk_Mo_far 25 rfl) rfl rfl ?_
          refine g_getR fl_Mo_217 (Or.inr ⟨_, rfl⟩) (dk_Mo_far 26 rfl) (c1.up (hs5.trans (hs11.trans hs18))) ?_
          refine g_iload_n (i := 2) (j := 2) (dk_Mo_far 27 rfl) rfl rfl ?_
          obtain ⟨c22, h⟩ := p_gdE h
          refine g_iaload (dk_Mo_far 28 rfl) c19 c22.1 c22.2 ?_
          cases h
          exact g_ret rfl rfl (dk_Mo_far 29 rfl) (fun os => ⟨_, rfl, p_okh os⟩)
        · have h := p_ifF b21 h
          refine g_bipush (dk_Mo_far 23 rfl) (by decide +kernel) (by decide) ?_
          refine g_goto 50 (dk_Mo_far 24 rfl) (by decide) ?_
          cases h
          exact g_ret rfl rfl (dk_Mo_far 29 rfl) (fun os => ⟨_, rfl, p_okh os⟩)
      · have h := p_ifF b14 h
        refine g_iconst (dk_Mo_far 13 rfl) (by decide) ?_
        cases h
        exact g_ret rfl rfl (dk_Mo_far 14 rfl) (fun os => ⟨_, rfl, p_okh os⟩)
    · have h := p_ifF b13 h
      refine g_iconst (dk_Mo_far 8 rfl) (by decide) ?_
      cases h
      exact g_ret rfl rfl (dk_Mo_far 9 rfl) (fun os => ⟨_, rfl, p_okh os⟩)
def m_Mo_reach : p_Me := (⟨"SortWorksModel", "reach", "(I)J"⟩, prog_13_method_115_code, 5, (some .long), 5, 118)
theorem mt_Mo_reach : p_Mt m_Mo_reach 1 := ⟨p_mem (p_tb9 (List.mem_of_getElem? (i := 39) rfl)) rfl, tw_1_12, by decide +kernel, by decide +kernel, by decide +kernel⟩
def dt_Mo_reach : List (Nat × Instr × Nat) := [(0, .aload_n 0, 1), (1, .iload_n 1, 1), (2, .invokevirtual 267, 3), (5, .ifCond .eq 5, 3), (8, .lconst 0, 1), (9, .lreturn, 1), (10, .aload_n 0, 1), (11, .iload_n 1, 1), (12, .invokevirtual 535, 3), (15, .lconst 0, 1), (16, .lstore_n 2, 1), (17, .iconst 0, 1), (18, .istore 4, 2), (20, .iload 4, 2), (22, .bipush 40, 2), (24, .if_icmp .ge 30, 3), (27, .lload_n 2, 1), (28, .aload_n 0, 1), (29, .getfield 217, 3), (32, .iload 4, 2), (34, .iaload, 1), (35, .ifCond .lt 10, 3), (38, .lconst 1, 1), (39, .iload 4, 2), (41, .lshl, 1), (42, .goto 4, 3), (45, .lconst 0, 1), (46, .lor, 1), (47, .lstore_n 2, 1), (48, .iinc 4 1, 3), (51, .goto (-31), 3), (54, .lload_n 2, 1), (55, .lreturn, 1)]
theorem dk_Mo_reach (i : Nat) {pc : Nat} {ins : Instr} {len : Nat} (h : dt_Mo_reach[i]? = some (pc, ins, len)) : decode m_Mo_reach.2.1 pc = .ok (ins, len) := p_dk (b := m_Mo_reach.2.1) (t := dt_Mo_reach) (by decide +kernel) i h
def B_Mo_reach_46 (k20 : Nat → Int → Int → p_Hp → Option (Int × p_Hp)) (v0 : Nat) (v4 : Int) (w0 : Int) (w1 : Int) (s0 : p_Hp) : Option (Int × p_Hp) :=
  p_bi ((p_or6 w1 w0)) fun x1 =>
  p_bi (p_w (v4 + 1)) fun x2 =>
  k20 v0 x1 x2 s0
def L_Mo_reach_20 (k20 : Nat → Int → Int → p_Hp → Option (Int × p_Hp)) (v0 : Nat) (v2 : Int) (v4 : Int) (s0 : p_Hp) : Option (Int × p_Hp) :=
  if 40 ≤ v4 then
    some (v2, s0)
  else
    p_gd (p_is s0 v0 11) <|
    p_gd (p_is s0 (p_R s0 v0 88) 100) <|
    p_gd ((0 : Int) ≤ v4 ∧ v4 < (p_L s0 (p_R s0 v0 88) : Int)) <|
    if (p_Z s0 (p_R s0 v0 88) (v4 : Int).toNat) < 0 then
      B_Mo_reach_46 k20 v0 v4 0 v2 s0
    else
      B_Mo_reach_46 k20 v0 v4 (p_shl6 1 v4) v2 s0
def O_Mo_reach_20  : Nat → Nat → Int → Int → p_Hp → Option (Int × p_Hp)
  | 0 => fun _ _ _ _ => none
  | n + 1 => L_Mo_reach_20 (O_Mo_reach_20 n)
def F_Mo_reach (v0 : Nat) (v1 : Int) (s0 : p_Hp) : Option (Int × p_Hp) :=
  p_gd (p_is s0 v0 11) <|
  p_bd (F_Mo_noGear v0 v1 s0) fun r6 s2 =>
  if r6 = 0 then
    p_bv (F_Mo_spread v0 v1 s2) fun s8 =>
    O_Mo_reach_20 3000 v0 0 0 s8
  else
    some (0, s2)
set_option maxRecDepth 100000 in
set_option maxHeartbeats 4000000 in
theorem tB_Mo_reach_46 (K : p_K) (l : Launch) (k20 : Nat → Int → Int → p_Hp → Option (Int × p_Hp)) (hk20 : ∀ (v0 : Nat) (v2 : Int) (v4 : Int)  (s0 : p_Hp) (r : (Int × p_Hp)), k20 v0 v2 v4 s0 = some r → p_Go K l m_Mo_reach 20 [(0, p_r v0), (2, p_j v2), (4, p_i v4)] [] s0 (some (p_j r.1), r.2)) (v0 : Nat) (v4 : Int) (w0 : Int) (w1 : Int) (s0 : p_Hp) (r : (Int × p_Hp)) (h : B_Mo_reach_46 k20 v0 v4 w0 w1 s0 = some r) : p_Go K l m_Mo_reach 46 [(0, p_r v0), (4, p_i v4)] [p_j w0, p_j w1] s0 (some (p_j r.1), r.2) := by
  unfold B_Mo_reach_46 at h
  refine g_lor (dk_Mo_reach 27 rfl) ?_
  refine g_lstore_n (i := 2) [(2, p_j (p_or6 w1 w0)), (0, p_r v0), (4, p_i v4)] (dk_Mo_reach 28 rfl) rfl (by decide) rfl ?_
  refine p_ltG (P := fun q => p_Go K l m_Mo_reach 48 [(2, p_j q), (0, p_r v0), (4, p_i v4)] [] s0 _) ?_ h
  intro x1 h
  refine g_iinc (j := 2) [(4, p_i (p_w (v4 + 1))), (2, p_j x1), (0, p_r v0)] (dk_Mo_reach 29 rfl) rfl (by decide) rfl ?_
  refine p_ltG (P := fun q => p_Go K l m_Mo_reach 51 [(4, p_i q), (2, p_j x1), (0, p_r v0)] [] s0 _) ?_ h
  intro x2 h
  refine g_goto 20 (dk_Mo_reach 30 rfl) (by decide) ?_
  refine g_sub [(0, p_r v0), (2, p_j x1), (4, p_i x2)] [2, 1, 0] rfl ?_
  exact hk20 v0 x1 x2 s0 _ h
set_option maxRecDepth 100000 in
set_option maxHeartbeats 4000000 in
theorem tL_Mo_reach_20 (K : p_K) (l : Launch) (k20 : Nat → Int → Int → p_Hp → Option (Int × p_Hp)) (hk20 : ∀ (v0 : Nat) (v2 : Int) (v4 : Int)  (s0 : p_Hp) (r : (Int × p_Hp)), k20 v0 v2 v4 s0 = some r → p_Go K l m_Mo_reach 20 [(0, p_r v0), (2, p_j v2), (4, p_i v4)] [] s0 (some (p_j r.1), r.2)) (v0 : Nat) (v2 : Int) (v4 : Int) (s0 : p_Hp) (r : (Int × p_Hp)) (h : L_Mo_reach_20 k20 v0 v2 v4 s0 = some r) : p_Go K l m_Mo_reach 20 [(0, p_r v0), (2, p_j v2), (4, p_i v4)] [] s0 (some (p_j r.1), r.2) := by
  unfold L_Mo_reach_20 at h
  refine g_iload (j := 2) (dk_Mo_reach 13 rfl) rfl ?_
  refine g_bipush (dk_Mo_reach 14 rfl) (by decide +kernel) (by decide) ?_
  refine g_icmp_ge 54 (dk_Mo_reach 15 rfl) (by decide) (fun b1 => ?_) (fun b1 => ?_)
  · have h := p_ifT b1 h
    refine g_lload_n (i := 2) (j := 1) (dk_Mo_reach 31 rfl) rfl rfl ?_
    cases h
    exact g_ret rfl rfl (dk_Mo_reach 32 rfl) (fun os => ⟨_, rfl, p_okh os⟩)
  · have h := p_ifF b1 h
    refine g_lload_n (i := 2) (j := 1) (dk_Mo_reach 16 rfl) rfl rfl ?_
    refine g_aload_n (i := 0) (j := 0) (dk_Mo_reach 17 rfl) rfl rfl ?_
    obtain ⟨c2, h⟩ := p_gdE h
    refine g_getR fl_Mo_217 (Or.inr ⟨_, rfl⟩) (dk_Mo_reach 18 rfl) c2 ?_
    refine g_iload (j := 2) (dk_Mo_reach 19 rfl) rfl ?_
    obtain ⟨c3, h⟩ := p_gdE h
    obtain ⟨c4, h⟩ := p_gdE h
    refine g_iaload (dk_Mo_reach 20 rfl) c3 c4.1 c4.2 ?_
    refine g_if_lt 45 (dk_Mo_reach 21 rfl) (by decide) (fun b5 => ?_) (fun b5 => ?_)
    · have h := p_ifT b5 h
      refine g_lconst (x := 0) (dk_Mo_reach 26 rfl) rfl (by decide) ?_
      refine g_sub [(0, p_r v0), (4, p_i v4)] [0, 2] rfl ?_
      exact tB_Mo_reach_46 K l k20 hk20 v0 v4 0 v2 s0 _ h
    · have h := p_ifF b5 h
      refine g_lconst (x := 1) (dk_Mo_reach 22 rfl) rfl (by decide) ?_
      refine g_iload (j := 2) (dk_Mo_reach 23 rfl) rfl ?_
      refine g_lshl (dk_Mo_reach 24 rfl) ?_
      refine g_goto 46 (dk_Mo_reach 25 rfl) (by decide) ?_
      refine g_sub [(0, p_r v0), (4, p_i v4)] [0, 2] rfl ?_
      exact tB_Mo_reach_46 K l k20 hk20 v0 v4 (p_shl6 1 v4) v2 s0 _ h
set_option maxRecDepth 100000 in
set_option maxHeartbeats 4000000 in
theorem tO_Mo_reach_20 (K : p_K) (l : Launch)  : ∀ (n : Nat) (v0 : Nat) (v2 : Int) (v4 : Int) (s0 : p_Hp) (r : (Int × p_Hp)), O_Mo_reach_20 n v0 v2 v4 s0 = some r → p_Go K l m_Mo_reach 20 [(0, p_r v0), (2, p_j v2), (4, p_i v4)] [] s0 (some (p_j r.1), r.2) := by
  intro n
  induction n with
  | zero => intro v0 v2 v4 s0 r h; cases (show (none : Option (Int × p_Hp)) = some r from h)
  | succ n ih => intro v0 v2 v4 s0 r h; exact tL_Mo_reach_20 K l _ ih v0 v2 v4 s0 r h
set_option maxRecDepth 100000 in
set_option maxHeartbeats 4000000 in
theorem tF_Mo_reach (K : p_K) (l : Launch) (v0 : Nat) (v1 : Int) (s0 : p_Hp) (r : (Int × p_Hp)) (h : F_Mo_reach v0 v1 s0 = some r) : p_Ct K l m_Mo_reach [p_r v0, p_i v1] s0 (some (p_j r.1), r.2) := by
  refine p_Ct.of (by decide +kernel) (Nat.le_of_ble_eq_true rfl) ?_
  unfold F_Mo_reach at h
  show p_Go K l m_Mo_reach 0 [(0, p_r v0), (1, p_i v1)] [] s0 _
  refine g_aload_n (i := 0) (j := 0) (dk_Mo_reach 0 rfl) rfl rfl ?_
  refine g_iload_n (i := 1) (j := 1) (dk_Mo_reach 1 rfl) rfl rfl ?_
  obtain ⟨c1, h⟩ := p_gdE h
  obtain ⟨r6, s2, q3, h⟩ := p_bdE h
  have t4 := tF_Mo_noGear K l v0 v1 s0 _ q3
  refine g_callV (a := v0) (ci := 11) (q0 := (RX11, TX11, 90)) (As := [p_i v1]) (rest := []) [p_i r6] mt_Mo_noGear rfl rfl tw_7_106 ts_48 tw_7_104 ⟨Nat.le_of_ble_eq_true rfl, Nat.le_of_ble_eq_true rfl⟩ rfl (Nat.le_of_ble_eq_true rfl) (dk_Mo_reach 2 rfl) rfl c1 rfl t4 ?_
  have hs5 : p_x s0 s2 := t4.1
  show p_Go K l m_Mo_reach 5 [(0, p_r v0), (1, p_i v1)] [p_i r6] s2 _
  refine g_if_eq 10 (dk_Mo_reach 3 rfl) (by decide) (fun b7 => ?_) (fun b7 => ?_)
  · have h := p_ifT b7 h
    refine g_aload_n (i := 0) (j := 0) (dk_Mo_reach 6 rfl) rfl rfl ?_
    refine g_iload_n (i := 1) (j := 1) (dk_Mo_reach 7 rfl) rfl rfl ?_
    obtain ⟨s8, q9, h⟩ := p_bvE h
    have t10 := tF_Mo_spread K l v0 v1 s2 _ q9
    refine g_callV (a := v0) (ci := 11) (q0 := (RX11, TX11, 90)) (As := [p_i v1]) (rest := []) [] mt_Mo_spread rfl rfl tw_9_30 ts_103 tw_9_28 ⟨Nat.le_of_ble_eq_true rfl, Nat.le_of_ble_eq_true rfl⟩ rfl (Nat.le_of_ble_eq_true rfl) (dk_Mo_reach 8 rfl) rfl (c1.up hs5) rfl t10 ?_
    have hs11 : p_x s2 s8 := t10.1
    show p_Go K l m_Mo_reach 15 [(0, p_r v0), (1, p_i v1)] [] s8 _
    refine g_lconst (x := 0) (dk_Mo_reach 9 rfl) rfl (by decide) ?_
    refine g_lstore_n (i := 2) [(2, p_j 0), (0, p_r v0), (1, p_i v1)] (dk_Mo_reach 10 rfl) rfl (by decide) rfl ?_
    refine g_iconst (dk_Mo_reach 11 rfl) (by decide) ?_
    refine g_istore [(4, p_i 0), (2, p_j 0), (0, p_r v0), (1, p_i v1)] (dk_Mo_reach 12 rfl) (by decide) rfl ?_
    refine g_sub [(0, p_r v0), (2, p_j 0), (4, p_i 0)] [2, 1, 0] rfl ?_
    exact tO_Mo_reach_20 K l 3000 v0 0 0 s8 _ h
  · have h := p_ifF b7 h
    refine g_lconst (x := 0) (dk_Mo_reach 4 rfl) rfl (by decide) ?_
    cases h
    exact g_ret rfl rfl (dk_Mo_reach 5 rfl) (fun os => ⟨_, rfl, p_okh os⟩)
def m_Mo_ring : p_Me := (⟨"SortWorksModel", "ring", "(I)I"⟩, prog_13_method_116_code, 2, (some .int), 5, 118)
theorem mt_Mo_ring : p_Mt m_Mo_ring 1 := ⟨p_mem (p_tb9 (List.mem_of_getElem? (i := 43) rfl)) rfl, tw_1_12, by decide +kernel, by decide +kernel, by decide +kernel⟩
def dt_Mo_ring : List (Nat × Instr × Nat) := [(0, .aload_n 0, 1), (1, .iload_n 1, 1), (2, .invokevirtual 267, 3), (5, .ifCond .eq 5, 3), (8, .iconst (-1), 1), (9, .ireturn, 1), (10, .aload_n 0, 1), (11, .iload_n 1, 1), (12, .invokevirtual 535, 3), (15, .aload_n 0, 1), (16, .getfield 217, 3), (19, .iload_n 1, 1), (20, .iaload, 1), (21, .ifCond .ge 8, 3), (24, .bipush (-9), 2), (26, .goto 9, 3), (29, .aload_n 0, 1), (30, .getfield 217, 3), (33, .iload_n 1, 1), (34, .iaload, 1), (35, .ireturn, 1)]
theorem dk_Mo_ring (i : Nat) {pc : Nat} {ins : Instr} {len : Nat} (h : dt_Mo_ring[i]? = some (pc, ins, len)) : decode m_Mo_ring.2.1 pc = .ok (ins, len) := p_dk (b := m_Mo_ring.2.1) (t := dt_Mo_ring) (by decide +kernel) i h
def F_Mo_ring (v0 : Nat) (v1 : Int) (s0 : p_Hp) : Option (Int × p_Hp) :=
  p_gd (p_is s0 v0 11) <|
  p_bd (F_Mo_noGear v0 v1 s0) fun r6 s2 =>
  if r6 = 0 then
    p_bv (F_Mo_spread v0 v1 s2) fun s8 =>
    p_gd (p_is s8 (p_R s8 v0 88) 100) <|
    p_gd ((0 : Int) ≤ v1 ∧ v1 < (p_L s8 (p_R s8 v0 88) : Int)) <|
    if 0 ≤ (p_Z s8 (p_R s8 v0 88) (v1 : Int).toNat) then
      p_gd ((0 : Int) ≤ v1 ∧ v1 < (p_L s8 (p_R s8 v0 88) : Int)) <|
      some ((p_Z s8 (p_R s8 v0 88) (v1 : Int).toNat), s8)
    else
      some ((-9), s8)
  else
    some ((-1), s2)
set_option maxRecDepth 100000 in
set_option maxHeartbeats 4000000 in
theorem tF_Mo_ring (K : p_K) (l : Launch) (v0 : Nat) (v1 : Int) (s0 : p_Hp) (r : (Int × p_Hp)) (h : F_Mo_ring v0 v1 s0 = some r) : p_Ct K l m_Mo_ring [p_r v0, p_i v1] s0 (some (p_i r.1), r.2) := by
  refine p_Ct.of (by decide +kernel) (Nat.le_of_ble_eq_true rfl) ?_
  unfold F_Mo_ring at h
  show p_Go K l m_Mo_ring 0 [(0, p_r v0), (1, p_i v1)] [] s0 _
  refine g_aload_n (i := 0) (j := 0) (dk_Mo_ring 0 rfl) rfl rfl ?_
  refine g_iload_n (i := 1) (j := 1) (dk_Mo_ring 1 rfl) rfl rfl ?_
  obtain ⟨c1, h⟩ := p_gdE h
  obtain ⟨r6, s2, q3, h⟩ := p_bdE h
  have t4 := tF_Mo_noGear K l v0 v1 s0 _ q3
  refine g_callV (a := v0) (ci := 11) (q0 := (RX11, TX11, 90)) (As := [p_i v1]) (rest := []) [p_i r6] mt_Mo_noGear rfl rfl tw_7_106 ts_48 tw_7_104 ⟨Nat.le_of_ble_eq_true rfl, Nat.le_of_ble_eq_true rfl⟩ rfl (Nat.le_of_ble_eq_true rfl) (dk_Mo_ring 2 rfl) rfl c1 rfl t4 ?_
  have hs5 : p_x s0 s2 := t4.1
  show p_Go K l m_Mo_ring 5 [(0, p_r v0), (1, p_i v1)] [p_i r6] s2 _
  refine g_if_eq 10 (dk_Mo_ring 3 rfl) (by decide) (fun b7 => ?_) (fun b7 => ?_)
  · have h := p_ifT b7 h
    refine g_aload_n (i := 0) (j := 0) (dk_Mo_ring 6 rfl) rfl rfl ?_
    refine g_iload_n (i := 1) (j := 1) (dk_Mo_ring 7 rfl) rfl rfl ?_
    obtain ⟨s8, q9, h⟩ := p_bvE h
    have t10 := tF_Mo_spread K l v0 v1 s2 _ q9
    refine g_callV (a := v0) (ci := 11) (q0 := (RX11, TX11, 90)) (As := [p_i v1]) (rest := []) [] mt_Mo_spread rfl rfl tw_9_30 ts_103 tw_9_28 ⟨Nat.le_of_ble_eq_true rfl, Nat.le_of_ble_eq_true rfl⟩ rfl (Nat.le_of_ble_eq_true rfl) (dk_Mo_ring 8 rfl) rfl (c1.up hs5) rfl t10 ?_
    have hs11 : p_x s2 s8 := t10.1
    show p_Go K l m_Mo_ring 15 [(0, p_r v0), (1, p_i v1)] [] s8 _
    refine g_aload_n (i := 0) (j := 0) (dk_Mo_ring 9 rfl) rfl rfl ?_
    refine g_getR fl_Mo_217 (Or.inr ⟨_, rfl⟩) (dk_Mo_ring 10 rfl) (c1.up (hs5.trans hs11)) ?_
    refine g_iload_n (i := 1) (j := 1) (dk_Mo_ring 11 rfl) rfl rfl ?_
    obtain ⟨c12, h⟩ := p_gdE h
    obtain ⟨c13, h⟩ := p_gdE h
    refine g_iaload (dk_Mo_ring 12 rfl) c12 c13.1 c13.2 ?_
    refine g_if_ge 29 (dk_Mo_ring 13 rfl) (by decide) (fun b14 => ?_) (fun b14 => ?_)
    · have h := p_ifT b14 h
      refine g_aload_n (i := 0) (j := 0) (dk_Mo_ring 16 rfl) rfl rfl ?_
      refine g_getR fl_Mo_217 (Or.inr ⟨_, rfl⟩) (dk_Mo_ring 17 rfl) (c1.up (hs5.trans hs11)) ?_
      refine g_iload_n (i := 1) (j := 1) (dk_Mo_ring 18 rfl) rfl rfl ?_
      obtain ⟨c15, h⟩ := p_gdE h
      refine g_iaload (dk_Mo_ring 19 rfl) c12 c15.1 c15.2 ?_
      cases h
      exact g_ret rfl rfl (dk_Mo_ring 20 rfl) (fun os => ⟨_, rfl, p_okh os⟩)
    · have h := p_ifF b14 h
      refine g_bipush (dk_Mo_ring 14 rfl) (by decide +kernel) (by decide) ?_
      refine g_goto 35 (dk_Mo_ring 15 rfl) (by decide) ?_
      cases h
      exact g_ret rfl rfl (dk_Mo_ring 20 rfl) (fun os => ⟨_, rfl, p_okh os⟩)
  · have h := p_ifF b7 h
    refine g_iconst (dk_Mo_ring 4 rfl) (by decide) ?_
    cases h
    exact g_ret rfl rfl (dk_Mo_ring 5 rfl) (fun os => ⟨_, rfl, p_okh os⟩)
def m_Mo_audit : p_Me := (⟨"SortWorksModel", "audit", "()I"⟩, prog_13_method_117_code, 2, (some .int), 1, 23)
theorem mt_Mo_audit : p_Mt m_Mo_audit 0 := ⟨p_mem (p_tb9 (List.mem_of_getElem? (i := 47) rfl)) rfl, tw_1_12, by decide +kernel, by decide +kernel, by decide +kernel⟩
def dt_Mo_audit : List (Nat × Instr × Nat) := [(0, .iconst 0, 1), (1, .istore_n 1, 1), (2, .iload_n 1, 1), (3, .aload_n 0, 1), (4, .getfield 7, 3), (7, .aload_n 0, 1), (8, .getfield 227, 3), (11, .iaload, 1), (12, .if_icmp .ge 44, 3), (15, .aload_n 0, 1), (16, .getfield 57, 3), (19, .aload_n 0, 1), (20, .iload_n 1, 1), (21, .invokevirtual 257, 3), (24, .iaload, 1), (25, .aload_n 0, 1), (26, .getfield 60, 3), (29, .aload_n 0, 1), (30, .iload_n 1, 1), (31, .invokevirtual 257, 3), (34, .iaload, 1), (35, .isub, 1), (36, .aload_n 0, 1), (37, .aload_n 0, 1), (38, .iload_n 1, 1), (39, .invokevirtual 257, 3), (42, .invokevirtual 282, 3), (45, .if_icmp .eq 5, 3), (48, .iload_n 1, 1), (49, .ireturn, 1), (50, .iinc 1 1, 3), (53, .goto (-51), 3), (56, .bipush (-9), 2), (58, .ireturn, 1)]
theorem dk_Mo_audit (i : Nat) {pc : Nat} {ins : Instr} {len : Nat} (h : dt_Mo_audit[i]? = some (pc, ins, len)) : decode m_Mo_audit.2.1 pc = .ok (ins, len) := p_dk (b := m_Mo_audit.2.1) (t := dt_Mo_audit) (by decide +kernel) i h
def L_Mo_audit_2 (k2 : Nat → Int → p_Hp → Option (Int × p_Hp)) (v0 : Nat) (v1 : Int) (s0 : p_Hp) : Option (Int × p_Hp) :=
  p_gd (p_is s0 v0 11) <|
  p_gd (p_is s0 (p_R s0 v0 3) 100) <|
  p_gd ((0 : Int) ≤ (p_Z s0 v0 0) ∧ (p_Z s0 v0 0) < (p_L s0 (p_R s0 v0 3) : Int)) <|
  if (p_Z s0 (p_R s0 v0 3) ((p_Z s0 v0 0) : Int).toNat) ≤ v1 then
    some ((-9), s0)
  else
    p_bd (F_Mo_g v0 v1 s0) fun r9 s5 =>
    p_gd (p_is s5 (p_R s0 v0 18) 100) <|
    p_gd ((0 : Int) ≤ r9 ∧ r9 < (p_L s5 (p_R s0 v0 18) : Int)) <|
    p_bd (F_Mo_g v0 v1 s5) fun r16 s12 =>
    p_gd (p_is s12 (p_R s5 v0 19) 100) <|
    p_gd ((0 : Int) ≤ r16 ∧ r16 < (p_L s12 (p_R s5 v0 19) : Int)) <|
    p_bd (F_Mo_g v0 v1 s12) fun r23 s19 =>
    p_bd (F_Mo_loadOf v0 r23 s19) fun r28 s24 =>
    if (p_w ((p_Z s5 (p_R s0 v0 18) (r9 : Int).toNat) - (p_Z s12 (p_R s5 v0 19) (r16 : Int).toNat))) = r28 then
      p_bi (p_w (v1 + 1)) fun x30 =>
      k2 v0 x30 s24
    else
      some (v1, s24)
def O_Mo_audit_2  : Nat → Nat → Int → p_Hp → Option (Int × p_Hp)
  | 0 => fun _ _ _ => none
  | n + 1 => L_Mo_audit_2 (O_Mo_audit_2 n)
def F_Mo_audit (v0 : Nat) (s0 : p_Hp) : Option (Int × p_Hp) :=
  O_Mo_audit_2 3000 v0 0 s0
set_option maxRecDepth 100000 in
set_option maxHeartbeats 4000000 in
theorem tL_Mo_audit_2 (K : p_K) (l : Launch) (k2 : Nat → Int → p_Hp → Option (Int × p_Hp)) (hk2 : ∀ (v0 : Nat) (v1 : Int)  (s0 : p_Hp) (r : (Int × p_Hp)), k2 v0 v1 s0 = some r → p_Go K l m_Mo_audit 2 [(0, p_r v0), (1, p_i v1)] [] s0 (some (p_i r.1), r.2)) (v0 : Nat) (v1 : Int) (s0 : p_Hp) (r : (Int × p_Hp)) (h : L_Mo_audit_2 k2 v0 v1 s0 = some r) : p_Go K l m_Mo_audit 2 [(0, p_r v0), (1, p_i v1)] [] s0 (some (p_i r.1), r.2) := by
  unfold L_Mo_audit_2 at h
  refine g_iload_n (i := 1) (j := 1) (dk_Mo_audit 2 rfl) rfl rfl ?_
  refine g_aload_n (i := 0) (j := 0) (dk_Mo_audit 3 rfl) rfl rfl ?_
  obtain ⟨c1, h⟩ := p_gdE h
  refine g_getR fl_Mo_7 (Or.inr ⟨_, rfl⟩) (dk_Mo_audit 4 rfl) c1 ?_
  refine g_aload_n (i := 0) (j := 0) (dk_Mo_audit 5 rfl) rfl rfl ?_
  refine g_getI fl_Mo_227 (Or.inl rfl) (dk_Mo_audit 6 rfl) c1 ?_
  obtain ⟨c2, h⟩ := p_gdE h
  obtain ⟨c3, h⟩ := p_gdE h
  refine g_iaload (dk_Mo_audit 7 rfl) c2 c3.1 c3.2 ?_
  refine g_icmp_ge 56 (dk_Mo_audit 8 rfl) (by decide) (fun b4 => ?_) (fun b4 => ?_)
  · have h := p_ifT b4 h
    refine g_bipush (dk_Mo_audit 32 rfl) (by decide +kernel) (by decide) ?_
    cases h
    exact g_ret rfl rfl (dk_Mo_audit 33 rfl) (fun os => ⟨_, rfl, p_okh os⟩)
  · have h := p_ifF b4 h
    refine g_aload_n (i := 0) (j := 0) (dk_Mo_audit 9 rfl) rfl rfl ?_
    refine g_getR fl_Mo_57 (Or.inr ⟨_, rfl⟩) (dk_Mo_audit 10 rfl) c1 ?_
    refine g_aload_n (i := 0) (j := 0) (dk_Mo_audit 11 rfl) rfl rfl ?_
    refine g_iload_n (i := 1) (j := 1) (dk_Mo_audit 12 rfl) rfl rfl ?_
    obtain ⟨r9, s5, q6, h⟩ := p_bdE h
    have t7 := tF_Mo_g K l v0 v1 s0 _ q6
    refine g_callV (a := v0) (ci := 11) (q0 := (RX11, TX11, 90)) (As := [p_i v1]) (rest := [p_r (p_R s0 v0 18)]) [p_i r9, p_r (p_R s0 v0 18)] mt_Mo_g rfl rfl tw_7_84 ts_45 tw_7_82 ⟨Nat.le_of_ble_eq_true rfl, Nat.le_of_ble_eq_true rfl⟩ rfl (Nat.le_of_ble_eq_true rfl) (dk_Mo_audit 13 rfl) rfl c1 rfl t7 ?_
    have hs8 : p_x s0 s5 := t7.1
    show p_Go K l m_Mo_audit 24 [(0, p_r v0), (1, p_i v1)] [p_i r9, p_r (p_R s0 v0 18)] s5 _
    obtain ⟨c10, h⟩ := p_gdE h
    obtain ⟨c11, h⟩ := p_gdE h
    refine g_iaload (dk_Mo_audit 14 rfl) c10 c11.1 c11.2 ?_
    refine g_aload_n (i := 0) (j := 0) (dk_Mo_audit 15 rfl) rfl rfl ?_
    refine g_getR fl_Mo_60 (Or.inr ⟨_, rfl⟩) (dk_Mo_audit 16 rfl) (c1.up hs8) ?_
    refine g_aload_n (i := 0) (j := 0) (dk_Mo_audit 17 rfl) rfl rfl ?_
    refine g_iload_n (i := 1) (j := 1) (dk_Mo_audit 18 rfl) rfl rfl ?_
    obtain ⟨r16, s12, q13, h⟩ := p_bdE h
    have t14 := tF_Mo_g K l v0 v1 s5 _ q13
    refine g_callV (a := v0) (ci := 11) (q0 := (RX11, TX11, 90)) (As := [p_i v1]) (rest := [p_r (p_R s5 v0 19), p_i (p_Z s5 (p_R s0 v0 18) (r9 : Int).toNat)]) [p_i r16, p_r (p_R s5 v0 19), p_i (p_Z s5 (p_R s0 v0 18) (r9 : Int).toNat)] mt_Mo_g rfl rfl tw_7_84 ts_45 tw_7_82 ⟨Nat.le_of_ble_eq_true rfl, Nat.le_of_ble_eq_true rfl⟩ rfl (Nat.le_of_ble_eq_true rfl) (dk_Mo_audit 19 rfl) rfl (c1.up hs8) rfl t14 ?_
    have hs15 : p_x s5 s12 := t14.1
    show p_Go K l m_Mo_audit 34 [(0, p_r v0), (1, p_i v1)] [p_i r16, p_r (p_R s5 v0 19), p_i (p_Z s5 (p_R s0 v0 18) (r9 : Int).toNat)] s12 _
    obtain ⟨c17, h⟩ := p_gdE h
    obtain ⟨c18, h⟩ := p_gdE h
    refine g_iaload (dk_Mo_audit 20 rfl) c17 c18.1 c18.2 ?_
    refine g_isub (dk_Mo_audit 21 rfl) ?_
    refine g_aload_n (i := 0) (j := 0) (dk_Mo_audit 22 rfl) rfl rfl ?_
    refine g_aload_n (i := 0) (j := 0) (dk_Mo_audit 23 rfl) rfl rfl ?_
    refine g_iload_n (i := 1) (j := 1) (dk_Mo_audit 24 rfl) rfl rfl ?_
    obtain ⟨r23, s19, q20, h⟩ := p_bdE h
    have t21 := tF_Mo_g K l v0 v1 s12 _ q20
    refine g_callV (a := v0) (ci := 11) (q0 := (RX11, TX11, 90)) (As := [p_i v1]) (rest := [p_r v0, p_i (p_w ((p_Z s5 (p_R s0 v0 18) (r9 : Int).toNat) - (p_Z s12 (p_R s5 v0 19) (r16 : Int).toNat)))]) [p_i r23, p_r v0, p_i (p_w ((p_Z s5 (p_R s0 v0 18) (r9 : Int).toNat) - (p_Z s12 (p_R s5 v0 19) (r16 : Int).toNat)))] mt_Mo_g rfl rfl tw_7_84 ts_45 tw_7_82 ⟨Nat.le_of_ble_eq_true rfl, Nat.le_of_ble_eq_true rfl⟩ rfl (Nat.le_of_ble_eq_true rfl) (dk_Mo_audit 25 rfl) rfl (c1.up (hs8.trans hs15)) rfl t21 ?_
    have hs22 : p_x s12 s19 := t21.1
    show p_Go K l m_Mo_audit 42 [(0, p_r v0), (1, p_i v1)] [p_i r23, p_r v0, p_i (p_w ((p_Z s5 (p_R s0 v0 18) (r9 : Int).toNat) - (p_Z s12 (p_R s5 v0 19) (r16 : Int).toNat)))] s19 _
    obtain ⟨r28, s24, q25, h⟩ := p_bdE h
    have t26 := tF_Mo_loadOf K l v0 r23 s19 _ q25
    refine g_callV (a := v0) (ci := 11) (q0 := (RX11, TX11, 90)) (As := [p_i r23]) (rest := [p_i (p_w ((p_Z s5 (p_R s0 v0 18) (r9 : Int).toNat) - (p_Z s12 (p_R s5 v0 19) (r16 : Int).toNat)))]) [p_i r28, p_i (p_w ((p_Z s5 (p_R s0 v0 18) (r9 : Int).toNat) - (p_Z s12 (p_R s5 v0 19) (r16 : Int).toNat)))] mt_Mo_loadOf rfl rfl tw_7_136 ts_50 tw_7_134 ⟨Nat.le_of_ble_eq_true rfl, Nat.le_of_ble_eq_true rfl⟩ rfl (Nat.le_of_ble_eq_true rfl) (dk_Mo_audit 26 rfl) rfl (c1.up (hs8.trans (hs15.trans hs22))) rfl t26 ?_
    have hs27 : p_x s19 s24 := t26.1
    show p_Go K l m_Mo_audit 45 [(0, p_r v0), (1, p_i v1)] [p_i r28, p_i (p_w ((p_Z s5 (p_R s0 v0 18) (r9 : Int).toNat) - (p_Z s12 (p_R s5 v0 19) (r16 : Int).toNat)))] s24 _
    refine g_icmp_eq 50 (dk_Mo_audit 27 rfl) (by decide) (fun b29 => ?_) (fun b29 => ?_)
    · have h := p_ifT b29 h
      refine g_iinc (j := 1) [(1, p_i (p_w (v1 + 1))), (0, p_r v0)] (dk_Mo_audit 30 rfl) rfl (by decide) rfl ?_
      refine p_ltG (P := fun q => p_Go K l m_Mo_audit 53 [(1, p_i q), (0, p_r v0)] [] s24 _) ?_ h
      intro x30 h
      refine g_goto 2 (dk_Mo_audit 31 rfl) (by decide) ?_
      refine g_sub [(0, p_r v0), (1, p_i x30)] [1, 0] rfl ?_
      exact hk2 v0 x30 s24 _ h
    · have h := p_ifF b29 h
      refine g_iload_n (i := 1) (j := 1) (dk_Mo_audit 28 rfl) rfl rfl ?_
      cases h
      exact g_ret rfl rfl (dk_Mo_audit 29 rfl) (fun os => ⟨_, rfl, p_okh os⟩)
set_option maxRecDepth 100000 in
set_option maxHeartbeats 4000000 in
theorem tO_Mo_audit_2 (K : p_K) (l : Launch)  : ∀ (n : Nat) (v0 : Nat) (v1 : Int) (s0 : p_Hp) (r : (Int × p_Hp)), O_Mo_audit_2 n v0 v1 s0 = some r → p_Go K l m_Mo_audit 2 [(0, p_r v0), (1, p_i v1)] [] s0 (some (p_i r.1), r.2) := by
  intro n
  induction n with
  | zero => intro v0 v1 s0 r h; cases (show (none : Option (Int × p_Hp)) = some r from h)
  | succ n ih => intro v0 v1 s0 r h; exact tL_Mo_audit_2 K l _ ih v0 v1 s0 r h
set_option maxRecDepth 100000 in
set_option maxHeartbeats 4000000 in
theorem tF_Mo_audit (K : p_K) (l : Launch) (v0 : Nat) (s0 : p_Hp) (r : (Int × p_Hp)) (h : F_Mo_audit v0 s0 = some r) : p_Ct K l m_Mo_audit [p_r v0] s0 (some (p_i r.1), r.2) := by
  refine p_Ct.of (by decide +kernel) (Nat.le_of_ble_eq_true rfl) ?_
  unfold F_Mo_audit at h
  show p_Go K l m_Mo_audit 0 [(0, p_r v0)] [] s0 _
  refine g_iconst (dk_Mo_audit 0 rfl) (by decide) ?_
  refine g_istore_n (i := 1) [(1, p_i 0), (0, p_r v0)] (dk_Mo_audit 1 rfl) rfl (by decide) rfl ?_
  refine g_sub [(0, p_r v0), (1, p_i 0)] [1, 0] rfl ?_
  exact tO_Mo_audit_2 K l 3000 v0 0 s0 _ h
def m_Mo_count : p_Me := (⟨"SortWorksModel", "count", "(I)I"⟩, prog_13_method_118_code, 2, (some .int), 0, 0)
theorem mt_Mo_count : p_Mt m_Mo_count 1 := ⟨p_mem (p_tb9 (List.mem_of_getElem? (i := 51) rfl)) rfl, tw_1_12, by decide +kernel, by decide +kernel, by decide +kernel⟩
def dt_Mo_count : List (Nat × Instr × Nat) := [(0, .iload_n 1, 1), (1, .tableswitch 191 0 13 #[71, 81, 91, 101, 111, 121, 131, 141, 146, 156, 166, 171, 181, 186], 71), (72, .aload_n 0, 1), (73, .getfield 7, 3), (76, .aload_n 0, 1), (77, .getfield 227, 3), (80, .iaload, 1), (81, .ireturn, 1), (82, .aload_n 0, 1), (83, .getfield 114, 3), (86, .aload_n 0, 1), (87, .getfield 227, 3), (90, .iaload, 1), (91, .ireturn, 1), (92, .aload_n 0, 1), (93, .getfield 117, 3), (96, .aload_n 0, 1), (97, .getfield 227, 3), (100, .iaload, 1), (101, .ireturn, 1), (102, .aload_n 0, 1), (103, .getfield 120, 3), (106, .aload_n 0, 1), (107, .getfield 227, 3), (110, .iaload, 1), (111, .ireturn, 1), (112, .aload_n 0, 1), (113, .getfield 141, 3), (116, .aload_n 0, 1), (117, .getfield 227, 3), (120, .iaload, 1), (121, .ireturn, 1), (122, .aload_n 0, 1), (123, .getfield 13, 3), (126, .aload_n 0, 1), (127, .getfield 227, 3), (130, .iaload, 1), (131, .ireturn, 1), (132, .aload_n 0, 1), (133, .getfield 126, 3), (136, .aload_n 0, 1), (137, .getfield 227, 3), (140, .iaload, 1), (141, .ireturn, 1), (142, .aload_n 0, 1), (143, .getfield 224, 3), (146, .ireturn, 1), (147, .aload_n 0, 1), (148, .getfield 207, 3), (151, .aload_n 0, 1), (152, .getfield 227, 3), (155, .iaload, 1), (156, .ireturn, 1), (157, .aload_n 0, 1), (158, .getfield 132, 3), (161, .aload_n 0, 1), (162, .getfield 227, 3), (165, .iaload, 1), (166, .ireturn, 1), (167, .aload_n 0, 1), (168, .getfield 295, 3), (171, .ireturn, 1), (172, .aload_n 0, 1), (173, .getfield 165, 3), (176, .aload_n 0, 1), (177, .getfield 227, 3), (180, .iaload, 1), (181, .ireturn, 1), (182, .aload_n 0, 1), (183, .getfield 227, 3), (186, .ireturn, 1), (187, .aload_n 0, 1), (188, .getfield 334, 3), (191, .ireturn, 1), (192, .bipush (-9), 2), (194, .ireturn, 1)]
theorem dk_Mo_count (i : Nat) {pc : Nat} {ins : Instr} {len : Nat} (h : dt_Mo_count[i]? = some (pc, ins, len)) : decode m_Mo_count.2.1 pc = .ok (ins, len) := p_dk (b := m_Mo_count.2.1) (t := dt_Mo_count) (by decide +kernel) i h
def F_Mo_count (v0 : Nat) (v1 : Int) (s0 : p_Hp) : Option (Int × p_Hp) :=
  if v1 = 0 then
    p_gd (p_is s0 v0 11) <|
    p_gd (p_is s0 (p_R s0 v0 3) 100) <|
    p_gd ((0 : Int) ≤ (p_Z s0 v0 0) ∧ (p_Z s0 v0 0) < (p_L s0 (p_R s0 v0 3) : Int)) <|
    some ((p_Z s0 (p_R s0 v0 3) ((p_Z s0 v0 0) : Int).toNat), s0)
  else if v1 = 1 then
    p_gd (p_is s0 v0 11) <|
    p_gd (p_is s0 (p_R s0 v0 38) 100) <|
    p_gd ((0 : Int) ≤ (p_Z s0 v0 0) ∧ (p_Z s0 v0 0) < (p_L s0 (p_R s0 v0 38) : Int)) <|
    some ((p_Z s0 (p_R s0 v0 38) ((p_Z s0 v0 0) : Int).toNat), s0)
  else if v1 = 2 then
    p_gd (p_is s0 v0 11) <|
    p_gd (p_is s0 (p_R s0 v0 39) 100) <|
    p_gd ((0 : Int) ≤ (p_Z s0 v0 0) ∧ (p_Z s0 v0 0) < (p_L s0 (p_R s0 v0 39) : Int)) <|
    some ((p_Z s0 (p_R s0 v0 39) ((p_Z s0 v0 0) : Int).toNat), s0)
  else if v1 = 3 then
    p_gd (p_is s0 v0 11) <|
    p_gd (p_is s0 (p_R s0 v0 40) 100) <|
    p_gd ((0 : Int) ≤ (p_Z s0 v0 0) ∧ (p_Z s0 v0 0) < (p_L s0 (p_R s0 v0 40) : Int)) <|
    some ((p_Z s0 (p_R s0 v0 40) ((p_Z s0 v0 0) : Int).toNat), s0)
  else if v1 = 4 then
    p_gd (p_is s0 v0 11) <|
    p_gd (p_is s0 (p_R s0 v0 48) 100) <|
    p_gd ((0 : Int) ≤ (p_Z s0 v0 0) ∧ (p_Z s0 v0 0) < (p_L s0 (p_R s0 v0 48) : Int)) <|
    some ((p_Z s0 (p_R s0 v0 48) ((p_Z s0 v0 0) : Int).toNat), s0)
  else if v1 = 5 then
    p_gd (p_is s0 v0 11) <|
    p_gd (p_is s0 (p_R s0 v0 4) 100) <|
    p_gd ((0 : Int) ≤ (p_Z s0 v0 0) ∧ (p_Z s0 v0 0) < (p_L s0 (p_R s0 v0 4) : Int)) <|
    some ((p_Z s0 (p_R s0 v0 4) ((p_Z s0 v0 0) : Int).toNat), s0)
  else if v1 = 6 then
    p_gd (p_is s0 v0 11) <|
    p_gd (p_is s0 (p_R s0 v0 42) 100) <|
    p_gd ((0 : Int) ≤ (p_Z s0 v0 0) ∧ (p_Z s0 v0 0) < (p_L s0 (p_R s0 v0 42) : Int)) <|
    some ((p_Z s0 (p_R s0 v0 42) ((p_Z s0 v0 0) : Int).toNat), s0)
  else if v1 = 7 then
    p_gd (p_is s0 v0 11) <|
    some ((p_Z s0 v0 2), s0)
  else if v1 = 8 then
    p_gd (p_is s0 v0 11) <|
    p_gd (p_is s0 (p_R s0 v0 81) 100) <|
    p_gd ((0 : Int) ≤ (p_Z s0 v0 0) ∧ (p_Z s0 v0 0) < (p_L s0 (p_R s0 v0 81) : Int)) <|
    some ((p_Z s0 (p_R s0 v0 81) ((p_Z s0 v0 0) : Int).toNat), s0)
  else if v1 = 9 then
    p_gd (p_is s0 v0 11) <|
    p_gd (p_is s0 (p_R s0 v0 44) 100) <|
    p_gd ((0 : Int) ≤ (p_Z s0 v0 0) ∧ (p_Z s0 v0 0) < (p_L s0 (p_R s0 v0 44) : Int)) <|
    some ((p_Z s0 (p_R s0 v0 44) ((p_Z s0 v0 0) : Int).toNat), s0)
  else if v1 = 10 then
    p_gd (p_is s0 v0 11) <|
    some ((p_Z s0 v0 47), s0)
  else if v1 = 11 then
    p_gd (p_is s0 v0 11) <|
    p_gd (p_is s0 (p_R s0 v0 56) 100) <|
    p_gd ((0 : Int) ≤ (p_Z s0 v0 0) ∧ (p_Z s0 v0 0) < (p_L s0 (p_R s0 v0 56) : Int)) <|
    some ((p_Z s0 (p_R s0 v0 56) ((p_Z s0 v0 0) : Int).toNat), s0)
  else if v1 = 12 then
    p_gd (p_is s0 v0 11) <|
    some ((p_Z s0 v0 0), s0)
  else if v1 = 13 then
    p_gd (p_is s0 v0 11) <|
    some ((p_Z s0 v0 23), s0)
  else 
  some ((-9), s0)
set_option maxRecDepth 100000 in
set_option maxHeartbeats 4000000 in
theorem tF_Mo_count (K : p_K) (l : Launch) (v0 : Nat) (v1 : Int) (s0 : p_Hp) (r : (Int × p_Hp)) (h : F_Mo_count v0 v1 s0 = some r) : p_Ct K l m_Mo_count [p_r v0, p_i v1] s0 (some (p_i r.1), r.2) := by
  refine p_Ct.of (by decide +kernel) (Nat.le_of_ble_eq_true rfl) ?_
  unfold F_Mo_count at h
  show p_Go K l m_Mo_count 0 [(0, p_r v0), (1, p_i v1)] [] s0 _
  refine g_iload_n (i := 1) (j := 1) (dk_Mo_count 0 rfl) rfl rfl ?_
  rcases p_iteE h with ⟨b1, h⟩ | ⟨b1, h⟩
  · refine g_tableIn 72 (dk_Mo_count 1 rfl) (by omega) (by omega) (by rw [b1]; rfl) (by decide) ?_
    refine g_aload_n (i := 0) (j := 0) (dk_Mo_count 2 rfl) rfl rfl ?_
    obtain ⟨c2, h⟩ := p_gdE h
    refine g_getR fl_Mo_7 (Or.inr ⟨_, rfl⟩) (dk_Mo_count 3 rfl) c2 ?_
    refine g_aload_n (i := 0) (j := 0) (dk_Mo_count 4 rfl) rfl rfl ?_
    refine g_getI fl_Mo_227 (Or.inl rfl) (dk_Mo_count 5 rfl) c2 ?_
    obtain ⟨c3, h⟩ := p_gdE h
    obtain ⟨c4, h⟩ := p_gdE h
    refine g_iaload (dk_Mo_count 6 rfl) c3 c4.1 c4.2 ?_
    cases h
    exact g_ret rfl rfl (dk_Mo_count 7 rfl) (fun os => ⟨_, rfl, p_okh os⟩)
  rcases p_iteE h with ⟨b5, h⟩ | ⟨b5, h⟩
  · refine g_tableIn 82 (dk_Mo_count 1 rfl) (by omega) (by omega) (by rw [b5]; rfl) (by decide) ?_
    refine g_aload_n (i := 0) (j := 0) (dk_Mo_count 8 rfl) rfl rfl ?_
    obtain ⟨c6, h⟩ := p_gdE h
    refine g_getR fl_Mo_114 (Or.inr ⟨_, rfl⟩) (dk_Mo_count 9 rfl) c6 ?_
    refine g_aload_n (i := 0) (j := 0) (dk_Mo_count 10 rfl) rfl rfl ?_
    refine g_getI fl_Mo_227 (Or.inl rfl) (dk_Mo_count 11 rfl) c6 ?_
    obtain ⟨c7, h⟩ := p_gdE h
    obtain ⟨c8, h⟩ := p_gdE h
    refine g_iaload (dk_Mo_count 12 rfl) c7 c8.1 c8.2 ?_
    cases h
    exact g_ret rfl rfl (dk_Mo_count 13 rfl) (fun os => ⟨_, rfl, p_okh os⟩)
  rcases p_iteE h with ⟨b9, h⟩ | ⟨b9, h⟩
  · refine g_tableIn 92 (dk_Mo_count 1 rfl) (by omega) (by omega) (by rw [b9]; rfl) (by decide) ?_
    refine g_aload_n (i := 0) (j := 0) (dk_Mo_count 14 rfl) rfl rfl ?_
    obtain ⟨c10, h⟩ := p_gdE h
    refine g_getR fl_Mo_117 (Or.inr ⟨_, rfl⟩) (dk_Mo_count 15 rfl) c10 ?_
    refine g_aload_n (i := 0) (j := 0) (dk_Mo_count 16 rfl) rfl rfl ?_
    refine g_getI fl_Mo_227 (Or.inl rfl) (dk_Mo_count 17 rfl) c10 ?_
    obtain ⟨c11, h⟩ := p_gdE h
    obtain ⟨c12, h⟩ := p_gdE h
    refine g_iaload (dk_Mo_count 18 rfl) c11 c12.1 c12.2 ?_
    cases h
    exact g_ret rfl rfl (dk_Mo_count 19 rfl) (fun os => ⟨_, rfl, p_okh os⟩)
  rcases p_iteE h with ⟨b13, h⟩ | ⟨b13, h⟩
  · refine g_tableIn 102 (dk_Mo_count 1 rfl) (by omega) (by omega) (by rw [b13]; rfl) (by decide) ?_
    refine g_aload_n (i := 0) (j := 0) (dk_Mo_count 20 rfl) rfl rfl ?_
    obtain ⟨c14, h⟩ := p_gdE h
    refine g_getR fl_Mo_120 (Or.inr ⟨_, rfl⟩) (dk_Mo_count 21 rfl) c14 ?_
    refine g_aload_n (i := 0) (j := 0) (dk_Mo_count 22 rfl) rfl rfl ?_
    refine g_getI fl_Mo_227 (Or.inl rfl) (dk_Mo_count 23 rfl) c14 ?_
    obtain ⟨c15, h⟩ := p_gdE h
    obtain ⟨c16, h⟩ := p_gdE h
    refine g_iaload (dk_Mo_count 24 rfl) c15 c16.1 c16.2 ?_
    cases h
    exact g_ret rfl rfl (dk_Mo_count 25 rfl) (fun os => ⟨_, rfl, p_okh os⟩)
  rcases p_iteE h with ⟨b17, h⟩ | ⟨b17, h⟩
  · refine g_tableIn 112 (dk_Mo_count 1 rfl) (by omega) (by omega) (by rw [b17]; rfl) (by decide) ?_
    refine g_aload_n (i := 0) (j := 0) (dk_Mo_count 26 rfl) rfl rfl ?_
    obtain ⟨c18, h⟩ := p_gdE h
    refine g_getR fl_Mo_141 (Or.inr ⟨_, rfl⟩) (dk_Mo_count 27 rfl) c18 ?_
    refine g_aload_n (i := 0) (j := 0) (dk_Mo_count 28 rfl) rfl rfl ?_
    refine g_getI fl_Mo_227 (Or.inl rfl) (dk_Mo_count 29 rfl) c18 ?_
    obtain ⟨c19, h⟩ := p_gdE h
    obtain ⟨c20, h⟩ := p_gdE h
    refine g_iaload (dk_Mo_count 30 rfl) c19 c20.1 c20.2 ?_
    cases h
    exact g_ret rfl rfl (dk_Mo_count 31 rfl) (fun os => ⟨_, rfl, p_okh os⟩)
  rcases p_iteE h with ⟨b21, h⟩ | ⟨b21, h⟩
  · refine g_tableIn 122 (dk_Mo_count 1 rfl) (by omega) (by omega) (by rw [b21]; rfl) (by decide) ?_
    refine g_aload_n (i := 0) (j := 0) (dk_Mo_count 32 rfl) rfl rfl ?_
    obtain ⟨c22, h⟩ := p_gdE h
    refine g_getR fl_Mo_13 (Or.inr ⟨_, rfl⟩) (dk_Mo_count 33 rfl) c22 ?_
    refine g_aload_n (i := 0) (j := 0) (dk_Mo_count 34 rfl) rfl rfl ?_
    refine g_getI fl_Mo_227 (Or.inl rfl) (dk_Mo_count 35 rfl) c22 ?_
    obtain ⟨c23, h⟩ := p_gdE h
    obtain ⟨c24, h⟩ := p_gdE h
    refine g_iaload (dk_Mo_count 36 rfl) c23 c24.1 c24.2 ?_
    cases h
    exact g_ret rfl rfl (dk_Mo_count 37 rfl) (fun os => ⟨_, rfl, p_okh os⟩)
  rcases p_iteE h with ⟨b25, h⟩ | ⟨b25, h⟩
  · refine g_tableIn 132 (dk_Mo_count 1 rfl) (by omega) (by omega) (by rw [b25]; rfl) (by decide) ?_
    refine g_aload_n (i := 0) (j := 0) (dk_Mo_count 38 rfl) rfl rfl ?_
    obtain ⟨c26, h⟩ := p_gdE h
    refine g_getR fl_Mo_126 (Or.inr ⟨_, rfl⟩) (dk_Mo_count 39 rfl) c26 ?_
    refine g_aload_n (i := 0) (j := 0) (dk_Mo_count 40 rfl) rfl rfl ?_
    refine g_getI fl_Mo_227 (Or.inl rfl) (dk_Mo_count 41 rfl) c26 ?_
    obtain ⟨c27, h⟩ := p_gdE h
    obtain ⟨c28, h⟩ := p_gdE h
    refine g_iaload (dk_Mo_count 42 rfl) c27 c28.1 c28.2 ?_
    cases h
    exact g_ret rfl rfl (dk_Mo_count 43 rfl) (fun os => ⟨_, rfl, p_okh os⟩)
  rcases p_iteE h with ⟨b29, h⟩ | ⟨b29, h⟩
  · refine g_tableIn 142 (dk_Mo_count 1 rfl) (by omega) (by omega) (by rw [b29]; rfl) (by decide) ?_
    refine g_aload_n (i := 0) (j := 0) (dk_Mo_count 44 rfl) rfl rfl ?_
    obtain ⟨c30, h⟩ := p_gdE h
    refine g_getI fl_Mo_224 (Or.inl rfl) (dk_Mo_count 45 rfl) c30 ?_
    cases h
    exact g_ret rfl rfl (dk_Mo_count 46 rfl) (fun os => ⟨_, rfl, p_okh os⟩)
  rcases p_iteE h with ⟨b31, h⟩ | ⟨b31, h⟩
  · refine g_tableIn 147 (dk_Mo_count 1 rfl) (by omega) (by omega) (by rw [b31]; rfl) (by decide) ?_
    refine g_aload_n (i := 0) (j := 0) (dk_Mo_count 47 rfl) rfl rfl ?_
    obtain ⟨c32, h⟩ := p_gdE h
    refine g_getR fl_Mo_207 (Or.inr ⟨_, rfl⟩) (dk_Mo_count 48 rfl) c32 ?_
    refine g_aload_n (i := 0) (j := 0) (dk_Mo_count 49 rfl) rfl rfl ?_
    refine g_getI fl_Mo_227 (Or.inl rfl) (dk_Mo_count 50 rfl) c32 ?_
    obtain ⟨c33, h⟩ := p_gdE h
    obtain ⟨c34, h⟩ := p_gdE h
    refine g_iaload (dk_Mo_count 51 rfl) c33 c34.1 c34.2 ?_
    cases h
    exact g_ret rfl rfl (dk_Mo_count 52 rfl) (fun os => ⟨_, rfl, p_okh os⟩)
  rcases p_iteE h with ⟨b35, h⟩ | ⟨b35, h⟩
  · refine g_tableIn 157 (dk_Mo_count 1 rfl) (by omega) (by omega) (by rw [b35]; rfl) (by decide) ?_
    refine g_aload_n (i := 0) (j := 0) (dk_Mo_count 53 rfl) rfl rfl ?_
    obtain ⟨c36, h⟩ := p_gdE h
    refine g_getR fl_Mo_132 (Or.inr ⟨_, rfl⟩) (dk_Mo_count 54 rfl) c36 ?_
    refine g_aload_n (i := 0) (j := 0) (dk_Mo_count 55 rfl) rfl rfl ?_
    refine g_getI fl_Mo_227 (Or.inl rfl) (dk_Mo_count 56 rfl) c36 ?_
    obtain ⟨c37, h⟩ := p_gdE h
    obtain ⟨c38, h⟩ := p_gdE h
    refine g_iaload (dk_Mo_count 57 rfl) c37 c38.1 c38.2 ?_
    cases h
    exact g_ret rfl rfl (dk_Mo_count 58 rfl) (fun os => ⟨_, rfl, p_okh os⟩)
  rcases p_iteE h with ⟨b39, h⟩ | ⟨b39, h⟩
  · refine g_tableIn 167 (dk_Mo_count 1 rfl) (by omega) (by omega) (by rw [b39]; rfl) (by decide) ?_
    refine g_aload_n (i := 0) (j := 0) (dk_Mo_count 59 rfl) rfl rfl ?_
    obtain ⟨c40, h⟩ := p_gdE h
    refine g_getI fl_Mo_295 (Or.inl rfl) (dk_Mo_count 60 rfl) c40 ?_
    cases h
    exact g_ret rfl rfl (dk_Mo_count 61 rfl) (fun os => ⟨_, rfl, p_okh os⟩)
  rcases p_iteE h with ⟨b41, h⟩ | ⟨b41, h⟩
  · refine g_tableIn 172 (dk_Mo_count 1 rfl) (by omega) (by omega) (by rw [b41]; rfl) (by decide) ?_
    refine g_aload_n (i := 0) (j := 0) (dk_Mo_count 62 rfl) rfl rfl ?_
    obtain ⟨c42, h⟩ := p_gdE h
    refine g_getR fl_Mo_165 (Or.inr ⟨_, rfl⟩) (dk_Mo_count 63 rfl) c42 ?_
    refine g_aload_n (i := 0) (j := 0) (dk_Mo_count 64 rfl) rfl rfl ?_
    refine g_getI fl_Mo_227 (Or.inl rfl) (dk_Mo_count 65 rfl) c42 ?_
    obtain ⟨c43, h⟩ := p_gdE h
    obtain ⟨c44, h⟩ := p_gdE h
    refine g_iaload (dk_Mo_count 66 rfl) c43 c44.1 c44.2 ?_
    cases h
    exact g_ret rfl rfl (dk_Mo_count 67 rfl) (fun os => ⟨_, rfl, p_okh os⟩)
  rcases p_iteE h with ⟨b45, h⟩ | ⟨b45, h⟩
  · refine g_tableIn 182 (dk_Mo_count 1 rfl) (by omega) (by omega) (by rw [b45]; rfl) (by decide) ?_
    refine g_aload_n (i := 0) (j := 0) (dk_Mo_count 68 rfl) rfl rfl ?_
    obtain ⟨c46, h⟩ := p_gdE h
    refine g_getI fl_Mo_227 (Or.inl rfl) (dk_Mo_count 69 rfl) c46 ?_
    cases h
    exact g_ret rfl rfl (dk_Mo_count 70 rfl) (fun os => ⟨_, rfl, p_okh os⟩)
  rcases p_iteE h with ⟨b47, h⟩ | ⟨b47, h⟩
  · refine g_tableIn 187 (dk_Mo_count 1 rfl) (by omega) (by omega) (by rw [b47]; rfl) (by decide) ?_
    refine g_aload_n (i := 0) (j := 0) (dk_Mo_count 71 rfl) rfl rfl ?_
    obtain ⟨c48, h⟩ := p_gdE h
    refine g_getI fl_Mo_334 (Or.inl rfl) (dk_Mo_count 72 rfl) c48 ?_
    cases h
    exact g_ret rfl rfl (dk_Mo_count 73 rfl) (fun os => ⟨_, rfl, p_okh os⟩)
  refine g_tableOut 192 (dk_Mo_count 1 rfl) (by omega) (by decide) ?_
  refine g_bipush (dk_Mo_count 74 rfl) (by decide +kernel) (by decide) ?_
  cases h
  exact g_ret rfl rfl (dk_Mo_count 75 rfl) (fun os => ⟨_, rfl, p_okh os⟩)
def m_Mo_adds : p_Me := (⟨"SortWorksModel", "adds", "(I)V"⟩, prog_13_method_119_code, 2, none, 0, 0)
theorem mt_Mo_adds : p_Mt m_Mo_adds 1 := ⟨p_mem (p_tb9 (List.mem_of_getElem? (i := 60) rfl)) rfl, tw_1_12, by decide +kernel, by decide +kernel, by decide +kernel⟩
def dt_Mo_adds : List (Nat × Instr × Nat) := [(0, .aload_n 0, 1), (1, .ldc2_w 538, 3), (4, .aload_n 0, 1), (5, .getfield 540, 3), (8, .lmul, 1), (9, .iload_n 1, 1), (10, .i2l, 1), (11, .ladd, 1), (12, .putfield 540, 3), (15, .return_, 1)]
theorem dk_Mo_adds (i : Nat) {pc : Nat} {ins : Instr} {len : Nat} (h : dt_Mo_adds[i]? = some (pc, ins, len)) : decode m_Mo_adds.2.1 pc = .ok (ins, len) := p_dk (b := m_Mo_adds.2.1) (t := dt_Mo_adds) (by decide +kernel) i h
def F_Mo_adds (v0 : Nat) (v1 : Int) (s0 : p_Hp) : Option p_Hp :=
  p_gd (p_is s0 v0 11) <|
  p_bi (p_wZ s0 v0 89 (p_w6 ((p_w6 (31 * (p_Z s0 v0 89))) + v1))) fun s2 =>
  some s2
set_option maxRecDepth 100000 in
set_option maxHeartbeats 4000000 in
theorem tF_Mo_adds (K : p_K) (l : Launch) (v0 : Nat) (v1 : Int) (s0 : p_Hp) (r : p_Hp) (h : F_Mo_adds v0 v1 s0 = some r) : p_Ct K l m_Mo_adds [p_r v0, p_i v1] s0 (none, r) := by
  refine p_Ct.of (by decide +kernel) (Nat.le_of_ble_eq_true rfl) ?_
  unfold F_Mo_adds at h
  show p_Go K l m_Mo_adds 0 [(0, p_r v0), (1, p_i v1)] [] s0 _
  refine g_aload_n (i := 0) (j := 0) (dk_Mo_adds 0 rfl) rfl rfl ?_
  refine g_ldc2_w (x := 31) (dk_Mo_adds 1 rfl) tw_9_61 (by decide) (by decide) ?_
  refine g_aload_n (i := 0) (j := 0) (dk_Mo_adds 2 rfl) rfl rfl ?_
  obtain ⟨c1, h⟩ := p_gdE h
  refine g_getJ fl_Mo_540 (dk_Mo_adds 3 rfl) c1 ?_
  refine g_lmul (dk_Mo_adds 4 rfl) ?_
  refine g_iload_n (i := 1) (j := 1) (dk_Mo_adds 5 rfl) rfl rfl ?_
  refine g_i2l (dk_Mo_adds 6 rfl) ?_
  refine g_ladd (dk_Mo_adds 7 rfl) ?_
  refine g_putJ fl_Mo_540 (Or.inl rfl) (dk_Mo_adds 8 rfl) c1 ?_
  refine p_ltS (P := fun q => p_Go K l m_Mo_adds 15 [(0, p_r v0), (1, p_i v1)] [] q _) (p_xZ _ _ _ _) ?_ h
  intro s2 hs3 h
  cases h
  exact g_ret rfl rfl (dk_Mo_adds 9 rfl) (fun _ => rfl)
def m_Mo_digest : p_Me := (⟨"SortWorksModel", "digest", "()J"⟩, prog_13_method_120_code, 5, (some .long), 3, 69)
theorem mt_Mo_digest : p_Mt m_Mo_digest 0 := ⟨p_mem (p_tb9 (List.mem_of_getElem? (i := 55) rfl)) rfl, tw_1_12, by decide +kernel, by decide +kernel, by decide +kernel⟩
def dt_Mo_digest : List (Nat × Instr × Nat) := [(0, .aload_n 0, 1), (1, .ldc2_w 544, 3), (4, .putfield 540, 3), (7, .aload_n 0, 1), (8, .aload_n 0, 1), (9, .getfield 13, 3), (12, .aload_n 0, 1), (13, .getfield 227, 3), (16, .iaload, 1), (17, .invokevirtual 546, 3), (20, .aload_n 0, 1), (21, .aload_n 0, 1), (22, .getfield 7, 3), (25, .aload_n 0, 1), (26, .getfield 227, 3), (29, .iaload, 1), (30, .invokevirtual 546, 3), (33, .iconst 0, 1), (34, .istore_n 1, 1), (35, .iload_n 1, 1), (36, .aload_n 0, 1), (37, .getfield 7, 3), (40, .aload_n 0, 1), (41, .getfield 227, 3), (44, .iaload, 1), (45, .if_icmp .ge 127, 3), (48, .aload_n 0, 1), (49, .iload_n 1, 1), (50, .invokevirtual 257, 3), (53, .istore_n 2, 1), (54, .aload_n 0, 1), (55, .aload_n 0, 1), (56, .getfield 16, 3), (59, .iload_n 2, 1), (60, .iaload, 1), (61, .invokevirtual 546, 3), (64, .iconst 2, 1), (65, .istore_n 3, 1), (66, .iload_n 3, 1), (67, .bipush 15, 2), (69, .if_icmp .ge 19, 3), (72, .aload_n 0, 1), (73, .aload_n 0, 1), (74, .iload_n 1, 1), (75, .iload_n 3, 1), (76, .invokevirtual 549, 3), (79, .invokevirtual 546, 3), (82, .iinc 3 1, 3), (85, .goto (-19), 3), (88, .iconst 0, 1), (89, .istore_n 3, 1), (90, .iload_n 3, 1), (91, .aload_n 0, 1), (92, .getfield 19, 3), (95, .iload_n 2, 1), (96, .iaload, 1), (97, .if_icmp .ge 69, 3), (100, .aload_n 0, 1), (101, .getfield 69, 3), (104, .bipush 8, 2), (106, .iload_n 2, 1), (107, .imul, 1), (108, .iload_n 3, 1), (109, .iadd, 1), (110, .iaload, 1), (111, .istore 4, 2), (113, .aload_n 0, 1), (114, .iload 4, 2), (116, .ifCond .ne 7, 3), (119, .iconst 0, 1), (120, .goto 21, 3), (123, .bipush 16, 2), (125, .aload_n 0, 1), (126, .getfield 84, 3), (129, .iload 4, 2), (131, .iaload, 1), (132, .imul, 1), (133, .aload_n 0, 1), (134, .getfield 87, 3), (137, .iload 4, 2), (139, .iaload, 1), (140, .iadd, 1), (141, .invokevirtual 546, 3), (144, .iload 4, 2), (146, .ifCond .le 14, 3), (149, .aload_n 0, 1), (150, .aload_n 0, 1), (151, .getfield 90, 3), (154, .iload 4, 2), (156, .iaload, 1), (157, .invokevirtual 546, 3), (160, .iinc 3 1, 3), (163, .goto (-73), 3), (166, .iinc 1 1, 3), (169, .goto (-134), 3), (172, .aload_n 0, 1), (173, .aload_n 0, 1), (174, .getfield 114, 3), (177, .aload_n 0, 1), (178, .getfield 227, 3), (181, .iaload, 1), (182, .invokevirtual 546, 3), (185, .aload_n 0, 1), (186, .aload_n 0, 1), (187, .getfield 117, 3), (190, .aload_n 0, 1), (191, .getfield 227, 3), (194, .iaload, 1), (195, .invokevirtual 546, 3), (198, .aload_n 0, 1), (199, .aload_n 0, 1), (200, .getfield 120, 3), (203, .aload_n 0, 1), (204, .getfield 227, 3), (207, .iaload, 1), (208, .invokevirtual 546, 3), (211, .aload_n 0, 1), (212, .aload_n 0, 1), (213, .getfield 126, 3), (216, .aload_n 0, 1), (217, .getfield 227, 3), (220, .iaload, 1), (221, .invokevirtual 546, 3), (224, .aload_n 0, 1), (225, .getfield 540, 3), (228, .lreturn, 1)]
theorem dk_Mo_digest (i : Nat) {pc : Nat} {ins : Instr} {len : Nat} (h : dt_Mo_digest[i]? = some (pc, ins, len)) : decode m_Mo_digest.2.1 pc = .ok (ins, len) := p_dk (b := m_Mo_digest.2.1) (t := dt_Mo_digest) (by decide +kernel) i h
def B_Mo_digest_160 (k35 : Nat → Int → p_Hp → Option (Int × p_Hp)) (k90 : Nat → Int → Int → Int → p_Hp → Option (Int × p_Hp)) (v0 : Nat) (v1 : Int) (v2 : Int) (v3 : Int) (s0 : p_Hp) : Option (Int × p_Hp) :=
  p_bi (p_w (v3 + 1)) fun x1 =>
  k90 v0 v1 v2 x1 s0
def B_Mo_digest_141 (k35 : Nat → Int → p_Hp → Option (Int × p_Hp)) (k90 : Nat → Int → Int → Int → p_Hp → Option (Int × p_Hp)) (v0 : Nat) (v1 : Int) (v2 : Int) (v3 : Int) (v4 : Int) (w0 : Int) (w1 : Nat) (s0 : p_Hp) : Option (Int × p_Hp) :=
  p_gd (p_is s0 w1 11) <|
  p_bv (F_Mo_adds w1 w0 s0) fun s2 =>
  if v4 ≤ 0 then
    B_Mo_digest_160 k35 k90 v0 v1 v2 v3 s2
  else
    p_gd (p_is s2 v0 11) <|
    p_gd (p_is s2 (p_R s2 v0 30) 100) <|
    p_gd ((0 : Int) ≤ v4 ∧ v4 < (p_L s2 (p_R s2 v0 30) : Int)) <|
    p_bv (F_Mo_adds v0 (p_Z s2 (p_R s2 v0 30) (v4 : Int).toNat) s2) fun s10 =>
    B_Mo_digest_160 k35 k90 v0 v1 v2 v3 s10
def L_Mo_digest_90 (k35 : Nat → Int → p_Hp → Option (Int × p_Hp)) (k90 : Nat → Int → Int → Int → p_Hp → Option (Int × p_Hp)) (v0 : Nat) (v1 : Int) (v2 : Int) (v3 : Int) (s0 : p_Hp) : Option (Int × p_Hp) :=
  p_gd (p_is s0 v0 11) <|
  p_gd (p_is s0 (p_R s0 v0 6) 100) <|
  p_gd ((0 : Int) ≤ v2 ∧ v2 < (p_L s0 (p_R s0 v0 6) : Int)) <|
  if (p_Z s0 (p_R s0 v0 6) (v2 : Int).toNat) ≤ v3 then
    p_bi (p_w (v1 + 1)) fun x5 =>
    k35 v0 x5 s0
  else
    p_gd (p_is s0 (p_R s0 v0 22) 100) <|
    p_gd ((0 : Int) ≤ (p_w ((p_w (8 * v2)) + v3)) ∧ (p_w ((p_w (8 * v2)) + v3)) < (p_L s0 (p_R s0 v0 22) : Int)) <|
    p_bi ((p_Z s0 (p_R s0 v0 22) ((p_w ((p_w (8 * v2)) + v3)) : Int).toNat)) fun x8 =>
    if x8 ≠ 0 then
      p_gd (p_is s0 (p_R s0 v0 28) 100) <|
      p_gd ((0 : Int) ≤ x8 ∧ x8 < (p_L s0 (p_R s0 v0 28) : Int)) <|
      p_gd (p_is s0 (p_R s0 v0 29) 100) <|
      p_gd ((0 : Int) ≤ x8 ∧ x8 < (p_L s0 (p_R s0 v0 29) : Int)) <|
      B_Mo_digest_141 k35 k90 v0 v1 v2 v3 x8 (p_w ((p_w (16 * (p_Z s0 (p_R s0 v0 28) (x8 : Int).toNat))) + (p_Z s0 (p_R s0 v0 29) (x8 : Int).toNat))) v0 s0
    else
      B_Mo_digest_141 k35 k90 v0 v1 v2 v3 x8 0 v0 s0
def O_Mo_digest_90 (k35 : Nat → Int → p_Hp → Option (Int × p_Hp)) : Nat → Nat → Int → Int → Int → p_Hp → Option (Int × p_Hp)
  | 0 => fun _ _ _ _ _ => none
  | n + 1 => L_Mo_digest_90 k35 (O_Mo_digest_90 k35 n)
def L_Mo_digest_66 (k35 : Nat → Int → p_Hp → Option (Int × p_Hp)) (k66 : Nat → Int → Int → Int → p_Hp → Option (Int × p_Hp)) (v0 : Nat) (v1 : Int) (v2 : Int) (v3 : Int) (s0 : p_Hp) : Option (Int × p_Hp) :=
  if 15 ≤ v3 then
    O_Mo_digest_90 k35 3000 v0 v1 v2 0 s0
  else
    p_gd (p_is s0 v0 11) <|
    p_bd (F_Mo_told v0 v1 v3 s0) fun r7 s3 =>
    p_bv (F_Mo_adds v0 r7 s3) fun s8 =>
    p_bi (p_w (v3 + 1)) fun x12 =>
    k66 v0 v1 v2 x12 s8
def O_Mo_digest_66 (k35 : Nat → Int → p_Hp → Option (Int × p_Hp)) : Nat → Nat → Int → Int → Int → p_Hp → Option (Int × p_Hp)
  | 0 => fun _ _ _ _ _ => none
  | n + 1 => L_Mo_digest_66 k35 (O_Mo_digest_66 k35 n)
def L_Mo_digest_35 (k35 : Nat → Int → p_Hp → Option (Int × p_Hp)) (v0 : Nat) (v1 : Int) (s0 : p_Hp) : Option (Int × p_Hp) :=
  p_gd (p_is s0 v0 11) <|
  p_gd (p_is s0 (p_R s0 v0 3) 100) <|
  p_gd ((0 : Int) ≤ (p_Z s0 v0 0) ∧ (p_Z s0 v0 0) < (p_L s0 (p_R s0 v0 3) : Int)) <|
  if (p_Z s0 (p_R s0 v0 3) ((p_Z s0 v0 0) : Int).toNat) ≤ v1 then
    p_gd (p_is s0 (p_R s0 v0 38) 100) <|
    p_gd ((0 : Int) ≤ (p_Z s0 v0 0) ∧ (p_Z s0 v0 0) < (p_L s0 (p_R s0 v0 38) : Int)) <|
    p_bv (F_Mo_adds v0 (p_Z s0 (p_R s0 v0 38) ((p_Z s0 v0 0) : Int).toNat) s0) fun s7 =>
    p_gd (p_is s7 (p_R s7 v0 39) 100) <|
    p_gd ((0 : Int) ≤ (p_Z s7 v0 0) ∧ (p_Z s7 v0 0) < (p_L s7 (p_R s7 v0 39) : Int)) <|
    p_bv (F_Mo_adds v0 (p_Z s7 (p_R s7 v0 39) ((p_Z s7 v0 0) : Int).toNat) s7) fun s13 =>
    p_gd (p_is s13 (p_R s13 v0 40) 100) <|
    p_gd ((0 : Int) ≤ (p_Z s13 v0 0) ∧ (p_Z s13 v0 0) < (p_L s13 (p_R s13 v0 40) : Int)) <|
    p_bv (F_Mo_adds v0 (p_Z s13 (p_R s13 v0 40) ((p_Z s13 v0 0) : Int).toNat) s13) fun s19 =>
    p_gd (p_is s19 (p_R s19 v0 42) 100) <|
    p_gd ((0 : Int) ≤ (p_Z s19 v0 0) ∧ (p_Z s19 v0 0) < (p_L s19 (p_R s19 v0 42) : Int)) <|
    p_bv (F_Mo_adds v0 (p_Z s19 (p_R s19 v0 42) ((p_Z s19 v0 0) : Int).toNat) s19) fun s25 =>
    some ((p_Z s25 v0 89), s25)
  else
    p_bd (F_Mo_g v0 v1 s0) fun r33 s29 =>
    p_gd (p_is s29 (p_R s29 v0 5) 100) <|
    p_gd ((0 : Int) ≤ r33 ∧ r33 < (p_L s29 (p_R s29 v0 5) : Int)) <|
    p_bv (F_Mo_adds v0 (p_Z s29 (p_R s29 v0 5) (r33 : Int).toNat) s29) fun s36 =>
    O_Mo_digest_66 k35 3000 v0 v1 r33 2 s36
def O_Mo_digest_35  : Nat → Nat → Int → p_Hp → Option (Int × p_Hp)
  | 0 => fun _ _ _ => none
  | n + 1 => L_Mo_digest_35 (O_Mo_digest_35 n)
def F_Mo_digest (v0 : Nat) (s0 : p_Hp) : Option (Int × p_Hp) :=
  p_gd (p_is s0 v0 11) <|
  p_bi (p_wZ s0 v0 89 17) fun s2 =>
  p_gd (p_is s2 (p_R s2 v0 4) 100) <|
  p_gd ((0 : Int) ≤ (p_Z s2 v0 0) ∧ (p_Z s2 v0 0) < (p_L s2 (p_R s2 v0 4) : Int)) <|
  p_bv (F_Mo_adds v0 (p_Z s2 (p_R s2 v0 4) ((p_Z s2 v0 0) : Int).toNat) s2) fun s6 =>
  p_gd (p_is s6 (p_R s6 v0 3) 100) <|
  p_gd ((0 : Int) ≤ (p_Z s6 v0 0) ∧ (p_Z s6 v0 0) < (p_L s6 (p_R s6 v0 3) : Int)) <|
  p_bv (F_Mo_adds v0 (p_Z s6 (p_R s6 v0 3) ((p_Z s6 v0 0) : Int).toNat) s6) fun s12 =>
  O_Mo_digest_35 3000 v0 0 s12
set_option maxRecDepth 100000 in
set_option maxHeartbeats 4000000 in
theorem tB_Mo_digest_160 (K : p_K) (l : Launch) (k35 : Nat → Int → p_Hp → Option (Int × p_Hp)) (hk35 : ∀ (v0 : Nat) (v1 : Int)  (s0 : p_Hp) (r : (Int × p_Hp)), k35 v0 v1 s0 = some r → p_Go K l m_Mo_digest 35 [(0, p_r v0), (1, p_i v1)] [] s0 (some (p_j r.1), r.2)) (k90 : Nat → Int → Int → Int → p_Hp → Option (Int × p_Hp)) (hk90 : ∀ (v0 : Nat) (v1 : Int) (v2 : Int) (v3 : Int)  (s0 : p_Hp) (r : (Int × p_Hp)), k90 v0 v1 v2 v3 s0 = some r → p_Go K l m_Mo_digest 90 [(0, p_r v0), (1, p_i v1), (2, p_i v2), (3, p_i v3)] [] s0 (some (p_j r.1), r.2)) (v0 : Nat) (v1 : Int) (v2 : Int) (v3 : Int) (s0 : p_Hp) (r : (Int × p_Hp)) (h : B_Mo_digest_160 k35 k90 v0 v1 v2 v3 s0 = some r) : p_Go K l m_Mo_digest 160 [(0, p_r v0), (1, p_i v1), (2, p_i v2), (3, p_i v3)] [] s0 (some (p_j r.1), r.2) := by
  unfold B_Mo_digest_160 at h
  refine g_iinc (j := 3) [(3, p_i (p_w (v3 + 1))), (0, p_r v0), (1, p_i v1), (2, p_i v2)] (dk_Mo_digest 91 rfl) rfl (by decide) rfl ?_
  refine p_ltG (P := fun q => p_Go K l m_Mo_digest 163 [(3, p_i q), (0, p_r v0), (1, p_i v1), (2, p_i v2)] [] s0 _) ?_ h
  intro x1 h
  refine g_goto 90 (dk_Mo_digest 92 rfl) (by decide) ?_
  refine g_sub [(0, p_r v0), (1, p_i v1), (2, p_i v2), (3, p_i x1)] [1, 2, 3, 0] rfl ?_
  exact hk90 v0 v1 v2 x1 s0 _ h
set_option maxRecDepth 100000 in
set_option maxHeartbeats 4000000 in
theorem tB_Mo_digest_141 (K : p_K) (l : Launch) (k35 : Nat → Int → p_Hp → Option (Int × p_Hp)) (hk35 : ∀ (v0 : Nat) (v1 : Int)  (s0 : p_Hp) (r : (Int × p_Hp)), k35 v0 v1 s0 = some r → p_Go K l m_Mo_digest 35 [(0, p_r v0), (1, p_i v1)] [] s0 (some (p_j r.1), r.2)) (k90 : Nat → Int → Int → Int → p_Hp → Option (Int × p_Hp)) (hk90 : ∀ (v0 : Nat) (v1 : Int) (v2 : Int) (v3 : Int)  (s0 : p_Hp) (r : (Int × p_Hp)), k90 v0 v1 v2 v3 s0 = some r → p_Go K l m_Mo_digest 90 [(0, p_r v0), (1, p_i v1), (2, p_i v2), (3, p_i v3)] [] s0 (some (p_j r.1), r.2)) (v0 : Nat) (v1 : Int) (v2 : Int) (v3 : Int) (v4 : Int) (w0 : Int) (w1 : Nat) (s0 : p_Hp) (r : (Int × p_Hp)) (h : B_Mo_digest_141 k35 k90 v0 v1 v2 v3 v4 w0 w1 s0 = some r) : p_Go K l m_Mo_digest 141 [(0, p_r v0), (1, p_i v1), (2, p_i v2), (3, p_i v3), (4, p_i v4)] [p_i w0, p_r w1] s0 (some (p_j r.1), r.2) := by
  unfold B_Mo_digest_141 at h
  obtain ⟨c1, h⟩ := p_gdE h
  obtain ⟨s2, q3, h⟩ := p_bvE h
  have t4 := tF_Mo_adds K l w1 w0 s0 _ q3
  refine g_callV (a := w1) (ci := 11) (q0 := (RX11, TX11, 90)) (As := [p_i w0]) (rest := []) [] mt_Mo_adds rfl rfl tw_9_59 ts_105 tw_9_57 ⟨Nat.le_of_ble_eq_true rfl, Nat.le_of_ble_eq_true rfl⟩ rfl (Nat.le_of_ble_eq_true rfl) (dk_Mo_digest 82 rfl) rfl c1 rfl t4 ?_
  have hs5 : p_x s0 s2 := t4.1
  show p_Go K l m_Mo_digest 144 [(0, p_r v0), (1, p_i v1), (2, p_i v2), (3, p_i v3), (4, p_i v4)] [] s2 _
  refine g_iload (j := 4) (dk_Mo_digest 83 rfl) rfl ?_
  refine g_if_le 160 (dk_Mo_digest 84 rfl) (by decide) (fun b6 => ?_) (fun b6 => ?_)
  · have h := p_ifT b6 h
    refine g_sub [(0, p_r v0), (1, p_i v1), (2, p_i v2), (3, p_i v3)] [0, 1, 2, 3] rfl ?_
    exact tB_Mo_digest_160 K l k35 hk35 k90 hk90 v0 v1 v2 v3 s2 _ h
  · have h := p_ifF b6 h
    refine g_aload_n (i := 0) (j := 0) (dk_Mo_digest 85 rfl) rfl rfl ?_
    refine g_aload_n (i := 0) (j := 0) (dk_Mo_digest 86 rfl) rfl rfl ?_
    obtain ⟨c7, h⟩ := p_gdE h
    refine g_getR fl_Mo_90 (Or.inr ⟨_, rfl⟩) (dk_Mo_digest 87 rfl) c7 ?_
    refine g_iload (j := 4) (dk_Mo_digest 88 rfl) rfl ?_
    obtain ⟨c8, h⟩ := p_gdE h
    obtain ⟨c9, h⟩ := p_gdE h
    refine g_iaload (dk_Mo_digest 89 rfl) c8 c9.1 c9.2 ?_
    obtain ⟨s10, q11, h⟩ := p_bvE h
    have t12 := tF_Mo_adds K l v0 (p_Z s2 (p_R s2 v0 30) (v4 : Int).toNat) s2 _ q11
    refine g_callV (a := v0) (ci := 11) (q0 := (RX11, TX11, 90)) (As := [p_i (p_Z s2 (p_R s2 v0 30) (v4 : Int).toNat)]) (rest := []) [] mt_Mo_adds rfl rfl tw_9_59 ts_105 tw_9_57 ⟨Nat.le_of_ble_eq_true rfl, Nat.le_of_ble_eq_true rfl⟩ rfl (Nat.le_of_ble_eq_true rfl) (dk_Mo_digest 90 rfl) rfl c7 rfl t12 ?_
    have hs13 : p_x s2 s10 := t12.1
    show p_Go K l m_Mo_digest 160 [(0, p_r v0), (1, p_i v1), (2, p_i v2), (3, p_i v3), (4, p_i v4)] [] s10 _
    refine g_sub [(0, p_r v0), (1, p_i v1), (2, p_i v2), (3, p_i v3)] [0, 1, 2, 3] rfl ?_
    exact tB_Mo_digest_160 K l k35 hk35 k90 hk90 v0 v1 v2 v3 s10 _ h
set_option maxRecDepth 100000 in
set_option maxHeartbeats 4000000 in
theorem tL_Mo_digest_90 (K : p_K) (l : Launch) (k35 : Nat → Int → p_Hp → Option (Int × p_Hp)) (hk35 : ∀ (v0 : Nat) (v1 : Int)  (s0 : p_Hp) (r : (Int × p_Hp)), k35 v0 v1 s0 = some r → p_Go K l m_Mo_digest 35 [(0, p_r v0), (1, p_i v1)] [] s0 (some (p_j r.1), r.2)) (k90 : Nat → Int → Int → Int → p_Hp → Option (Int × p_Hp)) (hk90 : ∀ (v0 : Nat) (v1 : Int) (v2 : Int) (v3 : Int)  (s0 : p_Hp) (r : (Int × p_Hp)), k90 v0 v1 v2 v3 s0 = some r → p_Go K l m_Mo_digest 90 [(0, p_r v0), (1, p_i v1), (2, p_i v2), (3, p_i v3)] [] s0 (some (p_j r.1), r.2)) (v0 : Nat) (v1 : Int) (v2 : Int) (v3 : Int) (s0 : p_Hp) (r : (Int × p_Hp)) (h : L_Mo_digest_90 k35 k90 v0 v1 v2 v3 s0 = some r) : p_Go K l m_Mo_digest 90 [(0, p_r v0), (1, p_i v1), (2, p_i v2), (3, p_i v3)] [] s0 (some (p_j r.1), r.2) := by
  unfold L_Mo_digest_90 at h
  refine g_iload_n (i := 3) (j := 3) (dk_Mo_digest 51 rfl) rfl rfl ?_
  refine g_aload_n (i := 0) (j := 0) (dk_Mo_digest 52 rfl) rfl rfl ?_
  obtain ⟨c1, h⟩ := p_gdE h
  refine g_getR fl_Mo_19 (Or.inr ⟨_, rfl⟩) (dk_Mo_digest 53 rfl) c1 ?_
  refine g_iload_n (i := 2) (j := 2) (dk_Mo_digest 54 rfl) rfl rfl ?_
  obtain ⟨c2, h⟩ := p_gdE h
  obtain ⟨c3, h⟩ := p_gdE h
  refine g_iaload (dk_Mo_digest 55 rfl) c2 c3.1 c3.2 ?_
  refine g_icmp_ge 166 (dk_Mo_digest 56 rfl) (by decide) (fun b4 => ?_) (fun b4 => ?_)
  · have h := p_ifT b4 h
    refine g_iinc (j := 1) [(1, p_i (p_w (v1 + 1))), (0, p_r v0), (2, p_i v2), (3, p_i v3)] (dk_Mo_digest 93 rfl) rfl (by decide) rfl ?_
    refine p_ltG (P := fun q => p_Go K l m_Mo_digest 169 [(1, p_i q), (0, p_r v0), (2, p_i v2), (3, p_i v3)] [] s0 _) ?_ h
    intro x5 h
    refine g_goto 35 (dk_Mo_digest 94 rfl) (by decide) ?_
    refine g_sub [(0, p_r v0), (1, p_i x5)] [1, 0] rfl ?_
    exact hk35 v0 x5 s0 _ h
  · have h := p_ifF b4 h
    refine g_aload_n (i := 0) (j := 0) (dk_Mo_digest 57 rfl) rfl rfl ?_
    refine g_getR fl_Mo_69 (Or.inr ⟨_, rfl⟩) (dk_Mo_digest 58 rfl) c1 ?_
    refine g_bipush (dk_Mo_digest 59 rfl) (by decide +kernel) (by decide) ?_
    refine g_iload_n (i := 2) (j := 2) (dk_Mo_digest 60 rfl) rfl rfl ?_
    refine g_imul (dk_Mo_digest 61 rfl) ?_
    refine g_iload_n (i := 3) (j := 3) (dk_Mo_digest 62 rfl) rfl rfl ?_
    refine g_iadd (dk_Mo_digest 63 rfl) ?_
    obtain ⟨c6, h⟩ := p_gdE h
    obtain ⟨c7, h⟩ := p_gdE h
    refine g_iaload (dk_Mo_digest 64 rfl) c6 c7.1 c7.2 ?_
    refine g_istore [(4, p_i (p_Z s0 (p_R s0 v0 22) ((p_w ((p_w (8 * v2)) + v3)) : Int).toNat)), (0, p_r v0), (1, p_i v1), (2, p_i v2), (3, p_i v3)] (dk_Mo_digest 65 rfl) (by decide) rfl ?_
    refine p_ltG (P := fun q => p_Go K l m_Mo_digest 113 [(4, p_i q), (0, p_r v0), (1, p_i v1), (2, p_i v2), (3, p_i v3)] [] s0 _) ?_ h
    intro x8 h
    refine g_aload_n (i := 0) (j := 1) (dk_Mo_digest 66 rfl) rfl rfl ?_
    refine g_iload (j := 0) (dk_Mo_digest 67 rfl) rfl ?_
    refine g_if_ne 123 (dk_Mo_digest 68 rfl) (by decide) (fun b9 => ?_) (fun b9 => ?_)
    · have h := p_ifT b9 h
      refine g_bipush (dk_Mo_digest 71 rfl) (by decide +kernel) (by decide) ?_
      refine g_aload_n (i := 0) (j := 1) (dk_Mo_digest 72 rfl) rfl rfl ?_
      refine g_getR fl_Mo_84 (Or.inr ⟨_, rfl⟩) (dk_Mo_digest 73 rfl) c1 ?_
      refine g_iload (j := 0) (dk_Mo_digest 74 rfl) rfl ?_
      obtain ⟨c10, h⟩ := p_gdE h
      obtain ⟨c11, h⟩ := p_gdE h
      refine g_iaload (dk_Mo_digest 75 rfl) c10 c11.1 c11.2 ?_
      refine g_imul (dk_Mo_digest 76 rfl) ?_
      refine g_aload_n (i := 0) (j := 1) (dk_Mo_digest 77 rfl) rfl rfl ?_
      refine g_getR fl_Mo_87 (Or.inr ⟨_, rfl⟩) (dk_Mo_digest 78 rfl) c1 ?_
      refine g_iload (j := 0) (dk_Mo_digest 79 rfl) rfl ?_
      obtain ⟨c12, h⟩ := p_gdE h
      obtain ⟨c13, h⟩ := p_gdE h
      refine g_iaload (dk_Mo_digest 80 rfl) c12 c13.1 c13.2 ?_
      refine g_iadd (dk_Mo_digest 81 rfl) ?_
      refine g_sub [(0, p_r v0), (1, p_i v1), (2, p_i v2), (3, p_i v3), (4, p_i x8)] [1, 2, 3, 4, 0] rfl ?_
      exact tB_Mo_digest_141 K l k35 hk35 k90 hk90 v0 v1 v2 v3 x8 (p_w ((p_w (16 * (p_Z s0 (p_R s0 v0 28) (x8 : Int).toNat))) + (p_Z s0 (p_R s0 v0 29) (x8 : Int).toNat))) v0 s0 _ h
    · have h := p_ifF b9 h
      refine g_iconst (dk_Mo_digest 69 rfl) (by decide) ?_
      refine g_goto 141 (dk_Mo_digest 70 rfl) (by decide) ?_
      refine g_sub [(0, p_r v0), (1, p_i v1), (2, p_i v2), (3, p_i v3), (4, p_i x8)] [1, 2, 3, 4, 0] rfl ?_
      exact tB_Mo_digest_141 K l k35 hk35 k90 hk90 v0 v1 v2 v3 x8 0 v0 s0 _ h
set_option maxRecDepth 100000 in
set_option maxHeartbeats 4000000 in
theorem tO_Mo_digest_90 (K : p_K) (l : Launch) (k35 : Nat → Int → p_Hp → Option (Int × p_Hp)) (hk35 : ∀ (v0 : Nat) (v1 : Int)  (s0 : p_Hp) (r : (Int × p_Hp)), k35 v0 v1 s0 = some r → p_Go K l m_Mo_digest 35 [(0, p_r v0), (1, p_i v1)] [] s0 (some (p_j r.1), r.2)) : ∀ (n : Nat) (v0 : Nat) (v1 : Int) (v2 : Int) (v3 : Int) (s0 : p_Hp) (r : (Int × p_Hp)), O_Mo_digest_90 k35 n v0 v1 v2 v3 s0 = some r → p_Go K l m_Mo_digest 90 [(0, p_r v0), (1, p_i v1), (2, p_i v2), (3, p_i v3)] [] s0 (some (p_j r.1), r.2) := by
  intro n
  induction n with
  | zero => intro v0 v1 v2 v3 s0 r h; cases (show (none : Option (Int × p_Hp)) = some r from h)
  | succ n ih => intro v0 v1 v2 v3 s0 r h; exact tL_Mo_digest_90 K l k35 hk35 _ ih v0 v1 v2 v3 s0 r h
set_option maxRecDepth 100000 in
set_option maxHeartbeats 4000000 in
theorem tL_Mo_digest_66 (K : p_K) (l : Launch) (k35 : Nat → Int → p_Hp → Option (Int × p_Hp)) (hk35 : ∀ (v0 : Nat) (v1 : Int)  (s0 : p_Hp) (r : (Int × p_Hp)), k35 v0 v1 s0 = some r → p_Go K l m_Mo_digest 35 [(0, p_r v0), (1, p_i v1)] [] s0 (some (p_j r.1), r.2)) (k66 : Nat → Int → Int → Int → p_Hp → Option (Int × p_Hp)) (hk66 : ∀ (v0 : Nat) (v1 : Int) (v2 : Int) (v3 : Int)  (s0 : p_Hp) (r : (Int × p_Hp)), k66 v0 v1 v2 v3 s0 = some r → p_Go K l m_Mo_digest 66 [(0, p_r v0), (1, p_i v1), (2, p_i v2), (3, p_i v3)] [] s0 (some (p_j r.1), r.2)) (v0 : Nat) (v1 : Int) (v2 : Int) (v3 : Int) (s0 : p_Hp) (r : (Int × p_Hp)) (h : L_Mo_digest_66 k35 k66 v0 v1 v2 v3 s0 = some r) : p_Go K l m_Mo_digest 66 [(0, p_r v0), (1, p_i v1), (2, p_i v2), (3, p_i v3)] [] s0 (some (p_j r.1), r.2) := by
  unfold L_Mo_digest_66 at h
  refine g_iload_n (i := 3) (j := 3) (dk_Mo_digest 38 rfl) rfl rfl ?_
  refine g_bipush (dk_Mo_digest 39 rfl) (by decide +kernel) (by decide) ?_
  refine g_icmp_ge 88 (dk_Mo_digest 40 rfl) (by decide) (fun b1 => ?_) (fun b1 => ?_)
  · have h := p_ifT b1 h
    refine g_iconst (dk_Mo_digest 49 rfl) (by decide) ?_
    refine g_istore_n (i := 3) [(3, p_i 0), (0, p_r v0), (1, p_i v1), (2, p_i v2)] (dk_Mo_digest 50 rfl) rfl (by decide) rfl ?_
    refine g_sub [(0, p_r v0), (1, p_i v1), (2, p_i v2), (3, p_i 0)] [1, 2, 3, 0] rfl ?_
    exact tO_Mo_digest_90 K l k35 hk35 3000 v0 v1 v2 0 s0 _ h
  · have h := p_ifF b1 h
    refine g_aload_n (i := 0) (j := 0) (dk_Mo_digest 41 rfl) rfl rfl ?_
    refine g_aload_n (i := 0) (j := 0) (dk_Mo_digest 42 rfl) rfl rfl ?_
    refine g_iload_n (i := 1) (j := 1) (dk_Mo_digest 43 rfl) rfl rfl ?_
    refine g_iload_n (i := 3) (j := 3) (dk_Mo_digest 44 rfl) rfl rfl ?_
    obtain ⟨c2, h⟩ := p_gdE h
    obtain ⟨r7, s3, q4, h⟩ := p_bdE h
    have t5 := tF_Mo_told K l v0 v1 v3 s0 _ q4
    refine g_callV (a := v0) (ci := 11) (q0 := (RX11, TX11, 90)) (As := [p_i v1, p_i v3]) (rest := [p_r v0]) [p_i r7, p_r v0] mt_Mo_told rfl rfl tw_8_197 tw_8_198 tw_9_62 ⟨Nat.le_of_ble_eq_true rfl, Nat.le_of_ble_eq_true rfl⟩ rfl (Nat.le_of_ble_eq_true rfl) (dk_Mo_digest 45 rfl) rfl c2 rfl t5 ?_
    have hs6 : p_x s0 s3 := t5.1
    show p_Go K l m_Mo_digest 79 [(0, p_r v0), (1, p_i v1), (2, p_i v2), (3, p_i v3)] [p_i r7, p_r v0] s3 _
    obtain ⟨s8, q9, h⟩ := p_bvE h
    have t10 := tF_Mo_adds K l v0 r7 s3 _ q9
    refine g_callV (a := v0) (ci := 11) (q0 := (RX11, TX11, 90)) (As := [p_i r7]) (rest := []) [] mt_Mo_adds rfl rfl tw_9_59 ts_105 tw_9_57 ⟨Nat.le_of_ble_eq_true rfl, Nat.le_of_ble_eq_true rfl⟩ rfl (Nat.le_of_ble_eq_true rfl) (dk_Mo_digest 46 rfl) rfl (c2.up hs6) rfl t10 ?_
    have hs11 : p_x s3 s8 := t10.1
    show p_Go K l m_Mo_digest 82 [(0, p_r v0), (1, p_i v1), (2, p_i v2), (3, p_i v3)] [] s8 _
    refine g_iinc (j := 3) [(3, p_i (p_w (v3 + 1))), (0, p_r v0), (1, p_i v1), (2, p_i v2)] (dk_Mo_digest 47 rfl) rfl (by decide) rfl ?_
    refine p_ltG (P := fun q => p_Go K l m_Mo_digest 85 [(3, p_i q), (0, p_r v0), (1, p_i v1), (2, p_i v2)] [] s8 _) ?_ h
    intro x12 h
    refine g_goto 66 (dk_Mo_digest 48 rfl) (by decide) ?_
    refine g_sub [(0, p_r v0), (1, p_i v1), (2, p_i v2), (3, p_i x12)] [1, 2, 3, 0] rfl ?_
    exact hk66 v0 v1 v2 x12 s8 _ h
set_option maxRecDepth 100000 in
set_option maxHeartbeats 4000000 in
theorem tO_Mo_digest_66 (K : p_K) (l : Launch) (k35 : Nat → Int → p_Hp → Option (Int × p_Hp)) (hk35 : ∀ (v0 : Nat) (v1 : Int)  (s0 : p_Hp) (r : (Int × p_Hp)), k35 v0 v1 s0 = some r → p_Go K l m_Mo_digest 35 [(0, p_r v0), (1, p_i v1)] [] s0 (some (p_j r.1), r.2)) : ∀ (n : Nat) (v0 : Nat) (v1 : Int) (v2 : Int) (v3 : Int) (s0 : p_Hp) (r : (Int × p_Hp)), O_Mo_digest_66 k35 n v0 v1 v2 v3 s0 = some r → p_Go K l m_Mo_digest 66 [(0, p_r v0), (1, p_i v1), (2, p_i v2), (3, p_i v3)] [] s0 (some (p_j r.1), r.2) := by
  intro n
  induction n with
  | zero => intro v0 v1 v2 v3 s0 r h; cases (show (none : Option (Int × p_Hp)) = some r from h)
  | succ n ih => intro v0 v1 v2 v3 s0 r h; exact tL_Mo_digest_66 K l k35 hk35 _ ih v0 v1 v2 v3 s0 r h
set_option maxRecDepth 100000 in
set_option maxHeartbeats 4000000 in
theorem tL_Mo_digest_35 (K : p_K) (l : Launch) (k35 : Nat → Int → p_Hp → Option (Int × p_Hp)) (hk35 : ∀ (v0 : Nat) (v1 : Int)  (s0 : p_Hp) (r : (Int × p_Hp)), k35 v0 v1 s0 = some r → p_Go K l m_Mo_digest 35 [(0, p_r v0), (1, p_i v1)] [] s0 (some (p_j r.1), r.2)) (v0 : Nat) (v1 : Int) (s0 : p_Hp) (r : (Int × p_Hp)) (h : L_Mo_digest_35 k35 v0 v1 s0 = some r) : p_Go K l m_Mo_digest 35 [(0, p_r v0), (1, p_i v1)] [] s0 (some (p_j r.1), r.2) := by
  unfold L_Mo_digest_35 at h
  refine g_iload_n (i := 1) (j := 1) (dk_Mo_digest 19 rfl) rfl rfl ?_
  refine g_aload_n (i := 0) (j := 0) (dk_Mo_digest 20 rfl) rfl rfl ?_
  obtain ⟨c1, h⟩ := p_gdE h
  refine g_getR fl_Mo_7 (Or.inr ⟨_, rfl⟩) (dk_Mo_digest 21 rfl) c1 ?_
  refine g_aload_n (i := 0) (j := 0) (dk_Mo_digest 22 rfl) rfl rfl ?_
  refine g_getI fl_Mo_227 (Or.inl rfl) (dk_Mo_digest 23 rfl) c1 ?_
  obtain ⟨c2, h⟩ := p_gdE h
  obtain ⟨c3, h⟩ := p_gdE h
  refine g_iaload (dk_Mo_digest 24 rfl) c2 c3.1 c3.2 ?_
  refine g_icmp_ge 172 (dk_Mo_digest 25 rfl) (by decide) (fun b4 => ?_) (fun b4 => ?_)
  · have h := p_ifT b4 h
    refine g_aload_n (i := 0) (j := 0) (dk_Mo_digest 95 rfl) rfl rfl ?_
    refine g_aload_n (i := 0) (j := 0) (dk_Mo_digest 96 rfl) rfl rfl ?_
    refine g_getR fl_Mo_114 (Or.inr ⟨_, rfl⟩) (dk_Mo_digest 97 rfl) c1 ?_
    refine g_aload_n (i := 0) (j := 0) (dk_Mo_digest 98 rfl) rfl rfl ?_
    refine g_getI fl_Mo_227 (Or.inl rfl) (dk_Mo_digest 99 rfl) c1 ?_
    obtain ⟨c5, h⟩ := p_gdE h
    obtain ⟨c6, h⟩ := p_gdE h
    refine g_iaload (dk_Mo_digest 100 rfl) c5 c6.1 c6.2 ?_
    obtain ⟨s7, q8, h⟩ := p_bvE h
    have t9 := tF_Mo_adds K l v0 (p_Z s0 (p_R s0 v0 38) ((p_Z s0 v0 0) : Int).toNat) s0 _ q8
    refine g_callV (a := v0) (ci := 11) (q0 := (RX11, TX11, 90)) (As := [p_i (p_Z s0 (p_R s0 v0 38) ((p_Z s0 v0 0) : Int).toNat)]) (rest := []) [] mt_Mo_adds rfl rfl tw_9_59 ts_105 tw_9_57 ⟨Nat.le_of_ble_eq_true rfl, Nat.le_of_ble_eq_true rfl⟩ rfl (Nat.le_of_ble_eq_true rfl) (dk_Mo_digest 101 rfl) rfl c1 rfl t9 ?_
    have hs10 : p_x s0 s7 := t9.1
    show p_Go K l m_Mo_digest 185 [(0, p_r v0), (1, p_i v1)] [] s7 _
    refine g_aload_n (i := 0) (j := 0) (dk_Mo_digest 102 rfl) rfl rfl ?_
    refine g_aload_n (i := 0) (j := 0) (dk_Mo_digest 103 rfl) rfl rfl ?_
    refine g_getR fl_Mo_117 (Or.inr ⟨_, rfl⟩) (dk_Mo_digest 104 rfl) (c1.up hs10) ?_
    refine g_aload_n (i := 0) (j := 0) (dk_Mo_digest 105 rfl) rfl rfl ?_
    refine g_getI fl_Mo_227 (Or.inl rfl) (dk_Mo_digest 106 rfl) (c1.up hs10) ?_
    obtain ⟨c11, h⟩ := p_gdE h
    obtain ⟨c12, h⟩ := p_gdE h
    refine g_iaload (dk_Mo_digest 107 rfl) c11 c12.1 c12.2 ?_
    obtain ⟨s13, q14, h⟩ := p_bvE h
    have t15 := tF_Mo_adds K l v0 (p_Z s7 (p_R s7 v0 39) ((p_Z s7 v0 0) : Int).toNat) s7 _ q14
    refine g_callV (a := v0) (ci := 11) (q0 := (RX11, TX11, 90)) (As := [p_i (p_Z s7 (p_R s7 v0 39) ((p_Z s7 v0 0) : Int).toNat)]) (rest := []) [] mt_Mo_adds rfl rfl tw_9_59 ts_105 tw_9_57 ⟨Nat.le_of_ble_eq_true rfl, Nat.le_of_ble_eq_true rfl⟩ rfl (Nat.le_of_ble_eq_true rfl) (dk_Mo_digest 108 rfl) rfl (c1.up hs10) rfl t15 ?_
    have hs16 : p_x s7 s13 := t15.1
    show p_Go K l m_Mo_digest 198 [(0, p_r v0), (1, p_i v1)] [] s13 _
    refine g_aload_n (i := 0) (j := 0) (dk_Mo_digest 109 rfl) rfl rfl ?_
    refine g_aload_n (i := 0) (j := 0) (dk_Mo_digest 110 rfl) rfl rfl ?_
    refine g_getR fl_Mo_120 (Or.inr ⟨_, rfl⟩) (dk_Mo_digest 111 rfl) (c1.up (hs10.trans hs16)) ?_
    refine g_aload_n (i := 0) (j := 0) (dk_Mo_digest 112 rfl) rfl rfl ?_
    refine g_getI fl_Mo_227 (Or.inl rfl) (dk_Mo_digest 113 rfl) (c1.up (hs10.trans hs16)) ?_
    obtain ⟨c17, h⟩ := p_gdE h
    obtain ⟨c18, h⟩ := p_gdE h
    refine g_iaload (dk_Mo_digest 114 rfl) c17 c18.1 c18.2 ?_
    obtain ⟨s19, q20, h⟩ := p_bvE h
    have t21 := tF_Mo_adds K l v0 (p_Z s13 (p_R s13 v0 40) ((p_Z s13 v0 0) : Int).toNat) s13 _ q20
    refine g_callV (a := v0) (ci := 11) (q0 := (RX11, TX11, 90)) (As := [p_i (p_Z s13 (p_R s13 v0 40) ((p_Z s13 v0 0) : Int).toNat)]) (rest := []) [] mt_Mo_adds rfl rfl tw_9_59 ts_105 tw_9_57 ⟨Nat.le_of_ble_eq_true rfl, Nat.le_of_ble_eq_true rfl⟩ rfl (Nat.le_of_ble_eq_true rfl) (dk_Mo_digest 115 rfl) rfl (c1.up (hs10.trans hs16)) rfl t21 ?_
    have hs22 : p_x s13 s19 := t21.1
    show p_Go K l m_Mo_digest 211 [(0, p_r v0), (1, p_i v1)] [] s19 _
    refine g_aload_n (i := 0) (j := 0) (dk_Mo_digest 116 rfl) rfl rfl ?_
    refine g_aload_n (i := 0) (j := 0) (dk_Mo_digest 117 rfl) rfl rfl ?_
    refine g_getR fl_Mo_126 (Or.inr ⟨_, rfl⟩) (dk_Mo_digest 118 rfl) (c1.up (hs10.trans (hs16.trans hs22))) ?_
    refine g_aload_n (i := 0) (j := 0) (dk_Mo_digest 119 rfl) rfl rfl ?_
    refine g_getI fl_Mo_227 (Or.inl rfl) (dk_Mo_digest 120 rfl) (c1.up (hs10.trans (hs16.trans hs22))) ?_
    obtain ⟨c23, h⟩ := p_gdE h
    obtain ⟨c24, h⟩ := p_gdE h
    refine g_iaload (dk_Mo_digest 121 rfl) c23 c24.1 c24.2 ?_
    obtain ⟨s25, q26, h⟩ := p_bvE h
    have t27 := tF_Mo_adds K l v0 (p_Z s19 (p_R s19 v0 42) ((p_Z s19 v0 0) : Int).toNat) s19 _ q26
    refine g_callV (a := v0) (ci := 11) (q0 := (RX11, TX11, 90)) (As := [p_i (p_Z s19 (p_R s19 v0 42) ((p_Z s19 v0 0) : Int).toNat)]) (rest := []) [] mt_Mo_adds rfl rfl tw_9_59 ts_105 tw_9_57 ⟨Nat.le_of_ble_eq_true rfl, Nat.le_of_ble_eq_true rfl⟩ rfl (Nat.le_of_ble_eq_true rfl) (dk_Mo_digest 122 rfl) rfl (c1.up (hs10.trans (hs16.trans hs22))) rfl t27 ?_
    have hs28 : p_x s19 s25 := t27.1
    show p_Go K l m_Mo_digest 224 [(0, p_r v0), (1, p_i v1)] [] s25 _
    refine g_aload_n (i := 0) (j := 0) (dk_Mo_digest 123 rfl) rfl rfl ?_
    refine g_getJ fl_Mo_540 (dk_Mo_digest 124 rfl) (c1.up (hs10.trans (hs16.trans (hs22.trans hs28)))) ?_
    cases h
    exact g_ret rfl rfl (dk_Mo_digest 125 rfl) (fun os => ⟨_, rfl, p_okh os⟩)
  · have h := p_ifF b4 h
    refine g_aload_n (i := 0) (j := 0) (dk_Mo_digest 26 rfl) rfl rfl ?_
    refine g_iload_n (i := 1) (j := 1) (dk_Mo_digest 27 rfl) rfl rfl ?_
    obtain ⟨r33, s29, q30, h⟩ := p_bdE h
    have t31 := tF_Mo_g K l v0 v1 s0 _ q30
    refine g_callV (a := v0) (ci := 11) (q0 := (RX11, TX11, 90)) (As := [p_i v1]) (rest := []) [p_i r33] mt_Mo_g rfl rfl tw_7_84 ts_45 tw_7_82 ⟨Nat.le_of_ble_eq_true rfl, Nat.le_of_ble_eq_true rfl⟩ rfl (Nat.le_of_ble_eq_true rfl) (dk_Mo_digest 28 rfl) rfl c1 rfl t31 ?_
    have hs32 : p_x s0 s29 := t31.1
    show p_Go K l m_Mo_digest 53 [(0, p_r v0), (1, p_i v1)] [p_i r33] s29 _
    refine g_istore_n (i := 2) [(2, p_i r33), (0, p_r v0), (1, p_i v1)] (dk_Mo_digest 29 rfl) rfl (by decide) rfl ?_
    refine g_aload_n (i := 0) (j := 1) (dk_Mo_digest 30 rfl) rfl rfl ?_
    refine g_aload_n (i := 0) (j := 1) (dk_Mo_digest 31 rfl) rfl rfl ?_
    refine g_getR fl_Mo_16 (Or.inr ⟨_, rfl⟩) (dk_Mo_digest 32 rfl) (c1.up hs32) ?_
    refine g_iload_n (i := 2) (j := 0) (dk_Mo_digest 33 rfl) rfl rfl ?_
    obtain ⟨c34, h⟩ := p_gdE h
    obtain ⟨c35, h⟩ := p_gdE h
    refine g_iaload (dk_Mo_digest 34 rfl) c34 c35.1 c35.2 ?_
    obtain ⟨s36, q37, h⟩ := p_bvE h
    have t38 := tF_Mo_adds K l v0 (p_Z s29 (p_R s29 v0 5) (r33 : Int).toNat) s29 _ q37
    refine g_callV (a := v0) (ci := 11) (q0 := (RX11, TX11, 90)) (As := [p_i (p_Z s29 (p_R s29 v0 5) (r33 : Int).toNat)]) (rest := []) [] mt_Mo_adds rfl rfl tw_9_59 ts_105 tw_9_57 ⟨Nat.le_of_ble_eq_true rfl, Nat.le_of_ble_eq_true rfl⟩ rfl (Nat.le_of_ble_eq_true rfl) (dk_Mo_digest 35 rfl) rfl (c1.up hs32) rfl t38 ?_
    have hs39 : p_x s29 s36 := t38.1
    show p_Go K l m_Mo_digest 64 [(2, p_i r33), (0, p_r v0), (1, p_i v1)] [] s36 _
    refine g_iconst (dk_Mo_digest 36 rfl) (by decide) ?_
    refine g_istore_n (i := 3) [(3, p_i 2), (2, p_i r33), (0, p_r v0), (1, p_i v1)] (dk_Mo_digest 37 rfl) rfl (by decide) rfl ?_
    refine g_sub [(0, p_r v0), (1, p_i v1), (2, p_i r33), (3, p_i 2)] [2, 3, 1, 0] rfl ?_
    exact tO_Mo_digest_66 K l k35 hk35 3000 v0 v1 r33 2 s36 _ h
set_option maxRecDepth 100000 in
set_option maxHeartbeats 4000000 in
theorem tO_Mo_digest_35 (K : p_K) (l : Launch)  : ∀ (n : Nat) (v0 : Nat) (v1 : Int) (s0 : p_Hp) (r : (Int × p_Hp)), O_Mo_digest_35 n v0 v1 s0 = some r → p_Go K l m_Mo_digest 35 [(0, p_r v0), (1, p_i v1)] [] s0 (some (p_j r.1), r.2) := by
  intro n
  induction n with
  | zero => intro v0 v1 s0 r h; cases (show (none : Option (Int × p_Hp)) = some r from h)
  | succ n ih => intro v0 v1 s0 r h; exact tL_Mo_digest_35 K l _ ih v0 v1 s0 r h
set_option maxRecDepth 100000 in
set_option maxHeartbeats 4000000 in
theorem tF_Mo_digest (K : p_K) (l : Launch) (v0 : Nat) (s0 : p_Hp) (r : (Int × p_Hp)) (h : F_Mo_digest v0 s0 = some r) : p_Ct K l m_Mo_digest [p_r v0] s0 (some (p_j r.1), r.2) := by
  refine p_Ct.of (by decide +kernel) (Nat.le_of_ble_eq_true rfl) ?_
  unfold F_Mo_digest at h
  show p_Go K l m_Mo_digest 0 [(0, p_r v0)] [] s0 _
  refine g_aload_n (i := 0) (j := 0) (dk_Mo_digest 0 rfl) rfl rfl ?_
  refine g_ldc2_w (x := 17) (dk_Mo_digest 1 rfl) tw_9_56 (by decide) (by decide) ?_
  obtain ⟨c1, h⟩ := p_gdE h
  refine g_putJ fl_Mo_540 (Or.inl rfl) (dk_Mo_digest 2 rfl) c1 ?_
  refine p_ltS (P := fun q => p_Go K l m_Mo_digest 7 [(0, p_r v0)] [] q _) (p_xZ _ _ _ _) ?_ h
  intro s2 hs3 h
  refine g_aload_n (i := 0) (j := 0) (dk_Mo_digest 3 rfl) rfl rfl ?_
  refine g_aload_n (i := 0) (j := 0) (dk_Mo_digest 4 rfl) rfl rfl ?_
  refine g_getR fl_Mo_13 (Or.inr ⟨_, rfl⟩) (dk_Mo_digest 5 rfl) (c1.up hs3) ?_
  refine g_aload_n (i := 0) (j := 0) (dk_Mo_digest 6 rfl) rfl rfl ?_
  refine g_getI fl_Mo_227 (Or.inl rfl) (dk_Mo_digest 7 rfl) (c1.up hs3) ?_
  obtain ⟨c4, h⟩ := p_gdE h
  obtain ⟨c5, h⟩ := p_gdE h
  refine g_iaload (dk_Mo_digest 8 rfl) c4 c5.1 c5.2 ?_
  obtain ⟨s6, q7, h⟩ := p_bvE h
  have t8 := tF_Mo_adds K l v0 (p_Z s2 (p_R s2 v0 4) ((p_Z s2 v0 0) : Int).toNat) s2 _ q7
  refine g_callV (a := v0) (ci := 11) (q0 := (RX11, TX11, 90)) (As := [p_i (p_Z s2 (p_R s2 v0 4) ((p_Z s2 v0 0) : Int).toNat)]) (rest := []) [] mt_Mo_adds rfl rfl tw_9_59 ts_105 tw_9_57 ⟨Nat.le_of_ble_eq_true rfl, Nat.le_of_ble_eq_true rfl⟩ rfl (Nat.le_of_ble_eq_true rfl) (dk_Mo_digest 9 rfl) rfl (c1.up hs3) rfl t8 ?_
  have hs9 : p_x s2 s6 := t8.1
  show p_Go K l m_Mo_digest 20 [(0, p_r v0)] [] s6 _
  refine g_aload_n (i := 0) (j := 0) (dk_Mo_digest 10 rfl) rfl rfl ?_
  refine g_aload_n (i := 0) (j := 0) (dk_Mo_digest 11 rfl) rfl rfl ?_
  refine g_getR fl_Mo_7 (Or.inr ⟨_, rfl⟩) (dk_Mo_digest 12 rfl) (c1.up (hs3.trans hs9)) ?_
  refine g_aload_n (i := 0) (j := 0) (dk_Mo_digest 13 rfl) rfl rfl ?_
  refine g_getI fl_Mo_227 (Or.inl rfl) (dk_Mo_digest 14 rfl) (c1.up (hs3.trans hs9)) ?_
  obtain ⟨c10, h⟩ := p_gdE h
  obtain ⟨c11, h⟩ := p_gdE h
  refine g_iaload (dk_Mo_digest 15 rfl) c10 c11.1 c11.2 ?_
  obtain ⟨s12, q13, h⟩ := p_bvE h
  have t14 := tF_Mo_adds K l v0 (p_Z s6 (p_R s6 v0 3) ((p_Z s6 v0 0) : Int).toNat) s6 _ q13
  refine g_callV (a := v0) (ci := 11) (q0 := (RX11, TX11, 90)) (As := [p_i (p_Z s6 (p_R s6 v0 3) ((p_Z s6 v0 0) : Int).toNat)]) (rest := []) [] mt_Mo_adds rfl rfl tw_9_59 ts_105 tw_9_57 ⟨Nat.le_of_ble_eq_true rfl, Nat.le_of_ble_eq_true rfl⟩ rfl (Nat.le_of_ble_eq_true rfl) (dk_Mo_digest 16 rfl) rfl (c1.up (hs3.trans hs9)) rfl t14 ?_
  have hs15 : p_x s6 s12 := t14.1
  show p_Go K l m_Mo_digest 33 [(0, p_r v0)] [] s12 _
  refine g_iconst (dk_Mo_digest 17 rfl) (by decide) ?_
  refine g_istore_n (i := 1) [(1, p_i 0), (0, p_r v0)] (dk_Mo_digest 18 rfl) rfl (by decide) rfl ?_
  refine g_sub [(0, p_r v0), (1, p_i 0)] [1, 0] rfl ?_
  exact tO_Mo_digest_35 K l 3000 v0 0 s12 _ h
