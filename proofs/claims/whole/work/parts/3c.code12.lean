def m_Mo_rule_1 : p_Me := (⟨"SortWorksModel", "rule", "(II)I"⟩, prog_13_method_104_code, 4, (some .int), 1, 25)
theorem mt_Mo_rule_1 : p_Mt m_Mo_rule_1 2 := ⟨p_mem (p_tb8 (List.mem_of_getElem? (i := 235) rfl)) rfl, tw_1_12, by decide +kernel, by decide +kernel, by decide +kernel⟩
def dt_Mo_rule_1 : List (Nat × Instr × Nat) := [(0, .iload_n 1, 1), (1, .i2l, 1), (2, .lconst 0, 1), (3, .aload_n 0, 1), (4, .getfield 141, 3), (7, .aload_n 0, 1), (8, .getfield 227, 3), (11, .iaload, 1), (12, .iconst 1, 1), (13, .isub, 1), (14, .i2l, 1), (15, .invokestatic 230, 3), (18, .ifCond .ne 15, 3), (21, .iload_n 2, 1), (22, .i2l, 1), (23, .lconst 0, 1), (24, .ldc2_w 238, 3), (27, .invokestatic 230, 3), (30, .ifCond .eq 6, 3), (33, .bipush (-9), 2), (35, .ireturn, 1), (36, .bipush 12, 2), (38, .aload_n 0, 1), (39, .getfield 227, 3), (42, .imul, 1), (43, .iload_n 1, 1), (44, .iadd, 1), (45, .istore_n 3, 1), (46, .iload_n 2, 1), (47, .ifCond .ne 12, 3), (50, .aload_n 0, 1), (51, .getfield 144, 3), (54, .iload_n 3, 1), (55, .iaload, 1), (56, .goto 23, 3), (59, .iload_n 2, 1), (60, .iconst 1, 1), (61, .if_icmp .ne 12, 3), (64, .aload_n 0, 1), (65, .getfield 147, 3), (68, .iload_n 3, 1), (69, .iaload, 1), (70, .goto 9, 3), (73, .aload_n 0, 1), (74, .getfield 150, 3), (77, .iload_n 3, 1), (78, .iaload, 1), (79, .ireturn, 1)]
theorem dk_Mo_rule_1 (i : Nat) {pc : Nat} {ins : Instr} {len : Nat} (h : dt_Mo_rule_1[i]? = some (pc, ins, len)) : decode m_Mo_rule_1.2.1 pc = .ok (ins, len) := p_dk (b := m_Mo_rule_1.2.1) (t := dt_Mo_rule_1) (by decide +kernel) i h
def F_Mo_rule_1 (v0 : Nat) (v1 : Int) (v2 : Int) (s0 : p_Hp) : Option (Int × p_Hp) :=
  p_gd (p_is s0 v0 11) <|
  p_gd (p_is s0 (p_R s0 v0 48) 100) <|
  p_gd ((0 : Int) ≤ (p_Z s0 v0 0) ∧ (p_Z s0 v0 0) < (p_L s0 (p_R s0 v0 48) : Int)) <|
  p_bd (F_Mo_beyond v1 0 (p_w ((p_Z s0 (p_R s0 v0 48) ((p_Z s0 v0 0) : Int).toNat) - 1)) s0) fun r8 s4 =>
  if r8 ≠ 0 then
    some ((-9), s4)
  else
    p_bd (F_Mo_beyond v2 0 2 s4) fun r14 s10 =>
    if r14 = 0 then
      p_bi ((p_w ((p_w (12 * (p_Z s10 v0 0))) + v1))) fun x16 =>
      if v2 ≠ 0 then
        if v2 ≠ 1 then
          p_gd (p_is s10 (p_R s10 v0 51) 100) <|
          p_gd ((0 : Int) ≤ x16 ∧ x16 < (p_L s10 (p_R s10 v0 51) : Int)) <|
          some ((p_Z s10 (p_R s10 v0 51) (x16 : Int).toNat), s10)
        else
          p_gd (p_is s10 (p_R s10 v0 50) 100) <|
          p_gd ((0 : Int) ≤ x16 ∧ x16 < (p_L s10 (p_R s10 v0 50) : Int)) <|
          some ((p_Z s10 (p_R s10 v0 50) (x16 : Int).toNat), s10)
      else
        p_gd (p_is s10 (p_R s10 v0 49) 100) <|
        p_gd ((0 : Int) ≤ x16 ∧ x16 < (p_L s10 (p_R s10 v0 49) : Int)) <|
        some ((p_Z s10 (p_R s10 v0 49) (x16 : Int).toNat), s10)
    else
      some ((-9), s10)
set_option maxRecDepth 100000 in
set_option maxHeartbeats 4000000 in
theorem tF_Mo_rule_1 (K : p_K) (l : Launch) (v0 : Nat) (v1 : Int) (v2 : Int) (s0 : p_Hp) (r : (Int × p_Hp)) (h : F_Mo_rule_1 v0 v1 v2 s0 = some r) : p_Ct K l m_Mo_rule_1 [p_r v0, p_i v1, p_i v2] s0 (some (p_i r.1), r.2) := by
  refine p_Ct.of (by decide +kernel) (Nat.le_of_ble_eq_true rfl) ?_
  unfold F_Mo_rule_1 at h
  show p_Go K l m_Mo_rule_1 0 [(0, p_r v0), (1, p_i v1), (2, p_i v2)] [] s0 _
  refine g_iload_n (i := 1) (j := 1) (dk_Mo_rule_1 0 rfl) rfl rfl ?_
  refine g_i2l (dk_Mo_rule_1 1 rfl) ?_
  refine g_lconst (x := 0) (dk_Mo_rule_1 2 rfl) rfl (by decide) ?_
  refine g_aload_n (i := 0) (j := 0) (dk_Mo_rule_1 3 rfl) rfl rfl ?_
  obtain ⟨c1, h⟩ := p_gdE h
  refine g_getR fl_Mo_141 (Or.inr ⟨_, rfl⟩) (dk_Mo_rule_1 4 rfl) c1 ?_
  refine g_aload_n (i := 0) (j := 0) (dk_Mo_rule_1 5 rfl) rfl rfl ?_
  refine g_getI fl_Mo_227 (Or.inl rfl) (dk_Mo_rule_1 6 rfl) c1 ?_
  obtain ⟨c2, h⟩ := p_gdE h
  obtain ⟨c3, h⟩ := p_gdE h
  refine g_iaload (dk_Mo_rule_1 7 rfl) c2 c3.1 c3.2 ?_
  refine g_iconst (dk_Mo_rule_1 8 rfl) (by decide) ?_
  refine g_isub (dk_Mo_rule_1 9 rfl) ?_
  refine g_i2l (dk_Mo_rule_1 10 rfl) ?_
  obtain ⟨r8, s4, q5, h⟩ := p_bdE h
  have t6 := tF_Mo_beyond K l v1 0 (p_w ((p_Z s0 (p_R s0 v0 48) ((p_Z s0 v0 0) : Int).toNat) - 1)) s0 _ q5
  refine g_callS (av := [p_j v1, p_j 0, p_j (p_w ((p_Z s0 (p_R s0 v0 48) ((p_Z s0 v0 0) : Int).toNat) - 1))]) (rest := []) [p_i r8] mt_Mo_beyond tw_7_63 tw_7_62 ⟨Nat.le_of_ble_eq_true rfl, Nat.le_of_ble_eq_true rfl⟩ rfl (Nat.le_of_ble_eq_true rfl) (dk_Mo_rule_1 11 rfl) rfl rfl t6 ?_
  have hs7 : p_x s0 s4 := t6.1
  show p_Go K l m_Mo_rule_1 18 [(0, p_r v0), (1, p_i v1), (2, p_i v2)] [p_i r8] s4 _
  refine g_if_ne 33 (dk_Mo_rule_1 12 rfl) (by decide) (fun b9 => ?_) (fun b9 => ?_)
  · have h := p_ifT b9 h
    refine g_bipush (dk_Mo_rule_1 19 rfl) (by decide +kernel) (by decide) ?_
    cases h
    exact g_ret rfl rfl (dk_Mo_rule_1 20 rfl) (fun os => ⟨_, rfl, p_okh os⟩)
  · have h := p_ifF b9 h
    refine g_iload_n (i := 2) (j := 2) (dk_Mo_rule_1 13 rfl) rfl rfl ?_
    refine g_i2l (dk_Mo_rule_1 14 rfl) ?_
    refine g_lconst (x := 0) (dk_Mo_rule_1 15 rfl) rfl (by decide) ?_
    refine g_ldc2_w (x := 2) (dk_Mo_rule_1 16 rfl) tw_7_61 (by decide) (by decide) ?_
    obtain ⟨r14, s10, q11, h⟩ := p_bdE h
    have t12 := tF_Mo_beyond K l v2 0 2 s4 _ q11
    refine g_callS (av := [p_j v2, p_j 0, p_j 2]) (rest := []) [p_i r14] mt_Mo_beyond tw_7_63 tw_7_62 ⟨Nat.le_of_ble_eq_true rfl, Nat.le_of_ble_eq_true rfl⟩ rfl (Nat.le_of_ble_eq_true rfl) (dk_Mo_rule_1 17 rfl) rfl rfl t12 ?_
    have hs13 : p_x s4 s10 := t12.1
    show p_Go K l m_Mo_rule_1 30 [(0, p_r v0), (1, p_i v1), (2, p_i v2)] [p_i r14] s10 _
    refine g_if_eq 36 (dk_Mo_rule_1 18 rfl) (by decide) (fun b15 => ?_) (fun b15 => ?_)
    · have h := p_ifT b15 h
      refine g_bipush (dk_Mo_rule_1 21 rfl) (by decide +kernel) (by decide) ?_
      refine g_aload_n (i := 0) (j := 0) (dk_Mo_rule_1 22 rfl) rfl rfl ?_
      refine g_getI fl_Mo_227 (Or.inl rfl) (dk_Mo_rule_1 23 rfl) (c1.up (hs7.trans hs13)) ?_
      refine g_imul (dk_Mo_rule_1 24 rfl) ?_
      refine g_iload_n (i := 1) (j := 1) (dk_Mo_rule_1 25 rfl) rfl rfl ?_
      refine g_iadd (dk_Mo_rule_1 26 rfl) ?_
      refine g_istore_n (i := 3) [(3, p_i (p_w ((p_w (12 * (p_Z s10 v0 0))) + v1))), (0, p_r v0), (1, p_i v1), (2, p_i v2)] (dk_Mo_rule_1 27 rfl) rfl (by decide) rfl ?_
      refine p_ltG (P := fun q => p_Go K l m_Mo_rule_1 46 [(3, p_i q), (0, p_r v0), (1, p_i v1), (2, p_i v2)] [] s10 _) ?_ h
      intro x16 h
      refine g_iload_n (i := 2) (j := 3) (dk_Mo_rule_1 28 rfl) rfl rfl ?_
      refine g_if_ne 59 (dk_Mo_rule_1 29 rfl) (by decide) (fun b17 => ?_) (fun b17 => ?_)
      · have h := p_ifT b17 h
        refine g_iload_n (i := 2) (j := 3) (dk_Mo_rule_1 35 rfl) rfl rfl ?_
        refine g_iconst (dk_Mo_rule_1 36 rfl) (by decide) ?_
        refine g_icmp_ne 73 (dk_Mo_rule_1 37 rfl) (by decide) (fun b18 => ?_) (fun b18 => ?_)
        · have h := p_ifT b18 h
          refine g_aload_n (i := 0) (j := 1) (dk_Mo_rule_1 43 rfl) rfl rfl ?_
          refine g_getR fl_Mo_150 (Or.inr ⟨_, rfl⟩) (dk_Mo_rule_1 44 rfl) (c1.up (hs7.trans hs13)) ?_
          refine g_iload_n (i := 3) (j := 0) (dk_Mo_rule_1 45 rfl) rfl rfl ?_
          obtain ⟨c19, h⟩ := p_gdE h
          obtain ⟨c20, h⟩ := p_gdE h
          refine g_iaload (dk_Mo_rule_1 46 rfl) c19 c20.1 c20.2 ?_
          cases h
          exact g_ret rfl rfl (dk_Mo_rule_1 47 rfl) (fun os => ⟨_, rfl, p_okh os⟩)
        · have h := p_ifF b18 h
          refine g_aload_n (i := 0) (j := 1) (dk_Mo_rule_1 38 rfl) rfl rfl ?_
          refine g_getR fl_Mo_147 (Or.inr ⟨_, rfl⟩) (dk_Mo_rule_1 39 rfl) (c1.up (hs7.trans hs13)) ?_
          refine g_iload_n (i := 3) (j := 0) (dk_Mo_rule_1 40 rfl) rfl rfl ?_
          obtain ⟨c21, h⟩ := p_gdE h
          obtain ⟨c22, h⟩ := p_gdE h
          refine g_iaload (dk_Mo_rule_1 41 rfl) c21 c22.1 c22.2 ?_
          refine g_goto 79 (dk_Mo_rule_1 42 rfl) (by decide) ?_
          cases h
          exact g_ret rfl rfl (dk_Mo_rule_1 47 rfl) (fun os => ⟨_, rfl, p_okh os⟩)
      · have h := p_ifF b17 h
        refine g_aload_n (i := 0) (j := 1) (dk_Mo_rule_1 30 rfl) rfl rfl ?_
        refine g_getR fl_Mo_144 (Or.inr ⟨_, rfl⟩) (dk_Mo_rule_1 31 rfl) (c1.up (hs7.trans hs13)) ?_
        refine g_iload_n (i := 3) (j := 0) (dk_Mo_rule_1 32 rfl) rfl rfl ?_
        obtain ⟨c23, h⟩ := p_gdE h
        obtain ⟨c24, h⟩ := p_gdE h
        refine g_iaload (dk_Mo_rule_1 33 rfl) c23 c24.1 c24.2 ?_
        refine g_goto 79 (dk_Mo_rule_1 34 rfl) (by decide) ?_
        cases h
        exact g_ret rfl rfl (dk_Mo_rule_1 47 rfl) (fun os => ⟨_, rfl, p_okh os⟩)
    · have h := p_ifF b15 h
      refine g_bipush (dk_Mo_rule_1 19 rfl) (by decide +kernel) (by decide) ?_
      cases h
      exact g_ret rfl rfl (dk_Mo_rule_1 20 rfl) (fun os => ⟨_, rfl, p_okh os⟩)
def m_Mo_says : p_Me := (⟨"SortWorksModel", "says", "(I)V"⟩, prog_13_method_105_code, 2, none, 0, 0)
theorem mt_Mo_says : p_Mt m_Mo_says 1 := ⟨p_mem (p_tb9 (List.mem_of_getElem? (i := 3) rfl)) rfl, tw_1_12, by decide +kernel, by decide +kernel, by decide +kernel⟩
def dt_Mo_says : List (Nat × Instr × Nat) := [(0, .aload_n 0, 1), (1, .getfield 520, 3), (4, .ifCond .ne 8, 3), (7, .aload_n 0, 1), (8, .iload_n 1, 1), (9, .putfield 523, 3), (12, .aload_n 0, 1), (13, .dup, 1), (14, .getfield 520, 3), (17, .iconst 1, 1), (18, .isub, 1), (19, .putfield 520, 3), (22, .return_, 1)]
theorem dk_Mo_says (i : Nat) {pc : Nat} {ins : Instr} {len : Nat} (h : dt_Mo_says[i]? = some (pc, ins, len)) : decode m_Mo_says.2.1 pc = .ok (ins, len) := p_dk (b := m_Mo_says.2.1) (t := dt_Mo_says) (by decide +kernel) i h
def B_Mo_says_12  (v0 : Nat) (s0 : p_Hp) : Option p_Hp :=
  p_gd (p_is s0 v0 11) <|
  p_bi (p_wZ s0 v0 86 (p_w ((p_Z s0 v0 86) - 1))) fun s2 =>
  some s2
def F_Mo_says (v0 : Nat) (v1 : Int) (s0 : p_Hp) : Option p_Hp :=
  p_gd (p_is s0 v0 11) <|
  if (p_Z s0 v0 86) ≠ 0 then
    B_Mo_says_12 v0 s0
  else
    p_bi (p_wZ s0 v0 87 v1) fun s3 =>
    B_Mo_says_12 v0 s3
set_option maxRecDepth 100000 in
set_option maxHeartbeats 4000000 in
theorem tB_Mo_says_12 (K : p_K) (l : Launch)  (v0 : Nat) (s0 : p_Hp) (r : p_Hp) (h : B_Mo_says_12 v0 s0 = some r) : p_Go K l m_Mo_says 12 [(0, p_r v0)] [] s0 (none, r) := by
  unfold B_Mo_says_12 at h
  refine g_aload_n (i := 0) (j := 0) (dk_Mo_says 6 rfl) rfl rfl ?_
  refine g_dup (dk_Mo_says 7 rfl) rfl ?_
  obtain ⟨c1, h⟩ := p_gdE h
  refine g_getI fl_Mo_520 (Or.inl rfl) (dk_Mo_says 8 rfl) c1 ?_
  refine g_iconst (dk_Mo_says 9 rfl) (by decide) ?_
  refine g_isub (dk_Mo_says 10 rfl) ?_
  refine g_putI fl_Mo_520 (Or.inl rfl) (dk_Mo_says 11 rfl) c1 ?_
  refine p_ltS (P := fun q => p_Go K l m_Mo_says 22 [(0, p_r v0)] [] q _) (p_xZ _ _ _ _) ?_ h
  intro s2 hs3 h
  cases h
  exact g_ret rfl rfl (dk_Mo_says 12 rfl) (fun _ => rfl)
set_option maxRecDepth 100000 in
set_option maxHeartbeats 4000000 in
theorem tF_Mo_says (K : p_K) (l : Launch) (v0 : Nat) (v1 : Int) (s0 : p_Hp) (r : p_Hp) (h : F_Mo_says v0 v1 s0 = some r) : p_Ct K l m_Mo_says [p_r v0, p_i v1] s0 (none, r) := by
  refine p_Ct.of (by decide +kernel) (Nat.le_of_ble_eq_true rfl) ?_
  unfold F_Mo_says at h
  show p_Go K l m_Mo_says 0 [(0, p_r v0), (1, p_i v1)] [] s0 _
  refine g_aload_n (i := 0) (j := 0) (dk_Mo_says 0 rfl) rfl rfl ?_
  obtain ⟨c1, h⟩ := p_gdE h
  refine g_getI fl_Mo_520 (Or.inl rfl) (dk_Mo_says 1 rfl) c1 ?_
  refine g_if_ne 12 (dk_Mo_says 2 rfl) (by decide) (fun b2 => ?_) (fun b2 => ?_)
  · have h := p_ifT b2 h
    refine g_sub [(0, p_r v0)] [0] rfl ?_
    exact tB_Mo_says_12 K l v0 s0 _ h
  · have h := p_ifF b2 h
    refine g_aload_n (i := 0) (j := 0) (dk_Mo_says 3 rfl) rfl rfl ?_
    refine g_iload_n (i := 1) (j := 1) (dk_Mo_says 4 rfl) rfl rfl ?_
    refine g_putI fl_Mo_523 (Or.inl rfl) (dk_Mo_says 5 rfl) c1 ?_
    refine p_ltS (P := fun q => p_Go K l m_Mo_says 12 [(0, p_r v0), (1, p_i v1)] [] q _) (p_xZ _ _ _ _) ?_ h
    intro s3 hs4 h
    refine g_sub [(0, p_r v0)] [0] rfl ?_
    exact tB_Mo_says_12 K l v0 s3 _ h
def m_Mo_saysNumber : p_Me := (⟨"SortWorksModel", "saysNumber", "(I)V"⟩, prog_13_method_106_code, 3, none, 1, 21)
theorem mt_Mo_saysNumber : p_Mt m_Mo_saysNumber 1 := ⟨p_mem (p_tb9 (List.mem_of_getElem? (i := 7) rfl)) rfl, tw_1_12, by decide +kernel, by decide +kernel, by decide +kernel⟩
def dt_Mo_saysNumber : List (Nat × Instr × Nat) := [(0, .iload_n 1, 1), (1, .sipush 999, 3), (4, .if_icmp .le 9, 3), (7, .sipush 1000, 3), (10, .goto 26, 3), (13, .iload_n 1, 1), (14, .bipush 99, 2), (16, .if_icmp .le 8, 3), (19, .bipush 100, 2), (21, .goto 15, 3), (24, .iload_n 1, 1), (25, .bipush 9, 2), (27, .if_icmp .le 8, 3), (30, .bipush 10, 2), (32, .goto 4, 3), (35, .iconst 1, 1), (36, .istore_n 2, 1), (37, .iload_n 2, 1), (38, .ifCond .le 24, 3), (41, .aload_n 0, 1), (42, .bipush 48, 2), (44, .iload_n 1, 1), (45, .iload_n 2, 1), (46, .idiv, 1), (47, .bipush 10, 2), (49, .irem, 1), (50, .iadd, 1), (51, .invokevirtual 526, 3), (54, .iload_n 2, 1), (55, .bipush 10, 2), (57, .idiv, 1), (58, .istore_n 2, 1), (59, .goto (-22), 3), (62, .return_, 1)]
theorem dk_Mo_saysNumber (i : Nat) {pc : Nat} {ins : Instr} {len : Nat} (h : dt_Mo_saysNumber[i]? = some (pc, ins, len)) : decode m_Mo_saysNumber.2.1 pc = .ok (ins, len) := p_dk (b := m_Mo_saysNumber.2.1) (t := dt_Mo_saysNumber) (by decide +kernel) i h
def L_Mo_saysNumber_37 (k37 : Nat → Int → Int → p_Hp → Option p_Hp) (v0 : Nat) (v1 : Int) (v2 : Int) (s0 : p_Hp) : Option p_Hp :=
  if v2 ≤ 0 then
    some s0
  else
    p_gd (v2 ≠ 0) <|
    p_gd (p_is s0 v0 11) <|
    p_bv (F_Mo_says v0 (p_w (48 + (p_rem (p_div v1 v2) 10))) s0) fun s4 =>
    p_bi ((p_div v2 10)) fun x8 =>
    k37 v0 v1 x8 s4
def O_Mo_saysNumber_37  : Nat → Nat → Int → Int → p_Hp → Option p_Hp
  | 0 => fun _ _ _ _ => none
  | n + 1 => L_Mo_saysNumber_37 (O_Mo_saysNumber_37 n)
def B_Mo_saysNumber_36  (v0 : Nat) (v1 : Int) (w0 : Int) (s0 : p_Hp) : Option p_Hp :=
  O_Mo_saysNumber_37 3000 v0 v1 w0 s0
def F_Mo_saysNumber (v0 : Nat) (v1 : Int) (s0 : p_Hp) : Option p_Hp :=
  if v1 ≤ 999 then
    if v1 ≤ 99 then
      if v1 ≤ 9 then
        B_Mo_saysNumber_36 v0 v1 1 s0
      else
        B_Mo_saysNumber_36 v0 v1 10 s0
    else
      B_Mo_saysNumber_36 v0 v1 100 s0
  else
    B_Mo_saysNumber_36 v0 v1 1000 s0
set_option maxRecDepth 100000 in
set_option maxHeartbeats 4000000 in
theorem tL_Mo_saysNumber_37 (K : p_K) (l : Launch) (k37 : Nat → Int → Int → p_Hp → Option p_Hp) (hk37 : ∀ (v0 : Nat) (v1 : Int) (v2 : Int)  (s0 : p_Hp) (r : p_Hp), k37 v0 v1 v2 s0 = some r → p_Go K l m_Mo_saysNumber 37 [(0, p_r v0), (1, p_i v1), (2, p_i v2)] [] s0 (none, r)) (v0 : Nat) (v1 : Int) (v2 : Int) (s0 : p_Hp) (r : p_Hp) (h : L_Mo_saysNumber_37 k37 v0 v1 v2 s0 = some r) : p_Go K l m_Mo_saysNumber 37 [(0, p_r v0), (1, p_i v1), (2, p_i v2)] [] s0 (none, r) := by
  unfold L_Mo_saysNumber_37 at h
  refine g_iload_n (i := 2) (j := 2) (dk_Mo_saysNumber 17 rfl) rfl rfl ?_
  refine g_if_le 62 (dk_Mo_saysNumber 18 rfl) (by decide) (fun b1 => ?_) (fun b1 => ?_)
  · have h := p_ifT b1 h
    cases h
    exact g_ret rfl rfl (dk_Mo_saysNumber 33 rfl) (fun _ => rfl)
  · have h := p_ifF b1 h
    refine g_aload_n (i := 0) (j := 0) (dk_Mo_saysNumber 19 rfl) rfl rfl ?_
    refine g_bipush (dk_Mo_saysNumber 20 rfl) (by decide +kernel) (by decide) ?_
    refine g_iload_n (i := 1) (j := 1) (dk_Mo_saysNumber 21 rfl) rfl rfl ?_
    refine g_iload_n (i := 2) (j := 2) (dk_Mo_saysNumber 22 rfl) rfl rfl ?_
    obtain ⟨c2, h⟩ := p_gdE h
    refine g_idiv (dk_Mo_saysNumber 23 rfl) c2 ?_
    refine g_bipush (dk_Mo_saysNumber 24 rfl) (by decide +kernel) (by decide) ?_
    refine g_irem (dk_Mo_saysNumber 25 rfl) (by decide) ?_
    refine g_iadd (dk_Mo_saysNumber 26 rfl) ?_
    obtain ⟨c3, h⟩ := p_gdE h
    obtain ⟨s4, q5, h⟩ := p_bvE h
    have t6 := tF_Mo_says K l v0 (p_w (48 + (p_rem (p_div v1 v2) 10))) s0 _ q5
    refine g_callV (a := v0) (ci := 11) (q0 := (RX11, TX11, 90)) (As := [p_i (p_w (48 + (p_rem (p_div v1 v2) 10)))]) (rest := []) [] mt_Mo_says rfl rfl tw_9_2 ts_101 tw_9_0 ⟨Nat.le_of_ble_eq_true rfl, Nat.le_of_ble_eq_true rfl⟩ rfl (Nat.le_of_ble_eq_true rfl) (dk_Mo_saysNumber 27 rfl) rfl c3 rfl t6 ?_
    have hs7 : p_x s0 s4 := t6.1
    show p_Go K l m_Mo_saysNumber 54 [(0, p_r v0), (1, p_i v1), (2, p_i v2)] [] s4 _
    refine g_iload_n (i := 2) (j := 2) (dk_Mo_saysNumber 28 rfl) rfl rfl ?_
    refine g_bipush (dk_Mo_saysNumber 29 rfl) (by decide +kernel) (by decide) ?_
    refine g_idiv (dk_Mo_saysNumber 30 rfl) (by decide) ?_
    refine g_istore_n (i := 2) [(2, p_i (p_div v2 10)), (0, p_r v0), (1, p_i v1)] (dk_Mo_saysNumber 31 rfl) rfl (by decide) rfl ?_
    refine p_ltG (P := fun q => p_Go K l m_Mo_saysNumber 59 [(2, p_i q), (0, p_r v0), (1, p_i v1)] [] s4 _) ?_ h
    intro x8 h
    refine g_goto 37 (dk_Mo_saysNumber 32 rfl) (by decide) ?_
    refine g_sub [(0, p_r v0), (1, p_i v1), (2, p_i x8)] [1, 2, 0] rfl ?_
    exact hk37 v0 v1 x8 s4 _ h
set_option maxRecDepth 100000 in
set_option maxHeartbeats 4000000 in
theorem tO_Mo_saysNumber_37 (K : p_K) (l : Launch)  : ∀ (n : Nat) (v0 : Nat) (v1 : Int) (v2 : Int) (s0 : p_Hp) (r : p_Hp), O_Mo_saysNumber_37 n v0 v1 v2 s0 = some r → p_Go K l m_Mo_saysNumber 37 [(0, p_r v0), (1, p_i v1), (2, p_i v2)] [] s0 (none, r) := by
  intro n
  induction n with
  | zero => intro v0 v1 v2 s0 r h; cases (show (none : Option p_Hp) = some r from h)
  | succ n ih => intro v0 v1 v2 s0 r h; exact tL_Mo_saysNumber_37 K l _ ih v0 v1 v2 s0 r h
set_option maxRecDepth 100000 in
set_option maxHeartbeats 4000000 in
theorem tB_Mo_saysNumber_36 (K : p_K) (l : Launch)  (v0 : Nat) (v1 : Int) (w0 : Int) (s0 : p_Hp) (r : p_Hp) (h : B_Mo_saysNumber_36 v0 v1 w0 s0 = some r) : p_Go K l m_Mo_saysNumber 36 [(0, p_r v0), (1, p_i v1)] [p_i w0] s0 (none, r) := by
  unfold B_Mo_saysNumber_36 at h
  refine g_istore_n (i := 2) [(2, p_i w0), (0, p_r v0), (1, p_i v1)] (dk_Mo_saysNumber 16 rfl) rfl (by decide) rfl ?_
  refine g_sub [(0, p_r v0), (1, p_i v1), (2, p_i w0)] [1, 2, 0] rfl ?_
  exact tO_Mo_saysNumber_37 K l 3000 v0 v1 w0 s0 _ h
set_option maxRecDepth 100000 in
set_option maxHeartbeats 4000000 in
theorem tF_Mo_saysNumber (K : p_K) (l : Launch) (v0 : Nat) (v1 : Int) (s0 : p_Hp) (r : p_Hp) (h : F_Mo_saysNumber v0 v1 s0 = some r) : p_Ct K l m_Mo_saysNumber [p_r v0, p_i v1] s0 (none, r) := by
  refine p_Ct.of (by decide +kernel) (Nat.le_of_ble_eq_true rfl) ?_
  unfold F_Mo_saysNumber at h
  show p_Go K l m_Mo_saysNumber 0 [(0, p_r v0), (1, p_i v1)] [] s0 _
  refine g_iload_n (i := 1) (j := 1) (dk_Mo_saysNumber 0 rfl) rfl rfl ?_
  refine g_sipush (dk_Mo_saysNumber 1 rfl) (by decide +kernel) (by decide) ?_
  refine g_icmp_le 13 (dk_Mo_saysNumber 2 rfl) (by decide) (fun b1 => ?_) (fun b1 => ?_)
  · have h := p_ifT b1 h
    refine g_iload_n (i := 1) (j := 1) (dk_Mo_saysNumber 5 rfl) rfl rfl ?_
    refine g_bipush (dk_Mo_saysNumber 6 rfl) (by decide +kernel) (by decide) ?_
    refine g_icmp_le 24 (dk_Mo_saysNumber 7 rfl) (by decide) (fun b2 => ?_) (fun b2 => ?_)
    · have h := p_ifT b2 h
      refine g_iload_n (i := 1) (j := 1) (dk_Mo_saysNumber 10 rfl) rfl rfl ?_
      refine g_bipush (dk_Mo_saysNumber 11 rfl) (by decide +kernel) (by decide) ?_
      refine g_icmp_le 35 (dk_Mo_saysNumber 12 rfl) (by decide) (fun b3 => ?_) (fun b3 => ?_)
      · have h := p_ifT b3 h
        refine g_iconst (dk_Mo_saysNumber 15 rfl) (by decide) ?_
        exact tB_Mo_saysNumber_36 K l v0 v1 1 s0 _ h
      · have h := p_ifF b3 h
        refine g_bipush (dk_Mo_saysNumber 13 rfl) (by decide +kernel) (by decide) ?_
        refine g_goto 36 (dk_Mo_saysNumber 14 rfl) (by decide) ?_
        exact tB_Mo_saysNumber_36 K l v0 v1 10 s0 _ h
    · have h := p_ifF b2 h
      refine g_bipush (dk_Mo_saysNumber 8 rfl) (by decide +kernel) (by decide) ?_
      refine g_goto 36 (dk_Mo_saysNumber 9 rfl) (by decide) ?_
      exact tB_Mo_saysNumber_36 K l v0 v1 100 s0 _ h
  · have h := p_ifF b1 h
    refine g_sipush (dk_Mo_saysNumber 3 rfl) (by decide +kernel) (by decide) ?_
    refine g_goto 36 (dk_Mo_saysNumber 4 rfl) (by decide) ?_
    exact tB_Mo_saysNumber_36 K l v0 v1 1000 s0 _ h
def m_Mo_said : p_Me := (⟨"SortWorksModel", "said", "(I)I"⟩, prog_13_method_107_code, 4, (some .int), 2, 43)
theorem mt_Mo_said : p_Mt m_Mo_said 1 := ⟨p_mem (p_tb8 (List.mem_of_getElem? (i := 239) rfl)) rfl, tw_1_12, by decide +kernel, by decide +kernel, by decide +kernel⟩
def dt_Mo_said : List (Nat × Instr × Nat) := [(0, .iload_n 1, 1), (1, .ifCond .ge 6, 3), (4, .bipush (-9), 2), (6, .ireturn, 1), (7, .aload_n 0, 1), (8, .iload_n 1, 1), (9, .putfield 520, 3), (12, .aload_n 0, 1), (13, .bipush (-9), 2), (15, .putfield 523, 3), (18, .bipush 12, 2), (20, .aload_n 0, 1), (21, .getfield 227, 3), (24, .imul, 1), (25, .istore_n 2, 1), (26, .iload_n 2, 1), (27, .bipush 12, 2), (29, .aload_n 0, 1), (30, .getfield 227, 3), (33, .imul, 1), (34, .aload_n 0, 1), (35, .getfield 141, 3), (38, .aload_n 0, 1), (39, .getfield 227, 3), (42, .iaload, 1), (43, .iadd, 1), (44, .if_icmp .ge 119, 3), (47, .iconst 4, 1), (48, .iload_n 2, 1), (49, .imul, 1), (50, .istore_n 3, 1), (51, .iload_n 3, 1), (52, .iconst 4, 1), (53, .iload_n 2, 1), (54, .imul, 1), (55, .aload_n 0, 1), (56, .getfield 147, 3), (59, .iload_n 2, 1), (60, .iaload, 1), (61, .iadd, 1), (62, .if_icmp .ge 73, 3), (65, .iload_n 3, 1), (66, .iconst 4, 1), (67, .iload_n 2, 1), (68, .imul, 1), (69, .if_icmp .le 9, 3), (72, .aload_n 0, 1), (73, .bipush 44, 2), (75, .invokevirtual 526, 3), (78, .aload_n 0, 1), (79, .aload_n 0, 1), (80, .getfield 153, 3), (83, .iload_n 3, 1), (84, .iaload, 1), (85, .invokevirtual 526, 3), (88, .aload_n 0, 1), (89, .getfield 153, 3), (92, .iload_n 3, 1), (93, .iaload, 1), (94, .bipush 81, 2), (96, .if_icmp .ne 13, 3), (99, .aload_n 0, 1), (100, .aload_n 0, 1), (101, .getfield 156, 3), (104, .iload_n 3, 1), (105, .iaload, 1), (106, .invokevirtual 529, 3), (109, .aload_n 0, 1), (110, .aload_n 0, 1), (111, .getfield 159, 3), (114, .iload_n 3, 1), (115, .iaload, 1), (116, .invokevirtual 526, 3), (119, .aload_n 0, 1), (120, .aload_n 0, 1), (121, .getfield 162, 3), (124, .iload_n 3, 1), (125, .iaload, 1), (126, .invokevirtual 529, 3), (129, .iinc 3 1, 3), (132, .goto (-81), 3), (135, .aload_n 0, 1), (136, .bipush 58, 2), (138, .invokevirtual 526, 3), (141, .aload_n 0, 1), (142, .aload_n 0, 1), (143, .getfield 144, 3), (146, .iload_n 2, 1), (147, .iaload, 1), (148, .invokevirtual 529, 3), (151, .aload_n 0, 1), (152, .bipush 59, 2), (154, .invokevirtual 526, 3), (157, .iinc 2 1, 3), (160, .goto (-134), 3), (163, .aload_n 0, 1), (164, .getfield 523, 3), (167, .ireturn, 1)]
theorem dk_Mo_said (i : Nat) {pc : Nat} {ins : Instr} {len : Nat} (h : dt_Mo_said[i]? = some (pc, ins, len)) : decode m_Mo_said.2.1 pc = .ok (ins, len) := p_dk (b := m_Mo_said.2.1) (t := dt_Mo_said) (by decide +kernel) i h
def B_Mo_said_109 (k26 : Nat → Int → p_Hp → Option (Int × p_Hp)) (k51 : Nat → Int → Int → p_Hp → Option (Int × p_Hp)) (v0 : Nat) (v2 : Int) (v3 : Int) (s0 : p_Hp) : Option (Int × p_Hp) :=
  p_gd (p_is s0 v0 11) <|
  p_gd (p_is s0 (p_R s0 v0 54) 100) <|
  p_gd ((0 : Int) ≤ v3 ∧ v3 < (p_L s0 (p_R s0 v0 54) : Int)) <|
  p_bv (F_Mo_says v0 (p_Z s0 (p_R s0 v0 54) (v3 : Int).toNat) s0) fun s4 =>
  p_gd (p_is s4 (p_R s4 v0 55) 100) <|
  p_gd ((0 : Int) ≤ v3 ∧ v3 < (p_L s4 (p_R s4 v0 55) : Int)) <|
  p_bv (F_Mo_saysNumber v0 (p_Z s4 (p_R s4 v0 55) (v3 : Int).toNat) s4) fun s10 =>
  p_bi (p_w (v3 + 1)) fun x14 =>
  k51 v0 v2 x14 s10
def B_Mo_said_78 (k26 : Nat → Int → p_Hp → Option (Int × p_Hp)) (k51 : Nat → Int → Int → p_Hp → Option (Int × p_Hp)) (v0 : Nat) (v2 : Int) (v3 : Int) (s0 : p_Hp) : Option (Int × p_Hp) :=
  p_gd (p_is s0 v0 11) <|
  p_gd (p_is s0 (p_R s0 v0 52) 100) <|
  p_gd ((0 : Int) ≤ v3 ∧ v3 < (p_L s0 (p_R s0 v0 52) : Int)) <|
  p_bv (F_Mo_says v0 (p_Z s0 (p_R s0 v0 52) (v3 : Int).toNat) s0) fun s4 =>
  p_gd (p_is s4 (p_R s4 v0 52) 100) <|
  p_gd ((0 : Int) ≤ v3 ∧ v3 < (p_L s4 (p_R s4 v0 52) : Int)) <|
  if (p_Z s4 (p_R s4 v0 52) (v3 : Int).toNat) ≠ 81 then
    B_Mo_said_109 k26 k51 v0 v2 v3 s4
  else
    p_gd (p_is s4 (p_R s4 v0 53) 100) <|
    p_gd ((0 : Int) ≤ v3 ∧ v3 < (p_L s4 (p_R s4 v0 53) : Int)) <|
    p_bv (F_Mo_saysNumber v0 (p_Z s4 (p_R s4 v0 53) (v3 : Int).toNat) s4) fun s13 =>
    B_Mo_said_109 k26 k51 v0 v2 v3 s13
def L_Mo_said_51 (k26 : Nat → Int → p_Hp → Option (Int × p_Hp)) (k51 : Nat → Int → Int → p_Hp → Option (Int × p_Hp)) (v0 : Nat) (v2 : Int) (v3 : Int) (s0 : p_Hp) : Option (Int × p_Hp) :=
  p_gd (p_is s0 v0 11) <|
  p_gd (p_is s0 (p_R s0 v0 50) 100) <|
  p_gd ((0 : Int) ≤ v2 ∧ v2 < (p_L s0 (p_R s0 v0 50) : Int)) <|
  if (p_w ((p_w (4 * v2)) + (p_Z s0 (p_R s0 v0 50) (v2 : Int).toNat))) ≤ v3 then
    p_bv (F_Mo_says v0 58 s0) fun s5 =>
    p_gd (p_is s5 (p_R s5 v0 49) 100) <|
    p_gd ((0 : Int) ≤ v2 ∧ v2 < (p_L s5 (p_R s5 v0 49) : Int)) <|
    p_bv (F_Mo_saysNumber v0 (p_Z s5 (p_R s5 v0 49) (v2 : Int).toNat) s5) fun s11 =>
    p_bv (F_Mo_says v0 59 s11) fun s15 =>
    p_bi (p_w (v2 + 1)) fun x19 =>
    k26 v0 x19 s15
  else
    if v3 ≤ (p_w (4 * v2)) then
      B_Mo_said_78 k26 k51 v0 v2 v3 s0
    else
      p_bv (F_Mo_says v0 44 s0) fun s21 =>
      B_Mo_said_78 k26 k51 v0 v2 v3 s21
def O_Mo_said_51 (k26 : Nat → Int → p_Hp → Option (Int × p_Hp)) : Nat → Nat → Int → Int → p_Hp → Option (Int × p_Hp)
  | 0 => fun _ _ _ _ => none
  | n + 1 => L_Mo_said_51 k26 (O_Mo_said_51 k26 n)
def L_Mo_said_26 (k26 : Nat → Int → p_Hp → Option (Int × p_Hp)) (v0 : Nat) (v2 : Int) (s0 : p_Hp) : Option (Int × p_Hp) :=
  p_gd (p_is s0 v0 11) <|
  p_gd (p_is s0 (p_R s0 v0 48) 100) <|
  p_gd ((0 : Int) ≤ (p_Z s0 v0 0) ∧ (p_Z s0 v0 0) < (p_L s0 (p_R s0 v0 48) : Int)) <|
  if (p_w ((p_w (12 * (p_Z s0 v0 0))) + (p_Z s0 (p_R s0 v0 48) ((p_Z s0 v0 0) : Int).toNat))) ≤ v2 then
    some ((p_Z s0 v0 87), s0)
  else
    p_bi ((p_w (4 * v2))) fun x5 =>
    O_Mo_said_51 k26 3000 v0 v2 x5 s0
def O_Mo_said_26  : Nat → Nat → Int → p_Hp → Option (Int × p_Hp)
  | 0 => fun _ _ _ => none
  | n + 1 => L_Mo_said_26 (O_Mo_said_26 n)
def F_Mo_said (v0 : Nat) (v1 : Int) (s0 : p_Hp) : Option (Int × p_Hp) :=
  if 0 ≤ v1 then
    p_gd (p_is s0 v0 11) <|
    p_bi (p_wZ s0 v0 86 v1) fun s3 =>
    p_bi (p_wZ s3 v0 87 (-9)) fun s5 =>
    p_bi ((p_w (12 * (p_Z s5 v0 0)))) fun x7 =>
    O_Mo_said_26 3000 v0 x7 s5
  else
    some ((-9), s0)
set_option maxRecDepth 100000 in
set_option maxHeartbeats 4000000 in
theorem tB_Mo_said_109 (K : p_K) (l : Launch) (k26 : Nat → Int → p_Hp → Option (Int × p_Hp)) (hk26 : ∀ (v0 : Nat) (v2 : Int)  (s0 : p_Hp) (r : (Int × p_Hp)), k26 v0 v2 s0 = some r → p_Go K l m_Mo_said 26 [(0, p_r v0), (2, p_i v2)] [] s0 (some (p_i r.1), r.2)) (k51 : Nat → Int → Int → p_Hp → Option (Int × p_Hp)) (hk51 : ∀ (v0 : Nat) (v2 : Int) (v3 : Int)  (s0 : p_Hp) (r : (Int × p_Hp)), k51 v0 v2 v3 s0 = some r → p_Go K l m_Mo_said 51 [(0, p_r v0), (2, p_i v2), (3, p_i v3)] [] s0 (some (p_i r.1), r.2)) (v0 : Nat) (v2 : Int) (v3 : Int) (s0 : p_Hp) (r : (Int × p_Hp)) (h : B_Mo_said_109 k26 k51 v0 v2 v3 s0 = some r) : p_Go K l m_Mo_said 109 [(0, p_r v0), (2, p_i v2), (3, p_i v3)] [] s0 (some (p_i r.1), r.2) := by
  unfold B_Mo_said_109 at h
  refine g_aload_n (i := 0) (j := 0) (dk_Mo_said 67 rfl) rfl rfl ?_
  refine g_aload_n (i := 0) (j := 0) (dk_Mo_said 68 rfl) rfl rfl ?_
  obtain ⟨c1, h⟩ := p_gdE h
  refine g_getR fl_Mo_159 (Or.inr ⟨_, rfl⟩) (dk_Mo_said 69 rfl) c1 ?_
  refine g_iload_n (i := 3) (j := 2) (dk_Mo_said 70 rfl) rfl rfl ?_
  obtain ⟨c2, h⟩ := p_gdE h
  obtain ⟨c3, h⟩ := p_gdE h
  refine g_iaload (dk_Mo_said 71 rfl) c2 c3.1 c3.2 ?_
  obtain ⟨s4, q5, h⟩ := p_bvE h
  have t6 := tF_Mo_says K l v0 (p_Z s0 (p_R s0 v0 54) (v3 : Int).toNat) s0 _ q5
  refine g_callV (a := v0) (ci := 11) (q0 := (RX11, TX11, 90)) (As := [p_i (p_Z s0 (p_R s0 v0 54) (v3 : Int).toNat)]) (rest := []) [] mt_Mo_says rfl rfl tw_9_2 ts_101 tw_9_0 ⟨Nat.le_of_ble_eq_true rfl, Nat.le_of_ble_eq_true rfl⟩ rfl (Nat.le_of_ble_eq_true rfl) (dk_Mo_said 72 rfl) rfl c1 rfl t6 ?_
  have hs7 : p_x s0 s4 := t6.1
  show p_Go K l m_Mo_said 119 [(0, p_r v0), (2, p_i v2), (3, p_i v3)] [] s4 _
  refine g_aload_n (i := 0) (j := 0) (dk_Mo_said 73 rfl) rfl rfl ?_
  refine g_aload_n (i := 0) (j := 0) (dk_Mo_said 74 rfl) rfl rfl ?_
  refine g_getR fl_Mo_162 (Or.inr ⟨_, rfl⟩) (dk_Mo_said 75 rfl) (c1.up hs7) ?_
  refine g_iload_n (i := 3) (j := 2) (dk_Mo_said 76 rfl) rfl rfl ?_
  obtain ⟨c8, h⟩ := p_gdE h
  obtain ⟨c9, h⟩ := p_gdE h
  refine g_iaload (dk_Mo_said 77 rfl) c8 c9.1 c9.2 ?_
  obtain ⟨s10, q11, h⟩ := p_bvE h
  have t12 := tF_Mo_saysNumber K l v0 (p_Z s4 (p_R s4 v0 55) (v3 : Int).toNat) s4 _ q11
  refine g_callV (a := v0) (ci := 11) (q0 := (RX11, TX11, 90)) (As := [p_i (p_Z s4 (p_R s4 v0 55) (v3 : Int).toNat)]) (rest := []) [] mt_Mo_saysNumber rfl rfl tw_9_6 ts_102 tw_9_4 ⟨Nat.le_of_ble_eq_true rfl, Nat.le_of_ble_eq_true rfl⟩ rfl (Nat.le_of_ble_eq_true rfl) (dk_Mo_said 78 rfl) rfl (c1.up hs7) rfl t12 ?_
  have hs13 : p_x s4 s10 := t12.1
  show p_Go K l m_Mo_said 129 [(0, p_r v0), (2, p_i v2), (3, p_i v3)] [] s10 _
  refine g_iinc (j := 2) [(3, p_i (p_w (v3 + 1))), (0, p_r v0), (2, p_i v2)] (dk_Mo_said 79 rfl) rfl (by decide) rfl ?_
  refine p_ltG (P := fun q => p_Go K l m_Mo_said 132 [(3, p_i q), (0, p_r v0), (2, p_i v2)] [] s10 _) ?_ h
  intro x14 h
  refine g_goto 51 (dk_Mo_said 80 rfl) (by decide) ?_
  refine g_sub [(0, p_r v0), (2, p_i v2), (3, p_i x14)] [1, 2, 0] rfl ?_
  exact hk51 v0 v2 x14 s10 _ h
set_option maxRecDepth 100000 in
set_option maxHeartbeats 4000000 in
theorem tB_Mo_said_78 (K : p_K) (l : Launch) (k26 : Nat → Int → p_Hp → Option (Int × p_Hp)) (hk26 : ∀ (v0 : Nat) (v2 : Int)  (s0 : p_Hp) (r : (Int × p_Hp)), k26 v0 v2 s0 = some r → p_Go K l m_Mo_said 26 [(0, p_r v0), (2, p_i v2)] [] s0 (some (p_i r.1), r.2)) (k51 : Nat → Int → Int → p_Hp → Option (Int × p_Hp)) (hk51 : ∀ (v0 : Nat) (v2 : Int) (v3 : Int)  (s0 : p_Hp) (r : (Int × p_Hp)), k51 v0 v2 v3 s0 = some r → p_Go K l m_Mo_said 51 [(0, p_r v0), (2, p_i v2), (3, p_i v3)] [] s0 (some (p_i r.1), r.2)) (v0 : Nat) (v2 : Int) (v3 : Int) (s0 : p_Hp) (r : (Int × p_Hp)) (h : B_Mo_said_78 k26 k51 v0 v2 v3 s0 = some r) : p_Go K l m_Mo_said 78 [(0, p_r v0), (2, p_i v2), (3, p_i v3)] [] s0 (some (p_i r.1), r.2) := by
  unfold B_Mo_said_78 at h
  refine g_aload_n (i := 0) (j := 0) (dk_Mo_said 49 rfl) rfl rfl ?_
  refine g_aload_n (i := 0) (j := 0) (dk_Mo_said 50 rfl) rfl rfl ?_
  obtain ⟨c1, h⟩ := p_gdE h
  refine g_getR fl_Mo_153 (Or.inr ⟨_, rfl⟩) (dk_Mo_said 51 rfl) c1 ?_
  refine g_iload_n (i := 3) (j := 2) (dk_Mo_said 52 rfl) rfl rfl ?_
  obtain ⟨c2, h⟩ := p_gdE h
  obtain ⟨c3, h⟩ := p_gdE h
  refine g_iaload (dk_Mo_said 53 rfl) c2 c3.1 c3.2 ?_
  obtain ⟨s4, q5, h⟩ := p_bvE h
  have t6 := tF_Mo_says K l v0 (p_Z s0 (p_R s0 v0 52) (v3 : Int).toNat) s0 _ q5
  refine g_callV (a := v0) (ci := 11) (q0 := (RX11, TX11, 90)) (As := [p_i (p_Z s0 (p_R s0 v0 52) (v3 : Int).toNat)]) (rest := []) [] mt_Mo_says rfl rfl tw_9_2 ts_101 tw_9_0 ⟨Nat.le_of_ble_eq_true rfl, Nat.le_of_ble_eq_true rfl⟩ rfl (Nat.le_of_ble_eq_true rfl) (dk_Mo_said 54 rfl) rfl c1 rfl t6 ?_
  have hs7 : p_x s0 s4 := t6.1
  show p_Go K l m_Mo_said 88 [(0, p_r v0), (2, p_i v2), (3, p_i v3)] [] s4 _
  refine g_aload_n (i := 0) (j := 0) (dk_Mo_said 55 rfl) rfl rfl ?_
  refine g_getR fl_Mo_153 (Or.inr ⟨_, rfl⟩) (dk_Mo_said 56 rfl) (c1.up hs7) ?_
  refine g_iload_n (i := 3) (j := 2) (dk_Mo_said 57 rfl) rfl rfl ?_
  obtain ⟨c8, h⟩ := p_gdE h
  obtain ⟨c9, h⟩ := p_gdE h
  refine g_iaload (dk_Mo_said 58 rfl) c8 c9.1 c9.2 ?_
  refine g_bipush (dk_Mo_said 59 rfl) (by decide +kernel) (by decide) ?_
  refine g_icmp_ne 109 (dk_Mo_said 60 rfl) (by decide) (fun b10 => ?_) (fun b10 => ?_)
  · have h := p_ifT b10 h
    exact tB_Mo_said_109 K l k26 hk26 k51 hk51 v0 v2 v3 s4 _ h
  · have h := p_ifF b10 h
    refine g_aload_n (i := 0) (j := 0) (dk_Mo_said 61 rfl) rfl rfl ?_
    refine g_aload_n (i := 0) (j := 0) (dk_Mo_said 62 rfl) rfl rfl ?_
    refine g_getR fl_Mo_156 (Or.inr ⟨_, rfl⟩) (dk_Mo_said 63 rfl) (c1.up hs7) ?_
    refine g_iload_n (i := 3) (j := 2) (dk_Mo_said 64 rfl) rfl rfl ?_
    obtain ⟨c11, h⟩ := p_gdE h
    obtain ⟨c12, h⟩ := p_gdE h
    refine g_iaload (dk_Mo_said 65 rfl) c11 c12.1 c12.2 ?_
    obtain ⟨s13, q14, h⟩ := p_bvE h
    have t15 := tF_Mo_saysNumber K l v0 (p_Z s4 (p_R s4 v0 53) (v3 : Int).toNat) s4 _ q14
    refine g_callV (a := v0) (ci := 11) (q0 := (RX11, TX11, 90)) (As := [p_i (p_Z s4 (p_R s4 v0 53) (v3 : Int).toNat)]) (rest := []) [] mt_Mo_saysNumber rfl rfl tw_9_6 ts_102 tw_9_4 ⟨Nat.le_of_ble_eq_true rfl, Nat.le_of_ble_eq_true rfl⟩ rfl (Nat.le_of_ble_eq_true rfl) (dk_Mo_said 66 rfl) rfl (c1.up hs7) rfl t15 ?_
    have hs16 : p_x s4 s13 := t15.1
    show p_Go K l m_Mo_said 109 [(0, p_r v0), (2, p_i v2), (3, p_i v3)] [] s13 _
    exact tB_Mo_said_109 K l k26 hk26 k51 hk51 v0 v2 v3 s13 _ h
set_option maxRecDepth 100000 in
set_option maxHeartbeats 4000000 in
theorem tL_Mo_said_51 (K : p_K) (l : Launch) (k26 : Nat → Int → p_Hp → Option (Int × p_Hp)) (hk26 : ∀ (v0 : Nat) (v2 : Int)  (s0 : p_Hp) (r : (Int × p_Hp)), k26 v0 v2 s0 = some r → p_Go K l m_Mo_said 26 [(0, p_r v0), (2, p_i v2)] [] s0 (some (p_i r.1), r.2)) (k51 : Nat → Int → Int → p_Hp → Option (Int × p_Hp)) (hk51 : ∀ (v0 : Nat) (v2 : Int) (v3 : Int)  (s0 : p_Hp) (r : (Int × p_Hp)), k51 v0 v2 v3 s0 = some r → p_Go K l m_Mo_said 51 [(0, p_r v0), (2, p_i v2), (3, p_i v3)] [] s0 (some (p_i r.1), r.2)) (v0 : Nat) (v2 : Int) (v3 : Int) (s0 : p_Hp) (r : (Int × p_Hp)) (h : L_Mo_said_51 k26 k51 v0 v2 v3 s0 = some r) : p_Go K l m_Mo_said 51 [(0, p_r v0), (2, p_i v2), (3, p_i v3)] [] s0 (some (p_i r.1), r.2) := by
  unfold L_Mo_said_51 at h
  refine g_iload_n (i := 3) (j := 2) (dk_Mo_said 31 rfl) rfl rfl ?_
  refine g_iconst (dk_Mo_said 32 rfl) (by decide) ?_
  refine g_iload_n (i := 2) (j := 1) (dk_Mo_said 33 rfl) rfl rfl ?_
  refine g_imul (dk_Mo_said 34 rfl) ?_
  refine g_aload_n (i := 0) (j := 0) (dk_Mo_said 35 rfl) rfl rfl ?_
  obtain ⟨c1, h⟩ := p_gdE h
  refine g_getR fl_Mo_147 (Or.inr ⟨_, rfl⟩) (dk_Mo_said 36 rfl) c1 ?_
  refine g_iload_n (i := 2) (j := 1) (dk_Mo_said 37 rfl) rfl rfl ?_
  obtain ⟨c2, h⟩ := p_gdE h
  obtain ⟨c3, h⟩ := p_gdE h
  refine g_iaload (dk_Mo_said 38 rfl) c2 c3.1 c3.2 ?_
  refine g_iadd (dk_Mo_said 39 rfl) ?_
  refine g_icmp_ge 135 (dk_Mo_said 40 rfl) (by decide) (fun b4 => ?_) (fun b4 => ?_)
  · have h := p_ifT b4 h
    refine g_aload_n (i := 0) (j := 0) (dk_Mo_said 81 rfl) rfl rfl ?_
    refine g_bipush (dk_Mo_said 82 rfl) (by decide +kernel) (by decide) ?_
    obtain ⟨s5, q6, h⟩ := p_bvE h
    have t7 := tF_Mo_says K l v0 58 s0 _ q6
    refine g_callV (a := v0) (ci := 11) (q0 := (RX11, TX11, 90)) (As := [p_i 58]) (rest := []) [] mt_Mo_says rfl rfl tw_9_2 ts_101 tw_9_0 ⟨Nat.le_of_ble_eq_true rfl, Nat.le_of_ble_eq_true rfl⟩ rfl (Nat.le_of_ble_eq_true rfl) (dk_Mo_said 83 rfl) rfl c1 rfl t7 ?_
    have hs8 : p_x s0 s5 := t7.1
    show p_Go K l m_Mo_said 141 [(0, p_r v0), (2, p_i v2), (3, p_i v3)] [] s5 _
    refine g_aload_n (i := 0) (j := 0) (dk_Mo_said 84 rfl) rfl rfl ?_
    refine g_aload_n (i := 0) (j := 0) (dk_Mo_said 85 rfl) rfl rfl ?_
    refine g_getR fl_Mo_144 (Or.inr ⟨_, rfl⟩) (dk_Mo_said 86 rfl) (c1.up hs8) ?_
    refine g_iload_n (i := 2) (j := 1) (dk_Mo_said 87 rfl) rfl rfl ?_
    obtain ⟨c9, h⟩ := p_gdE h
    obtain ⟨c10, h⟩ := p_gdE h
    refine g_iaload (dk_Mo_said 88 rfl) c9 c10.1 c10.2 ?_
    obtain ⟨s11, q12, h⟩ := p_bvE h
    have t13 := tF_Mo_saysNumber K l v0 (p_Z s5 (p_R s5 v0 49) (v2 : Int).toNat) s5 _ q12
    refine g_callV (a := v0) (ci := 11) (q0 := (RX11, TX11, 90)) (As := [p_i (p_Z s5 (p_R s5 v0 49) (v2 : Int).toNat)]) (rest := []) [] mt_Mo_saysNumber rfl rfl tw_9_6 ts_102 tw_9_4 ⟨Nat.le_of_ble_eq_true rfl, Nat.le_of_ble_eq_true rfl⟩ rfl (Nat.le_of_ble_eq_true rfl) (dk_Mo_said 89 rfl) rfl (c1.up hs8) rfl t13 ?_
    have hs14 : p_x s5 s11 := t13.1
    show p_Go K l m_Mo_said 151 [(0, p_r v0), (2, p_i v2), (3, p_i v3)] [] s11 _
    refine g_aload_n (i := 0) (j := 0) (dk_Mo_said 90 rfl) rfl rfl ?_
    refine g_bipush (dk_Mo_said 91 rfl) (by decide +kernel) (by decide) ?_
    obtain ⟨s15, q16, h⟩ := p_bvE h
    have t17 := tF_Mo_says K l v0 59 s11 _ q16
    refine g_callV (a := v0) (ci := 11) (q0 := (RX11, TX11, 90)) (As := [p_i 59]) (rest := []) [] mt_Mo_says rfl rfl tw_9_2 ts_101 tw_9_0 ⟨Nat.le_of_ble_eq_true rfl, Nat.le_of_ble_eq_true rfl⟩ rfl (Nat.le_of_ble_eq_true rfl) (dk_Mo_said 92 rfl) rfl (c1.up (hs8.trans hs14)) rfl t17 ?_
    have hs18 : p_x s11 s15 := t17.1
    show p_Go K l m_Mo_said 157 [(0, p_r v0), (2, p_i v2), (3, p_i v3)] [] s15 _
    refine g_iinc (j := 1) [(2, p_i (p_w (v2 + 1))), (0, p_r v0), (3, p_i v3)] (dk_Mo_said 93 rfl) rfl (by decide) rfl ?_
    refine p_ltG (P := fun q => p_Go K l m_Mo_said 160 [(2, p_i q), (0, p_r v0), (3, p_i v3)] [] s15 _) ?_ h
    intro x19 h
    refine g_goto 26 (dk_Mo_said 94 rfl) (by decide) ?_
    refine g_sub [(0, p_r v0), (2, p_i x19)] [1, 0] rfl ?_
    exact hk26 v0 x19 s15 _ h
  · have h := p_ifF b4 h
    refine g_iload_n (i := 3) (j := 2) (dk_Mo_said 41 rfl) rfl rfl ?_
    refine g_iconst (dk_Mo_said 42 rfl) (by decide) ?_
    refine g_iload_n (i := 2) (j := 1) (dk_Mo_said 43 rfl) rfl rfl ?_
    refine g_imul (dk_Mo_said 44 rfl) ?_
    refine g_icmp_le 78 (dk_Mo_said 45 rfl) (by decide) (fun b20 => ?_) (fun b20 => ?_)
    · have h := p_ifT b20 h
      exact tB_Mo_said_78 K l k26 hk26 k51 hk51 v0 v2 v3 s0 _ h
    · have h := p_ifF b20 h
      refine g_aload_n (i := 0) (j := 0) (dk_Mo_said 46 rfl) rfl rfl ?_
      refine g_bipush (dk_Mo_said 47 rfl) (by decide +kernel) (by decide) ?_
      obtain ⟨s21, q22, h⟩ := p_bvE h
      have t23 := tF_Mo_says K l v0 44 s0 _ q22
      refine g_callV (a := v0) (ci := 11) (q0 := (RX11, TX11, 90)) (As := [p_i 44]) (rest := []) [] mt_Mo_says rfl rfl tw_9_2 ts_101 tw_9_0 ⟨Nat.le_of_ble_eq_true rfl, Nat.le_of_ble_eq_true rfl⟩ rfl (Nat.le_of_ble_eq_true rfl) (dk_Mo_said 48 rfl) rfl c1 rfl t23 ?_
      have hs24 : p_x s0 s21 := t23.1
      show p_Go K l m_Mo_said 78 [(0, p_r v0), (2, p_i v2), (3, p_i v3)] [] s21 _
      exact tB_Mo_said_78 K l k26 hk26 k51 hk51 v0 v2 v3 s21 _ h
set_option maxRecDepth 100000 in
set_option maxHeartbeats 4000000 in
theorem tO_Mo_said_51 (K : p_K) (l : Launch) (k26 : Nat → Int → p_Hp → Option (Int × p_Hp)) (hk26 : ∀ (v0 : Nat) (v2 : Int)  (s0 : p_Hp) (r : (Int × p_Hp)), k26 v0 v2 s0 = some r → p_Go K l m_Mo_said 26 [(0, p_r v0), (2, p_i v2)] [] s0 (some (p_i r.1), r.2)) : ∀ (n : Nat) (v0 : Nat) (v2 : Int) (v3 : Int) (s0 : p_Hp) (r : (Int × p_Hp)), O_Mo_said_51 k26 n v0 v2 v3 s0 = some r → p_Go K l m_Mo_said 51 [(0, p_r v0), (2, p_i v2), (3, p_i v3)] [] s0 (some (p_i r.1), r.2) := by
  intro n
  induction n with
  | zero => intro v0 v2 v3 s0 r h; cases (show (none : Option (Int × p_Hp)) = some r from h)
  | succ n ih => intro v0 v2 v3 s0 r h; exact tL_Mo_said_51 K l k26 hk26 _ ih v0 v2 v3 s0 r h
set_option maxRecDepth 100000 in
set_option maxHeartbeats 4000000 in
theorem tL_Mo_said_26 (K : p_K) (l : Launch) (k26 : Nat → Int → p_Hp → Option (Int × p_Hp)) (hk26 : ∀ (v0 : Nat) (v2 : Int)  (s0 : p_Hp) (r : (Int × p_Hp)), k26 v0 v2 s0 = some r → p_Go K l m_Mo_said 26 [(0, p_r v0), (2, p_i v2)] [] s0 (some (p_i r.1), r.2)) (v0 : Nat) (v2 : Int) (s0 : p_Hp) (r : (Int × p_Hp)) (h : L_Mo_said_26 k26 v0 v2 s0 = some r) : p_Go K l m_Mo_said 26 [(0, p_r v0), (2, p_i v2)] [] s0 (some (p_i r.1), r.2) := by
  unfold L_Mo_said_26 at h
  refine g_iload_n (i := 2) (j := 1) (dk_Mo_said 15 rfl) rfl rfl ?_
  refine g_bipush (dk_Mo_said 16 rfl) (by decide +kernel) (by decide) ?_
  refine g_aload_n (i := 0) (j := 0) (dk_Mo_said 17 rfl) rfl rfl ?_
  obtain ⟨c1, h⟩ := p_gdE h
  refine g_getI fl_Mo_227 (Or.inl rfl) (dk_Mo_said 18 rfl) c1 ?_
  refine g_imul (dk_Mo_said 19 rfl) ?_
  refine g_aload_n (i := 0) (j := 0) (dk_Mo_said 20 rfl) rfl rfl ?_
  refine g_getR fl_Mo_141 (Or.inr ⟨_, rfl⟩) (dk_Mo_said 21 rfl) c1 ?_
  refine g_aload_n (i := 0) (j := 0) (dk_Mo_said 22 rfl) rfl rfl ?_
  refine g_getI fl_Mo_227 (Or.inl rfl) (dk_Mo_said 23 rfl) c1 ?_
  obtain ⟨c2, h⟩ := p_gdE h
  obtain ⟨c3, h⟩ := p_gdE h
  refine g_iaload (dk_Mo_said 24 rfl) c2 c3.1 c3.2 ?_
  refine g_iadd (dk_Mo_said 25 rfl) ?_
  refine g_icmp_ge 163 (dk_Mo_said 26 rfl) (by decide) (fun b4 => ?_) (fun b4 => ?_)
  · have h := p_ifT b4 h
    refine g_aload_n (i := 0) (j := 0) (dk_Mo_said 95 rfl) rfl rfl ?_
    refine g_getI fl_Mo_523 (Or.inl rfl) (dk_Mo_said 96 rfl) c1 ?_
    cases h
    exact g_ret rfl rfl (dk_Mo_said 97 rfl) (fun os => ⟨_, rfl, p_okh os⟩)
  · have h := p_ifF b4 h
    refine g_iconst (dk_Mo_said 27 rfl) (by decide) ?_
    refine g_iload_n (i := 2) (j := 1) (dk_Mo_said 28 rfl) rfl rfl ?_
    refine g_imul (dk_Mo_said 29 rfl) ?_
    refine g_istore_n (i := 3) [(3, p_i (p_w (4 * v2))), (0, p_r v0), (2, p_i v2)] (dk_Mo_said 30 rfl) rfl (by decide) rfl ?_
    refine p_ltG (P := fun q => p_Go K l m_Mo_said 51 [(3, p_i q), (0, p_r v0), (2, p_i v2)] [] s0 _) ?_ h
    intro x5 h
    refine g_sub [(0, p_r v0), (2, p_i v2), (3, p_i x5)] [1, 2, 0] rfl ?_
    exact tO_Mo_said_51 K l k26 hk26 3000 v0 v2 x5 s0 _ h
set_option maxRecDepth 100000 in
set_option maxHeartbeats 4000000 in
theorem tO_Mo_said_26 (K : p_K) (l : Launch)  : ∀ (n : Nat) (v0 : Nat) (v2 : Int) (s0 : p_Hp) (r : (Int × p_Hp)), O_Mo_said_26 n v0 v2 s0 = some r → p_Go K l m_Mo_said 26 [(0, p_r v0), (2, p_i v2)] [] s0 (some (p_i r.1), r.2) := by
  intro n
  induction n with
  | zero => intro v0 v2 s0 r h; cases (show (none : Option (Int × p_Hp)) = some r from h)
  | succ n ih => intro v0 v2 s0 r h; exact tL_Mo_said_26 K l _ ih v0 v2 s0 r h
set_option maxRecDepth 100000 in
set_option maxHeartbeats 4000000 in
theorem tF_Mo_said (K : p_K) (l : Launch) (v0 : Nat) (v1 : Int) (s0 : p_Hp) (r : (Int × p_Hp)) (h : F_Mo_said v0 v1 s0 = some r) : p_Ct K l m_Mo_said [p_r v0, p_i v1] s0 (some (p_i r.1), r.2) := by
  refine p_Ct.of (by decide +kernel) (Nat.le_of_ble_eq_true rfl) ?_
  unfold F_Mo_said at h
  show p_Go K l m_Mo_said 0 [(0, p_r v0), (1, p_i v1)] [] s0 _
  refine g_iload_n (i := 1) (j := 1) (dk_Mo_said 0 rfl) rfl rfl ?_
  refine g_if_ge 7 (dk_Mo_said 1 rfl) (by decide) (fun b1 => ?_) (fun b1 => ?_)
  · have h := p_ifT b1 h
    refine g_aload_n (i := 0) (j := 0) (dk_Mo_said 4 rfl) rfl rfl ?_
    refine g_iload_n (i := 1) (j := 1) (dk_Mo_said 5 rfl) rfl rfl ?_
    obtain ⟨c2, h⟩ := p_gdE h
    refine g_putI fl_Mo_520 (Or.inl rfl) (dk_Mo_said 6 rfl) c2 ?_
    refine p_ltS (P := fun q => p_Go K l m_Mo_said 12 [(0, p_r v0), (1, p_i v1)] [] q _) (p_xZ _ _ _ _) ?_ h
    intro s3 hs4 h
    refine g_aload_n (i := 0) (j := 0) (dk_Mo_said 7 rfl) rfl rfl ?_
    refine g_bipush (dk_Mo_said 8 rfl) (by decide +kernel) (by decide) ?_
    refine g_putI fl_Mo_523 (Or.inl rfl) (dk_Mo_said 9 rfl) (c2.up hs4) ?_
    refine p_ltS (P := fun q => p_Go K l m_Mo_said 18 [(0, p_r v0), (1, p_i v1)] [] q _) (p_xZ _ _ _ _) ?_ h
    intro s5 hs6 h
    refine g_bipush (dk_Mo_said 10 rfl) (by decide +kernel) (by decide) ?_
    refine g_aload_n (i := 0) (j := 0) (dk_Mo_said 11 rfl) rfl rfl ?_
    refine g_getI fl_Mo_227 (Or.inl rfl) (dk_Mo_said 12 rfl) (c2.up (hs4.trans hs6)) ?_
    refine g_imul (dk_Mo_said 13 rfl) ?_
    refine g_istore_n (i := 2) [(2, p_i (p_w (12 * (p_Z s5 v0 0)))), (0, p_r v0), (1, p_i v1)] (dk_Mo_said 14 rfl) rfl (by decide) rfl ?_
    refine p_ltG (P := fun q => p_Go K l m_Mo_said 26 [(2, p_i q), (0, p_r v0), (1, p_i v1)] [] s5 _) ?_ h
    intro x7 h
    refine g_sub [(0, p_r v0), (2, p_i x7)] [1, 0] rfl ?_
    exact tO_Mo_said_26 K l 3000 v0 x7 s5 _ h
  · have h := p_ifF b1 h
    refine g_bipush (dk_Mo_said 2 rfl) (by decide +kernel) (by decide) ?_
    cases h
    exact g_ret rfl rfl (dk_Mo_said 3 rfl) (fun os => ⟨_, rfl, p_okh os⟩)
def m_Mo_unused : p_Me := (⟨"SortWorksModel", "unused", "(I)I"⟩, prog_13_method_108_code, 4, (some .int), 0, 0)
theorem mt_Mo_unused : p_Mt m_Mo_unused 1 := ⟨p_mem (p_tb9 (List.mem_of_getElem? (i := 11) rfl)) rfl, tw_1_12, by decide +kernel, by decide +kernel, by decide +kernel⟩
def dt_Mo_unused : List (Nat × Instr × Nat) := [(0, .iload_n 1, 1), (1, .istore_n 2, 1), (2, .iconst 0, 1), (3, .istore_n 3, 1), (4, .iload_n 3, 1), (5, .aload_n 0, 1), (6, .getfield 141, 3), (9, .aload_n 0, 1), (10, .getfield 227, 3), (13, .iaload, 1), (14, .if_icmp .ge 35, 3), (17, .aload_n 0, 1), (18, .getfield 150, 3), (21, .bipush 12, 2), (23, .aload_n 0, 1), (24, .getfield 227, 3), (27, .imul, 1), (28, .iload_n 3, 1), (29, .iadd, 1), (30, .iaload, 1), (31, .ifCond .ne 12, 3), (34, .iload_n 2, 1), (35, .ifCond .ne 5, 3), (38, .iload_n 3, 1), (39, .ireturn, 1), (40, .iinc 2 (-1), 3), (43, .iinc 3 1, 3), (46, .goto (-42), 3), (49, .bipush (-9), 2), (51, .ireturn, 1)]
theorem dk_Mo_unused (i : Nat) {pc : Nat} {ins : Instr} {len : Nat} (h : dt_Mo_unused[i]? = some (pc, ins, len)) : decode m_Mo_unused.2.1 pc = .ok (ins, len) := p_dk (b := m_Mo_unused.2.1) (t := dt_Mo_unused) (by decide +kernel) i h
def B_Mo_unused_43 (k4 : Nat → Int → Int → p_Hp → Option (Int × p_Hp)) (v0 : Nat) (v2 : Int) (v3 : Int) (s0 : p_Hp) : Option (Int × p_Hp) :=
  p_bi (p_w (v3 + 1)) fun x1 =>
  k4 v0 v2 x1 s0
def L_Mo_unused_4 (k4 : Nat → Int → Int → p_Hp → Option (Int × p_Hp)) (v0 : Nat) (v2 : Int) (v3 : Int) (s0 : p_Hp) : Option (Int × p_Hp) :=
  p_gd (p_is s0 v0 11) <|
  p_gd (p_is s0 (p_R s0 v0 48) 100) <|
  p_gd ((0 : Int) ≤ (p_Z s0 v0 0) ∧ (p_Z s0 v0 0) < (p_L s0 (p_R s0 v0 48) : Int)) <|
  if (p_Z s0 (p_R s0 v0 48) ((p_Z s0 v0 0) : Int).toNat) ≤ v3 then
    some ((-9), s0)
  else
    p_gd (p_is s0 (p_R s0 v0 51) 100) <|
    p_gd ((0 : Int) ≤ (p_w ((p_w (12 * (p_Z s0 v0 0))) + v3)) ∧ (p_w ((p_w (12 * (p_Z s0 v0 0))) + v3)) < (p_L s0 (p_R s0 v0 51) : Int)) <|
    if (p_Z s0 (p_R s0 v0 51) ((p_w ((p_w (12 * (p_Z s0 v0 0))) + v3)) : Int).toNat) ≠ 0 then
      B_Mo_unused_43 k4 v0 v2 v3 s0
    else
      if v2 ≠ 0 then
        p_bi (p_w (v2 + (-1))) fun x9 =>
        B_Mo_unused_43 k4 v0 x9 v3 s0
      else
        some (v3, s0)
def O_Mo_unused_4  : Nat → Nat → Int → Int → p_Hp → Option (Int × p_Hp)
  | 0 => fun _ _ _ _ => none
  | n + 1 => L_Mo_unused_4 (O_Mo_unused_4 n)
def F_Mo_unused (v0 : Nat) (v1 : Int) (s0 : p_Hp) : Option (Int × p_Hp) :=
  O_Mo_unused_4 3000 v0 v1 0 s0
set_option maxRecDepth 100000 in
set_option maxHeartbeats 4000000 in
theorem tB_Mo_unused_43 (K : p_K) (l : Launch) (k4 : Nat → Int → Int → p_Hp → Option (Int × p_Hp)) (hk4 : ∀ (v0 : Nat) (v2 : Int) (v3 : Int)  (s0 : p_Hp) (r : (Int × p_Hp)), k4 v0 v2 v3 s0 = some r → p_Go K l m_Mo_unused 4 [(0, p_r v0), (2, p_i v2), (3, p_i v3)] [] s0 (some (p_i r.1), r.2)) (v0 : Nat) (v2 : Int) (v3 : Int) (s0 : p_Hp) (r : (Int × p_Hp)) (h : B_Mo_unused_43 k4 v0 v2 v3 s0 = some r) : p_Go K l m_Mo_unused 43 [(0, p_r v0), (2, p_i v2), (3, p_i v3)] [] s0 (some (p_i r.1), r.2) := by
  unfold B_Mo_unused_43 at h
  refine g_iinc (j := 2) [(3, p_i (p_w (v3 + 1))), (0, p_r v0), (2, p_i v2)] (dk_Mo_unused 26 rfl) rfl (by decide) rfl ?_
  refine p_ltG (P := fun q => p_Go K l m_Mo_unused 46 [(3, p_i q), (0, p_r v0), (2, p_i v2)] [] s0 _) ?_ h
  intro x1 h
  refine g_goto 4 (dk_Mo_unused 27 rfl) (by decide) ?_
  refine g_sub [(0, p_r v0), (2, p_i v2), (3, p_i x1)] [1, 2, 0] rfl ?_
  exact hk4 v0 v2 x1 s0 _ h
set_option maxRecDepth 100000 in
set_option maxHeartbeats 4000000 in
theorem tL_Mo_unused_4 (K : p_K) (l : Launch) (k4 : Nat → Int → Int → p_Hp → Option (Int × p_Hp)) (hk4 : ∀ (v0 : Nat) (v2 : Int) (v3 : Int)  (s0 : p_Hp) (r : (Int × p_Hp)), k4 v0 v2 v3 s0 = some r → p_Go K l m_Mo_unused 4 [(0, p_r v0), (2, p_i v2), (3, p_i v3)] [] s0 (some (p_i r.1), r.2)) (v0 : Nat) (v2 : Int) (v3 : Int) (s0 : p_Hp) (r : (Int × p_Hp)) (h : L_Mo_unused_4 k4 v0 v2 v3 s0 = some r) : p_Go K l m_Mo_unused 4 [(0, p_r v0), (2, p_i v2), (3, p_i v3)] [] s0 (some (p_i r.1), r.2) := by
  unfold L_Mo_unused_4 at h
  refine g_iload_n (i := 3) (j := 2) (dk_Mo_unused 4 rfl) rfl rfl ?_
  refine g_aload_n (i := 0) (j := 0) (dk_Mo_unused 5 rfl) rfl rfl ?_
  obtain ⟨c1, h⟩ := p_gdE h
  refine g_getR fl_Mo_141 (Or.inr ⟨_, rfl⟩) (dk_Mo_unused 6 rfl) c1 ?_
  refine g_aload_n (i := 0) (j := 0) (dk_Mo_unused 7 rfl) rfl rfl ?_
  refine g_getI fl_Mo_227 (Or.inl rfl) (dk_Mo_unused 8 rfl) c1 ?_
  obtain ⟨c2, h⟩ := p_gdE h
  obtain ⟨c3, h⟩ := p_gdE h
  refine g_iaload (dk_Mo_unused 9 rfl) c2 c3.1 c3.2 ?_
  refine g_icmp_ge 49 (dk_Mo_unused 10 rfl) (by decide) (fun b4 => ?_) (fun b4 => ?_)
  · have h := p_ifT b4 h
    refine g_bipush (dk_Mo_unused 28 rfl) (by decide +kernel) (by decide) ?_
    cases h
    exact g_ret rfl rfl (dk_Mo_unused 29 rfl) (fun os => ⟨_, rfl, p_okh os⟩)
  · have h := p_ifF b4 h
    refine g_aload_n (i := 0) (j := 0) (dk_Mo_unused 11 rfl) rfl rfl ?_
    refine g_getR fl_Mo_150 (Or.inr ⟨_, rfl⟩) (dk_Mo_unused 12 rfl) c1 ?_
    refine g_bipush (dk_Mo_unused 13 rfl) (by decide +kernel) (by decide) ?_
    refine g_aload_n (i := 0) (j := 0) (dk_Mo_unused 14 rfl) rfl rfl ?_
    refine g_getI fl_Mo_227 (Or.inl rfl) (dk_Mo_unused 15 rfl) c1 ?_
    refine g_imul (dk_Mo_unused 16 rfl) ?_
    refine g_iload_n (i := 3) (j := 2) (dk_Mo_unused 17 rfl) rfl rfl ?_
    refine g_iadd (dk_Mo_unused 18 rfl) ?_
    obtain ⟨c5, h⟩ := p_gdE h
    obtain ⟨c6, h⟩ := p_gdE h
    refine g_iaload (dk_Mo_unused 19 rfl) c5 c6.1 c6.2 ?_
    refine g_if_ne 43 (dk_Mo_unused 20 rfl) (by decide) (fun b7 => ?_) (fun b7 => ?_)
    · have h := p_ifT b7 h
      exact tB_Mo_unused_43 K l k4 hk4 v0 v2 v3 s0 _ h
    · have h := p_ifF b7 h
      refine g_iload_n (i := 2) (j := 1) (dk_Mo_unused 21 rfl) rfl rfl ?_
      refine g_if_ne 40 (dk_Mo_unused 22 rfl) (by decide) (fun b8 => ?_) (fun b8 => ?_)
      · have h := p_ifT b8 h
        refine g_iinc (j := 1) [(2, p_i (p_w (v2 + (-1)))), (0, p_r v0), (3, p_i v3)] (dk_Mo_unused 25 rfl) rfl (by decide) rfl ?_
        refine p_ltG (P := fun q => p_Go K l m_Mo_unused 43 [(2, p_i q), (0, p_r v0), (3, p_i v3)] [] s0 _) ?_ h
        intro x9 h
        refine g_sub [(0, p_r v0), (2, p_i x9), (3, p_i v3)] [1, 0, 2] rfl ?_
        exact tB_Mo_unused_43 K l k4 hk4 v0 x9 v3 s0 _ h
      · have h := p_ifF b8 h
        refine g_iload_n (i := 3) (j := 2) (dk_Mo_unused 23 rfl) rfl rfl ?_
        cases h
        exact g_ret rfl rfl (dk_Mo_unused 24 rfl) (fun os => ⟨_, rfl, p_okh os⟩)
set_option maxRecDepth 100000 in
set_option maxHeartbeats 4000000 in
theorem tO_Mo_unused_4 (K : p_K) (l : Launch)  : ∀ (n : Nat) (v0 : Nat) (v2 : Int) (v3 : Int) (s0 : p_Hp) (r : (Int × p_Hp)), O_Mo_unused_4 n v0 v2 v3 s0 = some r → p_Go K l m_Mo_unused 4 [(0, p_r v0), (2, p_i v2), (3, p_i v3)] [] s0 (some (p_i r.1), r.2) := by
  intro n
  induction n with
  | zero => intro v0 v2 v3 s0 r h; cases (show (none : Option (Int × p_Hp)) = some r from h)
  | succ n ih => intro v0 v2 v3 s0 r h; exact tL_Mo_unused_4 K l _ ih v0 v2 v3 s0 r h
set_option maxRecDepth 100000 in
set_option maxHeartbeats 4000000 in
theorem tF_Mo_unused (K : p_K) (l : Launch) (v0 : Nat) (v1 : Int) (s0 : p_Hp) (r : (Int × p_Hp)) (h : F_Mo_unused v0 v1 s0 = some r) : p_Ct K l m_Mo_unused [p_r v0, p_i v1] s0 (some (p_i r.1), r.2) := by
  refine p_Ct.of (by decide +kernel) (Nat.le_of_ble_eq_true rfl) ?_
  unfold F_Mo_unused at h
  show p_Go K l m_Mo_unused 0 [(0, p_r v0), (1, p_i v1)] [] s0 _
  refine g_iload_n (i := 1) (j := 1) (dk_Mo_unused 0 rfl) rfl rfl ?_
  refine g_istore_n (i := 2) [(2, p_i v1), (0, p_r v0), (1, p_i v1)] (dk_Mo_unused 1 rfl) rfl (by decide) rfl ?_
  refine g_iconst (dk_Mo_unused 2 rfl) (by decide) ?_
  refine g_istore_n (i := 3) [(3, p_i 0), (2, p_i v1), (0, p_r v0), (1, p_i v1)] (dk_Mo_unused 3 rfl) rfl (by decide) rfl ?_
  refine g_sub [(0, p_r v0), (2, p_i v1), (3, p_i 0)] [2, 1, 0] rfl ?_
  exact tO_Mo_unused_4 K l 3000 v0 v1 0 s0 _ h
def m_Mo_finding : p_Me := (⟨"SortWorksModel", "finding", "(II)I"⟩, prog_13_method_109_code, 3, (some .int), 1, 25)
theorem mt_Mo_finding : p_Mt m_Mo_finding 2 := ⟨p_mem (p_tb9 (List.mem_of_getElem? (i := 15) rfl)) rfl, tw_1_12, by decide +kernel, by decide +kernel, by decide +kernel⟩
def dt_Mo_finding : List (Nat × Instr × Nat) := [(0, .iload_n 1, 1), (1, .ifCond .lt 34, 3), (4, .iload_n 1, 1), (5, .bipush 40, 2), (7, .if_icmp .ge 28, 3), (10, .iload_n 1, 1), (11, .aload_n 0, 1), (12, .getfield 126, 3), (15, .aload_n 0, 1), (16, .getfield 227, 3), (19, .iaload, 1), (20, .if_icmp .ge 15, 3), (23, .iload_n 2, 1), (24, .i2l, 1), (25, .lconst 0, 1), (26, .ldc2_w 330, 3), (29, .invokestatic 230, 3), (32, .ifCond .eq 6, 3), (35, .bipush (-9), 2), (37, .ireturn, 1), (38, .aload_n 0, 1), (39, .getfield 129, 3), (42, .iconst 5, 1), (43, .bipush 40, 2), (45, .aload_n 0, 1), (46, .getfield 227, 3), (49, .imul, 1), (50, .aload_n 0, 1), (51, .getfield 126, 3), (54, .aload_n 0, 1), (55, .getfield 227, 3), (58, .iaload, 1), (59, .iconst 1, 1), (60, .isub, 1), (61, .iload_n 1, 1), (62, .isub, 1), (63, .bipush 40, 2), (65, .irem, 1), (66, .iadd, 1), (67, .imul, 1), (68, .iload_n 2, 1), (69, .iadd, 1), (70, .iaload, 1), (71, .ireturn, 1)]
theorem dk_Mo_finding (i : Nat) {pc : Nat} {ins : Instr} {len : Nat} (h : dt_Mo_finding[i]? = some (pc, ins, len)) : decode m_Mo_finding.2.1 pc = .ok (ins, len) := p_dk (b := m_Mo_finding.2.1) (t := dt_Mo_finding) (by decide +kernel) i h
def F_Mo_finding (v0 : Nat) (v1 : Int) (v2 : Int) (s0 : p_Hp) : Option (Int × p_Hp) :=
  if v1 < 0 then
    some ((-9), s0)
  else
    if 40 ≤ v1 then
      some ((-9), s0)
    else
      p_gd (p_is s0 v0 11) <|
      p_gd (p_is s0 (p_R s0 v0 42) 100) <|
      p_gd ((0 : Int) ≤ (p_Z s0 v0 0) ∧ (p_Z s0 v0 0) < (p_L s0 (p_R s0 v0 42) : Int)) <|
      if (p_Z s0 (p_R s0 v0 42) ((p_Z s0 v0 0) : Int).toNat) ≤ v1 then
        some ((-9), s0)
      else
        p_bd (F_Mo_beyond v2 0 4 s0) fun r11 s7 =>
        if r11 = 0 then
          p_gd (p_is s7 (p_R s7 v0 42) 100) <|
          p_gd ((0 : Int) ≤ (p_Z s7 v0 0) ∧ (p_Z s7 v0 0) < (p_L s7 (p_R s7 v0 42) : Int)) <|
          p_gd (p_is s7 (p_R s7 v0 43) 100) <|
          p_gd ((0 : Int) ≤ (p_w ((p_w (5 * (p_w ((p_w (40 * (p_Z s7 v0 0))) + (p_rem (p_w ((p_w ((p_Z s7 (p_R s7 v0 42) ((p_Z s7 v0 0) : Int).toNat) - 1)) - v1)) 40))))) + v2)) ∧ (p_w ((p_w (5 * (p_w ((p_w (40 * (p_Z s7 v0 0))) + (p_rem (p_w ((p_w ((p_Z s7 (p_R s7 v0 42) ((p_Z s7 v0 0) : Int).toNat) - 1)) - v1)) 40))))) + v2)) < (p_L s7 (p_R s7 v0 43) : Int)) <|
          some ((p_Z s7 (p_R s7 v0 43) ((p_w ((p_w (5 * (p_w ((p_w (40 * (p_Z s7 v0 0))) + (p_rem (p_w ((p_w ((p_Z s7 (p_R s7 v0 42) ((p_Z s7 v0 0) : Int).toNat) - 1)) - v1)) 40))))) + v2)) : Int).toNat), s7)
        else
          some ((-9), s7)
set_option maxRecDepth 100000 in
set_option maxHeartbeats 4000000 in
theorem tF_Mo_finding (K : p_K) (l : Launch) (v0 : Nat) (v1 : Int) (v2 : Int) (s0 : p_Hp) (r : (Int × p_Hp)) (h : F_Mo_finding v0 v1 v2 s0 = some r) : p_Ct K l m_Mo_finding [p_r v0, p_i v1, p_i v2] s0 (some (p_i r.1), r.2) := by
  refine p_Ct.of (by decide +kernel) (Nat.le_of_ble_eq_true rfl) ?_
  unfold F_Mo_finding at h
  show p_Go K l m_Mo_finding 0 [(0, p_r v0), (1, p_i v1), (2, p_i v2)] [] s0 _
  refine g_iload_n (i := 1) (j := 1) (dk_Mo_finding 0 rfl) rfl rfl ?_
  refine g_if_lt 35 (dk_Mo_finding 1 rfl) (by decide) (fun b1 => ?_) (fun b1 => ?_)
  · have h := p_ifT b1 h
    refine g_bipush (dk_Mo_finding 18 rfl) (by decide +kernel) (by decide) ?_
    cases h
    exact g_ret rfl rfl (dk_Mo_finding 19 rfl) (fun os => ⟨_, rfl, p_okh os⟩)
  · have h := p_ifF b1 h
    refine g_iload_n (i := 1) (j := 1) (dk_Mo_finding 2 rfl) rfl rfl ?_
    refine g_bipush (dk_Mo_finding 3 rfl) (by decide +kernel) (by decide) ?_
    refine g_icmp_ge 35 (dk_Mo_finding 4 rfl) (by decide) (fun b2 => ?_) (fun b2 => ?_)
    · have h := p_ifT b2 h
      refine g_bipush (dk_Mo_finding 18 rfl) (by decide +kernel) (by decide) ?_
      cases h
      exact g_ret rfl rfl (dk_Mo_finding 19 rfl) (fun os => ⟨_, rfl, p_okh os⟩)
    · have h := p_ifF b2 h
      refine g_iload_n (i := 1) (j := 1) (dk_Mo_finding 5 rfl) rfl rfl ?_
      refine g_aload_n (i := 0) (j := 0) (dk_Mo_finding 6 rfl) rfl rfl ?_
      obtain ⟨c3, h⟩ := p_gdE h
      refine g_getR fl_Mo_126 (Or.inr ⟨_, rfl⟩) (dk_Mo_finding 7 rfl) c3 ?_
      refine g_aload_n (i := 0) (j := 0) (dk_Mo_finding 8 rfl) rfl rfl ?_
      refine g_getI fl_Mo_227 (Or.inl rfl) (dk_Mo_finding 9 rfl) c3 ?_
      obtain ⟨c4, h⟩ := p_gdE h
      obtain ⟨c5, h⟩ := p_gdE h
      refine g_iaload (dk_Mo_finding 10 rfl) c4 c5.1 c5.2 ?_
      refine g_icmp_ge 35 (dk_Mo_finding 11 rfl) (by decide) (fun b6 => ?_) (fun b6 => ?_)
      · have h := p_ifT b6 h
        refine g_bipush (dk_Mo_finding 18 rfl) (by decide +kernel) (by decide) ?_
        cases h
        exact g_ret rfl rfl (dk_Mo_finding 19 rfl) (fun os => ⟨_, rfl, p_okh os⟩)
      · have h := p_ifF b6 h
        refine g_iload_n (i := 2) (j := 2) (dk_Mo_finding 12 rfl) rfl rfl ?_
        refine g_i2l (dk_Mo_finding 13 rfl) ?_
        refine g_lconst (x := 0) (dk_Mo_finding 14 rfl) rfl (by decide) ?_
        refine g_ldc2_w (x := 4) (dk_Mo_finding 15 rfl) tw_7_191 (by decide) (by decide) ?_
        obtain ⟨r11, s7, q8, h⟩ := p_bdE h
        have t9 := tF_Mo_beyond K l v2 0 4 s0 _ q8
        refine g_callS (av := [p_j v2, p_j 0, p_j 4]) (rest := []) [p_i r11] mt_Mo_beyond tw_7_63 tw_7_62 ⟨Nat.le_of_ble_eq_true rfl, Nat.le_of_ble_eq_true rfl⟩ rfl (Nat.le_of_ble_eq_true rfl) (dk_Mo_finding 16 rfl) rfl rfl t9 ?_
        have hs10 : p_x s0 s7 := t9.1
        show p_Go K l m_Mo_finding 32 [(0, p_r v0), (1, p_i v1), (2, p_i v2)] [p_i r11] s7 _
        refine g_if_eq 38 (dk_Mo_finding 17 rfl) (by decide) (fun b12 => ?_) (fun b12 => ?_)
        · have h := p_ifT b12 h
          refine g_aload_n (i := 0) (j := 0) (dk_Mo_finding 20 rfl) rfl rfl ?_
          refine g_getR fl_Mo_129 (Or.inr ⟨_, rfl⟩) (dk_Mo_finding 21 rfl) (c3.up hs10) ?_
          refine g_iconst (dk_Mo_finding 22 rfl) (by decide) ?_
          refine g_bipush (dk_Mo_finding 23 rfl) (by decide +kernel) (by decide) ?_
          refine g_aload_n (i := 0) (j := 0) (dk_Mo_finding 24 rfl) rfl rfl ?_
          refine g_getI fl_Mo_227 (Or.inl rfl) (dk_Mo_finding 25 rfl) (c3.up hs10) ?_
          refine g_imul (dk_Mo_finding 26 rfl) ?_
          refine g_aload_n (i := 0) (j := 0) (dk_Mo_finding 27 rfl) rfl rfl ?_
          refine g_getR fl_Mo_126 (Or.inr ⟨_, rfl⟩) (dk_Mo_finding 28 rfl) (c3.up hs10) ?_
          refine g_aload_n (i := 0) (j := 0) (dk_Mo_finding 29 rfl) rfl rfl ?_
          refine g_getI fl_Mo_227 (Or.inl rfl) (dk_Mo_finding 30 rfl) (c3.up hs10) ?_
          obtain ⟨c13, h⟩ := p_gdE h
          obtain ⟨c14, h⟩ := p_gdE h
          refine g_iaload (dk_Mo_finding 31 rfl) c13 c14.1 c14.2 ?_
          refine g_iconst (dk_Mo_finding 32 rfl) (by decide) ?_
          refine g_isub (dk_Mo_finding 33 rfl) ?_
          refine g_iload_n (i := 1) (j := 1) (dk_Mo_finding 34 rfl) rfl rfl ?_
          refine g_isub (dk_Mo_finding 35 rfl) ?_
          refine g_bipush (dk_Mo_finding 36 rfl) (by decide +kernel) (by decide) ?_
          refine g_irem (dk_Mo_finding 37 rfl) (by decide) ?_
          refine g_iadd (dk_Mo_finding 38 rfl) ?_
          refine g_imul (dk_Mo_finding 39 rfl) ?_
          refine g_iload_n (i := 2) (j := 2) (dk_Mo_finding 40 rfl) rfl rfl ?_
          refine g_iadd (dk_Mo_finding 41 rfl) ?_
          obtain ⟨c15, h⟩ := p_gdE h
          obtain ⟨c16, h⟩ := p_gdE h
          refine g_iaload (dk_Mo_finding 42 rfl) c15 c16.1 c16.2 ?_
          cases h
          exact g_ret rfl rfl (dk_Mo_finding 43 rfl) (fun os => ⟨_, rfl, p_okh os⟩)
        · have h := p_ifF b12 h
          refine g_bipush (dk_Mo_finding 18 rfl) (by decide +kernel) (by decide) ?_
          cases h
          exact g_ret rfl rfl (dk_Mo_finding 19 rfl) (fun os => ⟨_, rfl, p_okh os⟩)
def m_Mo_trace : p_Me := (⟨"SortWorksModel", "trace", "(I)I"⟩, prog_13_method_110_code, 2, (some .int), 0, 0)
theorem mt_Mo_trace : p_Mt m_Mo_trace 1 := ⟨p_mem (p_tb9 (List.mem_of_getElem? (i := 19) rfl)) rfl, tw_1_12, by decide +kernel, by decide +kernel, by decide +kernel⟩
def dt_Mo_trace : List (Nat × Instr × Nat) := [(0, .iload_n 1, 1), (1, .ifCond .lt 22, 3), (4, .iload_n 1, 1), (5, .bipush 60, 2), (7, .if_icmp .ge 16, 3), (10, .iload_n 1, 1), (11, .aload_n 0, 1), (12, .getfield 132, 3), (15, .aload_n 0, 1), (16, .getfield 227, 3), (19, .iaload, 1), (20, .if_icmp .lt 8, 3), (23, .bipush (-9), 2), (25, .goto 17, 3), (28, .aload_n 0, 1), (29, .getfield 135, 3), (32, .bipush 60, 2), (34, .aload_n 0, 1), (35, .getfield 227, 3), (38, .imul, 1), (39, .iload_n 1, 1), (40, .iadd, 1), (41, .iaload, 1), (42, .ireturn, 1)]
theorem dk_Mo_trace (i : Nat) {pc : Nat} {ins : Instr} {len : Nat} (h : dt_Mo_trace[i]? = some (pc, ins, len)) : decode m_Mo_trace.2.1 pc = .ok (ins, len) := p_dk (b := m_Mo_trace.2.1) (t := dt_Mo_trace) (by decide +kernel) i h
def B_Mo_trace_23   (s0 : p_Hp) : Option (Int × p_Hp) :=
  some ((-9), s0)
def F_Mo_trace (v0 : Nat) (v1 : Int) (s0 : p_Hp) : Option (Int × p_Hp) :=
  if v1 < 0 then
    B_Mo_trace_23 s0
  else
    if 60 ≤ v1 then
      B_Mo_trace_23 s0
    else
      p_gd (p_is s0 v0 11) <|
      p_gd (p_is s0 (p_R s0 v0 44) 100) <|
      p_gd ((0 : Int) ≤ (p_Z s0 v0 0) ∧ (p_Z s0 v0 0) < (p_L s0 (p_R s0 v0 44) : Int)) <|
      if v1 < (p_Z s0 (p_R s0 v0 44) ((p_Z s0 v0 0) : Int).toNat) then
        p_gd (p_is s0 (p_R s0 v0 45) 100) <|
        p_gd ((0 : Int) ≤ (p_w ((p_w (60 * (p_Z s0 v0 0))) + v1)) ∧ (p_w ((p_w (60 * (p_Z s0 v0 0))) + v1)) < (p_L s0 (p_R s0 v0 45) : Int)) <|
        some ((p_Z s0 (p_R s0 v0 45) ((p_w ((p_w (60 * (p_Z s0 v0 0))) + v1)) : Int).toNat), s0)
      else
        B_Mo_trace_23 s0
set_option maxRecDepth 100000 in
set_option maxHeartbeats 4000000 in
theorem tB_Mo_trace_23 (K : p_K) (l : Launch)   (s0 : p_Hp) (r : (Int × p_Hp)) (h : B_Mo_trace_23  s0 = some r) : p_Go K l m_Mo_trace 23 [] [] s0 (some (p_i r.1), r.2) := by
  unfold B_Mo_trace_23 at h
  refine g_bipush (dk_Mo_trace 12 rfl) (by decide +kernel) (by decide) ?_
  refine g_goto 42 (dk_Mo_trace 13 rfl) (by decide) ?_
  cases h
  exact g_ret rfl rfl (dk_Mo_trace 23 rfl) (fun os => ⟨_, rfl, p_okh os⟩)
set_option maxRecDepth 100000 in
set_option maxHeartbeats 4000000 in
theorem tF_Mo_trace (K : p_K) (l : Launch) (v0 : Nat) (v1 : Int) (s0 : p_Hp) (r : (Int × p_Hp)) (h : F_Mo_trace v0 v1 s0 = some r) : p_Ct K l m_Mo_trace [p_r v0, p_i v1] s0 (some (p_i r.1), r.2) := by
  refine p_Ct.of (by decide +kernel) (Nat.le_of_ble_eq_true rfl) ?_
  unfold F_Mo_trace at h
  show p_Go K l m_Mo_trace 0 [(0, p_r v0), (1, p_i v1)] [] s0 _
  refine g_iload_n (i := 1) (j := 1) (dk_Mo_trace 0 rfl) rfl rfl ?_
  refine g_if_lt 23 (dk_Mo_trace 1 rfl) (by decide) (fun b1 => ?_) (fun b1 => ?_)
  · have h := p_ifT b1 h
    refine g_sub [] [] rfl ?_
    exact tB_Mo_trace_23 K l s0 _ h
  · have h := p_ifF b1 h
    refine g_iload_n (i := 1) (j := 1) (dk_Mo_trace 2 rfl) rfl rfl ?_
    refine g_bipush (dk_Mo_trace 3 rfl) (by decide +kernel) (by decide) ?_
    refine g_icmp_ge 23 (dk_Mo_trace 4 rfl) (by decide) (fun b2 => ?_) (fun b2 => ?_)
    · have h := p_ifT b2 h
      refine g_sub [] [] rfl ?_
      exact tB_Mo_trace_23 K l s0 _ h
    · have h := p_ifF b2 h
      refine g_iload_n (i := 1) (j := 1) (dk_Mo_trace 5 rfl) rfl rfl ?_
      refine g_aload_n (i := 0) (j := 0) (dk_Mo_trace 6 rfl) rfl rfl ?_
      obtain ⟨c3, h⟩ := p_gdE h
      refine g_getR fl_Mo_132 (Or.inr ⟨_, rfl⟩) (dk_Mo_trace 7 rfl) c3 ?_
      refine g_aload_n (i := 0) (j := 0) (dk_Mo_trace 8 rfl) rfl rfl ?_
      refine g_getI fl_Mo_227 (Or.inl rfl) (dk_Mo_trace 9 rfl) c3 ?_
      obtain ⟨c4, h⟩ := p_gdE h
      obtain ⟨c5, h⟩ := p_gdE h
      refine g_iaload (dk_Mo_trace 10 rfl) c4 c5.1 c5.2 ?_
      refine g_icmp_lt 28 (dk_Mo_trace 11 rfl) (by decide) (fun b6 => ?_) (fun b6 => ?_)
      · have h := p_ifT b6 h
        refine g_aload_n (i := 0) (j := 0) (dk_Mo_trace 14 rfl) rfl rfl ?_
        refine g_getR fl_Mo_135 (Or.inr ⟨_, rfl⟩) (dk_Mo_trace 15 rfl) c3 ?_
        refine g_bipush (dk_Mo_trace 16 rfl) (by decide +kernel) (by decide) ?_
        refine g_aload_n (i := 0) (j := 0) (dk_Mo_trace 17 rfl) rfl rfl ?_
        refine g_getI fl_Mo_227 (Or.inl rfl) (dk_Mo_trace 18 rfl) c3 ?_
        refine g_imul (dk_Mo_trace 19 rfl) ?_
        refine g_iload_n (i := 1) (j := 1) (dk_Mo_trace 20 rfl) rfl rfl ?_
        refine g_iadd (dk_Mo_trace 21 rfl) ?_
        obtain ⟨c7, h⟩ := p_gdE h
        obtain ⟨c8, h⟩ := p_gdE h
        refine g_iaload (dk_Mo_trace 22 rfl) c7 c8.1 c8.2 ?_
        cases h
        exact g_ret rfl rfl (dk_Mo_trace 23 rfl) (fun os => ⟨_, rfl, p_okh os⟩)
      · have h := p_ifF b6 h
        refine g_sub [] [] rfl ?_
        exact tB_Mo_trace_23 K l s0 _ h
def m_Mo_jam : p_Me := (⟨"SortWorksModel", "jam", "(I)I"⟩, prog_13_method_111_code, 4, (some .int), 2, 41)
theorem mt_Mo_jam : p_Mt m_Mo_jam 1 := ⟨p_mem (p_tb9 (List.mem_of_getElem? (i := 23) rfl)) rfl, tw_1_12, by decide +kernel, by decide +kernel, by decide +kernel⟩
def dt_Mo_jam : List (Nat × Instr × Nat) := [(0, .iload_n 1, 1), (1, .istore_n 2, 1), (2, .iconst 0, 1), (3, .istore_n 3, 1), (4, .iload_n 3, 1), (5, .aload_n 0, 1), (6, .getfield 7, 3), (9, .aload_n 0, 1), (10, .getfield 227, 3), (13, .iaload, 1), (14, .if_icmp .ge 30, 3), (17, .aload_n 0, 1), (18, .aload_n 0, 1), (19, .iload_n 3, 1), (20, .invokevirtual 257, 3), (23, .invokevirtual 366, 3), (26, .ifCond .eq 12, 3), (29, .iload_n 2, 1), (30, .ifCond .ne 5, 3), (33, .iload_n 3, 1), (34, .ireturn, 1), (35, .iinc 2 (-1), 3), (38, .iinc 3 1, 3), (41, .goto (-37), 3), (44, .bipush (-9), 2), (46, .ireturn, 1)]
theorem dk_Mo_jam (i : Nat) {pc : Nat} {ins : Instr} {len : Nat} (h : dt_Mo_jam[i]? = some (pc, ins, len)) : decode m_Mo_jam.2.1 pc = .ok (ins, len) := p_dk (b := m_Mo_jam.2.1) (t := dt_Mo_jam) (by decide +kernel) i h
def B_Mo_jam_38 (k4 : Nat → Int → Int → p_Hp → Option (Int × p_Hp)) (v0 : Nat) (v2 : Int) (v3 : Int) (s0 : p_Hp) : Option (Int × p_Hp) :=
  p_bi (p_w (v3 + 1)) fun x1 =>
  k4 v0 v2 x1 s0
def L_Mo_jam_4 (k4 : Nat → Int → Int → p_Hp → Option (Int × p_Hp)) (v0 : Nat) (v2 : Int) (v3 : Int) (s0 : p_Hp) : Option (Int × p_Hp) :=
  p_gd (p_is s0 v0 11) <|
  p_gd (p_is s0 (p_R s0 v0 3) 100) <|
  p_gd ((0 : Int) ≤ (p_Z s0 v0 0) ∧ (p_Z s0 v0 0) < (p_L s0 (p_R s0 v0 3) : Int)) <|
  if (p_Z s0 (p_R s0 v0 3) ((p_Z s0 v0 0) : Int).toNat) ≤ v3 then
    some ((-9), s0)
  else
    p_bd (F_Mo_g v0 v3 s0) fun r9 s5 =>
    p_bd (F_Mo_isJammed v0 r9 s5) fun r14 s10 =>
    if r14 = 0 then
      B_Mo_jam_38 k4 v0 v2 v3 s10
    else
      if v2 ≠ 0 then
        p_bi (p_w (v2 + (-1))) fun x17 =>
        B_Mo_jam_38 k4 v0 x17 v3 s10
      else
        some (v3, s10)
def O_Mo_jam_4  : Nat → Nat → Int → Int → p_Hp → Option (Int × p_Hp)
  | 0 => fun _ _ _ _ => none
  | n + 1 => L_Mo_jam_4 (O_Mo_jam_4 n)
def F_Mo_jam (v0 : Nat) (v1 : Int) (s0 : p_Hp) : Option (Int × p_Hp) :=
  O_Mo_jam_4 3000 v0 v1 0 s0
set_option maxRecDepth 100000 in
set_option maxHeartbeats 4000000 in
theorem tB_Mo_jam_38 (K : p_K) (l : Launch) (k4 : Nat → Int → Int → p_Hp → Option (Int × p_Hp)) (hk4 : ∀ (v0 : Nat) (v2 : Int) (v3 : Int)  (s0 : p_Hp) (r : (Int × p_Hp)), k4 v0 v2 v3 s0 = some r → p_Go K l m_Mo_jam 4 [(0, p_r v0), (2, p_i v2), (3, p_i v3)] [] s0 (some (p_i r.1), r.2)) (v0 : Nat) (v2 : Int) (v3 : Int) (s0 : p_Hp) (r : (Int × p_Hp)) (h : B_Mo_jam_38 k4 v0 v2 v3 s0 = some r) : p_Go K l m_Mo_jam 38 [(0, p_r v0), (2, p_i v2), (3, p_i v3)] [] s0 (some (p_i r.1), r.2) := by
  unfold B_Mo_jam_38 at h
  refine g_iinc (j := 2) [(3, p_i (p_w (v3 + 1))), (0, p_r v0), (2, p_i v2)] (dk_Mo_jam 22 rfl) rfl (by decide) rfl ?_
  refine p_ltG (P := fun q => p_Go K l m_Mo_jam 41 [(3, p_i q), (0, p_r v0), (2, p_i v2)] [] s0 _) ?_ h
  intro x1 h
  refine g_goto 4 (dk_Mo_jam 23 rfl) (by decide) ?_
  refine g_sub [(0, p_r v0), (2, p_i v2), (3, p_i x1)] [1, 2, 0] rfl ?_
  exact hk4 v0 v2 x1 s0 _ h
set_option maxRecDepth 100000 in
set_option maxHeartbeats 4000000 in
theorem tL_Mo_jam_4 (K : p_K) (l : Launch) (k4 : Nat → Int → Int → p_Hp → Option (Int × p_Hp)) (hk4 : ∀ (v0 : Nat) (v2 : Int) (v3 : Int)  (s0 : p_Hp) (r : (Int × p_Hp)), k4 v0 v2 v3 s0 = some r → p_Go K l m_Mo_jam 4 [(0, p_r v0), (2, p_i v2), (3, p_i v3)] [] s0 (some (p_i r.1), r.2)) (v0 : Nat) (v2 : Int) (v3 : Int) (s0 : p_Hp) (r : (Int × p_Hp)) (h : L_Mo_jam_4 k4 v0 v2 v3 s0 = some r) : p_Go K l m_Mo_jam 4 [(0, p_r v0), (2, p_i v2), (3, p_i v3)] [] s0 (some (p_i r.1), r.2) := by
  unfold L_Mo_jam_4 at h
  refine g_iload_n (i := 3) (j := 2) (dk_Mo_jam 4 rfl) rfl rfl ?_
  refine g_aload_n (i := 0) (j := 0) (dk_Mo_jam 5 rfl) rfl rfl ?_
  obtain ⟨c1, h⟩ := p_gdE h
  refine g_getR fl_Mo_7 (Or.inr ⟨_, rfl⟩) (dk_Mo_jam 6 rfl) c1 ?_
  refine g_aload_n (i := 0) (j := 0) (dk_Mo_jam 7 rfl) rfl rfl ?_
  refine g_getI fl_Mo_227 (Or.inl rfl) (dk_Mo_jam 8 rfl) c1 ?_
  obtain ⟨c2, h⟩ := p_gdE h
  obtain ⟨c3, h⟩ := p_gdE h
  refine g_iaload (dk_Mo_jam 9 rfl) c2 c3.1 c3.2 ?_
  refine g_icmp_ge 44 (dk_Mo_jam 10 rfl) (by decide) (fun b4 => ?_) (fun b4 => ?_)
  · have h := p_ifT b4 h
    refine g_bipush (dk_Mo_jam 24 rfl) (by decide +kernel) (by decide) ?_
    cases h
    exact g_ret rfl rfl (dk_Mo_jam 25 rfl) (fun os => ⟨_, rfl, p_okh os⟩)
  · have h := p_ifF b4 h
    refine g_aload_n (i := 0) (j := 0) (dk_Mo_jam 11 rfl) rfl rfl ?_
    refine g_aload_n (i := 0) (j := 0) (dk_Mo_jam 12 rfl) rfl rfl ?_
    refine g_iload_n (i := 3) (j := 2) (dk_Mo_jam 13 rfl) rfl rfl ?_
    obtain ⟨r9, s5, q6, h⟩ := p_bdE h
    have t7 := tF_Mo_g K l v0 v3 s0 _ q6
    refine g_callV (a := v0) (ci := 11) (q0 := (RX11, TX11, 90)) (As := [p_i v3]) (rest := [p_r v0]) [p_i r9, p_r v0] mt_Mo_g rfl rfl tw_7_84 ts_45 tw_7_82 ⟨Nat.le_of_ble_eq_true rfl, Nat.le_of_ble_eq_true rfl⟩ rfl (Nat.le_of_ble_eq_true rfl) (dk_Mo_jam 14 rfl) rfl c1 rfl t7 ?_
    have hs8 : p_x s0 s5 := t7.1
    show p_Go K l m_Mo_jam 23 [(0, p_r v0), (2, p_i v2), (3, p_i v3)] [p_i r9, p_r v0] s5 _
    obtain ⟨r14, s10, q11, h⟩ := p_bdE h
    have t12 := tF_Mo_isJammed K l v0 r9 s5 _ q11
    refine g_callV (a := v0) (ci := 11) (q0 := (RX11, TX11, 90)) (As := [p_i r9]) (rest := []) [p_i r14] mt_Mo_isJammed rfl rfl tw_8_17 ts_65 tw_8_15 ⟨Nat.le_of_ble_eq_true rfl, Nat.le_of_ble_eq_true rfl⟩ rfl (Nat.le_of_ble_eq_true rfl) (dk_Mo_jam 15 rfl) rfl (c1.up hs8) rfl t12 ?_
    have hs13 : p_x s5 s10 := t12.1
    show p_Go K l m_Mo_jam 26 [(0, p_r v0), (2, p_i v2), (3, p_i v3)] [p_i r14] s10 _
    refine g_if_eq 38 (dk_Mo_jam 16 rfl) (by decide) (fun b15 => ?_) (fun b15 => ?_)
    · have h := p_ifT b15 h
      exact tB_Mo_jam_38 K l k4 hk4 v0 v2 v3 s10 _ h
    · have h := p_ifF b15 h
      refine g_iload_n (i := 2) (j := 1) (dk_Mo_jam 17 rfl) rfl rfl ?_
      refine g_if_ne 35 (dk_Mo_jam 18 rfl) (by decide) (fun b16 => ?_) (fun b16 => ?_)
      · have h := p_ifT b16 h
        refine g_iinc (j := 1) [(2, p_i (p_w (v2 + (-1)))), (0, p_r v0), (3, p_i v3)] (dk_Mo_jam 21 rfl) rfl (by decide) rfl ?_
        refine p_ltG (P := fun q => p_Go K l m_Mo_jam 38 [(2, p_i q), (0, p_r v0), (3, p_i v3)] [] s10 _) ?_ h
        intro x17 h
        refine g_sub [(0, p_r v0), (2, p_i x17), (3, p_i v3)] [1, 0, 2] rfl ?_
        exact tB_Mo_jam_38 K l k4 hk4 v0 x17 v3 s10 _ h
      · have h := p_ifF b16 h
        refine g_iload_n (i := 3) (j := 2) (dk_Mo_jam 19 rfl) rfl rfl ?_
        cases h
        exact g_ret rfl rfl (dk_Mo_jam 20 rfl) (fun os => ⟨_, rfl, p_okh os⟩)
set_option maxRecDepth 100000 in
set_option maxHeartbeats 4000000 in
theorem tO_Mo_jam_4 (K : p_K) (l : Launch)  : ∀ (n : Nat) (v0 : Nat) (v2 : Int) (v3 : Int) (s0 : p_Hp) (r : (Int × p_Hp)), O_Mo_jam_4 n v0 v2 v3 s0 = some r → p_Go K l m_Mo_jam 4 [(0, p_r v0), (2, p_i v2), (3, p_i v3)] [] s0 (some (p_i r.1), r.2) := by
  intro n
  induction n with
  | zero => intro v0 v2 v3 s0 r h; cases (show (none : Option (Int × p_Hp)) = some r from h)
  | succ n ih => intro v0 v2 v3 s0 r h; exact tL_Mo_jam_4 K l _ ih v0 v2 v3 s0 r h
set_option maxRecDepth 100000 in
set_option maxHeartbeats 4000000 in
theorem tF_Mo_jam (K : p_K) (l : Launch) (v0 : Nat) (v1 : Int) (s0 : p_Hp) (r : (Int × p_Hp)) (h : F_Mo_jam v0 v1 s0 = some r) : p_Ct K l m_Mo_jam [p_r v0, p_i v1] s0 (some (p_i r.1), r.2) := by
  refine p_Ct.of (by decide +kernel) (Nat.le_of_ble_eq_true rfl) ?_
  unfold F_Mo_jam at h
  show p_Go K l m_Mo_jam 0 [(0, p_r v0), (1, p_i v1)] [] s0 _
  refine g_iload_n (i := 1) (j := 1) (dk_Mo_jam 0 rfl) rfl rfl ?_
  refine g_istore_n (i := 2) [(2, p_i v1), (0, p_r v0), (1, p_i v1)] (dk_Mo_jam 1 rfl) rfl (by decide) rfl ?_
  refine g_iconst (dk_Mo_jam 2 rfl) (by decide) ?_
  refine g_istore_n (i := 3) [(3, p_i 0), (2, p_i v1), (0, p_r v0), (1, p_i v1)] (dk_Mo_jam 3 rfl) rfl (by decide) rfl ?_
  refine g_sub [(0, p_r v0), (2, p_i v1), (3, p_i 0)] [2, 1, 0] rfl ?_
  exact tO_Mo_jam_4 K l 3000 v0 v1 0 s0 _ h
def m_Mo_ahead : p_Me := (⟨"SortWorksModel", "ahead", "(II)V"⟩, prog_13_method_112_code, 7, none, 3, 69)
theorem mt_Mo_ahead : p_Mt m_Mo_ahead 2 := ⟨p_mem (p_tb9 (List.mem_of_getElem? (i := 35) rfl)) rfl, tw_1_12, by decide +kernel, by decide +kernel, by decide +kernel⟩
def dt_Mo_ahead : List (Nat × Instr × Nat) := [(0, .aload_n 0, 1), (1, .iload_n 1, 1), (2, .invokevirtual 257, 3), (5, .istore_n 3, 1), (6, .aload_n 0, 1), (7, .getfield 16, 3), (10, .iload_n 3, 1), (11, .iaload, 1), (12, .invokestatic 252, 3), (15, .ifCond .eq 14, 3), (18, .aload_n 0, 1), (19, .getfield 16, 3), (22, .iload_n 3, 1), (23, .iaload, 1), (24, .bipush 7, 2), (26, .if_icmp .ne 7, 3), (29, .iconst 0, 1), (30, .goto 28, 3), (33, .aload_n 0, 1), (34, .getfield 16, 3), (37, .iload_n 3, 1), (38, .iaload, 1), (39, .invokestatic 234, 3), (42, .ifCond .eq 15, 3), (45, .aload_n 0, 1), (46, .getfield 16, 3), (49, .iload_n 3, 1), (50, .iaload, 1), (51, .invokestatic 277, 3), (54, .goto 4, 3), (57, .iconst 1, 1), (58, .istore 4, 2), (60, .iconst 0, 1), (61, .istore 5, 2), (63, .iload 5, 2), (65, .iload 4, 2), (67, .if_icmp .ge 97, 3), (70, .aload_n 0, 1), (71, .iload_n 1, 1), (72, .iload 5, 2), (74, .invokevirtual 388, 3), (77, .ifCond .ne 81, 3), (80, .aload_n 0, 1), (81, .getfield 16, 3), (84, .aload_n 0, 1), (85, .aload_n 0, 1), (86, .getfield 385, 3), (89, .invokevirtual 257, 3), (92, .iaload, 1), (93, .invokestatic 252, 3), (96, .ifCond .eq 62, 3), (99, .iload_n 2, 1), (100, .aload_n 0, 1), (101, .getfield 19, 3), (104, .iload_n 3, 1), (105, .iaload, 1), (106, .iadd, 1), (107, .istore 6, 2), (109, .aload_n 0, 1), (110, .getfield 217, 3), (113, .aload_n 0, 1), (114, .getfield 385, 3), (117, .aload_n 0, 1), (118, .getfield 217, 3), (121, .aload_n 0, 1), (122, .getfield 385, 3), (125, .iaload, 1), (126, .ifCond .lt 17, 3), (129, .iload 6, 2), (131, .aload_n 0, 1), (132, .getfield 217, 3), (135, .aload_n 0, 1), (136, .getfield 385, 3), (139, .iaload, 1), (140, .if_icmp .ge 8, 3), (143, .iload 6, 2), (145, .goto 12, 3), (148, .aload_n 0, 1), (149, .getfield 217, 3), (152, .aload_n 0, 1), (153, .getfield 385, 3), (156, .iaload, 1), (157, .iastore, 1), (158, .iinc 5 1, 3), (161, .goto (-98), 3), (164, .return_, 1)]
theorem dk_Mo_ahead (i : Nat) {pc : Nat} {ins : Instr} {len : Nat} (h : dt_Mo_ahead[i]? = some (pc, ins, len)) : decode m_Mo_ahead.2.1 pc = .ok (ins, len) := p_dk (b := m_Mo_ahead.2.1) (t := dt_Mo_ahead) (by decide +kernel) i h
def B_Mo_ahead_158 (k63 : Nat → Int → Int → Int → Int → Int → p_Hp → Option p_Hp) (v0 : Nat) (v1 : Int) (v2 : Int) (v3 : Int) (v4 : Int) (v5 : Int) (s0 : p_Hp) : Option p_Hp :=
  p_bi (p_w (v5 + 1)) fun x1 =>
  k63 v0 v1 v2 v3 v4 x1 s0
def B_Mo_ahead_157 (k63 : Nat → Int → Int → Int → Int → Int → p_Hp → Option p_Hp) (v0 : Nat) (v1 : Int) (v2 : Int) (v3 : Int) (v4 : Int) (v5 : Int) (w0 : Int) (w1 : Int) (w2 : Nat) (s0 : p_Hp) : Option p_Hp :=
  p_gd (p_is s0 w2 100) <|
  p_gd ((0 : Int) ≤ w1 ∧ w1 < (p_L s0 w2 : Int)) <|
  p_bi (p_wZ s0 w2 (w1 : Int).toNat w0) fun s3 =>
  B_Mo_ahead_158 k63 v0 v1 v2 v3 v4 v5 s3
def B_Mo_ahead_143 (k63 : Nat → Int → Int → Int → Int → Int → p_Hp → Option p_Hp) (v0 : Nat) (v1 : Int) (v2 : Int) (v3 : Int) (v4 : Int) (v5 : Int) (v6 : Int) (w0 : Int) (w1 : Nat) (s0 : p_Hp) : Option p_Hp :=
  B_Mo_ahead_157 k63 v0 v1 v2 v3 v4 v5 v6 w0 w1 s0
def L_Mo_ahead_63 (k63 : Nat → Int → Int → Int → Int → Int → p_Hp → Option p_Hp) (v0 : Nat) (v1 : Int) (v2 : Int) (v3 : Int) (v4 : Int) (v5 : Int) (s0 : p_Hp) : Option p_Hp :=
  if v4 ≤ v5 then
    some s0
  else
    p_gd (p_is s0 v0 11) <|
    p_bd (F_Mo_follow v0 v1 v5 s0) fun r7 s3 =>
    if r7 ≠ 0 then
      B_Mo_ahead_158 k63 v0 v1 v2 v3 v4 v5 s3
    else
      p_bd (F_Mo_g v0 (p_Z s3 v0 73) s3) fun r13 s9 =>
      p_gd (p_is s9 (p_R s3 v0 5) 100) <|
      p_gd ((0 : Int) ≤ r13 ∧ r13 < (p_L s9 (p_R s3 v0 5) : Int)) <|
      p_bd (F_Mo_isTaker (p_Z s9 (p_R s3 v0 5) (r13 : Int).toNat) s9) fun r20 s16 =>
      if r20 = 0 then
        B_Mo_ahead_158 k63 v0 v1 v2 v3 v4 v5 s16
      else
        p_gd (p_is s16 (p_R s16 v0 6) 100) <|
        p_gd ((0 : Int) ≤ v3 ∧ v3 < (p_L s16 (p_R s16 v0 6) : Int)) <|
        p_bi ((p_w (v2 + (p_Z s16 (p_R s16 v0 6) (v3 : Int).toNat)))) fun x24 =>
        p_gd (p_is s16 (p_R s16 v0 88) 100) <|
        p_gd ((0 : Int) ≤ (p_Z s16 v0 73) ∧ (p_Z s16 v0 73) < (p_L s16 (p_R s16 v0 88) : Int)) <|
        if (p_Z s16 (p_R s16 v0 88) ((p_Z s16 v0 73) : Int).toNat) < 0 then
          B_Mo_ahead_143 k63 v0 v1 v2 v3 v4 v5 x24 (p_Z s16 v0 73) (p_R s16 v0 88) s16
        else
          p_gd ((0 : Int) ≤ (p_Z s16 v0 73) ∧ (p_Z s16 v0 73) < (p_L s16 (p_R s16 v0 88) : Int)) <|
          if (p_Z s16 (p_R s16 v0 88) ((p_Z s16 v0 73) : Int).toNat) ≤ x24 then
            p_gd ((0 : Int) ≤ (p_Z s16 v0 73) ∧ (p_Z s16 v0 73) < (p_L s16 (p_R s16 v0 88) : Int)) <|
            B_Mo_ahead_157 k63 v0 v1 v2 v3 v4 v5 (p_Z s16 (p_R s16 v0 88) ((p_Z s16 v0 73) : Int).toNat) (p_Z s16 v0 73) (p_R s16 v0 88) s16
          else
            B_Mo_ahead_143 k63 v0 v1 v2 v3 v4 v5 x24 (p_Z s16 v0 73) (p_R s16 v0 88) s16
def O_Mo_ahead_63  : Nat → Nat → Int → Int → Int → Int → Int → p_Hp → Option p_Hp
  | 0 => fun _ _ _ _ _ _ _ => none
  | n + 1 => L_Mo_ahead_63 (O_Mo_ahead_63 n)
def B_Mo_ahead_58  (v0 : Nat) (v1 : Int) (v2 : Int) (v3 : Int) (w0 : Int) (s0 : p_Hp) : Option p_Hp :=
  O_Mo_ahead_63 3000 v0 v1 v2 v3 w0 0 s0
def B_Mo_ahead_29  (v0 : Nat) (v1 : Int) (v2 : Int) (v3 : Int) (s0 : p_Hp) : Option p_Hp :=
  B_Mo_ahead_58 v0 v1 v2 v3 0 s0
def F_Mo_ahead (v0 : Nat) (v1 : Int) (v2 : Int) (s0 : p_Hp) : Option p_Hp :=
  p_gd (p_is s0 v0 11) <|
  p_bd (F_Mo_g v0 v1 s0) fun r6 s2 =>
  p_gd (p_is s2 (p_R s2 v0 5) 100) <|
  p_gd ((0 : Int) ≤ r6 ∧ r6 < (p_L s2 (p_R s2 v0 5) : Int)) <|
  p_bd (F_Mo_isTaker (p_Z s2 (p_R s2 v0 5) (r6 : Int).toNat) s2) fun r13 s9 =>
  if r13 = 0 then
    B_Mo_ahead_29 v0 v1 v2 r6 s9
  else
    p_gd (p_is s9 (p_R s9 v0 5) 100) <|
    p_gd ((0 : Int) ≤ r6 ∧ r6 < (p_L s9 (p_R s9 v0 5) : Int)) <|
    if (p_Z s9 (p_R s9 v0 5) (r6 : Int).toNat) ≠ 7 then
      p_gd ((0 : Int) ≤ r6 ∧ r6 < (p_L s9 (p_R s9 v0 5) : Int)) <|
      p_bd (F_Mo_isDivert (p_Z s9 (p_R s9 v0 5) (r6 : Int).toNat) s9) fun r23 s19 =>
      if r23 = 0 then
        B_Mo_ahead_58 v0 v1 v2 r6 1 s19
      else
        p_gd (p_is s19 (p_R s19 v0 5) 100) <|
        p_gd ((0 : Int) ≤ r6 ∧ r6 < (p_L s19 (p_R s19 v0 5) : Int)) <|
        p_bd (F_Mo_sidesOf (p_Z s19 (p_R s19 v0 5) (r6 : Int).toNat) s19) fun r31 s27 =>
        B_Mo_ahead_58 v0 v1 v2 r6 r31 s27
    else
      B_Mo_ahead_29 v0 v1 v2 r6 s9
set_option maxRecDepth 100000 in
set_option maxHeartbeats 4000000 in
theorem tB_Mo_ahead_158 (K : p_K) (l : Launch) (k63 : Nat → Int → Int → Int → Int → Int → p_Hp → Option p_Hp) (hk63 : ∀ (v0 : Nat) (v1 : Int) (v2 : Int) (v3 : Int) (v4 : Int) (v5 : Int)  (s0 : p_Hp) (r : p_Hp), k63 v0 v1 v2 v3 v4 v5 s0 = some r → p_Go K l m_Mo_ahead 63 [(0, p_r v0), (1, p_i v1), (2, p_i v2), (3, p_i v3), (4, p_i v4), (5, p_i v5)] [] s0 (none, r)) (v0 : Nat) (v1 : Int) (v2 : Int) (v3 : Int) (v4 : Int) (v5 : Int) (s0 : p_Hp) (r : p_Hp) (h : B_Mo_ahead_158 k63 v0 v1 v2 v3 v4 v5 s0 = some r) : p_Go K l m_Mo_ahead 158 [(0, p_r v0), (1, p_i v1), (2, p_i v2), (3, p_i v3), (4, p_i v4), (5, p_i v5)] [] s0 (none, r) := by
  unfold B_Mo_ahead_158 at h
  refine g_iinc (j := 5) [(5, p_i (p_w (v5 + 1))), (0, p_r v0), (1, p_i v1), (2, p_i v2), (3, p_i v3), (4, p_i v4)] (dk_Mo_ahead 83 rfl) rfl (by decide) rfl ?_
  refine p_ltG (P := fun q => p_Go K l m_Mo_ahead 161 [(5, p_i q), (0, p_r v0), (1, p_i v1), (2, p_i v2), (3, p_i v3), (4, p_i v4)] [] s0 _) ?_ h
  intro x1 h
  refine g_goto 63 (dk_Mo_ahead 84 rfl) (by decide) ?_
  refine g_sub [(0, p_r v0), (1, p_i v1), (2, p_i v2), (3, p_i v3), (4, p_i v4), (5, p_i x1)] [1, 2, 3, 4, 5, 0] rfl ?_
  exact hk63 v0 v1 v2 v3 v4 x1 s0 _ h
set_option maxRecDepth 100000 in
set_option maxHeartbeats 4000000 in
theorem tB_Mo_ahead_157 (K : p_K) (l : Launch) (k63 : Nat → Int → Int → Int → Int → Int → p_Hp → Option p_Hp) (hk63 : ∀ (v0 : Nat) (v1 : Int) (v2 : Int) (v3 : Int) (v4 : Int) (v5 : Int)  (s0 : p_Hp) (r : p_Hp), k63 v0 v1 v2 v3 v4 v5 s0 = some r → p_Go K l m_Mo_ahead 63 [(0, p_r v0), (1, p_i v1), (2, p_i v2), (3, p_i v3), (4, p_i v4), (5, p_i v5)] [] s0 (none, r)) (v0 : Nat) (v1 : Int) (v2 : Int) (v3 : Int) (v4 : Int) (v5 : Int) (w0 : Int) (w1 : Int) (w2 : Nat) (s0 : p_Hp) (r : p_Hp) (h : B_Mo_ahead_157 k63 v0 v1 v2 v3 v4 v5 w0 w1 w2 s0 = some r) : p_Go K l m_Mo_ahead 157 [(0, p_r v0), (1, p_i v1), (2, p_i v2), (3, p_i v3), (4, p_i v4), (5, p_i v5)] [p_i w0, p_i w1, p_r w2] s0 (none, r) := by
  unfold B_Mo_ahead_157 at h
  obtain ⟨c1, h⟩ := p_gdE h
  obtain ⟨c2, h⟩ := p_gdE h
  refine g_iastore (dk_Mo_ahead 82 rfl) c1 c2.1 c2.2 ?_
  refine p_ltS (P := fun q => p_Go K l m_Mo_ahead 158 [(0, p_r v0), (1, p_i v1), (2, p_i v2), (3, p_i v3), (4, p_i v4), (5, p_i v5)] [] q _) (p_xZ _ _ _ _) ?_ h
  intro s3 hs4 h
  exact tB_Mo_ahead_158 K l k63 hk63 v0 v1 v2 v3 v4 v5 s3 _ h
set_option maxRecDepth 100000 in
set_option maxHeartbeats 4000000 in
theorem tB_Mo_ahead_143 (K : p_K) (l : Launch) (k63 : Nat → Int → Int → Int → Int → Int → p_Hp → Option p_Hp) (hk63 : ∀ (v0 : Nat) (v1 : Int) (v2 : Int) (v3 : Int) (v4 : Int) (v5 : Int)  (s0 : p_Hp) (r : p_Hp), k63 v0 v1 v2 v3 v4 v5 s0 = some r → p_Go K l m_Mo_ahead 63 [(0, p_r v0), (1, p_i v1), (2, p_i v2), (3, p_i v3), (4, p_i v4), (5, p_i v5)] [] s0 (none, r)) (v0 : Nat) (v1 : Int) (v2 : Int) (v3 : Int) (v4 : Int) (v5 : Int) (v6 : Int) (w0 : Int) (w1 : Nat) (s0 : p_Hp) (r : p_Hp) (h : B_Mo_ahead_143 k63 v0 v1 v2 v3 v4 v5 v6 w0 w1 s0 = some r) : p_Go K l m_Mo_ahead 143 [(0, p_r v0), (1, p_i v1), (2, p_i v2), (3, p_i v3), (4, p_i v4), (5, p_i v5), (6, p_i v6)] [p_i w0, p_r w1] s0 (none, r) := by
  unfold B_Mo_ahead_143 at h
  refine g_iload (j := 6) (dk_Mo_ahead 75 rfl) rfl ?_
  refine g_goto 157 (dk_Mo_ahead 76 rfl) (by decide) ?_
  refine g_sub [(0, p_r v0), (1, p_i v1), (2, p_i v2), (3, p_i v3), (4, p_i v4), (5, p_i v5)] [0, 1, 2, 3, 4, 5] rfl ?_
  exact tB_Mo_ahead_157 K l k63 hk63 v0 v1 v2 v3 v4 v5 v6 w0 w1 s0 _ h
set_option maxRecDepth 100000 in
set_option maxHeartbeats 4000000 in
theorem tL_Mo_ahead_63 (K : p_K) (l : Launch) (k63 : Nat → Int → Int → Int → Int → Int → p_Hp → Option p_Hp) (hk63 : ∀ (v0 : Nat) (v1 : Int) (v2 : Int) (v3 : Int) (v4 : Int) (v5 : Int)  (s0 : p_Hp) (r : p_Hp), k63 v0 v1 v2 v3 v4 v5 s0 = some r → p_Go K l m_Mo_ahead 63 [(0, p_r v0), (1, p_i v1), (2, p_i v2), (3, p_i v3), (4, p_i v4), (5, p_i v5)] [] s0 (none, r)) (v0 : Nat) (v1 : Int) (v2 : Int) (v3 : Int) (v4 : Int) (v5 : Int) (s0 : p_Hp) (r : p_Hp) (h : L_Mo_ahead_63 k63 v0 v1 v2 v3 v4 v5 s0 = some r) : p_Go K l m_Mo_ahead 63 [(0, p_r v0), (1, p_i v1), (2, p_i v2), (3, p_i v3), (4, p_i v4), (5, p_i v5)] [] s0 (none, r) := by
  unfold L_Mo_ahead_63 at h
  refine g_iload (j := 5) (dk_Mo_ahead 34 rfl) rfl ?_
  refine g_iload (j := 4) (dk_Mo_ahead 35 rfl) rfl ?_
  refine g_icmp_ge 164 (dk_Mo_ahead 36 rfl) (by decide) (fun b1 => ?_) (fun b1 => ?_)
  · have h := p_ifT b1 h
    cases h
    exact g_ret rfl rfl (dk_Mo_ahead 85 rfl) (fun _ => rfl)
  · have h := p_ifF b1 h
    refine g_aload_n (i := 0) (j := 0) (dk_Mo_ahead 37 rfl) rfl rfl ?_
    refine g_iload_n (i := 1) (j := 1) (dk_Mo_ahead 38 rfl) rfl rfl ?_
    refine g_iload (j := 5) (dk_Mo_ahead 39 rfl) rfl ?_
    obtain ⟨c2, h⟩ := p_gdE h
    obtain ⟨r7, s3, q4, h⟩ := p_bdE h
    have t5 := tF_Mo_follow K l v0 v1 v5 s0 _ q4
    refine g_callV (a := v0) (ci := 11) (q0 := (RX11, TX11, 90)) (As := [p_i v1, p_i v5]) (rest := []) [p_i r7] mt_Mo_follow rfl rfl tw_8_112 ts_82 tw_8_110 ⟨Nat.le_of_ble_eq_true rfl, Nat.le_of_ble_eq_true rfl⟩ rfl (Nat.le_of_ble_eq_true rfl) (dk_Mo_ahead 40 rfl) rfl c2 rfl t5 ?_
    have hs6 : p_x s0 s3 := t5.1
    show p_Go K l m_Mo_ahead 77 [(0, p_r v0), (1, p_i v1), (2, p_i v2), (3, p_i v3), (4, p_i v4), (5, p_i v5)] [p_i r7] s3 _
    refine g_if_ne 158 (dk_Mo_ahead 41 rfl) (by decide) (fun b8 => ?_) (fun b8 => ?_)
    · have h := p_ifT b8 h
      exact tB_Mo_ahead_158 K l k63 hk63 v0 v1 v2 v3 v4 v5 s3 _ h
    · have h := p_ifF b8 h
      refine g_aload_n (i := 0) (j := 0) (dk_Mo_ahead 42 rfl) rfl rfl ?_
      refine g_getR fl_Mo_16 (Or.inr ⟨_, rfl⟩) (dk_Mo_ahead 43 rfl) (c2.up hs6) ?_
      refine g_aload_n (i := 0) (j := 0) (dk_Mo_ahead 44 rfl) rfl rfl ?_
      refine g_aload_n (i := 0) (j := 0) (dk_Mo_ahead 45 rfl) rfl rfl ?_
      refine g_getI fl_Mo_385 (Or.inl rfl) (dk_Mo_ahead 46 rfl) (c2.up hs6) ?_
      obtain ⟨r13, s9, q10, h⟩ := p_bdE h
      have t11 := tF_Mo_g K l v0 (p_Z s3 v0 73) s3 _ q10
      refine g_callV (a := v0) (ci := 11) (q0 := (RX11, TX11, 90)) (As := [p_i (p_Z s3 v0 73)]) (rest := [p_r (p_R s3 v0 5)]) [p_i r13, p_r (p_R s3 v0 5)] mt_Mo_g rfl rfl tw_7_84 ts_45 tw_7_82 ⟨Nat.le_of_ble_eq_true rfl, Nat.le_of_ble_eq_true rfl⟩ rfl (Nat.le_of_ble_eq_true rfl) (dk_Mo_ahead 47 rfl) rfl (c2.up hs6) rfl t11 ?_
      have hs12 : p_x s3 s9 := t11.1
      show p_Go K l m_Mo_ahead 92 [(0, p_r v0), (1, p_i v1), (2, p_i v2), (3, p_i v3), (4, p_i v4), (5, p_i v5)] [p_i r13, p_r (p_R s3 v0 5)] s9 _
      obtain ⟨c14, h⟩ := p_gdE h
      obtain ⟨c15, h⟩ := p_gdE h
      refine g_iaload (dk_Mo_ahead 48 rfl) c14 c15.1 c15.2 ?_
      obtain ⟨r20, s16, q17, h⟩ := p_bdE h
      have t18 := tF_Mo_isTaker K l (p_Z s9 (p_R s3 v0 5) (r13 : Int).toNat) s9 _ q17
      refine g_callS (av := [p_i (p_Z s9 (p_R s3 v0 5) (r13 : Int).toNat)]) (rest := []) [p_i r20] mt_Mo_isTaker tw_7_79 tw_7_78 ⟨Nat.le_of_ble_eq_true rfl, Nat.le_of_ble_eq_true rfl⟩ rfl (Nat.le_of_ble_eq_true rfl) (dk_Mo_ahead 49 rfl) rfl rfl t18 ?_
      have hs19 : p_x s9 s16 := t18.1
      show p_Go K l m_Mo_ahead 96 [(0, p_r v0), (1, p_i v1), (2, p_i v2), (3, p_i v3), (4, p_i v4), (5, p_i v5)] [p_i r20] s16 _
      refine g_if_eq 158 (dk_Mo_ahead 50 rfl) (by decide) (fun b21 => ?_) (fun b21 => ?_)
      · have h := p_ifT b21 h
        exact tB_Mo_ahead_158 K l k63 hk63 v0 v1 v2 v3 v4 v5 s16 _ h
      · have h := p_ifF b21 h
        refine g_iload_n (i := 2) (j := 2) (dk_Mo_ahead 51 rfl) rfl rfl ?_
        refine g_aload_n (i := 0) (j := 0) (dk_Mo_ahead 52 rfl) rfl rfl ?_
        refine g_getR fl_Mo_19 (Or.inr ⟨_, rfl⟩) (dk_Mo_ahead 53 rfl) (c2.up (hs6.trans (hs12.trans hs19))) ?_
        refine g_iload_n (i := 3) (j := 3) (dk_Mo_ahead 54 rfl) rfl rfl ?_
        obtain ⟨c22, h⟩ := p_gdE h
        obtain ⟨c23, h⟩ := p_gdE h
        refine g_iaload (dk_Mo_ahead 55 rfl) c22 c23.1 c23.2 ?_
        refine g_iadd (dk_Mo_ahead 56 rfl) ?_
        refine g_istore [(6, p_i (p_w (v2 + (p_Z s16 (p_R s16 v0 6) (v3 : Int).toNat)))), (0, p_r v0), (1, p_i v1), (2, p_i v2), (3, p_i v3), (4, p_i v4), (5, p_i v5)] (dk_Mo_ahead 57 rfl) (by decide) rfl ?_
        refine p_ltG (P := fun q => p_Go K l m_Mo_ahead 109 [(6, p_i q), (0, p_r v0), (1, p_i v1), (2, p_i v2), (3, p_i v3), (4, p_i v4), (5, p_i v5)] [] s16 _) ?_ h
        intro x24 h
        refine g_aload_n (i := 0) (j := 1) (dk_Mo_ahead 58 rfl) rfl rfl ?_
        refine g_getR fl_Mo_217 (Or.inr ⟨_, rfl⟩) (dk_Mo_ahead 59 rfl) (c2.up (hs6.trans (hs12.trans hs19))) ?_
        refine g_aload_n (i := 0) (j := 1) (dk_Mo_ahead 60 rfl) rfl rfl ?_
        refine g_getI fl_Mo_385 (Or.inl rfl) (dk_Mo_ahead 61 rfl) (c2.up (hs6.trans (hs12.trans hs19))) ?_
        refine g_aload_n (i := 0) (j := 1) (dk_Mo_ahead 62 rfl) rfl rfl ?_
        refine g_getR fl_Mo_217 (Or.inr ⟨_, rfl⟩) (dk_Mo_ahead 63 rfl) (c2.up (hs6.trans (hs12.trans hs19))) ?_
        refine g_aload_n (i := 0) (j := 1) (dk_Mo_ahead 64 rfl) rfl rfl ?_
        refine g_getI fl_Mo_385 (Or.inl rfl) (dk_Mo_ahead 65 rfl) (c2.up (hs6.trans (hs12.trans hs19))) ?_
        obtain ⟨c25, h⟩ := p_gdE h
        obtain ⟨c26, h⟩ := p_gdE h
        refine g_iaload (dk_Mo_ahead 66 rfl) c25 c26.1 c26.2 ?_
        refine g_if_lt 143 (dk_Mo_ahead 67 rfl) (by decide) (fun b27 => ?_) (fun b27 => ?_)
        · have h := p_ifT b27 h
          refine g_sub [(0, p_r v0), (1, p_i v1), (2, p_i v2), (3, p_i v3), (4, p_i v4), (5, p_i v5), (6, p_i x24)] [1, 2, 3, 4, 5, 6, 0] rfl ?_
          exact tB_Mo_ahead_143 K l k63 hk63 v0 v1 v2 v3 v4 v5 x24 (p_Z s16 v0 73) (p_R s16 v0 88) s16 _ h
        · have h := p_ifF b27 h
          refine g_iload (j := 0) (dk_Mo_ahead 68 rfl) rfl ?_
          refine g_aload_n (i := 0) (j := 1) (dk_Mo_ahead 69 rfl) rfl rfl ?_
          refine g_getR fl_Mo_217 (Or.inr ⟨_, rfl⟩) (dk_Mo_ahead 70 rfl) (c2.up (hs6.trans (hs12.trans hs19))) ?_
          refine g_aload_n (i := 0) (j := 1) (dk_Mo_ahead 71 rfl) rfl rfl ?_
          refine g_getI fl_Mo_385 (Or.inl rfl) (dk_Mo_ahead 72 rfl) (c2.up (hs6.trans (hs12.trans hs19))) ?_
          obtain ⟨c28, h⟩ := p_gdE h
          refine g_iaload (dk_Mo_ahead 73 rfl) c25 c28.1 c28.2 ?_
          refine g_icmp_ge 148 (dk_Mo_ahead 74 rfl) (by decide) (fun b29 => ?_) (fun b29 => ?_)
          · have h := p_ifT b29 h
            refine g_aload_n (i := 0) (j := 1) (dk_Mo_ahead 77 rfl) rfl rfl ?_
            refine g_getR fl_Mo_217 (Or.inr ⟨_, rfl⟩) (dk_Mo_ahead 78 rfl) (c2.up (hs6.trans (hs12.trans hs19))) ?_
            refine g_aload_n (i := 0) (j := 1) (dk_Mo_ahead 79 rfl) rfl rfl ?_
            refine g_getI fl_Mo_385 (Or.inl rfl) (dk_Mo_ahead 80 rfl) (c2.up (hs6.trans (hs12.trans hs19))) ?_
            obtain ⟨c30, h⟩ := p_gdE h
            refine g_iaload (dk_Mo_ahead 81 rfl) c25 c30.1 c30.2 ?_
            refine g_sub [(0, p_r v0), (1, p_i v1), (2, p_i v2), (3, p_i v3), (4, p_i v4), (5, p_i v5)] [1, 2, 3, 4, 5, 6] rfl ?_
            exact tB_Mo_ahead_157 K l k63 hk63 v0 v1 v2 v3 v4 v5 (p_Z s16 (p_R s16 v0 88) ((p_Z s16 v0 73) : Int).toNat) (p_Z s16 v0 73) (p_R s16 v0 88) s16 _ h
          · have h := p_ifF b29 h
            refine g_sub [(0, p_r v0), (1, p_i v1), (2, p_i v2), (3, p_i v3), (4, p_i v4), (5, p_i v5), (6, p_i x24)] [1, 2, 3, 4, 5, 6, 0] rfl ?_
            exact tB_Mo_ahead_143 K l k63 hk63 v0 v1 v2 v3 v4 v5 x24 (p_Z s16 v0 73) (p_R s16 v0 88) s16 _ h
set_option maxRecDepth 100000 in
set_option maxHeartbeats 4000000 in
theorem tO_Mo_ahead_63 (K : p_K) (l : Launch)  : ∀ (n : Nat) (v0 : Nat) (v1 : Int) (v2 : Int) (v3 : Int) (v4 : Int) (v5 : Int) (s0 : p_Hp) (r : p_Hp), O_Mo_ahead_63 n v0 v1 v2 v3 v4 v5 s0 = some r → p_Go K l m_Mo_ahead 63 [(0, p_r v0), (1, p_i v1), (2, p_i v2), (3, p_i v3), (4, p_i v4), (5, p_i v5)] [] s0 (none, r) := by
  intro n
  induction n with
  | zero => intro v0 v1 v2 v3 v4 v5 s0 r h; cases (show (none : Option p_Hp) = some r from h)
  | succ n ih => intro v0 v1 v2 v3 v4 v5 s0 r h; exact tL_Mo_ahead_63 K l _ ih v0 v1 v2 v3 v4 v5 s0 r h
set_option maxRecDepth 100000 in
set_option maxHeartbeats 4000000 in
theorem tB_Mo_ahead_58 (K : p_K) (l : Launch)  (v0 : Nat) (v1 : Int) (v2 : Int) (v3 : Int) (w0 : Int) (s0 : p_Hp) (r : p_Hp) (h : B_Mo_ahead_58 v0 v1 v2 v3 w0 s0 = some r) : p_Go K l m_Mo_ahead 58 [(0, p_r v0), (1, p_i v1), (2, p_i v2), (3, p_i v3)] [p_i w0] s0 (none, r) := by
  unfold B_Mo_ahead_58 at h
  refine g_istore [(4, p_i w0), (0, p_r v0), (1, p_i v1), (2, p_i v2), (3, p_i v3)] (dk_Mo_ahead 31 rfl) (by decide) rfl ?_
  refine g_iconst (dk_Mo_ahead 32 rfl) (by decide) ?_
  refine g_istore [(5, p_i 0), (4, p_i w0), (0, p_r v0), (1, p_i v1), (2, p_i v2), (3, p_i v3)] (dk_Mo_ahead 33 rfl) (by decide) rfl ?_
  refine g_sub [(0, p_r v0), (1, p_i v1), (2, p_i v2), (3, p_i v3), (4, p_i w0), (5, p_i 0)] [2, 3, 4, 5, 1, 0] rfl ?_
  exact tO_Mo_ahead_63 K l 3000 v0 v1 v2 v3 w0 0 s0 _ h
set_option maxRecDepth 100000 in
set_option maxHeartbeats 4000000 in
theorem tB_Mo_ahead_29 (K : p_K) (l : Launch)  (v0 : Nat) (v1 : Int) (v2 : Int) (v3 : Int) (s0 : p_Hp) (r : p_Hp) (h : B_Mo_ahead_29 v0 v1 v2 v3 s0 = some r) : p_Go K l m_Mo_ahead 29 [(0, p_r v0), (1, p_i v1), (2, p_i v2), (3, p_i v3)] [] s0 (none, r) := by
  unfold B_Mo_ahead_29 at h
  refine g_iconst (dk_Mo_ahead 16 rfl) (by decide) ?_
  refine g_goto 58 (dk_Mo_ahead 17 rfl) (by decide) ?_
  exact tB_Mo_ahead_58 K l v0 v1 v2 v3 0 s0 _ h
set_option maxRecDepth 100000 in
set_option maxHeartbeats 4000000 in
theorem tF_Mo_ahead (K : p_K) (l : Launch) (v0 : Nat) (v1 : Int) (v2 : Int) (s0 : p_Hp) (r : p_Hp) (h : F_Mo_ahead v0 v1 v2 s0 = some r) : p_Ct K l m_Mo_ahead [p_r v0, p_i v1, p_i v2] s0 (none, r) := by
  refine p_Ct.of (by decide +kernel) (Nat.le_of_ble_eq_true rfl) ?_
  unfold F_Mo_ahead at h
  show p_Go K l m_Mo_ahead 0 [(0, p_r v0), (1, p_i v1), (2, p_i v2)] [] s0 _
  refine g_aload_n (i := 0) (j := 0) (dk_Mo_ahead 0 rfl) rfl rfl ?_
  refine g_iload_n (i := 1) (j := 1) (dk_Mo_ahead 1 rfl) rfl rfl ?_
  obtain ⟨c1, h⟩ := p_gdE h
  obtain ⟨r6, s2, q3, h⟩ := p_bdE h
  have t4 := tF_Mo_g K l v0 v1 s0 _ q3
  refine g_callV (a := v0) (ci := 11) (q0 := (RX11, TX11, 90)) (As := [p_i v1]) (rest := []) [p_i r6] mt_Mo_g rfl rfl tw_7_84 ts_45 tw_7_82 ⟨Nat.le_of_ble_eq_true rfl, Nat.le_of_ble_eq_true rfl⟩ rfl (Nat.le_of_ble_eq_true rfl) (dk_Mo_ahead 2 rfl) rfl c1 rfl t4 ?_
  have hs5 : p_x s0 s2 := t4.1
  show p_Go K l m_Mo_ahead 5 [(0, p_r v0), (1, p_i v1), (2, p_i v2)] [p_i r6] s2 _
  refine g_istore_n (i := 3) [(3, p_i r6), (0, p_r v0), (1, p_i v1), (2, p_i v2)] (dk_Mo_ahead 3 rfl) rfl (by decide) rfl ?_
  refine g_aload_n (i := 0) (j := 1) (dk_Mo_ahead 4 rfl) rfl rfl ?_
  refine g_getR fl_Mo_16 (Or.inr ⟨_, rfl⟩) (dk_Mo_ahead 5 rfl) (c1.up hs5) ?_
  refine g_iload_n (i := 3) (j := 0) (dk_Mo_ahead 6 rfl) rfl rfl ?_
  obtain ⟨c7, h⟩ := p_gdE h
  obtain ⟨c8, h⟩ := p_gdE h
  refine g_iaload (dk_Mo_ahead 7 rfl) c7 c8.1 c8.2 ?_
  obtain ⟨r13, s9, q10, h⟩ := p_bdE h
  have t11 := tF_Mo_isTaker K l (p_Z s2 (p_R s2 v0 5) (r6 : Int).toNat) s2 _ q10
  refine g_callS (av := [p_i (p_Z s2 (p_R s2 v0 5) (r6 : Int).toNat)]) (rest := []) [p_i r13] mt_Mo_isTaker tw_7_79 tw_7_78 ⟨Nat.le_of_ble_eq_true rfl, Nat.le_of_ble_eq_true rfl⟩ rfl (Nat.le_of_ble_eq_true rfl) (dk_Mo_ahead 8 rfl) rfl rfl t11 ?_
  have hs12 : p_x s2 s9 := t11.1
  show p_Go K l m_Mo_ahead 15 [(3, p_i r6), (0, p_r v0), (1, p_i v1), (2, p_i v2)] [p_i r13] s9 _
  refine g_if_eq 29 (dk_Mo_ahead 9 rfl) (by decide) (fun b14 => ?_) (fun b14 => ?_)
  · have h := p_ifT b14 h
    refine g_sub [(0, p_r v0), (1, p_i v1), (2, p_i v2), (3, p_i r6)] [1, 2, 3, 0] rfl ?_
    exact tB_Mo_ahead_29 K l v0 v1 v2 r6 s9 _ h
  · have h := p_ifF b14 h
    refine g_aload_n (i := 0) (j := 1) (dk_Mo_ahead 10 rfl) rfl rfl ?_
    refine g_getR fl_Mo_16 (Or.inr ⟨_, rfl⟩) (dk_Mo_ahead 11 rfl) (c1.up (hs5.trans hs12)) ?_
    refine g_iload_n (i := 3) (j := 0) (dk_Mo_ahead 12 rfl) rfl rfl ?_
    obtain ⟨c15, h⟩ := p_gdE h
    obtain ⟨c16, h⟩ := p_gdE h
    refine g_iaload (dk_Mo_ahead 13 rfl) c15 c16.1 c16.2 ?_
    refine g_bipush (dk_Mo_ahead 14 rfl) (by decide +kernel) (by decide) ?_
    refine g_icmp_ne 33 (dk_Mo_ahead 15 rfl) (by decide) (fun b17 => ?_) (fun b17 => ?_)
    · have h := p_ifT b17 h
      refine g_aload_n (i := 0) (j := 1) (dk_Mo_ahead 18 rfl) rfl rfl ?_
      refine g_getR fl_Mo_16 (Or.inr ⟨_, rfl⟩) (dk_Mo_ahead 19 rfl) (c1.up (hs5.trans hs12)) ?_
      refine g_iload_n (i := 3) (j := 0) (dk_Mo_ahead 20 rfl) rfl rfl ?_
      obtain ⟨c18, h⟩ := p_gdE h
      refine g_iaload (dk_Mo_ahead 21 rfl) c15 c18.1 c18.2 ?_
      obtain ⟨r23, s19, q20, h⟩ := p_bdE h
      have t21 := tF_Mo_isDivert K l (p_Z s9 (p_R s9 v0 5) (r6 : Int).toNat) s9 _ q20
      refine g_callS (av := [p_i (p_Z s9 (p_R s9 v0 5) (r6 : Int).toNat)]) (rest := []) [p_i r23] mt_Mo_isDivert tw_7_94 tw_7_93 ⟨Nat.le_of_ble_eq_true rfl, Nat.le_of_ble_eq_true rfl⟩ rfl (Nat.le_of_ble_eq_true rfl) (dk_Mo_ahead 22 rfl) rfl rfl t21 ?_
      have hs22 : p_x s9 s19 := t21.1
      show p_Go K l m_Mo_ahead 42 [(3, p_i r6), (0, p_r v0), (1, p_i v1), (2, p_i v2)] [p_i r23] s19 _
      refine g_if_eq 57 (dk_Mo_ahead 23 rfl) (by decide) (fun b24 => ?_) (fun b24 => ?_)
      · have h := p_ifT b24 h
        refine g_iconst (dk_Mo_ahead 30 rfl) (by decide) ?_
        refine g_sub [(0, p_r v0), (1, p_i v1), (2, p_i v2), (3, p_i r6)] [1, 2, 3, 0] rfl ?_
        exact tB_Mo_ahead_58 K l v0 v1 v2 r6 1 s19 _ h
      · have h := p_ifF b24 h
        refine g_aload_n (i := 0) (j := 1) (dk_Mo_ahead 24 rfl) rfl rfl ?_
        refine g_getR fl_Mo_16 (Or.inr ⟨_, rfl⟩) (dk_Mo_ahead 25 rfl) (c1.up (hs5.trans (hs12.trans hs22))) ?_
        refine g_iload_n (i := 3) (j := 0) (dk_Mo_ahead 26 rfl) rfl rfl ?_
        obtain ⟨c25, h⟩ := p_gdE h
        obtain ⟨c26, h⟩ := p_gdE h
        refine g_iaload (dk_Mo_ahead 27 rfl) c25 c26.1 c26.2 ?_
        obtain ⟨r31, s27, q28, h⟩ := p_bdE h
        have t29 := tF_Mo_sidesOf K l (p_Z s19 (p_R s19 v0 5) (r6 : Int).toNat) s19 _ q28
        refine g_callS (av := [p_i (p_Z s19 (p_R s19 v0 5) (r6 : Int).toNat)]) (rest := []) [p_i r31] mt_Mo_sidesOf tw_7_123 tw_7_122 ⟨Nat.le_of_ble_eq_true rfl, Nat.le_of_ble_eq_true rfl⟩ rfl (Nat.le_of_ble_eq_true rfl) (dk_Mo_ahead 28 rfl) rfl rfl t29 ?_
        have hs30 : p_x s19 s27 := t29.1
        show p_Go K l m_Mo_ahead 54 [(3, p_i r6), (0, p_r v0), (1, p_i v1), (2, p_i v2)] [p_i r31] s27 _
        refine g_goto 58 (dk_Mo_ahead 29 rfl) (by decide) ?_
        refine g_sub [(0, p_r v0), (1, p_i v1), (2, p_i v2), (3, p_i r6)] [1, 2, 3, 0] rfl ?_
        exact tB_Mo_ahead_58 K l v0 v1 v2 r6 r31 s27 _ h
    · have h := p_ifF b17 h
      refine g_sub [(0, p_r v0), (1, p_i v1), (2, p_i v2), (3, p_i r6)] [1, 2, 3, 0] rfl ?_
      exact tB_Mo_ahead_29 K l v0 v1 v2 r6 s9 _ h
def m_Mo_spread : p_Me := (⟨"SortWorksModel", "spread", "(I)V"⟩, prog_13_method_113_code, 4, none, 4, 95)
theorem mt_Mo_spread : p_Mt m_Mo_spread 1 := ⟨p_mem (p_tb9 (List.mem_of_getElem? (i := 31) rfl)) rfl, tw_1_12, by decide +kernel, by decide +kernel, by decide +kernel⟩
def dt_Mo_spread : List (Nat × Instr × Nat) := [(0, .iconst 0, 1), (1, .istore_n 2, 1), (2, .iload_n 2, 1), (3, .bipush 40, 2), (5, .if_icmp .ge 16, 3), (8, .aload_n 0, 1), (9, .getfield 217, 3), (12, .iload_n 2, 1), (13, .iconst (-1), 1), (14, .iastore, 1), (15, .iinc 2 1, 3), (18, .goto (-16), 3), (21, .aload_n 0, 1), (22, .iload_n 1, 1), (23, .iconst 0, 1), (24, .invokevirtual 532, 3), (27, .iconst 0, 1), (28, .istore_n 2, 1), (29, .iload_n 2, 1), (30, .bipush 41, 2), (32, .if_icmp .ge 50, 3), (35, .iconst 0, 1), (36, .istore_n 3, 1), (37, .iload_n 3, 1), (38, .aload_n 0, 1), (39, .getfield 7, 3), (42, .aload_n 0, 1), (43, .getfield 227, 3), (46, .iaload, 1), (47, .if_icmp .ge 29, 3), (50, .aload_n 0, 1), (51, .getfield 217, 3), (54, .iload_n 3, 1), (55, .iaload, 1), (56, .ifCond .lt 14, 3), (59, .aload_n 0, 1), (60, .iload_n 3, 1), (61, .aload_n 0, 1), (62, .getfield 217, 3), (65, .iload_n 3, 1), (66, .iaload, 1), (67, .invokevirtual 532, 3), (70, .iinc 3 1, 3), (73, .goto (-36), 3), (76, .iinc 2 1, 3), (79, .goto (-50), 3), (82, .return_, 1)]
theorem dk_Mo_spread (i : Nat) {pc : Nat} {ins : Instr} {len : Nat} (h : dt_Mo_spread[i]? = some (pc, ins, len)) : decode m_Mo_spread.2.1 pc = .ok (ins, len) := p_dk (b := m_Mo_spread.2.1) (t := dt_Mo_spread) (by decide +kernel) i h
def B_Mo_spread_70 (k29 : Nat → Int → p_Hp → Option p_Hp) (k37 : Nat → Int → Int → p_Hp → Option p_Hp) (v0 : Nat) (v2 : Int) (v3 : Int) (s0 : p_Hp) : Option p_Hp :=
  p_bi (p_w (v3 + 1)) fun x1 =>
  k37 v0 v2 x1 s0
def L_Mo_spread_37 (k29 : Nat → Int → p_Hp → Option p_Hp) (k37 : Nat → Int → Int → p_Hp → Option p_Hp) (v0 : Nat) (v2 : Int) (v3 : Int) (s0 : p_Hp) : Option p_Hp :=
  p_gd (p_is s0 v0 11) <|
  p_gd (p_is s0 (p_R s0 v0 3) 100) <|
  p_gd ((0 : Int) ≤ (p_Z s0 v0 0) ∧ (p_Z s0 v0 0) < (p_L s0 (p_R s0 v0 3) : Int)) <|
  if (p_Z s0 (p_R s0 v0 3) ((p_Z s0 v0 0) : Int).toNat) ≤ v3 then
    p_bi (p_w (v2 + 1)) fun x5 =>
    k29 v0 x5 s0
  else
    p_gd (p_is s0 (p_R s0 v0 88) 100) <|
    p_gd ((0 : Int) ≤ v3 ∧ v3 < (p_L s0 (p_R s0 v0 88) : Int)) <|
    if (p_Z s0 (p_R s0 v0 88) (v3 : Int).toNat) < 0 then
      B_Mo_spread_70 k29 k37 v0 v2 v3 s0
    else
      p_gd ((0 : Int) ≤ v3 ∧ v3 < (p_L s0 (p_R s0 v0 88) : Int)) <|
      p_bv (F_Mo_ahead v0 v3 (p_Z s0 (p_R s0 v0 88) (v3 : Int).toNat) s0) fun s10 =>
      B_Mo_spread_70 k29 k37 v0 v2 v3 s10
def O_Mo_spread_37 (k29 : Nat → Int → p_Hp → Option p_Hp) : Nat → Nat → Int → Int → p_Hp → Option p_Hp
  | 0 => fun _ _ _ _ => none
  | n + 1 => L_Mo_spread_37 k29 (O_Mo_spread_37 k29 n)
def L_Mo_spread_29 (k29 : Nat → Int → p_Hp → Option p_Hp) (v0 : Nat) (v2 : Int) (s0 : p_Hp) : Option p_Hp :=
  if 41 ≤ v2 then
    some s0
  else
    O_Mo_spread_37 k29 3000 v0 v2 0 s0
def O_Mo_spread_29  : Nat → Nat → Int → p_Hp → Option p_Hp
  | 0 => fun _ _ _ => none
  | n + 1 => L_Mo_spread_29 (O_Mo_spread_29 n)
def L_Mo_spread_2 (k2 : Nat → Int → Int → p_Hp → Option p_Hp) (v0 : Nat) (v1 : Int) (v2 : Int) (s0 : p_Hp) : Option p_Hp :=
  if 40 ≤ v2 then
    p_gd (p_is s0 v0 11) <|
    p_bv (F_Mo_ahead v0 v1 0 s0) fun s3 =>
    O_Mo_spread_29 3000 v0 0 s3
  else
    p_gd (p_is s0 v0 11) <|
    p_gd (p_is s0 (p_R s0 v0 88) 100) <|
    p_gd ((0 : Int) ≤ v2 ∧ v2 < (p_L s0 (p_R s0 v0 88) : Int)) <|
    p_bi (p_wZ s0 (p_R s0 v0 88) (v2 : Int).toNat (-1)) fun s10 =>
    p_bi (p_w (v2 + 1)) fun x12 =>
    k2 v0 v1 x12 s10
def O_Mo_spread_2  : Nat → Nat → Int → Int → p_Hp → Option p_Hp
  | 0 => fun _ _ _ _ => none
  | n + 1 => L_Mo_spread_2 (O_Mo_spread_2 n)
def F_Mo_spread (v0 : Nat) (v1 : Int) (s0 : p_Hp) : Option p_Hp :=
  O_Mo_spread_2 3000 v0 v1 0 s0
set_option maxRecDepth 100000 in
set_option maxHeartbeats 4000000 in
theorem tB_Mo_spread_70 (K : p_K) (l : Launch) (k29 : Nat → Int → p_Hp → Option p_Hp) (hk29 : ∀ (v0 : Nat) (v2 : Int)  (s0 : p_Hp) (r : p_Hp), k29 v0 v2 s0 = some r → p_Go K l m_Mo_spread 29 [(0, p_r v0), (2, p_i v2)] [] s0 (none, r)) (k37 : Nat → Int → Int → p_Hp → Option p_Hp) (hk37 : ∀ (v0 : Nat) (v2 : Int) (v3 : Int)  (s0 : p_Hp) (r : p_Hp), k37 v0 v2 v3 s0 = some r → p_Go K l m_Mo_spread 37 [(0, p_r v0), (2, p_i v2), (3, p_i v3)] [] s0 (none, r)) (v0 : Nat) (v2 : Int) (v3 : Int) (s0 : p_Hp) (r : p_Hp) (h : B_Mo_spread_70 k29 k37 v0 v2 v3 s0 = some r) : p_Go K l m_Mo_spread 70 [(0, p_r v0), (2, p_i v2), (3, p_i v3)] [] s0 (none, r) := by
  unfold B_Mo_spread_70 at h
  refine g_iinc (j := 2) [(3, p_i (p_w (v3 + 1))), (0, p_r v0), (2, p_i v2)] (dk_Mo_spread 42 rfl) rfl (by decide) rfl ?_
  refine p_ltG (P := fun q => p_Go K l m_Mo_spread 73 [(3, p_i q), (0, p_r v0), (2, p_i v2)] [] s0 _) ?_ h
  intro x1 h
  refine g_goto 37 (dk_Mo_spread 43 rfl) (by decide) ?_
  refine g_sub [(0, p_r v0), (2, p_i v2), (3, p_i x1)] [1, 2, 0] rfl ?_
  exact hk37 v0 v2 x1 s0 _ h
set_option maxRecDepth 100000 in
set_option maxHeartbeats 4000000 in
theorem tL_Mo_spread_37 (K : p_K) (l : Launch) (k29 : Nat → Int → p_Hp → Option p_Hp) (hk29 : ∀ (v0 : Nat) (v2 : Int)  (s0 : p_Hp) (r : p_Hp), k29 v0 v2 s0 = some r → p_Go K l m_Mo_spread 29 [(0, p_r v0), (2, p_i v2)] [] s0 (none, r)) (k37 : Nat → Int → Int → p_Hp → Option p_Hp) (hk37 : ∀ (v0 : Nat) (v2 : Int) (v3 : Int)  (s0 : p_Hp) (r : p_Hp), k37 v0 v2 v3 s0 = some r → p_Go K l m_Mo_spread 37 [(0, p_r v0), (2, p_i v2), (3, p_i v3)] [] s0 (none, r)) (v0 : Nat) (v2 : Int) (v3 : Int) (s0 : p_Hp) (r : p_Hp) (h : L_Mo_spread_37 k29 k37 v0 v2 v3 s0 = some r) : p_Go K l m_Mo_spread 37 [(0, p_r v0), (2, p_i v2), (3, p_i v3)] [] s0 (none, r) := by
  unfold L_Mo_spread_37 at h
  refine g_iload_n (i := 3) (j := 2) (dk_Mo_spread 23 rfl) rfl rfl ?_
  refine g_aload_n (i := 0) (j := 0) (dk_Mo_spread 24 rfl) rfl rfl ?_
  obtain ⟨c1, h⟩ := p_gdE h
  refine g_getR fl_Mo_7 (Or.inr ⟨_, rfl⟩) (dk_Mo_spread 25 rfl) c1 ?_
  refine g_aload_n (i := 0) (j := 0) (dk_Mo_spread 26 rfl) rfl rfl ?_
  refine g_getI fl_Mo_227 (Or.inl rfl) (dk_Mo_spread 27 rfl) c1 ?_
  obtain ⟨c2, h⟩ := p_gdE h
  obtain ⟨c3, h⟩ := p_gdE h
  refine g_iaload (dk_Mo_spread 28 rfl) c2 c3.1 c3.2 ?_
  refine g_icmp_ge 76 (dk_Mo_spread 29 rfl) (by decide) (fun b4 => ?_) (fun b4 => ?_)
  · have h := p_ifT b4 h
    refine g_iinc (j := 1) [(2, p_i (p_w (v2 + 1))), (0, p_r v0), (3, p_i v3)] (dk_Mo_spread 44 rfl) rfl (by decide) rfl ?_
    refine p_ltG (P := fun q => p_Go K l m_Mo_spread 79 [(2, p_i q), (0, p_r v0), (3, p_i v3)] [] s0 _) ?_ h
    intro x5 h
    refine g_goto 29 (dk_Mo_spread 45 rfl) (by decide) ?_
    refine g_sub [(0, p_r v0), (2, p_i x5)] [1, 0] rfl ?_
    exact hk29 v0 x5 s0 _ h
  · have h := p_ifF b4 h
    refine g_aload_n (i := 0) (j := 0) (dk_Mo_spread 30 rfl) rfl rfl ?_
    refine g_getR fl_Mo_217 (Or.inr ⟨_, rfl⟩) (dk_Mo_spread 31 rfl) c1 ?_
    refine g_iload_n (i := 3) (j := 2) (dk_Mo_spread 32 rfl) rfl rfl ?_
    obtain ⟨c6, h⟩ := p_gdE h
    obtain ⟨c7, h⟩ := p_gdE h
    refine g_iaload (dk_Mo_spread 33 rfl) c6 c7.1 c7.2 ?_
    refine g_if_lt 70 (dk_Mo_spread 34 rfl) (by decide) (fun b8 => ?_) (fun b8 => ?_)
    · have h := p_ifT b8 h
      exact tB_Mo_spread_70 K l k29 hk29 k37 hk37 v0 v2 v3 s0 _ h
    · have h := p_ifF b8 h
      refine g_aload_n (i := 0) (j := 0) (dk_Mo_spread 35 rfl) rfl rfl ?_
      refine g_iload_n (i := 3) (j := 2) (dk_Mo_spread 36 rfl) rfl rfl ?_
      refine g_aload_n (i := 0) (j := 0) (dk_Mo_spread 37 rfl) rfl rfl ?_
      refine g_getR fl_Mo_217 (Or.inr ⟨_, rfl⟩) (dk_Mo_spread 38 rfl) c1 ?_
      refine g_iload_n (i := 3) (j := 2) (dk_Mo_spread 39 rfl) rfl rfl ?_
      obtain ⟨c9, h⟩ := p_gdE h
      refine g_iaload (dk_Mo_spread 40 rfl) c6 c9.1 c9.2 ?_
      obtain ⟨s10, q11, h⟩ := p_bvE h
      have t12 := tF_Mo_ahead K l v0 v3 (p_Z s0 (p_R s0 v0 88) (v3 : Int).toNat) s0 _ q11
      refine g_callV (a := v0) (ci := 11) (q0 := (RX11, TX11, 90)) (As := [p_i v3, p_i (p_Z s0 (p_R s0 v0 88) (v3 : Int).toNat)]) (rest := []) [] mt_Mo_ahead rfl rfl tw_9_34 ts_104 tw_9_32 ⟨Nat.le_of_ble_eq_true rfl, Nat.le_of_ble_eq_true rfl⟩ rfl (Nat.le_of_ble_eq_true rfl) (dk_Mo_spread 41 rfl) rfl c1 rfl t12 ?_
      have hs13 : p_x s0 s10 := t12.1
      show p_Go K l m_Mo_spread 70 [(0, p_r v0), (2, p_i v2), (3, p_i v3)] [] s10 _
      exact tB_Mo_spread_70 K l k29 hk29 k37 hk37 v0 v2 v3 s10 _ h
set_option maxRecDepth 100000 in
set_option maxHeartbeats 4000000 in
theorem tO_Mo_spread_37 (K : p_K) (l : Launch) (k29 : Nat → Int → p_Hp → Option p_Hp) (hk29 : ∀ (v0 : Nat) (v2 : Int)  (s0 : p_Hp) (r : p_Hp), k29 v0 v2 s0 = some r → p_Go K l m_Mo_spread 29 [(0, p_r v0), (2, p_i v2)] [] s0 (none, r)) : ∀ (n : Nat) (v0 : Nat) (v2 : Int) (v3 : Int) (s0 : p_Hp) (r : p_Hp), O_Mo_spread_37 k29 n v0 v2 v3 s0 = some r → p_Go K l m_Mo_spread 37 [(0, p_r v0), (2, p_i v2), (3, p_i v3)] [] s0 (none, r) := by
  intro n
  induction n with
  | zero => intro v0 v2 v3 s0 r h; cases (show (none : Option p_Hp) = some r from h)
  | succ n ih => intro v0 v2 v3 s0 r h; exact tL_Mo_spread_37 K l k29 hk29 _ ih v0 v2 v3 s0 r h
set_option maxRecDepth 100000 in
set_option maxHeartbeats 4000000 in
theorem tL_Mo_spread_29 (K : p_K) (l : Launch) (k29 : Nat → Int → p_Hp → Option p_Hp) (hk29 : ∀ (v0 : Nat) (v2 : Int)  (s0 : p_Hp) (r : p_Hp), k29 v0 v2 s0 = some r → p_Go K l m_Mo_spread 29 [(0, p_r v0), (2, p_i v2)] [] s0 (none, r)) (v0 : Nat) (v2 : Int) (s0 : p_Hp) (r : p_Hp) (h : L_Mo_spread_29 k29 v0 v2 s0 = some r) : p_Go K l m_Mo_spread 29 [(0, p_r v0), (2, p_i v2)] [] s0 (none, r) := by
  unfold L_Mo_spread_29 at h
  refine g_iload_n (i := 2) (j := 1) (dk_Mo_spread 18 rfl) rfl rfl ?_
  refine g_bipush (dk_Mo_spread 19 rfl) (by decide +kernel) (by decide) ?_
  refine g_icmp_ge 82 (dk_Mo_spread 20 rfl) (by decide) (fun b1 => ?_) (fun b1 => ?_)
  · have h := p_ifT b1 h
    cases h
    exact g_ret rfl rfl (dk_Mo_spread 46 rfl) (fun _ => rfl)
  · have h := p_ifF b1 h
    refine g_iconst (dk_Mo_spread 21 rfl) (by decide) ?_
    refine g_istore_n (i := 3) [(3, p_i 0), (0, p_r v0), (2, p_i v2)] (dk_Mo_spread 22 rfl) rfl (by decide) rfl ?_
    refine g_sub [(0, p_r v0), (2, p_i v2), (3, p_i 0)] [1, 2, 0] rfl ?_
    exact tO_Mo_spread_37 K l k29 hk29 3000 v0 v2 0 s0 _ h
set_option maxRecDepth 100000 in
set_option maxHeartbeats 4000000 in
theorem tO_Mo_spread_29 (K : p_K) (l : Launch)  : ∀ (n : Nat) (v0 : Nat) (v2 : Int) (s0 : p_Hp) (r : p_Hp), O_Mo_spread_29 n v0 v2 s0 = some r → p_Go K l m_Mo_spread 29 [(0, p_r v0), (2, p_i v2)] [] s0 (none, r) := by
  intro n
  induction n with
  | zero => intro v0 v2 s0 r h; cases (show (none : Option p_Hp) = some r from h)
  | succ n ih => intro v0 v2 s0 r h; exact tL_Mo_spread_29 K l _ ih v0 v2 s0 r h
set_option maxRecDepth 100000 in
set_option maxHeartbeats 4000000 in
theorem tL_Mo_spread_2 (K : p_K) (l : Launch) (k2 : Nat → Int → Int → p_Hp → Option p_Hp) (hk2 : ∀ (v0 : Nat) (v1 : Int) (v2 : Int)  (s0 : p_Hp) (r : p_Hp), k2 v0 v1 v2 s0 = some r → p_Go K l m_Mo_spread 2 [(0, p_r v0), (1, p_i v1), (2, p_i v2)] [] s0 (none, r)) (v0 : Nat) (v1 : Int) (v2 : Int) (s0 : p_Hp) (r : p_Hp) (h : L_Mo_spread_2 k2 v0 v1 v2 s0 = some r) : p_Go K l m_Mo_spread 2 [(0, p_r v0), (1, p_i v1), (2, p_i v2)] [] s0 (none, r) := by
  unfold L_Mo_spread_2 at h
  refine g_iload_n (i := 2) (j := 2) (dk_Mo_spread 2 rfl) rfl rfl ?_
  refine g_bipush (dk_Mo_spread 3 rfl) (by decide +kernel) (by decide) ?_
  refine g_icmp_ge 21 (dk_Mo_spread 4 rfl) (by decide) (fun b1 => ?_) (fun b1 => ?_)
  · have h := p_ifT b1 h
    refine g_aload_n (i := 0) (j := 0) (dk_Mo_spread 12 rfl) rfl rfl ?_
    refine g_iload_n (i := 1) (j := 1) (dk_Mo_spread 13 rfl) rfl rfl ?_
    refine g_iconst (dk_Mo_spread 14 rfl) (by decide) ?_
    obtain ⟨c2, h⟩ := p_gdE h
    obtain ⟨s3, q4, h⟩ := p_bvE h
    have t5 := tF_Mo_ahead K l v0 v1 0 s0 _ q4
    refine g_callV (a := v0) (ci := 11) (q0 := (RX11, TX11, 90)) (As := [p_i v1, p_i 0]) (rest := []) [] mt_Mo_ahead rfl rfl tw_9_34 ts_104 tw_9_32 ⟨Nat.le_of_ble_eq_true rfl, Nat.le_of_ble_eq_true rfl⟩ rfl (Nat.le_of_ble_eq_true rfl) (dk_Mo_spread 15 rfl) rfl c2 rfl t5 ?_
    have hs6 : p_x s0 s3 := t5.1
    show p_Go K l m_Mo_spread 27 [(0, p_r v0), (1, p_i v1), (2, p_i v2)] [] s3 _
    refine g_iconst (dk_Mo_spread 16 rfl) (by decide) ?_
    refine g_istore_n (i := 2) [(2, p_i 0), (0, p_r v0), (1, p_i v1)] (dk_Mo_spread 17 rfl) rfl (by decide) rfl ?_
    refine g_sub [(0, p_r v0), (2, p_i 0)] [1, 0] rfl ?_
    exact tO_Mo_spread_29 K l 3000 v0 0 s3 _ h
  · have h := p_ifF b1 h
    refine g_aload_n (i := 0) (j := 0) (dk_Mo_spread 5 rfl) rfl rfl ?_
    obtain ⟨c7, h⟩ := p_gdE h
    refine g_getR fl_Mo_217 (Or.inr ⟨_, rfl⟩) (dk_Mo_spread 6 rfl) c7 ?_
    refine g_iload_n (i := 2) (j := 2) (dk_Mo_spread 7 rfl) rfl rfl ?_
    refine g_iconst (dk_Mo_spread 8 rfl) (by decide) ?_
    obtain ⟨c8, h⟩ := p_gdE h
    obtain ⟨c9, h⟩ := p_gdE h
    refine g_iastore (dk_Mo_spread 9 rfl) c8 c9.1 c9.2 ?_
    refine p_ltS (P := fun q => p_Go K l m_Mo_spread 15 [(0, p_r v0), (1, p_i v1), (2, p_i v2)] [] q _) (p_xZ _ _ _ _) ?_ h
    intro s10 hs11 h
    refine g_iinc (j := 2) [(2, p_i (p_w (v2 + 1))), (0, p_r v0), (1, p_i v1)] (dk_Mo_spread 10 rfl) rfl (by decide) rfl ?_
    refine p_ltG (P := fun q => p_Go K l m_Mo_spread 18 [(2, p_i q), (0, p_r v0), (1, p_i v1)] [] s10 _) ?_ h
    intro x12 h
    refine g_goto 2 (dk_Mo_spread 11 rfl) (by decide) ?_
    refine g_sub [(0, p_r v0), (1, p_i v1), (2, p_i x12)] [1, 2, 0] rfl ?_
    exact hk2 v0 v1 x12 s10 _ h
set_option maxRecDepth 100000 in
set_option maxHeartbeats 4000000 in
theorem tO_Mo_spread_2 (K : p_K) (l : Launch)  : ∀ (n : Nat) (v0 : Nat) (v1 : Int) (v2 : Int) (s0 : p_Hp) (r : p_Hp), O_Mo_spread_2 n v0 v1 v2 s0 = some r → p_Go K l m_Mo_spread 2 [(0, p_r v0), (1, p_i v1), (2, p_i v2)] [] s0 (none, r) := by
  intro n
  induction n with
  | zero => intro v0 v1 v2 s0 r h; cases (show (none : Option p_Hp) = some r from h)
  | succ n ih => intro v0 v1 v2 s0 r h; exact tL_Mo_spread_2 K l _ ih v0 v1 v2 s0 r h
set_option maxRecDepth 100000 in
set_option maxHeartbeats 4000000 in
theorem tF_Mo_spread (K : p_K) (l : Launch) (v0 : Nat) (v1 : Int) (s0 : p_Hp) (r : p_Hp) (h : F_Mo_spread v0 v1 s0 = some r) : p_Ct K l m_Mo_spread [p_r v0, p_i v1] s0 (none, r) := by
  refine p_Ct.of (by decide +kernel) (Nat.le_of_ble_eq_true rfl) ?_
  unfold F_Mo_spread at h
  show p_Go K l m_Mo_spread 0 [(0, p_r v0), (1, p_i v1)] [] s0 _
  refine g_iconst (dk_Mo_spread 0 rfl) (by decide) ?_
  refine g_istore_n (i := 2) [(2, p_i 0), (0, p_r v0), (1, p_i v1)] (dk_Mo_spread 1 rfl) rfl (by decide) rfl ?_
  refine g_sub [(0, p_r v0), (1, p_i v1), (2, p_i 0)] [1, 2, 0] rfl ?_
  exact tO_Mo_spread_2 K l 3000 v0 v1 0 s0 _ h
def m_Mo_far : p_Me := (⟨"SortWorksModel", "far", "(II)I"⟩, prog_13_method_114_code, 3, (some .int), 5, 118)
theorem mt_Mo_far : p_Mt m_Mo_far 2 := ⟨p_mem (p_tb9 (List.mem_of_getElem? (i := 27) rfl)) rfl, tw_1_12, by decide +kernel, by decide +kernel, by decide +kernel⟩
def dt_Mo_far : List (Nat × Instr × Nat) := [(0, .aload_n 0, 1), (1, .iload_n 1, 1), (2, .invokevirtual 267, 3), (5, .ifCond .ne 11, 3), (8, .aload_n 0, 1), (9, .iload_n 2, 1), (10, .invokevirtual 267, 3), (13, .ifCond .eq 5, 3), (16, .iconst (-1), 1), (17, .ireturn, 1), (18, .iload_n 1, 1), (19, .iload_n 2, 1), (20, .if_icmp .ne 5, 3), (23, .iconst 0, 1), (24, .ireturn, 1), (25, .aload_n 0, 1), (26, .iload_n 1, 1), (27, .invokevirtual 535, 3), (30, .aload_n 0, 1), (31, .getfield 217, 3), (34, .iload_n 2, 1), (35, .iaload, 1), (36, .ifCond .ge 8, 3), (39, .bipush (-9), 2), (41, .goto 9, 3), (44, .aload_n 0, 1), (45, .getfield 217, 3), (48, .iload_n 2, 1), (49, .iaload, 1), (50, .ireturn, 1)]
theorem dk_Mo_far (i : Nat) {pc : Nat} {ins : Instr} {len : Nat} (h : dt_Mo_far[i]? = some (pc, ins, len)) : decode m_Mo_far.2.1 pc = .ok (ins, len) := p_dk (b := m_Mo_far.2.1) (t := dt_Mo_far) (by decide +kernel) i h
def F_Mo_far (v0 : Nat) (v1 : Int) (v2 : Int) (s0 : p_Hp) : Option (Int × p_Hp) :=
  p_gd (p_is s0 v0 11) <|
  p_bd (F_Mo_noGear v0 v1 s0) fun r6 s2 =>
  if r6 ≠ 0 then
    some ((-1), s2)
  else
    p_bd (F_Mo_noGear v0 v2 s2) fun r12 s8 =>
    if r12 = 0 then
      if v1 ≠ v2 then
        p_bv (F_Mo_spread v0 v1 s8) fun s15 =>
        p_gd (p_is s15 (p_R s15 v0 88) 100) <|
        p_gd ((0 : Int) ≤ v2 ∧ v2 < (p_L s15 (p_R s15 v0 88) : Int)) <|
        if 0 ≤ (p_Z s15 (p_R s15 v0 88) (v2 : Int).toNat) then
          p_gd ((0 : Int) ≤ v2 ∧ v2 < (p_L s15 (p_R s15 v0 88) : Int)) <|
          some ((p_Z s15 (p_R s15 v0 88) (v2 : Int).toNat), s15)
        else
          some ((-9), s15)
      else
        some (0, s8)
    else
      some ((-1), s8)
set_option maxRecDepth 100000 in
set_option maxHeartbeats 4000000 in
theorem tF_Mo_far (K : p_K) (l : Launch) (v0 : Nat) (v1 : Int) (v2 : Int) (s0 : p_Hp) (r : (Int × p_Hp)) (h : F_Mo_far v0 v1 v2 s0 = some r) : p_Ct K l m_Mo_far [p_r v0, p_i v1, p_i v2] s0 (some (p_i r.1), r.2) := by
  refine p_Ct.of (by decide +kernel) (Nat.le_of_ble_eq_true rfl) ?_
  unfold F_Mo_far at h
  show p_Go K l m_Mo_far 0 [(0, p_r v0), (1, p_i v1), (2, p_i v2)] [] s0 _
  refine g_aload_n (i := 0) (j := 0) (dk_Mo_far 0 rfl) rfl rfl ?_
  refine g_iload_n (i := 1) (j := 1) (dk_Mo_far 1 rfl) rfl rfl ?_
  obtain ⟨c1, h⟩ := p_gdE h
  obtain ⟨r6, s2, q3, h⟩ := p_bdE h
  have t4 := tF_Mo_noGear K l v0 v1 s0 _ q3
  refine g_callV (a := v0) (ci := 11) (q0 := (RX11, TX11, 90)) (As := [p_i v1]) (rest := []) [p_i r6] mt_Mo_noGear rfl rfl tw_7_106 ts_48 tw_7_104 ⟨Nat.le_of_ble_eq_true rfl, Nat.le_of_ble_eq_true rfl⟩ rfl (Nat.le_of_ble_eq_true rfl) (dk_Mo_far 2 rfl) rfl c1 rfl t4 ?_
  have hs5 : p_x s0 s2 := t4.1
  show p_Go K l m_Mo_far 5 [(0, p_r v0), (1, p_i v1), (2, p_i v2)] [p_i r6] s2 _
  refine g_if_ne 16 (dk_Mo_far 3 rfl) (by decide) (fun b7 => ?_) (fun b7 => ?_)
  · have h := p_ifT b7 h
    refine g_iconst (dk_Mo_far 8 rfl) (by decide) ?_
    cases h
    exact g_ret rfl rfl (dk_Mo_far 9 rfl) (fun os => ⟨_, rfl, p_okh os⟩)
  · have h := p_ifF b7 h
    refine g_aload_n (i := 0) (j := 0) (dk_Mo_far 4 rfl) rfl rfl ?_
    refine g_iload_n (i := 2) (j := 2) (dk_Mo_far 5 rfl) rfl rfl ?_
    obtain ⟨r12, s8, q9, h⟩ := p_bdE h
    have t10 := tF_Mo_noGear K l v0 v2 s2 _ q9
    refine g_callV (a := v0) (ci := 11) (q0 := (RX11, TX11, 90)) (As := [p_i v2]) (rest := []) [p_i r12] mt_Mo_noGear rfl rfl tw_7_106 ts_48 tw_7_104 ⟨Nat.le_of_ble_eq_true rfl, Nat.le_of_ble_eq_true rfl⟩ rfl (Nat.le_of_ble_eq_true rfl) (dk_Mo_far 6 rfl) rfl (c1.up hs5) rfl t10 ?_
    have hs11 : p_x s2 s8 := t10.1
    show p_Go K l m_Mo_far 13 [(0, p_r v0), (1, p_i v1), (2, p_i v2)] [p_i r12] s8 _
    refine g_if_eq 18 (dk_Mo_far 7 rfl) (by decide) (fun b13 => ?_) (fun b13 => ?_)
    · have h := p_ifT b13 h
      refine g_iload_n (i := 1) (j := 1) (dk_Mo_far 10 rfl) rfl rfl ?_
      refine g_iload_n (i := 2) (j := 2) (dk_Mo_far 11 rfl) rfl rfl ?_
      refine g_icmp_ne 25 (dk_Mo_far 12 rfl) (by decide) (fun b14 => ?_) (fun b14 => ?_)
      · have h := p_ifT b14 h
        refine g_aload_n (i := 0) (j := 0) (dk_Mo_far 15 rfl) rfl rfl ?_
        refine g_iload_n (i := 1) (j := 1) (dk_Mo_far 16 rfl) rfl rfl ?_
        obtain ⟨s15, q16, h⟩ := p_bvE h
        have t17 := tF_Mo_spread K l v0 v1 s8 _ q16
        refine g_callV (a := v0) (ci := 11) (q0 := (RX11, TX11, 90)) (As := [p_i v1]) (rest := []) [] mt_Mo_spread rfl rfl tw_9_30 ts_103 tw_9_28 ⟨Nat.le_of_ble_eq_true rfl, Nat.le_of_ble_eq_true rfl⟩ rfl (Nat.le_of_ble_eq_true rfl) (dk_Mo_far 17 rfl) rfl (c1.up (hs5.trans hs11)) rfl t17 ?_
        have hs18 : p_x s8 s15 := t17.1
        show p_Go K l m_Mo_far 30 [(0, p_r v0), (1, p_i v1), (2, p_i v2)] [] s15 _
        refine g_aload_n (i := 0) (j := 0) (dk_Mo_far 18 rfl) rfl rfl ?_
        refine g_getR fl_Mo_217 (Or.inr ⟨_, rfl⟩) (dk_Mo_far 19 rfl) (c1.up (hs5.trans (hs11.trans hs18))) ?_
        refine g_iload_n (i := 2) (j := 2) (dk_Mo_far 20 rfl) rfl rfl ?_
        obtain ⟨c19, h⟩ := p_gdE h
        obtain ⟨c20, h⟩ := p_gdE h
        refine g_iaload (dk_Mo_far 21 rfl) c19 c20.1 c20.2 ?_
        refine g_if_ge 44 (dk_Mo_far 22 rfl) (by decide) (fun b21 => ?_) (fun b21 => ?_)
        · have h := p_ifT b21 h
          refine g_aload_n (i := 0) (j := 0) (dk_Mo_far 25 rfl) rfl rfl ?_
          refine g_getR fl_Mo_217 (Or.inr ⟨_, rfl⟩) (dk_Mo_far 26 rfl) (c1.up (hs5.trans (hs11.trans hs18))) ?_
          refine g_iload_n (i := 2) (j := 2) (dk_Mo_far 27 rfl) rfl rfl ?_
          obtain ⟨c22, h⟩ := p_gdE h
          refine g_iaload (dk_Mo_far 28 rfl) c19 c22.1 c22.2 ?_
          cases h
          exact g_ret rfl rfl (dk_Mo_far 29 rfl) (fun os => ⟨_, rfl, p_okh os⟩)
        · have h := p_ifF b21 h
          refine g_bipush (dk_Mo_far 23 rfl) (by decide +kernel) (by decide) ?_
          refine g_goto 50 (dk_Mo_far 24 rfl) (by decide) ?_
          cases h
          exact g_ret rfl rfl (dk_Mo_far 29 rfl) (fun os => ⟨_, rfl, p_okh os⟩)
      · have h := p_ifF b14 h
        refine g_iconst (dk_Mo_far 13 rfl) (by decide) ?_
        cases h
        exact g_ret rfl rfl (dk_Mo_far 14 rfl) (fun os => ⟨_, rfl, p_okh os⟩)
    · have h := p_ifF b13 h
      refine g_iconst (dk_Mo_far 8 rfl) (by decide) ?_
      cases h
      exact g_ret rfl rfl (dk_Mo_far 9 rfl) (fun os => ⟨_, rfl, p_okh os⟩)
def m_Mo_reach : p_Me := (⟨"SortWorksModel", "reach", "(I)J"⟩, prog_13_method_115_code, 5, (some .long), 5, 118)
theorem mt_Mo_reach : p_Mt m_Mo_reach 1 := ⟨p_mem (p_tb9 (List.mem_of_getElem? (i := 39) rfl)) rfl, tw_1_12, by decide +kernel, by decide +kernel, by decide +kernel⟩
def dt_Mo_reach : List (Nat × Instr × Nat) := [(0, .aload_n 0, 1), (1, .iload_n 1, 1), (2, .invokevirtual 267, 3), (5, .ifCond .eq 5, 3), (8, .lconst 0, 1), (9, .lreturn, 1), (10, .aload_n 0, 1), (11, .iload_n 1, 1), (12, .invokevirtual 535, 3), (15, .lconst 0, 1), (16, .lstore_n 2, 1), (17, .iconst 0, 1), (18, .istore 4, 2), (20, .iload 4, 2), (22, .bipush 40, 2), (24, .if_icmp .ge 30, 3), (27, .lload_n 2, 1), (28, .aload_n 0, 1), (29, .getfield 217, 3), (32, .iload 4, 2), (34, .iaload, 1), (35, .ifCond .lt 10, 3), (38, .lconst 1, 1), (39, .iload 4, 2), (41, .lshl, 1), (42, .goto 4, 3), (45, .lconst 0, 1), (46, .lor, 1), (47, .lstore_n 2, 1), (48, .iinc 4 1, 3), (51, .goto (-31), 3), (54, .lload_n 2, 1), (55, .lreturn, 1)]
theorem dk_Mo_reach (i : Nat) {pc : Nat} {ins : Instr} {len : Nat} (h : dt_Mo_reach[i]? = some (pc, ins, len)) : decode m_Mo_reach.2.1 pc = .ok (ins, len) := p_dk (b := m_Mo_reach.2.1) (t := dt_Mo_reach) (by decide +kernel) i h
def B_Mo_reach_46 (k20 : Nat → Int → Int → p_Hp → Option (Int × p_Hp)) (v0 : Nat) (v4 : Int) (w0 : Int) (w1 : Int) (s0 : p_Hp) : Option (Int × p_Hp) :=
  p_bi ((p_or6 w1 w0)) fun x1 =>
  p_bi (p_w (v4 + 1)) fun x2 =>
  k20 v0 x1 x2 s0
def L_Mo_reach_20 (k20 : Nat → Int → Int → p_Hp → Option (Int × p_Hp)) (v0 : Nat) (v2 : Int) (v4 : Int) (s0 : p_Hp) : Option (Int × p_Hp) :=
  if 40 ≤ v4 then
    some (v2, s0)
  else
    p_gd (p_is s0 v0 11) <|
    p_gd (p_is s0 (p_R s0 v0 88) 100) <|
    p_gd ((0 : Int) ≤ v4 ∧ v4 < (p_L s0 (p_R s0 v0 88) : Int)) <|
    if (p_Z s0 (p_R s0 v0 88) (v4 : Int).toNat) < 0 then
      B_Mo_reach_46 k20 v0 v4 0 v2 s0
    else
      B_Mo_reach_46 k20 v0 v4 (p_shl6 1 v4) v2 s0
def O_Mo_reach_20  : Nat → Nat → Int → Int → p_Hp → Option (Int × p_Hp)
  | 0 => fun _ _ _ _ => none
  | n + 1 => L_Mo_reach_20 (O_Mo_reach_20 n)
def F_Mo_reach (v0 : Nat) (v1 : Int) (s0 : p_Hp) : Option (Int × p_Hp) :=
  p_gd (p_is s0 v0 11) <|
  p_bd (F_Mo_noGear v0 v1 s0) fun r6 s2 =>
  if r6 = 0 then
    p_bv (F_Mo_spread v0 v1 s2) fun s8 =>
    O_Mo_reach_20 3000 v0 0 0 s8
  else
    some (0, s2)
set_option maxRecDepth 100000 in
set_option maxHeartbeats 4000000 in
theorem tB_Mo_reach_46 (K : p_K) (l : Launch) (k20 : Nat → Int → Int → p_Hp → Option (Int × p_Hp)) (hk20 : ∀ (v0 : Nat) (v2 : Int) (v4 : Int)  (s0 : p_Hp) (r : (Int × p_Hp)), k20 v0 v2 v4 s0 = some r → p_Go K l m_Mo_reach 20 [(0, p_r v0), (2, p_j v2), (4, p_i v4)] [] s0 (some (p_j r.1), r.2)) (v0 : Nat) (v4 : Int) (w0 : Int) (w1 : Int) (s0 : p_Hp) (r : (Int × p_Hp)) (h : B_Mo_reach_46 k20 v0 v4 w0 w1 s0 = some r) : p_Go K l m_Mo_reach 46 [(0, p_r v0), (4, p_i v4)] [p_j w0, p_j w1] s0 (some (p_j r.1), r.2) := by
  unfold B_Mo_reach_46 at h
  refine g_lor (dk_Mo_reach 27 rfl) ?_
  refine g_lstore_n (i := 2) [(2, p_j (p_or6 w1 w0)), (0, p_r v0), (4, p_i v4)] (dk_Mo_reach 28 rfl) rfl (by decide) rfl ?_
  refine p_ltG (P := fun q => p_Go K l m_Mo_reach 48 [(2, p_j q), (0, p_r v0), (4, p_i v4)] [] s0 _) ?_ h
  intro x1 h
  refine g_iinc (j := 2) [(4, p_i (p_w (v4 + 1))), (2, p_j x1), (0, p_r v0)] (dk_Mo_reach 29 rfl) rfl (by decide) rfl ?_
  refine p_ltG (P := fun q => p_Go K l m_Mo_reach 51 [(4, p_i q), (2, p_j x1), (0, p_r v0)] [] s0 _) ?_ h
  intro x2 h
  refine g_goto 20 (dk_Mo_reach 30 rfl) (by decide) ?_
  refine g_sub [(0, p_r v0), (2, p_j x1), (4, p_i x2)] [2, 1, 0] rfl ?_
  exact hk20 v0 x1 x2 s0 _ h
set_option maxRecDepth 100000 in
set_option maxHeartbeats 4000000 in
theorem tL_Mo_reach_20 (K : p_K) (l : Launch) (k20 : Nat → Int → Int → p_Hp → Option (Int × p_Hp)) (hk20 : ∀ (v0 : Nat) (v2 : Int) (v4 : Int)  (s0 : p_Hp) (r : (Int × p_Hp)), k20 v0 v2 v4 s0 = some r → p_Go K l m_Mo_reach 20 [(0, p_r v0), (2, p_j v2), (4, p_i v4)] [] s0 (some (p_j r.1), r.2)) (v0 : Nat) (v2 : Int) (v4 : Int) (s0 : p_Hp) (r : (Int × p_Hp)) (h : L_Mo_reach_20 k20 v0 v2 v4 s0 = some r) : p_Go K l m_Mo_reach 20 [(0, p_r v0), (2, p_j v2), (4, p_i v4)] [] s0 (some (p_j r.1), r.2) := by
  unfold L_Mo_reach_20 at h
  refine g_iload (j := 2) (dk_Mo_reach 13 rfl) rfl ?_
  refine g_bipush (dk_Mo_reach 14 rfl) (by decide +kernel) (by decide) ?_
  refine g_icmp_ge 54 (dk_Mo_reach 15 rfl) (by decide) (fun b1 => ?_) (fun b1 => ?_)
  · have h := p_ifT b1 h
    refine g_lload_n (i := 2) (j := 1) (dk_Mo_reach 31 rfl) rfl rfl ?_
    cases h
    exact g_ret rfl rfl (dk_Mo_reach 32 rfl) (fun os => ⟨_, rfl, p_okh os⟩)
  · have h := p_ifF b1 h
    refine g_lload_n (i := 2) (j := 1) (dk_Mo_reach 16 rfl) rfl rfl ?_
    refine g_aload_n (i := 0) (j := 0) (dk_Mo_reach 17 rfl) rfl rfl ?_
    obtain ⟨c2, h⟩ := p_gdE h
    refine g_getR fl_Mo_217 (Or.inr ⟨_, rfl⟩) (dk_Mo_reach 18 rfl) c2 ?_
    refine g_iload (j := 2) (dk_Mo_reach 19 rfl) rfl ?_
    obtain ⟨c3, h⟩ := p_gdE h
    obtain ⟨c4, h⟩ := p_gdE h
    refine g_iaload (dk_Mo_reach 20 rfl) c3 c4.1 c4.2 ?_
    refine g_if_lt 45 (dk_Mo_reach 21 rfl) (by decide) (fun b5 => ?_) (fun b5 => ?_)
    · have h := p_ifT b5 h
      refine g_lconst (x := 0) (dk_Mo_reach 26 rfl) rfl (by decide) ?_
      refine g_sub [(0, p_r v0), (4, p_i v4)] [0, 2] rfl ?_
      exact tB_Mo_reach_46 K l k20 hk20 v0 v4 0 v2 s0 _ h
    · have h := p_ifF b5 h
      refine g_lconst (x := 1) (dk_Mo_reach 22 rfl) rfl (by decide) ?_
      refine g_iload (j := 2) (dk_Mo_reach 23 rfl) rfl ?_
      refine g_lshl (dk_Mo_reach 24 rfl) ?_
      refine g_goto 46 (dk_Mo_reach 25 rfl) (by decide) ?_
      refine g_sub [(0, p_r v0), (4, p_i v4)] [0, 2] rfl ?_
      exact tB_Mo_reach_46 K l k20 hk20 v0 v4 (p_shl6 1 v4) v2 s0 _ h
set_option maxRecDepth 100000 in
set_option maxHeartbeats 4000000 in
theorem tO_Mo_reach_20 (K : p_K) (l : Launch)  : ∀ (n : Nat) (v0 : Nat) (v2 : Int) (v4 : Int) (s0 : p_Hp) (r : (Int × p_Hp)), O_Mo_reach_20 n v0 v2 v4 s0 = some r → p_Go K l m_Mo_reach 20 [(0, p_r v0), (2, p_j v2), (4, p_i v4)] [] s0 (some (p_j r.1), r.2) := by
  intro n
  induction n with
  | zero => intro v0 v2 v4 s0 r h; cases (show (none : Option (Int × p_Hp)) = some r from h)
  | succ n ih => intro v0 v2 v4 s0 r h; exact tL_Mo_reach_20 K l _ ih v0 v2 v4 s0 r h
set_option maxRecDepth 100000 in
set_option maxHeartbeats 4000000 in
theorem tF_Mo_reach (K : p_K) (l : Launch) (v0 : Nat) (v1 : Int) (s0 : p_Hp) (r : (Int × p_Hp)) (h : F_Mo_reach v0 v1 s0 = some r) : p_Ct K l m_Mo_reach [p_r v0, p_i v1] s0 (some (p_j r.1), r.2) := by
  refine p_Ct.of (by decide +kernel) (Nat.le_of_ble_eq_true rfl) ?_
  unfold F_Mo_reach at h
  show p_Go K l m_Mo_reach 0 [(0, p_r v0), (1, p_i v1)] [] s0 _
  refine g_aload_n (i := 0) (j := 0) (dk_Mo_reach 0 rfl) rfl rfl ?_
  refine g_iload_n (i := 1) (j := 1) (dk_Mo_reach 1 rfl) rfl rfl ?_
  obtain ⟨c1, h⟩ := p_gdE h
  obtain ⟨r6, s2, q3, h⟩ := p_bdE h
  have t4 := tF_Mo_noGear K l v0 v1 s0 _ q3
  refine g_callV (a := v0) (ci := 11) (q0 := (RX11, TX11, 90)) (As := [p_i v1]) (rest := []) [p_i r6] mt_Mo_noGear rfl rfl tw_7_106 ts_48 tw_7_104 ⟨Nat.le_of_ble_eq_true rfl, Nat.le_of_ble_eq_true rfl⟩ rfl (Nat.le_of_ble_eq_true rfl) (dk_Mo_reach 2 rfl) rfl c1 rfl t4 ?_
  have hs5 : p_x s0 s2 := t4.1
  show p_Go K l m_Mo_reach 5 [(0, p_r v0), (1, p_i v1)] [p_i r6] s2 _
  refine g_if_eq 10 (dk_Mo_reach 3 rfl) (by decide) (fun b7 => ?_) (fun b7 => ?_)
  · have h := p_ifT b7 h
    refine g_aload_n (i := 0) (j := 0) (dk_Mo_reach 6 rfl) rfl rfl ?_
    refine g_iload_n (i := 1) (j := 1) (dk_Mo_reach 7 rfl) rfl rfl ?_
    obtain ⟨s8, q9, h⟩ := p_bvE h
    have t10 := tF_Mo_spread K l v0 v1 s2 _ q9
    refine g_callV (a := v0) (ci := 11) (q0 := (RX11, TX11, 90)) (As := [p_i v1]) (rest := []) [] mt_Mo_spread rfl rfl tw_9_30 ts_103 tw_9_28 ⟨Nat.le_of_ble_eq_true rfl, Nat.le_of_ble_eq_true rfl⟩ rfl (Nat.le_of_ble_eq_true rfl) (dk_Mo_reach 8 rfl) rfl (c1.up hs5) rfl t10 ?_
    have hs11 : p_x s2 s8 := t10.1
    show p_Go K l m_Mo_reach 15 [(0, p_r v0), (1, p_i v1)] [] s8 _
    refine g_lconst (x := 0) (dk_Mo_reach 9 rfl) rfl (by decide) ?_
    refine g_lstore_n (i := 2) [(2, p_j 0), (0, p_r v0), (1, p_i v1)] (dk_Mo_reach 10 rfl) rfl (by decide) rfl ?_
    refine g_iconst (dk_Mo_reach 11 rfl) (by decide) ?_
    refine g_istore [(4, p_i 0), (2, p_j 0), (0, p_r v0), (1, p_i v1)] (dk_Mo_reach 12 rfl) (by decide) rfl ?_
    refine g_sub [(0, p_r v0), (2, p_j 0), (4, p_i 0)] [2, 1, 0] rfl ?_
    exact tO_Mo_reach_20 K l 3000 v0 0 0 s8 _ h
  · have h := p_ifF b7 h
    refine g_lconst (x := 0) (dk_Mo_reach 4 rfl) rfl (by decide) ?_
    cases h
    exact g_ret rfl rfl (dk_Mo_reach 5 rfl) (fun os => ⟨_, rfl, p_okh os⟩)
def m_Mo_ring : p_Me := (⟨"SortWorksModel", "ring", "(I)I"⟩, prog_13_method_116_code, 2, (some .int), 5, 118)
theorem mt_Mo_ring : p_Mt m_Mo_ring 1 := ⟨p_mem (p_tb9 (List.mem_of_getElem? (i := 43) rfl)) rfl, tw_1_12, by decide +kernel, by decide +kernel, by decide +kernel⟩
def dt_Mo_ring : List (Nat × Instr × Nat) := [(0, .aload_n 0, 1), (1, .iload_n 1, 1), (2, .invokevirtual 267, 3), (5, .ifCond .eq 5, 3), (8, .iconst (-1), 1), (9, .ireturn, 1), (10, .aload_n 0, 1), (11, .iload_n 1, 1), (12, .invokevirtual 535, 3), (15, .aload_n 0, 1), (16, .getfield 217, 3), (19, .iload_n 1, 1), (20, .iaload, 1), (21, .ifCond .ge 8, 3), (24, .bipush (-9), 2), (26, .goto 9, 3), (29, .aload_n 0, 1), (30, .getfield 217, 3), (33, .iload_n 1, 1), (34, .iaload, 1), (35, .ireturn, 1)]
theorem dk_Mo_ring (i : Nat) {pc : Nat} {ins : Instr} {len : Nat} (h : dt_Mo_ring[i]? = some (pc, ins, len)) : decode m_Mo_ring.2.1 pc = .ok (ins, len) := p_dk (b := m_Mo_ring.2.1) (t := dt_Mo_ring) (by decide +kernel) i h
def F_Mo_ring (v0 : Nat) (v1 : Int) (s0 : p_Hp) : Option (Int × p_Hp) :=
  p_gd (p_is s0 v0 11) <|
  p_bd (F_Mo_noGear v0 v1 s0) fun r6 s2 =>
  if r6 = 0 then
    p_bv (F_Mo_spread v0 v1 s2) fun s8 =>
    p_gd (p_is s8 (p_R s8 v0 88) 100) <|
    p_gd ((0 : Int) ≤ v1 ∧ v1 < (p_L s8 (p_R s8 v0 88) : Int)) <|
    if 0 ≤ (p_Z s8 (p_R s8 v0 88) (v1 : Int).toNat) then
      p_gd ((0 : Int) ≤ v1 ∧ v1 < (p_L s8 (p_R s8 v0 88) : Int)) <|
      some ((p_Z s8 (p_R s8 v0 88) (v1 : Int).toNat), s8)
    else
      some ((-9), s8)
  else
    some ((-1), s2)
set_option maxRecDepth 100000 in
set_option maxHeartbeats 4000000 in
theorem tF_Mo_ring (K : p_K) (l : Launch) (v0 : Nat) (v1 : Int) (s0 : p_Hp) (r : (Int × p_Hp)) (h : F_Mo_ring v0 v1 s0 = some r) : p_Ct K l m_Mo_ring [p_r v0, p_i v1] s0 (some (p_i r.1), r.2) := by
  refine p_Ct.of (by decide +kernel) (Nat.le_of_ble_eq_true rfl) ?_
  unfold F_Mo_ring at h
  show p_Go K l m_Mo_ring 0 [(0, p_r v0), (1, p_i v1)] [] s0 _
  refine g_aload_n (i := 0) (j := 0) (dk_Mo_ring 0 rfl) rfl rfl ?_
  refine g_iload_n (i := 1) (j := 1) (dk_Mo_ring 1 rfl) rfl rfl ?_
  obtain ⟨c1, h⟩ := p_gdE h
  obtain ⟨r6, s2, q3, h⟩ := p_bdE h
  have t4 := tF_Mo_noGear K l v0 v1 s0 _ q3
  refine g_callV (a := v0) (ci := 11) (q0 := (RX11, TX11, 90)) (As := [p_i v1]) (rest := []) [p_i r6] mt_Mo_noGear rfl rfl tw_7_106 ts_48 tw_7_104 ⟨Nat.le_of_ble_eq_true rfl, Nat.le_of_ble_eq_true rfl⟩ rfl (Nat.le_of_ble_eq_true rfl) (dk_Mo_ring 2 rfl) rfl c1 rfl t4 ?_
  have hs5 : p_x s0 s2 := t4.1
  show p_Go K l m_Mo_ring 5 [(0, p_r v0), (1, p_i v1)] [p_i r6] s2 _
  refine g_if_eq 10 (dk_Mo_ring 3 rfl) (by decide) (fun b7 => ?_) (fun b7 => ?_)
  · have h := p_ifT b7 h
    refine g_aload_n (i := 0) (j := 0) (dk_Mo_ring 6 rfl) rfl rfl ?_
    refine g_iload_n (i := 1) (j := 1) (dk_Mo_ring 7 rfl) rfl rfl ?_
    obtain ⟨s8, q9, h⟩ := p_bvE h
    have t10 := tF_Mo_spread K l v0 v1 s2 _ q9
    refine g_callV (a := v0) (ci := 11) (q0 := (RX11, TX11, 90)) (As := [p_i v1]) (rest := []) [] mt_Mo_spread rfl rfl tw_9_30 ts_103 tw_9_28 ⟨Nat.le_of_ble_eq_true rfl, Nat.le_of_ble_eq_true rfl⟩ rfl (Nat.le_of_ble_eq_true rfl) (dk_Mo_ring 8 rfl) rfl (c1.up hs5) rfl t10 ?_
    have hs11 : p_x s2 s8 := t10.1
    show p_Go K l m_Mo_ring 15 [(0, p_r v0), (1, p_i v1)] [] s8 _
    refine g_aload_n (i := 0) (j := 0) (dk_Mo_ring 9 rfl) rfl rfl ?_
    refine g_getR fl_Mo_217 (Or.inr ⟨_, rfl⟩) (dk_Mo_ring 10 rfl) (c1.up (hs5.trans hs11)) ?_
    refine g_iload_n (i := 1) (j := 1) (dk_Mo_ring 11 rfl) rfl rfl ?_
    obtain ⟨c12, h⟩ := p_gdE h
    obtain ⟨c13, h⟩ := p_gdE h
    refine g_iaload (dk_Mo_ring 12 rfl) c12 c13.1 c13.2 ?_
    refine g_if_ge 29 (dk_Mo_ring 13 rfl) (by decide) (fun b14 => ?_) (fun b14 => ?_)
    · have h := p_ifT b14 h
      refine g_aload_n (i := 0) (j := 0) (dk_Mo_ring 16 rfl) rfl rfl ?_
      refine g_getR fl_Mo_217 (Or.inr ⟨_, rfl⟩) (dk_Mo_ring 17 rfl) (c1.up (hs5.trans hs11)) ?_
      refine g_iload_n (i := 1) (j := 1) (dk_Mo_ring 18 rfl) rfl rfl ?_
      obtain ⟨c15, h⟩ := p_gdE h
      refine g_iaload (dk_Mo_ring 19 rfl) c12 c15.1 c15.2 ?_
      cases h
      exact g_ret rfl rfl (dk_Mo_ring 20 rfl) (fun os => ⟨_, rfl, p_okh os⟩)
    · have h := p_ifF b14 h
      refine g_bipush (dk_Mo_ring 14 rfl) (by decide +kernel) (by decide) ?_
      refine g_goto 35 (dk_Mo_ring 15 rfl) (by decide) ?_
      cases h
      exact g_ret rfl rfl (dk_Mo_ring 20 rfl) (fun os => ⟨_, rfl, p_okh os⟩)
  · have h := p_ifF b7 h
    refine g_iconst (dk_Mo_ring 4 rfl) (by decide) ?_
    cases h
    exact g_ret rfl rfl (dk_Mo_ring 5 rfl) (fun os => ⟨_, rfl, p_okh os⟩)
def m_Mo_audit : p_Me := (⟨"SortWorksModel", "audit", "()I"⟩, prog_13_method_117_code, 2, (some .int), 1, 23)
theorem mt_Mo_audit : p_Mt m_Mo_audit 0 := ⟨p_mem (p_tb9 (List.mem_of_getElem? (i := 47) rfl)) rfl, tw_1_12, by decide +kernel, by decide +kernel, by decide +kernel⟩
def dt_Mo_audit : List (Nat × Instr × Nat) := [(0, .iconst 0, 1), (1, .istore_n 1, 1), (2, .iload_n 1, 1), (3, .aload_n 0, 1), (4, .getfield 7, 3), (7, .aload_n 0, 1), (8, .getfield 227, 3), (11, .iaload, 1), (12, .if_icmp .ge 44, 3), (15, .aload_n 0, 1), (16, .getfield 57, 3), (19, .aload_n 0, 1), (20, .iload_n 1, 1), (21, .invokevirtual 257, 3), (24, .iaload, 1), (25, .aload_n 0, 1), (26, .getfield 60, 3), (29, .aload_n 0, 1), (30, .iload_n 1, 1), (31, .invokevirtual 257, 3), (34, .iaload, 1), (35, .isub, 1), (36, .aload_n 0, 1), (37, .aload_n 0, 1), (38, .iload_n 1, 1), (39, .invokevirtual 257, 3), (42, .invokevirtual 282, 3), (45, .if_icmp .eq 5, 3), (48, .iload_n 1, 1), (49, .ireturn, 1), (50, .iinc 1 1, 3), (53, .goto (-51), 3), (56, .bipush (-9), 2), (58, .ireturn, 1)]
theorem dk_Mo_audit (i : Nat) {pc : Nat} {ins : Instr} {len : Nat} (h : dt_Mo_audit[i]? = some (pc, ins, len)) : decode m_Mo_audit.2.1 pc = .ok (ins, len) := p_dk (b := m_Mo_audit.2.1) (t := dt_Mo_audit) (by decide +kernel) i h
def L_Mo_audit_2 (k2 : Nat → Int → p_Hp → Option (Int × p_Hp)) (v0 : Nat) (v1 : Int) (s0 : p_Hp) : Option (Int × p_Hp) :=
  p_gd (p_is s0 v0 11) <|
  p_gd (p_is s0 (p_R s0 v0 3) 100) <|
  p_gd ((0 : Int) ≤ (p_Z s0 v0 0) ∧ (p_Z s0 v0 0) < (p_L s0 (p_R s0 v0 3) : Int)) <|
  if (p_Z s0 (p_R s0 v0 3) ((p_Z s0 v0 0) : Int).toNat) ≤ v1 then
    some ((-9), s0)
  else
    p_bd (F_Mo_g v0 v1 s0) fun r9 s5 =>
    p_gd (p_is s5 (p_R s0 v0 18) 100) <|
    p_gd ((0 : Int) ≤ r9 ∧ r9 < (p_L s5 (p_R s0 v0 18) : Int)) <|
    p_bd (F_Mo_g v0 v1 s5) fun r16 s12 =>
    p_gd (p_is s12 (p_R s5 v0 19) 100) <|
    p_gd ((0 : Int) ≤ r16 ∧ r16 < (p_L s12 (p_R s5 v0 19) : Int)) <|
    p_bd (F_Mo_g v0 v1 s12) fun r23 s19 =>
    p_bd (F_Mo_loadOf v0 r23 s19) fun r28 s24 =>
    if (p_w ((p_Z s5 (p_R s0 v0 18) (r9 : Int).toNat) - (p_Z s12 (p_R s5 v0 19) (r16 : Int).toNat))) = r28 then
      p_bi (p_w (v1 + 1)) fun x30 =>
      k2 v0 x30 s24
    else
      some (v1, s24)
def O_Mo_audit_2  : Nat → Nat → Int → p_Hp → Option (Int × p_Hp)
  | 0 => fun _ _ _ => none
  | n + 1 => L_Mo_audit_2 (O_Mo_audit_2 n)
def F_Mo_audit (v0 : Nat) (s0 : p_Hp) : Option (Int × p_Hp) :=
  O_Mo_audit_2 3000 v0 0 s0
set_option maxRecDepth 100000 in
set_option maxHeartbeats 4000000 in
theorem tL_Mo_audit_2 (K : p_K) (l : Launch) (k2 : Nat → Int → p_Hp → Option (Int × p_Hp)) (hk2 : ∀ (v0 : Nat) (v1 : Int)  (s0 : p_Hp) (r : (Int × p_Hp)), k2 v0 v1 s0 = some r → p_Go K l m_Mo_audit 2 [(0, p_r v0), (1, p_i v1)] [] s0 (some (p_i r.1), r.2)) (v0 : Nat) (v1 : Int) (s0 : p_Hp) (r : (Int × p_Hp)) (h : L_Mo_audit_2 k2 v0 v1 s0 = some r) : p_Go K l m_Mo_audit 2 [(0, p_r v0), (1, p_i v1)] [] s0 (some (p_i r.1), r.2) := by
  unfold L_Mo_audit_2 at h
  refine g_iload_n (i := 1) (j := 1) (dk_Mo_audit 2 rfl) rfl rfl ?_
  refine g_aload_n (i := 0) (j := 0) (dk_Mo_audit 3 rfl) rfl rfl ?_
  obtain ⟨c1, h⟩ := p_gdE h
  refine g_getR fl_Mo_7 (Or.inr ⟨_, rfl⟩) (dk_Mo_audit 4 rfl) c1 ?_
  refine g_aload_n (i := 0) (j := 0) (dk_Mo_audit 5 rfl) rfl rfl ?_
  refine g_getI fl_Mo_227 (Or.inl rfl) (dk_Mo_audit 6 rfl) c1 ?_
  obtain ⟨c2, h⟩ := p_gdE h
  obtain ⟨c3, h⟩ := p_gdE h
  refine g_iaload (dk_Mo_audit 7 rfl) c2 c3.1 c3.2 ?_
  refine g_icmp_ge 56 (dk_Mo_audit 8 rfl) (by decide) (fun b4 => ?_) (fun b4 => ?_)
  · have h := p_ifT b4 h
    refine g_bipush (dk_Mo_audit 32 rfl) (by decide +kernel) (by decide) ?_
    cases h
    exact g_ret rfl rfl (dk_Mo_audit 33 rfl) (fun os => ⟨_, rfl, p_okh os⟩)
  · have h := p_ifF b4 h
    refine g_aload_n (i := 0) (j := 0) (dk_Mo_audit 9 rfl) rfl rfl ?_
    refine g_getR fl_Mo_57 (Or.inr ⟨_, rfl⟩) (dk_Mo_audit 10 rfl) c1 ?_
    refine g_aload_n (i := 0) (j := 0) (dk_Mo_audit 11 rfl) rfl rfl ?_
    refine g_iload_n (i := 1) (j := 1) (dk_Mo_audit 12 rfl) rfl rfl ?_
    obtain ⟨r9, s5, q6, h⟩ := p_bdE h
    have t7 := tF_Mo_g K l v0 v1 s0 _ q6
    refine g_callV (a := v0) (ci := 11) (q0 := (RX11, TX11, 90)) (As := [p_i v1]) (rest := [p_r (p_R s0 v0 18)]) [p_i r9, p_r (p_R s0 v0 18)] mt_Mo_g rfl rfl tw_7_84 ts_45 tw_7_82 ⟨Nat.le_of_ble_eq_true rfl, Nat.le_of_ble_eq_true rfl⟩ rfl (Nat.le_of_ble_eq_true rfl) (dk_Mo_audit 13 rfl) rfl c1 rfl t7 ?_
    have hs8 : p_x s0 s5 := t7.1
    show p_Go K l m_Mo_audit 24 [(0, p_r v0), (1, p_i v1)] [p_i r9, p_r (p_R s0 v0 18)] s5 _
    obtain ⟨c10, h⟩ := p_gdE h
    obtain ⟨c11, h⟩ := p_gdE h
    refine g_iaload (dk_Mo_audit 14 rfl) c10 c11.1 c11.2 ?_
    refine g_aload_n (i := 0) (j := 0) (dk_Mo_audit 15 rfl) rfl rfl ?_
    refine g_getR fl_Mo_60 (Or.inr ⟨_, rfl⟩) (dk_Mo_audit 16 rfl) (c1.up hs8) ?_
    refine g_aload_n (i := 0) (j := 0) (dk_Mo_audit 17 rfl) rfl rfl ?_
    refine g_iload_n (i := 1) (j := 1) (dk_Mo_audit 18 rfl) rfl rfl ?_
    obtain ⟨r16, s12, q13, h⟩ := p_bdE h
    have t14 := tF_Mo_g K l v0 v1 s5 _ q13
    refine g_callV (a := v0) (ci := 11) (q0 := (RX11, TX11, 90)) (As := [p_i v1]) (rest := [p_r (p_R s5 v0 19), p_i (p_Z s5 (p_R s0 v0 18) (r9 : Int).toNat)]) [p_i r16, p_r (p_R s5 v0 19), p_i (p_Z s5 (p_R s0 v0 18) (r9 : Int).toNat)] mt_Mo_g rfl rfl tw_7_84 ts_45 tw_7_82 ⟨Nat.le_of_ble_eq_true rfl, Nat.le_of_ble_eq_true rfl⟩ rfl (Nat.le_of_ble_eq_true rfl) (dk_Mo_audit 19 rfl) rfl (c1.up hs8) rfl t14 ?_
    have hs15 : p_x s5 s12 := t14.1
    show p_Go K l m_Mo_audit 34 [(0, p_r v0), (1, p_i v1)] [p_i r16, p_r (p_R s5 v0 19), p_i (p_Z s5 (p_R s0 v0 18) (r9 : Int).toNat)] s12 _
    obtain ⟨c17, h⟩ := p_gdE h
    obtain ⟨c18, h⟩ := p_gdE h
    refine g_iaload (dk_Mo_audit 20 rfl) c17 c18.1 c18.2 ?_
    refine g_isub (dk_Mo_audit 21 rfl) ?_
    refine g_aload_n (i := 0) (j := 0) (dk_Mo_audit 22 rfl) rfl rfl ?_
    refine g_aload_n (i := 0) (j := 0) (dk_Mo_audit 23 rfl) rfl rfl ?_
    refine g_iload_n (i := 1) (j := 1) (dk_Mo_audit 24 rfl) rfl rfl ?_
    obtain ⟨r23, s19, q20, h⟩ := p_bdE h
    have t21 := tF_Mo_g K l v0 v1 s12 _ q20
    refine g_callV (a := v0) (ci := 11) (q0 := (RX11, TX11, 90)) (As := [p_i v1]) (rest := [p_r v0, p_i (p_w ((p_Z s5 (p_R s0 v0 18) (r9 : Int).toNat) - (p_Z s12 (p_R s5 v0 19) (r16 : Int).toNat)))]) [p_i r23, p_r v0, p_i (p_w ((p_Z s5 (p_R s0 v0 18) (r9 : Int).toNat) - (p_Z s12 (p_R s5 v0 19) (r16 : Int).toNat)))] mt_Mo_g rfl rfl tw_7_84 ts_45 tw_7_82 ⟨Nat.le_of_ble_eq_true rfl, Nat.le_of_ble_eq_true rfl⟩ rfl (Nat.le_of_ble_eq_true rfl) (dk_Mo_audit 25 rfl) rfl (c1.up (hs8.trans hs15)) rfl t21 ?_
    have hs22 : p_x s12 s19 := t21.1
    show p_Go K l m_Mo_audit 42 [(0, p_r v0), (1, p_i v1)] [p_i r23, p_r v0, p_i (p_w ((p_Z s5 (p_R s0 v0 18) (r9 : Int).toNat) - (p_Z s12 (p_R s5 v0 19) (r16 : Int).toNat)))] s19 _
    obtain ⟨r28, s24, q25, h⟩ := p_bdE h
    have t26 := tF_Mo_loadOf K l v0 r23 s19 _ q25
    refine g_callV (a := v0) (ci := 11) (q0 := (RX11, TX11, 90)) (As := [p_i r23]) (rest := [p_i (p_w ((p_Z s5 (p_R s0 v0 18) (r9 : Int).toNat) - (p_Z s12 (p_R s5 v0 19) (r16 : Int).toNat)))]) [p_i r28, p_i (p_w ((p_Z s5 (p_R s0 v0 18) (r9 : Int).toNat) - (p_Z s12 (p_R s5 v0 19) (r16 : Int).toNat)))] mt_Mo_loadOf rfl rfl tw_7_136 ts_50 tw_7_134 ⟨Nat.le_of_ble_eq_true rfl, Nat.le_of_ble_eq_true rfl⟩ rfl (Nat.le_of_ble_eq_true rfl) (dk_Mo_audit 26 rfl) rfl (c1.up (hs8.trans (hs15.trans hs22))) rfl t26 ?_
    have hs27 : p_x s19 s24 := t26.1
    show p_Go K l m_Mo_audit 45 [(0, p_r v0), (1, p_i v1)] [p_i r28, p_i (p_w ((p_Z s5 (p_R s0 v0 18) (r9 : Int).toNat) - (p_Z s12 (p_R s5 v0 19) (r16 : Int).toNat)))] s24 _
    refine g_icmp_eq 50 (dk_Mo_audit 27 rfl) (by decide) (fun b29 => ?_) (fun b29 => ?_)
    · have h := p_ifT b29 h
      refine g_iinc (j := 1) [(1, p_i (p_w (v1 + 1))), (0, p_r v0)] (dk_Mo_audit 30 rfl) rfl (by decide) rfl ?_
      refine p_ltG (P := fun q => p_Go K l m_Mo_audit 53 [(1, p_i q), (0, p_r v0)] [] s24 _) ?_ h
      intro x30 h
      refine g_goto 2 (dk_Mo_audit 31 rfl) (by decide) ?_
      refine g_sub [(0, p_r v0), (1, p_i x30)] [1, 0] rfl ?_
      exact hk2 v0 x30 s24 _ h
    · have h := p_ifF b29 h
      refine g_iload_n (i := 1) (j := 1) (dk_Mo_audit 28 rfl) rfl rfl ?_
      cases h
      exact g_ret rfl rfl (dk_Mo_audit 29 rfl) (fun os => ⟨_, rfl, p_okh os⟩)
set_option maxRecDepth 100000 in
set_option maxHeartbeats 4000000 in
theorem tO_Mo_audit_2 (K : p_K) (l : Launch)  : ∀ (n : Nat) (v0 : Nat) (v1 : Int) (s0 : p_Hp) (r : (Int × p_Hp)), O_Mo_audit_2 n v0 v1 s0 = some r → p_Go K l m_Mo_audit 2 [(0, p_r v0), (1, p_i v1)] [] s0 (some (p_i r.1), r.2) := by
  intro n
  induction n with
  | zero => intro v0 v1 s0 r h; cases (show (none : Option (Int × p_Hp)) = some r from h)
  | succ n ih => intro v0 v1 s0 r h; exact tL_Mo_audit_2 K l _ ih v0 v1 s0 r h
set_option maxRecDepth 100000 in
set_option maxHeartbeats 4000000 in
theorem tF_Mo_audit (K : p_K) (l : Launch) (v0 : Nat) (s0 : p_Hp) (r : (Int × p_Hp)) (h : F_Mo_audit v0 s0 = some r) : p_Ct K l m_Mo_audit [p_r v0] s0 (some (p_i r.1), r.2) := by
  refine p_Ct.of (by decide +kernel) (Nat.le_of_ble_eq_true rfl) ?_
  unfold F_Mo_audit at h
  show p_Go K l m_Mo_audit 0 [(0, p_r v0)] [] s0 _
  refine g_iconst (dk_Mo_audit 0 rfl) (by decide) ?_
  refine g_istore_n (i := 1) [(1, p_i 0), (0, p_r v0)] (dk_Mo_audit 1 rfl) rfl (by decide) rfl ?_
  refine g_sub [(0, p_r v0), (1, p_i 0)] [1, 0] rfl ?_
  exact tO_Mo_audit_2 K l 3000 v0 0 s0 _ h
def m_Mo_count : p_Me := (⟨"SortWorksModel", "count", "(I)I"⟩, prog_13_method_118_code, 2, (some .int), 0, 0)
theorem mt_Mo_count : p_Mt m_Mo_count 1 := ⟨p_mem (p_tb9 (List.mem_of_getElem? (i := 51) rfl)) rfl, tw_1_12, by decide +kernel, by decide +kernel, by decide +kernel⟩
def dt_Mo_count : List (Nat × Instr × Nat) := [(0, .iload_n 1, 1), (1, .tableswitch 191 0 13 #[71, 81, 91, 101, 111, 121, 131, 141, 146, 156, 166, 171, 181, 186], 71), (72, .aload_n 0, 1), (73, .getfield 7, 3), (76, .aload_n 0, 1), (77, .getfield 227, 3), (80, .iaload, 1), (81, .ireturn, 1), (82, .aload_n 0, 1), (83, .getfield 114, 3), (86, .aload_n 0, 1), (87, .getfield 227, 3), (90, .iaload, 1), (91, .ireturn, 1), (92, .aload_n 0, 1), (93, .getfield 117, 3), (96, .aload_n 0, 1), (97, .getfield 227, 3), (100, .iaload, 1), (101, .ireturn, 1), (102, .aload_n 0, 1), (103, .getfield 120, 3), (106, .aload_n 0, 1), (107, .getfield 227, 3), (110, .iaload, 1), (111, .ireturn, 1), (112, .aload_n 0, 1), (113, .getfield 141, 3), (116, .aload_n 0, 1), (117, .getfield 227, 3), (120, .iaload, 1), (121, .ireturn, 1), (122, .aload_n 0, 1), (123, .getfield 13, 3), (126, .aload_n 0, 1), (127, .getfield 227, 3), (130, .iaload, 1), (131, .ireturn, 1), (132, .aload_n 0, 1), (133, .getfield 126, 3), (136, .aload_n 0, 1), (137, .getfield 227, 3), (140, .iaload, 1), (141, .ireturn, 1), (142, .aload_n 0, 1), (143, .getfield 224, 3), (146, .ireturn, 1), (147, .aload_n 0, 1), (148, .getfield 207, 3), (151, .aload_n 0, 1), (152, .getfield 227, 3), (155, .iaload, 1), (156, .ireturn, 1), (157, .aload_n 0, 1), (158, .getfield 132, 3), (161, .aload_n 0, 1), (162, .getfield 227, 3), (165, .iaload, 1), (166, .ireturn, 1), (167, .aload_n 0, 1), (168, .getfield 295, 3), (171, .ireturn, 1), (172, .aload_n 0, 1), (173, .getfield 165, 3), (176, .aload_n 0, 1), (177, .getfield 227, 3), (180, .iaload, 1), (181, .ireturn, 1), (182, .aload_n 0, 1), (183, .getfield 227, 3), (186, .ireturn, 1), (187, .aload_n 0, 1), (188, .getfield 334, 3), (191, .ireturn, 1), (192, .bipush (-9), 2), (194, .ireturn, 1)]
theorem dk_Mo_count (i : Nat) {pc : Nat} {ins : Instr} {len : Nat} (h : dt_Mo_count[i]? = some (pc, ins, len)) : decode m_Mo_count.2.1 pc = .ok (ins, len) := p_dk (b := m_Mo_count.2.1) (t := dt_Mo_count) (by decide +kernel) i h
def F_Mo_count (v0 : Nat) (v1 : Int) (s0 : p_Hp) : Option (Int × p_Hp) :=
  if v1 = 0 then
    p_gd (p_is s0 v0 11) <|
    p_gd (p_is s0 (p_R s0 v0 3) 100) <|
    p_gd ((0 : Int) ≤ (p_Z s0 v0 0) ∧ (p_Z s0 v0 0) < (p_L s0 (p_R s0 v0 3) : Int)) <|
    some ((p_Z s0 (p_R s0 v0 3) ((p_Z s0 v0 0) : Int).toNat), s0)
  else if v1 = 1 then
    p_gd (p_is s0 v0 11) <|
    p_gd (p_is s0 (p_R s0 v0 38) 100) <|
    p_gd ((0 : Int) ≤ (p_Z s0 v0 0) ∧ (p_Z s0 v0 0) < (p_L s0 (p_R s0 v0 38) : Int)) <|
    some ((p_Z s0 (p_R s0 v0 38) ((p_Z s0 v0 0) : Int).toNat), s0)
  else if v1 = 2 then
    p_gd (p_is s0 v0 11) <|
    p_gd (p_is s0 (p_R s0 v0 39) 100) <|
    p_gd ((0 : Int) ≤ (p_Z s0 v0 0) ∧ (p_Z s0 v0 0) < (p_L s0 (p_R s0 v0 39) : Int)) <|
    some ((p_Z s0 (p_R s0 v0 39) ((p_Z s0 v0 0) : Int).toNat), s0)
  else if v1 = 3 then
    p_gd (p_is s0 v0 11) <|
    p_gd (p_is s0 (p_R s0 v0 40) 100) <|
    p_gd ((0 : Int) ≤ (p_Z s0 v0 0) ∧ (p_Z s0 v0 0) < (p_L s0 (p_R s0 v0 40) : Int)) <|
    some ((p_Z s0 (p_R s0 v0 40) ((p_Z s0 v0 0) : Int).toNat), s0)
  else if v1 = 4 then
    p_gd (p_is s0 v0 11) <|
    p_gd (p_is s0 (p_R s0 v0 48) 100) <|
    p_gd ((0 : Int) ≤ (p_Z s0 v0 0) ∧ (p_Z s0 v0 0) < (p_L s0 (p_R s0 v0 48) : Int)) <|
    some ((p_Z s0 (p_R s0 v0 48) ((p_Z s0 v0 0) : Int).toNat), s0)
  else if v1 = 5 then
    p_gd (p_is s0 v0 11) <|
    p_gd (p_is s0 (p_R s0 v0 4) 100) <|
    p_gd ((0 : Int) ≤ (p_Z s0 v0 0) ∧ (p_Z s0 v0 0) < (p_L s0 (p_R s0 v0 4) : Int)) <|
    some ((p_Z s0 (p_R s0 v0 4) ((p_Z s0 v0 0) : Int).toNat), s0)
  else if v1 = 6 then
    p_gd (p_is s0 v0 11) <|
    p_gd (p_is s0 (p_R s0 v0 42) 100) <|
    p_gd ((0 : Int) ≤ (p_Z s0 v0 0) ∧ (p_Z s0 v0 0) < (p_L s0 (p_R s0 v0 42) : Int)) <|
    some ((p_Z s0 (p_R s0 v0 42) ((p_Z s0 v0 0) : Int).toNat), s0)
  else if v1 = 7 then
    p_gd (p_is s0 v0 11) <|
    some ((p_Z s0 v0 2), s0)
  else if v1 = 8 then
    p_gd (p_is s0 v0 11) <|
    p_gd (p_is s0 (p_R s0 v0 81) 100) <|
    p_gd ((0 : Int) ≤ (p_Z s0 v0 0) ∧ (p_Z s0 v0 0) < (p_L s0 (p_R s0 v0 81) : Int)) <|
    some ((p_Z s0 (p_R s0 v0 81) ((p_Z s0 v0 0) : Int).toNat), s0)
  else if v1 = 9 then
    p_gd (p_is s0 v0 11) <|
    p_gd (p_is s0 (p_R s0 v0 44) 100) <|
    p_gd ((0 : Int) ≤ (p_Z s0 v0 0) ∧ (p_Z s0 v0 0) < (p_L s0 (p_R s0 v0 44) : Int)) <|
    some ((p_Z s0 (p_R s0 v0 44) ((p_Z s0 v0 0) : Int).toNat), s0)
  else if v1 = 10 then
    p_gd (p_is s0 v0 11) <|
    some ((p_Z s0 v0 47), s0)
  else if v1 = 11 then
    p_gd (p_is s0 v0 11) <|
    p_gd (p_is s0 (p_R s0 v0 56) 100) <|
    p_gd ((0 : Int) ≤ (p_Z s0 v0 0) ∧ (p_Z s0 v0 0) < (p_L s0 (p_R s0 v0 56) : Int)) <|
    some ((p_Z s0 (p_R s0 v0 56) ((p_Z s0 v0 0) : Int).toNat), s0)
  else if v1 = 12 then
    p_gd (p_is s0 v0 11) <|
    some ((p_Z s0 v0 0), s0)
  else if v1 = 13 then
    p_gd (p_is s0 v0 11) <|
    some ((p_Z s0 v0 23), s0)
  else 
  some ((-9), s0)
set_option maxRecDepth 100000 in
set_option maxHeartbeats 4000000 in
theorem tF_Mo_count (K : p_K) (l : Launch) (v0 : Nat) (v1 : Int) (s0 : p_Hp) (r : (Int × p_Hp)) (h : F_Mo_count v0 v1 s0 = some r) : p_Ct K l m_Mo_count [p_r v0, p_i v1] s0 (some (p_i r.1), r.2) := by
  refine p_Ct.of (by decide +kernel) (Nat.le_of_ble_eq_true rfl) ?_
  unfold F_Mo_count at h
  show p_Go K l m_Mo_count 0 [(0, p_r v0), (1, p_i v1)] [] s0 _
  refine g_iload_n (i := 1) (j := 1) (dk_Mo_count 0 rfl) rfl rfl ?_
  rcases p_iteE h with ⟨b1, h⟩ | ⟨b1, h⟩
  · refine g_tableIn 72 (dk_Mo_count 1 rfl) (by omega) (by omega) (by rw [b1]; rfl) (by decide) ?_
    refine g_aload_n (i := 0) (j := 0) (dk_Mo_count 2 rfl) rfl rfl ?_
    obtain ⟨c2, h⟩ := p_gdE h
    refine g_getR fl_Mo_7 (Or.inr ⟨_, rfl⟩) (dk_Mo_count 3 rfl) c2 ?_
    refine g_aload_n (i := 0) (j := 0) (dk_Mo_count 4 rfl) rfl rfl ?_
    refine g_getI fl_Mo_227 (Or.inl rfl) (dk_Mo_count 5 rfl) c2 ?_
    obtain ⟨c3, h⟩ := p_gdE h
    obtain ⟨c4, h⟩ := p_gdE h
    refine g_iaload (dk_Mo_count 6 rfl) c3 c4.1 c4.2 ?_
    cases h
    exact g_ret rfl rfl (dk_Mo_count 7 rfl) (fun os => ⟨_, rfl, p_okh os⟩)
  rcases p_iteE h with ⟨b5, h⟩ | ⟨b5, h⟩
  · refine g_tableIn 82 (dk_Mo_count 1 rfl) (by omega) (by omega) (by rw [b5]; rfl) (by decide) ?_
    refine g_aload_n (i := 0) (j := 0) (dk_Mo_count 8 rfl) rfl rfl ?_
    obtain ⟨c6, h⟩ := p_gdE h
    refine g_getR fl_Mo_114 (Or.inr ⟨_, rfl⟩) (dk_Mo_count 9 rfl) c6 ?_
    refine g_aload_n (i := 0) (j := 0) (dk_Mo_count 10 rfl) rfl rfl ?_
    refine g_getI fl_Mo_227 (Or.inl rfl) (dk_Mo_count 11 rfl) c6 ?_
    obtain ⟨c7, h⟩ := p_gdE h
    obtain ⟨c8, h⟩ := p_gdE h
    refine g_iaload (dk_Mo_count 12 rfl) c7 c8.1 c8.2 ?_
    cases h
    exact g_ret rfl rfl (dk_Mo_count 13 rfl) (fun os => ⟨_, rfl, p_okh os⟩)
  rcases p_iteE h with ⟨b9, h⟩ | ⟨b9, h⟩
  · refine g_tableIn 92 (dk_Mo_count 1 rfl) (by omega) (by omega) (by rw [b9]; rfl) (by decide) ?_
    refine g_aload_n (i := 0) (j := 0) (dk_Mo_count 14 rfl) rfl rfl ?_
    obtain ⟨c10, h⟩ := p_gdE h
    refine g_getR fl_Mo_117 (Or.inr ⟨_, rfl⟩) (dk_Mo_count 15 rfl) c10 ?_
    refine g_aload_n (i := 0) (j := 0) (dk_Mo_count 16 rfl) rfl rfl ?_
    refine g_getI fl_Mo_227 (Or.inl rfl) (dk_Mo_count 17 rfl) c10 ?_
    obtain ⟨c11, h⟩ := p_gdE h
    obtain ⟨c12, h⟩ := p_gdE h
    refine g_iaload (dk_Mo_count 18 rfl) c11 c12.1 c12.2 ?_
    cases h
    exact g_ret rfl rfl (dk_Mo_count 19 rfl) (fun os => ⟨_, rfl, p_okh os⟩)
  rcases p_iteE h with ⟨b13, h⟩ | ⟨b13, h⟩
  · refine g_tableIn 102 (dk_Mo_count 1 rfl) (by omega) (by omega) (by rw [b13]; rfl) (by decide) ?_
    refine g_aload_n (i := 0) (j := 0) (dk_Mo_count 20 rfl) rfl rfl ?_
    obtain ⟨c14, h⟩ := p_gdE h
    refine g_getR fl_Mo_120 (Or.inr ⟨_, rfl⟩) (dk_Mo_count 21 rfl) c14 ?_
    refine g_aload_n (i := 0) (j := 0) (dk_Mo_count 22 rfl) rfl rfl ?_
    refine g_getI fl_Mo_227 (Or.inl rfl) (dk_Mo_count 23 rfl) c14 ?_
    obtain ⟨c15, h⟩ := p_gdE h
    obtain ⟨c16, h⟩ := p_gdE h
    refine g_iaload (dk_Mo_count 24 rfl) c15 c16.1 c16.2 ?_
    cases h
    exact g_ret rfl rfl (dk_Mo_count 25 rfl) (fun os => ⟨_, rfl, p_okh os⟩)
  rcases p_iteE h with ⟨b17, h⟩ | ⟨b17, h⟩
  · refine g_tableIn 112 (dk_Mo_count 1 rfl) (by omega) (by omega) (by rw [b17]; rfl) (by decide) ?_
    refine g_aload_n (i := 0) (j := 0) (dk_Mo_count 26 rfl) rfl rfl ?_
    obtain ⟨c18, h⟩ := p_gdE h
    refine g_getR fl_Mo_141 (Or.inr ⟨_, rfl⟩) (dk_Mo_count 27 rfl) c18 ?_
    refine g_aload_n (i := 0) (j := 0) (dk_Mo_count 28 rfl) rfl rfl ?_
    refine g_getI fl_Mo_227 (Or.inl rfl) (dk_Mo_count 29 rfl) c18 ?_
    obtain ⟨c19, h⟩ := p_gdE h
    obtain ⟨c20, h⟩ := p_gdE h
    refine g_iaload (dk_Mo_count 30 rfl) c19 c20.1 c20.2 ?_
    cases h
    exact g_ret rfl rfl (dk_Mo_count 31 rfl) (fun os => ⟨_, rfl, p_okh os⟩)
  rcases p_iteE h with ⟨b21, h⟩ | ⟨b21, h⟩
  · refine g_tableIn 122 (dk_Mo_count 1 rfl) (by omega) (by omega) (by rw [b21]; rfl) (by decide) ?_
    refine g_aload_n (i := 0) (j := 0) (dk_Mo_count 32 rfl) rfl rfl ?_
    obtain ⟨c22, h⟩ := p_gdE h
    refine g_getR fl_Mo_13 (Or.inr ⟨_, rfl⟩) (dk_Mo_count 33 rfl) c22 ?_
    refine g_aload_n (i := 0) (j := 0) (dk_Mo_count 34 rfl) rfl rfl ?_
    refine g_getI fl_Mo_227 (Or.inl rfl) (dk_Mo_count 35 rfl) c22 ?_
    obtain ⟨c23, h⟩ := p_gdE h
    obtain ⟨c24, h⟩ := p_gdE h
    refine g_iaload (dk_Mo_count 36 rfl) c23 c24.1 c24.2 ?_
    cases h
    exact g_ret rfl rfl (dk_Mo_count 37 rfl) (fun os => ⟨_, rfl, p_okh os⟩)
  rcases p_iteE h with ⟨b25, h⟩ | ⟨b25, h⟩
  · refine g_tableIn 132 (dk_Mo_count 1 rfl) (by omega) (by omega) (by rw [b25]; rfl) (by decide) ?_
    refine g_aload_n (i := 0) (j := 0) (dk_Mo_count 38 rfl) rfl rfl ?_
    obtain ⟨c26, h⟩ := p_gdE h
    refine g_getR fl_Mo_126 (Or.inr ⟨_, rfl⟩) (dk_Mo_count 39 rfl) c26 ?_
    refine g_aload_n (i := 0) (j := 0) (dk_Mo_count 40 rfl) rfl rfl ?_
    refine g_getI fl_Mo_227 (Or.inl rfl) (dk_Mo_count 41 rfl) c26 ?_
    obtain ⟨c27, h⟩ := p_gdE h
    obtain ⟨c28, h⟩ := p_gdE h
    refine g_iaload (dk_Mo_count 42 rfl) c27 c28.1 c28.2 ?_
    cases h
    exact g_ret rfl rfl (dk_Mo_count 43 rfl) (fun os => ⟨_, rfl, p_okh os⟩)
  rcases p_iteE h with ⟨b29, h⟩ | ⟨b29, h⟩
  · refine g_tableIn 142 (dk_Mo_count 1 rfl) (by omega) (by omega) (by rw [b29]; rfl) (by decide) ?_
    refine g_aload_n (i := 0) (j := 0) (dk_Mo_count 44 rfl) rfl rfl ?_
    obtain ⟨c30, h⟩ := p_gdE h
    refine g_getI fl_Mo_224 (Or.inl rfl) (dk_Mo_count 45 rfl) c30 ?_
    cases h
    exact g_ret rfl rfl (dk_Mo_count 46 rfl) (fun os => ⟨_, rfl, p_okh os⟩)
  rcases p_iteE h with ⟨b31, h⟩ | ⟨b31, h⟩
  · refine g_tableIn 147 (dk_Mo_count 1 rfl) (by omega) (by omega) (by rw [b31]; rfl) (by decide) ?_
    refine g_aload_n (i := 0) (j := 0) (dk_Mo_count 47 rfl) rfl rfl ?_
    obtain ⟨c32, h⟩ := p_gdE h
    refine g_getR fl_Mo_207 (Or.inr ⟨_, rfl⟩) (dk_Mo_count 48 rfl) c32 ?_
    refine g_aload_n (i := 0) (j := 0) (dk_Mo_count 49 rfl) rfl rfl ?_
    refine g_getI fl_Mo_227 (Or.inl rfl) (dk_Mo_count 50 rfl) c32 ?_
    obtain ⟨c33, h⟩ := p_gdE h
    obtain ⟨c34, h⟩ := p_gdE h
    refine g_iaload (dk_Mo_count 51 rfl) c33 c34.1 c34.2 ?_
    cases h
    exact g_ret rfl rfl (dk_Mo_count 52 rfl) (fun os => ⟨_, rfl, p_okh os⟩)
  rcases p_iteE h with ⟨b35, h⟩ | ⟨b35, h⟩
  · refine g_tableIn 157 (dk_Mo_count 1 rfl) (by omega) (by omega) (by rw [b35]; rfl) (by decide) ?_
    refine g_aload_n (i := 0) (j := 0) (dk_Mo_count 53 rfl) rfl rfl ?_
    obtain ⟨c36, h⟩ := p_gdE h
    refine g_getR fl_Mo_132 (Or.inr ⟨_, rfl⟩) (dk_Mo_count 54 rfl) c36 ?_
    refine g_aload_n (i := 0) (j := 0) (dk_Mo_count 55 rfl) rfl rfl ?_
    refine g_getI fl_Mo_227 (Or.inl rfl) (dk_Mo_count 56 rfl) c36 ?_
    obtain ⟨c37, h⟩ := p_gdE h
    obtain ⟨c38, h⟩ := p_gdE h
    refine g_iaload (dk_Mo_count 57 rfl) c37 c38.1 c38.2 ?_
    cases h
    exact g_ret rfl rfl (dk_Mo_count 58 rfl) (fun os => ⟨_, rfl, p_okh os⟩)
  rcases p_iteE h with ⟨b39, h⟩ | ⟨b39, h⟩
  · refine g_tableIn 167 (dk_Mo_count 1 rfl) (by omega) (by omega) (by rw [b39]; rfl) (by decide) ?_
    refine g_aload_n (i := 0) (j := 0) (dk_Mo_count 59 rfl) rfl rfl ?_
    obtain ⟨c40, h⟩ := p_gdE h
    refine g_getI fl_Mo_295 (Or.inl rfl) (dk_Mo_count 60 rfl) c40 ?_
    cases h
    exact g_ret rfl rfl (dk_Mo_count 61 rfl) (fun os => ⟨_, rfl, p_okh os⟩)
  rcases p_iteE h with ⟨b41, h⟩ | ⟨b41, h⟩
  · refine g_tableIn 172 (dk_Mo_count 1 rfl) (by omega) (by omega) (by rw [b41]; rfl) (by decide) ?_
    refine g_aload_n (i := 0) (j := 0) (dk_Mo_count 62 rfl) rfl rfl ?_
    obtain ⟨c42, h⟩ := p_gdE h
    refine g_getR fl_Mo_165 (Or.inr ⟨_, rfl⟩) (dk_Mo_count 63 rfl) c42 ?_
    refine g_aload_n (i := 0) (j := 0) (dk_Mo_count 64 rfl) rfl rfl ?_
    refine g_getI fl_Mo_227 (Or.inl rfl) (dk_Mo_count 65 rfl) c42 ?_
    obtain ⟨c43, h⟩ := p_gdE h
    obtain ⟨c44, h⟩ := p_gdE h
    refine g_iaload (dk_Mo_count 66 rfl) c43 c44.1 c44.2 ?_
    cases h
    exact g_ret rfl rfl (dk_Mo_count 67 rfl) (fun os => ⟨_, rfl, p_okh os⟩)
  rcases p_iteE h with ⟨b45, h⟩ | ⟨b45, h⟩
  · refine g_tableIn 182 (dk_Mo_count 1 rfl) (by omega) (by omega) (by rw [b45]; rfl) (by decide) ?_
    refine g_aload_n (i := 0) (j := 0) (dk_Mo_count 68 rfl) rfl rfl ?_
    obtain ⟨c46, h⟩ := p_gdE h
    refine g_getI fl_Mo_227 (Or.inl rfl) (dk_Mo_count 69 rfl) c46 ?_
    cases h
    exact g_ret rfl rfl (dk_Mo_count 70 rfl) (fun os => ⟨_, rfl, p_okh os⟩)
  rcases p_iteE h with ⟨b47, h⟩ | ⟨b47, h⟩
  · refine g_tableIn 187 (dk_Mo_count 1 rfl) (by omega) (by omega) (by rw [b47]; rfl) (by decide) ?_
    refine g_aload_n (i := 0) (j := 0) (dk_Mo_count 71 rfl) rfl rfl ?_
    obtain ⟨c48, h⟩ := p_gdE h
    refine g_getI fl_Mo_334 (Or.inl rfl) (dk_Mo_count 72 rfl) c48 ?_
    cases h
    exact g_ret rfl rfl (dk_Mo_count 73 rfl) (fun os => ⟨_, rfl, p_okh os⟩)
  refine g_tableOut 192 (dk_Mo_count 1 rfl) (by omega) (by decide) ?_
  refine g_bipush (dk_Mo_count 74 rfl) (by decide +kernel) (by decide) ?_
  cases h
  exact g_ret rfl rfl (dk_Mo_count 75 rfl) (fun os => ⟨_, rfl, p_okh os⟩)
def m_Mo_adds : p_Me := (⟨"SortWorksModel", "adds", "(I)V"⟩, prog_13_method_119_code, 2, none, 0, 0)
theorem mt_Mo_adds : p_Mt m_Mo_adds 1 := ⟨p_mem (p_tb9 (List.mem_of_getElem? (i := 60) rfl)) rfl, tw_1_12, by decide +kernel, by decide +kernel, by decide +kernel⟩
def dt_Mo_adds : List (Nat × Instr × Nat) := [(0, .aload_n 0, 1), (1, .ldc2_w 538, 3), (4, .aload_n 0, 1), (5, .getfield 540, 3), (8, .lmul, 1), (9, .iload_n 1, 1), (10, .i2l, 1), (11, .ladd, 1), (12, .putfield 540, 3), (15, .return_, 1)]
theorem dk_Mo_adds (i : Nat) {pc : Nat} {ins : Instr} {len : Nat} (h : dt_Mo_adds[i]? = some (pc, ins, len)) : decode m_Mo_adds.2.1 pc = .ok (ins, len) := p_dk (b := m_Mo_adds.2.1) (t := dt_Mo_adds) (by decide +kernel) i h
def F_Mo_adds (v0 : Nat) (v1 : Int) (s0 : p_Hp) : Option p_Hp :=
  p_gd (p_is s0 v0 11) <|
  p_bi (p_wZ s0 v0 89 (p_w6 ((p_w6 (31 * (p_Z s0 v0 89))) + v1))) fun s2 =>
  some s2
set_option maxRecDepth 100000 in
set_option maxHeartbeats 4000000 in
theorem tF_Mo_adds (K : p_K) (l : Launch) (v0 : Nat) (v1 : Int) (s0 : p_Hp) (r : p_Hp) (h : F_Mo_adds v0 v1 s0 = some r) : p_Ct K l m_Mo_adds [p_r v0, p_i v1] s0 (none, r) := by
  refine p_Ct.of (by decide +kernel) (Nat.le_of_ble_eq_true rfl) ?_
  unfold F_Mo_adds at h
  show p_Go K l m_Mo_adds 0 [(0, p_r v0), (1, p_i v1)] [] s0 _
  refine g_aload_n (i := 0) (j := 0) (dk_Mo_adds 0 rfl) rfl rfl ?_
  refine g_ldc2_w (x := 31) (dk_Mo_adds 1 rfl) tw_9_61 (by decide) (by decide) ?_
  refine g_aload_n (i := 0) (j := 0) (dk_Mo_adds 2 rfl) rfl rfl ?_
  obtain ⟨c1, h⟩ := p_gdE h
  refine g_getJ fl_Mo_540 (dk_Mo_adds 3 rfl) c1 ?_
  refine g_lmul (dk_Mo_adds 4 rfl) ?_
  refine g_iload_n (i := 1) (j := 1) (dk_Mo_adds 5 rfl) rfl rfl ?_
  refine g_i2l (dk_Mo_adds 6 rfl) ?_
  refine g_ladd (dk_Mo_adds 7 rfl) ?_
  refine g_putJ fl_Mo_540 (Or.inl rfl) (dk_Mo_adds 8 rfl) c1 ?_
  refine p_ltS (P := fun q => p_Go K l m_Mo_adds 15 [(0, p_r v0), (1, p_i v1)] [] q _) (p_xZ _ _ _ _) ?_ h
  intro s2 hs3 h
  cases h
  exact g_ret rfl rfl (dk_Mo_adds 9 rfl) (fun _ => rfl)
def m_Mo_digest : p_Me := (⟨"SortWorksModel", "digest", "()J"⟩, prog_13_method_120_code, 5, (some .long), 3, 69)
theorem mt_Mo_digest : p_Mt m_Mo_digest 0 := ⟨p_mem (p_tb9 (List.mem_of_getElem? (i := 55) rfl)) rfl, tw_1_12, by decide +kernel, by decide +kernel, by decide +kernel⟩
def dt_Mo_digest : List (Nat × Instr × Nat) := [(0, .aload_n 0, 1), (1, .ldc2_w 544, 3), (4, .putfield 540, 3), (7, .aload_n 0, 1), (8, .aload_n 0, 1), (9, .getfield 13, 3), (12, .aload_n 0, 1), (13, .getfield 227, 3), (16, .iaload, 1), (17, .invokevirtual 546, 3), (20, .aload_n 0, 1), (21, .aload_n 0, 1), (22, .getfield 7, 3), (25, .aload_n 0, 1), (26, .getfield 227, 3), (29, .iaload, 1), (30, .invokevirtual 546, 3), (33, .iconst 0, 1), (34, .istore_n 1, 1), (35, .iload_n 1, 1), (36, .aload_n 0, 1), (37, .getfield 7, 3), (40, .aload_n 0, 1), (41, .getfield 227, 3), (44, .iaload, 1), (45, .if_icmp .ge 127, 3), (48, .aload_n 0, 1), (49, .iload_n 1, 1), (50, .invokevirtual 257, 3), (53, .istore_n 2, 1), (54, .aload_n 0, 1), (55, .aload_n 0, 1), (56, .getfield 16, 3), (59, .iload_n 2, 1), (60, .iaload, 1), (61, .invokevirtual 546, 3), (64, .iconst 2, 1), (65, .istore_n 3, 1), (66, .iload_n 3, 1), (67, .bipush 15, 2), (69, .if_icmp .ge 19, 3), (72, .aload_n 0, 1), (73, .aload_n 0, 1), (74, .iload_n 1, 1), (75, .iload_n 3, 1), (76, .invokevirtual 549, 3), (79, .invokevirtual 546, 3), (82, .iinc 3 1, 3), (85, .goto (-19), 3), (88, .iconst 0, 1), (89, .istore_n 3, 1), (90, .iload_n 3, 1), (91, .aload_n 0, 1), (92, .getfield 19, 3), (95, .iload_n 2, 1), (96, .iaload, 1), (97, .if_icmp .ge 69, 3), (100, .aload_n 0, 1), (101, .getfield 69, 3), (104, .bipush 8, 2), (106, .iload_n 2, 1), (107, .imul, 1), (108, .iload_n 3, 1), (109, .iadd, 1), (110, .iaload, 1), (111, .istore 4, 2), (113, .aload_n 0, 1), (114, .iload 4, 2), (116, .ifCond .ne 7, 3), (119, .iconst 0, 1), (120, .goto 21, 3), (123, .bipush 16, 2), (125, .aload_n 0, 1), (126, .getfield 84, 3), (129, .iload 4, 2), (131, .iaload, 1), (132, .imul, 1), (133, .aload_n 0, 1), (134, .getfield 87, 3), (137, .iload 4, 2), (139, .iaload, 1), (140, .iadd, 1), (141, .invokevirtual 546, 3), (144, .iload 4, 2), (146, .ifCond .le 14, 3), (149, .aload_n 0, 1), (150, .aload_n 0, 1), (151, .getfield 90, 3), (154, .iload 4, 2), (156, .iaload, 1), (157, .invokevirtual 546, 3), (160, .iinc 3 1, 3), (163, .goto (-73), 3), (166, .iinc 1 1, 3), (169, .goto (-134), 3), (172, .aload_n 0, 1), (173, .aload_n 0, 1), (174, .getfield 114, 3), (177, .aload_n 0, 1), (178, .getfield 227, 3), (181, .iaload, 1), (182, .invokevirtual 546, 3), (185, .aload_n 0, 1), (186, .aload_n 0, 1), (187, .getfield 117, 3), (190, .aload_n 0, 1), (191, .getfield 227, 3), (194, .iaload, 1), (195, .invokevirtual 546, 3), (198, .aload_n 0, 1), (199, .aload_n 0, 1), (200, .getfield 120, 3), (203, .aload_n 0, 1), (204, .getfield 227, 3), (207, .iaload, 1), (208, .invokevirtual 546, 3), (211, .aload_n 0, 1), (212, .aload_n 0, 1), (213, .getfield 126, 3), (216, .aload_n 0, 1), (217, .getfield 227, 3), (220, .iaload, 1), (221, .invokevirtual 546, 3), (224, .aload_n 0, 1), (225, .getfield 540, 3), (228, .lreturn, 1)]
theorem dk_Mo_digest (i : Nat) {pc : Nat} {ins : Instr} {len : Nat} (h : dt_Mo_digest[i]? = some (pc, ins, len)) : decode m_Mo_digest.2.1 pc = .ok (ins, len) := p_dk (b := m_Mo_digest.2.1) (t := dt_Mo_digest) (by decide +kernel) i h
def B_Mo_digest_160 (k35 : Nat → Int → p_Hp → Option (Int × p_Hp)) (k90 : Nat → Int → Int → Int → p_Hp → Option (Int × p_Hp)) (v0 : Nat) (v1 : Int) (v2 : Int) (v3 : Int) (s0 : p_Hp) : Option (Int × p_Hp) :=
  p_bi (p_w (v3 + 1)) fun x1 =>
  k90 v0 v1 v2 x1 s0
def B_Mo_digest_141 (k35 : Nat → Int → p_Hp → Option (Int × p_Hp)) (k90 : Nat → Int → Int → Int → p_Hp → Option (Int × p_Hp)) (v0 : Nat) (v1 : Int) (v2 : Int) (v3 : Int) (v4 : Int) (w0 : Int) (w1 : Nat) (s0 : p_Hp) : Option (Int × p_Hp) :=
  p_gd (p_is s0 w1 11) <|
  p_bv (F_Mo_adds w1 w0 s0) fun s2 =>
  if v4 ≤ 0 then
    B_Mo_digest_160 k35 k90 v0 v1 v2 v3 s2
  else
    p_gd (p_is s2 v0 11) <|
    p_gd (p_is s2 (p_R s2 v0 30) 100) <|
    p_gd ((0 : Int) ≤ v4 ∧ v4 < (p_L s2 (p_R s2 v0 30) : Int)) <|
    p_bv (F_Mo_adds v0 (p_Z s2 (p_R s2 v0 30) (v4 : Int).toNat) s2) fun s10 =>
    B_Mo_digest_160 k35 k90 v0 v1 v2 v3 s10
def L_Mo_digest_90 (k35 : Nat → Int → p_Hp → Option (Int × p_Hp)) (k90 : Nat → Int → Int → Int → p_Hp → Option (Int × p_Hp)) (v0 : Nat) (v1 : Int) (v2 : Int) (v3 : Int) (s0 : p_Hp) : Option (Int × p_Hp) :=
  p_gd (p_is s0 v0 11) <|
  p_gd (p_is s0 (p_R s0 v0 6) 100) <|
  p_gd ((0 : Int) ≤ v2 ∧ v2 < (p_L s0 (p_R s0 v0 6) : Int)) <|
  if (p_Z s0 (p_R s0 v0 6) (v2 : Int).toNat) ≤ v3 then
    p_bi (p_w (v1 + 1)) fun x5 =>
    k35 v0 x5 s0
  else
    p_gd (p_is s0 (p_R s0 v0 22) 100) <|
    p_gd ((0 : Int) ≤ (p_w ((p_w (8 * v2)) + v3)) ∧ (p_w ((p_w (8 * v2)) + v3)) < (p_L s0 (p_R s0 v0 22) : Int)) <|
    p_bi ((p_Z s0 (p_R s0 v0 22) ((p_w ((p_w (8 * v2)) + v3)) : Int).toNat)) fun x8 =>
    if x8 ≠ 0 then
      p_gd (p_is s0 (p_R s0 v0 28) 100) <|
      p_gd ((0 : Int) ≤ x8 ∧ x8 < (p_L s0 (p_R s0 v0 28) : Int)) <|
      p_gd (p_is s0 (p_R s0 v0 29) 100) <|
      p_gd ((0 : Int) ≤ x8 ∧ x8 < (p_L s0 (p_R s0 v0 29) : Int)) <|
      B_Mo_digest_141 k35 k90 v0 v1 v2 v3 x8 (p_w ((p_w (16 * (p_Z s0 (p_R s0 v0 28) (x8 : Int).toNat))) + (p_Z s0 (p_R s0 v0 29) (x8 : Int).toNat))) v0 s0
    else
      B_Mo_digest_141 k35 k90 v0 v1 v2 v3 x8 0 v0 s0
def O_Mo_digest_90 (k35 : Nat → Int → p_Hp → Option (Int × p_Hp)) : Nat → Nat → Int → Int → Int → p_Hp → Option (Int × p_Hp)
  | 0 => fun _ _ _ _ _ => none
  | n + 1 => L_Mo_digest_90 k35 (O_Mo_digest_90 k35 n)
def L_Mo_digest_66 (k35 : Nat → Int → p_Hp → Option (Int × p_Hp)) (k66 : Nat → Int → Int → Int → p_Hp → Option (Int × p_Hp)) (v0 : Nat) (v1 : Int) (v2 : Int) (v3 : Int) (s0 : p_Hp) : Option (Int × p_Hp) :=
  if 15 ≤ v3 then
    O_Mo_digest_90 k35 3000 v0 v1 v2 0 s0
  else
    p_gd (p_is s0 v0 11) <|
    p_bd (F_Mo_told v0 v1 v3 s0) fun r7 s3 =>
    p_bv (F_Mo_adds v0 r7 s3) fun s8 =>
    p_bi (p_w (v3 + 1)) fun x12 =>
    k66 v0 v1 v2 x12 s8
def O_Mo_digest_66 (k35 : Nat → Int → p_Hp → Option (Int × p_Hp)) : Nat → Nat → Int → Int → Int → p_Hp → Option (Int × p_Hp)
  | 0 => fun _ _ _ _ _ => none
  | n + 1 => L_Mo_digest_66 k35 (O_Mo_digest_66 k35 n)
def L_Mo_digest_35 (k35 : Nat → Int → p_Hp → Option (Int × p_Hp)) (v0 : Nat) (v1 : Int) (s0 : p_Hp) : Option (Int × p_Hp) :=
  p_gd (p_is s0 v0 11) <|
  p_gd (p_is s0 (p_R s0 v0 3) 100) <|
  p_gd ((0 : Int) ≤ (p_Z s0 v0 0) ∧ (p_Z s0 v0 0) < (p_L s0 (p_R s0 v0 3) : Int)) <|
  if (p_Z s0 (p_R s0 v0 3) ((p_Z s0 v0 0) : Int).toNat) ≤ v1 then
    p_gd (p_is s0 (p_R s0 v0 38) 100) <|
    p_gd ((0 : Int) ≤ (p_Z s0 v0 0) ∧ (p_Z s0 v0 0) < (p_L s0 (p_R s0 v0 38) : Int)) <|
    p_bv (F_Mo_adds v0 (p_Z s0 (p_R s0 v0 38) ((p_Z s0 v0 0) : Int).toNat) s0) fun s7 =>
    p_gd (p_is s7 (p_R s7 v0 39) 100) <|
    p_gd ((0 : Int) ≤ (p_Z s7 v0 0) ∧ (p_Z s7 v0 0) < (p_L s7 (p_R s7 v0 39) : Int)) <|
    p_bv (F_Mo_adds v0 (p_Z s7 (p_R s7 v0 39) ((p_Z s7 v0 0) : Int).toNat) s7) fun s13 =>
    p_gd (p_is s13 (p_R s13 v0 40) 100) <|
    p_gd ((0 : Int) ≤ (p_Z s13 v0 0) ∧ (p_Z s13 v0 0) < (p_L s13 (p_R s13 v0 40) : Int)) <|
    p_bv (F_Mo_adds v0 (p_Z s13 (p_R s13 v0 40) ((p_Z s13 v0 0) : Int).toNat) s13) fun s19 =>
    p_gd (p_is s19 (p_R s19 v0 42) 100) <|
    p_gd ((0 : Int) ≤ (p_Z s19 v0 0) ∧ (p_Z s19 v0 0) < (p_L s19 (p_R s19 v0 42) : Int)) <|
    p_bv (F_Mo_adds v0 (p_Z s19 (p_R s19 v0 42) ((p_Z s19 v0 0) : Int).toNat) s19) fun s25 =>
    some ((p_Z s25 v0 89), s25)
  else
    p_bd (F_Mo_g v0 v1 s0) fun r33 s29 =>
    p_gd (p_is s29 (p_R s29 v0 5) 100) <|
    p_gd ((0 : Int) ≤ r33 ∧ r33 < (p_L s29 (p_R s29 v0 5) : Int)) <|
    p_bv (F_Mo_adds v0 (p_Z s29 (p_R s29 v0 5) (r33 : Int).toNat) s29) fun s36 =>
    O_Mo_digest_66 k35 3000 v0 v1 r33 2 s36
def O_Mo_digest_35  : Nat → Nat → Int → p_Hp → Option (Int × p_Hp)
  | 0 => fun _ _ _ => none
  | n + 1 => L_Mo_digest_35 (O_Mo_digest_35 n)
def F_Mo_digest (v0 : Nat) (s0 : p_Hp) : Option (Int × p_Hp) :=
  p_gd (p_is s0 v0 11) <|
  p_bi (p_wZ s0 v0 89 17) fun s2 =>
  p_gd (p_is s2 (p_R s2 v0 4) 100) <|
  p_gd ((0 : Int) ≤ (p_Z s2 v0 0) ∧ (p_Z s2 v0 0) < (p_L s2 (p_R s2 v0 4) : Int)) <|
  p_bv (F_Mo_adds v0 (p_Z s2 (p_R s2 v0 4) ((p_Z s2 v0 0) : Int).toNat) s2) fun s6 =>
  p_gd (p_is s6 (p_R s6 v0 3) 100) <|
  p_gd ((0 : Int) ≤ (p_Z s6 v0 0) ∧ (p_Z s6 v0 0) < (p_L s6 (p_R s6 v0 3) : Int)) <|
  p_bv (F_Mo_adds v0 (p_Z s6 (p_R s6 v0 3) ((p_Z s6 v0 0) : Int).toNat) s6) fun s12 =>
  O_Mo_digest_35 3000 v0 0 s12
set_option maxRecDepth 100000 in
set_option maxHeartbeats 4000000 in
theorem tB_Mo_digest_160 (K : p_K) (l : Launch) (k35 : Nat → Int → p_Hp → Option (Int × p_Hp)) (hk35 : ∀ (v0 : Nat) (v1 : Int)  (s0 : p_Hp) (r : (Int × p_Hp)), k35 v0 v1 s0 = some r → p_Go K l m_Mo_digest 35 [(0, p_r v0), (1, p_i v1)] [] s0 (some (p_j r.1), r.2)) (k90 : Nat → Int → Int → Int → p_Hp → Option (Int × p_Hp)) (hk90 : ∀ (v0 : Nat) (v1 : Int) (v2 : Int) (v3 : Int)  (s0 : p_Hp) (r : (Int × p_Hp)), k90 v0 v1 v2 v3 s0 = some r → p_Go K l m_Mo_digest 90 [(0, p_r v0), (1, p_i v1), (2, p_i v2), (3, p_i v3)] [] s0 (some (p_j r.1), r.2)) (v0 : Nat) (v1 : Int) (v2 : Int) (v3 : Int) (s0 : p_Hp) (r : (Int × p_Hp)) (h : B_Mo_digest_160 k35 k90 v0 v1 v2 v3 s0 = some r) : p_Go K l m_Mo_digest 160 [(0, p_r v0), (1, p_i v1), (2, p_i v2), (3, p_i v3)] [] s0 (some (p_j r.1), r.2) := by
  unfold B_Mo_digest_160 at h
  refine g_iinc (j := 3) [(3, p_i (p_w (v3 + 1))), (0, p_r v0), (1, p_i v1), (2, p_i v2)] (dk_Mo_digest 91 rfl) rfl (by decide) rfl ?_
  refine p_ltG (P := fun q => p_Go K l m_Mo_digest 163 [(3, p_i q), (0, p_r v0), (1, p_i v1), (2, p_i v2)] [] s0 _) ?_ h
  intro x1 h
  refine g_goto 90 (dk_Mo_digest 92 rfl) (by decide) ?_
  refine g_sub [(0, p_r v0), (1, p_i v1), (2, p_i v2), (3, p_i x1)] [1, 2, 3, 0] rfl ?_
  exact hk90 v0 v1 v2 x1 s0 _ h
set_option maxRecDepth 100000 in
set_option maxHeartbeats 4000000 in
theorem tB_Mo_digest_141 (K : p_K) (l : Launch) (k35 : Nat → Int → p_Hp → Option (Int × p_Hp)) (hk35 : ∀ (v0 : Nat) (v1 : Int)  (s0 : p_Hp) (r : (Int × p_Hp)), k35 v0 v1 s0 = some r → p_Go K l m_Mo_digest 35 [(0, p_r v0), (1, p_i v1)] [] s0 (some (p_j r.1), r.2)) (k90 : Nat → Int → Int → Int → p_Hp → Option (Int × p_Hp)) (hk90 : ∀ (v0 : Nat) (v1 : Int) (v2 : Int) (v3 : Int)  (s0 : p_Hp) (r : (Int × p_Hp)), k90 v0 v1 v2 v3 s0 = some r → p_Go K l m_Mo_digest 90 [(0, p_r v0), (1, p_i v1), (2, p_i v2), (3, p_i v3)] [] s0 (some (p_j r.1), r.2)) (v0 : Nat) (v1 : Int) (v2 : Int) (v3 : Int) (v4 : Int) (w0 : Int) (w1 : Nat) (s0 : p_Hp) (r : (Int × p_Hp)) (h : B_Mo_digest_141 k35 k90 v0 v1 v2 v3 v4 w0 w1 s0 = some r) : p_Go K l m_Mo_digest 141 [(0, p_r v0), (1, p_i v1), (2, p_i v2), (3, p_i v3), (4, p_i v4)] [p_i w0, p_r w1] s0 (some (p_j r.1), r.2) := by
  unfold B_Mo_digest_141 at h
  obtain ⟨c1, h⟩ := p_gdE h
  obtain ⟨s2, q3, h⟩ := p_bvE h
  have t4 := tF_Mo_adds K l w1 w0 s0 _ q3
  refine g_callV (a := w1) (ci := 11) (q0 := (RX11, TX11, 90)) (As := [p_i w0]) (rest := []) [] mt_Mo_adds rfl rfl tw_9_59 ts_105 tw_9_57 ⟨Nat.le_of_ble_eq_true rfl, Nat.le_of_ble_eq_true rfl⟩ rfl (Nat.le_of_ble_eq_true rfl) (dk_Mo_digest 82 rfl) rfl c1 rfl t4 ?_
  have hs5 : p_x s0 s2 := t4.1
  show p_Go K l m_Mo_digest 144 [(0, p_r v0), (1, p_i v1), (2, p_i v2), (3, p_i v3), (4, p_i v4)] [] s2 _
  refine g_iload (j := 4) (dk_Mo_digest 83 rfl) rfl ?_
  refine g_if_le 160 (dk_Mo_digest 84 rfl) (by decide) (fun b6 => ?_) (fun b6 => ?_)
  · have h := p_ifT b6 h
    refine g_sub [(0, p_r v0), (1, p_i v1), (2, p_i v2), (3, p_i v3)] [0, 1, 2, 3] rfl ?_
    exact tB_Mo_digest_160 K l k35 hk35 k90 hk90 v0 v1 v2 v3 s2 _ h
  · have h := p_ifF b6 h
    refine g_aload_n (i := 0) (j := 0) (dk_Mo_digest 85 rfl) rfl rfl ?_
    refine g_aload_n (i := 0) (j := 0) (dk_Mo_digest 86 rfl) rfl rfl ?_
    obtain ⟨c7, h⟩ := p_gdE h
    refine g_getR fl_Mo_90 (Or.inr ⟨_, rfl⟩) (dk_Mo_digest 87 rfl) c7 ?_
    refine g_iload (j := 4) (dk_Mo_digest 88 rfl) rfl ?_
    obtain ⟨c8, h⟩ := p_gdE h
    obtain ⟨c9, h⟩ := p_gdE h
    refine g_iaload (dk_Mo_digest 89 rfl) c8 c9.1 c9.2 ?_
    obtain ⟨s10, q11, h⟩ := p_bvE h
    have t12 := tF_Mo_adds K l v0 (p_Z s2 (p_R s2 v0 30) (v4 : Int).toNat) s2 _ q11
    refine g_callV (a := v0) (ci := 11) (q0 := (RX11, TX11, 90)) (As := [p_i (p_Z s2 (p_R s2 v0 30) (v4 : Int).toNat)]) (rest := []) [] mt_Mo_adds rfl rfl tw_9_59 ts_105 tw_9_57 ⟨Nat.le_of_ble_eq_true rfl, Nat.le_of_ble_eq_true rfl⟩ rfl (Nat.le_of_ble_eq_true rfl) (dk_Mo_digest 90 rfl) rfl c7 rfl t12 ?_
    have hs13 : p_x s2 s10 := t12.1
    show p_Go K l m_Mo_digest 160 [(0, p_r v0), (1, p_i v1), (2, p_i v2), (3, p_i v3), (4, p_i v4)] [] s10 _
    refine g_sub [(0, p_r v0), (1, p_i v1), (2, p_i v2), (3, p_i v3)] [0, 1, 2, 3] rfl ?_
    exact tB_Mo_digest_160 K l k35 hk35 k90 hk90 v0 v1 v2 v3 s10 _ h
set_option maxRecDepth 100000 in
set_option maxHeartbeats 4000000 in
theorem tL_Mo_digest_90 (K : p_K) (l : Launch) (k35 : Nat → Int → p_Hp → Option (Int × p_Hp)) (hk35 : ∀ (v0 : Nat) (v1 : Int)  (s0 : p_Hp) (r : (Int × p_Hp)), k35 v0 v1 s0 = some r → p_Go K l m_Mo_digest 35 [(0, p_r v0), (1, p_i v1)] [] s0 (some (p_j r.1), r.2)) (k90 : Nat → Int → Int → Int → p_Hp → Option (Int × p_Hp)) (hk90 : ∀ (v0 : Nat) (v1 : Int) (v2 : Int) (v3 : Int)  (s0 : p_Hp) (r : (Int × p_Hp)), k90 v0 v1 v2 v3 s0 = some r → p_Go K l m_Mo_digest 90 [(0, p_r v0), (1, p_i v1), (2, p_i v2), (3, p_i v3)] [] s0 (some (p_j r.1), r.2)) (v0 : Nat) (v1 : Int) (v2 : Int) (v3 : Int) (s0 : p_Hp) (r : (Int × p_Hp)) (h : L_Mo_digest_90 k35 k90 v0 v1 v2 v3 s0 = some r) : p_Go K l m_Mo_digest 90 [(0, p_r v0), (1, p_i v1), (2, p_i v2), (3, p_i v3)] [] s0 (some (p_j r.1), r.2) := by
  unfold L_Mo_digest_90 at h
  refine g_iload_n (i := 3) (j := 3) (dk_Mo_digest 51 rfl) rfl rfl ?_
  refine g_aload_n (i := 0) (j := 0) (dk_Mo_digest 52 rfl) rfl rfl ?_
  obtain ⟨c1, h⟩ := p_gdE h
  refine g_getR fl_Mo_19 (Or.inr ⟨_, rfl⟩) (dk_Mo_digest 53 rfl) c1 ?_
  refine g_iload_n (i := 2) (j := 2) (dk_Mo_digest 54 rfl) rfl rfl ?_
  obtain ⟨c2, h⟩ := p_gdE h
  obtain ⟨c3, h⟩ := p_gdE h
  refine g_iaload (dk_Mo_digest 55 rfl) c2 c3.1 c3.2 ?_
  refine g_icmp_ge 166 (dk_Mo_digest 56 rfl) (by decide) (fun b4 => ?_) (fun b4 => ?_)
  · have h := p_ifT b4 h
    refine g_iinc (j := 1) [(1, p_i (p_w (v1 + 1))), (0, p_r v0), (2, p_i v2), (3, p_i v3)] (dk_Mo_digest 93 rfl) rfl (by decide) rfl ?_
    refine p_ltG (P := fun q => p_Go K l m_Mo_digest 169 [(1, p_i q), (0, p_r v0), (2, p_i v2), (3, p_i v3)] [] s0 _) ?_ h
    intro x5 h
    refine g_goto 35 (dk_Mo_digest 94 rfl) (by decide) ?_
    refine g_sub [(0, p_r v0), (1, p_i x5)] [1, 0] rfl ?_
    exact hk35 v0 x5 s0 _ h
  · have h := p_ifF b4 h
    refine g_aload_n (i := 0) (j := 0) (dk_Mo_digest 57 rfl) rfl rfl ?_
    refine g_getR fl_Mo_69 (Or.inr ⟨_, rfl⟩) (dk_Mo_digest 58 rfl) c1 ?_
    refine g_bipush (dk_Mo_digest 59 rfl) (by decide +kernel) (by decide) ?_
    refine g_iload_n (i := 2) (j := 2) (dk_Mo_digest 60 rfl) rfl rfl ?_
    refine g_imul (dk_Mo_digest 61 rfl) ?_
    refine g_iload_n (i := 3) (j := 3) (dk_Mo_digest 62 rfl) rfl rfl ?_
    refine g_iadd (dk_Mo_digest 63 rfl) ?_
    obtain ⟨c6, h⟩ := p_gdE h
    obtain ⟨c7, h⟩ := p_gdE h
    refine g_iaload (dk_Mo_digest 64 rfl) c6 c7.1 c7.2 ?_
    refine g_istore [(4, p_i (p_Z s0 (p_R s0 v0 22) ((p_w ((p_w (8 * v2)) + v3)) : Int).toNat)), (0, p_r v0), (1, p_i v1), (2, p_i v2), (3, p_i v3)] (dk_Mo_digest 65 rfl) (by decide) rfl ?_
    refine p_ltG (P := fun q => p_Go K l m_Mo_digest 113 [(4, p_i q), (0, p_r v0), (1, p_i v1), (2, p_i v2), (3, p_i v3)] [] s0 _) ?_ h
    intro x8 h
    refine g_aload_n (i := 0) (j := 1) (dk_Mo_digest 66 rfl) rfl rfl ?_
    refine g_iload (j := 0) (dk_Mo_digest 67 rfl) rfl ?_
    refine g_if_ne 123 (dk_Mo_digest 68 rfl) (by decide) (fun b9 => ?_) (fun b9 => ?_)
    · have h := p_ifT b9 h
      refine g_bipush (dk_Mo_digest 71 rfl) (by decide +kernel) (by decide) ?_
      refine g_aload_n (i := 0) (j := 1) (dk_Mo_digest 72 rfl) rfl rfl ?_
      refine g_getR fl_Mo_84 (Or.inr ⟨_, rfl⟩) (dk_Mo_digest 73 rfl) c1 ?_
      refine g_iload (j := 0) (dk_Mo_digest 74 rfl) rfl ?_
      obtain ⟨c10, h⟩ := p_gdE h
      obtain ⟨c11, h⟩ := p_gdE h
      refine g_iaload (dk_Mo_digest 75 rfl) c10 c11.1 c11.2 ?_
      refine g_imul (dk_Mo_digest 76 rfl) ?_
      refine g_aload_n (i := 0) (j := 1) (dk_Mo_digest 77 rfl) rfl rfl ?_
      refine g_getR fl_Mo_87 (Or.inr ⟨_, rfl⟩) (dk_Mo_digest 78 rfl) c1 ?_
      refine g_iload (j := 0) (dk_Mo_digest 79 rfl) rfl ?_
      obtain ⟨c12, h⟩ := p_gdE h
      obtain ⟨c13, h⟩ := p_gdE h
      refine g_iaload (dk_Mo_digest 80 rfl) c12 c13.1 c13.2 ?_
      refine g_iadd (dk_Mo_digest 81 rfl) ?_
      refine g_sub [(0, p_r v0), (1, p_i v1), (2, p_i v2), (3, p_i v3), (4, p_i x8)] [1, 2, 3, 4, 0] rfl ?_
      exact tB_Mo_digest_141 K l k35 hk35 k90 hk90 v0 v1 v2 v3 x8 (p_w ((p_w (16 * (p_Z s0 (p_R s0 v0 28) (x8 : Int).toNat))) + (p_Z s0 (p_R s0 v0 29) (x8 : Int).toNat))) v0 s0 _ h
    · have h := p_ifF b9 h
      refine g_iconst (dk_Mo_digest 69 rfl) (by decide) ?_
      refine g_goto 141 (dk_Mo_digest 70 rfl) (by decide) ?_
      refine g_sub [(0, p_r v0), (1, p_i v1), (2, p_i v2), (3, p_i v3), (4, p_i x8)] [1, 2, 3, 4, 0] rfl ?_
      exact tB_Mo_digest_141 K l k35 hk35 k90 hk90 v0 v1 v2 v3 x8 0 v0 s0 _ h
set_option maxRecDepth 100000 in
set_option maxHeartbeats 4000000 in
theorem tO_Mo_digest_90 (K : p_K) (l : Launch) (k35 : Nat → Int → p_Hp → Option (Int × p_Hp)) (hk35 : ∀ (v0 : Nat) (v1 : Int)  (s0 : p_Hp) (r : (Int × p_Hp)), k35 v0 v1 s0 = some r → p_Go K l m_Mo_digest 35 [(0, p_r v0), (1, p_i v1)] [] s0 (some (p_j r.1), r.2)) : ∀ (n : Nat) (v0 : Nat) (v1 : Int) (v2 : Int) (v3 : Int) (s0 : p_Hp) (r : (Int × p_Hp)), O_Mo_digest_90 k35 n v0 v1 v2 v3 s0 = some r → p_Go K l m_Mo_digest 90 [(0, p_r v0), (1, p_i v1), (2, p_i v2), (3, p_i v3)] [] s0 (some (p_j r.1), r.2) := by
  intro n
  induction n with
  | zero => intro v0 v1 v2 v3 s0 r h; cases (show (none : Option (Int × p_Hp)) = some r from h)
  | succ n ih => intro v0 v1 v2 v3 s0 r h; exact tL_Mo_digest_90 K l k35 hk35 _ ih v0 v1 v2 v3 s0 r h
set_option maxRecDepth 100000 in
set_option maxHeartbeats 4000000 in
theorem tL_Mo_digest_66 (K : p_K) (l : Launch) (k35 : Nat → Int → p_Hp → Option (Int × p_Hp)) (hk35 : ∀ (v0 : Nat) (v1 : Int)  (s0 : p_Hp) (r : (Int × p_Hp)), k35 v0 v1 s0 = some r → p_Go K l m_Mo_digest 35 [(0, p_r v0), (1, p_i v1)] [] s0 (some (p_j r.1), r.2)) (k66 : Nat → Int → Int → Int → p_Hp → Option (Int × p_Hp)) (hk66 : ∀ (v0 : Nat) (v1 : Int) (v2 : Int) (v3 : Int)  (s0 : p_Hp) (r : (Int × p_Hp)), k66 v0 v1 v2 v3 s0 = some r → p_Go K l m_Mo_digest 66 [(0, p_r v0), (1, p_i v1), (2, p_i v2), (3, p_i v3)] [] s0 (some (p_j r.1), r.2)) (v0 : Nat) (v1 : Int) (v2 : Int) (v3 : Int) (s0 : p_Hp) (r : (Int × p_Hp)) (h : L_Mo_digest_66 k35 k66 v0 v1 v2 v3 s0 = some r) : p_Go K l m_Mo_digest 66 [(0, p_r v0), (1, p_i v1), (2, p_i v2), (3, p_i v3)] [] s0 (some (p_j r.1), r.2) := by
  unfold L_Mo_digest_66 at h
  refine g_iload_n (i := 3) (j := 3) (dk_Mo_digest 38 rfl) rfl rfl ?_
  refine g_bipush (dk_Mo_digest 39 rfl) (by decide +kernel) (by decide) ?_
  refine g_icmp_ge 88 (dk_Mo_digest 40 rfl) (by decide) (fun b1 => ?_) (fun b1 => ?_)
  · have h := p_ifT b1 h
    refine g_iconst (dk_Mo_digest 49 rfl) (by decide) ?_
    refine g_istore_n (i := 3) [(3, p_i 0), (0, p_r v0), (1, p_i v1), (2, p_i v2)] (dk_Mo_digest 50 rfl) rfl (by decide) rfl ?_
    refine g_sub [(0, p_r v0), (1, p_i v1), (2, p_i v2), (3, p_i 0)] [1, 2, 3, 0] rfl ?_
    exact tO_Mo_digest_90 K l k35 hk35 3000 v0 v1 v2 0 s0 _ h
  · have h := p_ifF b1 h
    refine g_aload_n (i := 0) (j := 0) (dk_Mo_digest 41 rfl) rfl rfl ?_
    refine g_aload_n (i := 0) (j := 0) (dk_Mo_digest 42 rfl) rfl rfl ?_
    refine g_iload_n (i := 1) (j := 1) (dk_Mo_digest 43 rfl) rfl rfl ?_
    refine g_iload_n (i := 3) (j := 3) (dk_Mo_digest 44 rfl) rfl rfl ?_
    obtain ⟨c2, h⟩ := p_gdE h
    obtain ⟨r7, s3, q4, h⟩ := p_bdE h
    have t5 := tF_Mo_told K l v0 v1 v3 s0 _ q4
    refine g_callV (a := v0) (ci := 11) (q0 := (RX11, TX11, 90)) (As := [p_i v1, p_i v3]) (rest := [p_r v0]) [p_i r7, p_r v0] mt_Mo_told rfl rfl tw_8_197 tw_8_198 tw_9_62 ⟨Nat.le_of_ble_eq_true rfl, Nat.le_of_ble_eq_true rfl⟩ rfl (Nat.le_of_ble_eq_true rfl) (dk_Mo_digest 45 rfl) rfl c2 rfl t5 ?_
    have hs6 : p_x s0 s3 := t5.1
    show p_Go K l m_Mo_digest 79 [(0, p_r v0), (1, p_i v1), (2, p_i v2), (3, p_i v3)] [p_i r7, p_r v0] s3 _
    obtain ⟨s8, q9, h⟩ := p_bvE h
    have t10 := tF_Mo_adds K l v0 r7 s3 _ q9
    refine g_callV (a := v0) (ci := 11) (q0 := (RX11, TX11, 90)) (As := [p_i r7]) (rest := []) [] mt_Mo_adds rfl rfl tw_9_59 ts_105 tw_9_57 ⟨Nat.le_of_ble_eq_true rfl, Nat.le_of_ble_eq_true rfl⟩ rfl (Nat.le_of_ble_eq_true rfl) (dk_Mo_digest 46 rfl) rfl (c2.up hs6) rfl t10 ?_
    have hs11 : p_x s3 s8 := t10.1
    show p_Go K l m_Mo_digest 82 [(0, p_r v0), (1, p_i v1), (2, p_i v2), (3, p_i v3)] [] s8 _
    refine g_iinc (j := 3) [(3, p_i (p_w (v3 + 1))), (0, p_r v0), (1, p_i v1), (2, p_i v2)] (dk_Mo_digest 47 rfl) rfl (by decide) rfl ?_
    refine p_ltG (P := fun q => p_Go K l m_Mo_digest 85 [(3, p_i q), (0, p_r v0), (1, p_i v1), (2, p_i v2)] [] s8 _) ?_ h
    intro x12 h
    refine g_goto 66 (dk_Mo_digest 48 rfl) (by decide) ?_
    refine g_sub [(0, p_r v0), (1, p_i v1), (2, p_i v2), (3, p_i x12)] [1, 2, 3, 0] rfl ?_
    exact hk66 v0 v1 v2 x12 s8 _ h
set_option maxRecDepth 100000 in
set_option maxHeartbeats 4000000 in
theorem tO_Mo_digest_66 (K : p_K) (l : Launch) (k35 : Nat → Int → p_Hp → Option (Int × p_Hp)) (hk35 : ∀ (v0 : Nat) (v1 : Int)  (s0 : p_Hp) (r : (Int × p_Hp)), k35 v0 v1 s0 = some r → p_Go K l m_Mo_digest 35 [(0, p_r v0), (1, p_i v1)] [] s0 (some (p_j r.1), r.2)) : ∀ (n : Nat) (v0 : Nat) (v1 : Int) (v2 : Int) (v3 : Int) (s0 : p_Hp) (r : (Int × p_Hp)), O_Mo_digest_66 k35 n v0 v1 v2 v3 s0 = some r → p_Go K l m_Mo_digest 66 [(0, p_r v0), (1, p_i v1), (2, p_i v2), (3, p_i v3)] [] s0 (some (p_j r.1), r.2) := by
  intro n
  induction n with
  | zero => intro v0 v1 v2 v3 s0 r h; cases (show (none : Option (Int × p_Hp)) = some r from h)
  | succ n ih => intro v0 v1 v2 v3 s0 r h; exact tL_Mo_digest_66 K l k35 hk35 _ ih v0 v1 v2 v3 s0 r h
set_option maxRecDepth 100000 in
set_option maxHeartbeats 4000000 in
theorem tL_Mo_digest_35 (K : p_K) (l : Launch) (k35 : Nat → Int → p_Hp → Option (Int × p_Hp)) (hk35 : ∀ (v0 : Nat) (v1 : Int)  (s0 : p_Hp) (r : (Int × p_Hp)), k35 v0 v1 s0 = some r → p_Go K l m_Mo_digest 35 [(0, p_r v0), (1, p_i v1)] [] s0 (some (p_j r.1), r.2)) (v0 : Nat) (v1 : Int) (s0 : p_Hp) (r : (Int × p_Hp)) (h : L_Mo_digest_35 k35 v0 v1 s0 = some r) : p_Go K l m_Mo_digest 35 [(0, p_r v0), (1, p_i v1)] [] s0 (some (p_j r.1), r.2) := by
  unfold L_Mo_digest_35 at h
  refine g_iload_n (i := 1) (j := 1) (dk_Mo_digest 19 rfl) rfl rfl ?_
  refine g_aload_n (i := 0) (j := 0) (dk_Mo_digest 20 rfl) rfl rfl ?_
  obtain ⟨c1, h⟩ := p_gdE h
  refine g_getR fl_Mo_7 (Or.inr ⟨_, rfl⟩) (dk_Mo_digest 21 rfl) c1 ?_
  refine g_aload_n (i := 0) (j := 0) (dk_Mo_digest 22 rfl) rfl rfl ?_
  refine g_getI fl_Mo_227 (Or.inl rfl) (dk_Mo_digest 23 rfl) c1 ?_
  obtain ⟨c2, h⟩ := p_gdE h
  obtain ⟨c3, h⟩ := p_gdE h
  refine g_iaload (dk_Mo_digest 24 rfl) c2 c3.1 c3.2 ?_
  refine g_icmp_ge 172 (dk_Mo_digest 25 rfl) (by decide) (fun b4 => ?_) (fun b4 => ?_)
  · have h := p_ifT b4 h
    refine g_aload_n (i := 0) (j := 0) (dk_Mo_digest 95 rfl) rfl rfl ?_
    refine g_aload_n (i := 0) (j := 0) (dk_Mo_digest 96 rfl) rfl rfl ?_
    refine g_getR fl_Mo_114 (Or.inr ⟨_, rfl⟩) (dk_Mo_digest 97 rfl) c1 ?_
    refine g_aload_n (i := 0) (j := 0) (dk_Mo_digest 98 rfl) rfl rfl ?_
    refine g_getI fl_Mo_227 (Or.inl rfl) (dk_Mo_digest 99 rfl) c1 ?_
    obtain ⟨c5, h⟩ := p_gdE h
    obtain ⟨c6, h⟩ := p_gdE h
    refine g_iaload (dk_Mo_digest 100 rfl) c5 c6.1 c6.2 ?_
    obtain ⟨s7, q8, h⟩ := p_bvE h
    have t9 := tF_Mo_adds K l v0 (p_Z s0 (p_R s0 v0 38) ((p_Z s0 v0 0) : Int).toNat) s0 _ q8
    refine g_callV (a := v0) (ci := 11) (q0 := (RX11, TX11, 90)) (As := [p_i (p_Z s0 (p_R s0 v0 38) ((p_Z s0 v0 0) : Int).toNat)]) (rest := []) [] mt_Mo_adds rfl rfl tw_9_59 ts_105 tw_9_57 ⟨Nat.le_of_ble_eq_true rfl, Nat.le_of_ble_eq_true rfl⟩ rfl (Nat.le_of_ble_eq_true rfl) (dk_Mo_digest 101 rfl) rfl c1 rfl t9 ?_
    have hs10 : p_x s0 s7 := t9.1
    show p_Go K l m_Mo_digest 185 [(0, p_r v0), (1, p_i v1)] [] s7 _
    refine g_aload_n (i := 0) (j := 0) (dk_Mo_digest 102 rfl) rfl rfl ?_
    refine g_aload_n (i := 0) (j := 0) (dk_Mo_digest 103 rfl) rfl rfl ?_
    refine g_getR fl_Mo_117 (Or.inr ⟨_, rfl⟩) (dk_Mo_digest 104 rfl) (c1.up hs10) ?_
    refine g_aload_n (i := 0) (j := 0) (dk_Mo_digest 105 rfl) rfl rfl ?_
    refine g_getI fl_Mo_227 (Or.inl rfl) (dk_Mo_digest 106 rfl) (c1.up hs10) ?_
    obtain ⟨c11, h⟩ := p_gdE h
    obtain ⟨c12, h⟩ := p_gdE h
    refine g_iaload (dk_Mo_digest 107 rfl) c11 c12.1 c12.2 ?_
    obtain ⟨s13, q14, h⟩ := p_bvE h
    have t15 := tF_Mo_adds K l v0 (p_Z s7 (p_R s7 v0 39) ((p_Z s7 v0 0) : Int).toNat) s7 _ q14
    refine g_callV (a := v0) (ci := 11) (q0 := (RX11, TX11, 90)) (As := [p_i (p_Z s7 (p_R s7 v0 39) ((p_Z s7 v0 0) : Int).toNat)]) (rest := []) [] mt_Mo_adds rfl rfl tw_9_59 ts_105 tw_9_57 ⟨Nat.le_of_ble_eq_true rfl, Nat.le_of_ble_eq_true rfl⟩ rfl (Nat.le_of_ble_eq_true rfl) (dk_Mo_digest 108 rfl) rfl (c1.up hs10) rfl t15 ?_
    have hs16 : p_x s7 s13 := t15.1
    show p_Go K l m_Mo_digest 198 [(0, p_r v0), (1, p_i v1)] [] s13 _
    refine g_aload_n (i := 0) (j := 0) (dk_Mo_digest 109 rfl) rfl rfl ?_
    refine g_aload_n (i := 0) (j := 0) (dk_Mo_digest 110 rfl) rfl rfl ?_
    refine g_getR fl_Mo_120 (Or.inr ⟨_, rfl⟩) (dk_Mo_digest 111 rfl) (c1.up (hs10.trans hs16)) ?_
    refine g_aload_n (i := 0) (j := 0) (dk_Mo_digest 112 rfl) rfl rfl ?_
    refine g_getI fl_Mo_227 (Or.inl rfl) (dk_Mo_digest 113 rfl) (c1.up (hs10.trans hs16)) ?_
    obtain ⟨c17, h⟩ := p_gdE h
    obtain ⟨c18, h⟩ := p_gdE h
    refine g_iaload (dk_Mo_digest 114 rfl) c17 c18.1 c18.2 ?_
    obtain ⟨s19, q20, h⟩ := p_bvE h
    have t21 := tF_Mo_adds K l v0 (p_Z s13 (p_R s13 v0 40) ((p_Z s13 v0 0) : Int).toNat) s13 _ q20
    refine g_callV (a := v0) (ci := 11) (q0 := (RX11, TX11, 90)) (As := [p_i (p_Z s13 (p_R s13 v0 40) ((p_Z s13 v0 0) : Int).toNat)]) (rest := []) [] mt_Mo_adds rfl rfl tw_9_59 ts_105 tw_9_57 ⟨Nat.le_of_ble_eq_true rfl, Nat.le_of_ble_eq_true rfl⟩ rfl (Nat.le_of_ble_eq_true rfl) (dk_Mo_digest 115 rfl) rfl (c1.up (hs10.trans hs16)) rfl t21 ?_
    have hs22 : p_x s13 s19 := t21.1
    show p_Go K l m_Mo_digest 211 [(0, p_r v0), (1, p_i v1)] [] s19 _
    refine g_aload_n (i := 0) (j := 0) (dk_Mo_digest 116 rfl) rfl rfl ?_
    refine g_aload_n (i := 0) (j := 0) (dk_Mo_digest 117 rfl) rfl rfl ?_
    refine g_getR fl_Mo_126 (Or.inr ⟨_, rfl⟩) (dk_Mo_digest 118 rfl) (c1.up (hs10.trans (hs16.trans hs22))) ?_
    refine g_aload_n (i := 0) (j := 0) (dk_Mo_digest 119 rfl) rfl rfl ?_
    refine g_getI fl_Mo_227 (Or.inl rfl) (dk_Mo_digest 120 rfl) (c1.up (hs10.trans (hs16.trans hs22))) ?_
    obtain ⟨c23, h⟩ := p_gdE h
    obtain ⟨c24, h⟩ := p_gdE h
    refine g_iaload (dk_Mo_digest 121 rfl) c23 c24.1 c24.2 ?_
    obtain ⟨s25, q26, h⟩ := p_bvE h
    have t27 := tF_Mo_adds K l v0 (p_Z s19 (p_R s19 v0 42) ((p_Z s19 v0 0) : Int).toNat) s19 _ q26
    refine g_callV (a := v0) (ci := 11) (q0 := (RX11, TX11, 90)) (As := [p_i (p_Z s19 (p_R s19 v0 42) ((p_Z s19 v0 0) : Int).toNat)]) (rest := []) [] mt_Mo_adds rfl rfl tw_9_59 ts_105 tw_9_57 ⟨Nat.le_of_ble_eq_true rfl, Nat.le_of_ble_eq_true rfl⟩ rfl (Nat.le_of_ble_eq_true rfl) (dk_Mo_digest 122 rfl) rfl (c1.up (hs10.trans (hs16.trans hs22))) rfl t27 ?_
    have hs28 : p_x s19 s25 := t27.1
    show p_Go K l m_Mo_digest 224 [(0, p_r v0), (1, p_i v1)] [] s25 _
    refine g_aload_n (i := 0) (j := 0) (dk_Mo_digest 123 rfl) rfl rfl ?_
    refine g_getJ fl_Mo_540 (dk_Mo_digest 124 rfl) (c1.up (hs10.trans (hs16.trans (hs22.trans hs28)))) ?_
    cases h
    exact g_ret rfl rfl (dk_Mo_digest 125 rfl) (fun os => ⟨_, rfl, p_okh os⟩)
  · have h := p_ifF b4 h
    refine g_aload_n (i := 0) (j := 0) (dk_Mo_digest 26 rfl) rfl rfl ?_
    refine g_iload_n (i := 1) (j := 1) (dk_Mo_digest 27 rfl) rfl rfl ?_
    obtain ⟨r33, s29, q30, h⟩ := p_bdE h
    have t31 := tF_Mo_g K l v0 v1 s0 _ q30
    refine g_callV (a := v0) (ci := 11) (q0 := (RX11, TX11, 90)) (As := [p_i v1]) (rest := []) [p_i r33] mt_Mo_g rfl rfl tw_7_84 ts_45 tw_7_82 ⟨Nat.le_of_ble_eq_true rfl, Nat.le_of_ble_eq_true rfl⟩ rfl (Nat.le_of_ble_eq_true rfl) (dk_Mo_digest 28 rfl) rfl c1 rfl t31 ?_
    have hs32 : p_x s0 s29 := t31.1
    show p_Go K l m_Mo_digest 53 [(0, p_r v0), (1, p_i v1)] [p_i r33] s29 _
    refine g_istore_n (i := 2) [(2, p_i r33), (0, p_r v0), (1, p_i v1)] (dk_Mo_digest 29 rfl) rfl (by decide) rfl ?_
    refine g_aload_n (i := 0) (j := 1) (dk_Mo_digest 30 rfl) rfl rfl ?_
    refine g_aload_n (i := 0) (j := 1) (dk_Mo_digest 31 rfl) rfl rfl ?_
    refine g_getR fl_Mo_16 (Or.inr ⟨_, rfl⟩) (dk_Mo_digest 32 rfl) (c1.up hs32) ?_
    refine g_iload_n (i := 2) (j := 0) (dk_Mo_digest 33 rfl) rfl rfl ?_
    obtain ⟨c34, h⟩ := p_gdE h
    obtain ⟨c35, h⟩ := p_gdE h
    refine g_iaload (dk_Mo_digest 34 rfl) c34 c35.1 c35.2 ?_
    obtain ⟨s36, q37, h⟩ := p_bvE h
    have t38 := tF_Mo_adds K l v0 (p_Z s29 (p_R s29 v0 5) (r33 : Int).toNat) s29 _ q37
    refine g_callV (a := v0) (ci := 11) (q0 := (RX11, TX11, 90)) (As := [p_i (p_Z s29 (p_R s29 v0 5) (r33 : Int).toNat)]) (rest := []) [] mt_Mo_adds rfl rfl tw_9_59 ts_105 tw_9_57 ⟨Nat.le_of_ble_eq_true rfl, Nat.le_of_ble_eq_true rfl⟩ rfl (Nat.le_of_ble_eq_true rfl) (dk_Mo_digest 35 rfl) rfl (c1.up hs32) rfl t38 ?_
    have hs39 : p_x s29 s36 := t38.1
    show p_Go K l m_Mo_digest 64 [(2, p_i r33), (0, p_r v0), (1, p_i v1)] [] s36 _
    refine g_iconst (dk_Mo_digest 36 rfl) (by decide) ?_
    refine g_istore_n (i := 3) [(3, p_i 2), (2, p_i r33), (0, p_r v0), (1, p_i v1)] (dk_Mo_digest 37 rfl) rfl (by decide) rfl ?_
    refine g_sub [(0, p_r v0), (1, p_i v1), (2, p_i r33), (3, p_i 2)] [2, 3, 1, 0] rfl ?_
    exact tO_Mo_digest_66 K l k35 hk35 3000 v0 v1 r33 2 s36 _ h
set_option maxRecDepth 100000 in
set_option maxHeartbeats 4000000 in
theorem tO_Mo_digest_35 (K : p_K) (l : Launch)  : ∀ (n : Nat) (v0 : Nat) (v1 : Int) (s0 : p_Hp) (r : (Int × p_Hp)), O_Mo_digest_35 n v0 v1 s0 = some r → p_Go K l m_Mo_digest 35 [(0, p_r v0), (1, p_i v1)] [] s0 (some (p_j r.1), r.2) := by
  intro n
  induction n with
  | zero => intro v0 v1 s0 r h; cases (show (none : Option (Int × p_Hp)) = some r from h)
  | succ n ih => intro v0 v1 s0 r h; exact tL_Mo_digest_35 K l _ ih v0 v1 s0 r h
set_option maxRecDepth 100000 in
set_option maxHeartbeats 4000000 in
theorem tF_Mo_digest (K : p_K) (l : Launch) (v0 : Nat) (s0 : p_Hp) (r : (Int × p_Hp)) (h : F_Mo_digest v0 s0 = some r) : p_Ct K l m_Mo_digest [p_r v0] s0 (some (p_j r.1), r.2) := by
  refine p_Ct.of (by decide +kernel) (Nat.le_of_ble_eq_true rfl) ?_
  unfold F_Mo_digest at h
  show p_Go K l m_Mo_digest 0 [(0, p_r v0)] [] s0 _
  refine g_aload_n (i := 0) (j := 0) (dk_Mo_digest 0 rfl) rfl rfl ?_
  refine g_ldc2_w (x := 17) (dk_Mo_digest 1 rfl) tw_9_56 (by decide) (by decide) ?_
  obtain ⟨c1, h⟩ := p_gdE h
  refine g_putJ fl_Mo_540 (Or.inl rfl) (dk_Mo_digest 2 rfl) c1 ?_
  refine p_ltS (P := fun q => p_Go K l m_Mo_digest 7 [(0, p_r v0)] [] q _) (p_xZ _ _ _ _) ?_ h
  intro s2 hs3 h
  refine g_aload_n (i := 0) (j := 0) (dk_Mo_digest 3 rfl) rfl rfl ?_
  refine g_aload_n (i := 0) (j := 0) (dk_Mo_digest 4 rfl) rfl rfl ?_
  refine g_getR fl_Mo_13 (Or.inr ⟨_, rfl⟩) (dk_Mo_digest 5 rfl) (c1.up hs3) ?_
  refine g_aload_n (i := 0) (j := 0) (dk_Mo_digest 6 rfl) rfl rfl ?_
  refine g_getI fl_Mo_227 (Or.inl rfl) (dk_Mo_digest 7 rfl) (c1.up hs3) ?_
  obtain ⟨c4, h⟩ := p_gdE h
  obtain ⟨c5, h⟩ := p_gdE h
  refine g_iaload (dk_Mo_digest 8 rfl) c4 c5.1 c5.2 ?_
  obtain ⟨s6, q7, h⟩ := p_bvE h
  have t8 := tF_Mo_adds K l v0 (p_Z s2 (p_R s2 v0 4) ((p_Z s2 v0 0) : Int).toNat) s2 _ q7
  refine g_callV (a := v0) (ci := 11) (q0 := (RX11, TX11, 90)) (As := [p_i (p_Z s2 (p_R s2 v0 4) ((p_Z s2 v0 0) : Int).toNat)]) (rest := []) [] mt_Mo_adds rfl rfl tw_9_59 ts_105 tw_9_57 ⟨Nat.le_of_ble_eq_true rfl, Nat.le_of_ble_eq_true rfl⟩ rfl (Nat.le_of_ble_eq_true rfl) (dk_Mo_digest 9 rfl) rfl (c1.up hs3) rfl t8 ?_
  have hs9 : p_x s2 s6 := t8.1
  show p_Go K l m_Mo_digest 20 [(0, p_r v0)] [] s6 _
  refine g_aload_n (i := 0) (j := 0) (dk_Mo_digest 10 rfl) rfl rfl ?_
  refine g_aload_n (i := 0) (j := 0) (dk_Mo_digest 11 rfl) rfl rfl ?_
  refine g_getR fl_Mo_7 (Or.inr ⟨_, rfl⟩) (dk_Mo_digest 12 rfl) (c1.up (hs3.trans hs9)) ?_
  refine g_aload_n (i := 0) (j := 0) (dk_Mo_digest 13 rfl) rfl rfl ?_
  refine g_getI fl_Mo_227 (Or.inl rfl) (dk_Mo_digest 14 rfl) (c1.up (hs3.trans hs9)) ?_
  obtain ⟨c10, h⟩ := p_gdE h
  obtain ⟨c11, h⟩ := p_gdE h
  refine g_iaload (dk_Mo_digest 15 rfl) c10 c11.1 c11.2 ?_
  obtain ⟨s12, q13, h⟩ := p_bvE h
  have t14 := tF_Mo_adds K l v0 (p_Z s6 (p_R s6 v0 3) ((p_Z s6 v0 0) : Int).toNat) s6 _ q13
  refine g_callV (a := v0) (ci := 11) (q0 := (RX11, TX11, 90)) (As := [p_i (p_Z s6 (p_R s6 v0 3) ((p_Z s6 v0 0) : Int).toNat)]) (rest := []) [] mt_Mo_adds rfl rfl tw_9_59 ts_105 tw_9_57 ⟨Nat.le_of_ble_eq_true rfl, Nat.le_of_ble_eq_true rfl⟩ rfl (Nat.le_of_ble_eq_true rfl) (dk_Mo_digest 16 rfl) rfl (c1.up (hs3.trans hs9)) rfl t14 ?_
  have hs15 : p_x s6 s12 := t14.1
  show p_Go K l m_Mo_digest 33 [(0, p_r v0)] [] s12 _
  refine g_iconst (dk_Mo_digest 17 rfl) (by decide) ?_
  refine g_istore_n (i := 1) [(1, p_i 0), (0, p_r v0)] (dk_Mo_digest 18 rfl) rfl (by decide) rfl ?_
  refine g_sub [(0, p_r v0), (1, p_i 0)] [1, 0] rfl ?_
  exact tO_Mo_digest_35 K l 3000 v0 0 s12 _ h
def m_La_law : p_Me := (⟨"SortWorksLaw", "law", "([I)Z"⟩, code, 4, (some .boolean), 12, 492)
def dt_La_law : List (Nat × Instr × Nat) := [(0, .new 7, 3), (3, .dup, 1), (4, .invokespecial 9, 3), (7, .astore_n 1, 1), (8, .new 10, 3), (11, .dup, 1), (12, .invokespecial 12, 3), (15, .astore_n 2, 1), (16, .iconst 0, 1), (17, .istore_n 3, 1), (18, .iload_n 3, 1), (19, .aload_n 0, 1), (20, .arraylength, 1), (21, .bipush 6, 2), (23, .isub, 1), (24, .if_icmp .gt 1683, 3), (27, .aload_n 0, 1), (28, .iload_n 3, 1), (29, .iaload, 1), (30, .bipush 63, 2), (32, .iand, 1), (33, .tableswitch 1668 0 46 #[203, 226, 259, 292, 335, 404, 437, 470, 493, 516, 529, 592, 635, 668, 711, 754, 803, 836, 869, 892, 925, 968, 1011, 1044, 1057, 1090, 1113, 1126, 1159, 1192, 1225, 1258, 1291, 1324, 1347, 1380, 1413, 1436, 1459, 1492, 1515, 1538, 1571, 1595, 1618, 1631, 1654], 203), (236, .aload_n 1, 1), (237, .aload_n 0, 1), (238, .iload_n 3, 1), (239, .iconst 1, 1), (240, .iadd, 1), (241, .iaload, 1), (242, .invokevirtual 13, 3), (245, .aload_n 2, 1), (246, .aload_n 0, 1), (247, .iload_n 3, 1), (248, .iconst 1, 1), (249, .iadd, 1), (250, .iaload, 1), (251, .invokevirtual 17, 3), (254, .if_icmp .eq 1447, 3), (257, .iconst 0, 1), (258, .ireturn, 1), (259, .aload_n 1, 1), (260, .aload_n 0, 1), (261, .iload_n 3, 1), (262, .iconst 1, 1), (263, .iadd, 1), (264, .iaload, 1), (265, .aload_n 0, 1), (266, .iload_n 3, 1), (267, .iconst 2, 1), (268, .iadd, 1), (269, .iaload, 1), (270, .invokevirtual 18, 3), (273, .aload_n 2, 1), (274, .aload_n 0, 1), (275, .iload_n 3, 1), (276, .iconst 1, 1), (277, .iadd, 1), (278, .iaload, 1), (279, .aload_n 0, 1), (280, .iload_n 3, 1), (281, .iconst 2, 1), (282, .iadd, 1), (283, .iaload, 1), (284, .invokevirtual 22, 3), (287, .if_icmp .eq 1414, 3), (290, .iconst 0, 1), (291, .ireturn, 1), (292, .aload_n 1, 1), (293, .aload_n 0, 1), (294, .iload_n 3, 1), (295, .iconst 1, 1), (296, .iadd, 1), (297, .iaload, 1), (298, .aload_n 0, 1), (299, .iload_n 3, 1), (300, .iconst 2, 1), (301, .iadd, 1), (302, .iaload, 1), (303, .invokevirtual 23, 3), (306, .aload_n 2, 1), (307, .aload_n 0, 1), (308, .iload_n 3, 1), (309, .iconst 1, 1), (310, .iadd, 1), (311, .iaload, 1), (312, .aload_n 0, 1), (313, .iload_n 3, 1), (314, .iconst 2, 1), (315, .iadd, 1), (316, .iaload, 1), (317, .invokevirtual 26, 3), (320, .if_icmp .eq 1381, 3), (323, .iconst 0, 1), (324, .ireturn, 1), (325, .aload_n 1, 1), (326, .aload_n 0, 1), (327, .iload_n 3, 1), (328, .iconst 1, 1), (329, .iadd, 1), (330, .iaload, 1), (331, .aload_n 0, 1), (332, .iload_n 3, 1), (333, .iconst 2, 1), (334, .iadd, 1), (335, .iaload, 1), (336, .aload_n 0, 1), (337, .iload_n 3, 1), (338, .iconst 3, 1), (339, .iadd, 1), (340, .iaload, 1), (341, .invokevirtual 27, 3), (344, .aload_n 2, 1), (345, .aload_n 0, 1), (346, .iload_n 3, 1), (347, .iconst 1, 1), (348, .iadd, 1), (349, .iaload, 1), (350, .aload_n 0, 1), (351, .iload_n 3, 1), (352, .iconst 2, 1), (353, .iadd, 1), (354, .iaload, 1), (355, .aload_n 0, 1), (356, .iload_n 3, 1), (357, .iconst 3, 1), (358, .iadd, 1), (359, .iaload, 1), (360, .invokevirtual 31, 3), (363, .if_icmp .eq 1338, 3), (366, .iconst 0, 1), (367, .ireturn, 1), (368, .aload_n 1, 1), (369, .aload_n 0, 1), (370, .iload_n 3, 1), (371, .iconst 1, 1), (372, .iadd, 1), (373, .iaload, 1), (374, .aload_n 0, 1), (375, .iload_n 3, 1), (376, .iconst 2, 1), (377, .iadd, 1), (378, .iaload, 1), (379, .aload_n 0, 1), (380, .iload_n 3, 1), (381, .iconst 3, 1), (382, .iadd, 1), (383, .iaload, 1), (384, .aload_n 0, 1), (385, .iload_n 3, 1), (386, .iconst 4, 1), (387, .iadd, 1), (388, .iaload, 1), (389, .ifCond .eq 7, 3), (392, .iconst 1, 1), (393, .goto 4, 3), (396, .iconst 0, 1), (397, .invokevirtual 32, 3), (400, .aload_n 2, 1), (401, .aload_n 0, 1), (402, .iload_n 3, 1), (403, .iconst 1, 1), (404, .iadd, 1), (405, .iaload, 1), (406, .aload_n 0, 1), (407, .iload_n 3, 1), (408, .iconst 2, 1), (409, .iadd, 1), (410, .iaload, 1), (411, .aload_n 0, 1), (412, .iload_n 3, 1), (413, .iconst 3, 1), (414, .iadd, 1), (415, .iaload, 1), (416, .aload_n 0, 1), (417, .iload_n 3, 1), (418, .iconst 4, 1), (419, .iadd, 1), (420, .iaload, 1), (421, .ifCond .eq 7, 3), (424, .iconst 1, 1), (425, .goto 4, 3), (428, .iconst 0, 1), (429, .invokevirtual 36, 3), (432, .if_icmp .eq 1269, 3), (435, .iconst 0, 1), (436, .ireturn, 1), (437, .aload_n 1, 1), (438, .aload_n 0, 1), (439, .iload_n 3, 1), (440, .iconst 1, 1), (441, .iadd, 1), (442, .iaload, 1), (443, .aload_n 0, 1), (444, .iload_n 3, 1), (445, .iconst 2, 1), (446, .iadd, 1), (447, .iaload, 1), (448, .invokevirtual 37, 3), (451, .aload_n 2, 1), (452, .aload_n 0, 1), (453, .iload_n 3, 1), (454, .iconst 1, 1), (455, .iadd, 1), (456, .iaload, 1), (457, .aload_n 0, 1), (458, .iload_n 3, 1), (459, .iconst 2, 1), (460, .iadd, 1), (461, .iaload, 1), (462, .invokevirtual 40, 3), (465, .if_icmp .eq 1236, 3), (468, .iconst 0, 1), (469, .ireturn, 1), (470, .aload_n 1, 1), (471, .aload_n 0, 1), (472, .iload_n 3, 1), (473, .iconst 1, 1), (474, .iadd, 1), (475, .iaload, 1), (476, .aload_n 0, 1), (477, .iload_n 3, 1), (478, .iconst 2, 1), (479, .iadd, 1), (480, .iaload, 1), (481, .invokevirtual 41, 3), (484, .aload_n 2, 1), (485, .aload_n 0, 1), (486, .iload_n 3, 1), (487, .iconst 1, 1), (488, .iadd, 1), (489, .iaload, 1), (490, .aload_n 0, 1), (491, .iload_n 3, 1), (492, .iconst 2, 1), (493, .iadd, 1), (494, .iaload, 1), (495, .invokevirtual 44, 3), (498, .if_icmp .eq 1203, 3), (501, .iconst 0, 1), (502, .ireturn, 1), (503, .aload_n 1, 1), (504, .aload_n 0, 1), (505, .iload_n 3, 1), (506, .iconst 1, 1), (507, .iadd, 1), (508, .iaload, 1), (509, .invokevirtual 45, 3), (512, .aload_n 2, 1), (513, .aload_n 0, 1), (514, .iload_n 3, 1), (515, .iconst 1, 1), (516, .iadd, 1), (517, .iaload, 1), (518, .invokevirtual 48, 3), (521, .if_icmp .eq 1180, 3), (524, .iconst 0, 1), (525, .ireturn, 1), (526, .aload_n 1, 1), (527, .aload_n 0, 1), (528, .iload_n 3, 1), (529, .iconst 1, 1), (530, .iadd, 1), (531, .iaload, 1), (532, .invokevirtual 49, 3), (535, .aload_n 2, 1), (536, .aload_n 0, 1), (537, .iload_n 3, 1), (538, .iconst 1, 1), (539, .iadd, 1), (540, .iaload, 1), (541, .invokevirtual 52, 3), (544, .if_icmp .eq 1157, 3), (547, .iconst 0, 1), (548, .ireturn, 1), (549, .aload_n 1, 1), (550, .invokevirtual 53, 3), (553, .aload_n 2, 1), (554, .invokevirtual 57, 3), (557, .if_icmp .eq 1144, 3), (560, .iconst 0, 1), (561, .ireturn, 1), (562, .aload_n 1, 1), (563, .aload_n 0, 1), (564, .iload_n 3, 1), (565, .iconst 1, 1), (566, .iadd, 1), (567, .iaload, 1), (568, .aload_n 0, 1), (569, .iload_n 3, 1), (570, .iconst 2, 1), (571, .iadd, 1), (572, .iaload, 1), (573, .aload_n 0, 1), (574, .iload_n 3, 1), (575, .iconst 3, 1), (576, .iadd, 1), (577, .iaload, 1), (578, .aload_n 0, 1), (579, .iload_n 3, 1), (580, .iconst 4, 1), (581, .iadd, 1), (582, .iaload, 1), (583, .aload_n 0, 1), (584, .iload_n 3, 1), (585, .iconst 5, 1), (586, .iadd, 1), (587, .iaload, 1), (588, .invokevirtual 58, 3), (591, .aload_n 2, 1), (592, .aload_n 0, 1), (593, .iload_n 3, 1), (594, .iconst 1, 1), (595, .iadd, 1), (596, .iaload, 1), (597, .aload_n 0, 1), (598, .iload_n 3, 1), (599, .iconst 2, 1), (600, .iadd, 1), (601, .iaload, 1), (602, .aload_n 0, 1), (603, .iload_n 3, 1), (604, .iconst 3, 1), (605, .iadd, 1), (606, .iaload, 1), (607, .aload_n 0, 1), (608, .iload_n 3, 1), (609, .iconst 4, 1), (610, .iadd, 1), (611, .iaload, 1), (612, .aload_n 0, 1), (613, .iload_n 3, 1), (614, .iconst 5, 1), (615, .iadd, 1), (616, .iaload, 1), (617, .invokevirtual 62, 3), (620, .if_icmp .eq 1081, 3), (623, .iconst 0, 1), (624, .ireturn, 1), (625, .aload_n 1, 1), (626, .aload_n 0, 1), (627, .iload_n 3, 1), (628, .iconst 1, 1), (629, .iadd, 1), (630, .iaload, 1), (631, .aload_n 0, 1), (632, .iload_n 3, 1), (633, .iconst 2, 1), (634, .iadd, 1), (635, .iaload, 1), (636, .aload_n 0, 1), (637, .iload_n 3, 1), (638, .iconst 3, 1), (639, .iadd, 1), (640, .iaload, 1), (641, .invokevirtual 63, 3), (644, .aload_n 2, 1), (645, .aload_n 0, 1), (646, .iload_n 3, 1), (647, .iconst 1, 1), (648, .iadd, 1), (649, .iaload, 1), (650, .aload_n 0, 1), (651, .iload_n 3, 1), (652, .iconst 2, 1), (653, .iadd, 1), (654, .iaload, 1), (655, .aload_n 0, 1), (656, .iload_n 3, 1), (657, .iconst 3, 1), (658, .iadd, 1), (659, .iaload, 1), (660, .invokevirtual 66, 3), (663, .if_icmp .eq 1038, 3), (666, .iconst 0, 1), (667, .ireturn, 1), (668, .aload_n 1, 1), (669, .aload_n 0, 1), (670, .iload_n 3, 1), (671, .iconst 1, 1), (672, .iadd, 1), (673, .iaload, 1), (674, .aload_n 0, 1), (675, .iload_n 3, 1), (676, .iconst 2, 1), (677, .iadd, 1), (678, .iaload, 1), (679, .invokevirtual 67, 3), (682, .aload_n 2, 1), (683, .aload_n 0, 1), (684, .iload_n 3, 1), (685, .iconst 1, 1), (686, .iadd, 1), (687, .iaload, 1), (688, .aload_n 0, 1), (689, .iload_n 3, 1), (690, .iconst 2, 1), (691, .iadd, 1), (692, .iaload, 1), (693, .invokevirtual 70, 3), (696, .if_icmp .eq 1005, 3), (699, .iconst 0, 1), (700, .ireturn, 1), (701, .aload_n 1, 1), (702, .aload_n 0, 1), (703, .iload_n 3, 1), (704, .iconst 1, 1), (705, .iadd, 1), (706, .iaload, 1), (707, .aload_n 0, 1), (708, .iload_n 3, 1), (709, .iconst 2, 1), (710, .iadd, 1), (711, .iaload, 1), (712, .aload_n 0, 1), (713, .iload_n 3, 1), (714, .iconst 3, 1), (715, .iadd, 1), (716, .iaload, 1), (717, .invokevirtual 71, 3), (720, .aload_n 2, 1), (721, .aload_n 0, 1), (722, .iload_n 3, 1), (723, .iconst 1, 1), (724, .iadd, 1), (725, .iaload, 1), (726, .aload_n 0, 1), (727, .iload_n 3, 1), (728, .iconst 2, 1), (729, .iadd, 1), (730, .iaload, 1), (731, .aload_n 0, 1), (732, .iload_n 3, 1), (733, .iconst 3, 1), (734, .iadd, 1), (735, .iaload, 1), (736, .invokevirtual 74, 3), (739, .if_icmp .eq 962, 3), (742, .iconst 0, 1), (743, .ireturn, 1), (744, .aload_n 1, 1), (745, .aload_n 0, 1), (746, .iload_n 3, 1), (747, .iconst 1, 1), (748, .iadd, 1), (749, .iaload, 1), (750, .aload_n 0, 1), (751, .iload_n 3, 1), (752, .iconst 2, 1), (753, .iadd, 1), (754, .iaload, 1), (755, .aload_n 0, 1), (756, .iload_n 3, 1), (757, .iconst 3, 1), (758, .iadd, 1), (759, .iaload, 1), (760, .invokevirtual 75, 3), (763, .aload_n 2, 1), (764, .aload_n 0, 1), (765, .iload_n 3, 1), (766, .iconst 1, 1), (767, .iadd, 1), (768, .iaload, 1), (769, .aload_n 0, 1), (770, .iload_n 3, 1), (771, .iconst 2, 1), (772, .iadd, 1), (773, .iaload, 1), (774, .aload_n 0, 1), (775, .iload_n 3, 1), (776, .iconst 3, 1), (777, .iadd, 1), (778, .iaload, 1), (779, .invokevirtual 78, 3), (782, .if_icmp .eq 919, 3), (785, .iconst 0, 1), (786, .ireturn, 1), (787, .aload_n 1, 1), (788, .aload_n 0, 1), (789, .iload_n 3, 1), (790, .iconst 1, 1), (791, .iadd, 1), (792, .iaload, 1), (793, .aload_n 0, 1), (794, .iload_n 3, 1), (795, .iconst 2, 1), (796, .iadd, 1), (797, .iaload, 1), (798, .ifCond .eq 7, 3), (801, .iconst 1, 1), (802, .goto 4, 3), (805, .iconst 0, 1), (806, .invokevirtual 79, 3), (809, .aload_n 2, 1), (810, .aload_n 0, 1), (811, .iload_n 3, 1), (812, .iconst 1, 1), (813, .iadd, 1), (814, .iaload, 1), (815, .aload_n 0, 1), (816, .iload_n 3, 1), (817, .iconst 2, 1), (818, .iadd, 1), (819, .iaload, 1), (820, .ifCond .eq 7, 3), (823, .iconst 1, 1), (824, .goto 4, 3), (827, .iconst 0, 1), (828, .invokevirtual 83, 3), (831, .if_icmp .eq 870, 3), (834, .iconst 0, 1), (835, .ireturn, 1), (836, .aload_n 1, 1), (837, .aload_n 0, 1), (838, .iload_n 3, 1), (839, .iconst 1, 1), (840, .iadd, 1), (841, .iaload, 1), (842, .aload_n 0, 1), (843, .iload_n 3, 1), (844, .iconst 2, 1), (845, .iadd, 1), (846, .iaload, 1), (847, .invokevirtual 84, 3), (850, .aload_n 2, 1), (851, .aload_n 0, 1), (852, .iload_n 3, 1), (853, .iconst 1, 1), (854, .iadd, 1), (855, .iaload, 1), (856, .aload_n 0, 1), (857, .iload_n 3, 1), (858, .iconst 2, 1), (859, .iadd, 1), (860, .iaload, 1), (861, .invokevirtual 87, 3), (864, .if_icmp .eq 837, 3), (867, .iconst 0, 1), (868, .ireturn, 1), (869, .aload_n 1, 1), (870, .aload_n 0, 1), (871, .iload_n 3, 1), (872, .iconst 1, 1), (873, .iadd, 1), (874, .iaload, 1), (875, .aload_n 0, 1), (876, .iload_n 3, 1), (877, .iconst 2, 1), (878, .iadd, 1), (879, .iaload, 1), (880, .invokevirtual 88, 3), (883, .aload_n 2, 1), (884, .aload_n 0, 1), (885, .iload_n 3, 1), (886, .iconst 1, 1), (887, .iadd, 1), (888, .iaload, 1), (889, .aload_n 0, 1), (890, .iload_n 3, 1), (891, .iconst 2, 1), (892, .iadd, 1), (893, .iaload, 1), (894, .invokevirtual 91, 3), (897, .if_icmp .eq 804, 3), (900, .iconst 0, 1), (901, .ireturn, 1), (902, .aload_n 1, 1), (903, .aload_n 0, 1), (904, .iload_n 3, 1), (905, .iconst 1, 1), (906, .iadd, 1), (907, .iaload, 1), (908, .invokevirtual 92, 3), (911, .aload_n 2, 1), (912, .aload_n 0, 1), (913, .iload_n 3, 1), (914, .iconst 1, 1), (915, .iadd, 1), (916, .iaload, 1), (917, .invokevirtual 95, 3), (920, .if_icmp .eq 781, 3), (923, .iconst 0, 1), (924, .ireturn, 1), (925, .aload_n 1, 1), (926, .aload_n 0, 1), (927, .iload_n 3, 1), (928, .iconst 1, 1), (929, .iadd, 1), (930, .iaload, 1), (931, .aload_n 0, 1), (932, .iload_n 3, 1), (933, .iconst 2, 1), (934, .iadd, 1), (935, .iaload, 1), (936, .invokevirtual 96, 3), (939, .aload_n 2, 1), (940, .aload_n 0, 1), (941, .iload_n 3, 1), (942, .iconst 1, 1), (943, .iadd, 1), (944, .iaload, 1), (945, .aload_n 0, 1), (946, .iload_n 3, 1), (947, .iconst 2, 1), (948, .iadd, 1), (949, .iaload, 1), (950, .invokevirtual 99, 3), (953, .if_icmp .eq 748, 3), (956, .iconst 0, 1), (957, .ireturn, 1), (958, .aload_n 1, 1), (959, .aload_n 0, 1), (960, .iload_n 3, 1), (961, .iconst 1, 1), (962, .iadd, 1), (963, .iaload, 1), (964, .aload_n 0, 1), (965, .iload_n 3, 1), (966, .iconst 2, 1), (967, .iadd, 1), (968, .iaload, 1), (969, .aload_n 0, 1), (970, .iload_n 3, 1), (971, .iconst 3, 1), (972, .iadd, 1), (973, .iaload, 1), (974, .invokevirtual 100, 3), (977, .aload_n 2, 1), (978, .aload_n 0, 1), (979, .iload_n 3, 1), (980, .iconst 1, 1), (981, .iadd, 1), (982, .iaload, 1), (983, .aload_n 0, 1), (984, .iload_n 3, 1), (985, .iconst 2, 1), (986, .iadd, 1), (987, .iaload, 1), (988, .aload_n 0, 1), (989, .iload_n 3, 1), (990, .iconst 3, 1), (991, .iadd, 1), (992, .iaload, 1), (993, .invokevirtual 103, 3), (996, .if_icmp .eq 705, 3), (999, .iconst 0, 1), (1000, .ireturn, 1), (1001, .aload_n 1, 1), (1002, .aload_n 0, 1), (1003, .iload_n 3, 1), (1004, .iconst 1, 1), (1005, .iadd, 1), (1006, .iaload, 1), (1007, .aload_n 0, 1), (1008, .iload_n 3, 1), (1009, .iconst 2, 1), (1010, .iadd, 1), (1011, .iaload, 1), (1012, .aload_n 0, 1), (1013, .iload_n 3, 1), (1014, .iconst 3, 1), (1015, .iadd, 1), (1016, .iaload, 1), (1017, .invokevirtual 104, 3), (1020, .aload_n 2, 1), (1021, .aload_n 0, 1), (1022, .iload_n 3, 1), (1023, .iconst 1, 1), (1024, .iadd, 1), (1025, .iaload, 1), (1026, .aload_n 0, 1), (1027, .iload_n 3, 1), (1028, .iconst 2, 1), (1029, .iadd, 1), (1030, .iaload, 1), (1031, .aload_n 0, 1), (1032, .iload_n 3, 1), (1033, .iconst 3, 1), (1034, .iadd, 1), (1035, .iaload, 1), (1036, .invokevirtual 107, 3), (1039, .if_icmp .eq 662, 3), (1042, .iconst 0, 1), (1043, .ireturn, 1), (1044, .aload_n 1, 1), (1045, .aload_n 0, 1), (1046, .iload_n 3, 1), (1047, .iconst 1, 1), (1048, .iadd, 1), (1049, .iaload, 1), (1050, .aload_n 0, 1), (1051, .iload_n 3, 1), (1052, .iconst 2, 1), (1053, .iadd, 1), (1054, .iaload, 1), (1055, .invokevirtual 108, 3), (1058, .aload_n 2, 1), (1059, .aload_n 0, 1), (1060, .iload_n 3, 1), (1061, .iconst 1, 1), (1062, .iadd, 1), (1063, .iaload, 1), (1064, .aload_n 0, 1), (1065, .iload_n 3, 1), (1066, .iconst 2, 1), (1067, .iadd, 1), (1068, .iaload, 1), (1069, .invokevirtual 111, 3), (1072, .if_icmp .eq 629, 3), (1075, .iconst 0, 1), (1076, .ireturn, 1), (1077, .aload_n 1, 1), (1078, .invokevirtual 112, 3), (1081, .aload_n 2, 1), (1082, .invokevirtual 115, 3), (1085, .if_icmp .eq 616, 3), (1088, .iconst 0, 1), (1089, .ireturn, 1), (1090, .aload_n 1, 1), (1091, .aload_n 0, 1), (1092, .iload_n 3, 1), (1093, .iconst 1, 1), (1094, .iadd, 1), (1095, .iaload, 1), (1096, .aload_n 0, 1), (1097, .iload_n 3, 1), (1098, .iconst 2, 1), (1099, .iadd, 1), (1100, .iaload, 1), (1101, .invokevirtual 116, 3), (1104, .aload_n 2, 1), (1105, .aload_n 0, 1), (1106, .iload_n 3, 1), (1107, .iconst 1, 1), (1108, .iadd, 1), (1109, .iaload, 1), (1110, .aload_n 0, 1), (1111, .iload_n 3, 1), (1112, .iconst 2, 1), (1113, .iadd, 1), (1114, .iaload, 1), (1115, .invokevirtual 119, 3), (1118, .if_icmp .eq 583, 3), (1121, .iconst 0, 1), (1122, .ireturn, 1), (1123, .aload_n 1, 1), (1124, .aload_n 0, 1), (1125, .iload_n 3, 1), (1126, .iconst 1, 1), (1127, .iadd, 1), (1128, .iaload, 1), (1129, .invokevirtual 120, 3), (1132, .aload_n 2, 1), (1133, .aload_n 0, 1), (1134, .iload_n 3, 1), (1135, .iconst 1, 1), (1136, .iadd, 1), (1137, .iaload, 1), (1138, .invokevirtual 123, 3), (1141, .if_icmp .eq 560, 3), (1144, .iconst 0, 1), (1145, .ireturn, 1), (1146, .aload_n 1, 1), (1147, .invokevirtual 124, 3), (1150, .aload_n 2, 1), (1151, .invokevirtual 127, 3), (1154, .if_icmp .eq 547, 3), (1157, .iconst 0, 1), (1158, .ireturn, 1), (1159, .aload_n 1, 1), (1160, .aload_n 0, 1), (1161, .iload_n 3, 1), (1162, .iconst 1, 1), (1163, .iadd, 1), (1164, .iaload, 1), (1165, .aload_n 0, 1), (1166, .iload_n 3, 1), (1167, .iconst 2, 1), (1168, .iadd, 1), (1169, .iaload, 1), (1170, .invokevirtual 128, 3), (1173, .aload_n 2, 1), (1174, .aload_n 0, 1), (1175, .iload_n 3, 1), (1176, .iconst 1, 1), (1177, .iadd, 1), (1178, .iaload, 1), (1179, .aload_n 0, 1), (1180, .iload_n 3, 1), (1181, .iconst 2, 1), (1182, .iadd, 1), (1183, .iaload, 1), (1184, .invokevirtual 131, 3), (1187, .if_icmp .eq 514, 3), (1190, .iconst 0, 1), (1191, .ireturn, 1), (1192, .aload_n 1, 1), (1193, .aload_n 0, 1), (1194, .iload_n 3, 1), (1195, .iconst 1, 1), (1196, .iadd, 1), (1197, .iaload, 1), (1198, .aload_n 0, 1), (1199, .iload_n 3, 1), (1200, .iconst 2, 1), (1201, .iadd, 1), (1202, .iaload, 1), (1203, .invokevirtual 132, 3), (1206, .aload_n 2, 1), (1207, .aload_n 0, 1), (1208, .iload_n 3, 1), (1209, .iconst 1, 1), (1210, .iadd, 1), (1211, .iaload, 1), (1212, .aload_n 0, 1), (1213, .iload_n 3, 1), (1214, .iconst 2, 1), (1215, .iadd, 1), (1216, .iaload, 1), (1217, .invokevirtual 135, 3), (1220, .if_icmp .eq 481, 3), (1223, .iconst 0, 1), (1224, .ireturn, 1), (1225, .aload_n 1, 1), (1226, .aload_n 0, 1), (1227, .iload_n 3, 1), (1228, .iconst 1, 1), (1229, .iadd, 1), (1230, .iaload, 1), (1231, .aload_n 0, 1), (1232, .iload_n 3, 1), (1233, .iconst 2, 1), (1234, .iadd, 1), (1235, .iaload, 1), (1236, .invokevirtual 136, 3), (1239, .aload_n 2, 1), (1240, .aload_n 0, 1), (1241, .iload_n 3, 1), (1242, .iconst 1, 1), (1243, .iadd, 1), (1244, .iaload, 1), (1245, .aload_n 0, 1), (1246, .iload_n 3, 1), (1247, .iconst 2, 1), (1248, .iadd, 1), (1249, .iaload, 1), (1250, .invokevirtual 139, 3), (1253, .if_icmp .eq 448, 3), (1256, .iconst 0, 1), (1257, .ireturn, 1), (1258, .aload_n 1, 1), (1259, .aload_n 0, 1), (1260, .iload_n 3, 1), (1261, .iconst 1, 1), (1262, .iadd, 1), (1263, .iaload, 1), (1264, .aload_n 0, 1), (1265, .iload_n 3, 1), (1266, .iconst 2, 1), (1267, .iadd, 1), (1268, .iaload, 1), (1269, .invokevirtual 140, 3), (1272, .aload_n 2, 1), (1273, .aload_n 0, 1), (1274, .iload_n 3, 1), (1275, .iconst 1, 1), (1276, .iadd, 1), (1277, .iaload, 1), (1278, .aload_n 0, 1), (1279, .iload_n 3, 1), (1280, .iconst 2, 1), (1281, .iadd, 1), (1282, .iaload, 1), (1283, .invokevirtual 143, 3), (1286, .if_icmp .eq 415, 3), (1289, .iconst 0, 1), (1290, .ireturn, 1), (1291, .aload_n 1, 1), (1292, .aload_n 0, 1), (1293, .iload_n 3, 1), (1294, .iconst 1, 1), (1295, .iadd, 1), (1296, .iaload, 1), (1297, .aload_n 0, 1), (1298, .iload_n 3, 1), (1299, .iconst 2, 1), (1300, .iadd, 1), (1301, .iaload, 1), (1302, .invokevirtual 144, 3), (1305, .aload_n 2, 1), (1306, .aload_n 0, 1), (1307, .iload_n 3, 1), (1308, .iconst 1, 1), (1309, .iadd, 1), (1310, .iaload, 1), (1311, .aload_n 0, 1), (1312, .iload_n 3, 1), (1313, .iconst 2, 1), (1314, .iadd, 1), (1315, .iaload, 1), (1316, .invokevirtual 147, 3), (1319, .if_icmp .eq 382, 3), (1322, .iconst 0, 1), (1323, .ireturn, 1), (1324, .aload_n 1, 1), (1325, .aload_n 0, 1), (1326, .iload_n 3, 1), (1327, .iconst 1, 1), (1328, .iadd, 1), (1329, .iaload, 1), (1330, .aload_n 0, 1), (1331, .iload_n 3, 1), (1332, .iconst 2, 1), (1333, .iadd, 1), (1334, .iaload, 1), (1335, .invokevirtual 148, 3), (1338, .aload_n 2, 1), (1339, .aload_n 0, 1), (1340, .iload_n 3, 1), (1341, .iconst 1, 1), (1342, .iadd, 1), (1343, .iaload, 1), (1344, .aload_n 0, 1), (1345, .iload_n 3, 1), (1346, .iconst 2, 1), (1347, .iadd, 1), (1348, .iaload, 1), (1349, .invokevirtual 151, 3), (1352, .if_icmp .eq 349, 3), (1355, .iconst 0, 1), (1356, .ireturn, 1), (1357, .aload_n 1, 1), (1358, .aload_n 0, 1), (1359, .iload_n 3, 1), (1360, .iconst 1, 1), (1361, .iadd, 1), (1362, .iaload, 1), (1363, .invokevirtual 152, 3), (1366, .aload_n 2, 1), (1367, .aload_n 0, 1), (1368, .iload_n 3, 1), (1369, .iconst 1, 1), (1370, .iadd, 1), (1371, .iaload, 1), (1372, .invokevirtual 155, 3), (1375, .if_icmp .eq 326, 3), (1378, .iconst 0, 1), (1379, .ireturn, 1), (1380, .aload_n 1, 1), (1381, .aload_n 0, 1), (1382, .iload_n 3, 1), (1383, .iconst 1, 1), (1384, .iadd, 1), (1385, .iaload, 1), (1386, .aload_n 0, 1), (1387, .iload_n 3, 1), (1388, .iconst 2, 1), (1389, .iadd, 1), (1390, .iaload, 1), (1391, .invokevirtual 156, 3), (1394, .aload_n 2, 1), (1395, .aload_n 0, 1), (1396, .iload_n 3, 1), (1397, .iconst 1, 1), (1398, .iadd, 1), (1399, .iaload, 1), (1400, .aload_n 0, 1), (1401, .iload_n 3, 1), (1402, .iconst 2, 1), (1403, .iadd, 1), (1404, .iaload, 1), (1405, .invokevirtual 159, 3), (1408, .if_icmp .eq 293, 3), (1411, .iconst 0, 1), (1412, .ireturn, 1), (1413, .aload_n 1, 1), (1414, .aload_n 0, 1), (1415, .iload_n 3, 1), (1416, .iconst 1, 1), (1417, .iadd, 1), (1418, .iaload, 1), (1419, .aload_n 0, 1), (1420, .iload_n 3, 1), (1421, .iconst 2, 1), (1422, .iadd, 1), (1423, .iaload, 1), (1424, .invokevirtual 160, 3), (1427, .aload_n 2, 1), (1428, .aload_n 0, 1), (1429, .iload_n 3, 1), (1430, .iconst 1, 1), (1431, .iadd, 1), (1432, .iaload, 1), (1433, .aload_n 0, 1), (1434, .iload_n 3, 1), (1435, .iconst 2, 1), (1436, .iadd, 1), (1437, .iaload, 1), (1438, .invokevirtual 163, 3), (1441, .if_icmp .eq 260, 3), (1444, .iconst 0, 1), (1445, .ireturn, 1), (1446, .aload_n 1, 1), (1447, .aload_n 0, 1), (1448, .iload_n 3, 1), (1449, .iconst 1, 1), (1450, .iadd, 1), (1451, .iaload, 1), (1452, .invokevirtual 164, 3), (1455, .aload_n 2, 1), (1456, .aload_n 0, 1), (1457, .iload_n 3, 1), (1458, .iconst 1, 1), (1459, .iadd, 1), (1460, .iaload, 1), (1461, .invokevirtual 167, 3), (1464, .if_icmp .eq 237, 3), (1467, .iconst 0, 1), (1468, .ireturn, 1), (1469, .aload_n 1, 1), (1470, .aload_n 0, 1), (1471, .iload_n 3, 1), (1472, .iconst 1, 1), (1473, .iadd, 1), (1474, .iaload, 1), (1475, .invokevirtual 168, 3), (1478, .aload_n 2, 1), (1479, .aload_n 0, 1), (1480, .iload_n 3, 1), (1481, .iconst 1, 1), (1482, .iadd, 1), (1483, .iaload, 1), (1484, .invokevirtual 171, 3), (1487, .if_icmp .eq 214, 3), (1490, .iconst 0, 1), (1491, .ireturn, 1), (1492, .aload_n 1, 1), (1493, .aload_n 0, 1), (1494, .iload_n 3, 1), (1495, .iconst 1, 1), (1496, .iadd, 1), (1497, .iaload, 1), (1498, .aload_n 0, 1), (1499, .iload_n 3, 1), (1500, .iconst 2, 1), (1501, .iadd, 1), (1502, .iaload, 1), (1503, .invokevirtual 172, 3), (1506, .aload_n 2, 1), (1507, .aload_n 0, 1), (1508, .iload_n 3, 1), (1509, .iconst 1, 1), (1510, .iadd, 1), (1511, .iaload, 1), (1512, .aload_n 0, 1), (1513, .iload_n 3, 1), (1514, .iconst 2, 1), (1515, .iadd, 1), (1516, .iaload, 1), (1517, .invokevirtual 175, 3), (1520, .if_icmp .eq 181, 3), (1523, .iconst 0, 1), (1524, .ireturn, 1), (1525, .aload_n 1, 1), (1526, .aload_n 0, 1), (1527, .iload_n 3, 1), (1528, .iconst 1, 1), (1529, .iadd, 1), (1530, .iaload, 1), (1531, .invokevirtual 176, 3), (1534, .aload_n 2, 1), (1535, .aload_n 0, 1), (1536, .iload_n 3, 1), (1537, .iconst 1, 1), (1538, .iadd, 1), (1539, .iaload, 1), (1540, .invokevirtual 179, 3), (1543, .if_icmp .eq 158, 3), (1546, .iconst 0, 1), (1547, .ireturn, 1), (1548, .aload_n 1, 1), (1549, .aload_n 0, 1), (1550, .iload_n 3, 1), (1551, .iconst 1, 1), (1552, .iadd, 1), (1553, .iaload, 1), (1554, .invokevirtual 180, 3), (1557, .aload_n 2, 1), (1558, .aload_n 0, 1), (1559, .iload_n 3, 1), (1560, .iconst 1, 1), (1561, .iadd, 1), (1562, .iaload, 1), (1563, .invokevirtual 183, 3), (1566, .if_icmp .eq 135, 3), (1569, .iconst 0, 1), (1570, .ireturn, 1), (1571, .aload_n 1, 1), (1572, .aload_n 0, 1), (1573, .iload_n 3, 1), (1574, .iconst 1, 1), (1575, .iadd, 1), (1576, .iaload, 1), (1577, .aload_n 0, 1), (1578, .iload_n 3, 1), (1579, .iconst 2, 1), (1580, .iadd, 1), (1581, .iaload, 1), (1582, .invokevirtual 184, 3), (1585, .aload_n 2, 1), (1586, .aload_n 0, 1), (1587, .iload_n 3, 1), (1588, .iconst 1, 1), (1589, .iadd, 1), (1590, .iaload, 1), (1591, .aload_n 0, 1), (1592, .iload_n 3, 1), (1593, .iconst 2, 1), (1594, .iadd, 1), (1595, .iaload, 1), (1596, .invokevirtual 187, 3), (1599, .if_icmp .eq 102, 3), (1602, .iconst 0, 1), (1603, .ireturn, 1), (1604, .aload_n 1, 1), (1605, .aload_n 0, 1), (1606, .iload_n 3, 1), (1607, .iconst 1, 1), (1608, .iadd, 1), (1609, .iaload, 1), (1610, .invokevirtual 188, 3), (1613, .aload_n 2, 1), (1614, .aload_n 0, 1), (1615, .iload_n 3, 1), (1616, .iconst 1, 1), (1617, .iadd, 1), (1618, .iaload, 1), (1619, .invokevirtual 192, 3), (1622, .lcmp, 1), (1623, .ifCond .eq 78, 3), (1626, .iconst 0, 1), (1627, .ireturn, 1), (1628, .aload_n 1, 1), (1629, .aload_n 0, 1), (1630, .iload_n 3, 1), (1631, .iconst 1, 1), (1632, .iadd, 1), (1633, .iaload, 1), (1634, .invokevirtual 193, 3), (1637, .aload_n 2, 1), (1638, .aload_n 0, 1), (1639, .iload_n 3, 1), (1640, .iconst 1, 1), (1641, .iadd, 1), (1642, .iaload, 1), (1643, .invokevirtual 196, 3), (1646, .if_icmp .eq 55, 3), (1649, .iconst 0, 1), (1650, .ireturn, 1), (1651, .aload_n 1, 1), (1652, .invokevirtual 197, 3), (1655, .aload_n 2, 1), (1656, .invokevirtual 200, 3), (1659, .if_icmp .eq 42, 3), (1662, .iconst 0, 1), (1663, .ireturn, 1), (1664, .aload_n 1, 1), (1665, .aload_n 0, 1), (1666, .iload_n 3, 1), (1667, .iconst 1, 1), (1668, .iadd, 1), (1669, .iaload, 1), (1670, .invokevirtual 201, 3), (1673, .aload_n 2, 1), (1674, .aload_n 0, 1), (1675, .iload_n 3, 1), (1676, .iconst 1, 1), (1677, .iadd, 1), (1678, .iaload, 1), (1679, .invokevirtual 204, 3), (1682, .if_icmp .eq 19, 3), (1685, .iconst 0, 1), (1686, .ireturn, 1), (1687, .aload_n 1, 1), (1688, .invokevirtual 205, 3), (1691, .aload_n 2, 1), (1692, .invokevirtual 209, 3), (1695, .lcmp, 1), (1696, .ifCond .eq 5, 3), (1699, .iconst 0, 1), (1700, .ireturn, 1), (1701, .iinc 3 6, 3), (1704, .goto (-1686), 3), (1707, .iconst 1, 1), (1708, .ireturn, 1)]
theorem dk_La_law (i : Nat) {pc : Nat} {ins : Instr} {len : Nat} (h : dt_La_law[i]? = some (pc, ins, len)) : decode m_La_law.2.1 pc = .ok (ins, len) := p_dk (b := m_La_law.2.1) (t := dt_La_law) (by decide +kernel) i h
def B_La_law_1701 (n9 : Nat) (t9 : Nat → Int) (k18 : Nat → Nat → Int → p_Hp → Option (Int × p_Hp)) (v1 : Nat) (v2 : Nat) (v3 : Int) (s0 : p_Hp) : Option (Int × p_Hp) :=
  p_bi (p_w (v3 + 6)) fun x1 =>
  k18 v1 v2 x1 s0
def B_La_law_429 (n9 : Nat) (t9 : Nat → Int) (k18 : Nat → Nat → Int → p_Hp → Option (Int × p_Hp)) (v1 : Nat) (v2 : Nat) (v3 : Int) (w0 : Int) (w1 : Int) (w2 : Int) (w3 : Int) (w4 : Nat) (w5 : Int) (s0 : p_Hp) : Option (Int × p_Hp) :=
  p_gd (p_is s0 w4 11) <|
  p_bd (F_Mo_aim w4 w3 w2 w1 w0 s0) fun r6 s2 =>
  if w5 = r6 then
    B_La_law_1701 n9 t9 k18 v1 v2 v3 s2
  else
    some (0, s2)
def B_La_law_397 (n9 : Nat) (t9 : Nat → Int) (k18 : Nat → Nat → Int → p_Hp → Option (Int × p_Hp)) (v1 : Nat) (v2 : Nat) (v3 : Int) (w0 : Int) (w1 : Int) (w2 : Int) (w3 : Int) (w4 : Nat) (s0 : p_Hp) : Option (Int × p_Hp) :=
  p_gd (p_is s0 w4 10) <|
  p_bd (F_SW_aim w4 w3 w2 w1 w0 s0) fun r6 s2 =>
  p_gd ((0 : Int) ≤ (p_w (v3 + 1)) ∧ (p_w (v3 + 1)) < (n9 : Int)) <|
  p_gd ((0 : Int) ≤ (p_w (v3 + 2)) ∧ (p_w (v3 + 2)) < (n9 : Int)) <|
  p_gd ((0 : Int) ≤ (p_w (v3 + 3)) ∧ (p_w (v3 + 3)) < (n9 : Int)) <|
  p_gd ((0 : Int) ≤ (p_w (v3 + 4)) ∧ (p_w (v3 + 4)) < (n9 : Int)) <|
  if (t9 ((p_w (v3 + 4)) : Int).toNat) = 0 then
    B_La_law_429 n9 t9 k18 v1 v2 v3 0 (t9 ((p_w (v3 + 3)) : Int).toNat) (t9 ((p_w (v3 + 2)) : Int).toNat) (t9 ((p_w (v3 + 1)) : Int).toNat) v2 r6 s2
  else
    B_La_law_429 n9 t9 k18 v1 v2 v3 1 (t9 ((p_w (v3 + 3)) : Int).toNat) (t9 ((p_w (v3 + 2)) : Int).toNat) (t9 ((p_w (v3 + 1)) : Int).toNat) v2 r6 s2
def B_La_law_828 (n9 : Nat) (t9 : Nat → Int) (k18 : Nat → Nat → Int → p_Hp → Option (Int × p_Hp)) (v1 : Nat) (v2 : Nat) (v3 : Int) (w0 : Int) (w1 : Int) (w2 : Nat) (w3 : Int) (s0 : p_Hp) : Option (Int × p_Hp) :=
  p_gd (p_is s0 w2 11) <|
  p_bd (F_Mo_door w2 w1 w0 s0) fun r6 s2 =>
  if w3 = r6 then
    B_La_law_1701 n9 t9 k18 v1 v2 v3 s2
  else
    some (0, s2)
def B_La_law_806 (n9 : Nat) (t9 : Nat → Int) (k18 : Nat → Nat → Int → p_Hp → Option (Int × p_Hp)) (v1 : Nat) (v2 : Nat) (v3 : Int) (w0 : Int) (w1 : Int) (w2 : Nat) (s0 : p_Hp) : Option (Int × p_Hp) :=
  p_gd (p_is s0 w2 10) <|
  p_bd (F_SW_door w2 w1 w0 s0) fun r6 s2 =>
  p_gd ((0 : Int) ≤ (p_w (v3 + 1)) ∧ (p_w (v3 + 1)) < (n9 : Int)) <|
  p_gd ((0 : Int) ≤ (p_w (v3 + 2)) ∧ (p_w (v3 + 2)) < (n9 : Int)) <|
  if (t9 ((p_w (v3 + 2)) : Int).toNat) = 0 then
    B_La_law_828 n9 t9 k18 v1 v2 v3 0 (t9 ((p_w (v3 + 1)) : Int).toNat) v2 r6 s2
  else
    B_La_law_828 n9 t9 k18 v1 v2 v3 1 (t9 ((p_w (v3 + 1)) : Int).toNat) v2 r6 s2
def L_La_law_18 (n9 : Nat) (t9 : Nat → Int) (k18 : Nat → Nat → Int → p_Hp → Option (Int × p_Hp)) (v1 : Nat) (v2 : Nat) (v3 : Int) (s0 : p_Hp) : Option (Int × p_Hp) :=
  if (p_w ((n9 : Int) - 6)) < v3 then
    some (1, s0)
  else
    p_gd ((0 : Int) ≤ v3 ∧ v3 < (n9 : Int)) <|
    if (p_and (t9 (v3 : Int).toNat) 63) = 0 then
      p_gd ((0 : Int) ≤ (p_w (v3 + 1)) ∧ (p_w (v3 + 1)) < (n9 : Int)) <|
      p_gd (p_is s0 v1 10) <|
      p_bd (F_SW_works v1 (t9 ((p_w (v3 + 1)) : Int).toNat) s0) fun r10 s6 =>
      p_gd ((0 : Int) ≤ (p_w (v3 + 1)) ∧ (p_w (v3 + 1)) < (n9 : Int)) <|
      p_gd (p_is s6 v2 11) <|
      p_bd (F_Mo_works v2 (t9 ((p_w (v3 + 1)) : Int).toNat) s6) fun r17 s13 =>
      if r10 = r17 then
        B_La_law_1701 n9 t9 k18 v1 v2 v3 s13
      else
        some (0, s13)
    else if (p_and (t9 (v3 : Int).toNat) 63) = 1 then
      p_gd ((0 : Int) ≤ (p_w (v3 + 1)) ∧ (p_w (v3 + 1)) < (n9 : Int)) <|
      p_gd ((0 : Int) ≤ (p_w (v3 + 2)) ∧ (p_w (v3 + 2)) < (n9 : Int)) <|
      p_gd (p_is s0 v1 10) <|
      p_bd (F_SW_gear v1 (t9 ((p_w (v3 + 1)) : Int).toNat) (t9 ((p_w (v3 + 2)) : Int).toNat) s0) fun r27 s23 =>
      p_gd ((0 : Int) ≤ (p_w (v3 + 1)) ∧ (p_w (v3 + 1)) < (n9 : Int)) <|
      p_gd ((0 : Int) ≤ (p_w (v3 + 2)) ∧ (p_w (v3 + 2)) < (n9 : Int)) <|
      p_gd (p_is s23 v2 11) <|
      p_bd (F_Mo_gear v2 (t9 ((p_w (v3 + 1)) : Int).toNat) (t9 ((p_w (v3 + 2)) : Int).toNat) s23) fun r35 s31 =>
      if r27 = r35 then
        B_La_law_1701 n9 t9 k18 v1 v2 v3 s31
      else
        some (0, s31)
    else if (p_and (t9 (v3 : Int).toNat) 63) = 2 then
      p_gd ((0 : Int) ≤ (p_w (v3 + 1)) ∧ (p_w (v3 + 1)) < (n9 : Int)) <|
      p_gd ((0 : Int) ≤ (p_w (v3 + 2)) ∧ (p_w (v3 + 2)) < (n9 : Int)) <|
      p_gd (p_is s0 v1 10) <|
      p_bd (F_SW_links v1 (t9 ((p_w (v3 + 1)) : Int).toNat) (t9 ((p_w (v3 + 2)) : Int).toNat) s0) fun r45 s41 =>
      p_gd ((0 : Int) ≤ (p_w (v3 + 1)) ∧ (p_w (v3 + 1)) < (n9 : Int)) <|
      p_gd ((0 : Int) ≤ (p_w (v3 + 2)) ∧ (p_w (v3 + 2)) < (n9 : Int)) <|
      p_gd (p_is s41 v2 11) <|
      p_bd (F_Mo_links v2 (t9 ((p_w (v3 + 1)) : Int).toNat) (t9 ((p_w (v3 + 2)) : Int).toNat) s41) fun r53 s49 =>
      if r45 = r53 then
        B_La_law_1701 n9 t9 k18 v1 v2 v3 s49
      else
        some (0, s49)
    else if (p_and (t9 (v3 : Int).toNat) 63) = 3 then
      p_gd ((0 : Int) ≤ (p_w (v3 + 1)) ∧ (p_w (v3 + 1)) < (n9 : Int)) <|
      p_gd ((0 : Int) ≤ (p_w (v3 + 2)) ∧ (p_w (v3 + 2)) < (n9 : Int)) <|
      p_gd ((0 : Int) ≤ (p_w (v3 + 3)) ∧ (p_w (v3 + 3)) < (n9 : Int)) <|
      p_gd (p_is s0 v1 10) <|
      p_bd (F_SW_link v1 (t9 ((p_w (v3 + 1)) : Int).toNat) (t9 ((p_w (v3 + 2)) : Int).toNat) (t9 ((p_w (v3 + 3)) : Int).toNat) s0) fun r64 s60 =>
      p_gd ((0 : Int) ≤ (p_w (v3 + 1)) ∧ (p_w (v3 + 1)) < (n9 : Int)) <|
      p_gd ((0 : Int) ≤ (p_w (v3 + 2)) ∧ (p_w (v3 + 2)) < (n9 : Int)) <|
      p_gd ((0 : Int) ≤ (p_w (v3 + 3)) ∧ (p_w (v3 + 3)) < (n9 : Int)) <|
      p_gd (p_is s60 v2 11) <|
      p_bd (F_Mo_link v2 (t9 ((p_w (v3 + 1)) : Int).toNat) (t9 ((p_w (v3 + 2)) : Int).toNat) (t9 ((p_w (v3 + 3)) : Int).toNat) s60) fun r73 s69 =>
      if r64 = r73 then
        B_La_law_1701 n9 t9 k18 v1 v2 v3 s69
      else
        some (0, s69)
    else if (p_and (t9 (v3 : Int).toNat) 63) = 4 then
      p_gd ((0 : Int) ≤ (p_w (v3 + 1)) ∧ (p_w (v3 + 1)) < (n9 : Int)) <|
      p_gd ((0 : Int) ≤ (p_w (v3 + 2)) ∧ (p_w (v3 + 2)) < (n9 : Int)) <|
      p_gd ((0 : Int) ≤ (p_w (v3 + 3)) ∧ (p_w (v3 + 3)) < (n9 : Int)) <|
      p_gd ((0 : Int) ≤ (p_w (v3 + 4)) ∧ (p_w (v3 + 4)) < (n9 : Int)) <|
      if (t9 ((p_w (v3 + 4)) : Int).toNat) = 0 then
        B_La_law_397 n9 t9 k18 v1 v2 v3 0 (t9 ((p_w (v3 + 3)) : Int).toNat) (t9 ((p_w (v3 + 2)) : Int).toNat) (t9 ((p_w (v3 + 1)) : Int).toNat) v1 s0
      else
        B_La_law_397 n9 t9 k18 v1 v2 v3 1 (t9 ((p_w (v3 + 3)) : Int).toNat) (t9 ((p_w (v3 + 2)) : Int).toNat) (t9 ((p_w (v3 + 1)) : Int).toNat) v1 s0
    else if (p_and (t9 (v3 : Int).toNat) 63) = 5 then
      p_gd ((0 : Int) ≤ (p_w (v3 + 1)) ∧ (p_w (v3 + 1)) < (n9 : Int)) <|
      p_gd ((0 : Int) ≤ (p_w (v3 + 2)) ∧ (p_w (v3 + 2)) < (n9 : Int)) <|
      p_gd (p_is s0 v1 10) <|
      p_bd (F_SW_rank v1 (t9 ((p_w (v3 + 1)) : Int).toNat) (t9 ((p_w (v3 + 2)) : Int).toNat) s0) fun r89 s85 =>
      p_gd ((0 : Int) ≤ (p_w (v3 + 1)) ∧ (p_w (v3 + 1)) < (n9 : Int)) <|
      p_gd ((0 : Int) ≤ (p_w (v3 + 2)) ∧ (p_w (v3 + 2)) < (n9 : Int)) <|
      p_gd (p_is s85 v2 11) <|
      p_bd (F_Mo_rank v2 (t9 ((p_w (v3 + 1)) : Int).toNat) (t9 ((p_w (v3 + 2)) : Int).toNat) s85) fun r97 s93 =>
      if r89 = r97 then
        B_La_law_1701 n9 t9 k18 v1 v2 v3 s93
      else
        some (0, s93)
    else if (p_and (t9 (v3 : Int).toNat) 63) = 6 then
      p_gd ((0 : Int) ≤ (p_w (v3 + 1)) ∧ (p_w (v3 + 1)) < (n9 : Int)) <|
      p_gd ((0 : Int) ≤ (p_w (v3 + 2)) ∧ (p_w (v3 + 2)) < (n9 : Int)) <|
      p_gd (p_is s0 v1 10) <|
      p_bd (F_SW_refit v1 (t9 ((p_w (v3 + 1)) : Int).toNat) (t9 ((p_w (v3 + 2)) : Int).toNat) s0) fun r107 s103 =>
      p_gd ((0 : Int) ≤ (p_w (v3 + 1)) ∧ (p_w (v3 + 1)) < (n9 : Int)) <|
      p_gd ((0 : Int) ≤ (p_w (v3 + 2)) ∧ (p_w (v3 + 2)) < (n9 : Int)) <|
      p_gd (p_is s103 v2 11) <|
      p_bd (F_Mo_refit v2 (t9 ((p_w (v3 + 1)) : Int).toNat) (t9 ((p_w (v3 + 2)) : Int).toNat) s103) fun r115 s111 =>
      if r107 = r115 then
        B_La_law_1701 n9 t9 k18 v1 v2 v3 s111
      else
        some (0, s111)
    else if (p_and (t9 (v3 : Int).toNat) 63) = 7 then
      p_gd ((0 : Int) ≤ (p_w (v3 + 1)) ∧ (p_w (v3 + 1)) < (n9 : Int)) <|
      p_gd (p_is s0 v1 10) <|
      p_bd (F_SW_copy v1 (t9 ((p_w (v3 + 1)) : Int).toNat) s0) fun r124 s120 =>
      p_gd ((0 : Int) ≤ (p_w (v3 + 1)) ∧ (p_w (v3 + 1)) < (n9 : Int)) <|
      p_gd (p_is s120 v2 11) <|
      p_bd (F_Mo_copy v2 (t9 ((p_w (v3 + 1)) : Int).toNat) s120) fun r131 s127 =>
      if r124 = r131 then
        B_La_law_1701 n9 t9 k18 v1 v2 v3 s127
      else
        some (0, s127)
    else if (p_and (t9 (v3 : Int).toNat) 63) = 8 then
      p_gd ((0 : Int) ≤ (p_w (v3 + 1)) ∧ (p_w (v3 + 1)) < (n9 : Int)) <|
      p_gd (p_is s0 v1 10) <|
      p_bd (F_SW_letter v1 (t9 ((p_w (v3 + 1)) : Int).toNat) s0) fun r140 s136 =>
      p_gd ((0 : Int) ≤ (p_w (v3 + 1)) ∧ (p_w (v3 + 1)) < (n9 : Int)) <|
      p_gd (p_is s136 v2 11) <|
      p_bd (F_Mo_letter v2 (t9 ((p_w (v3 + 1)) : Int).toNat) s136) fun r147 s143 =>
      if r140 = r147 then
        B_La_law_1701 n9 t9 k18 v1 v2 v3 s143
      else
        some (0, s143)
    else if (p_and (t9 (v3 : Int).toNat) 63) = 9 then
      p_gd (p_is s0 v1 10) <|
      p_bd (F_SW_load v1 s0) fun r155 s151 =>
      p_gd (p_is s151 v2 11) <|
      p_bd (F_Mo_load v2 s151) fun r161 s157 =>
      if r155 = r161 then
        B_La_law_1701 n9 t9 k18 v1 v2 v3 s157
      else
        some (0, s157)
    else if (p_and (t9 (v3 : Int).toNat) 63) = 10 then
      p_gd ((0 : Int) ≤ (p_w (v3 + 1)) ∧ (p_w (v3 + 1)) < (n9 : Int)) <|
      p_gd ((0 : Int) ≤ (p_w (v3 + 2)) ∧ (p_w (v3 + 2)) < (n9 : Int)) <|
      p_gd ((0 : Int) ≤ (p_w (v3 + 3)) ∧ (p_w (v3 + 3)) < (n9 : Int)) <|
      p_gd ((0 : Int) ≤ (p_w (v3 + 4)) ∧ (p_w (v3 + 4)) < (n9 : Int)) <|
      p_gd ((0 : Int) ≤ (p_w (v3 + 5)) ∧ (p_w (v3 + 5)) < (n9 : Int)) <|
      p_gd (p_is s0 v1 10) <|
      p_bd (F_SW_plan v1 (t9 ((p_w (v3 + 1)) : Int).toNat) (t9 ((p_w (v3 + 2)) : Int).toNat) (t9 ((p_w (v3 + 3)) : Int).toNat) (t9 ((p_w (v3 + 4)) : Int).toNat) (t9 ((p_w (v3 + 5)) : Int).toNat) s0) fun r174 s170 =>
      p_gd ((0 : Int) ≤ (p_w (v3 + 1)) ∧ (p_w (v3 + 1)) < (n9 : Int)) <|
      p_gd ((0 : Int) ≤ (p_w (v3 + 2)) ∧ (p_w (v3 + 2)) < (n9 : Int)) <|
      p_gd ((0 : Int) ≤ (p_w (v3 + 3)) ∧ (p_w (v3 + 3)) < (n9 : Int)) <|
      p_gd ((0 : Int) ≤ (p_w (v3 + 4)) ∧ (p_w (v3 + 4)) < (n9 : Int)) <|
      p_gd ((0 : Int) ≤ (p_w (v3 + 5)) ∧ (p_w (v3 + 5)) < (n9 : Int)) <|
      p_gd (p_is s170 v2 11) <|
      p_bd (F_Mo_plan v2 (t9 ((p_w (v3 + 1)) : Int).toNat) (t9 ((p_w (v3 + 2)) : Int).toNat) (t9 ((p_w (v3 + 3)) : Int).toNat) (t9 ((p_w (v3 + 4)) : Int).toNat) (t9 ((p_w (v3 + 5)) : Int).toNat) s170) fun r185 s181 =>
      if r174 = r185 then
        B_La_law_1701 n9 t9 k18 v1 v2 v3 s181
      else
        some (0, s181)
    else if (p_and (t9 (v3 : Int).toNat) 63) = 11 then
      p_gd ((0 : Int) ≤ (p_w (v3 + 1)) ∧ (p_w (v3 + 1)) < (n9 : Int)) <|
      p_gd ((0 : Int) ≤ (p_w (v3 + 2)) ∧ (p_w (v3 + 2)) < (n9 : Int)) <|
      p_gd ((0 : Int) ≤ (p_w (v3 + 3)) ∧ (p_w (v3 + 3)) < (n9 : Int)) <|
      p_gd (p_is s0 v1 10) <|
      p_bd (F_SW_come v1 (t9 ((p_w (v3 + 1)) : Int).toNat) (t9 ((p_w (v3 + 2)) : Int).toNat) (t9 ((p_w (v3 + 3)) : Int).toNat) s0) fun r196 s192 =>
      p_gd ((0 : Int) ≤ (p_w (v3 + 1)) ∧ (p_w (v3 + 1)) < (n9 : Int)) <|
      p_gd ((0 : Int) ≤ (p_w (v3 + 2)) ∧ (p_w (v3 + 2)) < (n9 : Int)) <|
      p_gd ((0 : Int) ≤ (p_w (v3 + 3)) ∧ (p_w (v3 + 3)) < (n9 : Int)) <|
      p_gd (p_is s192 v2 11) <|
      p_bd (F_Mo_come v2 (t9 ((p_w (v3 + 1)) : Int).toNat) (t9 ((p_w (v3 + 2)) : Int).toNat) (t9 ((p_w (v3 + 3)) : Int).toNat) s192) fun r205 s201 =>
      if r196 = r205 then
        B_La_law_1701 n9 t9 k18 v1 v2 v3 s201
      else
        some (0, s201)
    else if (p_and (t9 (v3 : Int).toNat) 63) = 12 then
      p_gd ((0 : Int) ≤ (p_w (v3 + 1)) ∧ (p_w (v3 + 1)) < (n9 : Int)) <|
      p_gd ((0 : Int) ≤ (p_w (v3 + 2)) ∧ (p_w (v3 + 2)) < (n9 : Int)) <|
      p_gd (p_is s0 v1 10) <|
      p_bd (F_SW_label v1 (t9 ((p_w (v3 + 1)) : Int).toNat) (t9 ((p_w (v3 + 2)) : Int).toNat) s0) fun r215 s211 =>
      p_gd ((0 : Int) ≤ (p_w (v3 + 1)) ∧ (p_w (v3 + 1)) < (n9 : Int)) <|
      p_gd ((0 : Int) ≤ (p_w (v3 + 2)) ∧ (p_w (v3 + 2)) < (n9 : Int)) <|
      p_gd (p_is s211 v2 11) <|
      p_bd (F_Mo_label v2 (t9 ((p_w (v3 + 1)) : Int).toNat) (t9 ((p_w (v3 + 2)) : Int).toNat) s211) fun r223 s219 =>
      if r215 = r223 then
        B_La_law_1701 n9 t9 k18 v1 v2 v3 s219
      else
        some (0, s219)
    else if (p_and (t9 (v3 : Int).toNat) 63) = 13 then
      p_gd ((0 : Int) ≤ (p_w (v3 + 1)) ∧ (p_w (v3 + 1)) < (n9 : Int)) <|
      p_gd ((0 : Int) ≤ (p_w (v3 + 2)) ∧ (p_w (v3 + 2)) < (n9 : Int)) <|
      p_gd ((0 : Int) ≤ (p_w (v3 + 3)) ∧ (p_w (v3 + 3)) < (n9 : Int)) <|
      p_gd (p_is s0 v1 10) <|
      p_bd (F_SW_put v1 (t9 ((p_w (v3 + 1)) : Int).toNat) (t9 ((p_w (v3 + 2)) : Int).toNat) (t9 ((p_w (v3 + 3)) : Int).toNat) s0) fun r234 s230 =>
      p_gd ((0 : Int) ≤ (p_w (v3 + 1)) ∧ (p_w (v3 + 1)) < (n9 : Int)) <|
      p_gd ((0 : Int) ≤ (p_w (v3 + 2)) ∧ (p_w (v3 + 2)) < (n9 : Int)) <|
      p_gd ((0 : Int) ≤ (p_w (v3 + 3)) ∧ (p_w (v3 + 3)) < (n9 : Int)) <|
      p_gd (p_is s230 v2 11) <|
      p_bd (F_Mo_put v2 (t9 ((p_w (v3 + 1)) : Int).toNat) (t9 ((p_w (v3 + 2)) : Int).toNat) (t9 ((p_w (v3 + 3)) : Int).toNat) s230) fun r243 s239 =>
      if r234 = r243 then
        B_La_law_1701 n9 t9 k18 v1 v2 v3 s239
      else
        some (0, s239)
    else if (p_and (t9 (v3 : Int).toNat) 63) = 14 then
      p_gd ((0 : Int) ≤ (p_w (v3 + 1)) ∧ (p_w (v3 + 1)) < (n9 : Int)) <|
      p_gd ((0 : Int) ≤ (p_w (v3 + 2)) ∧ (p_w (v3 + 2)) < (n9 : Int)) <|
      p_gd ((0 : Int) ≤ (p_w (v3 + 3)) ∧ (p_w (v3 + 3)) < (n9 : Int)) <|
      p_gd (p_is s0 v1 10) <|
      p_bd (F_SW_tag v1 (t9 ((p_w (v3 + 1)) : Int).toNat) (t9 ((p_w (v3 + 2)) : Int).toNat) (t9 ((p_w (v3 + 3)) : Int).toNat) s0) fun r254 s250 =>
      p_gd ((0 : Int) ≤ (p_w (v3 + 1)) ∧ (p_w (v3 + 1)) < (n9 : Int)) <|
      p_gd ((0 : Int) ≤ (p_w (v3 + 2)) ∧ (p_w (v3 + 2)) < (n9 : Int)) <|
      p_gd ((0 : Int) ≤ (p_w (v3 + 3)) ∧ (p_w (v3 + 3)) < (n9 : Int)) <|
      p_gd (p_is s250 v2 11) <|
      p_bd (F_Mo_tag v2 (t9 ((p_w (v3 + 1)) : Int).toNat) (t9 ((p_w (v3 + 2)) : Int).toNat) (t9 ((p_w (v3 + 3)) : Int).toNat) s250) fun r263 s259 =>
      if r254 = r263 then
        B_La_law_1701 n9 t9 k18 v1 v2 v3 s259
      else
        some (0, s259)
    else if (p_and (t9 (v3 : Int).toNat) 63) = 15 then
      p_gd ((0 : Int) ≤ (p_w (v3 + 1)) ∧ (p_w (v3 + 1)) < (n9 : Int)) <|
      p_gd ((0 : Int) ≤ (p_w (v3 + 2)) ∧ (p_w (v3 + 2)) < (n9 : Int)) <|
      if (t9 ((p_w (v3 + 2)) : Int).toNat) = 0 then
        B_La_law_806 n9 t9 k18 v1 v2 v3 0 (t9 ((p_w (v3 + 1)) : Int).toNat) v1 s0
      else
        B_La_law_806 n9 t9 k18 v1 v2 v3 1 (t9 ((p_w (v3 + 1)) : Int).toNat) v1 s0
    else if (p_and (t9 (v3 : Int).toNat) 63) = 16 then
      p_gd ((0 : Int) ≤ (p_w (v3 + 1)) ∧ (p_w (v3 + 1)) < (n9 : Int)) <|
      p_gd ((0 : Int) ≤ (p_w (v3 + 2)) ∧ (p_w (v3 + 2)) < (n9 : Int)) <|
      p_gd (p_is s0 v1 10) <|
      p_bd (F_SW_turn v1 (t9 ((p_w (v3 + 1)) : Int).toNat) (t9 ((p_w (v3 + 2)) : Int).toNat) s0) fun r277 s273 =>
      p_gd ((0 : Int) ≤ (p_w (v3 + 1)) ∧ (p_w (v3 + 1)) < (n9 : Int)) <|
      p_gd ((0 : Int) ≤ (p_w (v3 + 2)) ∧ (p_w (v3 + 2)) < (n9 : Int)) <|
      p_gd (p_is s273 v2 11) <|
      p_bd (F_Mo_turn v2 (t9 ((p_w (v3 + 1)) : Int).toNat) (t9 ((p_w (v3 + 2)) : Int).toNat) s273) fun r285 s281 =>
      if r277 = r285 then
        B_La_law_1701 n9 t9 k18 v1 v2 v3 s281
      else
        some (0, s281)
    else if (p_and (t9 (v3 : Int).toNat) 63) = 17 then
      p_gd ((0 : Int) ≤ (p_w (v3 + 1)) ∧ (p_w (v3 + 1)) < (n9 : Int)) <|
      p_gd ((0 : Int) ≤ (p_w (v3 + 2)) ∧ (p_w (v3 + 2)) < (n9 : Int)) <|
      p_gd (p_is s0 v1 10) <|
      p_bd (F_SW_release v1 (t9 ((p_w (v3 + 1)) : Int).toNat) (t9 ((p_w (v3 + 2)) : Int).toNat) s0) fun r295 s291 =>
      p_gd ((0 : Int) ≤ (p_w (v3 + 1)) ∧ (p_w (v3 + 1)) < (n9 : Int)) <|
      p_gd ((0 : Int) ≤ (p_w (v3 + 2)) ∧ (p_w (v3 + 2)) < (n9 : Int)) <|
      p_gd (p_is s291 v2 11) <|
      p_bd (F_Mo_release v2 (t9 ((p_w (v3 + 1)) : Int).toNat) (t9 ((p_w (v3 + 2)) : Int).toNat) s291) fun r303 s299 =>
      if r295 = r303 then
        B_La_law_1701 n9 t9 k18 v1 v2 v3 s299
      else
        some (0, s299)
    else if (p_and (t9 (v3 : Int).toNat) 63) = 18 then
      p_gd ((0 : Int) ≤ (p_w (v3 + 1)) ∧ (p_w (v3 + 1)) < (n9 : Int)) <|
      p_gd (p_is s0 v1 10) <|
      p_bd (F_SW_clear v1 (t9 ((p_w (v3 + 1)) : Int).toNat) s0) fun r312 s308 =>
      p_gd ((0 : Int) ≤ (p_w (v3 + 1)) ∧ (p_w (v3 + 1)) < (n9 : Int)) <|
      p_gd (p_is s308 v2 11) <|
      p_bd (F_Mo_clear v2 (t9 ((p_w (v3 + 1)) : Int).toNat) s308) fun r319 s315 =>
      if r312 = r319 then
        B_La_law_1701 n9 t9 k18 v1 v2 v3 s315
      else
        some (0, s315)
    else if (p_and (t9 (v3 : Int).toNat) 63) = 19 then
      p_gd ((0 : Int) ≤ (p_w (v3 + 1)) ∧ (p_w (v3 + 1)) < (n9 : Int)) <|
      p_gd ((0 : Int) ≤ (p_w (v3 + 2)) ∧ (p_w (v3 + 2)) < (n9 : Int)) <|
      p_gd (p_is s0 v1 10) <|
      p_bd (F_SW_carry v1 (t9 ((p_w (v3 + 1)) : Int).toNat) (t9 ((p_w (v3 + 2)) : Int).toNat) s0) fun r329 s325 =>
      p_gd ((0 : Int) ≤ (p_w (v3 + 1)) ∧ (p_w (v3 + 1)) < (n9 : Int)) <|
      p_gd ((0 : Int) ≤ (p_w (v3 + 2)) ∧ (p_w (v3 + 2)) < (n9 : Int)) <|
      p_gd (p_is s325 v2 11) <|
      p_bd (F_Mo_carry v2 (t9 ((p_w (v3 + 1)) : Int).toNat) (t9 ((p_w (v3 + 2)) : Int).toNat) s325) fun r337 s333 =>
      if r329 = r337 then
        B_La_law_1701 n9 t9 k18 v1 v2 v3 s333
      else
        some (0, s333)
    else if (p_and (t9 (v3 : Int).toNat) 63) = 20 then
      p_gd ((0 : Int) ≤ (p_w (v3 + 1)) ∧ (p_w (v3 + 1)) < (n9 : Int)) <|
      p_gd ((0 : Int) ≤ (p_w (v3 + 2)) ∧ (p_w (v3 + 2)) < (n9 : Int)) <|
      p_gd ((0 : Int) ≤ (p_w (v3 + 3)) ∧ (p_w (v3 + 3)) < (n9 : Int)) <|
      p_gd (p_is s0 v1 10) <|
      p_bd (F_SW_group v1 (t9 ((p_w (v3 + 1)) : Int).toNat) (t9 ((p_w (v3 + 2)) : Int).toNat) (t9 ((p_w (v3 + 3)) : Int).toNat) s0) fun r348 s344 =>
      p_gd ((0 : Int) ≤ (p_w (v3 + 1)) ∧ (p_w (v3 + 1)) < (n9 : Int)) <|
      p_gd ((0 : Int) ≤ (p_w (v3 + 2)) ∧ (p_w (v3 + 2)) < (n9 : Int)) <|
      p_gd ((0 : Int) ≤ (p_w (v3 + 3)) ∧ (p_w (v3 + 3)) < (n9 : Int)) <|
      p_gd (p_is s344 v2 11) <|
      p_bd (F_Mo_group v2 (t9 ((p_w (v3 + 1)) : Int).toNat) (t9 ((p_w (v3 + 2)) : Int).toNat) (t9 ((p_w (v3 + 3)) : Int).toNat) s344) fun r357 s353 =>
      if r348 = r357 then
        B_La_law_1701 n9 t9 k18 v1 v2 v3 s353
      else
        some (0, s353)
    else if (p_and (t9 (v3 : Int).toNat) 63) = 21 then
      p_gd ((0 : Int) ≤ (p_w (v3 + 1)) ∧ (p_w (v3 + 1)) < (n9 : Int)) <|
      p_gd ((0 : Int) ≤ (p_w (v3 + 2)) ∧ (p_w (v3 + 2)) < (n9 : Int)) <|
      p_gd ((0 : Int) ≤ (p_w (v3 + 3)) ∧ (p_w (v3 + 3)) < (n9 : Int)) <|
      p_gd (p_is s0 v1 10) <|
      p_bd (F_SW_enter v1 (t9 ((p_w (v3 + 1)) : Int).toNat) (t9 ((p_w (v3 + 2)) : Int).toNat) (t9 ((p_w (v3 + 3)) : Int).toNat) s0) fun r368 s364 =>
      p_gd ((0 : Int) ≤ (p_w (v3 + 1)) ∧ (p_w (v3 + 1)) < (n9 : Int)) <|
      p_gd ((0 : Int) ≤ (p_w (v3 + 2)) ∧ (p_w (v3 + 2)) < (n9 : Int)) <|
      p_gd ((0 : Int) ≤ (p_w (v3 + 3)) ∧ (p_w (v3 + 3)) < (n9 : Int)) <|
      p_gd (p_is s364 v2 11) <|
      p_bd (F_Mo_enter v2 (t9 ((p_w (v3 + 1)) : Int).toNat) (t9 ((p_w (v3 + 2)) : Int).toNat) (t9 ((p_w (v3 + 3)) : Int).toNat) s364) fun r377 s373 =>
      if r368 = r377 then
        B_La_law_1701 n9 t9 k18 v1 v2 v3 s373
      else
        some (0, s373)
    else if (p_and (t9 (v3 : Int).toNat) 63) = 22 then
      p_gd ((0 : Int) ≤ (p_w (v3 + 1)) ∧ (p_w (v3 + 1)) < (n9 : Int)) <|
      p_gd ((0 : Int) ≤ (p_w (v3 + 2)) ∧ (p_w (v3 + 2)) < (n9 : Int)) <|
      p_gd (p_is s0 v1 10) <|
      p_bd (F_SW_tally v1 (t9 ((p_w (v3 + 1)) : Int).toNat) (t9 ((p_w (v3 + 2)) : Int).toNat) s0) fun r387 s383 =>
      p_gd ((0 : Int) ≤ (p_w (v3 + 1)) ∧ (p_w (v3 + 1)) < (n9 : Int)) <|
      p_gd ((0 : Int) ≤ (p_w (v3 + 2)) ∧ (p_w (v3 + 2)) < (n9 : Int)) <|
      p_gd (p_is s383 v2 11) <|
      p_bd (F_Mo_tally v2 (t9 ((p_w (v3 + 1)) : Int).toNat) (t9 ((p_w (v3 + 2)) : Int).toNat) s383) fun r395 s391 =>
      if r387 = r395 then
        B_La_law_1701 n9 t9 k18 v1 v2 v3 s391
      else
        some (0, s391)
    else if (p_and (t9 (v3 : Int).toNat) 63) = 23 then
      p_gd (p_is s0 v1 10) <|
      p_bd (F_SW_step v1 s0) fun r403 s399 =>
      p_gd (p_is s399 v2 11) <|
      p_bd (F_Mo_step v2 s399) fun r409 s405 =>
      if r403 = r409 then
        B_La_law_1701 n9 t9 k18 v1 v2 v3 s405
      else
        some (0, s405)
    else if (p_and (t9 (v3 : Int).toNat) 63) = 24 then
      p_gd ((0 : Int) ≤ (p_w (v3 + 1)) ∧ (p_w (v3 + 1)) < (n9 : Int)) <|
      p_gd ((0 : Int) ≤ (p_w (v3 + 2)) ∧ (p_w (v3 + 2)) < (n9 : Int)) <|
      p_gd (p_is s0 v1 10) <|
      p_bd (F_SW_night v1 (t9 ((p_w (v3 + 1)) : Int).toNat) (t9 ((p_w (v3 + 2)) : Int).toNat) s0) fun r419 s415 =>
      p_gd ((0 : Int) ≤ (p_w (v3 + 1)) ∧ (p_w (v3 + 1)) < (n9 : Int)) <|
      p_gd ((0 : Int) ≤ (p_w (v3 + 2)) ∧ (p_w (v3 + 2)) < (n9 : Int)) <|
      p_gd (p_is s415 v2 11) <|
      p_bd (F_Mo_night v2 (t9 ((p_w (v3 + 1)) : Int).toNat) (t9 ((p_w (v3 + 2)) : Int).toNat) s415) fun r427 s423 =>
      if r419 = r427 then
        B_La_law_1701 n9 t9 k18 v1 v2 v3 s423
      else
        some (0, s423)
    else if (p_and (t9 (v3 : Int).toNat) 63) = 25 then
      p_gd ((0 : Int) ≤ (p_w (v3 + 1)) ∧ (p_w (v3 + 1)) < (n9 : Int)) <|
      p_gd (p_is s0 v1 10) <|
      p_bd (F_SW_back v1 (t9 ((p_w (v3 + 1)) : Int).toNat) s0) fun r436 s432 =>
      p_gd ((0 : Int) ≤ (p_w (v3 + 1)) ∧ (p_w (v3 + 1)) < (n9 : Int)) <|
      p_gd (p_is s432 v2 11) <|
      p_bd (F_Mo_back v2 (t9 ((p_w (v3 + 1)) : Int).toNat) s432) fun r443 s439 =>
      if r436 = r443 then
        B_La_law_1701 n9 t9 k18 v1 v2 v3 s439
      else
        some (0, s439)
    else if (p_and (t9 (v3 : Int).toNat) 63) = 26 then
      p_gd (p_is s0 v1 10) <|
      p_bd (F_SW_status v1 s0) fun r451 s447 =>
      p_gd (p_is s447 v2 11) <|
      p_bd (F_Mo_status v2 s447) fun r457 s453 =>
      if r451 = r457 then
        B_La_law_1701 n9 t9 k18 v1 v2 v3 s453
      else
        some (0, s453)
    else if (p_and (t9 (v3 : Int).toNat) 63) = 27 then
      p_gd ((0 : Int) ≤ (p_w (v3 + 1)) ∧ (p_w (v3 + 1)) < (n9 : Int)) <|
      p_gd ((0 : Int) ≤ (p_w (v3 + 2)) ∧ (p_w (v3 + 2)) < (n9 : Int)) <|
      p_gd (p_is s0 v1 10) <|
      p_bd (F_SW_told v1 (t9 ((p_w (v3 + 1)) : Int).toNat) (t9 ((p_w (v3 + 2)) : Int).toNat) s0) fun r467 s463 =>
      p_gd ((0 : Int) ≤ (p_w (v3 + 1)) ∧ (p_w (v3 + 1)) < (n9 : Int)) <|
      p_gd ((0 : Int) ≤ (p_w (v3 + 2)) ∧ (p_w (v3 + 2)) < (n9 : Int)) <|
      p_gd (p_is s463 v2 11) <|
      p_bd (F_Mo_told v2 (t9 ((p_w (v3 + 1)) : Int).toNat) (t9 ((p_w (v3 + 2)) : Int).toNat) s463) fun r475 s471 =>
      if r467 = r475 then
        B_La_law_1701 n9 t9 k18 v1 v2 v3 s471
      else
        some (0, s471)
    else if (p_and (t9 (v3 : Int).toNat) 63) = 28 then
      p_gd ((0 : Int) ≤ (p_w (v3 + 1)) ∧ (p_w (v3 + 1)) < (n9 : Int)) <|
      p_gd ((0 : Int) ≤ (p_w (v3 + 2)) ∧ (p_w (v3 + 2)) < (n9 : Int)) <|
      p_gd (p_is s0 v1 10) <|
      p_bd (F_SW_slot v1 (t9 ((p_w (v3 + 1)) : Int).toNat) (t9 ((p_w (v3 + 2)) : Int).toNat) s0) fun r485 s481 =>
      p_gd ((0 : Int) ≤ (p_w (v3 + 1)) ∧ (p_w (v3 + 1)) < (n9 : Int)) <|
      p_gd ((0 : Int) ≤ (p_w (v3 + 2)) ∧ (p_w (v3 + 2)) < (n9 : Int)) <|
      p_gd (p_is s481 v2 11) <|
      p_bd (F_Mo_slot v2 (t9 ((p_w (v3 + 1)) : Int).toNat) (t9 ((p_w (v3 + 2)) : Int).toNat) s481) fun r493 s489 =>
      if r485 = r493 then
        B_La_law_1701 n9 t9 k18 v1 v2 v3 s489
      else
        some (0, s489)
    else if (p_and (t9 (v3 : Int).toNat) 63) = 29 then
      p_gd ((0 : Int) ≤ (p_w (v3 + 1)) ∧ (p_w (v3 + 1)) < (n9 : Int)) <|
      p_gd ((0 : Int) ≤ (p_w (v3 + 2)) ∧ (p_w (v3 + 2)) < (n9 : Int)) <|
      p_gd (p_is s0 v1 10) <|
      p_bd (F_SW_linkOf v1 (t9 ((p_w (v3 + 1)) : Int).toNat) (t9 ((p_w (v3 + 2)) : Int).toNat) s0) fun r503 s499 =>
      p_gd ((0 : Int) ≤ (p_w (v3 + 1)) ∧ (p_w (v3 + 1)) < (n9 : Int)) <|
      p_gd ((0 : Int) ≤ (p_w (v3 + 2)) ∧ (p_w (v3 + 2)) < (n9 : Int)) <|
      p_gd (p_is s499 v2 11) <|
      p_bd (F_Mo_linkOf v2 (t9 ((p_w (v3 + 1)) : Int).toNat) (t9 ((p_w (v3 + 2)) : Int).toNat) s499) fun r511 s507 =>
      if r503 = r511 then
        B_La_law_1701 n9 t9 k18 v1 v2 v3 s507
      else
        some (0, s507)
    else if (p_and (t9 (v3 : Int).toNat) 63) = 30 then
      p_gd ((0 : Int) ≤ (p_w (v3 + 1)) ∧ (p_w (v3 + 1)) < (n9 : Int)) <|
      p_gd ((0 : Int) ≤ (p_w (v3 + 2)) ∧ (p_w (v3 + 2)) < (n9 : Int)) <|
      p_gd (p_is s0 v1 10) <|
      p_bd (F_SW_parcel v1 (t9 ((p_w (v3 + 1)) : Int).toNat) (t9 ((p_w (v3 + 2)) : Int).toNat) s0) fun r521 s517 =>
      p_gd ((0 : Int) ≤ (p_w (v3 + 1)) ∧ (p_w (v3 + 1)) < (n9 : Int)) <|
      p_gd ((0 : Int) ≤ (p_w (v3 + 2)) ∧ (p_w (v3 + 2)) < (n9 : Int)) <|
      p_gd (p_is s517 v2 11) <|
      p_bd (F_Mo_parcel v2 (t9 ((p_w (v3 + 1)) : Int).toNat) (t9 ((p_w (v3 + 2)) : Int).toNat) s517) fun r529 s525 =>
      if r521 = r529 then
        B_La_law_1701 n9 t9 k18 v1 v2 v3 s525
      else
        some (0, s525)
    else if (p_and (t9 (v3 : Int).toNat) 63) = 31 then
      p_gd ((0 : Int) ≤ (p_w (v3 + 1)) ∧ (p_w (v3 + 1)) < (n9 : Int)) <|
      p_gd ((0 : Int) ≤ (p_w (v3 + 2)) ∧ (p_w (v3 + 2)) < (n9 : Int)) <|
      p_gd (p_is s0 v1 10) <|
      p_bd (F_SW_way v1 (t9 ((p_w (v3 + 1)) : Int).toNat) (t9 ((p_w (v3 + 2)) : Int).toNat) s0) fun r539 s535 =>
      p_gd ((0 : Int) ≤ (p_w (v3 + 1)) ∧ (p_w (v3 + 1)) < (n9 : Int)) <|
      p_gd ((0 : Int) ≤ (p_w (v3 + 2)) ∧ (p_w (v3 + 2)) < (n9 : Int)) <|
      p_gd (p_is s535 v2 11) <|
      p_bd (F_Mo_way v2 (t9 ((p_w (v3 + 1)) : Int).toNat) (t9 ((p_w (v3 + 2)) : Int).toNat) s535) fun r547 s543 =>
      if r539 = r547 then
        B_La_law_1701 n9 t9 k18 v1 v2 v3 s543
      else
        some (0, s543)
    else if (p_and (t9 (v3 : Int).toNat) 63) = 32 then
      p_gd ((0 : Int) ≤ (p_w (v3 + 1)) ∧ (p_w (v3 + 1)) < (n9 : Int)) <|
      p_gd ((0 : Int) ≤ (p_w (v3 + 2)) ∧ (p_w (v3 + 2)) < (n9 : Int)) <|
      p_gd (p_is s0 v1 10) <|
      p_bd (F_SW_byteOf v1 (t9 ((p_w (v3 + 1)) : Int).toNat) (t9 ((p_w (v3 + 2)) : Int).toNat) s0) fun r557 s553 =>
      p_gd ((0 : Int) ≤ (p_w (v3 + 1)) ∧ (p_w (v3 + 1)) < (n9 : Int)) <|
      p_gd ((0 : Int) ≤ (p_w (v3 + 2)) ∧ (p_w (v3 + 2)) < (n9 : Int)) <|
      p_gd (p_is s553 v2 11) <|
      p_bd (F_Mo_byteOf v2 (t9 ((p_w (v3 + 1)) : Int).toNat) (t9 ((p_w (v3 + 2)) : Int).toNat) s553) fun r565 s561 =>
      if r557 = r565 then
        B_La_law_1701 n9 t9 k18 v1 v2 v3 s561
      else
        some (0, s561)
    else if (p_and (t9 (v3 : Int).toNat) 63) = 33 then
      p_gd ((0 : Int) ≤ (p_w (v3 + 1)) ∧ (p_w (v3 + 1)) < (n9 : Int)) <|
      p_gd (p_is s0 v1 10) <|
      p_bd (F_SW_left v1 (t9 ((p_w (v3 + 1)) : Int).toNat) s0) fun r574 s570 =>
      p_gd ((0 : Int) ≤ (p_w (v3 + 1)) ∧ (p_w (v3 + 1)) < (n9 : Int)) <|
      p_gd (p_is s570 v2 11) <|
      p_bd (F_Mo_left v2 (t9 ((p_w (v3 + 1)) : Int).toNat) s570) fun r581 s577 =>
      if r574 = r581 then
        B_La_law_1701 n9 t9 k18 v1 v2 v3 s577
      else
        some (0, s577)
    else if (p_and (t9 (v3 : Int).toNat) 63) = 34 then
      p_gd ((0 : Int) ≤ (p_w (v3 + 1)) ∧ (p_w (v3 + 1)) < (n9 : Int)) <|
      p_gd ((0 : Int) ≤ (p_w (v3 + 2)) ∧ (p_w (v3 + 2)) < (n9 : Int)) <|
      p_gd (p_is s0 v1 10) <|
      p_bd (F_SW_out v1 (t9 ((p_w (v3 + 1)) : Int).toNat) (t9 ((p_w (v3 + 2)) : Int).toNat) s0) fun r591 s587 =>
      p_gd ((0 : Int) ≤ (p_w (v3 + 1)) ∧ (p_w (v3 + 1)) < (n9 : Int)) <|
      p_gd ((0 : Int) ≤ (p_w (v3 + 2)) ∧ (p_w (v3 + 2)) < (n9 : Int)) <|
      p_gd (p_is s587 v2 11) <|
      p_bd (F_Mo_out v2 (t9 ((p_w (v3 + 1)) : Int).toNat) (t9 ((p_w (v3 + 2)) : Int).toNat) s587) fun r599 s595 =>
      if r591 = r599 then
        B_La_law_1701 n9 t9 k18 v1 v2 v3 s595
      else
        some (0, s595)
    else if (p_and (t9 (v3 : Int).toNat) 63) = 35 then
      p_gd ((0 : Int) ≤ (p_w (v3 + 1)) ∧ (p_w (v3 + 1)) < (n9 : Int)) <|
      p_gd ((0 : Int) ≤ (p_w (v3 + 2)) ∧ (p_w (v3 + 2)) < (n9 : Int)) <|
      p_gd (p_is s0 v1 10) <|
      p_bd (F_SW_rule v1 (t9 ((p_w (v3 + 1)) : Int).toNat) (t9 ((p_w (v3 + 2)) : Int).toNat) s0) fun r609 s605 =>
      p_gd ((0 : Int) ≤ (p_w (v3 + 1)) ∧ (p_w (v3 + 1)) < (n9 : Int)) <|
      p_gd ((0 : Int) ≤ (p_w (v3 + 2)) ∧ (p_w (v3 + 2)) < (n9 : Int)) <|
      p_gd (p_is s605 v2 11) <|
      p_bd (F_Mo_rule_1 v2 (t9 ((p_w (v3 + 1)) : Int).toNat) (t9 ((p_w (v3 + 2)) : Int).toNat) s605) fun r617 s613 =>
      if r609 = r617 then
        B_La_law_1701 n9 t9 k18 v1 v2 v3 s613
      else
        some (0, s613)
    else if (p_and (t9 (v3 : Int).toNat) 63) = 36 then
      p_gd ((0 : Int) ≤ (p_w (v3 + 1)) ∧ (p_w (v3 + 1)) < (n9 : Int)) <|
      p_gd (p_is s0 v1 10) <|
      p_bd (F_SW_said v1 (t9 ((p_w (v3 + 1)) : Int).toNat) s0) fun r626 s622 =>
      p_gd ((0 : Int) ≤ (p_w (v3 + 1)) ∧ (p_w (v3 + 1)) < (n9 : Int)) <|
      p_gd (p_is s622 v2 11) <|
      p_bd (F_Mo_said v2 (t9 ((p_w (v3 + 1)) : Int).toNat) s622) fun r633 s629 =>
      if r626 = r633 then
        B_La_law_1701 n9 t9 k18 v1 v2 v3 s629
      else
        some (0, s629)
    else if (p_and (t9 (v3 : Int).toNat) 63) = 37 then
      p_gd ((0 : Int) ≤ (p_w (v3 + 1)) ∧ (p_w (v3 + 1)) < (n9 : Int)) <|
      p_gd (p_is s0 v1 10) <|
      p_bd (F_SW_unused v1 (t9 ((p_w (v3 + 1)) : Int).toNat) s0) fun r642 s638 =>
      p_gd ((0 : Int) ≤ (p_w (v3 + 1)) ∧ (p_w (v3 + 1)) < (n9 : Int)) <|
      p_gd (p_is s638 v2 11) <|
      p_bd (F_Mo_unused v2 (t9 ((p_w (v3 + 1)) : Int).toNat) s638) fun r649 s645 =>
      if r642 = r649 then
        B_La_law_1701 n9 t9 k18 v1 v2 v3 s645
      else
        some (0, s645)
    else if (p_and (t9 (v3 : Int).toNat) 63) = 38 then
      p_gd ((0 : Int) ≤ (p_w (v3 + 1)) ∧ (p_w (v3 + 1)) < (n9 : Int)) <|
      p_gd ((0 : Int) ≤ (p_w (v3 + 2)) ∧ (p_w (v3 + 2)) < (n9 : Int)) <|
      p_gd (p_is s0 v1 10) <|
      p_bd (F_SW_finding v1 (t9 ((p_w (v3 + 1)) : Int).toNat) (t9 ((p_w (v3 + 2)) : Int).toNat) s0) fun r659 s655 =>
      p_gd ((0 : Int) ≤ (p_w (v3 + 1)) ∧ (p_w (v3 + 1)) < (n9 : Int)) <|
      p_gd ((0 : Int) ≤ (p_w (v3 + 2)) ∧ (p_w (v3 + 2)) < (n9 : Int)) <|
      p_gd (p_is s655 v2 11) <|
      p_bd (F_Mo_finding v2 (t9 ((p_w (v3 + 1)) : Int).toNat) (t9 ((p_w (v3 + 2)) : Int).toNat) s655) fun r667 s663 =>
      if r659 = r667 then
        B_La_law_1701 n9 t9 k18 v1 v2 v3 s663
      else
        some (0, s663)
    else if (p_and (t9 (v3 : Int).toNat) 63) = 39 then
      p_gd ((0 : Int) ≤ (p_w (v3 + 1)) ∧ (p_w (v3 + 1)) < (n9 : Int)) <|
      p_gd (p_is s0 v1 10) <|
      p_bd (F_SW_trace v1 (t9 ((p_w (v3 + 1)) : Int).toNat) s0) fun r676 s672 =>
      p_gd ((0 : Int) ≤ (p_w (v3 + 1)) ∧ (p_w (v3 + 1)) < (n9 : Int)) <|
      p_gd (p_is s672 v2 11) <|
      p_bd (F_Mo_trace v2 (t9 ((p_w (v3 + 1)) : Int).toNat) s672) fun r683 s679 =>
      if r676 = r683 then
        B_La_law_1701 n9 t9 k18 v1 v2 v3 s679
      else
        some (0, s679)
    else if (p_and (t9 (v3 : Int).toNat) 63) = 40 then
      p_gd ((0 : Int) ≤ (p_w (v3 + 1)) ∧ (p_w (v3 + 1)) < (n9 : Int)) <|
      p_gd (p_is s0 v1 10) <|
      p_bd (F_SW_jam v1 (t9 ((p_w (v3 + 1)) : Int).toNat) s0) fun r692 s688 =>
      p_gd ((0 : Int) ≤ (p_w (v3 + 1)) ∧ (p_w (v3 + 1)) < (n9 : Int)) <|
      p_gd (p_is s688 v2 11) <|
      p_bd (F_Mo_jam v2 (t9 ((p_w (v3 + 1)) : Int).toNat) s688) fun r699 s695 =>
      if r692 = r699 then
        B_La_law_1701 n9 t9 k18 v1 v2 v3 s695
      else
        some (0, s695)
    else if (p_and (t9 (v3 : Int).toNat) 63) = 41 then
      p_gd ((0 : Int) ≤ (p_w (v3 + 1)) ∧ (p_w (v3 + 1)) < (n9 : Int)) <|
      p_gd ((0 : Int) ≤ (p_w (v3 + 2)) ∧ (p_w (v3 + 2)) < (n9 : Int)) <|
      p_gd (p_is s0 v1 10) <|
      p_bd (F_SW_far v1 (t9 ((p_w (v3 + 1)) : Int).toNat) (t9 ((p_w (v3 + 2)) : Int).toNat) s0) fun r709 s705 =>
      p_gd ((0 : Int) ≤ (p_w (v3 + 1)) ∧ (p_w (v3 + 1)) < (n9 : Int)) <|
      p_gd ((0 : Int) ≤ (p_w (v3 + 2)) ∧ (p_w (v3 + 2)) < (n9 : Int)) <|
      p_gd (p_is s705 v2 11) <|
      p_bd (F_Mo_far v2 (t9 ((p_w (v3 + 1)) : Int).toNat) (t9 ((p_w (v3 + 2)) : Int).toNat) s705) fun r717 s713 =>
      if r709 = r717 then
        B_La_law_1701 n9 t9 k18 v1 v2 v3 s713
      else
        some (0, s713)
    else if (p_and (t9 (v3 : Int).toNat) 63) = 42 then
      p_gd ((0 : Int) ≤ (p_w (v3 + 1)) ∧ (p_w (v3 + 1)) < (n9 : Int)) <|
      p_gd (p_is s0 v1 10) <|
      p_bd (F_SW_reach v1 (t9 ((p_w (v3 + 1)) : Int).toNat) s0) fun r726 s722 =>
      p_gd ((0 : Int) ≤ (p_w (v3 + 1)) ∧ (p_w (v3 + 1)) < (n9 : Int)) <|
      p_gd (p_is s722 v2 11) <|
      p_bd (F_Mo_reach v2 (t9 ((p_w (v3 + 1)) : Int).toNat) s722) fun r733 s729 =>
      if (p_cmp r726 r733) = 0 then
        B_La_law_1701 n9 t9 k18 v1 v2 v3 s729
      else
        some (0, s729)
    else if (p_and (t9 (v3 : Int).toNat) 63) = 43 then
      p_gd ((0 : Int) ≤ (p_w (v3 + 1)) ∧ (p_w (v3 + 1)) < (n9 : Int)) <|
      p_gd (p_is s0 v1 10) <|
      p_bd (F_SW_ring v1 (t9 ((p_w (v3 + 1)) : Int).toNat) s0) fun r742 s738 =>
      p_gd ((0 : Int) ≤ (p_w (v3 + 1)) ∧ (p_w (v3 + 1)) < (n9 : Int)) <|
      p_gd (p_is s738 v2 11) <|
      p_bd (F_Mo_ring v2 (t9 ((p_w (v3 + 1)) : Int).toNat) s738) fun r749 s745 =>
      if r742 = r749 then
        B_La_law_1701 n9 t9 k18 v1 v2 v3 s745
      else
        some (0, s745)
    else if (p_and (t9 (v3 : Int).toNat) 63) = 44 then
      p_gd (p_is s0 v1 10) <|
      p_bd (F_SW_audit v1 s0) fun r757 s753 =>
      p_gd (p_is s753 v2 11) <|
      p_bd (F_Mo_audit v2 s753) fun r763 s759 =>
      if r757 = r763 then
        B_La_law_1701 n9 t9 k18 v1 v2 v3 s759
      else
        some (0, s759)
    else if (p_and (t9 (v3 : Int).toNat) 63) = 45 then
      p_gd ((0 : Int) ≤ (p_w (v3 + 1)) ∧ (p_w (v3 + 1)) < (n9 : Int)) <|
      p_gd (p_is s0 v1 10) <|
      p_bd (F_SW_count v1 (t9 ((p_w (v3 + 1)) : Int).toNat) s0) fun r772 s768 =>
      p_gd ((0 : Int) ≤ (p_w (v3 + 1)) ∧ (p_w (v3 + 1)) < (n9 : Int)) <|
      p_gd (p_is s768 v2 11) <|
      p_bd (F_Mo_count v2 (t9 ((p_w (v3 + 1)) : Int).toNat) s768) fun r779 s775 =>
      if r772 = r779 then
        B_La_law_1701 n9 t9 k18 v1 v2 v3 s775
      else
        some (0, s775)
    else if (p_and (t9 (v3 : Int).toNat) 63) = 46 then
      p_gd (p_is s0 v1 10) <|
      p_bd (F_SW_digest v1 s0) fun r787 s783 =>
      p_gd (p_is s783 v2 11) <|
      p_bd (F_Mo_digest v2 s783) fun r793 s789 =>
      if (p_cmp r787 r793) = 0 then
        B_La_law_1701 n9 t9 k18 v1 v2 v3 s789
      else
        some (0, s789)
    else 
    B_La_law_1701 n9 t9 k18 v1 v2 v3 s0
def O_La_law_18 (n9 : Nat) (t9 : Nat → Int)  : Nat → Nat → Nat → Int → p_Hp → Option (Int × p_Hp)
  | 0 => fun _ _ _ _ => none
  | n + 1 => L_La_law_18 n9 t9 (O_La_law_18 n9 t9 n)
def F_La_law (n9 : Nat) (t9 : Nat → Int)  (s0 : p_Hp) : Option (Int × p_Hp) :=
  p_bi (p_nw s0 10 9) fun s1 =>
  p_bv (F_SW_init (p_N s0 + 1) s1) fun s3 =>
  p_bi ((p_N s0 + 1)) fun x7 =>
  p_bi (p_nw s3 11 90) fun s8 =>
  p_bv (F_Mo_init (p_N s3 + 1) s8) fun s10 =>
  p_bi ((p_N s3 + 1)) fun x14 =>
  O_La_law_18 n9 t9 3000 x7 x14 0 s10
set_option maxRecDepth 100000 in
set_option maxHeartbeats 4000000 in
theorem tB_La_law_1701 (K : p_K) (l : Launch) (n9 : Nat) (t9 : Nat → Int) (he1 : n9 = p_tl K 9) (he2 : t9 = p_tv K 9) (k18 : Nat → Nat → Int → p_Hp → Option (Int × p_Hp)) (hk18 : ∀ (v1 : Nat) (v2 : Nat) (v3 : Int)  (s0 : p_Hp) (r : (Int × p_Hp)), k18 v1 v2 v3 s0 = some r → p_Go K l m_La_law 18 [(0, p_s 9), (1, p_r v1), (2, p_r v2), (3, p_i v3)] [] s0 (some (p_i r.1), r.2)) (v1 : Nat) (v2 : Nat) (v3 : Int) (s0 : p_Hp) (r : (Int × p_Hp)) (h : B_La_law_1701 n9 t9 k18 v1 v2 v3 s0 = some r) : p_Go K l m_La_law 1701 [(0, p_s 9), (1, p_r v1), (2, p_r v2), (3, p_i v3)] [] s0 (some (p_i r.1), r.2) := by
  unfold B_La_law_1701 at h
  refine g_iinc (j := 3) [(3, p_i (p_w (v3 + 6))), (0, p_s 9), (1, p_r v1), (2, p_r v2)] (dk_La_law 1189 rfl) rfl (by decide) rfl ?_
  refine p_ltG (P := fun q => p_Go K l m_La_law 1704 [(3, p_i q), (0, p_s 9), (1, p_r v1), (2, p_r v2)] [] s0 _) ?_ h
  intro x1 h
  refine g_goto 18 (dk_La_law 1190 rfl) (by decide) ?_
  refine g_sub [(0, p_s 9), (1, p_r v1), (2, p_r v2), (3, p_i x1)] [1, 2, 3, 0] rfl ?_
  exact hk18 v1 v2 x1 s0 _ h
set_option maxRecDepth 100000 in
set_option maxHeartbeats 4000000 in
theorem tB_La_law_429 (K : p_K) (l : Launch) (n9 : Nat) (t9 : Nat → Int) (he1 : n9 = p_tl K 9) (he2 : t9 = p_tv K 9) (k18 : Nat → Nat → Int → p_Hp → Option (Int × p_Hp)) (hk18 : ∀ (v1 : Nat) (v2 : Nat) (v3 : Int)  (s0 : p_Hp) (r : (Int × p_Hp)), k18 v1 v2 v3 s0 = some r → p_Go K l m_La_law 18 [(0, p_s 9), (1, p_r v1), (2, p_r v2), (3, p_i v3)] [] s0 (some (p_i r.1), r.2)) (v1 : Nat) (v2 : Nat) (v3 : Int) (w0 : Int) (w1 : Int) (w2 : Int) (w3 : Int) (w4 : Nat) (w5 : Int) (s0 : p_Hp) (r : (Int × p_Hp)) (h : B_La_law_429 n9 t9 k18 v1 v2 v3 w0 w1 w2 w3 w4 w5 s0 = some r) : p_Go K l m_La_law 429 [(0, p_s 9), (1, p_r v1), (2, p_r v2), (3, p_i v3)] [p_i w0, p_i w1, p_i w2, p_i w3, p_r w4, p_i w5] s0 (some (p_i r.1), r.2) := by
  unfold B_La_law_429 at h
  obtain ⟨c1, h⟩ := p_gdE h
  obtain ⟨r6, s2, q3, h⟩ := p_bdE h
  have t4 := tF_Mo_aim K l w4 w3 w2 w1 w0 s0 _ q3
  refine g_callV (a := w4) (ci := 11) (q0 := (RX11, TX11, 90)) (As := [p_i w3, p_i w2, p_i w1, p_i w0]) (rest := [p_i w5]) [p_i r6, p_i w5] mt_Mo_aim rfl rfl tw_7_119 tw_7_120 tw_7_118 ⟨Nat.le_of_ble_eq_true rfl, Nat.le_of_ble_eq_true rfl⟩ rfl (Nat.le_of_ble_eq_true rfl) (dk_La_law 181 rfl) rfl c1 rfl t4 ?_
  have hs5 : p_x s0 s2 := t4.1
  show p_Go K l m_La_law 432 [(0, p_s 9), (1, p_r v1), (2, p_r v2), (3, p_i v3)] [p_i r6, p_i w5] s2 _
  refine g_icmp_eq 1701 (dk_La_law 182 rfl) (by decide) (fun b7 => ?_) (fun b7 => ?_)
  · have h := p_ifT b7 h
    exact tB_La_law_1701 K l n9 t9 he1 he2 k18 hk18 v1 v2 v3 s2 _ h
  · have h := p_ifF b7 h
    refine g_iconst (dk_La_law 183 rfl) (by decide) ?_
    cases h
    exact g_ret rfl rfl (dk_La_law 184 rfl) (fun _ => ⟨_, rfl, Or.inl rfl⟩)
set_option maxRecDepth 100000 in
set_option maxHeartbeats 4000000 in
theorem tB_La_law_397 (K : p_K) (l : Launch) (n9 : Nat) (t9 : Nat → Int) (he1 : n9 = p_tl K 9) (he2 : t9 = p_tv K 9) (k18 : Nat → Nat → Int → p_Hp → Option (Int × p_Hp)) (hk18 : ∀ (v1 : Nat) (v2 : Nat) (v3 : Int)  (s0 : p_Hp) (r : (Int × p_Hp)), k18 v1 v2 v3 s0 = some r → p_Go K l m_La_law 18 [(0, p_s 9), (1, p_r v1), (2, p_r v2), (3, p_i v3)] [] s0 (some (p_i r.1), r.2)) (v1 : Nat) (v2 : Nat) (v3 : Int) (w0 : Int) (w1 : Int) (w2 : Int) (w3 : Int) (w4 : Nat) (s0 : p_Hp) (r : (Int × p_Hp)) (h : B_La_law_397 n9 t9 k18 v1 v2 v3 w0 w1 w2 w3 w4 s0 = some r) : p_Go K l m_La_law 397 [(0, p_s 9), (1, p_r v1), (2, p_r v2), (3, p_i v3)] [p_i w0, p_i w1, p_i w2, p_i w3, p_r w4] s0 (some (p_i r.1), r.2) := by
  unfold B_La_law_397 at h
  obtain ⟨c1, h⟩ := p_gdE h
  obtain ⟨r6, s2, q3, h⟩ := p_bdE h
  have t4 := tF_SW_aim K l w4 w3 w2 w1 w0 s0 _ q3
  refine g_callV (a := w4) (ci := 10) (q0 := (RX10, TX10, 9)) (As := [p_i w3, p_i w2, p_i w1, p_i w0]) (rest := []) [p_i r6] mt_SW_aim rfl rfl tw_3_115 tw_3_116 tw_3_114 ⟨Nat.le_of_ble_eq_true rfl, Nat.le_of_ble_eq_true rfl⟩ rfl (Nat.le_of_ble_eq_true rfl) (dk_La_law 155 rfl) rfl c1 rfl t4 ?_
  have hs5 : p_x s0 s2 := t4.1
  show p_Go K l m_La_law 400 [(0, p_s 9), (1, p_r v1), (2, p_r v2), (3, p_i v3)] [p_i r6] s2 _
  refine g_aload_n (i := 2) (j := 2) (dk_La_law 156 rfl) rfl rfl ?_
  refine g_aload_nS (i := 0) (j := 0) (dk_La_law 157 rfl) rfl rfl ?_
  refine g_iload_n (i := 3) (j := 3) (dk_La_law 158 rfl) rfl rfl ?_
  refine g_iconst (dk_La_law 159 rfl) (by decide) ?_
  refine g_iadd (dk_La_law 160 rfl) ?_
  obtain ⟨c7, h⟩ := p_gdE h
  refine g_scr he1 he2 (dk_La_law 161 rfl) c7.1 c7.2 ?_
  refine g_aload_nS (i := 0) (j := 0) (dk_La_law 162 rfl) rfl rfl ?_
  refine g_iload_n (i := 3) (j := 3) (dk_La_law 163 rfl) rfl rfl ?_
  refine g_iconst (dk_La_law 164 rfl) (by decide) ?_
  refine g_iadd (dk_La_law 165 rfl) ?_
  obtain ⟨c8, h⟩ := p_gdE h
  refine g_scr he1 he2 (dk_La_law 166 rfl) c8.1 c8.2 ?_
  refine g_aload_nS (i := 0) (j := 0) (dk_La_law 167 rfl) rfl rfl ?_
  refine g_iload_n (i := 3) (j := 3) (dk_La_law 168 rfl) rfl rfl ?_
  refine g_iconst (dk_La_law 169 rfl) (by decide) ?_
  refine g_iadd (dk_La_law 170 rfl) ?_
  obtain ⟨c9, h⟩ := p_gdE h
  refine g_scr he1 he2 (dk_La_law 171 rfl) c9.1 c9.2 ?_
  refine g_aload_nS (i := 0) (j := 0) (dk_La_law 172 rfl) rfl rfl ?_
  refine g_iload_n (i := 3) (j := 3) (dk_La_law 173 rfl) rfl rfl ?_
  refine g_iconst (dk_La_law 174 rfl) (by decide) ?_
  refine g_iadd (dk_La_law 175 rfl) ?_
  obtain ⟨c10, h⟩ := p_gdE h
  refine g_scr he1 he2 (dk_La_law 176 rfl) c10.1 c10.2 ?_
  refine g_if_eq 428 (dk_La_law 177 rfl) (by decide) (fun b11 => ?_) (fun b11 => ?_)
  · have h := p_ifT b11 h
    refine g_iconst (dk_La_law 180 rfl) (by decide) ?_
    exact tB_La_law_429 K l n9 t9 he1 he2 k18 hk18 v1 v2 v3 0 (t9 ((p_w (v3 + 3)) : Int).toNat) (t9 ((p_w (v3 + 2)) : Int).toNat) (t9 ((p_w (v3 + 1)) : Int).toNat) v2 r6 s2 _ h
  · have h := p_ifF b11 h
    refine g_iconst (dk_La_law 178 rfl) (by decide) ?_
    refine g_goto 429 (dk_La_law 179 rfl) (by decide) ?_
    exact tB_La_law_429 K l n9 t9 he1 he2 k18 hk18 v1 v2 v3 1 (t9 ((p_w (v3 + 3)) : Int).toNat) (t9 ((p_w (v3 + 2)) : Int).toNat) (t9 ((p_w (v3 + 1)) : Int).toNat) v2 r6 s2 _ h
set_option maxRecDepth 100000 in
set_option maxHeartbeats 4000000 in
theorem tB_La_law_828 (K : p_K) (l : Launch) (n9 : Nat) (t9 : Nat → Int) (he1 : n9 = p_tl K 9) (he2 : t9 = p_tv K 9) (k18 : Nat → Nat → Int → p_Hp → Option (Int × p_Hp)) (hk18 : ∀ (v1 : Nat) (v2 : Nat) (v3 : Int)  (s0 : p_Hp) (r : (Int × p_Hp)), k18 v1 v2 v3 s0 = some r → p_Go K l m_La_law 18 [(0, p_s 9), (1, p_r v1), (2, p_r v2), (3, p_i v3)] [] s0 (some (p_i r.1), r.2)) (v1 : Nat) (v2 : Nat) (v3 : Int) (w0 : Int) (w1 : Int) (w2 : Nat) (w3 : Int) (s0 : p_Hp) (r : (Int × p_Hp)) (h : B_La_law_828 n9 t9 k18 v1 v2 v3 w0 w1 w2 w3 s0 = some r) : p_Go K l m_La_law 828 [(0, p_s 9), (1, p_r v1), (2, p_r v2), (3, p_i v3)] [p_i w0, p_i w1, p_r w2, p_i w3] s0 (some (p_i r.1), r.2) := by
  unfold B_La_law_828 at h
  obtain ⟨c1, h⟩ := p_gdE h
  obtain ⟨r6, s2, q3, h⟩ := p_bdE h
  have t4 := tF_Mo_door K l w2 w1 w0 s0 _ q3
  refine g_callV (a := w2) (ci := 11) (q0 := (RX11, TX11, 90)) (As := [p_i w1, p_i w0]) (rest := [p_i w3]) [p_i r6, p_i w3] mt_Mo_door rfl rfl tw_7_239 tw_8_0 tw_7_238 ⟨Nat.le_of_ble_eq_true rfl, Nat.le_of_ble_eq_true rfl⟩ rfl (Nat.le_of_ble_eq_true rfl) (dk_La_law 506 rfl) rfl c1 rfl t4 ?_
  have hs5 : p_x s0 s2 := t4.1
  show p_Go K l m_La_law 831 [(0, p_s 9), (1, p_r v1), (2, p_r v2), (3, p_i v3)] [p_i r6, p_i w3] s2 _
  refine g_icmp_eq 1701 (dk_La_law 507 rfl) (by decide) (fun b7 => ?_) (fun b7 => ?_)
  · have h := p_ifT b7 h
    exact tB_La_law_1701 K l n9 t9 he1 he2 k18 hk18 v1 v2 v3 s2 _ h
  · have h := p_ifF b7 h
    refine g_iconst (dk_La_law 508 rfl) (by decide) ?_
    cases h
    exact g_ret rfl rfl (dk_La_law 509 rfl) (fun _ => ⟨_, rfl, Or.inl rfl⟩)
set_option maxRecDepth 100000 in
set_option maxHeartbeats 4000000 in
theorem tB_La_law_806 (K : p_K) (l : Launch) (n9 : Nat) (t9 : Nat → Int) (he1 : n9 = p_tl K 9) (he2 : t9 = p_tv K 9) (k18 : Nat → Nat → Int → p_Hp → Option (Int × p_Hp)) (hk18 : ∀ (v1 : Nat) (v2 : Nat) (v3 : Int)  (s0 : p_Hp) (r : (Int × p_Hp)), k18 v1 v2 v3 s0 = some r → p_Go K l m_La_law 18 [(0, p_s 9), (1, p_r v1), (2, p_r v2), (3, p_i v3)] [] s0 (some (p_i r.1), r.2)) (v1 : Nat) (v2 : Nat) (v3 : Int) (w0 : Int) (w1 : Int) (w2 : Nat) (s0 : p_Hp) (r : (Int × p_Hp)) (h : B_La_law_806 n9 t9 k18 v1 v2 v3 w0 w1 w2 s0 = some r) : p_Go K l m_La_law 806 [(0, p_s 9), (1, p_r v1), (2, p_r v2), (3, p_i v3)] [p_i w0, p_i w1, p_r w2] s0 (some (p_i r.1), r.2) := by
  unfold B_La_law_806 at h
  obtain ⟨c1, h⟩ := p_gdE h
  obtain ⟨r6, s2, q3, h⟩ := p_bdE h
  have t4 := tF_SW_door K l w2 w1 w0 s0 _ q3
  refine g_callV (a := w2) (ci := 10) (q0 := (RX10, TX10, 9)) (As := [p_i w1, p_i w0]) (rest := []) [p_i r6] mt_SW_door rfl rfl tw_4_50 tw_4_51 tw_4_49 ⟨Nat.le_of_ble_eq_true rfl, Nat.le_of_ble_eq_true rfl⟩ rfl (Nat.le_of_ble_eq_true rfl) (dk_La_law 490 rfl) rfl c1 rfl t4 ?_
  have hs5 : p_x s0 s2 := t4.1
  show p_Go K l m_La_law 809 [(0, p_s 9), (1, p_r v1), (2, p_r v2), (3, p_i v3)] [p_i r6] s2 _
  refine g_aload_n (i := 2) (j := 2) (dk_La_law 491 rfl) rfl rfl ?_
  refine g_aload_nS (i := 0) (j := 0) (dk_La_law 492 rfl) rfl rfl ?_
  refine g_iload_n (i := 3) (j := 3) (dk_La_law 493 rfl) rfl rfl ?_
  refine g_iconst (dk_La_law 494 rfl) (by decide) ?_
  refine g_iadd (dk_La_law 495 rfl) ?_
  obtain ⟨c7, h⟩ := p_gdE h
  refine g_scr he1 he2 (dk_La_law 496 rfl) c7.1 c7.2 ?_
  refine g_aload_nS (i := 0) (j := 0) (dk_La_law 497 rfl) rfl rfl ?_
  refine g_iload_n (i := 3) (j := 3) (dk_La_law 498 rfl) rfl rfl ?_
  refine g_iconst (dk_La_law 499 rfl) (by decide) ?_
  refine g_iadd (dk_La_law 500 rfl) ?_
  obtain ⟨c8, h⟩ := p_gdE h
  refine g_scr he1 he2 (dk_La_law 501 rfl) c8.1 c8.2 ?_
  refine g_if_eq 827 (dk_La_law 502 rfl) (by decide) (fun b9 => ?_) (fun b9 => ?_)
  · have h := p_ifT b9 h
    refine g_iconst (dk_La_law 505 rfl) (by decide) ?_
    exact tB_La_law_828 K l n9 t9 he1 he2 k18 hk18 v1 v2 v3 0 (t9 ((p_w (v3 + 1)) : Int).toNat) v2 r6 s2 _ h
  · have h := p_ifF b9 h
    refine g_iconst (dk_La_law 503 rfl) (by decide) ?_
    refine g_goto 828 (dk_La_law 504 rfl) (by decide) ?_
    exact tB_La_law_828 K l n9 t9 he1 he2 k18 hk18 v1 v2 v3 1 (t9 ((p_w (v3 + 1)) : Int).toNat) v2 r6 s2 _ h
set_option maxRecDepth 100000 in
set_option maxHeartbeats 4000000 in
theorem tL_La_law_18 (K : p_K) (l : Launch) (n9 : Nat) (t9 : Nat → Int) (he1 : n9 = p_tl K 9) (he2 : t9 = p_tv K 9) (k18 : Nat → Nat → Int → p_Hp → Option (Int × p_Hp)) (hk18 : ∀ (v1 : Nat) (v2 : Nat) (v3 : Int)  (s0 : p_Hp) (r : (Int × p_Hp)), k18 v1 v2 v3 s0 = some r → p_Go K l m_La_law 18 [(0, p_s 9), (1, p_r v1), (2, p_r v2), (3, p_i v3)] [] s0 (some (p_i r.1), r.2)) (v1 : Nat) (v2 : Nat) (v3 : Int) (s0 : p_Hp) (r : (Int × p_Hp)) (h : L_La_law_18 n9 t9 k18 v1 v2 v3 s0 = some r) : p_Go K l m_La_law 18 [(0, p_s 9), (1, p_r v1), (2, p_r v2), (3, p_i v3)] [] s0 (some (p_i r.1), r.2) := by
  unfold L_La_law_18 at h
  refine g_iload_n (i := 3) (j := 3) (dk_La_law 10 rfl) rfl rfl ?_
  refine g_aload_nS (i := 0) (j := 0) (dk_La_law 11 rfl) rfl rfl ?_
  refine g_scl he1 (dk_La_law 12 rfl) ?_
  refine g_bipush (dk_La_law 13 rfl) (by decide +kernel) (by decide) ?_
  refine g_isub (dk_La_law 14 rfl) ?_
  refine g_icmp_gt 1707 (dk_La_law 15 rfl) (by decide) (fun b1 => ?_) (fun b1 => ?_)
  · have h := p_ifT b1 h
    refine g_iconst (dk_La_law 1191 rfl) (by decide) ?_
    cases h
    exact g_ret rfl rfl (dk_La_law 1192 rfl) (fun _ => ⟨_, rfl, Or.inr rfl⟩)
  · have h := p_ifF b1 h
    refine g_aload_nS (i := 0) (j := 0) (dk_La_law 16 rfl) rfl rfl ?_
    refine g_iload_n (i := 3) (j := 3) (dk_La_law 17 rfl) rfl rfl ?_
    obtain ⟨c2, h⟩ := p_gdE h
    refine g_scr he1 he2 (dk_La_law 18 rfl) c2.1 c2.2 ?_
    refine g_bipush (dk_La_law 19 rfl) (by decide +kernel) (by decide) ?_
    refine g_iand (dk_La_law 20 rfl) ?_
    rcases p_iteE h with ⟨b3, h⟩ | ⟨b3, h⟩
    · refine g_tableIn 236 (dk_La_law 21 rfl) (by omega) (by omega) (by rw [b3]; rfl) (by decide) ?_
      refine g_aload_n (i := 1) (j := 1) (dk_La_law 22 rfl) rfl rfl ?_
      refine g_aload_nS (i := 0) (j := 0) (dk_La_law 23 rfl) rfl rfl ?_
      refine g_iload_n (i := 3) (j := 3) (dk_La_law 24 rfl) rfl rfl ?_
      refine g_iconst (dk_La_law 25 rfl) (by decide) ?_
      refine g_iadd (dk_La_law 26 rfl) ?_
      obtain ⟨c4, h⟩ := p_gdE h
      refine g_scr he1 he2 (dk_La_law 27 rfl) c4.1 c4.2 ?_
      obtain ⟨c5, h⟩ := p_gdE h
      obtain ⟨r10, s6, q7, h⟩ := p_bdE h
      have t8 := tF_SW_works K l v1 (t9 ((p_w (v3 + 1)) : Int).toNat) s0 _ q7
      refine g_callV (a := v1) (ci := 10) (q0 := (RX10, TX10, 9)) (As := [p_i (t9 ((p_w (v3 + 1)) : Int).toNat)]) (rest := []) [p_i r10] mt_SW_works rfl rfl tw_3_61 tw_3_62 tw_3_60 ⟨Nat.le_of_ble_eq_true rfl, Nat.le_of_ble_eq_true rfl⟩ rfl (Nat.le_of_ble_eq_true rfl) (dk_La_law 28 rfl) rfl c5 rfl t8 ?_
      have hs9 : p_x s0 s6 := t8.1
      show p_Go K l m_La_law 245 [(0, p_s 9), (1, p_r v1), (2, p_r v2), (3, p_i v3)] [p_i r10] s6 _
      refine g_aload_n (i := 2) (j := 2) (dk_La_law 29 rfl) rfl rfl ?_
      refine g_aload_nS (i := 0) (j := 0) (dk_La_law 30 rfl) rfl rfl ?_
      refine g_iload_n (i := 3) (j := 3) (dk_La_law 31 rfl) rfl rfl ?_
      refine g_iconst (dk_La_law 32 rfl) (by decide) ?_
      refine g_iadd (dk_La_law 33 rfl) ?_
      obtain ⟨c11, h⟩ := p_gdE h
      refine g_scr he1 he2 (dk_La_law 34 rfl) c11.1 c11.2 ?_
      obtain ⟨c12, h⟩ := p_gdE h
      obtain ⟨r17, s13, q14, h⟩ := p_bdE h
      have t15 := tF_Mo_works K l v2 (t9 ((p_w (v3 + 1)) : Int).toNat) s6 _ q14
      refine g_callV (a := v2) (ci := 11) (q0 := (RX11, TX11, 90)) (As := [p_i (t9 ((p_w (v3 + 1)) : Int).toNat)]) (rest := [p_i r10]) [p_i r17, p_i r10] mt_Mo_works rfl rfl tw_7_58 tw_7_59 tw_7_57 ⟨Nat.le_of_ble_eq_true rfl, Nat.le_of_ble_eq_true rfl⟩ rfl (Nat.le_of_ble_eq_true rfl) (dk_La_law 35 rfl) rfl c12 rfl t15 ?_
      have hs16 : p_x s6 s13 := t15.1
      show p_Go K l m_La_law 254 [(0, p_s 9), (1, p_r v1), (2, p_r v2), (3, p_i v3)] [p_i r17, p_i r10] s13 _
      refine g_icmp_eq 1701 (dk_La_law 36 rfl) (by decide) (fun b18 => ?_) (fun b18 => ?_)
      · have h := p_ifT b18 h
        exact tB_La_law_1701 K l n9 t9 he1 he2 k18 hk18 v1 v2 v3 s13 _ h
      · have h := p_ifF b18 h
        refine g_iconst (dk_La_law 37 rfl) (by decide) ?_
        cases h
        exact g_ret rfl rfl (dk_La_law 38 rfl) (fun _ => ⟨_, rfl, Or.inl rfl⟩)
    rcases p_iteE h with ⟨b19, h⟩ | ⟨b19, h⟩
    · refine g_tableIn 259 (dk_La_law 21 rfl) (by omega) (by omega) (by rw [b19]; rfl) (by decide) ?_
      refine g_aload_n (i := 1) (j := 1) (dk_La_law 39 rfl) rfl rfl ?_
      refine g_aload_nS (i := 0) (j := 0) (dk_La_law 40 rfl) rfl rfl ?_
      refine g_iload_n (i := 3) (j := 3) (dk_La_law 41 rfl) rfl rfl ?_
      refine g_iconst (dk_La_law 42 rfl) (by decide) ?_
      refine g_iadd (dk_La_law 43 rfl) ?_
      obtain ⟨c20, h⟩ := p_gdE h
      refine g_scr he1 he2 (dk_La_law 44 rfl) c20.1 c20.2 ?_
      refine g_aload_nS (i := 0) (j := 0) (dk_La_law 45 rfl) rfl rfl ?_
      refine g_iload_n (i := 3) (j := 3) (dk_La_law 46 rfl) rfl rfl ?_
      refine g_iconst (dk_La_law 47 rfl) (by decide) ?_
      refine g_iadd (dk_La_law 48 rfl) ?_
      obtain ⟨c21, h⟩ := p_gdE h
      refine g_scr he1 he2 (dk_La_law 49 rfl) c21.1 c21.2 ?_
      obtain ⟨c22, h⟩ := p_gdE h
      obtain ⟨r27, s23, q24, h⟩ := p_bdE h
      have t25 := tF_SW_gear K l v1 (t9 ((p_w (v3 + 1)) : Int).toNat) (t9 ((p_w (v3 + 2)) : Int).toNat) s0 _ q24
      refine g_callV (a := v1) (ci := 10) (q0 := (RX10, TX10, 9)) (As := [p_i (t9 ((p_w (v3 + 1)) : Int).toNat), p_i (t9 ((p_w (v3 + 2)) : Int).toNat)]) (rest := []) [p_i r27] mt_SW_gear rfl rfl tw_3_73 tw_3_74 tw_3_72 ⟨Nat.le_of_ble_eq_true rfl, Nat.le_of_ble_eq_true rfl⟩ rfl (Nat.le_of_ble_eq_true rfl) (dk_La_law 50 rfl) rfl c22 rfl t25 ?_
      have hs26 : p_x s0 s23 := t25.1
      show p_Go K l m_La_law 273 [(0, p_s 9), (1, p_r v1), (2, p_r v2), (3, p_i v3)] [p_i r27] s23 _
      refine g_aload_n (i := 2) (j := 2) (dk_La_law 51 rfl) rfl rfl ?_
      refine g_aload_nS (i := 0) (j := 0) (dk_La_law 52 rfl) rfl rfl ?_
      refine g_iload_n (i := 3) (j := 3) (dk_La_law 53 rfl) rfl rfl ?_
      refine g_iconst (dk_La_law 54 rfl) (by decide) ?_
      refine g_iadd (dk_La_law 55 rfl) ?_
      obtain ⟨c28, h⟩ := p_gdE h
      refine g_scr he1 he2 (dk_La_law 56 rfl) c28.1 c28.2 ?_
      refine g_aload_nS (i := 0) (j := 0) (dk_La_law 57 rfl) rfl rfl ?_
      refine g_iload_n (i := 3) (j := 3) (dk_La_law 58 rfl) rfl rfl ?_
      refine g_iconst (dk_La_law 59 rfl) (by decide) ?_
      refine g_iadd (dk_La_law 60 rfl) ?_
      obtain ⟨c29, h⟩ := p_gdE h
      refine g_scr he1 he2 (dk_La_law 61 rfl) c29.1 c29.2 ?_
      obtain ⟨c30, h⟩ := p_gdE h
      obtain ⟨r35, s31, q32, h⟩ := p_bdE h
      have t33 := tF_Mo_gear K l v2 (t9 ((p_w (v3 + 1)) : Int).toNat) (t9 ((p_w (v3 + 2)) : Int).toNat) s23 _ q32
      refine g_callV (a := v2) (ci := 11) (q0 := (RX11, TX11, 90)) (As := [p_i (t9 ((p_w (v3 + 1)) : Int).toNat), p_i (t9 ((p_w (v3 + 2)) : Int).toNat)]) (rest := [p_i r27]) [p_i r35, p_i r27] mt_Mo_gear rfl rfl tw_7_74 tw_7_75 tw_7_73 ⟨Nat.le_of_ble_eq_true rfl, Nat.le_of_ble_eq_true rfl⟩ rfl (Nat.le_of_ble_eq_true rfl) (dk_La_law 62 rfl) rfl c30 rfl t33 ?_
      have hs34 : p_x s23 s31 := t33.1
      show p_Go K l m_La_law 287 [(0, p_s 9), (1, p_r v1), (2, p_r v2), (3, p_i v3)] [p_i r35, p_i r27] s31 _
      refine g_icmp_eq 1701 (dk_La_law 63 rfl) (by decide) (fun b36 => ?_) (fun b36 => ?_)
      · have h := p_ifT b36 h
        exact tB_La_law_1701 K l n9 t9 he1 he2 k18 hk18 v1 v2 v3 s31 _ h
      · have h := p_ifF b36 h
        refine g_iconst (dk_La_law 64 rfl) (by decide) ?_
        cases h
        exact g_ret rfl rfl (dk_La_law 65 rfl) (fun _ => ⟨_, rfl, Or.inl rfl⟩)
    rcases p_iteE h with ⟨b37, h⟩ | ⟨b37, h⟩
    · refine g_tableIn 292 (dk_La_law 21 rfl) (by omega) (by omega) (by rw [b37]; rfl) (by decide) ?_
      refine g_aload_n (i := 1) (j := 1) (dk_La_law 66 rfl) rfl rfl ?_
      refine g_aload_nS (i := 0) (j := 0) (dk_La_law 67 rfl) rfl rfl ?_
      refine g_iload_n (i := 3) (j := 3) (dk_La_law 68 rfl) rfl rfl ?_
      refine g_iconst (dk_La_law 69 rfl) (by decide) ?_
      refine g_iadd (dk_La_law 70 rfl) ?_
      obtain ⟨c38, h⟩ := p_gdE h
      refine g_scr he1 he2 (dk_La_law 71 rfl) c38.1 c38.2 ?_
      refine g_aload_nS (i := 0) (j := 0) (dk_La_law 72 rfl) rfl rfl ?_
      refine g_iload_n (i := 3) (j := 3) (dk_La_law 73 rfl) rfl rfl ?_
      refine g_iconst (dk_La_law 74 rfl) (by decide) ?_
      refine g_iadd (dk_La_law 75 rfl) ?_
      obtain ⟨c39, h⟩ := p_gdE h
      refine g_scr he1 he2 (dk_La_law 76 rfl) c39.1 c39.2 ?_
      obtain ⟨c40, h⟩ := p_gdE h
      obtain ⟨r45, s41, q42, h⟩ := p_bdE h
      have t43 := tF_SW_links K l v1 (t9 ((p_w (v3 + 1)) : Int).toNat) (t9 ((p_w (v3 + 2)) : Int).toNat) s0 _ q42
      refine g_callV (a := v1) (ci := 10) (q0 := (RX10, TX10, 9)) (As := [p_i (t9 ((p_w (v3 + 1)) : Int).toNat), p_i (t9 ((p_w (v3 + 2)) : Int).toNat)]) (rest := []) [p_i r45] mt_SW_links rfl rfl tw_3_100 tw_3_101 tw_3_99 ⟨Nat.le_of_ble_eq_true rfl, Nat.le_of_ble_eq_true rfl⟩ rfl (Nat.le_of_ble_eq_true rfl) (dk_La_law 77 rfl) rfl c40 rfl t43 ?_
      have hs44 : p_x s0 s41 := t43.1
      show p_Go K l m_La_law 306 [(0, p_s 9), (1, p_r v1), (2, p_r v2), (3, p_i v3)] [p_i r45] s41 _
      refine g_aload_n (i := 2) (j := 2) (dk_La_law 78 rfl) rfl rfl ?_
      refine g_aload_nS (i := 0) (j := 0) (dk_La_law 79 rfl) rfl rfl ?_
      refine g_iload_n (i := 3) (j := 3) (dk_La_law 80 rfl) rfl rfl ?_
      refine g_iconst (dk_La_law 81 rfl) (by decide) ?_
      refine g_iadd (dk_La_law 82 rfl) ?_
      obtain ⟨c46, h⟩ := p_gdE h
      refine g_scr he1 he2 (dk_La_law 83 rfl) c46.1 c46.2 ?_
      refine g_aload_nS (i := 0) (j := 0) (dk_La_law 84 rfl) rfl rfl ?_
      refine g_iload_n (i := 3) (j := 3) (dk_La_law 85 rfl) rfl rfl ?_
      refine g_iconst (dk_La_law 86 rfl) (by decide) ?_
      refine g_iadd (dk_La_law 87 rfl) ?_
      obtain ⟨c47, h⟩ := p_gdE h
      refine g_scr he1 he2 (dk_La_law 88 rfl) c47.1 c47.2 ?_
      obtain ⟨c48, h⟩ := p_gdE h
      obtain ⟨r53, s49, q50, h⟩ := p_bdE h
      have t51 := tF_Mo_links K l v2 (t9 ((p_w (v3 + 1)) : Int).toNat) (t9 ((p_w (v3 + 2)) : Int).toNat) s41 _ q50
      refine g_callV (a := v2) (ci := 11) (q0 := (RX11, TX11, 90)) (As := [p_i (t9 ((p_w (v3 + 1)) : Int).toNat), p_i (t9 ((p_w (v3 + 2)) : Int).toNat)]) (rest := [p_i r45]) [p_i r53, p_i r45] mt_Mo_links rfl rfl tw_7_101 tw_7_102 tw_7_100 ⟨Nat.le_of_ble_eq_true rfl, Nat.le_of_ble_eq_true rfl⟩ rfl (Nat.le_of_ble_eq_true rfl) (dk_La_law 89 rfl) rfl c48 rfl t51 ?_
      have hs52 : p_x s41 s49 := t51.1
      show p_Go K l m_La_law 320 [(0, p_s 9), (1, p_r v1), (2, p_r v2), (3, p_i v3)] [p_i r53, p_i r45] s49 _
      refine g_icmp_eq 1701 (dk_La_law 90 rfl) (by decide) (fun b54 => ?_) (fun b54 => ?_)
      · have h := p_ifT b54 h
        exact tB_La_law_1701 K l n9 t9 he1 he2 k18 hk18 v1 v2 v3 s49 _ h
      · have h := p_ifF b54 h
        refine g_iconst (dk_La_law 91 rfl) (by decide) ?_
        cases h
        exact g_ret rfl rfl (dk_La_law 92 rfl) (fun _ => ⟨_, rfl, Or.inl rfl⟩)
    rcases p_iteE h with ⟨b55, h⟩ | ⟨b55, h⟩
    · refine g_tableIn 325 (dk_La_law 21 rfl) (by omega) (by omega) (by rw [b55]; rfl) (by decide) ?_
      refine g_aload_n (i := 1) (j := 1) (dk_La_law 93 rfl) rfl rfl ?_
      refine g_aload_nS (i := 0) (j := 0) (dk_La_law 94 rfl) rfl rfl ?_
      refine g_iload_n (i := 3) (j := 3) (dk_La_law 95 rfl) rfl rfl ?_
      refine g_iconst (dk_La_law 96 rfl) (by decide) ?_
      refine g_iadd (dk_La_law 97 rfl) ?_
      obtain ⟨c56, h⟩ := p_gdE h
      refine g_scr he1 he2 (dk_La_law 98 rfl) c56.1 c56.2 ?_
      refine g_aload_nS (i := 0) (j := 0) (dk_La_law 99 rfl) rfl rfl ?_
      refine g_iload_n (i := 3) (j := 3) (dk_La_law 100 rfl) rfl rfl ?_
      refine g_iconst (dk_La_law 101 rfl) (by decide) ?_
      refine g_iadd (dk_La_law 102 rfl) ?_
      obtain ⟨c57, h⟩ := p_gdE h
      refine g_scr he1 he2 (dk_La_law 103 rfl) c57.1 c57.2 ?_
      refine g_aload_nS (i := 0) (j := 0) (dk_La_law 104 rfl) rfl rfl ?_
      refine g_iload_n (i := 3) (j := 3) (dk_La_law 105 rfl) rfl rfl ?_
      refine g_iconst (dk_La_law 106 rfl) (by decide) ?_
      refine g_iadd (dk_La_law 107 rfl) ?_
      obtain ⟨c58, h⟩ := p_gdE h
      refine g_scr he1 he2 (dk_La_law 108 rfl) c58.1 c58.2 ?_
      obtain ⟨c59, h⟩ := p_gdE h
      obtain ⟨r64, s60, q61, h⟩ := p_bdE h
      have t62 := tF_SW_link K l v1 (t9 ((p_w (v3 + 1)) : Int).toNat) (t9 ((p_w (v3 + 2)) : Int).toNat) (t9 ((p_w (v3 + 3)) : Int).toNat) s0 _ q61
      refine g_callV (a := v1) (ci := 10) (q0 := (RX10, TX10, 9)) (As := [p_i (t9 ((p_w (v3 + 1)) : Int).toNat), p_i (t9 ((p_w (v3 + 2)) : Int).toNat), p_i (t9 ((p_w (v3 + 3)) : Int).toNat)]) (rest := []) [p_i r64] mt_SW_link rfl rfl tw_3_111 tw_3_112 tw_3_110 ⟨Nat.le_of_ble_eq_true rfl, Nat.le_of_ble_eq_true rfl⟩ rfl (Nat.le_of_ble_eq_true rfl) (dk_La_law 109 rfl) rfl c59 rfl t62 ?_
      have hs63 : p_x s0 s60 := t62.1
      show p_Go K l m_La_law 344 [(0, p_s 9), (1, p_r v1), (2, p_r v2), (3, p_i v3)] [p_i r64] s60 _
      refine g_aload_n (i := 2) (j := 2) (dk_La_law 110 rfl) rfl rfl ?_
      refine g_aload_nS (i := 0) (j := 0) (dk_La_law 111 rfl) rfl rfl ?_
      refine g_iload_n (i := 3) (j := 3) (dk_La_law 112 rfl) rfl rfl ?_
      refine g_iconst (dk_La_law 113 rfl) (by decide) ?_
      refine g_iadd (dk_La_law 114 rfl) ?_
      obtain ⟨c65, h⟩ := p_gdE h
      refine g_scr he1 he2 (dk_La_law 115 rfl) c65.1 c65.2 ?_
      refine g_aload_nS (i := 0) (j := 0) (dk_La_law 116 rfl) rfl rfl ?_
      refine g_iload_n (i := 3) (j := 3) (dk_La_law 117 rfl) rfl rfl ?_
      refine g_iconst (dk_La_law 118 rfl) (by decide) ?_
      refine g_iadd (dk_La_law 119 rfl) ?_
      obtain ⟨c66, h⟩ := p_gdE h
      refine g_scr he1 he2 (dk_La_law 120 rfl) c66.1 c66.2 ?_
      refine g_aload_nS (i := 0) (j := 0) (dk_La_law 121 rfl) rfl rfl ?_
      refine g_iload_n (i := 3) (j := 3) (dk_La_law 122 rfl) rfl rfl ?_
      refine g_iconst (dk_La_law 123 rfl) (by decide) ?_
      refine g_iadd (dk_La_law 124 rfl) ?_
      obtain ⟨c67, h⟩ := p_gdE h
      refine g_scr he1 he2 (dk_La_law 125 rfl) c67.1 c67.2 ?_
      obtain ⟨c68, h⟩ := p_gdE h
      obtain ⟨r73, s69, q70, h⟩ := p_bdE h
      have t71 := tF_Mo_link K l v2 (t9 ((p_w (v3 + 1)) : Int).toNat) (t9 ((p_w (v3 + 2)) : Int).toNat) (t9 ((p_w (v3 + 3)) : Int).toNat) s60 _ q70
      refine g_callV (a := v2) (ci := 11) (q0 := (RX11, TX11, 90)) (As := [p_i (t9 ((p_w (v3 + 1)) : Int).toNat), p_i (t9 ((p_w (v3 + 2)) : Int).toNat), p_i (t9 ((p_w (v3 + 3)) : Int).toNat)]) (rest := [p_i r64]) [p_i r73, p_i r64] mt_Mo_link rfl rfl tw_7_113 tw_7_114 tw_7_112 ⟨Nat.le_of_ble_eq_true rfl, Nat.le_of_ble_eq_true rfl⟩ rfl (Nat.le_of_ble_eq_true rfl) (dk_La_law 126 rfl) rfl c68 rfl t71 ?_
      have hs72 : p_x s60 s69 := t71.1
      show p_Go K l m_La_law 363 [(0, p_s 9), (1, p_r v1), (2, p_r v2), (3, p_i v3)] [p_i r73, p_i r64] s69 _
      refine g_icmp_eq 1701 (dk_La_law 127 rfl) (by decide) (fun b74 => ?_) (fun b74 => ?_)
      · have h := p_ifT b74 h
        exact tB_La_law_1701 K l n9 t9 he1 he2 k18 hk18 v1 v2 v3 s69 _ h
      · have h := p_ifF b74 h
        refine g_iconst (dk_La_law 128 rfl) (by decide) ?_
        cases h
        exact g_ret rfl rfl (dk_La_law 129 rfl) (fun _ => ⟨_, rfl, Or.inl rfl⟩)
    rcases p_iteE h with ⟨b75, h⟩ | ⟨b75, h⟩
    · refine g_tableIn 368 (dk_La_law 21 rfl) (by omega) (by omega) (by rw [b75]; rfl) (by decide) ?_
      refine g_aload_n (i := 1) (j := 1) (dk_La_law 130 rfl) rfl rfl ?_
      refine g_aload_nS (i := 0) (j := 0) (dk_La_law 131 rfl) rfl rfl ?_
      refine g_iload_n (i := 3) (j := 3) (dk_La_law 132 rfl) rfl rfl ?_
      refine g_iconst (dk_La_law 133 rfl) (by decide) ?_
      refine g_iadd (dk_La_law 134 rfl) ?_
      obtain ⟨c76, h⟩ := p_gdE h
      refine g_scr he1 he2 (dk_La_law 135 rfl) c76.1 c76.2 ?_
      refine g_aload_nS (i := 0) (j := 0) (dk_La_law 136 rfl) rfl rfl ?_
      refine g_iload_n (i := 3) (j := 3) (dk_La_law 137 rfl) rfl rfl ?_
      refine g_iconst (dk_La_law 138 rfl) (by decide) ?_
      refine g_iadd (dk_La_law 139 rfl) ?_
      obtain ⟨c77, h⟩ := p_gdE h
      refine g_scr he1 he2 (dk_La_law 140 rfl) c77.1 c77.2 ?_
      refine g_aload_nS (i := 0) (j := 0) (dk_La_law 141 rfl) rfl rfl ?_
      refine g_iload_n (i := 3) (j := 3) (dk_La_law 142 rfl) rfl rfl ?_
      refine g_iconst (dk_La_law 143 rfl) (by decide) ?_
      refine g_iadd (dk_La_law 144 rfl) ?_
      obtain ⟨c78, h⟩ := p_gdE h
      refine g_scr he1 he2 (dk_La_law 145 rfl) c78.1 c78.2 ?_
      refine g_aload_nS (i := 0) (j := 0) (dk_La_law 146 rfl) rfl rfl ?_
      refine g_iload_n (i := 3) (j := 3) (dk_La_law 147 rfl) rfl rfl ?_
      refine g_iconst (dk_La_law 148 rfl) (by decide) ?_
      refine g_iadd (dk_La_law 149 rfl) ?_
      obtain ⟨c79, h⟩ := p_gdE h
      refine g_scr he1 he2 (dk_La_law 150 rfl) c79.1 c79.2 ?_
      refine g_if_eq 396 (dk_La_law 151 rfl) (by decide) (fun b80 => ?_) (fun b80 => ?_)
      · have h := p_ifT b80 h
        refine g_iconst (dk_La_law 154 rfl) (by decide) ?_
        exact tB_La_law_397 K l n9 t9 he1 he2 k18 hk18 v1 v2 v3 0 (t9 ((p_w (v3 + 3)) : Int).toNat) (t9 ((p_w (v3 + 2)) : Int).toNat) (t9 ((p_w (v3 + 1)) : Int).toNat) v1 s0 _ h
      · have h := p_ifF b80 h
        refine g_iconst (dk_La_law 152 rfl) (by decide) ?_
        refine g_goto 397 (dk_La_law 153 rfl) (by decide) ?_
        exact tB_La_law_397 K l n9 t9 he1 he2 k18 hk18 v1 v2 v3 1 (t9 ((p_w (v3 + 3)) : Int).toNat) (t9 ((p_w (v3 + 2)) : Int).toNat) (t9 ((p_w (v3 + 1)) : Int).toNat) v1 s0 _ h
    rcases p_iteE h with ⟨b81, h⟩ | ⟨b81, h⟩
    · refine g_tableIn 437 (dk_La_law 21 rfl) (by omega) (by omega) (by rw [b81]; rfl) (by decide) ?_
      refine g_aload_n (i := 1) (j := 1) (dk_La_law 185 rfl) rfl rfl ?_
      refine g_aload_nS (i := 0) (j := 0) (dk_La_law 186 rfl) rfl rfl ?_
      refine g_iload_n (i := 3) (j := 3) (dk_La_law 187 rfl) rfl rfl ?_
      refine g_iconst (dk_La_law 188 rfl) (by decide) ?_
      refine g_iadd (dk_La_law 189 rfl) ?_
      obtain ⟨c82, h⟩ := p_gdE h
      refine g_scr he1 he2 (dk_La_law 190 rfl) c82.1 c82.2 ?_
      refine g_aload_nS (i := 0) (j := 0) (dk_La_law 191 rfl) rfl rfl ?_
      refine g_iload_n (i := 3) (j := 3) (dk_La_law 192 rfl) rfl rfl ?_
      refine g_iconst (dk_La_law 193 rfl) (by decide) ?_
      refine g_iadd (dk_La_law 194 rfl) ?_
      obtain ⟨c83, h⟩ := p_gdE h
      refine g_scr he1 he2 (dk_La_law 195 rfl) c83.1 c83.2 ?_
      obtain ⟨c84, h⟩ := p_gdE h
      obtain ⟨r89, s85, q86, h⟩ := p_bdE h
      have t87 := tF_SW_rank K l v1 (t9 ((p_w (v3 + 1)) : Int).toNat) (t9 ((p_w (v3 + 2)) : Int).toNat) s0 _ q86
      refine g_callV (a := v1) (ci := 10) (q0 := (RX10, TX10, 9)) (As := [p_i (t9 ((p_w (v3 + 1)) : Int).toNat), p_i (t9 ((p_w (v3 + 2)) : Int).toNat)]) (rest := []) [p_i r89] mt_SW_rank rfl rfl tw_3_138 tw_3_139 tw_3_137 ⟨Nat.le_of_ble_eq_true rfl, Nat.le_of_ble_eq_true rfl⟩ rfl (Nat.le_of_ble_eq_true rfl) (dk_La_law 196 rfl) rfl c84 rfl t87 ?_
      have hs88 : p_x s0 s85 := t87.1
      show p_Go K l m_La_law 451 [(0, p_s 9), (1, p_r v1), (2, p_r v2), (3, p_i v3)] [p_i r89] s85 _
      refine g_aload_n (i := 2) (j := 2) (dk_La_law 197 rfl) rfl rfl ?_
      refine g_aload_nS (i := 0) (j := 0) (dk_La_law 198 rfl) rfl rfl ?_
      refine g_iload_n (i := 3) (j := 3) (dk_La_law 199 rfl) rfl rfl ?_
      refine g_iconst (dk_La_law 200 rfl) (by decide) ?_
      refine g_iadd (dk_La_law 201 rfl) ?_
      obtain ⟨c90, h⟩ := p_gdE h
      refine g_scr he1 he2 (dk_La_law 202 rfl) c90.1 c90.2 ?_
      refine g_aload_nS (i := 0) (j := 0) (dk_La_law 203 rfl) rfl rfl ?_
      refine g_iload_n (i := 3) (j := 3) (dk_La_law 204 rfl) rfl rfl ?_
      refine g_iconst (dk_La_law 205 rfl) (by decide) ?_
      refine g_iadd (dk_La_law 206 rfl) ?_
      obtain ⟨c91, h⟩ := p_gdE h
      refine g_scr he1 he2 (dk_La_law 207 rfl) c91.1 c91.2 ?_
      obtain ⟨c92, h⟩ := p_gdE h
      obtain ⟨r97, s93, q94, h⟩ := p_bdE h
      have t95 := tF_Mo_rank K l v2 (t9 ((p_w (v3 + 1)) : Int).toNat) (t9 ((p_w (v3 + 2)) : Int).toNat) s85 _ q94
      refine g_callV (a := v2) (ci := 11) (q0 := (RX11, TX11, 90)) (As := [p_i (t9 ((p_w (v3 + 1)) : Int).toNat), p_i (t9 ((p_w (v3 + 2)) : Int).toNat)]) (rest := [p_i r89]) [p_i r97, p_i r89] mt_Mo_rank rfl rfl tw_7_126 tw_7_127 tw_7_125 ⟨Nat.le_of_ble_eq_true rfl, Nat.le_of_ble_eq_true rfl⟩ rfl (Nat.le_of_ble_eq_true rfl) (dk_La_law 208 rfl) rfl c92 rfl t95 ?_
      have hs96 : p_x s85 s93 := t95.1
      show p_Go K l m_La_law 465 [(0, p_s 9), (1, p_r v1), (2, p_r v2), (3, p_i v3)] [p_i r97, p_i r89] s93 _
      refine g_icmp_eq 1701 (dk_La_law 209 rfl) (by decide) (fun b98 => ?_) (fun b98 => ?_)
      · have h := p_ifT b98 h
        exact tB_La_law_1701 K l n9 t9 he1 he2 k18 hk18 v1 v2 v3 s93 _ h
      · have h := p_ifF b98 h
        refine g_iconst (dk_La_law 210 rfl) (by decide) ?_
        cases h
        exact g_ret rfl rfl (dk_La_law 211 rfl) (fun _ => ⟨_, rfl, Or.inl rfl⟩)
    rcases p_iteE h with ⟨b99, h⟩ | ⟨b99, h⟩
    · refine g_tableIn 470 (dk_La_law 21 rfl) (by omega) (by omega) (by rw [b99]; rfl) (by decide) ?_
      refine g_aload_n (i := 1) (j := 1) (dk_La_law 212 rfl) rfl rfl ?_
      refine g_aload_nS (i := 0) (j := 0) (dk_La_law 213 rfl) rfl rfl ?_
      refine g_iload_n (i := 3) (j := 3) (dk_La_law 214 rfl) rfl rfl ?_
      refine g_iconst (dk_La_law 215 rfl) (by decide) ?_
      refine g_iadd (dk_La_law 216 rfl) ?_
      obtain ⟨c100, h⟩ := p_gdE h
      refine g_scr he1 he2 (dk_La_law 217 rfl) c100.1 c100.2 ?_
      refine g_aload_nS (i := 0) (j := 0) (dk_La_law 218 rfl) rfl rfl ?_
      refine g_iload_n (i := 3) (j := 3) (dk_La_law 219 rfl) rfl rfl ?_
      refine g_iconst (dk_La_law 220 rfl) (by decide) ?_
      refine g_iadd (dk_La_law 221 rfl) ?_
      obtain ⟨c101, h⟩ := p_gdE h
      refine g_scr he1 he2 (dk_La_law 222 rfl) c101.1 c101.2 ?_
      obtain ⟨c102, h⟩ := p_gdE h
      obtain ⟨r107, s103, q104, h⟩ := p_bdE h
      have t105 := tF_SW_refit K l v1 (t9 ((p_w (v3 + 1)) : Int).toNat) (t9 ((p_w (v3 + 2)) : Int).toNat) s0 _ q104
      refine g_callV (a := v1) (ci := 10) (q0 := (RX10, TX10, 9)) (As := [p_i (t9 ((p_w (v3 + 1)) : Int).toNat), p_i (t9 ((p_w (v3 + 2)) : Int).toNat)]) (rest := []) [p_i r107] mt_SW_refit rfl rfl tw_3_147 tw_3_148 tw_3_146 ⟨Nat.le_of_ble_eq_true rfl, Nat.le_of_ble_eq_true rfl⟩ rfl (Nat.le_of_ble_eq_true rfl) (dk_La_law 223 rfl) rfl c102 rfl t105 ?_
      have hs106 : p_x s0 s103 := t105.1
      show p_Go K l m_La_law 484 [(0, p_s 9), (1, p_r v1), (2, p_r v2), (3, p_i v3)] [p_i r107] s103 _
      refine g_aload_n (i := 2) (j := 2) (dk_La_law 224 rfl) rfl rfl ?_
      refine g_aload_nS (i := 0) (j := 0) (dk_La_law 225 rfl) rfl rfl ?_
      refine g_iload_n (i := 3) (j := 3) (dk_La_law 226 rfl) rfl rfl ?_
      refine g_iconst (dk_La_law 227 rfl) (by decide) ?_
      refine g_iadd (dk_La_law 228 rfl) ?_
      obtain ⟨c108, h⟩ := p_gdE h
      refine g_scr he1 he2 (dk_La_law 229 rfl) c108.1 c108.2 ?_
      refine g_aload_nS (i := 0) (j := 0) (dk_La_law 230 rfl) rfl rfl ?_
      refine g_iload_n (i := 3) (j := 3) (dk_La_law 231 rfl) rfl rfl ?_
      refine g_iconst (dk_La_law 232 rfl) (by decide) ?_
      refine g_iadd (dk_La_law 233 rfl) ?_
      obtain ⟨c109, h⟩ := p_gdE h
      refine g_scr he1 he2 (dk_La_law 234 rfl) c109.1 c109.2 ?_
      obtain ⟨c110, h⟩ := p_gdE h
      obtain ⟨r115, s111, q112, h⟩ := p_bdE h
      have t113 := tF_Mo_refit K l v2 (t9 ((p_w (v3 + 1)) : Int).toNat) (t9 ((p_w (v3 + 2)) : Int).toNat) s103 _ q112
      refine g_callV (a := v2) (ci := 11) (q0 := (RX11, TX11, 90)) (As := [p_i (t9 ((p_w (v3 + 1)) : Int).toNat), p_i (t9 ((p_w (v3 + 2)) : Int).toNat)]) (rest := [p_i r107]) [p_i r115, p_i r107] mt_Mo_refit rfl rfl tw_7_131 tw_7_132 tw_7_130 ⟨Nat.le_of_ble_eq_true rfl, Nat.le_of_ble_eq_true rfl⟩ rfl (Nat.le_of_ble_eq_true rfl) (dk_La_law 235 rfl) rfl c110 rfl t113 ?_
      have hs114 : p_x s103 s111 := t113.1
      show p_Go K l m_La_law 498 [(0, p_s 9), (1, p_r v1), (2, p_r v2), (3, p_i v3)] [p_i r115, p_i r107] s111 _
      refine g_icmp_eq 1701 (dk_La_law 236 rfl) (by decide) (fun b116 => ?_) (fun b116 => ?_)
      · have h := p_ifT b116 h
        exact tB_La_law_1701 K l n9 t9 he1 he2 k18 hk18 v1 v2 v3 s111 _ h
      · have h := p_ifF b116 h
        refine g_iconst (dk_La_law 237 rfl) (by decide) ?_
        cases h
        exact g_ret rfl rfl (dk_La_law 238 rfl) (fun _ => ⟨_, rfl, Or.inl rfl⟩)
    rcases p_iteE h with ⟨b117, h⟩ | ⟨b117, h⟩
    · refine g_tableIn 503 (dk_La_law 21 rfl) (by omega) (by omega) (by rw [b117]; rfl) (by decide) ?_
      refine g_aload_n (i := 1) (j := 1) (dk_La_law 239 rfl) rfl rfl ?_
      refine g_aload_nS (i := 0) (j := 0) (dk_La_law 240 rfl) rfl rfl ?_
      refine g_iload_n (i := 3) (j := 3) (dk_La_law 241 rfl) rfl rfl ?_
      refine g_iconst (dk_La_law 242 rfl) (by decide) ?_
      refine g_iadd (dk_La_law 243 rfl) ?_
      obtain ⟨c118, h⟩ := p_gdE h
      refine g_scr he1 he2 (dk_La_law 244 rfl) c118.1 c118.2 ?_
      obtain ⟨c119, h⟩ := p_gdE h
      obtain ⟨r124, s120, q121, h⟩ := p_bdE h
      have t122 := tF_SW_copy K l v1 (t9 ((p_w (v3 + 1)) : Int).toNat) s0 _ q121
      refine g_callV (a := v1) (ci := 10) (q0 := (RX10, TX10, 9)) (As := [p_i (t9 ((p_w (v3 + 1)) : Int).toNat)]) (rest := []) [p_i r124] mt_SW_copy rfl rfl tw_3_155 tw_3_156 tw_3_154 ⟨Nat.le_of_ble_eq_true rfl, Nat.le_of_ble_eq_true rfl⟩ rfl (Nat.le_of_ble_eq_true rfl) (dk_La_law 245 rfl) rfl c119 rfl t122 ?_
      have hs123 : p_x s0 s120 := t122.1
      show p_Go K l m_La_law 512 [(0, p_s 9), (1, p_r v1), (2, p_r v2), (3, p_i v3)] [p_i r124] s120 _
      refine g_aload_n (i := 2) (j := 2) (dk_La_law 246 rfl) rfl rfl ?_
      refine g_aload_nS (i := 0) (j := 0) (dk_La_law 247 rfl) rfl rfl ?_
      refine g_iload_n (i := 3) (j := 3) (dk_La_law 248 rfl) rfl rfl ?_
      refine g_iconst (dk_La_law 249 rfl) (by decide) ?_
      refine g_iadd (dk_La_law 250 rfl) ?_
      obtain ⟨c125, h⟩ := p_gdE h
      refine g_scr he1 he2 (dk_La_law 251 rfl) c125.1 c125.2 ?_
      obtain ⟨c126, h⟩ := p_gdE h
      obtain ⟨r131, s127, q128, h⟩ := p_bdE h
      have t129 := tF_Mo_copy K l v2 (t9 ((p_w (v3 + 1)) : Int).toNat) s120 _ q128
      refine g_callV (a := v2) (ci := 11) (q0 := (RX11, TX11, 90)) (As := [p_i (t9 ((p_w (v3 + 1)) : Int).toNat)]) (rest := [p_i r124]) [p_i r131, p_i r124] mt_Mo_copy rfl rfl tw_7_139 tw_7_140 tw_7_138 ⟨Nat.le_of_ble_eq_true rfl, Nat.le_of_ble_eq_true rfl⟩ rfl (Nat.le_of_ble_eq_true rfl) (dk_La_law 252 rfl) rfl c126 rfl t129 ?_
      have hs130 : p_x s120 s127 := t129.1
      show p_Go K l m_La_law 521 [(0, p_s 9), (1, p_r v1), (2, p_r v2), (3, p_i v3)] [p_i r131, p_i r124] s127 _
      refine g_icmp_eq 1701 (dk_La_law 253 rfl) (by decide) (fun b132 => ?_) (fun b132 => ?_)
      · have h := p_ifT b132 h
        exact tB_La_law_1701 K l n9 t9 he1 he2 k18 hk18 v1 v2 v3 s127 _ h
      · have h := p_ifF b132 h
        refine g_iconst (dk_La_law 254 rfl) (by decide) ?_
        cases h
        exact g_ret rfl rfl (dk_La_law 255 rfl) (fun _ => ⟨_, rfl, Or.inl rfl⟩)
    rcases p_iteE h with ⟨b133, h⟩ | ⟨b133, h⟩
    · refine g_tableIn 526 (dk_La_law 21 rfl) (by omega) (by omega) (by rw [b133]; rfl) (by decide) ?_
      refine g_aload_n (i := 1) (j := 1) (dk_La_law 256 rfl) rfl rfl ?_
      refine g_aload_nS (i := 0) (j := 0) (dk_La_law 257 rfl) rfl rfl ?_
      refine g_iload_n (i := 3) (j := 3) (dk_La_law 258 rfl) rfl rfl ?_
      refine g_iconst (dk_La_law 259 rfl) (by decide) ?_
      refine g_iadd (dk_La_law 260 rfl) ?_
      obtain ⟨c134, h⟩ := p_gdE h
      refine g_scr he1 he2 (dk_La_law 261 rfl) c134.1 c134.2 ?_
      obtain ⟨c135, h⟩ := p_gdE h
      obtain ⟨r140, s136, q137, h⟩ := p_bdE h
      have t138 := tF_SW_letter K l v1 (t9 ((p_w (v3 + 1)) : Int).toNat) s0 _ q137
      refine g_callV (a := v1) (ci := 10) (q0 := (RX10, TX10, 9)) (As := [p_i (t9 ((p_w (v3 + 1)) : Int).toNat)]) (rest := []) [p_i r140] mt_SW_letter rfl rfl tw_3_182 tw_3_183 tw_3_181 ⟨Nat.le_of_ble_eq_true rfl, Nat.le_of_ble_eq_true rfl⟩ rfl (Nat.le_of_ble_eq_true rfl) (dk_La_law 262 rfl) rfl c135 rfl t138 ?_
      have hs139 : p_x s0 s136 := t138.1
      show p_Go K l m_La_law 535 [(0, p_s 9), (1, p_r v1), (2, p_r v2), (3, p_i v3)] [p_i r140] s136 _
      refine g_aload_n (i := 2) (j := 2) (dk_La_law 263 rfl) rfl rfl ?_
      refine g_aload_nS (i := 0) (j := 0) (dk_La_law 264 rfl) rfl rfl ?_
      refine g_iload_n (i := 3) (j := 3) (dk_La_law 265 rfl) rfl rfl ?_
      refine g_iconst (dk_La_law 266 rfl) (by decide) ?_
      refine g_iadd (dk_La_law 267 rfl) ?_
      obtain ⟨c141, h⟩ := p_gdE h
      refine g_scr he1 he2 (dk_La_law 268 rfl) c141.1 c141.2 ?_
      obtain ⟨c142, h⟩ := p_gdE h
      obtain ⟨r147, s143, q144, h⟩ := p_bdE h
      have t145 := tF_Mo_letter K l v2 (t9 ((p_w (v3 + 1)) : Int).toNat) s136 _ q144
      refine g_callV (a := v2) (ci := 11) (q0 := (RX11, TX11, 90)) (As := [p_i (t9 ((p_w (v3 + 1)) : Int).toNat)]) (rest := [p_i r140]) [p_i r147, p_i r140] mt_Mo_letter rfl rfl tw_7_151 tw_7_152 tw_7_150 ⟨Nat.le_of_ble_eq_true rfl, Nat.le_of_ble_eq_true rfl⟩ rfl (Nat.le_of_ble_eq_true rfl) (dk_La_law 269 rfl) rfl c142 rfl t145 ?_
      have hs146 : p_x s136 s143 := t145.1
      show p_Go K l m_La_law 544 [(0, p_s 9), (1, p_r v1), (2, p_r v2), (3, p_i v3)] [p_i r147, p_i r140] s143 _
      refine g_icmp_eq 1701 (dk_La_law 270 rfl) (by decide) (fun b148 => ?_) (fun b148 => ?_)
      · have h := p_ifT b148 h
        exact tB_La_law_1701 K l n9 t9 he1 he2 k18 hk18 v1 v2 v3 s143 _ h
      · have h := p_ifF b148 h
        refine g_iconst (dk_La_law 271 rfl) (by decide) ?_
        cases h
        exact g_ret rfl rfl (dk_La_law 272 rfl) (fun _ => ⟨_, rfl, Or.inl rfl⟩)
    rcases p_iteE h with ⟨b149, h⟩ | ⟨b149, h⟩
    · refine g_tableIn 549 (dk_La_law 21 rfl) (by omega) (by omega) (by rw [b149]; rfl) (by decide) ?_
      refine g_aload_n (i := 1) (j := 1) (dk_La_law 273 rfl) rfl rfl ?_
      obtain ⟨c150, h⟩ := p_gdE h
      obtain ⟨r155, s151, q152, h⟩ := p_bdE h
      have t153 := tF_SW_load K l v1 s0 _ q152
      refine g_callV (a := v1) (ci := 10) (q0 := (RX10, TX10, 9)) (As := []) (rest := []) [p_i r155] mt_SW_load rfl rfl tw_3_186 tw_3_187 tw_3_185 ⟨Nat.le_of_ble_eq_true rfl, Nat.le_of_ble_eq_true rfl⟩ rfl (Nat.le_of_ble_eq_true rfl) (dk_La_law 274 rfl) rfl c150 rfl t153 ?_
      have hs154 : p_x s0 s151 := t153.1
      show p_Go K l m_La_law 553 [(0, p_s 9), (1, p_r v1), (2, p_r v2), (3, p_i v3)] [p_i r155] s151 _
      refine g_aload_n (i := 2) (j := 2) (dk_La_law 275 rfl) rfl rfl ?_
      obtain ⟨c156, h⟩ := p_gdE h
      obtain ⟨r161, s157, q158, h⟩ := p_bdE h
      have t159 := tF_Mo_load K l v2 s151 _ q158
      refine g_callV (a := v2) (ci := 11) (q0 := (RX11, TX11, 90)) (As := []) (rest := [p_i r155]) [p_i r161, p_i r155] mt_Mo_load rfl rfl tw_7_157 tw_7_158 tw_7_156 ⟨Nat.le_of_ble_eq_true rfl, Nat.le_of_ble_eq_true rfl⟩ rfl (Nat.le_of_ble_eq_true rfl) (dk_La_law 276 rfl) rfl c156 rfl t159 ?_
      have hs160 : p_x s151 s157 := t159.1
      show p_Go K l m_La_law 557 [(0, p_s 9), (1, p_r v1), (2, p_r v2), (3, p_i v3)] [p_i r161, p_i r155] s157 _
      refine g_icmp_eq 1701 (dk_La_law 277 rfl) (by decide) (fun b162 => ?_) (fun b162 => ?_)
      · have h := p_ifT b162 h
        exact tB_La_law_1701 K l n9 t9 he1 he2 k18 hk18 v1 v2 v3 s157 _ h
      · have h := p_ifF b162 h
        refine g_iconst (dk_La_law 278 rfl) (by decide) ?_
        cases h
        exact g_ret rfl rfl (dk_La_law 279 rfl) (fun _ => ⟨_, rfl, Or.inl rfl⟩)
    rcases p_iteE h with ⟨b163, h⟩ | ⟨b163, h⟩
    · refine g_tableIn 562 (dk_La_law 21 rfl) (by omega) (by omega) (by rw [b163]; rfl) (by decide) ?_
      refine g_aload_n (i := 1) (j := 1) (dk_La_law 280 rfl) rfl rfl ?_
      refine g_aload_nS (i := 0) (j := 0) (dk_La_law 281 rfl) rfl rfl ?_
      refine g_iload_n (i := 3) (j := 3) (dk_La_law 282 rfl) rfl rfl ?_
      refine g_iconst (dk_La_law 283 rfl) (by decide) ?_
      refine g_iadd (dk_La_law 284 rfl) ?_
      obtain ⟨c164, h⟩ := p_gdE h
      refine g_scr he1 he2 (dk_La_law 285 rfl) c164.1 c164.2 ?_
      refine g_aload_nS (i := 0) (j := 0) (dk_La_law 286 rfl) rfl rfl ?_
      refine g_iload_n (i := 3) (j := 3) (dk_La_law 287 rfl) rfl rfl ?_
      refine g_iconst (dk_La_law 288 rfl) (by decide) ?_
      refine g_iadd (dk_La_law 289 rfl) ?_
      obtain ⟨c165, h⟩ := p_gdE h
      refine g_scr he1 he2 (dk_La_law 290 rfl) c165.1 c165.2 ?_
      refine g_aload_nS (i := 0) (j := 0) (dk_La_law 291 rfl) rfl rfl ?_
      refine g_iload_n (i := 3) (j := 3) (dk_La_law 292 rfl) rfl rfl ?_
      refine g_iconst (dk_La_law 293 rfl) (by decide) ?_
      refine g_iadd (dk_La_law 294 rfl) ?_
      obtain ⟨c166, h⟩ := p_gdE h
      refine g_scr he1 he2 (dk_La_law 295 rfl) c166.1 c166.2 ?_
      refine g_aload_nS (i := 0) (j := 0) (dk_La_law 296 rfl) rfl rfl ?_
      refine g_iload_n (i := 3) (j := 3) (dk_La_law 297 rfl) rfl rfl ?_
      refine g_iconst (dk_La_law 298 rfl) (by decide) ?_
      refine g_iadd (dk_La_law 299 rfl) ?_
      obtain ⟨c167, h⟩ := p_gdE h
      refine g_scr he1 he2 (dk_La_law 300 rfl) c167.1 c167.2 ?_
      refine g_aload_nS (i := 0) (j := 0) (dk_La_law 301 rfl) rfl rfl ?_
      refine g_iload_n (i := 3) (j := 3) (dk_La_law 302 rfl) rfl rfl ?_
      refine g_iconst (dk_La_law 303 rfl) (by decide) ?_
      refine g_iadd (dk_La_law 304 rfl) ?_
      obtain ⟨c168, h⟩ := p_gdE h
      refine g_scr he1 he2 (dk_La_law 305 rfl) c168.1 c168.2 ?_
      obtain ⟨c169, h⟩ := p_gdE h
      obtain ⟨r174, s170, q171, h⟩ := p_bdE h
      have t172 := tF_SW_plan K l v1 (t9 ((p_w (v3 + 1)) : Int).toNat) (t9 ((p_w (v3 + 2)) : Int).toNat) (t9 ((p_w (v3 + 3)) : Int).toNat) (t9 ((p_w (v3 + 4)) : Int).toNat) (t9 ((p_w (v3 + 5)) : Int).toNat) s0 _ q171
      refine g_callV (a := v1) (ci := 10) (q0 := (RX10, TX10, 9)) (As := [p_i (t9 ((p_w (v3 + 1)) : Int).toNat), p_i (t9 ((p_w (v3 + 2)) : Int).toNat), p_i (t9 ((p_w (v3 + 3)) : Int).toNat), p_i (t9 ((p_w (v3 + 4)) : Int).toNat), p_i (t9 ((p_w (v3 + 5)) : Int).toNat)]) (rest := []) [p_i r174] mt_SW_plan rfl rfl tw_3_223 tw_3_224 tw_3_222 ⟨Nat.le_of_ble_eq_true rfl, Nat.le_of_ble_eq_true rfl⟩ rfl (Nat.le_of_ble_eq_true rfl) (dk_La_law 306 rfl) rfl c169 rfl t172 ?_
      have hs173 : p_x s0 s170 := t172.1
      show p_Go K l m_La_law 591 [(0, p_s 9), (1, p_r v1), (2, p_r v2), (3, p_i v3)] [p_i r174] s170 _
      refine g_aload_n (i := 2) (j := 2) (dk_La_law 307 rfl) rfl rfl ?_
      refine g_aload_nS (i := 0) (j := 0) (dk_La_law 308 rfl) rfl rfl ?_
      refine g_iload_n (i := 3) (j := 3) (dk_La_law 309 rfl) rfl rfl ?_
      refine g_iconst (dk_La_law 310 rfl) (by decide) ?_
      refine g_iadd (dk_La_law 311 rfl) ?_
      obtain ⟨c175, h⟩ := p_gdE h
      refine g_scr he1 he2 (dk_La_law 312 rfl) c175.1 c175.2 ?_
      refine g_aload_nS (i := 0) (j := 0) (dk_La_law 313 rfl) rfl rfl ?_
      refine g_iload_n (i := 3) (j := 3) (dk_La_law 314 rfl) rfl rfl ?_
      refine g_iconst (dk_La_law 315 rfl) (by decide) ?_
      refine g_iadd (dk_La_law 316 rfl) ?_
      obtain ⟨c176, h⟩ := p_gdE h
      refine g_scr he1 he2 (dk_La_law 317 rfl) c176.1 c176.2 ?_
      refine g_aload_nS (i := 0) (j := 0) (dk_La_law 318 rfl) rfl rfl ?_
      refine g_iload_n (i := 3) (j := 3) (dk_La_law 319 rfl) rfl rfl ?_
      refine g_iconst (dk_La_law 320 rfl) (by decide) ?_
      refine g_iadd (dk_La_law 321 rfl) ?_
      obtain ⟨c177, h⟩ := p_gdE h
      refine g_scr he1 he2 (dk_La_law 322 rfl) c177.1 c177.2 ?_
      refine g_aload_nS (i := 0) (j := 0) (dk_La_law 323 rfl) rfl rfl ?_
      refine g_iload_n (i := 3) (j := 3) (dk_La_law 324 rfl) rfl rfl ?_
      refine g_iconst (dk_La_law 325 rfl) (by decide) ?_
      refine g_iadd (dk_La_law 326 rfl) ?_
      obtain ⟨c178, h⟩ := p_gdE h
      refine g_scr he1 he2 (dk_La_law 327 rfl) c178.1 c178.2 ?_
      refine g_aload_nS (i := 0) (j := 0) (dk_La_law 328 rfl) rfl rfl ?_
      refine g_iload_n (i := 3) (j := 3) (dk_La_law 329 rfl) rfl rfl ?_
      refine g_iconst (dk_La_law 330 rfl) (by decide) ?_
      refine g_iadd (dk_La_law 331 rfl) ?_
      obtain ⟨c179, h⟩ := p_gdE h
      refine g_scr he1 he2 (dk_La_law 332 rfl) c179.1 c179.2 ?_
      obtain ⟨c180, h⟩ := p_gdE h
      obtain ⟨r185, s181, q182, h⟩ := p_bdE h
      have t183 := tF_Mo_plan K l v2 (t9 ((p_w (v3 + 1)) : Int).toNat) (t9 ((p_w (v3 + 2)) : Int).toNat) (t9 ((p_w (v3 + 3)) : Int).toNat) (t9 ((p_w (v3 + 4)) : Int).toNat) (t9 ((p_w (v3 + 5)) : Int).toNat) s170 _ q182
      refine g_callV (a := v2) (ci := 11) (q0 := (RX11, TX11, 90)) (As := [p_i (t9 ((p_w (v3 + 1)) : Int).toNat), p_i (t9 ((p_w (v3 + 2)) : Int).toNat), p_i (t9 ((p_w (v3 + 3)) : Int).toNat), p_i (t9 ((p_w (v3 + 4)) : Int).toNat), p_i (t9 ((p_w (v3 + 5)) : Int).toNat)]) (rest := [p_i r174]) [p_i r185, p_i r174] mt_Mo_plan rfl rfl tw_7_188 tw_7_189 tw_7_187 ⟨Nat.le_of_ble_eq_true rfl, Nat.le_of_ble_eq_true rfl⟩ rfl (Nat.le_of_ble_eq_true rfl) (dk_La_law 333 rfl) rfl c180 rfl t183 ?_
      have hs184 : p_x s170 s181 := t183.1
      show p_Go K l m_La_law 620 [(0, p_s 9), (1, p_r v1), (2, p_r v2), (3, p_i v3)] [p_i r185, p_i r174] s181 _
      refine g_icmp_eq 1701 (dk_La_law 334 rfl) (by decide) (fun b186 => ?_) (fun b186 => ?_)
      · have h := p_ifT b186 h
        exact tB_La_law_1701 K l n9 t9 he1 he2 k18 hk18 v1 v2 v3 s181 _ h
      · have h := p_ifF b186 h
        refine g_iconst (dk_La_law 335 rfl) (by decide) ?_
        cases h
        exact g_ret rfl rfl (dk_La_law 336 rfl) (fun _ => ⟨_, rfl, Or.inl rfl⟩)
    rcases p_iteE h with ⟨b187, h⟩ | ⟨b187, h⟩
    · refine g_tableIn 625 (dk_La_law 21 rfl) (by omega) (by omega) (by rw [b187]; rfl) (by decide) ?_
      refine g_aload_n (i := 1) (j := 1) (dk_La_law 337 rfl) rfl rfl ?_
      refine g_aload_nS (i := 0) (j := 0) (dk_La_law 338 rfl) rfl rfl ?_
      refine g_iload_n (i := 3) (j := 3) (dk_La_law 339 rfl) rfl rfl ?_
      refine g_iconst (dk_La_law 340 rfl) (by decide) ?_
      refine g_iadd (dk_La_law 341 rfl) ?_
      obtain ⟨c188, h⟩ := p_gdE h
      refine g_scr he1 he2 (dk_La_law 342 rfl) c188.1 c188.2 ?_
      refine g_aload_nS (i := 0) (j := 0) (dk_La_law 343 rfl) rfl rfl ?_
      refine g_iload_n (i := 3) (j := 3) (dk_La_law 344 rfl) rfl rfl ?_
      refine g_iconst (dk_La_law 345 rfl) (by decide) ?_
      refine g_iadd (dk_La_law 346 rfl) ?_
      obtain ⟨c189, h⟩ := p_gdE h
      refine g_scr he1 he2 (dk_La_law 347 rfl) c189.1 c189.2 ?_
      refine g_aload_nS (i := 0) (j := 0) (dk_La_law 348 rfl) rfl rfl ?_
      refine g_iload_n (i := 3) (j := 3) (dk_La_law 349 rfl) rfl rfl ?_
      refine g_iconst (dk_La_law 350 rfl) (by decide) ?_
      refine g_iadd (dk_La_law 351 rfl) ?_
      obtain ⟨c190, h⟩ := p_gdE h
      refine g_scr he1 he2 (dk_La_law 352 rfl) c190.1 c190.2 ?_
      obtain ⟨c191, h⟩ := p_gdE h
      obtain ⟨r196, s192, q193, h⟩ := p_bdE h
      have t194 := tF_SW_come K l v1 (t9 ((p_w (v3 + 1)) : Int).toNat) (t9 ((p_w (v3 + 2)) : Int).toNat) (t9 ((p_w (v3 + 3)) : Int).toNat) s0 _ q193
      refine g_callV (a := v1) (ci := 10) (q0 := (RX10, TX10, 9)) (As := [p_i (t9 ((p_w (v3 + 1)) : Int).toNat), p_i (t9 ((p_w (v3 + 2)) : Int).toNat), p_i (t9 ((p_w (v3 + 3)) : Int).toNat)]) (rest := []) [p_i r196] mt_SW_come rfl rfl tw_3_227 tw_3_228 tw_3_226 ⟨Nat.le_of_ble_eq_true rfl, Nat.le_of_ble_eq_true rfl⟩ rfl (Nat.le_of_ble_eq_true rfl) (dk_La_law 353 rfl) rfl c191 rfl t194 ?_
      have hs195 : p_x s0 s192 := t194.1
      show p_Go K l m_La_law 644 [(0, p_s 9), (1, p_r v1), (2, p_r v2), (3, p_i v3)] [p_i r196] s192 _
      refine g_aload_n (i := 2) (j := 2) (dk_La_law 354 rfl) rfl rfl ?_
      refine g_aload_nS (i := 0) (j := 0) (dk_La_law 355 rfl) rfl rfl ?_
      refine g_iload_n (i := 3) (j := 3) (dk_La_law 356 rfl) rfl rfl ?_
      refine g_iconst (dk_La_law 357 rfl) (by decide) ?_
      refine g_iadd (dk_La_law 358 rfl) ?_
      obtain ⟨c197, h⟩ := p_gdE h
      refine g_scr he1 he2 (dk_La_law 359 rfl) c197.1 c197.2 ?_
      refine g_aload_nS (i := 0) (j := 0) (dk_La_law 360 rfl) rfl rfl ?_
      refine g_iload_n (i := 3) (j := 3) (dk_La_law 361 rfl) rfl rfl ?_
      refine g_iconst (dk_La_law 362 rfl) (by decide) ?_
      refine g_iadd (dk_La_law 363 rfl) ?_
      obtain ⟨c198, h⟩ := p_gdE h
      refine g_scr he1 he2 (dk_La_law 364 rfl) c198.1 c198.2 ?_
      refine g_aload_nS (i := 0) (j := 0) (dk_La_law 365 rfl) rfl rfl ?_
      refine g_iload_n (i := 3) (j := 3) (dk_La_law 366 rfl) rfl rfl ?_
      refine g_iconst (dk_La_law 367 rfl) (by decide) ?_
      refine g_iadd (dk_La_law 368 rfl) ?_
      obtain ⟨c199, h⟩ := p_gdE h
      refine g_scr he1 he2 (dk_La_law 369 rfl) c199.1 c199.2 ?_
      obtain ⟨c200, h⟩ := p_gdE h
      obtain ⟨r205, s201, q202, h⟩ := p_bdE h
      have t203 := tF_Mo_come K l v2 (t9 ((p_w (v3 + 1)) : Int).toNat) (t9 ((p_w (v3 + 2)) : Int).toNat) (t9 ((p_w (v3 + 3)) : Int).toNat) s192 _ q202
      refine g_callV (a := v2) (ci := 11) (q0 := (RX11, TX11, 90)) (As := [p_i (t9 ((p_w (v3 + 1)) : Int).toNat), p_i (t9 ((p_w (v3 + 2)) : Int).toNat), p_i (t9 ((p_w (v3 + 3)) : Int).toNat)]) (rest := [p_i r196]) [p_i r205, p_i r196] mt_Mo_come rfl rfl tw_7_194 tw_7_195 tw_7_193 ⟨Nat.le_of_ble_eq_true rfl, Nat.le_of_ble_eq_true rfl⟩ rfl (Nat.le_of_ble_eq_true rfl) (dk_La_law 370 rfl) rfl c200 rfl t203 ?_
      have hs204 : p_x s192 s201 := t203.1
      show p_Go K l m_La_law 663 [(0, p_s 9), (1, p_r v1), (2, p_r v2), (3, p_i v3)] [p_i r205, p_i r196] s201 _
      refine g_icmp_eq 1701 (dk_La_law 371 rfl) (by decide) (fun b206 => ?_) (fun b206 => ?_)
      · have h := p_ifT b206 h
        exact tB_La_law_1701 K l n9 t9 he1 he2 k18 hk18 v1 v2 v3 s201 _ h
      · have h := p_ifF b206 h
        refine g_iconst (dk_La_law 372 rfl) (by decide) ?_
        cases h
        exact g_ret rfl rfl (dk_La_law 373 rfl) (fun _ => ⟨_, rfl, Or.inl rfl⟩)
    rcases p_iteE h with ⟨b207, h⟩ | ⟨b207, h⟩
    · refine g_tableIn 668 (dk_La_law 21 rfl) (by omega) (by omega) (by rw [b207]; rfl) (by decide) ?_
      refine g_aload_n (i := 1) (j := 1) (dk_La_law 374 rfl) rfl rfl ?_
      refine g_aload_nS (i := 0) (j := 0) (dk_La_law 375 rfl) rfl rfl ?_
      refine g_iload_n (i := 3) (j := 3) (dk_La_law 376 rfl) rfl rfl ?_
      refine g_iconst (dk_La_law 377 rfl) (by decide) ?_
      refine g_iadd (dk_La_law 378 rfl) ?_
      obtain ⟨c208, h⟩ := p_gdE h
      refine g_scr he1 he2 (dk_La_law 379 rfl) c208.1 c208.2 ?_
      refine g_aload_nS (i := 0) (j := 0) (dk_La_law 380 rfl) rfl rfl ?_
      refine g_iload_n (i := 3) (j := 3) (dk_La_law 381 rfl) rfl rfl ?_
      refine g_iconst (dk_La_law 382 rfl) (by decide) ?_
      refine g_iadd (dk_La_law 383 rfl) ?_
      obtain ⟨c209, h⟩ := p_gdE h
      refine g_scr he1 he2 (dk_La_law 384 rfl) c209.1 c209.2 ?_
      obtain ⟨c210, h⟩ := p_gdE h
      obtain ⟨r215, s211, q212, h⟩ := p_bdE h
      have t213 := tF_SW_label K l v1 (t9 ((p_w (v3 + 1)) : Int).toNat) (t9 ((p_w (v3 + 2)) : Int).toNat) s0 _ q212
      refine g_callV (a := v1) (ci := 10) (q0 := (RX10, TX10, 9)) (As := [p_i (t9 ((p_w (v3 + 1)) : Int).toNat), p_i (t9 ((p_w (v3 + 2)) : Int).toNat)]) (rest := []) [p_i r215] mt_SW_label rfl rfl tw_4_22 tw_4_23 tw_4_21 ⟨Nat.le_of_ble_eq_true rfl, Nat.le_of_ble_eq_true rfl⟩ rfl (Nat.le_of_ble_eq_true rfl) (dk_La_law 385 rfl) rfl c210 rfl t213 ?_
      have hs214 : p_x s0 s211 := t213.1
      show p_Go K l m_La_law 682 [(0, p_s 9), (1, p_r v1), (2, p_r v2), (3, p_i v3)] [p_i r215] s211 _
      refine g_aload_n (i := 2) (j := 2) (dk_La_law 386 rfl) rfl rfl ?_
      refine g_aload_nS (i := 0) (j := 0) (dk_La_law 387 rfl) rfl rfl ?_
      refine g_iload_n (i := 3) (j := 3) (dk_La_law 388 rfl) rfl rfl ?_
      refine g_iconst (dk_La_law 389 rfl) (by decide) ?_
      refine g_iadd (dk_La_law 390 rfl) ?_
      obtain ⟨c216, h⟩ := p_gdE h
      refine g_scr he1 he2 (dk_La_law 391 rfl) c216.1 c216.2 ?_
      refine g_aload_nS (i := 0) (j := 0) (dk_La_law 392 rfl) rfl rfl ?_
      refine g_iload_n (i := 3) (j := 3) (dk_La_law 393 rfl) rfl rfl ?_
      refine g_iconst (dk_La_law 394 rfl) (by decide) ?_
      refine g_iadd (dk_La_law 395 rfl) ?_
      obtain ⟨c217, h⟩ := p_gdE h
      refine g_scr he1 he2 (dk_La_law 396 rfl) c217.1 c217.2 ?_
      obtain ⟨c218, h⟩ := p_gdE h
      obtain ⟨r223, s219, q220, h⟩ := p_bdE h
      have t221 := tF_Mo_label K l v2 (t9 ((p_w (v3 + 1)) : Int).toNat) (t9 ((p_w (v3 + 2)) : Int).toNat) s211 _ q220
      refine g_callV (a := v2) (ci := 11) (q0 := (RX11, TX11, 90)) (As := [p_i (t9 ((p_w (v3 + 1)) : Int).toNat), p_i (t9 ((p_w (v3 + 2)) : Int).toNat)]) (rest := [p_i r215]) [p_i r223, p_i r215] mt_Mo_label rfl rfl tw_7_214 tw_7_215 tw_7_213 ⟨Nat.le_of_ble_eq_true rfl, Nat.le_of_ble_eq_true rfl⟩ rfl (Nat.le_of_ble_eq_true rfl) (dk_La_law 397 rfl) rfl c218 rfl t221 ?_
      have hs222 : p_x s211 s219 := t221.1
      show p_Go K l m_La_law 696 [(0, p_s 9), (1, p_r v1), (2, p_r v2), (3, p_i v3)] [p_i r223, p_i r215] s219 _
      refine g_icmp_eq 1701 (dk_La_law 398 rfl) (by decide) (fun b224 => ?_) (fun b224 => ?_)
      · have h := p_ifT b224 h
        exact tB_La_law_1701 K l n9 t9 he1 he2 k18 hk18 v1 v2 v3 s219 _ h
      · have h := p_ifF b224 h
        refine g_iconst (dk_La_law 399 rfl) (by decide) ?_
        cases h
        exact g_ret rfl rfl (dk_La_law 400 rfl) (fun _ => ⟨_, rfl, Or.inl rfl⟩)
    rcases p_iteE h with ⟨b225, h⟩ | ⟨b225, h⟩
    · refine g_tableIn 701 (dk_La_law 21 rfl) (by omega) (by omega) (by rw [b225]; rfl) (by decide) ?_
      refine g_aload_n (i := 1) (j := 1) (dk_La_law 401 rfl) rfl rfl ?_
      refine g_aload_nS (i := 0) (j := 0) (dk_La_law 402 rfl) rfl rfl ?_
      refine g_iload_n (i := 3) (j := 3) (dk_La_law 403 rfl) rfl rfl ?_
      refine g_iconst (dk_La_law 404 rfl) (by decide) ?_
      refine g_iadd (dk_La_law 405 rfl) ?_
      obtain ⟨c226, h⟩ := p_gdE h
      refine g_scr he1 he2 (dk_La_law 406 rfl) c226.1 c226.2 ?_
      refine g_aload_nS (i := 0) (j := 0) (dk_La_law 407 rfl) rfl rfl ?_
      refine g_iload_n (i := 3) (j := 3) (dk_La_law 408 rfl) rfl rfl ?_
      refine g_iconst (dk_La_law 409 rfl) (by decide) ?_
      refine g_iadd (dk_La_law 410 rfl) ?_
      obtain ⟨c227, h⟩ := p_gdE h
      refine g_scr he1 he2 (dk_La_law 411 rfl) c227.1 c227.2 ?_
      refine g_aload_nS (i := 0) (j := 0) (dk_La_law 412 rfl) rfl rfl ?_
      refine g_iload_n (i := 3) (j := 3) (dk_La_law 413 rfl) rfl rfl ?_
      refine g_iconst (dk_La_law 414 rfl) (by decide) ?_
      refine g_iadd (dk_La_law 415 rfl) ?_
      obtain ⟨c228, h⟩ := p_gdE h
      refine g_scr he1 he2 (dk_La_law 416 rfl) c228.1 c228.2 ?_
      obtain ⟨c229, h⟩ := p_gdE h
      obtain ⟨r234, s230, q231, h⟩ := p_bdE h
      have t232 := tF_SW_put K l v1 (t9 ((p_w (v3 + 1)) : Int).toNat) (t9 ((p_w (v3 + 2)) : Int).toNat) (t9 ((p_w (v3 + 3)) : Int).toNat) s0 _ q231
      refine g_callV (a := v1) (ci := 10) (q0 := (RX10, TX10, 9)) (As := [p_i (t9 ((p_w (v3 + 1)) : Int).toNat), p_i (t9 ((p_w (v3 + 2)) : Int).toNat), p_i (t9 ((p_w (v3 + 3)) : Int).toNat)]) (rest := []) [p_i r234] mt_SW_put rfl rfl tw_4_30 tw_4_31 tw_4_29 ⟨Nat.le_of_ble_eq_true rfl, Nat.le_of_ble_eq_true rfl⟩ rfl (Nat.le_of_ble_eq_true rfl) (dk_La_law 417 rfl) rfl c229 rfl t232 ?_
      have hs233 : p_x s0 s230 := t232.1
      show p_Go K l m_La_law 720 [(0, p_s 9), (1, p_r v1), (2, p_r v2), (3, p_i v3)] [p_i r234] s230 _
      refine g_aload_n (i := 2) (j := 2) (dk_La_law 418 rfl) rfl rfl ?_
      refine g_aload_nS (i := 0) (j := 0) (dk_La_law 419 rfl) rfl rfl ?_
      refine g_iload_n (i := 3) (j := 3) (dk_La_law 420 rfl) rfl rfl ?_
      refine g_iconst (dk_La_law 421 rfl) (by decide) ?_
      refine g_iadd (dk_La_law 422 rfl) ?_
      obtain ⟨c235, h⟩ := p_gdE h
      refine g_scr he1 he2 (dk_La_law 423 rfl) c235.1 c235.2 ?_
      refine g_aload_nS (i := 0) (j := 0) (dk_La_law 424 rfl) rfl rfl ?_
      refine g_iload_n (i := 3) (j := 3) (dk_La_law 425 rfl) rfl rfl ?_
      refine g_iconst (dk_La_law 426 rfl) (by decide) ?_
      refine g_iadd (dk_La_law 427 rfl) ?_
      obtain ⟨c236, h⟩ := p_gdE h
      refine g_scr he1 he2 (dk_La_law 428 rfl) c236.1 c236.2 ?_
      refine g_aload_nS (i := 0) (j := 0) (dk_La_law 429 rfl) rfl rfl ?_
      refine g_iload_n (i := 3) (j := 3) (dk_La_law 430 rfl) rfl rfl ?_
      refine g_iconst (dk_La_law 431 rfl) (by decide) ?_
      refine g_iadd (dk_La_law 432 rfl) ?_
      obtain ⟨c237, h⟩ := p_gdE h
      refine g_scr he1 he2 (dk_La_law 433 rfl) c237.1 c237.2 ?_
      obtain ⟨c238, h⟩ := p_gdE h
      obtain ⟨r243, s239, q240, h⟩ := p_bdE h
      have t241 := tF_Mo_put K l v2 (t9 ((p_w (v3 + 1)) : Int).toNat) (t9 ((p_w (v3 + 2)) : Int).toNat) (t9 ((p_w (v3 + 3)) : Int).toNat) s230 _ q240
      refine g_callV (a := v2) (ci := 11) (q0 := (RX11, TX11, 90)) (As := [p_i (t9 ((p_w (v3 + 1)) : Int).toNat), p_i (t9 ((p_w (v3 + 2)) : Int).toNat), p_i (t9 ((p_w (v3 + 3)) : Int).toNat)]) (rest := [p_i r234]) [p_i r243, p_i r234] mt_Mo_put rfl rfl tw_7_226 tw_7_227 tw_7_225 ⟨Nat.le_of_ble_eq_true rfl, Nat.le_of_ble_eq_true rfl⟩ rfl (Nat.le_of_ble_eq_true rfl) (dk_La_law 434 rfl) rfl c238 rfl t241 ?_
      have hs242 : p_x s230 s239 := t241.1
      show p_Go K l m_La_law 739 [(0, p_s 9), (1, p_r v1), (2, p_r v2), (3, p_i v3)] [p_i r243, p_i r234] s239 _
      refine g_icmp_eq 1701 (dk_La_law 435 rfl) (by decide) (fun b244 => ?_) (fun b244 => ?_)
      · have h := p_ifT b244 h
        exact tB_La_law_1701 K l n9 t9 he1 he2 k18 hk18 v1 v2 v3 s239 _ h
      · have h := p_ifF b244 h
        refine g_iconst (dk_La_law 436 rfl) (by decide) ?_
        cases h
        exact g_ret rfl rfl (dk_La_law 437 rfl) (fun _ => ⟨_, rfl, Or.inl rfl⟩)
    rcases p_iteE h with ⟨b245, h⟩ | ⟨b245, h⟩
    · refine g_tableIn 744 (dk_La_law 21 rfl) (by omega) (by omega) (by rw [b245]; rfl) (by decide) ?_
      refine g_aload_n (i := 1) (j := 1) (dk_La_law 438 rfl) rfl rfl ?_
      refine g_aload_nS (i := 0) (j := 0) (dk_La_law 439 rfl) rfl rfl ?_
      refine g_iload_n (i := 3) (j := 3) (dk_La_law 440 rfl) rfl rfl ?_
      refine g_iconst (dk_La_law 441 rfl) (by decide) ?_
      refine g_iadd (dk_La_law 442 rfl) ?_
      obtain ⟨c246, h⟩ := p_gdE h
      refine g_scr he1 he2 (dk_La_law 443 rfl) c246.1 c246.2 ?_
      refine g_aload_nS (i := 0) (j := 0) (dk_La_law 444 rfl) rfl rfl ?_
      refine g_iload_n (i := 3) (j := 3) (dk_La_law 445 rfl) rfl rfl ?_
      refine g_iconst (dk_La_law 446 rfl) (by decide) ?_
      refine g_iadd (dk_La_law 447 rfl) ?_
      obtain ⟨c247, h⟩ := p_gdE h
      refine g_scr he1 he2 (dk_La_law 448 rfl) c247.1 c247.2 ?_
      refine g_aload_nS (i := 0) (j := 0) (dk_La_law 449 rfl) rfl rfl ?_
      refine g_iload_n (i := 3) (j := 3) (dk_La_law 450 rfl) rfl rfl ?_
      refine g_iconst (dk_La_law 451 rfl) (by decide) ?_
      refine g_iadd (dk_La_law 452 rfl) ?_
      obtain ⟨c248, h⟩ := p_gdE h
      refine g_scr he1 he2 (dk_La_law 453 rfl) c248.1 c248.2 ?_
      obtain ⟨c249, h⟩ := p_gdE h
      obtain ⟨r254, s250, q251, h⟩ := p_bdE h
      have t252 := tF_SW_tag K l v1 (t9 ((p_w (v3 + 1)) : Int).toNat) (t9 ((p_w (v3 + 2)) : Int).toNat) (t9 ((p_w (v3 + 3)) : Int).toNat) s0 _ q251
      refine g_callV (a := v1) (ci := 10) (q0 := (RX10, TX10, 9)) (As := [p_i (t9 ((p_w (v3 + 1)) : Int).toNat), p_i (t9 ((p_w (v3 + 2)) : Int).toNat), p_i (t9 ((p_w (v3 + 3)) : Int).toNat)]) (rest := []) [p_i r254] mt_SW_tag rfl rfl tw_4_34 tw_4_35 tw_4_33 ⟨Nat.le_of_ble_eq_true rfl, Nat.le_of_ble_eq_true rfl⟩ rfl (Nat.le_of_ble_eq_true rfl) (dk_La_law 454 rfl) rfl c249 rfl t252 ?_
      have hs253 : p_x s0 s250 := t252.1
      show p_Go K l m_La_law 763 [(0, p_s 9), (1, p_r v1), (2, p_r v2), (3, p_i v3)] [p_i r254] s250 _
      refine g_aload_n (i := 2) (j := 2) (dk_La_law 455 rfl) rfl rfl ?_
      refine g_aload_nS (i := 0) (j := 0) (dk_La_law 456 rfl) rfl rfl ?_
      refine g_iload_n (i := 3) (j := 3) (dk_La_law 457 rfl) rfl rfl ?_
      refine g_iconst (dk_La_law 458 rfl) (by decide) ?_
      refine g_iadd (dk_La_law 459 rfl) ?_
      obtain ⟨c255, h⟩ := p_gdE h
      refine g_scr he1 he2 (dk_La_law 460 rfl) c255.1 c255.2 ?_
      refine g_aload_nS (i := 0) (j := 0) (dk_La_law 461 rfl) rfl rfl ?_
      refine g_iload_n (i := 3) (j := 3) (dk_La_law 462 rfl) rfl rfl ?_
      refine g_iconst (dk_La_law 463 rfl) (by decide) ?_
      refine g_iadd (dk_La_law 464 rfl) ?_
      obtain ⟨c256, h⟩ := p_gdE h
      refine g_scr he1 he2 (dk_La_law 465 rfl) c256.1 c256.2 ?_
      refine g_aload_nS (i := 0) (j := 0) (dk_La_law 466 rfl) rfl rfl ?_
      refine g_iload_n (i := 3) (j := 3) (dk_La_law 467 rfl) rfl rfl ?_
      refine g_iconst (dk_La_law 468 rfl) (by decide) ?_
      refine g_iadd (dk_La_law 469 rfl) ?_
      obtain ⟨c257, h⟩ := p_gdE h
      refine g_scr he1 he2 (dk_La_law 470 rfl) c257.1 c257.2 ?_
      obtain ⟨c258, h⟩ := p_gdE h
      obtain ⟨r263, s259, q260, h⟩ := p_bdE h
      have t261 := tF_Mo_tag K l v2 (t9 ((p_w (v3 + 1)) : Int).toNat) (t9 ((p_w (v3 + 2)) : Int).toNat) (t9 ((p_w (v3 + 3)) : Int).toNat) s250 _ q260
      refine g_callV (a := v2) (ci := 11) (q0 := (RX11, TX11, 90)) (As := [p_i (t9 ((p_w (v3 + 1)) : Int).toNat), p_i (t9 ((p_w (v3 + 2)) : Int).toNat), p_i (t9 ((p_w (v3 + 3)) : Int).toNat)]) (rest := [p_i r254]) [p_i r263, p_i r254] mt_Mo_tag rfl rfl tw_7_230 tw_7_231 tw_7_229 ⟨Nat.le_of_ble_eq_true rfl, Nat.le_of_ble_eq_true rfl⟩ rfl (Nat.le_of_ble_eq_true rfl) (dk_La_law 471 rfl) rfl c258 rfl t261 ?_
      have hs262 : p_x s250 s259 := t261.1
      show p_Go K l m_La_law 782 [(0, p_s 9), (1, p_r v1), (2, p_r v2), (3, p_i v3)] [p_i r263, p_i r254] s259 _
      refine g_icmp_eq 1701 (dk_La_law 472 rfl) (by decide) (fun b264 => ?_) (fun b264 => ?_)
      · have h := p_ifT b264 h
        exact tB_La_law_1701 K l n9 t9 he1 he2 k18 hk18 v1 v2 v3 s259 _ h
      · have h := p_ifF b264 h
        refine g_iconst (dk_La_law 473 rfl) (by decide) ?_
        cases h
        exact g_ret rfl rfl (dk_La_law 474 rfl) (fun _ => ⟨_, rfl, Or.inl rfl⟩)
    rcases p_iteE h with ⟨b265, h⟩ | ⟨b265, h⟩
    · refine g_tableIn 787 (dk_La_law 21 rfl) (by omega) (by omega) (by rw [b265]; rfl) (by decide) ?_
      refine g_aload_n (i := 1) (j := 1) (dk_La_law 475 rfl) rfl rfl ?_
      refine g_aload_nS (i := 0) (j := 0) (dk_La_law 476 rfl) rfl rfl ?_
      refine g_iload_n (i := 3) (j := 3) (dk_La_law 477 rfl) rfl rfl ?_
      refine g_iconst (dk_La_law 478 rfl) (by decide) ?_
      refine g_iadd (dk_La_law 479 rfl) ?_
      obtain ⟨c266, h⟩ := p_gdE h
      refine g_scr he1 he2 (dk_La_law 480 rfl) c266.1 c266.2 ?_
      refine g_aload_nS (i := 0) (j := 0) (dk_La_law 481 rfl) rfl rfl ?_
      refine g_iload_n (i := 3) (j := 3) (dk_La_law 482 rfl) rfl rfl ?_
      refine g_iconst (dk_La_law 483 rfl) (by decide) ?_
      refine g_iadd (dk_La_law 484 rfl) ?_
      obtain ⟨c267, h⟩ := p_gdE h
      refine g_scr he1 he2 (dk_La_law 485 rfl) c267.1 c267.2 ?_
      refine g_if_eq 805 (dk_La_law 486 rfl) (by decide) (fun b268 => ?_) (fun b268 => ?_)
      · have h := p_ifT b268 h
        refine g_iconst (dk_La_law 489 rfl) (by decide) ?_
        exact tB_La_law_806 K l n9 t9 he1 he2 k18 hk18 v1 v2 v3 0 (t9 ((p_w (v3 + 1)) : Int).toNat) v1 s0 _ h
      · have h := p_ifF b268 h
        refine g_iconst (dk_La_law 487 rfl) (by decide) ?_
        refine g_goto 806 (dk_La_law 488 rfl) (by decide) ?_
        exact tB_La_law_806 K l n9 t9 he1 he2 k18 hk18 v1 v2 v3 1 (t9 ((p_w (v3 + 1)) : Int).toNat) v1 s0 _ h
    rcases p_iteE h with ⟨b269, h⟩ | ⟨b269, h⟩
    · refine g_tableIn 836 (dk_La_law 21 rfl) (by omega) (by omega) (by rw [b269]; rfl) (by decide) ?_
      refine g_aload_n (i := 1) (j := 1) (dk_La_law 510 rfl) rfl rfl ?_
      refine g_aload_nS (i := 0) (j := 0) (dk_La_law 511 rfl) rfl rfl ?_
      refine g_iload_n (i := 3) (j := 3) (dk_La_law 512 rfl) rfl rfl ?_
      refine g_iconst (dk_La_law 513 rfl) (by decide) ?_
      refine g_iadd (dk_La_law 514 rfl) ?_
      obtain ⟨c270, h⟩ := p_gdE h
      refine g_scr he1 he2 (dk_La_law 515 rfl) c270.1 c270.2 ?_
      refine g_aload_nS (i := 0) (j := 0) (dk_La_law 516 rfl) rfl rfl ?_
      refine g_iload_n (i := 3) (j := 3) (dk_La_law 517 rfl) rfl rfl ?_
      refine g_iconst (dk_La_law 518 rfl) (by decide) ?_
      refine g_iadd (dk_La_law 519 rfl) ?_
      obtain ⟨c271, h⟩ := p_gdE h
      refine g_scr he1 he2 (dk_La_law 520 rfl) c271.1 c271.2 ?_
      obtain ⟨c272, h⟩ := p_gdE h
      obtain ⟨r277, s273, q274, h⟩ := p_bdE h
      have t275 := tF_SW_turn K l v1 (t9 ((p_w (v3 + 1)) : Int).toNat) (t9 ((p_w (v3 + 2)) : Int).toNat) s0 _ q274
      refine g_callV (a := v1) (ci := 10) (q0 := (RX10, TX10, 9)) (As := [p_i (t9 ((p_w (v3 + 1)) : Int).toNat), p_i (t9 ((p_w (v3 + 2)) : Int).toNat)]) (rest := []) [p_i r277] mt_SW_turn rfl rfl tw_4_54 tw_4_55 tw_4_53 ⟨Nat.le_of_ble_eq_true rfl, Nat.le_of_ble_eq_true rfl⟩ rfl (Nat.le_of_ble_eq_true rfl) (dk_La_law 521 rfl) rfl c272 rfl t275 ?_
      have hs276 : p_x s0 s273 := t275.1
      show p_Go K l m_La_law 850 [(0, p_s 9), (1, p_r v1), (2, p_r v2), (3, p_i v3)] [p_i r277] s273 _
      refine g_aload_n (i := 2) (j := 2) (dk_La_law 522 rfl) rfl rfl ?_
      refine g_aload_nS (i := 0) (j := 0) (dk_La_law 523 rfl) rfl rfl ?_
      refine g_iload_n (i := 3) (j := 3) (dk_La_law 524 rfl) rfl rfl ?_
      refine g_iconst (dk_La_law 525 rfl) (by decide) ?_
      refine g_iadd (dk_La_law 526 rfl) ?_
      obtain ⟨c278, h⟩ := p_gdE h
      refine g_scr he1 he2 (dk_La_law 527 rfl) c278.1 c278.2 ?_
      refine g_aload_nS (i := 0) (j := 0) (dk_La_law 528 rfl) rfl rfl ?_
      refine g_iload_n (i := 3) (j := 3) (dk_La_law 529 rfl) rfl rfl ?_
      refine g_iconst (dk_La_law 530 rfl) (by decide) ?_
      refine g_iadd (dk_La_law 531 rfl) ?_
      obtain ⟨c279, h⟩ := p_gdE h
      refine g_scr he1 he2 (dk_La_law 532 rfl) c279.1 c279.2 ?_
      obtain ⟨c280, h⟩ := p_gdE h
      obtain ⟨r285, s281, q282, h⟩ := p_bdE h
      have t283 := tF_Mo_turn K l v2 (t9 ((p_w (v3 + 1)) : Int).toNat) (t9 ((p_w (v3 + 2)) : Int).toNat) s273 _ q282
      refine g_callV (a := v2) (ci := 11) (q0 := (RX11, TX11, 90)) (As := [p_i (t9 ((p_w (v3 + 1)) : Int).toNat), p_i (t9 ((p_w (v3 + 2)) : Int).toNat)]) (rest := [p_i r277]) [p_i r285, p_i r277] mt_Mo_turn rfl rfl tw_8_3 tw_8_4 tw_8_2 ⟨Nat.le_of_ble_eq_true rfl, Nat.le_of_ble_eq_true rfl⟩ rfl (Nat.le_of_ble_eq_true rfl) (dk_La_law 533 rfl) rfl c280 rfl t283 ?_
      have hs284 : p_x s273 s281 := t283.1
      show p_Go K l m_La_law 864 [(0, p_s 9), (1, p_r v1), (2, p_r v2), (3, p_i v3)] [p_i r285, p_i r277] s281 _
      refine g_icmp_eq 1701 (dk_La_law 534 rfl) (by decide) (fun b286 => ?_) (fun b286 => ?_)
      · have h := p_ifT b286 h
        exact tB_La_law_1701 K l n9 t9 he1 he2 k18 hk18 v1 v2 v3 s281 _ h
      · have h := p_ifF b286 h
        refine g_iconst (dk_La_law 535 rfl) (by decide) ?_
        cases h
        exact g_ret rfl rfl (dk_La_law 536 rfl) (fun _ => ⟨_, rfl, Or.inl rfl⟩)
    rcases p_iteE h with ⟨b287, h⟩ | ⟨b287, h⟩
    · refine g_tableIn 869 (dk_La_law 21 rfl) (by omega) (by omega) (by rw [b287]; rfl) (by decide) ?_
      refine g_aload_n (i := 1) (j := 1) (dk_La_law 537 rfl) rfl rfl ?_
      refine g_aload_nS (i := 0) (j := 0) (dk_La_law 538 rfl) rfl rfl ?_
      refine g_iload_n (i := 3) (j := 3) (dk_La_law 539 rfl) rfl rfl ?_
      refine g_iconst (dk_La_law 540 rfl) (by decide) ?_
      refine g_iadd (dk_La_law 541 rfl) ?_
      obtain ⟨c288, h⟩ := p_gdE h
      refine g_scr he1 he2 (dk_La_law 542 rfl) c288.1 c288.2 ?_
      refine g_aload_nS (i := 0) (j := 0) (dk_La_law 543 rfl) rfl rfl ?_
      refine g_iload_n (i := 3) (j := 3) (dk_La_law 544 rfl) rfl rfl ?_
      refine g_iconst (dk_La_law 545 rfl) (by decide) ?_
      refine g_iadd (dk_La_law 546 rfl) ?_
      obtain ⟨c289, h⟩ := p_gdE h
      refine g_scr he1 he2 (dk_La_law 547 rfl) c289.1 c289.2 ?_
      obtain ⟨c290, h⟩ := p_gdE h
      obtain ⟨r295, s291, q292, h⟩ := p_bdE h
      have t293 := tF_SW_release K l v1 (t9 ((p_w (v3 + 1)) : Int).toNat) (t9 ((p_w (v3 + 2)) : Int).toNat) s0 _ q292
      refine g_callV (a := v1) (ci := 10) (q0 := (RX10, TX10, 9)) (As := [p_i (t9 ((p_w (v3 + 1)) : Int).toNat), p_i (t9 ((p_w (v3 + 2)) : Int).toNat)]) (rest := []) [p_i r295] mt_SW_release rfl rfl tw_4_58 tw_4_59 tw_4_57 ⟨Nat.le_of_ble_eq_true rfl, Nat.le_of_ble_eq_true rfl⟩ rfl (Nat.le_of_ble_eq_true rfl) (dk_La_law 548 rfl) rfl c290 rfl t293 ?_
      have hs294 : p_x s0 s291 := t293.1
      show p_Go K l m_La_law 883 [(0, p_s 9), (1, p_r v1), (2, p_r v2), (3, p_i v3)] [p_i r295] s291 _
      refine g_aload_n (i := 2) (j := 2) (dk_La_law 549 rfl) rfl rfl ?_
      refine g_aload_nS (i := 0) (j := 0) (dk_La_law 550 rfl) rfl rfl ?_
      refine g_iload_n (i := 3) (j := 3) (dk_La_law 551 rfl) rfl rfl ?_
      refine g_iconst (dk_La_law 552 rfl) (by decide) ?_
      refine g_iadd (dk_La_law 553 rfl) ?_
      obtain ⟨c296, h⟩ := p_gdE h
      refine g_scr he1 he2 (dk_La_law 554 rfl) c296.1 c296.2 ?_
      refine g_aload_nS (i := 0) (j := 0) (dk_La_law 555 rfl) rfl rfl ?_
      refine g_iload_n (i := 3) (j := 3) (dk_La_law 556 rfl) rfl rfl ?_
      refine g_iconst (dk_La_law 557 rfl) (by decide) ?_
      refine g_iadd (dk_La_law 558 rfl) ?_
      obtain ⟨c297, h⟩ := p_gdE h
      refine g_scr he1 he2 (dk_La_law 559 rfl) c297.1 c297.2 ?_
      obtain ⟨c298, h⟩ := p_gdE h
      obtain ⟨r303, s299, q300, h⟩ := p_bdE h
      have t301 := tF_Mo_release K l v2 (t9 ((p_w (v3 + 1)) : Int).toNat) (t9 ((p_w (v3 + 2)) : Int).toNat) s291 _ q300
      refine g_callV (a := v2) (ci := 11) (q0 := (RX11, TX11, 90)) (As := [p_i (t9 ((p_w (v3 + 1)) : Int).toNat), p_i (t9 ((p_w (v3 + 2)) : Int).toNat)]) (rest := [p_i r295]) [p_i r303, p_i r295] mt_Mo_release rfl rfl tw_8_7 tw_8_8 tw_8_6 ⟨Nat.le_of_ble_eq_true rfl, Nat.le_of_ble_eq_true rfl⟩ rfl (Nat.le_of_ble_eq_true rfl) (dk_La_law 560 rfl) rfl c298 rfl t301 ?_
      have hs302 : p_x s291 s299 := t301.1
      show p_Go K l m_La_law 897 [(0, p_s 9), (1, p_r v1), (2, p_r v2), (3, p_i v3)] [p_i r303, p_i r295] s299 _
      refine g_icmp_eq 1701 (dk_La_law 561 rfl) (by decide) (fun b304 => ?_) (fun b304 => ?_)
      · have h := p_ifT b304 h
        exact tB_La_law_1701 K l n9 t9 he1 he2 k18 hk18 v1 v2 v3 s299 _ h
      · have h := p_ifF b304 h
        refine g_iconst (dk_La_law 562 rfl) (by decide) ?_
        cases h
        exact g_ret rfl rfl (dk_La_law 563 rfl) (fun _ => ⟨_, rfl, Or.inl rfl⟩)
    rcases p_iteE h with ⟨b305, h⟩ | ⟨b305, h⟩
    · refine g_tableIn 902 (dk_La_law 21 rfl) (by omega) (by omega) (by rw [b305]; rfl) (by decide) ?_
      refine g_aload_n (i := 1) (j := 1) (dk_La_law 564 rfl) rfl rfl ?_
      refine g_aload_nS (i := 0) (j := 0) (dk_La_law 565 rfl) rfl rfl ?_
      refine g_iload_n (i := 3) (j := 3) (dk_La_law 566 rfl) rfl rfl ?_
      refine g_iconst (dk_La_law 567 rfl) (by decide) ?_
      refine g_iadd (dk_La_law 568 rfl) ?_
      obtain ⟨c306, h⟩ := p_gdE h
      refine g_scr he1 he2 (dk_La_law 569 rfl) c306.1 c306.2 ?_
      obtain ⟨c307, h⟩ := p_gdE h
      obtain ⟨r312, s308, q309, h⟩ := p_bdE h
      have t310 := tF_SW_clear K l v1 (t9 ((p_w (v3 + 1)) : Int).toNat) s0 _ q309
      refine g_callV (a := v1) (ci := 10) (q0 := (RX10, TX10, 9)) (As := [p_i (t9 ((p_w (v3 + 1)) : Int).toNat)]) (rest := []) [p_i r312] mt_SW_clear rfl rfl tw_4_62 tw_4_63 tw_4_61 ⟨Nat.le_of_ble_eq_true rfl, Nat.le_of_ble_eq_true rfl⟩ rfl (Nat.le_of_ble_eq_true rfl) (dk_La_law 570 rfl) rfl c307 rfl t310 ?_
      have hs311 : p_x s0 s308 := t310.1
      show p_Go K l m_La_law 911 [(0, p_s 9), (1, p_r v1), (2, p_r v2), (3, p_i v3)] [p_i r312] s308 _
      refine g_aload_n (i := 2) (j := 2) (dk_La_law 571 rfl) rfl rfl ?_
      refine g_aload_nS (i := 0) (j := 0) (dk_La_law 572 rfl) rfl rfl ?_
      refine g_iload_n (i := 3) (j := 3) (dk_La_law 573 rfl) rfl rfl ?_
      refine g_iconst (dk_La_law 574 rfl) (by decide) ?_
      refine g_iadd (dk_La_law 575 rfl) ?_
      obtain ⟨c313, h⟩ := p_gdE h
      refine g_scr he1 he2 (dk_La_law 576 rfl) c313.1 c313.2 ?_
      obtain ⟨c314, h⟩ := p_gdE h
      obtain ⟨r319, s315, q316, h⟩ := p_bdE h
      have t317 := tF_Mo_clear K l v2 (t9 ((p_w (v3 + 1)) : Int).toNat) s308 _ q316
      refine g_callV (a := v2) (ci := 11) (q0 := (RX11, TX11, 90)) (As := [p_i (t9 ((p_w (v3 + 1)) : Int).toNat)]) (rest := [p_i r312]) [p_i r319, p_i r312] mt_Mo_clear rfl rfl tw_8_12 tw_8_13 tw_8_11 ⟨Nat.le_of_ble_eq_true rfl, Nat.le_of_ble_eq_true rfl⟩ rfl (Nat.le_of_ble_eq_true rfl) (dk_La_law 577 rfl) rfl c314 rfl t317 ?_
      have hs318 : p_x s308 s315 := t317.1
      show p_Go K l m_La_law 920 [(0, p_s 9), (1, p_r v1), (2, p_r v2), (3, p_i v3)] [p_i r319, p_i r312] s315 _
      refine g_icmp_eq 1701 (dk_La_law 578 rfl) (by decide) (fun b320 => ?_) (fun b320 => ?_)
      · have h := p_ifT b320 h
        exact tB_La_law_1701 K l n9 t9 he1 he2 k18 hk18 v1 v2 v3 s315 _ h
      · have h := p_ifF b320 h
        refine g_iconst (dk_La_law 579 rfl) (by decide) ?_
        cases h
        exact g_ret rfl rfl (dk_La_law 580 rfl) (fun _ => ⟨_, rfl, Or.inl rfl⟩)
    rcases p_iteE h with ⟨b321, h⟩ | ⟨b321, h⟩
    · refine g_tableIn 925 (dk_La_law 21 rfl) (by omega) (by omega) (by rw [b321]; rfl) (by decide) ?_
      refine g_aload_n (i := 1) (j := 1) (dk_La_law 581 rfl) rfl rfl ?_
      refine g_aload_nS (i := 0) (j := 0) (dk_La_law 582 rfl) rfl rfl ?_
      refine g_iload_n (i := 3) (j := 3) (dk_La_law 583 rfl) rfl rfl ?_
      refine g_iconst (dk_La_law 584 rfl) (by decide) ?_
      refine g_iadd (dk_La_law 585 rfl) ?_
      obtain ⟨c322, h⟩ := p_gdE h
      refine g_scr he1 he2 (dk_La_law 586 rfl) c322.1 c322.2 ?_
      refine g_aload_nS (i := 0) (j := 0) (dk_La_law 587 rfl) rfl rfl ?_
      refine g_iload_n (i := 3) (j := 3) (dk_La_law 588 rfl) rfl rfl ?_
      refine g_iconst (dk_La_law 589 rfl) (by decide) ?_
      refine g_iadd (dk_La_law 590 rfl) ?_
      obtain ⟨c323, h⟩ := p_gdE h
      refine g_scr he1 he2 (dk_La_law 591 rfl) c323.1 c323.2 ?_
      obtain ⟨c324, h⟩ := p_gdE h
      obtain ⟨r329, s325, q326, h⟩ := p_bdE h
      have t327 := tF_SW_carry K l v1 (t9 ((p_w (v3 + 1)) : Int).toNat) (t9 ((p_w (v3 + 2)) : Int).toNat) s0 _ q326
      refine g_callV (a := v1) (ci := 10) (q0 := (RX10, TX10, 9)) (As := [p_i (t9 ((p_w (v3 + 1)) : Int).toNat), p_i (t9 ((p_w (v3 + 2)) : Int).toNat)]) (rest := []) [p_i r329] mt_SW_carry rfl rfl tw_4_92 tw_4_93 tw_4_91 ⟨Nat.le_of_ble_eq_true rfl, Nat.le_of_ble_eq_true rfl⟩ rfl (Nat.le_of_ble_eq_true rfl) (dk_La_law 592 rfl) rfl c324 rfl t327 ?_
      have hs328 : p_x s0 s325 := t327.1
      show p_Go K l m_La_law 939 [(0, p_s 9), (1, p_r v1), (2, p_r v2), (3, p_i v3)] [p_i r329] s325 _
      refine g_aload_n (i := 2) (j := 2) (dk_La_law 593 rfl) rfl rfl ?_
      refine g_aload_nS (i := 0) (j := 0) (dk_La_law 594 rfl) rfl rfl ?_
      refine g_iload_n (i := 3) (j := 3) (dk_La_law 595 rfl) rfl rfl ?_
      refine g_iconst (dk_La_law 596 rfl) (by decide) ?_
      refine g_iadd (dk_La_law 597 rfl) ?_
      obtain ⟨c330, h⟩ := p_gdE h
      refine g_scr he1 he2 (dk_La_law 598 rfl) c330.1 c330.2 ?_
      refine g_aload_nS (i := 0) (j := 0) (dk_La_law 599 rfl) rfl rfl ?_
      refine g_iload_n (i := 3) (j := 3) (dk_La_law 600 rfl) rfl rfl ?_
      refine g_iconst (dk_La_law 601 rfl) (by decide) ?_
      refine g_iadd (dk_La_law 602 rfl) ?_
      obtain ⟨c331, h⟩ := p_gdE h
      refine g_scr he1 he2 (dk_La_law 603 rfl) c331.1 c331.2 ?_
      obtain ⟨c332, h⟩ := p_gdE h
      obtain ⟨r337, s333, q334, h⟩ := p_bdE h
      have t335 := tF_Mo_carry K l v2 (t9 ((p_w (v3 + 1)) : Int).toNat) (t9 ((p_w (v3 + 2)) : Int).toNat) s325 _ q334
      refine g_callV (a := v2) (ci := 11) (q0 := (RX11, TX11, 90)) (As := [p_i (t9 ((p_w (v3 + 1)) : Int).toNat), p_i (t9 ((p_w (v3 + 2)) : Int).toNat)]) (rest := [p_i r329]) [p_i r337, p_i r329] mt_Mo_carry rfl rfl tw_8_24 tw_8_25 tw_8_23 ⟨Nat.le_of_ble_eq_true rfl, Nat.le_of_ble_eq_true rfl⟩ rfl (Nat.le_of_ble_eq_true rfl) (dk_La_law 604 rfl) rfl c332 rfl t335 ?_
      have hs336 : p_x s325 s333 := t335.1
      show p_Go K l m_La_law 953 [(0, p_s 9), (1, p_r v1), (2, p_r v2), (3, p_i v3)] [p_i r337, p_i r329] s333 _
      refine g_icmp_eq 1701 (dk_La_law 605 rfl) (by decide) (fun b338 => ?_) (fun b338 => ?_)
      · have h := p_ifT b338 h
        exact tB_La_law_1701 K l n9 t9 he1 he2 k18 hk18 v1 v2 v3 s333 _ h
      · have h := p_ifF b338 h
        refine g_iconst (dk_La_law 606 rfl) (by decide) ?_
        cases h
        exact g_ret rfl rfl (dk_La_law 607 rfl) (fun _ => ⟨_, rfl, Or.inl rfl⟩)
    rcases p_iteE h with ⟨b339, h⟩ | ⟨b339, h⟩
    · refine g_tableIn 958 (dk_La_law 21 rfl) (by omega) (by omega) (by rw [b339]; rfl) (by decide) ?_
      refine g_aload_n (i := 1) (j := 1) (dk_La_law 608 rfl) rfl rfl ?_
      refine g_aload_nS (i := 0) (j := 0) (dk_La_law 609 rfl) rfl rfl ?_
      refine g_iload_n (i := 3) (j := 3) (dk_La_law 610 rfl) rfl rfl ?_
      refine g_iconst (dk_La_law 611 rfl) (by decide) ?_
      refine g_iadd (dk_La_law 612 rfl) ?_
      obtain ⟨c340, h⟩ := p_gdE h
      refine g_scr he1 he2 (dk_La_law 613 rfl) c340.1 c340.2 ?_
      refine g_aload_nS (i := 0) (j := 0) (dk_La_law 614 rfl) rfl rfl ?_
      refine g_iload_n (i := 3) (j := 3) (dk_La_law 615 rfl) rfl rfl ?_
      refine g_iconst (dk_La_law 616 rfl) (by decide) ?_
      refine g_iadd (dk_La_law 617 rfl) ?_
      obtain ⟨c341, h⟩ := p_gdE h
      refine g_scr he1 he2 (dk_La_law 618 rfl) c341.1 c341.2 ?_
      refine g_aload_nS (i := 0) (j := 0) (dk_La_law 619 rfl) rfl rfl ?_
      refine g_iload_n (i := 3) (j := 3) (dk_La_law 620 rfl) rfl rfl ?_
      refine g_iconst (dk_La_law 621 rfl) (by decide) ?_
      refine g_iadd (dk_La_law 622 rfl) ?_
      obtain ⟨c342, h⟩ := p_gdE h
      refine g_scr he1 he2 (dk_La_law 623 rfl) c342.1 c342.2 ?_
      obtain ⟨c343, h⟩ := p_gdE h
      obtain ⟨r348, s344, q345, h⟩ := p_bdE h
      have t346 := tF_SW_group K l v1 (t9 ((p_w (v3 + 1)) : Int).toNat) (t9 ((p_w (v3 + 2)) : Int).toNat) (t9 ((p_w (v3 + 3)) : Int).toNat) s0 _ q345
      refine g_callV (a := v1) (ci := 10) (q0 := (RX10, TX10, 9)) (As := [p_i (t9 ((p_w (v3 + 1)) : Int).toNat), p_i (t9 ((p_w (v3 + 2)) : Int).toNat), p_i (t9 ((p_w (v3 + 3)) : Int).toNat)]) (rest := []) [p_i r348] mt_SW_group rfl rfl tw_4_100 tw_4_101 tw_4_99 ⟨Nat.le_of_ble_eq_true rfl, Nat.le_of_ble_eq_true rfl⟩ rfl (Nat.le_of_ble_eq_true rfl) (dk_La_law 624 rfl) rfl c343 rfl t346 ?_
      have hs347 : p_x s0 s344 := t346.1
      show p_Go K l m_La_law 977 [(0, p_s 9), (1, p_r v1), (2, p_r v2), (3, p_i v3)] [p_i r348] s344 _
      refine g_aload_n (i := 2) (j := 2) (dk_La_law 625 rfl) rfl rfl ?_
      refine g_aload_nS (i := 0) (j := 0) (dk_La_law 626 rfl) rfl rfl ?_
      refine g_iload_n (i := 3) (j := 3) (dk_La_law 627 rfl) rfl rfl ?_
      refine g_iconst (dk_La_law 628 rfl) (by decide) ?_
      refine g_iadd (dk_La_law 629 rfl) ?_
      obtain ⟨c349, h⟩ := p_gdE h
      refine g_scr he1 he2 (dk_La_law 630 rfl) c349.1 c349.2 ?_
      refine g_aload_nS (i := 0) (j := 0) (dk_La_law 631 rfl) rfl rfl ?_
      refine g_iload_n (i := 3) (j := 3) (dk_La_law 632 rfl) rfl rfl ?_
      refine g_iconst (dk_La_law 633 rfl) (by decide) ?_
      refine g_iadd (dk_La_law 634 rfl) ?_
      obtain ⟨c350, h⟩ := p_gdE h
      refine g_scr he1 he2 (dk_La_law 635 rfl) c350.1 c350.2 ?_
      refine g_aload_nS (i := 0) (j := 0) (dk_La_law 636 rfl) rfl rfl ?_
      refine g_iload_n (i := 3) (j := 3) (dk_La_law 637 rfl) rfl rfl ?_
      refine g_iconst (dk_La_law 638 rfl) (by decide) ?_
      refine g_iadd (dk_La_law 639 rfl) ?_
      obtain ⟨c351, h⟩ := p_gdE h
      refine g_scr he1 he2 (dk_La_law 640 rfl) c351.1 c351.2 ?_
      obtain ⟨c352, h⟩ := p_gdE h
      obtain ⟨r357, s353, q354, h⟩ := p_bdE h
      have t355 := tF_Mo_group K l v2 (t9 ((p_w (v3 + 1)) : Int).toNat) (t9 ((p_w (v3 + 2)) : Int).toNat) (t9 ((p_w (v3 + 3)) : Int).toNat) s344 _ q354
      refine g_callV (a := v2) (ci := 11) (q0 := (RX11, TX11, 90)) (As := [p_i (t9 ((p_w (v3 + 1)) : Int).toNat), p_i (t9 ((p_w (v3 + 2)) : Int).toNat), p_i (t9 ((p_w (v3 + 3)) : Int).toNat)]) (rest := [p_i r348]) [p_i r357, p_i r348] mt_Mo_group rfl rfl tw_8_28 tw_8_29 tw_8_27 ⟨Nat.le_of_ble_eq_true rfl, Nat.le_of_ble_eq_true rfl⟩ rfl (Nat.le_of_ble_eq_true rfl) (dk_La_law 641 rfl) rfl c352 rfl t355 ?_
      have hs356 : p_x s344 s353 := t355.1
      show p_Go K l m_La_law 996 [(0, p_s 9), (1, p_r v1), (2, p_r v2), (3, p_i v3)] [p_i r357, p_i r348] s353 _
      refine g_icmp_eq 1701 (dk_La_law 642 rfl) (by decide) (fun b358 => ?_) (fun b358 => ?_)
      · have h := p_ifT b358 h
        exact tB_La_law_1701 K l n9 t9 he1 he2 k18 hk18 v1 v2 v3 s353 _ h
      · have h := p_ifF b358 h
        refine g_iconst (dk_La_law 643 rfl) (by decide) ?_
        cases h
        exact g_ret rfl rfl (dk_La_law 644 rfl) (fun _ => ⟨_, rfl, Or.inl rfl⟩)
    rcases p_iteE h with ⟨b359, h⟩ | ⟨b359, h⟩
    · refine g_tableIn 1001 (dk_La_law 21 rfl) (by omega) (by omega) (by rw [b359]; rfl) (by decide) ?_
      refine g_aload_n (i := 1) (j := 1) (dk_La_law 645 rfl) rfl rfl ?_
      refine g_aload_nS (i := 0) (j := 0) (dk_La_law 646 rfl) rfl rfl ?_
      refine g_iload_n (i := 3) (j := 3) (dk_La_law 647 rfl) rfl rfl ?_
      refine g_iconst (dk_La_law 648 rfl) (by decide) ?_
      refine g_iadd (dk_La_law 649 rfl) ?_
      obtain ⟨c360, h⟩ := p_gdE h
      refine g_scr he1 he2 (dk_La_law 650 rfl) c360.1 c360.2 ?_
      refine g_aload_nS (i := 0) (j := 0) (dk_La_law 651 rfl) rfl rfl ?_
      refine g_iload_n (i := 3) (j := 3) (dk_La_law 652 rfl) rfl rfl ?_
      refine g_iconst (dk_La_law 653 rfl) (by decide) ?_
      refine g_iadd (dk_La_law 654 rfl) ?_
      obtain ⟨c361, h⟩ := p_gdE h
      refine g_scr he1 he2 (dk_La_law 655 rfl) c361.1 c361.2 ?_
      refine g_aload_nS (i := 0) (j := 0) (dk_La_law 656 rfl) rfl rfl ?_
      refine g_iload_n (i := 3) (j := 3) (dk_La_law 657 rfl) rfl rfl ?_
      refine g_iconst (dk_La_law 658 rfl) (by decide) ?_
      refine g_iadd (dk_La_law 659 rfl) ?_
      obtain ⟨c362, h⟩ := p_gdE h
      refine g_scr he1 he2 (dk_La_law 660 rfl) c362.1 c362.2 ?_
      obtain ⟨c363, h⟩ := p_gdE h
      obtain ⟨r368, s364, q365, h⟩ := p_bdE h
      have t366 := tF_SW_enter K l v1 (t9 ((p_w (v3 + 1)) : Int).toNat) (t9 ((p_w (v3 + 2)) : Int).toNat) (t9 ((p_w (v3 + 3)) : Int).toNat) s0 _ q365
      refine g_callV (a := v1) (ci := 10) (q0 := (RX10, TX10, 9)) (As := [p_i (t9 ((p_w (v3 + 1)) : Int).toNat), p_i (t9 ((p_w (v3 + 2)) : Int).toNat), p_i (t9 ((p_w (v3 + 3)) : Int).toNat)]) (rest := []) [p_i r368] mt_SW_enter rfl rfl tw_4_107 tw_4_108 tw_4_106 ⟨Nat.le_of_ble_eq_true rfl, Nat.le_of_ble_eq_true rfl⟩ rfl (Nat.le_of_ble_eq_true rfl) (dk_La_law 661 rfl) rfl c363 rfl t366 ?_
      have hs367 : p_x s0 s364 := t366.1
      show p_Go K l m_La_law 1020 [(0, p_s 9), (1, p_r v1), (2, p_r v2), (3, p_i v3)] [p_i r368] s364 _
      refine g_aload_n (i := 2) (j := 2) (dk_La_law 662 rfl) rfl rfl ?_
      refine g_aload_nS (i := 0) (j := 0) (dk_La_law 663 rfl) rfl rfl ?_
      refine g_iload_n (i := 3) (j := 3) (dk_La_law 664 rfl) rfl rfl ?_
      refine g_iconst (dk_La_law 665 rfl) (by decide) ?_
      refine g_iadd (dk_La_law 666 rfl) ?_
      obtain ⟨c369, h⟩ := p_gdE h
      refine g_scr he1 he2 (dk_La_law 667 rfl) c369.1 c369.2 ?_
      refine g_aload_nS (i := 0) (j := 0) (dk_La_law 668 rfl) rfl rfl ?_
      refine g_iload_n (i := 3) (j := 3) (dk_La_law 669 rfl) rfl rfl ?_
      refine g_iconst (dk_La_law 670 rfl) (by decide) ?_
      refine g_iadd (dk_La_law 671 rfl) ?_
      obtain ⟨c370, h⟩ := p_gdE h
      refine g_scr he1 he2 (dk_La_law 672 rfl) c370.1 c370.2 ?_
      refine g_aload_nS (i := 0) (j := 0) (dk_La_law 673 rfl) rfl rfl ?_
      refine g_iload_n (i := 3) (j := 3) (dk_La_law 674 rfl) rfl rfl ?_
      refine g_iconst (dk_La_law 675 rfl) (by decide) ?_
      refine g_iadd (dk_La_law 676 rfl) ?_
      obtain ⟨c371, h⟩ := p_gdE h
      refine g_scr he1 he2 (dk_La_law 677 rfl) c371.1 c371.2 ?_
      obtain ⟨c372, h⟩ := p_gdE h
      obtain ⟨r377, s373, q374, h⟩ := p_bdE h
      have t375 := tF_Mo_enter K l v2 (t9 ((p_w (v3 + 1)) : Int).toNat) (t9 ((p_w (v3 + 2)) : Int).toNat) (t9 ((p_w (v3 + 3)) : Int).toNat) s364 _ q374
      refine g_callV (a := v2) (ci := 11) (q0 := (RX11, TX11, 90)) (As := [p_i (t9 ((p_w (v3 + 1)) : Int).toNat), p_i (t9 ((p_w (v3 + 2)) : Int).toNat), p_i (t9 ((p_w (v3 + 3)) : Int).toNat)]) (rest := [p_i r368]) [p_i r377, p_i r368] mt_Mo_enter rfl rfl tw_8_33 tw_8_34 tw_8_32 ⟨Nat.le_of_ble_eq_true rfl, Nat.le_of_ble_eq_true rfl⟩ rfl (Nat.le_of_ble_eq_true rfl) (dk_La_law 678 rfl) rfl c372 rfl t375 ?_
      have hs376 : p_x s364 s373 := t375.1
      show p_Go K l m_La_law 1039 [(0, p_s 9), (1, p_r v1), (2, p_r v2), (3, p_i v3)] [p_i r377, p_i r368] s373 _
      refine g_icmp_eq 1701 (dk_La_law 679 rfl) (by decide) (fun b378 => ?_) (fun b378 => ?_)
      · have h := p_ifT b378 h
        exact tB_La_law_1701 K l n9 t9 he1 he2 k18 hk18 v1 v2 v3 s373 _ h
      · have h := p_ifF b378 h
        refine g_iconst (dk_La_law 680 rfl) (by decide) ?_
        cases h
        exact g_ret rfl rfl (dk_La_law 681 rfl) (fun _ => ⟨_, rfl, Or.inl rfl⟩)
    rcases p_iteE h with ⟨b379, h⟩ | ⟨b379, h⟩
    · refine g_tableIn 1044 (dk_La_law 21 rfl) (by omega) (by omega) (by rw [b379]; rfl) (by decide) ?_
      refine g_aload_n (i := 1) (j := 1) (dk_La_law 682 rfl) rfl rfl ?_
      refine g_aload_nS (i := 0) (j := 0) (dk_La_law 683 rfl) rfl rfl ?_
      refine g_iload_n (i := 3) (j := 3) (dk_La_law 684 rfl) rfl rfl ?_
      refine g_iconst (dk_La_law 685 rfl) (by decide) ?_
      refine g_iadd (dk_La_law 686 rfl) ?_
      obtain ⟨c380, h⟩ := p_gdE h
      refine g_scr he1 he2 (dk_La_law 687 rfl) c380.1 c380.2 ?_
      refine g_aload_nS (i := 0) (j := 0) (dk_La_law 688 rfl) rfl rfl ?_
      refine g_iload_n (i := 3) (j := 3) (dk_La_law 689 rfl) rfl rfl ?_
      refine g_iconst (dk_La_law 690 rfl) (by decide) ?_
      refine g_iadd (dk_La_law 691 rfl) ?_
      obtain ⟨c381, h⟩ := p_gdE h
      refine g_scr he1 he2 (dk_La_law 692 rfl) c381.1 c381.2 ?_
      obtain ⟨c382, h⟩ := p_gdE h
      obtain ⟨r387, s383, q384, h⟩ := p_bdE h
      have t385 := tF_SW_tally K l v1 (t9 ((p_w (v3 + 1)) : Int).toNat) (t9 ((p_w (v3 + 2)) : Int).toNat) s0 _ q384
      refine g_callV (a := v1) (ci := 10) (q0 := (RX10, TX10, 9)) (As := [p_i (t9 ((p_w (v3 + 1)) : Int).toNat), p_i (t9 ((p_w (v3 + 2)) : Int).toNat)]) (rest := []) [p_i r387] mt_SW_tally rfl rfl tw_4_124 tw_4_125 tw_4_123 ⟨Nat.le_of_ble_eq_true rfl, Nat.le_of_ble_eq_true rfl⟩ rfl (Nat.le_of_ble_eq_true rfl) (dk_La_law 693 rfl) rfl c382 rfl t385 ?_
      have hs386 : p_x s0 s383 := t385.1
      show p_Go K l m_La_law 1058 [(0, p_s 9), (1, p_r v1), (2, p_r v2), (3, p_i v3)] [p_i r387] s383 _
      refine g_aload_n (i := 2) (j := 2) (dk_La_law 694 rfl) rfl rfl ?_
      refine g_aload_nS (i := 0) (j := 0) (dk_La_law 695 rfl) rfl rfl ?_
      refine g_iload_n (i := 3) (j := 3) (dk_La_law 696 rfl) rfl rfl ?_
      refine g_iconst (dk_La_law 697 rfl) (by decide) ?_
      refine g_iadd (dk_La_law 698 rfl) ?_
      obtain ⟨c388, h⟩ := p_gdE h
      refine g_scr he1 he2 (dk_La_law 699 rfl) c388.1 c388.2 ?_
      refine g_aload_nS (i := 0) (j := 0) (dk_La_law 700 rfl) rfl rfl ?_
      refine g_iload_n (i := 3) (j := 3) (dk_La_law 701 rfl) rfl rfl ?_
      refine g_iconst (dk_La_law 702 rfl) (by decide) ?_
      refine g_iadd (dk_La_law 703 rfl) ?_
      obtain ⟨c389, h⟩ := p_gdE h
      refine g_scr he1 he2 (dk_La_law 704 rfl) c389.1 c389.2 ?_
      obtain ⟨c390, h⟩ := p_gdE h
      obtain ⟨r395, s391, q392, h⟩ := p_bdE h
      have t393 := tF_Mo_tally K l v2 (t9 ((p_w (v3 + 1)) : Int).toNat) (t9 ((p_w (v3 + 2)) : Int).toNat) s383 _ q392
      refine g_callV (a := v2) (ci := 11) (q0 := (RX11, TX11, 90)) (As := [p_i (t9 ((p_w (v3 + 1)) : Int).toNat), p_i (t9 ((p_w (v3 + 2)) : Int).toNat)]) (rest := [p_i r387]) [p_i r395, p_i r387] mt_Mo_tally rfl rfl tw_8_40 tw_8_41 tw_8_39 ⟨Nat.le_of_ble_eq_true rfl, Nat.le_of_ble_eq_true rfl⟩ rfl (Nat.le_of_ble_eq_true rfl) (dk_La_law 705 rfl) rfl c390 rfl t393 ?_
      have hs394 : p_x s383 s391 := t393.1
      show p_Go K l m_La_law 1072 [(0, p_s 9), (1, p_r v1), (2, p_r v2), (3, p_i v3)] [p_i r395, p_i r387] s391 _
      refine g_icmp_eq 1701 (dk_La_law 706 rfl) (by decide) (fun b396 => ?_) (fun b396 => ?_)
      · have h := p_ifT b396 h
        exact tB_La_law_1701 K l n9 t9 he1 he2 k18 hk18 v1 v2 v3 s391 _ h
      · have h := p_ifF b396 h
        refine g_iconst (dk_La_law 707 rfl) (by decide) ?_
        cases h
        exact g_ret rfl rfl (dk_La_law 708 rfl) (fun _ => ⟨_, rfl, Or.inl rfl⟩)
    rcases p_iteE h with ⟨b397, h⟩ | ⟨b397, h⟩
    · refine g_tableIn 1077 (dk_La_law 21 rfl) (by omega) (by omega) (by rw [b397]; rfl) (by decide) ?_
      refine g_aload_n (i := 1) (j := 1) (dk_La_law 709 rfl) rfl rfl ?_
      obtain ⟨c398, h⟩ := p_gdE h
      obtain ⟨r403, s399, q400, h⟩ := p_bdE h
      have t401 := tF_SW_step K l v1 s0 _ q400
      refine g_callV (a := v1) (ci := 10) (q0 := (RX10, TX10, 9)) (As := []) (rest := []) [p_i r403] mt_SW_step rfl rfl tw_4_128 tw_4_129 tw_4_127 ⟨Nat.le_of_ble_eq_true rfl, Nat.le_of_ble_eq_true rfl⟩ rfl (Nat.le_of_ble_eq_true rfl) (dk_La_law 710 rfl) rfl c398 rfl t401 ?_
      have hs402 : p_x s0 s399 := t401.1
      show p_Go K l m_La_law 1081 [(0, p_s 9), (1, p_r v1), (2, p_r v2), (3, p_i v3)] [p_i r403] s399 _
      refine g_aload_n (i := 2) (j := 2) (dk_La_law 711 rfl) rfl rfl ?_
      obtain ⟨c404, h⟩ := p_gdE h
      obtain ⟨r409, s405, q406, h⟩ := p_bdE h
      have t407 := tF_Mo_step K l v2 s399 _ q406
      refine g_callV (a := v2) (ci := 11) (q0 := (RX11, TX11, 90)) (As := []) (rest := [p_i r403]) [p_i r409, p_i r403] mt_Mo_step rfl rfl tw_8_44 tw_8_45 tw_8_43 ⟨Nat.le_of_ble_eq_true rfl, Nat.le_of_ble_eq_true rfl⟩ rfl (Nat.le_of_ble_eq_true rfl) (dk_La_law 712 rfl) rfl c404 rfl t407 ?_
      have hs408 : p_x s399 s405 := t407.1
      show p_Go K l m_La_law 1085 [(0, p_s 9), (1, p_r v1), (2, p_r v2), (3, p_i v3)] [p_i r409, p_i r403] s405 _
      refine g_icmp_eq 1701 (dk_La_law 713 rfl) (by decide) (fun b410 => ?_) (fun b410 => ?_)
      · have h := p_ifT b410 h
        exact tB_La_law_1701 K l n9 t9 he1 he2 k18 hk18 v1 v2 v3 s405 _ h
      · have h := p_ifF b410 h
        refine g_iconst (dk_La_law 714 rfl) (by decide) ?_
        cases h
        exact g_ret rfl rfl (dk_La_law 715 rfl) (fun _ => ⟨_, rfl, Or.inl rfl⟩)
    rcases p_iteE h with ⟨b411, h⟩ | ⟨b411, h⟩
    · refine g_tableIn 1090 (dk_La_law 21 rfl) (by omega) (by omega) (by rw [b411]; rfl) (by decide) ?_
      refine g_aload_n (i := 1) (j := 1) (dk_La_law 716 rfl) rfl rfl ?_
      refine g_aload_nS (i := 0) (j := 0) (dk_La_law 717 rfl) rfl rfl ?_
      refine g_iload_n (i := 3) (j := 3) (dk_La_law 718 rfl) rfl rfl ?_
      refine g_iconst (dk_La_law 719 rfl) (by decide) ?_
      refine g_iadd (dk_La_law 720 rfl) ?_
      obtain ⟨c412, h⟩ := p_gdE h
      refine g_scr he1 he2 (dk_La_law 721 rfl) c412.1 c412.2 ?_
      refine g_aload_nS (i := 0) (j := 0) (dk_La_law 722 rfl) rfl rfl ?_
      refine g_iload_n (i := 3) (j := 3) (dk_La_law 723 rfl) rfl rfl ?_
      refine g_iconst (dk_La_law 724 rfl) (by decide) ?_
      refine g_iadd (dk_La_law 725 rfl) ?_
      obtain ⟨c413, h⟩ := p_gdE h
      refine g_scr he1 he2 (dk_La_law 726 rfl) c413.1 c413.2 ?_
      obtain ⟨c414, h⟩ := p_gdE h
      obtain ⟨r419, s415, q416, h⟩ := p_bdE h
      have t417 := tF_SW_night K l v1 (t9 ((p_w (v3 + 1)) : Int).toNat) (t9 ((p_w (v3 + 2)) : Int).toNat) s0 _ q416
      refine g_callV (a := v1) (ci := 10) (q0 := (RX10, TX10, 9)) (As := [p_i (t9 ((p_w (v3 + 1)) : Int).toNat), p_i (t9 ((p_w (v3 + 2)) : Int).toNat)]) (rest := []) [p_i r419] mt_SW_night rfl rfl tw_5_81 tw_5_82 tw_5_80 ⟨Nat.le_of_ble_eq_true rfl, Nat.le_of_ble_eq_true rfl⟩ rfl (Nat.le_of_ble_eq_true rfl) (dk_La_law 727 rfl) rfl c414 rfl t417 ?_
      have hs418 : p_x s0 s415 := t417.1
      show p_Go K l m_La_law 1104 [(0, p_s 9), (1, p_r v1), (2, p_r v2), (3, p_i v3)] [p_i r419] s415 _
      refine g_aload_n (i := 2) (j := 2) (dk_La_law 728 rfl) rfl rfl ?_
      refine g_aload_nS (i := 0) (j := 0) (dk_La_law 729 rfl) rfl rfl ?_
      refine g_iload_n (i := 3) (j := 3) (dk_La_law 730 rfl) rfl rfl ?_
      refine g_iconst (dk_La_law 731 rfl) (by decide) ?_
      refine g_iadd (dk_La_law 732 rfl) ?_
      obtain ⟨c420, h⟩ := p_gdE h
      refine g_scr he1 he2 (dk_La_law 733 rfl) c420.1 c420.2 ?_
      refine g_aload_nS (i := 0) (j := 0) (dk_La_law 734 rfl) rfl rfl ?_
      refine g_iload_n (i := 3) (j := 3) (dk_La_law 735 rfl) rfl rfl ?_
      refine g_iconst (dk_La_law 736 rfl) (by decide) ?_
      refine g_iadd (dk_La_law 737 rfl) ?_
      obtain ⟨c421, h⟩ := p_gdE h
      refine g_scr he1 he2 (dk_La_law 738 rfl) c421.1 c421.2 ?_
      obtain ⟨c422, h⟩ := p_gdE h
      obtain ⟨r427, s423, q424, h⟩ := p_bdE h
      have t425 := tF_Mo_night K l v2 (t9 ((p_w (v3 + 1)) : Int).toNat) (t9 ((p_w (v3 + 2)) : Int).toNat) s415 _ q424
      refine g_callV (a := v2) (ci := 11) (q0 := (RX11, TX11, 90)) (As := [p_i (t9 ((p_w (v3 + 1)) : Int).toNat), p_i (t9 ((p_w (v3 + 2)) : Int).toNat)]) (rest := [p_i r419]) [p_i r427, p_i r419] mt_Mo_night rfl rfl tw_8_179 tw_8_180 tw_8_178 ⟨Nat.le_of_ble_eq_true rfl, Nat.le_of_ble_eq_true rfl⟩ rfl (Nat.le_of_ble_eq_true rfl) (dk_La_law 739 rfl) rfl c422 rfl t425 ?_
      have hs426 : p_x s415 s423 := t425.1
      show p_Go K l m_La_law 1118 [(0, p_s 9), (1, p_r v1), (2, p_r v2), (3, p_i v3)] [p_i r427, p_i r419] s423 _
      refine g_icmp_eq 1701 (dk_La_law 740 rfl) (by decide) (fun b428 => ?_) (fun b428 => ?_)
      · have h := p_ifT b428 h
        exact tB_La_law_1701 K l n9 t9 he1 he2 k18 hk18 v1 v2 v3 s423 _ h
      · have h := p_ifF b428 h
        refine g_iconst (dk_La_law 741 rfl) (by decide) ?_
        cases h
        exact g_ret rfl rfl (dk_La_law 742 rfl) (fun _ => ⟨_, rfl, Or.inl rfl⟩)
    rcases p_iteE h with ⟨b429, h⟩ | ⟨b429, h⟩
    · refine g_tableIn 1123 (dk_La_law 21 rfl) (by omega) (by omega) (by rw [b429]; rfl) (by decide) ?_
      refine g_aload_n (i := 1) (j := 1) (dk_La_law 743 rfl) rfl rfl ?_
      refine g_aload_nS (i := 0) (j := 0) (dk_La_law 744 rfl) rfl rfl ?_
      refine g_iload_n (i := 3) (j := 3) (dk_La_law 745 rfl) rfl rfl ?_
      refine g_iconst (dk_La_law 746 rfl) (by decide) ?_
      refine g_iadd (dk_La_law 747 rfl) ?_
      obtain ⟨c430, h⟩ := p_gdE h
      refine g_scr he1 he2 (dk_La_law 748 rfl) c430.1 c430.2 ?_
      obtain ⟨c431, h⟩ := p_gdE h
      obtain ⟨r436, s432, q433, h⟩ := p_bdE h
      have t434 := tF_SW_back K l v1 (t9 ((p_w (v3 + 1)) : Int).toNat) s0 _ q433
      refine g_callV (a := v1) (ci := 10) (q0 := (RX10, TX10, 9)) (As := [p_i (t9 ((p_w (v3 + 1)) : Int).toNat)]) (rest := []) [p_i r436] mt_SW_back rfl rfl tw_5_101 tw_5_102 tw_5_100 ⟨Nat.le_of_ble_eq_true rfl, Nat.le_of_ble_eq_true rfl⟩ rfl (Nat.le_of_ble_eq_true rfl) (dk_La_law 749 rfl) rfl c431 rfl t434 ?_
      have hs435 : p_x s0 s432 := t434.1
      show p_Go K l m_La_law 1132 [(0, p_s 9), (1, p_r v1), (2, p_r v2), (3, p_i v3)] [p_i r436] s432 _
      refine g_aload_n (i := 2) (j := 2) (dk_La_law 750 rfl) rfl rfl ?_
      refine g_aload_nS (i := 0) (j := 0) (dk_La_law 751 rfl) rfl rfl ?_
      refine g_iload_n (i := 3) (j := 3) (dk_La_law 752 rfl) rfl rfl ?_
      refine g_iconst (dk_La_law 753 rfl) (by decide) ?_
      refine g_iadd (dk_La_law 754 rfl) ?_
      obtain ⟨c437, h⟩ := p_gdE h
      refine g_scr he1 he2 (dk_La_law 755 rfl) c437.1 c437.2 ?_
      obtain ⟨c438, h⟩ := p_gdE h
      obtain ⟨r443, s439, q440, h⟩ := p_bdE h
      have t441 := tF_Mo_back K l v2 (t9 ((p_w (v3 + 1)) : Int).toNat) s432 _ q440
      refine g_callV (a := v2) (ci := 11) (q0 := (RX11, TX11, 90)) (As := [p_i (t9 ((p_w (v3 + 1)) : Int).toNat)]) (rest := [p_i r436]) [p_i r443, p_i r436] mt_Mo_back rfl rfl tw_8_188 tw_8_189 tw_8_187 ⟨Nat.le_of_ble_eq_true rfl, Nat.le_of_ble_eq_true rfl⟩ rfl (Nat.le_of_ble_eq_true rfl) (dk_La_law 756 rfl) rfl c438 rfl t441 ?_
      have hs442 : p_x s432 s439 := t441.1
      show p_Go K l m_La_law 1141 [(0, p_s 9), (1, p_r v1), (2, p_r v2), (3, p_i v3)] [p_i r443, p_i r436] s439 _
      refine g_icmp_eq 1701 (dk_La_law 757 rfl) (by decide) (fun b444 => ?_) (fun b444 => ?_)
      · have h := p_ifT b444 h
        exact tB_La_law_1701 K l n9 t9 he1 he2 k18 hk18 v1 v2 v3 s439 _ h
      · have h := p_ifF b444 h
        refine g_iconst (dk_La_law 758 rfl) (by decide) ?_
        cases h
        exact g_ret rfl rfl (dk_La_law 759 rfl) (fun _ => ⟨_, rfl, Or.inl rfl⟩)
    rcases p_iteE h with ⟨b445, h⟩ | ⟨b445, h⟩
    · refine g_tableIn 1146 (dk_La_law 21 rfl) (by omega) (by omega) (by rw [b445]; rfl) (by decide) ?_
      refine g_aload_n (i := 1) (j := 1) (dk_La_law 760 rfl) rfl rfl ?_
      obtain ⟨c446, h⟩ := p_gdE h
      obtain ⟨r451, s447, q448, h⟩ := p_bdE h
      have t449 := tF_SW_status K l v1 s0 _ q448
      refine g_callV (a := v1) (ci := 10) (q0 := (RX10, TX10, 9)) (As := []) (rest := []) [p_i r451] mt_SW_status rfl rfl tw_5_133 tw_5_134 tw_5_132 ⟨Nat.le_of_ble_eq_true rfl, Nat.le_of_ble_eq_true rfl⟩ rfl (Nat.le_of_ble_eq_true rfl) (dk_La_law 761 rfl) rfl c446 rfl t449 ?_
      have hs450 : p_x s0 s447 := t449.1
      show p_Go K l m_La_law 1150 [(0, p_s 9), (1, p_r v1), (2, p_r v2), (3, p_i v3)] [p_i r451] s447 _
      refine g_aload_n (i := 2) (j := 2) (dk_La_law 762 rfl) rfl rfl ?_
      obtain ⟨c452, h⟩ := p_gdE h
      obtain ⟨r457, s453, q454, h⟩ := p_bdE h
      have t455 := tF_Mo_status K l v2 s447 _ q454
      refine g_callV (a := v2) (ci := 11) (q0 := (RX11, TX11, 90)) (As := []) (rest := [p_i r451]) [p_i r457, p_i r451] mt_Mo_status rfl rfl tw_8_193 tw_8_194 tw_8_192 ⟨Nat.le_of_ble_eq_true rfl, Nat.le_of_ble_eq_true rfl⟩ rfl (Nat.le_of_ble_eq_true rfl) (dk_La_law 763 rfl) rfl c452 rfl t455 ?_
      have hs456 : p_x s447 s453 := t455.1
      show p_Go K l m_La_law 1154 [(0, p_s 9), (1, p_r v1), (2, p_r v2), (3, p_i v3)] [p_i r457, p_i r451] s453 _
      refine g_icmp_eq 1701 (dk_La_law 764 rfl) (by decide) (fun b458 => ?_) (fun b458 => ?_)
      · have h := p_ifT b458 h
        exact tB_La_law_1701 K l n9 t9 he1 he2 k18 hk18 v1 v2 v3 s453 _ h
      · have h := p_ifF b458 h
        refine g_iconst (dk_La_law 765 rfl) (by decide) ?_
        cases h
        exact g_ret rfl rfl (dk_La_law 766 rfl) (fun _ => ⟨_, rfl, Or.inl rfl⟩)
    rcases p_iteE h with ⟨b459, h⟩ | ⟨b459, h⟩
    · refine g_tableIn 1159 (dk_La_law 21 rfl) (by omega) (by omega) (by rw [b459]; rfl) (by decide) ?_
      refine g_aload_n (i := 1) (j := 1) (dk_La_law 767 rfl) rfl rfl ?_
      refine g_aload_nS (i := 0) (j := 0) (dk_La_law 768 rfl) rfl rfl ?_
      refine g_iload_n (i := 3) (j := 3) (dk_La_law 769 rfl) rfl rfl ?_
      refine g_iconst (dk_La_law 770 rfl) (by decide) ?_
      refine g_iadd (dk_La_law 771 rfl) ?_
      obtain ⟨c460, h⟩ := p_gdE h
      refine g_scr he1 he2 (dk_La_law 772 rfl) c460.1 c460.2 ?_
      refine g_aload_nS (i := 0) (j := 0) (dk_La_law 773 rfl) rfl rfl ?_
      refine g_iload_n (i := 3) (j := 3) (dk_La_law 774 rfl) rfl rfl ?_
      refine g_iconst (dk_La_law 775 rfl) (by decide) ?_
      refine g_iadd (dk_La_law 776 rfl) ?_
      obtain ⟨c461, h⟩ := p_gdE h
      refine g_scr he1 he2 (dk_La_law 777 rfl) c461.1 c461.2 ?_
      obtain ⟨c462, h⟩ := p_gdE h
      obtain ⟨r467, s463, q464, h⟩ := p_bdE h
      have t465 := tF_SW_told K l v1 (t9 ((p_w (v3 + 1)) : Int).toNat) (t9 ((p_w (v3 + 2)) : Int).toNat) s0 _ q464
      refine g_callV (a := v1) (ci := 10) (q0 := (RX10, TX10, 9)) (As := [p_i (t9 ((p_w (v3 + 1)) : Int).toNat), p_i (t9 ((p_w (v3 + 2)) : Int).toNat)]) (rest := []) [p_i r467] mt_SW_told rfl rfl tw_5_137 tw_5_138 tw_5_136 ⟨Nat.le_of_ble_eq_true rfl, Nat.le_of_ble_eq_true rfl⟩ rfl (Nat.le_of_ble_eq_true rfl) (dk_La_law 778 rfl) rfl c462 rfl t465 ?_
      have hs466 : p_x s0 s463 := t465.1
      show p_Go K l m_La_law 1173 [(0, p_s 9), (1, p_r v1), (2, p_r v2), (3, p_i v3)] [p_i r467] s463 _
      refine g_aload_n (i := 2) (j := 2) (dk_La_law 779 rfl) rfl rfl ?_
      refine g_aload_nS (i := 0) (j := 0) (dk_La_law 780 rfl) rfl rfl ?_
      refine g_iload_n (i := 3) (j := 3) (dk_La_law 781 rfl) rfl rfl ?_
      refine g_iconst (dk_La_law 782 rfl) (by decide) ?_
      refine g_iadd (dk_La_law 783 rfl) ?_
      obtain ⟨c468, h⟩ := p_gdE h
      refine g_scr he1 he2 (dk_La_law 784 rfl) c468.1 c468.2 ?_
      refine g_aload_nS (i := 0) (j := 0) (dk_La_law 785 rfl) rfl rfl ?_
      refine g_iload_n (i := 3) (j := 3) (dk_La_law 786 rfl) rfl rfl ?_
      refine g_iconst (dk_La_law 787 rfl) (by decide) ?_
      refine g_iadd (dk_La_law 788 rfl) ?_
      obtain ⟨c469, h⟩ := p_gdE h
      refine g_scr he1 he2 (dk_La_law 789 rfl) c469.1 c469.2 ?_
      obtain ⟨c470, h⟩ := p_gdE h
      obtain ⟨r475, s471, q472, h⟩ := p_bdE h
      have t473 := tF_Mo_told K l v2 (t9 ((p_w (v3 + 1)) : Int).toNat) (t9 ((p_w (v3 + 2)) : Int).toNat) s463 _ q472
      refine g_callV (a := v2) (ci := 11) (q0 := (RX11, TX11, 90)) (As := [p_i (t9 ((p_w (v3 + 1)) : Int).toNat), p_i (t9 ((p_w (v3 + 2)) : Int).toNat)]) (rest := [p_i r467]) [p_i r475, p_i r467] mt_Mo_told rfl rfl tw_8_197 tw_8_198 tw_8_196 ⟨Nat.le_of_ble_eq_true rfl, Nat.le_of_ble_eq_true rfl⟩ rfl (Nat.le_of_ble_eq_true rfl) (dk_La_law 790 rfl) rfl c470 rfl t473 ?_
      have hs474 : p_x s463 s471 := t473.1
      show p_Go K l m_La_law 1187 [(0, p_s 9), (1, p_r v1), (2, p_r v2), (3, p_i v3)] [p_i r475, p_i r467] s471 _
      refine g_icmp_eq 1701 (dk_La_law 791 rfl) (by decide) (fun b476 => ?_) (fun b476 => ?_)
      · have h := p_ifT b476 h
        exact tB_La_law_1701 K l n9 t9 he1 he2 k18 hk18 v1 v2 v3 s471 _ h
      · have h := p_ifF b476 h
        refine g_iconst (dk_La_law 792 rfl) (by decide) ?_
        cases h
        exact g_ret rfl rfl (dk_La_law 793 rfl) (fun _ => ⟨_, rfl, Or.inl rfl⟩)
    rcases p_iteE h with ⟨b477, h⟩ | ⟨b477, h⟩
    · refine g_tableIn 1192 (dk_La_law 21 rfl) (by omega) (by omega) (by rw [b477]; rfl) (by decide) ?_
      refine g_aload_n (i := 1) (j := 1) (dk_La_law 794 rfl) rfl rfl ?_
      refine g_aload_nS (i := 0) (j := 0) (dk_La_law 795 rfl) rfl rfl ?_
      refine g_iload_n (i := 3) (j := 3) (dk_La_law 796 rfl) rfl rfl ?_
      refine g_iconst (dk_La_law 797 rfl) (by decide) ?_
      refine g_iadd (dk_La_law 798 rfl) ?_
      obtain ⟨c478, h⟩ := p_gdE h
      refine g_scr he1 he2 (dk_La_law 799 rfl) c478.1 c478.2 ?_
      refine g_aload_nS (i := 0) (j := 0) (dk_La_law 800 rfl) rfl rfl ?_
      refine g_iload_n (i := 3) (j := 3) (dk_La_law 801 rfl) rfl rfl ?_
      refine g_iconst (dk_La_law 802 rfl) (by decide) ?_
      refine g_iadd (dk_La_law 803 rfl) ?_
      obtain ⟨c479, h⟩ := p_gdE h
      refine g_scr he1 he2 (dk_La_law 804 rfl) c479.1 c479.2 ?_
      obtain ⟨c480, h⟩ := p_gdE h
      obtain ⟨r485, s481, q482, h⟩ := p_bdE h
      have t483 := tF_SW_slot K l v1 (t9 ((p_w (v3 + 1)) : Int).toNat) (t9 ((p_w (v3 + 2)) : Int).toNat) s0 _ q482
      refine g_callV (a := v1) (ci := 10) (q0 := (RX10, TX10, 9)) (As := [p_i (t9 ((p_w (v3 + 1)) : Int).toNat), p_i (t9 ((p_w (v3 + 2)) : Int).toNat)]) (rest := []) [p_i r485] mt_SW_slot rfl rfl tw_5_147 tw_5_148 tw_5_146 ⟨Nat.le_of_ble_eq_true rfl, Nat.le_of_ble_eq_true rfl⟩ rfl (Nat.le_of_ble_eq_true rfl) (dk_La_law 805 rfl) rfl c480 rfl t483 ?_
      have hs484 : p_x s0 s481 := t483.1
      show p_Go K l m_La_law 1206 [(0, p_s 9), (1, p_r v1), (2, p_r v2), (3, p_i v3)] [p_i r485] s481 _
      refine g_aload_n (i := 2) (j := 2) (dk_La_law 806 rfl) rfl rfl ?_
      refine g_aload_nS (i := 0) (j := 0) (dk_La_law 807 rfl) rfl rfl ?_
      refine g_iload_n (i := 3) (j := 3) (dk_La_law 808 rfl) rfl rfl ?_
      refine g_iconst (dk_La_law 809 rfl) (by decide) ?_
      refine g_iadd (dk_La_law 810 rfl) ?_
      obtain ⟨c486, h⟩ := p_gdE h
      refine g_scr he1 he2 (dk_La_law 811 rfl) c486.1 c486.2 ?_
      refine g_aload_nS (i := 0) (j := 0) (dk_La_law 812 rfl) rfl rfl ?_
      refine g_iload_n (i := 3) (j := 3) (dk_La_law 813 rfl) rfl rfl ?_
      refine g_iconst (dk_La_law 814 rfl) (by decide) ?_
      refine g_iadd (dk_La_law 815 rfl) ?_
      obtain ⟨c487, h⟩ := p_gdE h
      refine g_scr he1 he2 (dk_La_law 816 rfl) c487.1 c487.2 ?_
      obtain ⟨c488, h⟩ := p_gdE h
      obtain ⟨r493, s489, q490, h⟩ := p_bdE h
      have t491 := tF_Mo_slot K l v2 (t9 ((p_w (v3 + 1)) : Int).toNat) (t9 ((p_w (v3 + 2)) : Int).toNat) s481 _ q490
      refine g_callV (a := v2) (ci := 11) (q0 := (RX11, TX11, 90)) (As := [p_i (t9 ((p_w (v3 + 1)) : Int).toNat), p_i (t9 ((p_w (v3 + 2)) : Int).toNat)]) (rest := [p_i r485]) [p_i r493, p_i r485] mt_Mo_slot rfl rfl tw_8_205 tw_8_206 tw_8_204 ⟨Nat.le_of_ble_eq_true rfl, Nat.le_of_ble_eq_true rfl⟩ rfl (Nat.le_of_ble_eq_true rfl) (dk_La_law 817 rfl) rfl c488 rfl t491 ?_
      have hs492 : p_x s481 s489 := t491.1
      show p_Go K l m_La_law 1220 [(0, p_s 9), (1, p_r v1), (2, p_r v2), (3, p_i v3)] [p_i r493, p_i r485] s489 _
      refine g_icmp_eq 1701 (dk_La_law 818 rfl) (by decide) (fun b494 => ?_) (fun b494 => ?_)
      · have h := p_ifT b494 h
        exact tB_La_law_1701 K l n9 t9 he1 he2 k18 hk18 v1 v2 v3 s489 _ h
      · have h := p_ifF b494 h
        refine g_iconst (dk_La_law 819 rfl) (by decide) ?_
        cases h
        exact g_ret rfl rfl (dk_La_law 820 rfl) (fun _ => ⟨_, rfl, Or.inl rfl⟩)
    rcases p_iteE h with ⟨b495, h⟩ | ⟨b495, h⟩
    · refine g_tableIn 1225 (dk_La_law 21 rfl) (by omega) (by omega) (by rw [b495]; rfl) (by decide) ?_
      refine g_aload_n (i := 1) (j := 1) (dk_La_law 821 rfl) rfl rfl ?_
      refine g_aload_nS (i := 0) (j := 0) (dk_La_law 822 rfl) rfl rfl ?_
      refine g_iload_n (i := 3) (j := 3) (dk_La_law 823 rfl) rfl rfl ?_
      refine g_iconst (dk_La_law 824 rfl) (by decide) ?_
      refine g_iadd (dk_La_law 825 rfl) ?_
      obtain ⟨c496, h⟩ := p_gdE h
      refine g_scr he1 he2 (dk_La_law 826 rfl) c496.1 c496.2 ?_
      refine g_aload_nS (i := 0) (j := 0) (dk_La_law 827 rfl) rfl rfl ?_
      refine g_iload_n (i := 3) (j := 3) (dk_La_law 828 rfl) rfl rfl ?_
      refine g_iconst (dk_La_law 829 rfl) (by decide) ?_
      refine g_iadd (dk_La_law 830 rfl) ?_
      obtain ⟨c497, h⟩ := p_gdE h
      refine g_scr he1 he2 (dk_La_law 831 rfl) c497.1 c497.2 ?_
      obtain ⟨c498, h⟩ := p_gdE h
      obtain ⟨r503, s499, q500, h⟩ := p_bdE h
      have t501 := tF_SW_linkOf K l v1 (t9 ((p_w (v3 + 1)) : Int).toNat) (t9 ((p_w (v3 + 2)) : Int).toNat) s0 _ q500
      refine g_callV (a := v1) (ci := 10) (q0 := (RX10, TX10, 9)) (As := [p_i (t9 ((p_w (v3 + 1)) : Int).toNat), p_i (t9 ((p_w (v3 + 2)) : Int).toNat)]) (rest := []) [p_i r503] mt_SW_linkOf rfl rfl tw_5_152 tw_5_153 tw_5_151 ⟨Nat.le_of_ble_eq_true rfl, Nat.le_of_ble_eq_true rfl⟩ rfl (Nat.le_of_ble_eq_true rfl) (dk_La_law 832 rfl) rfl c498 rfl t501 ?_
      have hs502 : p_x s0 s499 := t501.1
      show p_Go K l m_La_law 1239 [(0, p_s 9), (1, p_r v1), (2, p_r v2), (3, p_i v3)] [p_i r503] s499 _
      refine g_aload_n (i := 2) (j := 2) (dk_La_law 833 rfl) rfl rfl ?_
      refine g_aload_nS (i := 0) (j := 0) (dk_La_law 834 rfl) rfl rfl ?_
      refine g_iload_n (i := 3) (j := 3) (dk_La_law 835 rfl) rfl rfl ?_
      refine g_iconst (dk_La_law 836 rfl) (by decide) ?_
      refine g_iadd (dk_La_law 837 rfl) ?_
      obtain ⟨c504, h⟩ := p_gdE h
      refine g_scr he1 he2 (dk_La_law 838 rfl) c504.1 c504.2 ?_
      refine g_aload_nS (i := 0) (j := 0) (dk_La_law 839 rfl) rfl rfl ?_
      refine g_iload_n (i := 3) (j := 3) (dk_La_law 840 rfl) rfl rfl ?_
      refine g_iconst (dk_La_law 841 rfl) (by decide) ?_
      refine g_iadd (dk_La_law 842 rfl) ?_
      obtain ⟨c505, h⟩ := p_gdE h
      refine g_scr he1 he2 (dk_La_law 843 rfl) c505.1 c505.2 ?_
      obtain ⟨c506, h⟩ := p_gdE h
      obtain ⟨r511, s507, q508, h⟩ := p_bdE h
      have t509 := tF_Mo_linkOf K l v2 (t9 ((p_w (v3 + 1)) : Int).toNat) (t9 ((p_w (v3 + 2)) : Int).toNat) s499 _ q508
      refine g_callV (a := v2) (ci := 11) (q0 := (RX11, TX11, 90)) (As := [p_i (t9 ((p_w (v3 + 1)) : Int).toNat), p_i (t9 ((p_w (v3 + 2)) : Int).toNat)]) (rest := [p_i r503]) [p_i r511, p_i r503] mt_Mo_linkOf rfl rfl tw_8_209 tw_8_210 tw_8_208 ⟨Nat.le_of_ble_eq_true rfl, Nat.le_of_ble_eq_true rfl⟩ rfl (Nat.le_of_ble_eq_true rfl) (dk_La_law 844 rfl) rfl c506 rfl t509 ?_
      have hs510 : p_x s499 s507 := t509.1
      show p_Go K l m_La_law 1253 [(0, p_s 9), (1, p_r v1), (2, p_r v2), (3, p_i v3)] [p_i r511, p_i r503] s507 _
      refine g_icmp_eq 1701 (dk_La_law 845 rfl) (by decide) (fun b512 => ?_) (fun b512 => ?_)
      · have h := p_ifT b512 h
        exact tB_La_law_1701 K l n9 t9 he1 he2 k18 hk18 v1 v2 v3 s507 _ h
      · have h := p_ifF b512 h
        refine g_iconst (dk_La_law 846 rfl) (by decide) ?_
        cases h
        exact g_ret rfl rfl (dk_La_law 847 rfl) (fun _ => ⟨_, rfl, Or.inl rfl⟩)
    rcases p_iteE h with ⟨b513, h⟩ | ⟨b513, h⟩
    · refine g_tableIn 1258 (dk_La_law 21 rfl) (by omega) (by omega) (by rw [b513]; rfl) (by decide) ?_
      refine g_aload_n (i := 1) (j := 1) (dk_La_law 848 rfl) rfl rfl ?_
      refine g_aload_nS (i := 0) (j := 0) (dk_La_law 849 rfl) rfl rfl ?_
      refine g_iload_n (i := 3) (j := 3) (dk_La_law 850 rfl) rfl rfl ?_
      refine g_iconst (dk_La_law 851 rfl) (by decide) ?_
      refine g_iadd (dk_La_law 852 rfl) ?_
      obtain ⟨c514, h⟩ := p_gdE h
      refine g_scr he1 he2 (dk_La_law 853 rfl) c514.1 c514.2 ?_
      refine g_aload_nS (i := 0) (j := 0) (dk_La_law 854 rfl) rfl rfl ?_
      refine g_iload_n (i := 3) (j := 3) (dk_La_law 855 rfl) rfl rfl ?_
      refine g_iconst (dk_La_law 856 rfl) (by decide) ?_
      refine g_iadd (dk_La_law 857 rfl) ?_
      obtain ⟨c515, h⟩ := p_gdE h
      refine g_scr he1 he2 (dk_La_law 858 rfl) c515.1 c515.2 ?_
      obtain ⟨c516, h⟩ := p_gdE h
      obtain ⟨r521, s517, q518, h⟩ := p_bdE h
      have t519 := tF_SW_parcel K l v1 (t9 ((p_w (v3 + 1)) : Int).toNat) (t9 ((p_w (v3 + 2)) : Int).toNat) s0 _ q518
      refine g_callV (a := v1) (ci := 10) (q0 := (RX10, TX10, 9)) (As := [p_i (t9 ((p_w (v3 + 1)) : Int).toNat), p_i (t9 ((p_w (v3 + 2)) : Int).toNat)]) (rest := []) [p_i r521] mt_SW_parcel rfl rfl tw_5_156 tw_5_157 tw_5_155 ⟨Nat.le_of_ble_eq_true rfl, Nat.le_of_ble_eq_true rfl⟩ rfl (Nat.le_of_ble_eq_true rfl) (dk_La_law 859 rfl) rfl c516 rfl t519 ?_
      have hs520 : p_x s0 s517 := t519.1
      show p_Go K l m_La_law 1272 [(0, p_s 9), (1, p_r v1), (2, p_r v2), (3, p_i v3)] [p_i r521] s517 _
      refine g_aload_n (i := 2) (j := 2) (dk_La_law 860 rfl) rfl rfl ?_
      refine g_aload_nS (i := 0) (j := 0) (dk_La_law 861 rfl) rfl rfl ?_
      refine g_iload_n (i := 3) (j := 3) (dk_La_law 862 rfl) rfl rfl ?_
      refine g_iconst (dk_La_law 863 rfl) (by decide) ?_
      refine g_iadd (dk_La_law 864 rfl) ?_
      obtain ⟨c522, h⟩ := p_gdE h
      refine g_scr he1 he2 (dk_La_law 865 rfl) c522.1 c522.2 ?_
      refine g_aload_nS (i := 0) (j := 0) (dk_La_law 866 rfl) rfl rfl ?_
      refine g_iload_n (i := 3) (j := 3) (dk_La_law 867 rfl) rfl rfl ?_
      refine g_iconst (dk_La_law 868 rfl) (by decide) ?_
      refine g_iadd (dk_La_law 869 rfl) ?_
      obtain ⟨c523, h⟩ := p_gdE h
      refine g_scr he1 he2 (dk_La_law 870 rfl) c523.1 c523.2 ?_
      obtain ⟨c524, h⟩ := p_gdE h
      obtain ⟨r529, s525, q526, h⟩ := p_bdE h
      have t527 := tF_Mo_parcel K l v2 (t9 ((p_w (v3 + 1)) : Int).toNat) (t9 ((p_w (v3 + 2)) : Int).toNat) s517 _ q526
      refine g_callV (a := v2) (ci := 11) (q0 := (RX11, TX11, 90)) (As := [p_i (t9 ((p_w (v3 + 1)) : Int).toNat), p_i (t9 ((p_w (v3 + 2)) : Int).toNat)]) (rest := [p_i r521]) [p_i r529, p_i r521] mt_Mo_parcel rfl rfl tw_8_213 tw_8_214 tw_8_212 ⟨Nat.le_of_ble_eq_true rfl, Nat.le_of_ble_eq_true rfl⟩ rfl (Nat.le_of_ble_eq_true rfl) (dk_La_law 871 rfl) rfl c524 rfl t527 ?_
      have hs528 : p_x s517 s525 := t527.1
      show p_Go K l m_La_law 1286 [(0, p_s 9), (1, p_r v1), (2, p_r v2), (3, p_i v3)] [p_i r529, p_i r521] s525 _
      refine g_icmp_eq 1701 (dk_La_law 872 rfl) (by decide) (fun b530 => ?_) (fun b530 => ?_)
      · have h := p_ifT b530 h
        exact tB_La_law_1701 K l n9 t9 he1 he2 k18 hk18 v1 v2 v3 s525 _ h
      · have h := p_ifF b530 h
        refine g_iconst (dk_La_law 873 rfl) (by decide) ?_
        cases h
        exact g_ret rfl rfl (dk_La_law 874 rfl) (fun _ => ⟨_, rfl, Or.inl rfl⟩)
    rcases p_iteE h with ⟨b531, h⟩ | ⟨b531, h⟩
    · refine g_tableIn 1291 (dk_La_law 21 rfl) (by omega) (by omega) (by rw [b531]; rfl) (by decide) ?_
      refine g_aload_n (i := 1) (j := 1) (dk_La_law 875 rfl) rfl rfl ?_
      refine g_aload_nS (i := 0) (j := 0) (dk_La_law 876 rfl) rfl rfl ?_
      refine g_iload_n (i := 3) (j := 3) (dk_La_law 877 rfl) rfl rfl ?_
      refine g_iconst (dk_La_law 878 rfl) (by decide) ?_
      refine g_iadd (dk_La_law 879 rfl) ?_
      obtain ⟨c532, h⟩ := p_gdE h
      refine g_scr he1 he2 (dk_La_law 880 rfl) c532.1 c532.2 ?_
      refine g_aload_nS (i := 0) (j := 0) (dk_La_law 881 rfl) rfl rfl ?_
      refine g_iload_n (i := 3) (j := 3) (dk_La_law 882 rfl) rfl rfl ?_
      refine g_iconst (dk_La_law 883 rfl) (by decide) ?_
      refine g_iadd (dk_La_law 884 rfl) ?_
      obtain ⟨c533, h⟩ := p_gdE h
      refine g_scr he1 he2 (dk_La_law 885 rfl) c533.1 c533.2 ?_
      obtain ⟨c534, h⟩ := p_gdE h
      obtain ⟨r539, s535, q536, h⟩ := p_bdE h
      have t537 := tF_SW_way K l v1 (t9 ((p_w (v3 + 1)) : Int).toNat) (t9 ((p_w (v3 + 2)) : Int).toNat) s0 _ q536
      refine g_callV (a := v1) (ci := 10) (q0 := (RX10, TX10, 9)) (As := [p_i (t9 ((p_w (v3 + 1)) : Int).toNat), p_i (t9 ((p_w (v3 + 2)) : Int).toNat)]) (rest := []) [p_i r539] mt_SW_way rfl rfl tw_5_164 tw_5_165 tw_5_163 ⟨Nat.le_of_ble_eq_true rfl, Nat.le_of_ble_eq_true rfl⟩ rfl (Nat.le_of_ble_eq_true rfl) (dk_La_law 886 rfl) rfl c534 rfl t537 ?_
      have hs538 : p_x s0 s535 := t537.1
      show p_Go K l m_La_law 1305 [(0, p_s 9), (1, p_r v1), (2, p_r v2), (3, p_i v3)] [p_i r539] s535 _
      refine g_aload_n (i := 2) (j := 2) (dk_La_law 887 rfl) rfl rfl ?_
      refine g_aload_nS (i := 0) (j := 0) (dk_La_law 888 rfl) rfl rfl ?_
      refine g_iload_n (i := 3) (j := 3) (dk_La_law 889 rfl) rfl rfl ?_
      refine g_iconst (dk_La_law 890 rfl) (by decide) ?_
      refine g_iadd (dk_La_law 891 rfl) ?_
      obtain ⟨c540, h⟩ := p_gdE h
      refine g_scr he1 he2 (dk_La_law 892 rfl) c540.1 c540.2 ?_
      refine g_aload_nS (i := 0) (j := 0) (dk_La_law 893 rfl) rfl rfl ?_
      refine g_iload_n (i := 3) (j := 3) (dk_La_law 894 rfl) rfl rfl ?_
      refine g_iconst (dk_La_law 895 rfl) (by decide) ?_
      refine g_iadd (dk_La_law 896 rfl) ?_
      obtain ⟨c541, h⟩ := p_gdE h
      refine g_scr he1 he2 (dk_La_law 897 rfl) c541.1 c541.2 ?_
      obtain ⟨c542, h⟩ := p_gdE h
      obtain ⟨r547, s543, q544, h⟩ := p_bdE h
      have t545 := tF_Mo_way K l v2 (t9 ((p_w (v3 + 1)) : Int).toNat) (t9 ((p_w (v3 + 2)) : Int).toNat) s535 _ q544
      refine g_callV (a := v2) (ci := 11) (q0 := (RX11, TX11, 90)) (As := [p_i (t9 ((p_w (v3 + 1)) : Int).toNat), p_i (t9 ((p_w (v3 + 2)) : Int).toNat)]) (rest := [p_i r539]) [p_i r547, p_i r539] mt_Mo_way rfl rfl tw_8_217 tw_8_218 tw_8_216 ⟨Nat.le_of_ble_eq_true rfl, Nat.le_of_ble_eq_true rfl⟩ rfl (Nat.le_of_ble_eq_true rfl) (dk_La_law 898 rfl) rfl c542 rfl t545 ?_
      have hs546 : p_x s535 s543 := t545.1
      show p_Go K l m_La_law 1319 [(0, p_s 9), (1, p_r v1), (2, p_r v2), (3, p_i v3)] [p_i r547, p_i r539] s543 _
      refine g_icmp_eq 1701 (dk_La_law 899 rfl) (by decide) (fun b548 => ?_) (fun b548 => ?_)
      · have h := p_ifT b548 h
        exact tB_La_law_1701 K l n9 t9 he1 he2 k18 hk18 v1 v2 v3 s543 _ h
      · have h := p_ifF b548 h
        refine g_iconst (dk_La_law 900 rfl) (by decide) ?_
        cases h
        exact g_ret rfl rfl (dk_La_law 901 rfl) (fun _ => ⟨_, rfl, Or.inl rfl⟩)
    rcases p_iteE h with ⟨b549, h⟩ | ⟨b549, h⟩
    · refine g_tableIn 1324 (dk_La_law 21 rfl) (by omega) (by omega) (by rw [b549]; rfl) (by decide) ?_
      refine g_aload_n (i := 1) (j := 1) (dk_La_law 902 rfl) rfl rfl ?_
      refine g_aload_nS (i := 0) (j := 0) (dk_La_law 903 rfl) rfl rfl ?_
      refine g_iload_n (i := 3) (j := 3) (dk_La_law 904 rfl) rfl rfl ?_
      refine g_iconst (dk_La_law 905 rfl) (by decide) ?_
      refine g_iadd (dk_La_law 906 rfl) ?_
      obtain ⟨c550, h⟩ := p_gdE h
      refine g_scr he1 he2 (dk_La_law 907 rfl) c550.1 c550.2 ?_
      refine g_aload_nS (i := 0) (j := 0) (dk_La_law 908 rfl) rfl rfl ?_
      refine g_iload_n (i := 3) (j := 3) (dk_La_law 909 rfl) rfl rfl ?_
      refine g_iconst (dk_La_law 910 rfl) (by decide) ?_
      refine g_iadd (dk_La_law 911 rfl) ?_
      obtain ⟨c551, h⟩ := p_gdE h
      refine g_scr he1 he2 (dk_La_law 912 rfl) c551.1 c551.2 ?_
      obtain ⟨c552, h⟩ := p_gdE h
      obtain ⟨r557, s553, q554, h⟩ := p_bdE h
      have t555 := tF_SW_byteOf K l v1 (t9 ((p_w (v3 + 1)) : Int).toNat) (t9 ((p_w (v3 + 2)) : Int).toNat) s0 _ q554
      refine g_callV (a := v1) (ci := 10) (q0 := (RX10, TX10, 9)) (As := [p_i (t9 ((p_w (v3 + 1)) : Int).toNat), p_i (t9 ((p_w (v3 + 2)) : Int).toNat)]) (rest := []) [p_i r557] mt_SW_byteOf rfl rfl tw_5_168 tw_5_169 tw_5_167 ⟨Nat.le_of_ble_eq_true rfl, Nat.le_of_ble_eq_true rfl⟩ rfl (Nat.le_of_ble_eq_true rfl) (dk_La_law 913 rfl) rfl c552 rfl t555 ?_
      have hs556 : p_x s0 s553 := t555.1
      show p_Go K l m_La_law 1338 [(0, p_s 9), (1, p_r v1), (2, p_r v2), (3, p_i v3)] [p_i r557] s553 _
      refine g_aload_n (i := 2) (j := 2) (dk_La_law 914 rfl) rfl rfl ?_
      refine g_aload_nS (i := 0) (j := 0) (dk_La_law 915 rfl) rfl rfl ?_
      refine g_iload_n (i := 3) (j := 3) (dk_La_law 916 rfl) rfl rfl ?_
      refine g_iconst (dk_La_law 917 rfl) (by decide) ?_
      refine g_iadd (dk_La_law 918 rfl) ?_
      obtain ⟨c558, h⟩ := p_gdE h
      refine g_scr he1 he2 (dk_La_law 919 rfl) c558.1 c558.2 ?_
      refine g_aload_nS (i := 0) (j := 0) (dk_La_law 920 rfl) rfl rfl ?_
      refine g_iload_n (i := 3) (j := 3) (dk_La_law 921 rfl) rfl rfl ?_
      refine g_iconst (dk_La_law 922 rfl) (by decide) ?_
      refine g_iadd (dk_La_law 923 rfl) ?_
      obtain ⟨c559, h⟩ := p_gdE h
      refine g_scr he1 he2 (dk_La_law 924 rfl) c559.1 c559.2 ?_
      obtain ⟨c560, h⟩ := p_gdE h
      obtain ⟨r565, s561, q562, h⟩ := p_bdE h
      have t563 := tF_Mo_byteOf K l v2 (t9 ((p_w (v3 + 1)) : Int).toNat) (t9 ((p_w (v3 + 2)) : Int).toNat) s553 _ q562
      refine g_callV (a := v2) (ci := 11) (q0 := (RX11, TX11, 90)) (As := [p_i (t9 ((p_w (v3 + 1)) : Int).toNat), p_i (t9 ((p_w (v3 + 2)) : Int).toNat)]) (rest := [p_i r557]) [p_i r565, p_i r557] mt_Mo_byteOf rfl rfl tw_8_221 tw_8_222 tw_8_220 ⟨Nat.le_of_ble_eq_true rfl, Nat.le_of_ble_eq_true rfl⟩ rfl (Nat.le_of_ble_eq_true rfl) (dk_La_law 925 rfl) rfl c560 rfl t563 ?_
      have hs564 : p_x s553 s561 := t563.1
      show p_Go K l m_La_law 1352 [(0, p_s 9), (1, p_r v1), (2, p_r v2), (3, p_i v3)] [p_i r565, p_i r557] s561 _
      refine g_icmp_eq 1701 (dk_La_law 926 rfl) (by decide) (fun b566 => ?_) (fun b566 => ?_)
      · have h := p_ifT b566 h
        exact tB_La_law_1701 K l n9 t9 he1 he2 k18 hk18 v1 v2 v3 s561 _ h
      · have h := p_ifF b566 h
        refine g_iconst (dk_La_law 927 rfl) (by decide) ?_
        cases h
        exact g_ret rfl rfl (dk_La_law 928 rfl) (fun _ => ⟨_, rfl, Or.inl rfl⟩)
    rcases p_iteE h with ⟨b567, h⟩ | ⟨b567, h⟩
    · refine g_tableIn 1357 (dk_La_law 21 rfl) (by omega) (by omega) (by rw [b567]; rfl) (by decide) ?_
      refine g_aload_n (i := 1) (j := 1) (dk_La_law 929 rfl) rfl rfl ?_
      refine g_aload_nS (i := 0) (j := 0) (dk_La_law 930 rfl) rfl rfl ?_
      refine g_iload_n (i := 3) (j := 3) (dk_La_law 931 rfl) rfl rfl ?_
      refine g_iconst (dk_La_law 932 rfl) (by decide) ?_
      refine g_iadd (dk_La_law 933 rfl) ?_
      obtain ⟨c568, h⟩ := p_gdE h
      refine g_scr he1 he2 (dk_La_law 934 rfl) c568.1 c568.2 ?_
      obtain ⟨c569, h⟩ := p_gdE h
      obtain ⟨r574, s570, q571, h⟩ := p_bdE h
      have t572 := tF_SW_left K l v1 (t9 ((p_w (v3 + 1)) : Int).toNat) s0 _ q571
      refine g_callV (a := v1) (ci := 10) (q0 := (RX10, TX10, 9)) (As := [p_i (t9 ((p_w (v3 + 1)) : Int).toNat)]) (rest := []) [p_i r574] mt_SW_left rfl rfl tw_5_172 tw_5_173 tw_5_171 ⟨Nat.le_of_ble_eq_true rfl, Nat.le_of_ble_eq_true rfl⟩ rfl (Nat.le_of_ble_eq_true rfl) (dk_La_law 935 rfl) rfl c569 rfl t572 ?_
      have hs573 : p_x s0 s570 := t572.1
      show p_Go K l m_La_law 1366 [(0, p_s 9), (1, p_r v1), (2, p_r v2), (3, p_i v3)] [p_i r574] s570 _
      refine g_aload_n (i := 2) (j := 2) (dk_La_law 936 rfl) rfl rfl ?_
      refine g_aload_nS (i := 0) (j := 0) (dk_La_law 937 rfl) rfl rfl ?_
      refine g_iload_n (i := 3) (j := 3) (dk_La_law 938 rfl) rfl rfl ?_
      refine g_iconst (dk_La_law 939 rfl) (by decide) ?_
      refine g_iadd (dk_La_law 940 rfl) ?_
      obtain ⟨c575, h⟩ := p_gdE h
      refine g_scr he1 he2 (dk_La_law 941 rfl) c575.1 c575.2 ?_
      obtain ⟨c576, h⟩ := p_gdE h
      obtain ⟨r581, s577, q578, h⟩ := p_bdE h
      have t579 := tF_Mo_left K l v2 (t9 ((p_w (v3 + 1)) : Int).toNat) s570 _ q578
      refine g_callV (a := v2) (ci := 11) (q0 := (RX11, TX11, 90)) (As := [p_i (t9 ((p_w (v3 + 1)) : Int).toNat)]) (rest := [p_i r574]) [p_i r581, p_i r574] mt_Mo_left rfl rfl tw_8_225 tw_8_226 tw_8_224 ⟨Nat.le_of_ble_eq_true rfl, Nat.le_of_ble_eq_true rfl⟩ rfl (Nat.le_of_ble_eq_true rfl) (dk_La_law 942 rfl) rfl c576 rfl t579 ?_
      have hs580 : p_x s570 s577 := t579.1
      show p_Go K l m_La_law 1375 [(0, p_s 9), (1, p_r v1), (2, p_r v2), (3, p_i v3)] [p_i r581, p_i r574] s577 _
      refine g_icmp_eq 1701 (dk_La_law 943 rfl) (by decide) (fun b582 => ?_) (fun b582 => ?_)
      · have h := p_ifT b582 h
        exact tB_La_law_1701 K l n9 t9 he1 he2 k18 hk18 v1 v2 v3 s577 _ h
      · have h := p_ifF b582 h
        refine g_iconst (dk_La_law 944 rfl) (by decide) ?_
        cases h
        exact g_ret rfl rfl (dk_La_law 945 rfl) (fun _ => ⟨_, rfl, Or.inl rfl⟩)
    rcases p_iteE h with ⟨b583, h⟩ | ⟨b583, h⟩
    · refine g_tableIn 1380 (dk_La_law 21 rfl) (by omega) (by omega) (by rw [b583]; rfl) (by decide) ?_
      refine g_aload_n (i := 1) (j := 1) (dk_La_law 946 rfl) rfl rfl ?_
      refine g_aload_nS (i := 0) (j := 0) (dk_La_law 947 rfl) rfl rfl ?_
      refine g_iload_n (i := 3) (j := 3) (dk_La_law 948 rfl) rfl rfl ?_
      refine g_iconst (dk_La_law 949 rfl) (by decide) ?_
      refine g_iadd (dk_La_law 950 rfl) ?_
      obtain ⟨c584, h⟩ := p_gdE h
      refine g_scr he1 he2 (dk_La_law 951 rfl) c584.1 c584.2 ?_
      refine g_aload_nS (i := 0) (j := 0) (dk_La_law 952 rfl) rfl rfl ?_
      refine g_iload_n (i := 3) (j := 3) (dk_La_law 953 rfl) rfl rfl ?_
      refine g_iconst (dk_La_law 954 rfl) (by decide) ?_
      refine g_iadd (dk_La_law 955 rfl) ?_
      obtain ⟨c585, h⟩ := p_gdE h
      refine g_scr he1 he2 (dk_La_law 956 rfl) c585.1 c585.2 ?_
      obtain ⟨c586, h⟩ := p_gdE h
      obtain ⟨r591, s587, q588, h⟩ := p_bdE h
      have t589 := tF_SW_out K l v1 (t9 ((p_w (v3 + 1)) : Int).toNat) (t9 ((p_w (v3 + 2)) : Int).toNat) s0 _ q588
      refine g_callV (a := v1) (ci := 10) (q0 := (RX10, TX10, 9)) (As := [p_i (t9 ((p_w (v3 + 1)) : Int).toNat), p_i (t9 ((p_w (v3 + 2)) : Int).toNat)]) (rest := []) [p_i r591] mt_SW_out rfl rfl tw_5_176 tw_5_177 tw_5_175 ⟨Nat.le_of_ble_eq_true rfl, Nat.le_of_ble_eq_true rfl⟩ rfl (Nat.le_of_ble_eq_true rfl) (dk_La_law 957 rfl) rfl c586 rfl t589 ?_
      have hs590 : p_x s0 s587 := t589.1
      show p_Go K l m_La_law 1394 [(0, p_s 9), (1, p_r v1), (2, p_r v2), (3, p_i v3)] [p_i r591] s587 _
      refine g_aload_n (i := 2) (j := 2) (dk_La_law 958 rfl) rfl rfl ?_
      refine g_aload_nS (i := 0) (j := 0) (dk_La_law 959 rfl) rfl rfl ?_
      refine g_iload_n (i := 3) (j := 3) (dk_La_law 960 rfl) rfl rfl ?_
      refine g_iconst (dk_La_law 961 rfl) (by decide) ?_
      refine g_iadd (dk_La_law 962 rfl) ?_
      obtain ⟨c592, h⟩ := p_gdE h
      refine g_scr he1 he2 (dk_La_law 963 rfl) c592.1 c592.2 ?_
      refine g_aload_nS (i := 0) (j := 0) (dk_La_law 964 rfl) rfl rfl ?_
      refine g_iload_n (i := 3) (j := 3) (dk_La_law 965 rfl) rfl rfl ?_
      refine g_iconst (dk_La_law 966 rfl) (by decide) ?_
      refine g_iadd (dk_La_law 967 rfl) ?_
      obtain ⟨c593, h⟩ := p_gdE h
      refine g_scr he1 he2 (dk_La_law 968 rfl) c593.1 c593.2 ?_
      obtain ⟨c594, h⟩ := p_gdE h
      obtain ⟨r599, s595, q596, h⟩ := p_bdE h
      have t597 := tF_Mo_out K l v2 (t9 ((p_w (v3 + 1)) : Int).toNat) (t9 ((p_w (v3 + 2)) : Int).toNat) s587 _ q596
      refine g_callV (a := v2) (ci := 11) (q0 := (RX11, TX11, 90)) (As := [p_i (t9 ((p_w (v3 + 1)) : Int).toNat), p_i (t9 ((p_w (v3 + 2)) : Int).toNat)]) (rest := [p_i r591]) [p_i r599, p_i r591] mt_Mo_out rfl rfl tw_8_229 tw_8_230 tw_8_228 ⟨Nat.le_of_ble_eq_true rfl, Nat.le_of_ble_eq_true rfl⟩ rfl (Nat.le_of_ble_eq_true rfl) (dk_La_law 969 rfl) rfl c594 rfl t597 ?_
      have hs598 : p_x s587 s595 := t597.1
      show p_Go K l m_La_law 1408 [(0, p_s 9), (1, p_r v1), (2, p_r v2), (3, p_i v3)] [p_i r599, p_i r591] s595 _
      refine g_icmp_eq 1701 (dk_La_law 970 rfl) (by decide) (fun b600 => ?_) (fun b600 => ?_)
      · have h := p_ifT b600 h
        exact tB_La_law_1701 K l n9 t9 he1 he2 k18 hk18 v1 v2 v3 s595 _ h
      · have h := p_ifF b600 h
        refine g_iconst (dk_La_law 971 rfl) (by decide) ?_
        cases h
        exact g_ret rfl rfl (dk_La_law 972 rfl) (fun _ => ⟨_, rfl, Or.inl rfl⟩)
    rcases p_iteE h with ⟨b601, h⟩ | ⟨b601, h⟩
    · refine g_tableIn 1413 (dk_La_law 21 rfl) (by omega) (by omega) (by rw [b601]; rfl) (by decide) ?_
      refine g_aload_n (i := 1) (j := 1) (dk_La_law 973 rfl) rfl rfl ?_
      refine g_aload_nS (i := 0) (j := 0) (dk_La_law 974 rfl) rfl rfl ?_
      refine g_iload_n (i := 3) (j := 3) (dk_La_law 975 rfl) rfl rfl ?_
      refine g_iconst (dk_La_law 976 rfl) (by decide) ?_
      refine g_iadd (dk_La_law 977 rfl) ?_
      obtain ⟨c602, h⟩ := p_gdE h
      refine g_scr he1 he2 (dk_La_law 978 rfl) c602.1 c602.2 ?_
      refine g_aload_nS (i := 0) (j := 0) (dk_La_law 979 rfl) rfl rfl ?_
      refine g_iload_n (i := 3) (j := 3) (dk_La_law 980 rfl) rfl rfl ?_
      refine g_iconst (dk_La_law 981 rfl) (by decide) ?_
      refine g_iadd (dk_La_law 982 rfl) ?_
      obtain ⟨c603, h⟩ := p_gdE h
      refine g_scr he1 he2 (dk_La_law 983 rfl) c603.1 c603.2 ?_
      obtain ⟨c604, h⟩ := p_gdE h
      obtain ⟨r609, s605, q606, h⟩ := p_bdE h
      have t607 := tF_SW_rule K l v1 (t9 ((p_w (v3 + 1)) : Int).toNat) (t9 ((p_w (v3 + 2)) : Int).toNat) s0 _ q606
      refine g_callV (a := v1) (ci := 10) (q0 := (RX10, TX10, 9)) (As := [p_i (t9 ((p_w (v3 + 1)) : Int).toNat), p_i (t9 ((p_w (v3 + 2)) : Int).toNat)]) (rest := []) [p_i r609] mt_SW_rule rfl rfl tw_5_184 tw_5_185 tw_5_183 ⟨Nat.le_of_ble_eq_true rfl, Nat.le_of_ble_eq_true rfl⟩ rfl (Nat.le_of_ble_eq_true rfl) (dk_La_law 984 rfl) rfl c604 rfl t607 ?_
      have hs608 : p_x s0 s605 := t607.1
      show p_Go K l m_La_law 1427 [(0, p_s 9), (1, p_r v1), (2, p_r v2), (3, p_i v3)] [p_i r609] s605 _
      refine g_aload_n (i := 2) (j := 2) (dk_La_law 985 rfl) rfl rfl ?_
      refine g_aload_nS (i := 0) (j := 0) (dk_La_law 986 rfl) rfl rfl ?_
      refine g_iload_n (i := 3) (j := 3) (dk_La_law 987 rfl) rfl rfl ?_
      refine g_iconst (dk_La_law 988 rfl) (by decide) ?_
      refine g_iadd (dk_La_law 989 rfl) ?_
      obtain ⟨c610, h⟩ := p_gdE h
      refine g_scr he1 he2 (dk_La_law 990 rfl) c610.1 c610.2 ?_
      refine g_aload_nS (i := 0) (j := 0) (dk_La_law 991 rfl) rfl rfl ?_
      refine g_iload_n (i := 3) (j := 3) (dk_La_law 992 rfl) rfl rfl ?_
      refine g_iconst (dk_La_law 993 rfl) (by decide) ?_
      refine g_iadd (dk_La_law 994 rfl) ?_
      obtain ⟨c611, h⟩ := p_gdE h
      refine g_scr he1 he2 (dk_La_law 995 rfl) c611.1 c611.2 ?_
      obtain ⟨c612, h⟩ := p_gdE h
      obtain ⟨r617, s613, q614, h⟩ := p_bdE h
      have t615 := tF_Mo_rule_1 K l v2 (t9 ((p_w (v3 + 1)) : Int).toNat) (t9 ((p_w (v3 + 2)) : Int).toNat) s605 _ q614
      refine g_callV (a := v2) (ci := 11) (q0 := (RX11, TX11, 90)) (As := [p_i (t9 ((p_w (v3 + 1)) : Int).toNat), p_i (t9 ((p_w (v3 + 2)) : Int).toNat)]) (rest := [p_i r609]) [p_i r617, p_i r609] mt_Mo_rule_1 rfl rfl tw_8_233 tw_8_234 tw_8_232 ⟨Nat.le_of_ble_eq_true rfl, Nat.le_of_ble_eq_true rfl⟩ rfl (Nat.le_of_ble_eq_true rfl) (dk_La_law 996 rfl) rfl c612 rfl t615 ?_
      have hs616 : p_x s605 s613 := t615.1
      show p_Go K l m_La_law 1441 [(0, p_s 9), (1, p_r v1), (2, p_r v2), (3, p_i v3)] [p_i r617, p_i r609] s613 _
      refine g_icmp_eq 1701 (dk_La_law 997 rfl) (by decide) (fun b618 => ?_) (fun b618 => ?_)
      · have h := p_ifT b618 h
        exact tB_La_law_1701 K l n9 t9 he1 he2 k18 hk18 v1 v2 v3 s613 _ h
      · have h := p_ifF b618 h
        refine g_iconst (dk_La_law 998 rfl) (by decide) ?_
        cases h
        exact g_ret rfl rfl (dk_La_law 999 rfl) (fun _ => ⟨_, rfl, Or.inl rfl⟩)
    rcases p_iteE h with ⟨b619, h⟩ | ⟨b619, h⟩
    · refine g_tableIn 1446 (dk_La_law 21 rfl) (by omega) (by omega) (by rw [b619]; rfl) (by decide) ?_
      refine g_aload_n (i := 1) (j := 1) (dk_La_law 1000 rfl) rfl rfl ?_
      refine g_aload_nS (i := 0) (j := 0) (dk_La_law 1001 rfl) rfl rfl ?_
      refine g_iload_n (i := 3) (j := 3) (dk_La_law 1002 rfl) rfl rfl ?_
      refine g_iconst (dk_La_law 1003 rfl) (by decide) ?_
      refine g_iadd (dk_La_law 1004 rfl) ?_
      obtain ⟨c620, h⟩ := p_gdE h
      refine g_scr he1 he2 (dk_La_law 1005 rfl) c620.1 c620.2 ?_
      obtain ⟨c621, h⟩ := p_gdE h
      obtain ⟨r626, s622, q623, h⟩ := p_bdE h
      have t624 := tF_SW_said K l v1 (t9 ((p_w (v3 + 1)) : Int).toNat) s0 _ q623
      refine g_callV (a := v1) (ci := 10) (q0 := (RX10, TX10, 9)) (As := [p_i (t9 ((p_w (v3 + 1)) : Int).toNat)]) (rest := []) [p_i r626] mt_SW_said rfl rfl tw_5_188 tw_5_189 tw_5_187 ⟨Nat.le_of_ble_eq_true rfl, Nat.le_of_ble_eq_true rfl⟩ rfl (Nat.le_of_ble_eq_true rfl) (dk_La_law 1006 rfl) rfl c621 rfl t624 ?_
      have hs625 : p_x s0 s622 := t624.1
      show p_Go K l m_La_law 1455 [(0, p_s 9), (1, p_r v1), (2, p_r v2), (3, p_i v3)] [p_i r626] s622 _
      refine g_aload_n (i := 2) (j := 2) (dk_La_law 1007 rfl) rfl rfl ?_
      refine g_aload_nS (i := 0) (j := 0) (dk_La_law 1008 rfl) rfl rfl ?_
      refine g_iload_n (i := 3) (j := 3) (dk_La_law 1009 rfl) rfl rfl ?_
      refine g_iconst (dk_La_law 1010 rfl) (by decide) ?_
      refine g_iadd (dk_La_law 1011 rfl) ?_
      obtain ⟨c627, h⟩ := p_gdE h
      refine g_scr he1 he2 (dk_La_law 1012 rfl) c627.1 c627.2 ?_
      obtain ⟨c628, h⟩ := p_gdE h
      obtain ⟨r633, s629, q630, h⟩ := p_bdE h
      have t631 := tF_Mo_said K l v2 (t9 ((p_w (v3 + 1)) : Int).toNat) s622 _ q630
      refine g_callV (a := v2) (ci := 11) (q0 := (RX11, TX11, 90)) (As := [p_i (t9 ((p_w (v3 + 1)) : Int).toNat)]) (rest := [p_i r626]) [p_i r633, p_i r626] mt_Mo_said rfl rfl tw_8_237 tw_8_238 tw_8_236 ⟨Nat.le_of_ble_eq_true rfl, Nat.le_of_ble_eq_true rfl⟩ rfl (Nat.le_of_ble_eq_true rfl) (dk_La_law 1013 rfl) rfl c628 rfl t631 ?_
      have hs632 : p_x s622 s629 := t631.1
      show p_Go K l m_La_law 1464 [(0, p_s 9), (1, p_r v1), (2, p_r v2), (3, p_i v3)] [p_i r633, p_i r626] s629 _
      refine g_icmp_eq 1701 (dk_La_law 1014 rfl) (by decide) (fun b634 => ?_) (fun b634 => ?_)
      · have h := p_ifT b634 h
        exact tB_La_law_1701 K l n9 t9 he1 he2 k18 hk18 v1 v2 v3 s629 _ h
      · have h := p_ifF b634 h
        refine g_iconst (dk_La_law 1015 rfl) (by decide) ?_
        cases h
        exact g_ret rfl rfl (dk_La_law 1016 rfl) (fun _ => ⟨_, rfl, Or.inl rfl⟩)
    rcases p_iteE h with ⟨b635, h⟩ | ⟨b635, h⟩
    · refine g_tableIn 1469 (dk_La_law 21 rfl) (by omega) (by omega) (by rw [b635]; rfl) (by decide) ?_
      refine g_aload_n (i := 1) (j := 1) (dk_La_law 1017 rfl) rfl rfl ?_
      refine g_aload_nS (i := 0) (j := 0) (dk_La_law 1018 rfl) rfl rfl ?_
      refine g_iload_n (i := 3) (j := 3) (dk_La_law 1019 rfl) rfl rfl ?_
      refine g_iconst (dk_La_law 1020 rfl) (by decide) ?_
      refine g_iadd (dk_La_law 1021 rfl) ?_
      obtain ⟨c636, h⟩ := p_gdE h
      refine g_scr he1 he2 (dk_La_law 1022 rfl) c636.1 c636.2 ?_
      obtain ⟨c637, h⟩ := p_gdE h
      obtain ⟨r642, s638, q639, h⟩ := p_bdE h
      have t640 := tF_SW_unused K l v1 (t9 ((p_w (v3 + 1)) : Int).toNat) s0 _ q639
      refine g_callV (a := v1) (ci := 10) (q0 := (RX10, TX10, 9)) (As := [p_i (t9 ((p_w (v3 + 1)) : Int).toNat)]) (rest := []) [p_i r642] mt_SW_unused rfl rfl tw_5_192 tw_5_193 tw_5_191 ⟨Nat.le_of_ble_eq_true rfl, Nat.le_of_ble_eq_true rfl⟩ rfl (Nat.le_of_ble_eq_true rfl) (dk_La_law 1023 rfl) rfl c637 rfl t640 ?_
      have hs641 : p_x s0 s638 := t640.1
      show p_Go K l m_La_law 1478 [(0, p_s 9), (1, p_r v1), (2, p_r v2), (3, p_i v3)] [p_i r642] s638 _
      refine g_aload_n (i := 2) (j := 2) (dk_La_law 1024 rfl) rfl rfl ?_
      refine g_aload_nS (i := 0) (j := 0) (dk_La_law 1025 rfl) rfl rfl ?_
      refine g_iload_n (i := 3) (j := 3) (dk_La_law 1026 rfl) rfl rfl ?_
      refine g_iconst (dk_La_law 1027 rfl) (by decide) ?_
      refine g_iadd (dk_La_law 1028 rfl) ?_
      obtain ⟨c643, h⟩ := p_gdE h
      refine g_scr he1 he2 (dk_La_law 1029 rfl) c643.1 c643.2 ?_
      obtain ⟨c644, h⟩ := p_gdE h
      obtain ⟨r649, s645, q646, h⟩ := p_bdE h
      have t647 := tF_Mo_unused K l v2 (t9 ((p_w (v3 + 1)) : Int).toNat) s638 _ q646
      refine g_callV (a := v2) (ci := 11) (q0 := (RX11, TX11, 90)) (As := [p_i (t9 ((p_w (v3 + 1)) : Int).toNat)]) (rest := [p_i r642]) [p_i r649, p_i r642] mt_Mo_unused rfl rfl tw_9_9 tw_9_10 tw_9_8 ⟨Nat.le_of_ble_eq_true rfl, Nat.le_of_ble_eq_true rfl⟩ rfl (Nat.le_of_ble_eq_true rfl) (dk_La_law 1030 rfl) rfl c644 rfl t647 ?_
      have hs648 : p_x s638 s645 := t647.1
      show p_Go K l m_La_law 1487 [(0, p_s 9), (1, p_r v1), (2, p_r v2), (3, p_i v3)] [p_i r649, p_i r642] s645 _
      refine g_icmp_eq 1701 (dk_La_law 1031 rfl) (by decide) (fun b650 => ?_) (fun b650 => ?_)
      · have h := p_ifT b650 h
        exact tB_La_law_1701 K l n9 t9 he1 he2 k18 hk18 v1 v2 v3 s645 _ h
      · have h := p_ifF b650 h
        refine g_iconst (dk_La_law 1032 rfl) (by decide) ?_
        cases h
        exact g_ret rfl rfl (dk_La_law 1033 rfl) (fun _ => ⟨_, rfl, Or.inl rfl⟩)
    rcases p_iteE h with ⟨b651, h⟩ | ⟨b651, h⟩
    · refine g_tableIn 1492 (dk_La_law 21 rfl) (by omega) (by omega) (by rw [b651]; rfl) (by decide) ?_
      refine g_aload_n (i := 1) (j := 1) (dk_La_law 1034 rfl) rfl rfl ?_
      refine g_aload_nS (i := 0) (j := 0) (dk_La_law 1035 rfl) rfl rfl ?_
      refine g_iload_n (i := 3) (j := 3) (dk_La_law 1036 rfl) rfl rfl ?_
      refine g_iconst (dk_La_law 1037 rfl) (by decide) ?_
      refine g_iadd (dk_La_law 1038 rfl) ?_
      obtain ⟨c652, h⟩ := p_gdE h
      refine g_scr he1 he2 (dk_La_law 1039 rfl) c652.1 c652.2 ?_
      refine g_aload_nS (i := 0) (j := 0) (dk_La_law 1040 rfl) rfl rfl ?_
      refine g_iload_n (i := 3) (j := 3) (dk_La_law 1041 rfl) rfl rfl ?_
      refine g_iconst (dk_La_law 1042 rfl) (by decide) ?_
      refine g_iadd (dk_La_law 1043 rfl) ?_
      obtain ⟨c653, h⟩ := p_gdE h
      refine g_scr he1 he2 (dk_La_law 1044 rfl) c653.1 c653.2 ?_
      obtain ⟨c654, h⟩ := p_gdE h
      obtain ⟨r659, s655, q656, h⟩ := p_bdE h
      have t657 := tF_SW_finding K l v1 (t9 ((p_w (v3 + 1)) : Int).toNat) (t9 ((p_w (v3 + 2)) : Int).toNat) s0 _ q656
      refine g_callV (a := v1) (ci := 10) (q0 := (RX10, TX10, 9)) (As := [p_i (t9 ((p_w (v3 + 1)) : Int).toNat), p_i (t9 ((p_w (v3 + 2)) : Int).toNat)]) (rest := []) [p_i r659] mt_SW_finding rfl rfl tw_5_196 tw_5_197 tw_5_195 ⟨Nat.le_of_ble_eq_true rfl, Nat.le_of_ble_eq_true rfl⟩ rfl (Nat.le_of_ble_eq_true rfl) (dk_La_law 1045 rfl) rfl c654 rfl t657 ?_
      have hs658 : p_x s0 s655 := t657.1
      show p_Go K l m_La_law 1506 [(0, p_s 9), (1, p_r v1), (2, p_r v2), (3, p_i v3)] [p_i r659] s655 _
      refine g_aload_n (i := 2) (j := 2) (dk_La_law 1046 rfl) rfl rfl ?_
      refine g_aload_nS (i := 0) (j := 0) (dk_La_law 1047 rfl) rfl rfl ?_
      refine g_iload_n (i := 3) (j := 3) (dk_La_law 1048 rfl) rfl rfl ?_
      refine g_iconst (dk_La_law 1049 rfl) (by decide) ?_
      refine g_iadd (dk_La_law 1050 rfl) ?_
      obtain ⟨c660, h⟩ := p_gdE h
      refine g_scr he1 he2 (dk_La_law 1051 rfl) c660.1 c660.2 ?_
      refine g_aload_nS (i := 0) (j := 0) (dk_La_law 1052 rfl) rfl rfl ?_
      refine g_iload_n (i := 3) (j := 3) (dk_La_law 1053 rfl) rfl rfl ?_
      refine g_iconst (dk_La_law 1054 rfl) (by decide) ?_
      refine g_iadd (dk_La_law 1055 rfl) ?_
      obtain ⟨c661, h⟩ := p_gdE h
      refine g_scr he1 he2 (dk_La_law 1056 rfl) c661.1 c661.2 ?_
      obtain ⟨c662, h⟩ := p_gdE h
      obtain ⟨r667, s663, q664, h⟩ := p_bdE h
      have t665 := tF_Mo_finding K l v2 (t9 ((p_w (v3 + 1)) : Int).toNat) (t9 ((p_w (v3 + 2)) : Int).toNat) s655 _ q664
      refine g_callV (a := v2) (ci := 11) (q0 := (RX11, TX11, 90)) (As := [p_i (t9 ((p_w (v3 + 1)) : Int).toNat), p_i (t9 ((p_w (v3 + 2)) : Int).toNat)]) (rest := [p_i r659]) [p_i r667, p_i r659] mt_Mo_finding rfl rfl tw_9_13 tw_9_14 tw_9_12 ⟨Nat.le_of_ble_eq_true rfl, Nat.le_of_ble_eq_true rfl⟩ rfl (Nat.le_of_ble_eq_true rfl) (dk_La_law 1057 rfl) rfl c662 rfl t665 ?_
      have hs666 : p_x s655 s663 := t665.1
      show p_Go K l m_La_law 1520 [(0, p_s 9), (1, p_r v1), (2, p_r v2), (3, p_i v3)] [p_i r667, p_i r659] s663 _
      refine g_icmp_eq 1701 (dk_La_law 1058 rfl) (by decide) (fun b668 => ?_) (fun b668 => ?_)
      · have h := p_ifT b668 h
        exact tB_La_law_1701 K l n9 t9 he1 he2 k18 hk18 v1 v2 v3 s663 _ h
      · have h := p_ifF b668 h
        refine g_iconst (dk_La_law 1059 rfl) (by decide) ?_
        cases h
        exact g_ret rfl rfl (dk_La_law 1060 rfl) (fun _ => ⟨_, rfl, Or.inl rfl⟩)
    rcases p_iteE h with ⟨b669, h⟩ | ⟨b669, h⟩
    · refine g_tableIn 1525 (dk_La_law 21 rfl) (by omega) (by omega) (by rw [b669]; rfl) (by decide) ?_
      refine g_aload_n (i := 1) (j := 1) (dk_La_law 1061 rfl) rfl rfl ?_
      refine g_aload_nS (i := 0) (j := 0) (dk_La_law 1062 rfl) rfl rfl ?_
      refine g_iload_n (i := 3) (j := 3) (dk_La_law 1063 rfl) rfl rfl ?_
      refine g_iconst (dk_La_law 1064 rfl) (by decide) ?_
      refine g_iadd (dk_La_law 1065 rfl) ?_
      obtain ⟨c670, h⟩ := p_gdE h
      refine g_scr he1 he2 (dk_La_law 1066 rfl) c670.1 c670.2 ?_
      obtain ⟨c671, h⟩ := p_gdE h
      obtain ⟨r676, s672, q673, h⟩ := p_bdE h
      have t674 := tF_SW_trace K l v1 (t9 ((p_w (v3 + 1)) : Int).toNat) s0 _ q673
      refine g_callV (a := v1) (ci := 10) (q0 := (RX10, TX10, 9)) (As := [p_i (t9 ((p_w (v3 + 1)) : Int).toNat)]) (rest := []) [p_i r676] mt_SW_trace rfl rfl tw_5_200 tw_5_201 tw_5_199 ⟨Nat.le_of_ble_eq_true rfl, Nat.le_of_ble_eq_true rfl⟩ rfl (Nat.le_of_ble_eq_true rfl) (dk_La_law 1067 rfl) rfl c671 rfl t674 ?_
      have hs675 : p_x s0 s672 := t674.1
      show p_Go K l m_La_law 1534 [(0, p_s 9), (1, p_r v1), (2, p_r v2), (3, p_i v3)] [p_i r676] s672 _
      refine g_aload_n (i := 2) (j := 2) (dk_La_law 1068 rfl) rfl rfl ?_
      refine g_aload_nS (i := 0) (j := 0) (dk_La_law 1069 rfl) rfl rfl ?_
      refine g_iload_n (i := 3) (j := 3) (dk_La_law 1070 rfl) rfl rfl ?_
      refine g_iconst (dk_La_law 1071 rfl) (by decide) ?_
      refine g_iadd (dk_La_law 1072 rfl) ?_
      obtain ⟨c677, h⟩ := p_gdE h
      refine g_scr he1 he2 (dk_La_law 1073 rfl) c677.1 c677.2 ?_
      obtain ⟨c678, h⟩ := p_gdE h
      obtain ⟨r683, s679, q680, h⟩ := p_bdE h
      have t681 := tF_Mo_trace K l v2 (t9 ((p_w (v3 + 1)) : Int).toNat) s672 _ q680
      refine g_callV (a := v2) (ci := 11) (q0 := (RX11, TX11, 90)) (As := [p_i (t9 ((p_w (v3 + 1)) : Int).toNat)]) (rest := [p_i r676]) [p_i r683, p_i r676] mt_Mo_trace rfl rfl tw_9_17 tw_9_18 tw_9_16 ⟨Nat.le_of_ble_eq_true rfl, Nat.le_of_ble_eq_true rfl⟩ rfl (Nat.le_of_ble_eq_true rfl) (dk_La_law 1074 rfl) rfl c678 rfl t681 ?_
      have hs682 : p_x s672 s679 := t681.1
      show p_Go K l m_La_law 1543 [(0, p_s 9), (1, p_r v1), (2, p_r v2), (3, p_i v3)] [p_i r683, p_i r676] s679 _
      refine g_icmp_eq 1701 (dk_La_law 1075 rfl) (by decide) (fun b684 => ?_) (fun b684 => ?_)
      · have h := p_ifT b684 h
        exact tB_La_law_1701 K l n9 t9 he1 he2 k18 hk18 v1 v2 v3 s679 _ h
      · have h := p_ifF b684 h
        refine g_iconst (dk_La_law 1076 rfl) (by decide) ?_
        cases h
        exact g_ret rfl rfl (dk_La_law 1077 rfl) (fun _ => ⟨_, rfl, Or.inl rfl⟩)
    rcases p_iteE h with ⟨b685, h⟩ | ⟨b685, h⟩
    · refine g_tableIn 1548 (dk_La_law 21 rfl) (by omega) (by omega) (by rw [b685]; rfl) (by decide) ?_
      refine g_aload_n (i := 1) (j := 1) (dk_La_law 1078 rfl) rfl rfl ?_
      refine g_aload_nS (i := 0) (j := 0) (dk_La_law 1079 rfl) rfl rfl ?_
      refine g_iload_n (i := 3) (j := 3) (dk_La_law 1080 rfl) rfl rfl ?_
      refine g_iconst (dk_La_law 1081 rfl) (by decide) ?_
      refine g_iadd (dk_La_law 1082 rfl) ?_
      obtain ⟨c686, h⟩ := p_gdE h
      refine g_scr he1 he2 (dk_La_law 1083 rfl) c686.1 c686.2 ?_
      obtain ⟨c687, h⟩ := p_gdE h
      obtain ⟨r692, s688, q689, h⟩ := p_bdE h
      have t690 := tF_SW_jam K l v1 (t9 ((p_w (v3 + 1)) : Int).toNat) s0 _ q689
      refine g_callV (a := v1) (ci := 10) (q0 := (RX10, TX10, 9)) (As := [p_i (t9 ((p_w (v3 + 1)) : Int).toNat)]) (rest := []) [p_i r692] mt_SW_jam rfl rfl tw_5_204 tw_5_205 tw_5_203 ⟨Nat.le_of_ble_eq_true rfl, Nat.le_of_ble_eq_true rfl⟩ rfl (Nat.le_of_ble_eq_true rfl) (dk_La_law 1084 rfl) rfl c687 rfl t690 ?_
      have hs691 : p_x s0 s688 := t690.1
      show p_Go K l m_La_law 1557 [(0, p_s 9), (1, p_r v1), (2, p_r v2), (3, p_i v3)] [p_i r692] s688 _
      refine g_aload_n (i := 2) (j := 2) (dk_La_law 1085 rfl) rfl rfl ?_
      refine g_aload_nS (i := 0) (j := 0) (dk_La_law 1086 rfl) rfl rfl ?_
      refine g_iload_n (i := 3) (j := 3) (dk_La_law 1087 rfl) rfl rfl ?_
      refine g_iconst (dk_La_law 1088 rfl) (by decide) ?_
      refine g_iadd (dk_La_law 1089 rfl) ?_
      obtain ⟨c693, h⟩ := p_gdE h
      refine g_scr he1 he2 (dk_La_law 1090 rfl) c693.1 c693.2 ?_
      obtain ⟨c694, h⟩ := p_gdE h
      obtain ⟨r699, s695, q696, h⟩ := p_bdE h
      have t697 := tF_Mo_jam K l v2 (t9 ((p_w (v3 + 1)) : Int).toNat) s688 _ q696
      refine g_callV (a := v2) (ci := 11) (q0 := (RX11, TX11, 90)) (As := [p_i (t9 ((p_w (v3 + 1)) : Int).toNat)]) (rest := [p_i r692]) [p_i r699, p_i r692] mt_Mo_jam rfl rfl tw_9_21 tw_9_22 tw_9_20 ⟨Nat.le_of_ble_eq_true rfl, Nat.le_of_ble_eq_true rfl⟩ rfl (Nat.le_of_ble_eq_true rfl) (dk_La_law 1091 rfl) rfl c694 rfl t697 ?_
      have hs698 : p_x s688 s695 := t697.1
      show p_Go K l m_La_law 1566 [(0, p_s 9), (1, p_r v1), (2, p_r v2), (3, p_i v3)] [p_i r699, p_i r692] s695 _
      refine g_icmp_eq 1701 (dk_La_law 1092 rfl) (by decide) (fun b700 => ?_) (fun b700 => ?_)
      · have h := p_ifT b700 h
        exact tB_La_law_1701 K l n9 t9 he1 he2 k18 hk18 v1 v2 v3 s695 _ h
      · have h := p_ifF b700 h
        refine g_iconst (dk_La_law 1093 rfl) (by decide) ?_
        cases h
        exact g_ret rfl rfl (dk_La_law 1094 rfl) (fun _ => ⟨_, rfl, Or.inl rfl⟩)
    rcases p_iteE h with ⟨b701, h⟩ | ⟨b701, h⟩
    · refine g_tableIn 1571 (dk_La_law 21 rfl) (by omega) (by omega) (by rw [b701]; rfl) (by decide) ?_
      refine g_aload_n (i := 1) (j := 1) (dk_La_law 1095 rfl) rfl rfl ?_
      refine g_aload_nS (i := 0) (j := 0) (dk_La_law 1096 rfl) rfl rfl ?_
      refine g_iload_n (i := 3) (j := 3) (dk_La_law 1097 rfl) rfl rfl ?_
      refine g_iconst (dk_La_law 1098 rfl) (by decide) ?_
      refine g_iadd (dk_La_law 1099 rfl) ?_
      obtain ⟨c702, h⟩ := p_gdE h
      refine g_scr he1 he2 (dk_La_law 1100 rfl) c702.1 c702.2 ?_
      refine g_aload_nS (i := 0) (j := 0) (dk_La_law 1101 rfl) rfl rfl ?_
      refine g_iload_n (i := 3) (j := 3) (dk_La_law 1102 rfl) rfl rfl ?_
      refine g_iconst (dk_La_law 1103 rfl) (by decide) ?_
      refine g_iadd (dk_La_law 1104 rfl) ?_
      obtain ⟨c703, h⟩ := p_gdE h
      refine g_scr he1 he2 (dk_La_law 1105 rfl) c703.1 c703.2 ?_
      obtain ⟨c704, h⟩ := p_gdE h
      obtain ⟨r709, s705, q706, h⟩ := p_bdE h
      have t707 := tF_SW_far K l v1 (t9 ((p_w (v3 + 1)) : Int).toNat) (t9 ((p_w (v3 + 2)) : Int).toNat) s0 _ q706
      refine g_callV (a := v1) (ci := 10) (q0 := (RX10, TX10, 9)) (As := [p_i (t9 ((p_w (v3 + 1)) : Int).toNat), p_i (t9 ((p_w (v3 + 2)) : Int).toNat)]) (rest := []) [p_i r709] mt_SW_far rfl rfl tw_5_208 tw_5_209 tw_5_207 ⟨Nat.le_of_ble_eq_true rfl, Nat.le_of_ble_eq_true rfl⟩ rfl (Nat.le_of_ble_eq_true rfl) (dk_La_law 1106 rfl) rfl c704 rfl t707 ?_
      have hs708 : p_x s0 s705 := t707.1
      show p_Go K l m_La_law 1585 [(0, p_s 9), (1, p_r v1), (2, p_r v2), (3, p_i v3)] [p_i r709] s705 _
      refine g_aload_n (i := 2) (j := 2) (dk_La_law 1107 rfl) rfl rfl ?_
      refine g_aload_nS (i := 0) (j := 0) (dk_La_law 1108 rfl) rfl rfl ?_
      refine g_iload_n (i := 3) (j := 3) (dk_La_law 1109 rfl) rfl rfl ?_
      refine g_iconst (dk_La_law 1110 rfl) (by decide) ?_
      refine g_iadd (dk_La_law 1111 rfl) ?_
      obtain ⟨c710, h⟩ := p_gdE h
      refine g_scr he1 he2 (dk_La_law 1112 rfl) c710.1 c710.2 ?_
      refine g_aload_nS (i := 0) (j := 0) (dk_La_law 1113 rfl) rfl rfl ?_
      refine g_iload_n (i := 3) (j := 3) (dk_La_law 1114 rfl) rfl rfl ?_
      refine g_iconst (dk_La_law 1115 rfl) (by decide) ?_
      refine g_iadd (dk_La_law 1116 rfl) ?_
      obtain ⟨c711, h⟩ := p_gdE h
      refine g_scr he1 he2 (dk_La_law 1117 rfl) c711.1 c711.2 ?_
      obtain ⟨c712, h⟩ := p_gdE h
      obtain ⟨r717, s713, q714, h⟩ := p_bdE h
      have t715 := tF_Mo_far K l v2 (t9 ((p_w (v3 + 1)) : Int).toNat) (t9 ((p_w (v3 + 2)) : Int).toNat) s705 _ q714
      refine g_callV (a := v2) (ci := 11) (q0 := (RX11, TX11, 90)) (As := [p_i (t9 ((p_w (v3 + 1)) : Int).toNat), p_i (t9 ((p_w (v3 + 2)) : Int).toNat)]) (rest := [p_i r709]) [p_i r717, p_i r709] mt_Mo_far rfl rfl tw_9_25 tw_9_26 tw_9_24 ⟨Nat.le_of_ble_eq_true rfl, Nat.le_of_ble_eq_true rfl⟩ rfl (Nat.le_of_ble_eq_true rfl) (dk_La_law 1118 rfl) rfl c712 rfl t715 ?_
      have hs716 : p_x s705 s713 := t715.1
      show p_Go K l m_La_law 1599 [(0, p_s 9), (1, p_r v1), (2, p_r v2), (3, p_i v3)] [p_i r717, p_i r709] s713 _
      refine g_icmp_eq 1701 (dk_La_law 1119 rfl) (by decide) (fun b718 => ?_) (fun b718 => ?_)
      · have h := p_ifT b718 h
        exact tB_La_law_1701 K l n9 t9 he1 he2 k18 hk18 v1 v2 v3 s713 _ h
      · have h := p_ifF b718 h
        refine g_iconst (dk_La_law 1120 rfl) (by decide) ?_
        cases h
        exact g_ret rfl rfl (dk_La_law 1121 rfl) (fun _ => ⟨_, rfl, Or.inl rfl⟩)
    rcases p_iteE h with ⟨b719, h⟩ | ⟨b719, h⟩
    · refine g_tableIn 1604 (dk_La_law 21 rfl) (by omega) (by omega) (by rw [b719]; rfl) (by decide) ?_
      refine g_aload_n (i := 1) (j := 1) (dk_La_law 1122 rfl) rfl rfl ?_
      refine g_aload_nS (i := 0) (j := 0) (dk_La_law 1123 rfl) rfl rfl ?_
      refine g_iload_n (i := 3) (j := 3) (dk_La_law 1124 rfl) rfl rfl ?_
      refine g_iconst (dk_La_law 1125 rfl) (by decide) ?_
      refine g_iadd (dk_La_law 1126 rfl) ?_
      obtain ⟨c720, h⟩ := p_gdE h
      refine g_scr he1 he2 (dk_La_law 1127 rfl) c720.1 c720.2 ?_
      obtain ⟨c721, h⟩ := p_gdE h
      obtain ⟨r726, s722, q723, h⟩ := p_bdE h
      have t724 := tF_SW_reach K l v1 (t9 ((p_w (v3 + 1)) : Int).toNat) s0 _ q723
      refine g_callV (a := v1) (ci := 10) (q0 := (RX10, TX10, 9)) (As := [p_i (t9 ((p_w (v3 + 1)) : Int).toNat)]) (rest := []) [p_j r726] mt_SW_reach rfl rfl tw_5_228 tw_5_229 tw_5_227 ⟨Nat.le_of_ble_eq_true rfl, Nat.le_of_ble_eq_true rfl⟩ rfl (Nat.le_of_ble_eq_true rfl) (dk_La_law 1128 rfl) rfl c721 rfl t724 ?_
      have hs725 : p_x s0 s722 := t724.1
      show p_Go K l m_La_law 1613 [(0, p_s 9), (1, p_r v1), (2, p_r v2), (3, p_i v3)] [p_j r726] s722 _
      refine g_aload_n (i := 2) (j := 2) (dk_La_law 1129 rfl) rfl rfl ?_
      refine g_aload_nS (i := 0) (j := 0) (dk_La_law 1130 rfl) rfl rfl ?_
      refine g_iload_n (i := 3) (j := 3) (dk_La_law 1131 rfl) rfl rfl ?_
      refine g_iconst (dk_La_law 1132 rfl) (by decide) ?_
      refine g_iadd (dk_La_law 1133 rfl) ?_
      obtain ⟨c727, h⟩ := p_gdE h
      refine g_scr he1 he2 (dk_La_law 1134 rfl) c727.1 c727.2 ?_
      obtain ⟨c728, h⟩ := p_gdE h
      obtain ⟨r733, s729, q730, h⟩ := p_bdE h
      have t731 := tF_Mo_reach K l v2 (t9 ((p_w (v3 + 1)) : Int).toNat) s722 _ q730
      refine g_callV (a := v2) (ci := 11) (q0 := (RX11, TX11, 90)) (As := [p_i (t9 ((p_w (v3 + 1)) : Int).toNat)]) (rest := [p_j r726]) [p_j r733, p_j r726] mt_Mo_reach rfl rfl tw_9_37 tw_9_38 tw_9_36 ⟨Nat.le_of_ble_eq_true rfl, Nat.le_of_ble_eq_true rfl⟩ rfl (Nat.le_of_ble_eq_true rfl) (dk_La_law 1135 rfl) rfl c728 rfl t731 ?_
      have hs732 : p_x s722 s729 := t731.1
      show p_Go K l m_La_law 1622 [(0, p_s 9), (1, p_r v1), (2, p_r v2), (3, p_i v3)] [p_j r733, p_j r726] s729 _
      refine g_lcmp (dk_La_law 1136 rfl) ?_
      refine g_if_eq 1701 (dk_La_law 1137 rfl) (by decide) (fun b734 => ?_) (fun b734 => ?_)
      · have h := p_ifT b734 h
        exact tB_La_law_1701 K l n9 t9 he1 he2 k18 hk18 v1 v2 v3 s729 _ h
      · have h := p_ifF b734 h
        refine g_iconst (dk_La_law 1138 rfl) (by decide) ?_
        cases h
        exact g_ret rfl rfl (dk_La_law 1139 rfl) (fun _ => ⟨_, rfl, Or.inl rfl⟩)
    rcases p_iteE h with ⟨b735, h⟩ | ⟨b735, h⟩
    · refine g_tableIn 1628 (dk_La_law 21 rfl) (by omega) (by omega) (by rw [b735]; rfl) (by decide) ?_
      refine g_aload_n (i := 1) (j := 1) (dk_La_law 1140 rfl) rfl rfl ?_
      refine g_aload_nS (i := 0) (j := 0) (dk_La_law 1141 rfl) rfl rfl ?_
      refine g_iload_n (i := 3) (j := 3) (dk_La_law 1142 rfl) rfl rfl ?_
      refine g_iconst (dk_La_law 1143 rfl) (by decide) ?_
      refine g_iadd (dk_La_law 1144 rfl) ?_
      obtain ⟨c736, h⟩ := p_gdE h
      refine g_scr he1 he2 (dk_La_law 1145 rfl) c736.1 c736.2 ?_
      obtain ⟨c737, h⟩ := p_gdE h
      obtain ⟨r742, s738, q739, h⟩ := p_bdE h
      have t740 := tF_SW_ring K l v1 (t9 ((p_w (v3 + 1)) : Int).toNat) s0 _ q739
      refine g_callV (a := v1) (ci := 10) (q0 := (RX10, TX10, 9)) (As := [p_i (t9 ((p_w (v3 + 1)) : Int).toNat)]) (rest := []) [p_i r742] mt_SW_ring rfl rfl tw_5_234 tw_5_235 tw_5_233 ⟨Nat.le_of_ble_eq_true rfl, Nat.le_of_ble_eq_true rfl⟩ rfl (Nat.le_of_ble_eq_true rfl) (dk_La_law 1146 rfl) rfl c737 rfl t740 ?_
      have hs741 : p_x s0 s738 := t740.1
      show p_Go K l m_La_law 1637 [(0, p_s 9), (1, p_r v1), (2, p_r v2), (3, p_i v3)] [p_i r742] s738 _
      refine g_aload_n (i := 2) (j := 2) (dk_La_law 1147 rfl) rfl rfl ?_
      refine g_aload_nS (i := 0) (j := 0) (dk_La_law 1148 rfl) rfl rfl ?_
      refine g_iload_n (i := 3) (j := 3) (dk_La_law 1149 rfl) rfl rfl ?_
      refine g_iconst (dk_La_law 1150 rfl) (by decide) ?_
      refine g_iadd (dk_La_law 1151 rfl) ?_
      obtain ⟨c743, h⟩ := p_gdE h
      refine g_scr he1 he2 (dk_La_law 1152 rfl) c743.1 c743.2 ?_
      obtain ⟨c744, h⟩ := p_gdE h
      obtain ⟨r749, s745, q746, h⟩ := p_bdE h
      have t747 := tF_Mo_ring K l v2 (t9 ((p_w (v3 + 1)) : Int).toNat) s738 _ q746
      refine g_callV (a := v2) (ci := 11) (q0 := (RX11, TX11, 90)) (As := [p_i (t9 ((p_w (v3 + 1)) : Int).toNat)]) (rest := [p_i r742]) [p_i r749, p_i r742] mt_Mo_ring rfl rfl tw_9_41 tw_9_42 tw_9_40 ⟨Nat.le_of_ble_eq_true rfl, Nat.le_of_ble_eq_true rfl⟩ rfl (Nat.le_of_ble_eq_true rfl) (dk_La_law 1153 rfl) rfl c744 rfl t747 ?_
      have hs748 : p_x s738 s745 := t747.1
      show p_Go K l m_La_law 1646 [(0, p_s 9), (1, p_r v1), (2, p_r v2), (3, p_i v3)] [p_i r749, p_i r742] s745 _
      refine g_icmp_eq 1701 (dk_La_law 1154 rfl) (by decide) (fun b750 => ?_) (fun b750 => ?_)
      · have h := p_ifT b750 h
        exact tB_La_law_1701 K l n9 t9 he1 he2 k18 hk18 v1 v2 v3 s745 _ h
      · have h := p_ifF b750 h
        refine g_iconst (dk_La_law 1155 rfl) (by decide) ?_
        cases h
        exact g_ret rfl rfl (dk_La_law 1156 rfl) (fun _ => ⟨_, rfl, Or.inl rfl⟩)
    rcases p_iteE h with ⟨b751, h⟩ | ⟨b751, h⟩
    · refine g_tableIn 1651 (dk_La_law 21 rfl) (by omega) (by omega) (by rw [b751]; rfl) (by decide) ?_
      refine g_aload_n (i := 1) (j := 1) (dk_La_law 1157 rfl) rfl rfl ?_
      obtain ⟨c752, h⟩ := p_gdE h
      obtain ⟨r757, s753, q754, h⟩ := p_bdE h
      have t755 := tF_SW_audit K l v1 s0 _ q754
      refine g_callV (a := v1) (ci := 10) (q0 := (RX10, TX10, 9)) (As := []) (rest := []) [p_i r757] mt_SW_audit rfl rfl tw_5_238 tw_5_239 tw_5_237 ⟨Nat.le_of_ble_eq_true rfl, Nat.le_of_ble_eq_true rfl⟩ rfl (Nat.le_of_ble_eq_true rfl) (dk_La_law 1158 rfl) rfl c752 rfl t755 ?_
      have hs756 : p_x s0 s753 := t755.1
      show p_Go K l m_La_law 1655 [(0, p_s 9), (1, p_r v1), (2, p_r v2), (3, p_i v3)] [p_i r757] s753 _
      refine g_aload_n (i := 2) (j := 2) (dk_La_law 1159 rfl) rfl rfl ?_
      obtain ⟨c758, h⟩ := p_gdE h
      obtain ⟨r763, s759, q760, h⟩ := p_bdE h
      have t761 := tF_Mo_audit K l v2 s753 _ q760
      refine g_callV (a := v2) (ci := 11) (q0 := (RX11, TX11, 90)) (As := []) (rest := [p_i r757]) [p_i r763, p_i r757] mt_Mo_audit rfl rfl tw_9_45 tw_9_46 tw_9_44 ⟨Nat.le_of_ble_eq_true rfl, Nat.le_of_ble_eq_true rfl⟩ rfl (Nat.le_of_ble_eq_true rfl) (dk_La_law 1160 rfl) rfl c758 rfl t761 ?_
      have hs762 : p_x s753 s759 := t761.1
      show p_Go K l m_La_law 1659 [(0, p_s 9), (1, p_r v1), (2, p_r v2), (3, p_i v3)] [p_i r763, p_i r757] s759 _
      refine g_icmp_eq 1701 (dk_La_law 1161 rfl) (by decide) (fun b764 => ?_) (fun b764 => ?_)
      · have h := p_ifT b764 h
        exact tB_La_law_1701 K l n9 t9 he1 he2 k18 hk18 v1 v2 v3 s759 _ h
      · have h := p_ifF b764 h
        refine g_iconst (dk_La_law 1162 rfl) (by decide) ?_
        cases h
        exact g_ret rfl rfl (dk_La_law 1163 rfl) (fun _ => ⟨_, rfl, Or.inl rfl⟩)
    rcases p_iteE h with ⟨b765, h⟩ | ⟨b765, h⟩
    · refine g_tableIn 1664 (dk_La_law 21 rfl) (by omega) (by omega) (by rw [b765]; rfl) (by decide) ?_
      refine g_aload_n (i := 1) (j := 1) (dk_La_law 1164 rfl) rfl rfl ?_
      refine g_aload_nS (i := 0) (j := 0) (dk_La_law 1165 rfl) rfl rfl ?_
      refine g_iload_n (i := 3) (j := 3) (dk_La_law 1166 rfl) rfl rfl ?_
      refine g_iconst (dk_La_law 1167 rfl) (by decide) ?_
      refine g_iadd (dk_La_law 1168 rfl) ?_
      obtain ⟨c766, h⟩ := p_gdE h
      refine g_scr he1 he2 (dk_La_law 1169 rfl) c766.1 c766.2 ?_
      obtain ⟨c767, h⟩ := p_gdE h
      obtain ⟨r772, s768, q769, h⟩ := p_bdE h
      have t770 := tF_SW_count K l v1 (t9 ((p_w (v3 + 1)) : Int).toNat) s0 _ q769
      refine g_callV (a := v1) (ci := 10) (q0 := (RX10, TX10, 9)) (As := [p_i (t9 ((p_w (v3 + 1)) : Int).toNat)]) (rest := []) [p_i r772] mt_SW_count rfl rfl tw_6_2 tw_6_3 tw_6_1 ⟨Nat.le_of_ble_eq_true rfl, Nat.le_of_ble_eq_true rfl⟩ rfl (Nat.le_of_ble_eq_true rfl) (dk_La_law 1170 rfl) rfl c767 rfl t770 ?_
      have hs771 : p_x s0 s768 := t770.1
      show p_Go K l m_La_law 1673 [(0, p_s 9), (1, p_r v1), (2, p_r v2), (3, p_i v3)] [p_i r772] s768 _
      refine g_aload_n (i := 2) (j := 2) (dk_La_law 1171 rfl) rfl rfl ?_
      refine g_aload_nS (i := 0) (j := 0) (dk_La_law 1172 rfl) rfl rfl ?_
      refine g_iload_n (i := 3) (j := 3) (dk_La_law 1173 rfl) rfl rfl ?_
      refine g_iconst (dk_La_law 1174 rfl) (by decide) ?_
      refine g_iadd (dk_La_law 1175 rfl) ?_
      obtain ⟨c773, h⟩ := p_gdE h
      refine g_scr he1 he2 (dk_La_law 1176 rfl) c773.1 c773.2 ?_
      obtain ⟨c774, h⟩ := p_gdE h
      obtain ⟨r779, s775, q776, h⟩ := p_bdE h
      have t777 := tF_Mo_count K l v2 (t9 ((p_w (v3 + 1)) : Int).toNat) s768 _ q776
      refine g_callV (a := v2) (ci := 11) (q0 := (RX11, TX11, 90)) (As := [p_i (t9 ((p_w (v3 + 1)) : Int).toNat)]) (rest := [p_i r772]) [p_i r779, p_i r772] mt_Mo_count rfl rfl tw_9_49 tw_9_50 tw_9_48 ⟨Nat.le_of_ble_eq_true rfl, Nat.le_of_ble_eq_true rfl⟩ rfl (Nat.le_of_ble_eq_true rfl) (dk_La_law 1177 rfl) rfl c774 rfl t777 ?_
      have hs778 : p_x s768 s775 := t777.1
      show p_Go K l m_La_law 1682 [(0, p_s 9), (1, p_r v1), (2, p_r v2), (3, p_i v3)] [p_i r779, p_i r772] s775 _
      refine g_icmp_eq 1701 (dk_La_law 1178 rfl) (by decide) (fun b780 => ?_) (fun b780 => ?_)
      · have h := p_ifT b780 h
        exact tB_La_law_1701 K l n9 t9 he1 he2 k18 hk18 v1 v2 v3 s775 _ h
      · have h := p_ifF b780 h
        refine g_iconst (dk_La_law 1179 rfl) (by decide) ?_
        cases h
        exact g_ret rfl rfl (dk_La_law 1180 rfl) (fun _ => ⟨_, rfl, Or.inl rfl⟩)
    rcases p_iteE h with ⟨b781, h⟩ | ⟨b781, h⟩
    · refine g_tableIn 1687 (dk_La_law 21 rfl) (by omega) (by omega) (by rw [b781]; rfl) (by decide) ?_
      refine g_aload_n (i := 1) (j := 1) (dk_La_law 1181 rfl) rfl rfl ?_
      obtain ⟨c782, h⟩ := p_gdE h
      obtain ⟨r787, s783, q784, h⟩ := p_bdE h
      have t785 := tF_SW_digest K l v1 s0 _ q784
      refine g_callV (a := v1) (ci := 10) (q0 := (RX10, TX10, 9)) (As := []) (rest := []) [p_j r787] mt_SW_digest rfl rfl tw_6_6 tw_6_7 tw_6_5 ⟨Nat.le_of_ble_eq_true rfl, Nat.le_of_ble_eq_true rfl⟩ rfl (Nat.le_of_ble_eq_true rfl) (dk_La_law 1182 rfl) rfl c782 rfl t785 ?_
      have hs786 : p_x s0 s783 := t785.1
      show p_Go K l m_La_law 1691 [(0, p_s 9), (1, p_r v1), (2, p_r v2), (3, p_i v3)] [p_j r787] s783 _
      refine g_aload_n (i := 2) (j := 2) (dk_La_law 1183 rfl) rfl rfl ?_
      obtain ⟨c788, h⟩ := p_gdE h
      obtain ⟨r793, s789, q790, h⟩ := p_bdE h
      have t791 := tF_Mo_digest K l v2 s783 _ q790
      refine g_callV (a := v2) (ci := 11) (q0 := (RX11, TX11, 90)) (As := []) (rest := [p_j r787]) [p_j r793, p_j r787] mt_Mo_digest rfl rfl tw_9_53 tw_9_54 tw_9_52 ⟨Nat.le_of_ble_eq_true rfl, Nat.le_of_ble_eq_true rfl⟩ rfl (Nat.le_of_ble_eq_true rfl) (dk_La_law 1184 rfl) rfl c788 rfl t791 ?_
      have hs792 : p_x s783 s789 := t791.1
      show p_Go K l m_La_law 1695 [(0, p_s 9), (1, p_r v1), (2, p_r v2), (3, p_i v3)] [p_j r793, p_j r787] s789 _
      refine g_lcmp (dk_La_law 1185 rfl) ?_
      refine g_if_eq 1701 (dk_La_law 1186 rfl) (by decide) (fun b794 => ?_) (fun b794 => ?_)
      · have h := p_ifT b794 h
        exact tB_La_law_1701 K l n9 t9 he1 he2 k18 hk18 v1 v2 v3 s789 _ h
      · have h := p_ifF b794 h
        refine g_iconst (dk_La_law 1187 rfl) (by decide) ?_
        cases h
        exact g_ret rfl rfl (dk_La_law 1188 rfl) (fun _ => ⟨_, rfl, Or.inl rfl⟩)
    refine g_tableOut 1701 (dk_La_law 21 rfl) (by omega) (by decide) ?_
    exact tB_La_law_1701 K l n9 t9 he1 he2 k18 hk18 v1 v2 v3 s0 _ h
set_option maxRecDepth 100000 in
set_option maxHeartbeats 4000000 in
theorem tO_La_law_18 (K : p_K) (l : Launch) (n9 : Nat) (t9 : Nat → Int) (he1 : n9 = p_tl K 9) (he2 : t9 = p_tv K 9)  : ∀ (n : Nat) (v1 : Nat) (v2 : Nat) (v3 : Int) (s0 : p_Hp) (r : (Int × p_Hp)), O_La_law_18 n9 t9 n v1 v2 v3 s0 = some r → p_Go K l m_La_law 18 [(0, p_s 9), (1, p_r v1), (2, p_r v2), (3, p_i v3)] [] s0 (some (p_i r.1), r.2) := by
  intro n
  induction n with
  | zero => intro v1 v2 v3 s0 r h; cases (show (none : Option (Int × p_Hp)) = some r from h)
  | succ n ih => intro v1 v2 v3 s0 r h; exact tL_La_law_18 K l n9 t9 he1 he2 _ ih v1 v2 v3 s0 r h
set_option maxRecDepth 100000 in
set_option maxHeartbeats 4000000 in
theorem tF_La_law (K : p_K) (l : Launch) (n9 : Nat) (t9 : Nat → Int) (he1 : n9 = p_tl K 9) (he2 : t9 = p_tv K 9) (s0 : p_Hp) (r : (Int × p_Hp)) (h : F_La_law n9 t9 s0 = some r) : p_Go K l m_La_law 0 [(0, p_s 9)] [] s0 (some (p_i r.1), r.2) := by
  unfold F_La_law at h
  refine g_new cl_10 tw_1_17 (dk_La_law 0 rfl) ?_
  refine p_ltS (P := fun q => p_Go K l m_La_law 3 [(0, p_s 9)] [p_r (p_N s0 + 1)] q _) (p_x_nw _ _ _) ?_ h
  intro s1 hs2 h
  refine g_dup (dk_La_law 1 rfl) rfl ?_
  obtain ⟨s3, q4, h⟩ := p_bvE h
  have t5 := tF_SW_init K l (p_N s0 + 1) s1 _ q4
  refine g_callI (a := (p_N s0 + 1)) (As := []) (rest := [p_r (p_N s0 + 1)]) [p_r (p_N s0 + 1)] mt_SW_init tw_1_20 tw_1_19 rfl rfl ⟨Nat.le_of_ble_eq_true rfl, Nat.le_of_ble_eq_true rfl⟩ rfl (Nat.le_of_ble_eq_true rfl) (dk_La_law 2 rfl) rfl (Nat.le_add_left _ _) rfl t5 ?_
  have hs6 : p_x s1 s3 := t5.1
  show p_Go K l m_La_law 7 [(0, p_s 9)] [p_r (p_N s0 + 1)] s3 _
  refine g_astore_n (i := 1) [(1, p_r (p_N s0 + 1)), (0, p_s 9)] (dk_La_law 3 rfl) rfl (by decide) rfl ?_
  refine p_ltG (P := fun q => p_Go K l m_La_law 8 [(1, p_r q), (0, p_s 9)] [] s3 _) ?_ h
  intro x7 h
  refine g_new cl_11 tw_6_18 (dk_La_law 4 rfl) ?_
  refine p_ltS (P := fun q => p_Go K l m_La_law 11 [(1, p_r x7), (0, p_s 9)] [p_r (p_N s3 + 1)] q _) (p_x_nw _ _ _) ?_ h
  intro s8 hs9 h
  refine g_dup (dk_La_law 5 rfl) rfl ?_
  obtain ⟨s10, q11, h⟩ := p_bvE h
  have t12 := tF_Mo_init K l (p_N s3 + 1) s8 _ q11
  refine g_callI (a := (p_N s3 + 1)) (As := []) (rest := [p_r (p_N s3 + 1)]) [p_r (p_N s3 + 1)] mt_Mo_init tw_6_21 tw_6_20 rfl rfl ⟨Nat.le_of_ble_eq_true rfl, Nat.le_of_ble_eq_true rfl⟩ rfl (Nat.le_of_ble_eq_true rfl) (dk_La_law 6 rfl) rfl (Nat.le_add_left _ _) rfl t12 ?_
  have hs13 : p_x s8 s10 := t12.1
  show p_Go K l m_La_law 15 [(1, p_r x7), (0, p_s 9)] [p_r (p_N s3 + 1)] s10 _
  refine g_astore_n (i := 2) [(2, p_r (p_N s3 + 1)), (1, p_r x7), (0, p_s 9)] (dk_La_law 7 rfl) rfl (by decide) rfl ?_
  refine p_ltG (P := fun q => p_Go K l m_La_law 16 [(2, p_r q), (1, p_r x7), (0, p_s 9)] [] s10 _) ?_ h
  intro x14 h
  refine g_iconst (dk_La_law 8 rfl) (by decide) ?_
  refine g_istore_n (i := 3) [(3, p_i 0), (2, p_r x14), (1, p_r x7), (0, p_s 9)] (dk_La_law 9 rfl) rfl (by decide) rfl ?_
  refine g_sub [(0, p_s 9), (1, p_r x7), (2, p_r x14), (3, p_i 0)] [3, 2, 1, 0] rfl ?_
  exact tO_La_law_18 K l n9 t9 he1 he2 3000 x7 x14 0 s10 _ h
