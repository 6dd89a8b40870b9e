def m_Step_isReadyToGive : p_Me := (⟨"SortWorks$Step", "isReadyToGive", "(LSortWorks$Gear;)Z"⟩, prog_10_method_11_code, 2, (some .boolean), 2, 43)
theorem mt_Step_isReadyToGive : p_Mt m_Step_isReadyToGive 1 := ⟨p_mem (p_tb4 (List.mem_of_getElem? (i := 194) rfl)) rfl, tw_1_9, by decide +kernel, by decide +kernel, by decide +kernel⟩
def dt_Step_isReadyToGive : List (Nat × Instr × Nat) := [(0, .aload_n 1, 1), (1, .invokevirtual 178, 3), (4, .ifCond .eq 42, 3), (7, .aload_n 1, 1), (8, .getfield 97, 3), (11, .bipush 7, 2), (13, .if_icmp .eq 33, 3), (16, .aload_n 0, 1), (17, .aload_n 1, 1), (18, .invokevirtual 86, 3), (21, .ifCond .eq 25, 3), (24, .aload_n 0, 1), (25, .getfield 28, 3), (28, .aload_n 1, 1), (29, .invokevirtual 181, 3), (32, .ifnull 14, 3), (35, .aload_n 1, 1), (36, .invokevirtual 185, 3), (39, .ifCond .ne 7, 3), (42, .iconst 1, 1), (43, .goto 4, 3), (46, .iconst 0, 1), (47, .ireturn, 1)]
theorem dk_Step_isReadyToGive (i : Nat) {pc : Nat} {ins : Instr} {len : Nat} (h : dt_Step_isReadyToGive[i]? = some (pc, ins, len)) : decode m_Step_isReadyToGive.2.1 pc = .ok (ins, len) := p_dk (b := m_Step_isReadyToGive.2.1) (t := dt_Step_isReadyToGive) (by decide +kernel) i h
def F_Step_isReadyToGive (v0 : Nat) (v1 : Nat) (s0 : p_Hp) : Option (Int × p_Hp) :=
  p_gd (p_is s0 v1 0) <|
  p_bd (F_Gear_isTaker v1 s0) fun r6 s2 =>
  if r6 = 0 then
    some (0, s2)
  else
    if (p_Z s2 v1 0) = 7 then
      some (0, s2)
    else
      p_gd (p_is s2 v0 8) <|
      p_bd (F_Step_isInStep v0 v1 s2) fun r14 s10 =>
      if r14 = 0 then
        some (0, s10)
      else
        p_gd (p_is s10 (p_R s10 v0 3) 7) <|
        p_bd (F_State_inLastSlot (p_R s10 v0 3) v1 s10) fun r21 s17 =>
        if r21 = 0 then
          some (0, s17)
        else
          p_bd (F_Gear_isHeld v1 s17) fun r27 s23 =>
          if r27 ≠ 0 then
            some (0, s23)
          else
            some (1, s23)
set_option maxRecDepth 100000 in
set_option maxHeartbeats 4000000 in
theorem tF_Step_isReadyToGive (K : p_K) (l : Launch) (v0 : Nat) (v1 : Nat) (s0 : p_Hp) (r : (Int × p_Hp)) (h : F_Step_isReadyToGive v0 v1 s0 = some r) : p_Ct K l m_Step_isReadyToGive [p_r v0, p_r v1] s0 (some (p_i r.1), r.2) := by
  refine p_Ct.of (by decide +kernel) (Nat.le_of_ble_eq_true rfl) ?_
  unfold F_Step_isReadyToGive at h
  show p_Go K l m_Step_isReadyToGive 0 [(0, p_r v0), (1, p_r v1)] [] s0 _
  refine g_aload_n (i := 1) (j := 1) (dk_Step_isReadyToGive 0 rfl) rfl rfl ?_
  obtain ⟨c1, h⟩ := p_gdE h
  obtain ⟨r6, s2, q3, h⟩ := p_bdE h
  have t4 := tF_Gear_isTaker K l v1 s0 _ q3
  refine g_callV (a := v1) (ci := 0) (q0 := (RX0, TX0, 20)) (As := []) (rest := []) [p_i r6] mt_Gear_isTaker rfl rfl tw_3_142 tw_3_143 tw_4_195 ⟨Nat.le_of_ble_eq_true rfl, Nat.le_of_ble_eq_true rfl⟩ rfl (Nat.le_of_ble_eq_true rfl) (dk_Step_isReadyToGive 1 rfl) rfl c1 rfl t4 ?_
  have hs5 : p_x s0 s2 := t4.1
  show p_Go K l m_Step_isReadyToGive 4 [(0, p_r v0), (1, p_r v1)] [p_i r6] s2 _
  refine g_if_eq 46 (dk_Step_isReadyToGive 2 rfl) (by decide) (fun b7 => ?_) (fun b7 => ?_)
  · have h := p_ifT b7 h
    refine g_iconst (dk_Step_isReadyToGive 21 rfl) (by decide) ?_
    cases h
    exact g_ret rfl rfl (dk_Step_isReadyToGive 22 rfl) (fun _ => ⟨_, rfl, Or.inl rfl⟩)
  · have h := p_ifF b7 h
    refine g_aload_n (i := 1) (j := 1) (dk_Step_isReadyToGive 3 rfl) rfl rfl ?_
    refine g_getI fl_Step_97 (Or.inl rfl) (dk_Step_isReadyToGive 4 rfl) (c1.up hs5) ?_
    refine g_bipush (dk_Step_isReadyToGive 5 rfl) (by decide +kernel) (by decide) ?_
    refine g_icmp_eq 46 (dk_Step_isReadyToGive 6 rfl) (by decide) (fun b8 => ?_) (fun b8 => ?_)
    · have h := p_ifT b8 h
      refine g_iconst (dk_Step_isReadyToGive 21 rfl) (by decide) ?_
      cases h
      exact g_ret rfl rfl (dk_Step_isReadyToGive 22 rfl) (fun _ => ⟨_, rfl, Or.inl rfl⟩)
    · have h := p_ifF b8 h
      refine g_aload_n (i := 0) (j := 0) (dk_Step_isReadyToGive 7 rfl) rfl rfl ?_
      refine g_aload_n (i := 1) (j := 1) (dk_Step_isReadyToGive 8 rfl) rfl rfl ?_
      obtain ⟨c9, h⟩ := p_gdE h
      obtain ⟨r14, s10, q11, h⟩ := p_bdE h
      have t12 := tF_Step_isInStep K l v0 v1 s2 _ q11
      refine g_callV (a := v0) (ci := 8) (q0 := (RX8, TX8, 5)) (As := [p_r v1]) (rest := []) [p_i r14] mt_Step_isInStep rfl rfl tw_4_198 ts_19 tw_4_196 ⟨Nat.le_of_ble_eq_true rfl, Nat.le_of_ble_eq_true rfl⟩ rfl (Nat.le_of_ble_eq_true rfl) (dk_Step_isReadyToGive 9 rfl) rfl c9 rfl t12 ?_
      have hs13 : p_x s2 s10 := t12.1
      show p_Go K l m_Step_isReadyToGive 21 [(0, p_r v0), (1, p_r v1)] [p_i r14] s10 _
      refine g_if_eq 46 (dk_Step_isReadyToGive 10 rfl) (by decide) (fun b15 => ?_) (fun b15 => ?_)
      · have h := p_ifT b15 h
        refine g_iconst (dk_Step_isReadyToGive 21 rfl) (by decide) ?_
        cases h
        exact g_ret rfl rfl (dk_Step_isReadyToGive 22 rfl) (fun _ => ⟨_, rfl, Or.inl rfl⟩)
      · have h := p_ifF b15 h
        refine g_aload_n (i := 0) (j := 0) (dk_Step_isReadyToGive 11 rfl) rfl rfl ?_
        refine g_getR fl_Step_28 (Or.inl ⟨_, rfl⟩) (dk_Step_isReadyToGive 12 rfl) (c9.up hs13) ?_
        refine g_aload_n (i := 1) (j := 1) (dk_Step_isReadyToGive 13 rfl) rfl rfl ?_
        obtain ⟨c16, h⟩ := p_gdE h
        obtain ⟨r21, s17, q18, h⟩ := p_bdE h
        have t19 := tF_State_inLastSlot K l (p_R s10 v0 3) v1 s10 _ q18
        refine g_callV (a := (p_R s10 v0 3)) (ci := 7) (q0 := (RX7, TX7, 10)) (As := [p_r v1]) (rest := []) [p_r r21] mt_State_inLastSlot rfl rfl tw_4_66 tw_4_67 tw_4_202 ⟨Nat.le_of_ble_eq_true rfl, Nat.le_of_ble_eq_true rfl⟩ rfl (Nat.le_of_ble_eq_true rfl) (dk_Step_isReadyToGive 14 rfl) rfl c16 rfl t19 ?_
        have hs20 : p_x s10 s17 := t19.1
        show p_Go K l m_Step_isReadyToGive 32 [(0, p_r v0), (1, p_r v1)] [p_r r21] s17 _
        refine g_ifnull 46 (dk_Step_isReadyToGive 15 rfl) (by decide) (fun b22 => ?_) (fun b22 => ?_)
        · have h := p_ifT b22 h
          refine g_iconst (dk_Step_isReadyToGive 21 rfl) (by decide) ?_
          cases h
          exact g_ret rfl rfl (dk_Step_isReadyToGive 22 rfl) (fun _ => ⟨_, rfl, Or.inl rfl⟩)
        · have h := p_ifF b22 h
          refine g_aload_n (i := 1) (j := 1) (dk_Step_isReadyToGive 16 rfl) rfl rfl ?_
          obtain ⟨r27, s23, q24, h⟩ := p_bdE h
          have t25 := tF_Gear_isHeld K l v1 s17 _ q24
          refine g_callV (a := v1) (ci := 0) (q0 := (RX0, TX0, 20)) (As := []) (rest := []) [p_i r27] mt_Gear_isHeld rfl rfl tw_4_204 tw_4_205 tw_4_203 ⟨Nat.le_of_ble_eq_true rfl, Nat.le_of_ble_eq_true rfl⟩ rfl (Nat.le_of_ble_eq_true rfl) (dk_Step_isReadyToGive 17 rfl) rfl (c1.up (hs5.trans (hs13.trans hs20))) rfl t25 ?_
          have hs26 : p_x s17 s23 := t25.1
          show p_Go K l m_Step_isReadyToGive 39 [(0, p_r v0), (1, p_r v1)] [p_i r27] s23 _
          refine g_if_ne 46 (dk_Step_isReadyToGive 18 rfl) (by decide) (fun b28 => ?_) (fun b28 => ?_)
          · have h := p_ifT b28 h
            refine g_iconst (dk_Step_isReadyToGive 21 rfl) (by decide) ?_
            cases h
            exact g_ret rfl rfl (dk_Step_isReadyToGive 22 rfl) (fun _ => ⟨_, rfl, Or.inl rfl⟩)
          · have h := p_ifF b28 h
            refine g_iconst (dk_Step_isReadyToGive 19 rfl) (by decide) ?_
            refine g_goto 47 (dk_Step_isReadyToGive 20 rfl) (by decide) ?_
            cases h
            exact g_ret rfl rfl (dk_Step_isReadyToGive 22 rfl) (fun _ => ⟨_, rfl, Or.inr rfl⟩)
def m_Step_letMergesChoose : p_Me := (⟨"SortWorks$Step", "letMergesChoose", "()V"⟩, prog_10_method_10_code, 3, none, 3, 64)
theorem mt_Step_letMergesChoose : p_Mt m_Step_letMergesChoose 0 := ⟨p_mem (p_tb4 (List.mem_of_getElem? (i := 190) rfl)) rfl, tw_1_9, by decide +kernel, by decide +kernel, by decide +kernel⟩
def dt_Step_letMergesChoose : List (Nat × Instr × Nat) := [(0, .iconst 0, 1), (1, .istore_n 1, 1), (2, .iload_n 1, 1), (3, .aload_n 0, 1), (4, .getfield 18, 3), (7, .getfield 79, 3), (10, .if_icmp .ge 22, 3), (13, .aload_n 0, 1), (14, .getfield 28, 3), (17, .getfield 82, 3), (20, .iload_n 1, 1), (21, .aaload, 1), (22, .iconst (-1), 1), (23, .putfield 161, 3), (26, .iinc 1 1, 3), (29, .goto (-27), 3), (32, .iconst 0, 1), (33, .istore_n 1, 1), (34, .iload_n 1, 1), (35, .aload_n 0, 1), (36, .getfield 18, 3), (39, .getfield 79, 3), (42, .if_icmp .ge 108, 3), (45, .aload_n 0, 1), (46, .aload_n 0, 1), (47, .getfield 28, 3), (50, .getfield 82, 3), (53, .iload_n 1, 1), (54, .aaload, 1), (55, .invokevirtual 164, 3), (58, .ifCond .eq 34, 3), (61, .aload_n 0, 1), (62, .getfield 18, 3), (65, .aload_n 0, 1), (66, .getfield 28, 3), (69, .getfield 82, 3), (72, .iload_n 1, 1), (73, .aaload, 1), (74, .aload_n 0, 1), (75, .getfield 28, 3), (78, .getfield 82, 3), (81, .iload_n 1, 1), (82, .aaload, 1), (83, .invokevirtual 167, 3), (86, .invokevirtual 170, 3), (89, .goto 4, 3), (92, .iconst (-1), 1), (93, .istore_n 2, 1), (94, .iload_n 2, 1), (95, .ifCond .lt 49, 3), (98, .aload_n 0, 1), (99, .getfield 28, 3), (102, .getfield 82, 3), (105, .iload_n 2, 1), (106, .aaload, 1), (107, .getfield 97, 3), (110, .iconst 2, 1), (111, .if_icmp .ne 33, 3), (114, .aload_n 0, 1), (115, .iload_n 1, 1), (116, .aload_n 0, 1), (117, .getfield 28, 3), (120, .getfield 82, 3), (123, .iload_n 2, 1), (124, .aaload, 1), (125, .invokevirtual 174, 3), (128, .ifCond .eq 16, 3), (131, .aload_n 0, 1), (132, .getfield 28, 3), (135, .getfield 82, 3), (138, .iload_n 2, 1), (139, .aaload, 1), (140, .iload_n 1, 1), (141, .putfield 161, 3), (144, .iinc 1 1, 3), (147, .goto (-113), 3), (150, .return_, 1)]
theorem dk_Step_letMergesChoose (i : Nat) {pc : Nat} {ins : Instr} {len : Nat} (h : dt_Step_letMergesChoose[i]? = some (pc, ins, len)) : decode m_Step_letMergesChoose.2.1 pc = .ok (ins, len) := p_dk (b := m_Step_letMergesChoose.2.1) (t := dt_Step_letMergesChoose) (by decide +kernel) i h
def B_Step_letMergesChoose_144 (k34 : Nat → Int → p_Hp → Option p_Hp) (v0 : Nat) (v1 : Int) (s0 : p_Hp) : Option p_Hp :=
  p_bi (p_w (v1 + 1)) fun x1 =>
  k34 v0 x1 s0
def B_Step_letMergesChoose_93 (k34 : Nat → Int → p_Hp → Option p_Hp) (v0 : Nat) (v1 : Int) (w0 : Int) (s0 : p_Hp) : Option p_Hp :=
  if w0 < 0 then
    B_Step_letMergesChoose_144 k34 v0 v1 s0
  else
    p_gd (p_is s0 v0 8) <|
    p_gd (p_is s0 (p_R s0 v0 3) 7) <|
    p_gd (p_is s0 (p_R s0 (p_R s0 v0 3) 4) 105) <|
    p_gd ((0 : Int) ≤ w0 ∧ w0 < (p_L s0 (p_R s0 (p_R s0 v0 3) 4) : Int)) <|
    p_gd (p_is s0 (p_R s0 (p_R s0 (p_R s0 v0 3) 4) (w0 : Int).toNat) 0) <|
    if (p_Z s0 (p_R s0 (p_R s0 (p_R s0 v0 3) 4) (w0 : Int).toNat) 0) ≠ 2 then
      B_Step_letMergesChoose_144 k34 v0 v1 s0
    else
      p_gd ((0 : Int) ≤ w0 ∧ w0 < (p_L s0 (p_R s0 (p_R s0 v0 3) 4) : Int)) <|
      p_bd (F_Step_isBetter v0 v1 (p_R s0 (p_R s0 (p_R s0 v0 3) 4) (w0 : Int).toNat) s0) fun r13 s9 =>
      if r13 = 0 then
        B_Step_letMergesChoose_144 k34 v0 v1 s9
      else
        p_gd (p_is s9 (p_R s9 v0 3) 7) <|
        p_gd (p_is s9 (p_R s9 (p_R s9 v0 3) 4) 105) <|
        p_gd ((0 : Int) ≤ w0 ∧ w0 < (p_L s9 (p_R s9 (p_R s9 v0 3) 4) : Int)) <|
        p_gd (p_is s9 (p_R s9 (p_R s9 (p_R s9 v0 3) 4) (w0 : Int).toNat) 0) <|
        p_bi (p_wZ s9 (p_R s9 (p_R s9 (p_R s9 v0 3) 4) (w0 : Int).toNat) 19 v1) fun s19 =>
        B_Step_letMergesChoose_144 k34 v0 v1 s19
def L_Step_letMergesChoose_34 (k34 : Nat → Int → p_Hp → Option p_Hp) (v0 : Nat) (v1 : Int) (s0 : p_Hp) : Option p_Hp :=
  p_gd (p_is s0 v0 8) <|
  p_gd (p_is s0 (p_R s0 v0 2) 9) <|
  if (p_Z s0 (p_R s0 v0 2) 2) ≤ v1 then
    some s0
  else
    p_gd (p_is s0 (p_R s0 v0 3) 7) <|
    p_gd (p_is s0 (p_R s0 (p_R s0 v0 3) 4) 105) <|
    p_gd ((0 : Int) ≤ v1 ∧ v1 < (p_L s0 (p_R s0 (p_R s0 v0 3) 4) : Int)) <|
    p_bd (F_Step_isReadyToGive v0 (p_R s0 (p_R s0 (p_R s0 v0 3) 4) (v1 : Int).toNat) s0) fun r11 s7 =>
    if r11 = 0 then
      B_Step_letMergesChoose_93 k34 v0 v1 (-1) s7
    else
      p_gd (p_is s7 (p_R s7 v0 3) 7) <|
      p_gd (p_is s7 (p_R s7 (p_R s7 v0 3) 4) 105) <|
      p_gd ((0 : Int) ≤ v1 ∧ v1 < (p_L s7 (p_R s7 (p_R s7 v0 3) 4) : Int)) <|
      p_gd ((0 : Int) ≤ v1 ∧ v1 < (p_L s7 (p_R s7 (p_R s7 v0 3) 4) : Int)) <|
      p_gd (p_is s7 (p_R s7 (p_R s7 (p_R s7 v0 3) 4) (v1 : Int).toNat) 0) <|
      p_bd (F_Gear_linkAhead (p_R s7 (p_R s7 (p_R s7 v0 3) 4) (v1 : Int).toNat) s7) fun r22 s18 =>
      p_gd (p_is s18 (p_R s7 v0 2) 9) <|
      p_bd (F_Works_follow (p_R s7 v0 2) (p_R s7 (p_R s7 (p_R s7 v0 3) 4) (v1 : Int).toNat) r22 s18) fun r28 s24 =>
      B_Step_letMergesChoose_93 k34 v0 v1 r28 s24
def O_Step_letMergesChoose_34  : Nat → Nat → Int → p_Hp → Option p_Hp
  | 0 => fun _ _ _ => none
  | n + 1 => L_Step_letMergesChoose_34 (O_Step_letMergesChoose_34 n)
def L_Step_letMergesChoose_2 (k2 : Nat → Int → p_Hp → Option p_Hp) (v0 : Nat) (v1 : Int) (s0 : p_Hp) : Option p_Hp :=
  p_gd (p_is s0 v0 8) <|
  p_gd (p_is s0 (p_R s0 v0 2) 9) <|
  if (p_Z s0 (p_R s0 v0 2) 2) ≤ v1 then
    O_Step_letMergesChoose_34 3000 v0 0 s0
  else
    p_gd (p_is s0 (p_R s0 v0 3) 7) <|
    p_gd (p_is s0 (p_R s0 (p_R s0 v0 3) 4) 105) <|
    p_gd ((0 : Int) ≤ v1 ∧ v1 < (p_L s0 (p_R s0 (p_R s0 v0 3) 4) : Int)) <|
    p_gd (p_is s0 (p_R s0 (p_R s0 (p_R s0 v0 3) 4) (v1 : Int).toNat) 0) <|
    p_bi (p_wZ s0 (p_R s0 (p_R s0 (p_R s0 v0 3) 4) (v1 : Int).toNat) 19 (-1)) fun s8 =>
    p_bi (p_w (v1 + 1)) fun x10 =>
    k2 v0 x10 s8
def O_Step_letMergesChoose_2  : Nat → Nat → Int → p_Hp → Option p_Hp
  | 0 => fun _ _ _ => none
  | n + 1 => L_Step_letMergesChoose_2 (O_Step_letMergesChoose_2 n)
def F_Step_letMergesChoose (v0 : Nat) (s0 : p_Hp) : Option p_Hp :=
  O_Step_letMergesChoose_2 3000 v0 0 s0
set_option maxRecDepth 100000 in
set_option maxHeartbeats 4000000 in
theorem tB_Step_letMergesChoose_144 (K : p_K) (l : Launch) (k34 : Nat → Int → p_Hp → Option p_Hp) (hk34 : ∀ (v0 : Nat) (v1 : Int)  (s0 : p_Hp) (r : p_Hp), k34 v0 v1 s0 = some r → p_Go K l m_Step_letMergesChoose 34 [(0, p_r v0), (1, p_i v1)] [] s0 (none, r)) (v0 : Nat) (v1 : Int) (s0 : p_Hp) (r : p_Hp) (h : B_Step_letMergesChoose_144 k34 v0 v1 s0 = some r) : p_Go K l m_Step_letMergesChoose 144 [(0, p_r v0), (1, p_i v1)] [] s0 (none, r) := by
  unfold B_Step_letMergesChoose_144 at h
  refine g_iinc (j := 1) [(1, p_i (p_w (v1 + 1))), (0, p_r v0)] (dk_Step_letMergesChoose 74 rfl) rfl (by decide) rfl ?_
  refine p_ltG (P := fun q => p_Go K l m_Step_letMergesChoose 147 [(1, p_i q), (0, p_r v0)] [] s0 _) ?_ h
  intro x1 h
  refine g_goto 34 (dk_Step_letMergesChoose 75 rfl) (by decide) ?_
  refine g_sub [(0, p_r v0), (1, p_i x1)] [1, 0] rfl ?_
  exact hk34 v0 x1 s0 _ h
set_option maxRecDepth 100000 in
set_option maxHeartbeats 4000000 in
theorem tB_Step_letMergesChoose_93 (K : p_K) (l : Launch) (k34 : Nat → Int → p_Hp → Option p_Hp) (hk34 : ∀ (v0 : Nat) (v1 : Int)  (s0 : p_Hp) (r : p_Hp), k34 v0 v1 s0 = some r → p_Go K l m_Step_letMergesChoose 34 [(0, p_r v0), (1, p_i v1)] [] s0 (none, r)) (v0 : Nat) (v1 : Int) (w0 : Int) (s0 : p_Hp) (r : p_Hp) (h : B_Step_letMergesChoose_93 k34 v0 v1 w0 s0 = some r) : p_Go K l m_Step_letMergesChoose 93 [(0, p_r v0), (1, p_i v1)] [p_i w0] s0 (none, r) := by
  unfold B_Step_letMergesChoose_93 at h
  refine g_istore_n (i := 2) [(2, p_i w0), (0, p_r v0), (1, p_i v1)] (dk_Step_letMergesChoose 47 rfl) rfl (by decide) rfl ?_
  refine g_iload_n (i := 2) (j := 0) (dk_Step_letMergesChoose 48 rfl) rfl rfl ?_
  refine g_if_lt 144 (dk_Step_letMergesChoose 49 rfl) (by decide) (fun b1 => ?_) (fun b1 => ?_)
  · have h := p_ifT b1 h
    refine g_sub [(0, p_r v0), (1, p_i v1)] [1, 2] rfl ?_
    exact tB_Step_letMergesChoose_144 K l k34 hk34 v0 v1 s0 _ h
  · have h := p_ifF b1 h
    refine g_aload_n (i := 0) (j := 1) (dk_Step_letMergesChoose 50 rfl) rfl rfl ?_
    obtain ⟨c2, h⟩ := p_gdE h
    refine g_getR fl_Step_28 (Or.inl ⟨_, rfl⟩) (dk_Step_letMergesChoose 51 rfl) c2 ?_
    obtain ⟨c3, h⟩ := p_gdE h
    refine g_getR fl_Step_82 (Or.inr ⟨_, rfl⟩) (dk_Step_letMergesChoose 52 rfl) c3 ?_
    refine g_iload_n (i := 2) (j := 0) (dk_Step_letMergesChoose 53 rfl) rfl rfl ?_
    obtain ⟨c4, h⟩ := p_gdE h
    obtain ⟨c5, h⟩ := p_gdE h
    refine g_aaload (i := 5) rfl (Or.inl ⟨_, rfl⟩) (dk_Step_letMergesChoose 54 rfl) c4 c5.1 c5.2 ?_
    obtain ⟨c6, h⟩ := p_gdE h
    refine g_getI fl_Step_97 (Or.inl rfl) (dk_Step_letMergesChoose 55 rfl) c6 ?_
    refine g_iconst (dk_Step_letMergesChoose 56 rfl) (by decide) ?_
    refine g_icmp_ne 144 (dk_Step_letMergesChoose 57 rfl) (by decide) (fun b7 => ?_) (fun b7 => ?_)
    · have h := p_ifT b7 h
      refine g_sub [(0, p_r v0), (1, p_i v1)] [1, 2] rfl ?_
      exact tB_Step_letMergesChoose_144 K l k34 hk34 v0 v1 s0 _ h
    · have h := p_ifF b7 h
      refine g_aload_n (i := 0) (j := 1) (dk_Step_letMergesChoose 58 rfl) rfl rfl ?_
      refine g_iload_n (i := 1) (j := 2) (dk_Step_letMergesChoose 59 rfl) rfl rfl ?_
      refine g_aload_n (i := 0) (j := 1) (dk_Step_letMergesChoose 60 rfl) rfl rfl ?_
      refine g_getR fl_Step_28 (Or.inl ⟨_, rfl⟩) (dk_Step_letMergesChoose 61 rfl) c2 ?_
      refine g_getR fl_Step_82 (Or.inr ⟨_, rfl⟩) (dk_Step_letMergesChoose 62 rfl) c3 ?_
      refine g_iload_n (i := 2) (j := 0) (dk_Step_letMergesChoose 63 rfl) rfl rfl ?_
      obtain ⟨c8, h⟩ := p_gdE h
      refine g_aaload (i := 5) rfl (Or.inl ⟨_, rfl⟩) (dk_Step_letMergesChoose 64 rfl) c4 c8.1 c8.2 ?_
      obtain ⟨r13, s9, q10, h⟩ := p_bdE h
      have t11 := tF_Step_isBetter K l v0 v1 (p_R s0 (p_R s0 (p_R s0 v0 3) 4) (w0 : Int).toNat) s0 _ q10
      refine g_callV (a := v0) (ci := 8) (q0 := (RX8, TX8, 5)) (As := [p_i v1, p_r (p_R s0 (p_R s0 (p_R s0 v0 3) 4) (w0 : Int).toNat)]) (rest := []) [p_i r13] mt_Step_isBetter rfl rfl tw_4_218 ts_20 tw_4_216 ⟨Nat.le_of_ble_eq_true rfl, Nat.le_of_ble_eq_true rfl⟩ rfl (Nat.le_of_ble_eq_true rfl) (dk_Step_letMergesChoose 65 rfl) rfl c2 rfl t11 ?_
      have hs12 : p_x s0 s9 := t11.1
      show p_Go K l m_Step_letMergesChoose 128 [(2, p_i w0), (0, p_r v0), (1, p_i v1)] [p_i r13] s9 _
      refine g_if_eq 144 (dk_Step_letMergesChoose 66 rfl) (by decide) (fun b14 => ?_) (fun b14 => ?_)
      · have h := p_ifT b14 h
        refine g_sub [(0, p_r v0), (1, p_i v1)] [1, 2] rfl ?_
        exact tB_Step_letMergesChoose_144 K l k34 hk34 v0 v1 s9 _ h
      · have h := p_ifF b14 h
        refine g_aload_n (i := 0) (j := 1) (dk_Step_letMergesChoose 67 rfl) rfl rfl ?_
        refine g_getR fl_Step_28 (Or.inl ⟨_, rfl⟩) (dk_Step_letMergesChoose 68 rfl) (c2.up hs12) ?_
        obtain ⟨c15, h⟩ := p_gdE h
        refine g_getR fl_Step_82 (Or.inr ⟨_, rfl⟩) (dk_Step_letMergesChoose 69 rfl) c15 ?_
        refine g_iload_n (i := 2) (j := 0) (dk_Step_letMergesChoose 70 rfl) rfl rfl ?_
        obtain ⟨c16, h⟩ := p_gdE h
        obtain ⟨c17, h⟩ := p_gdE h
        refine g_aaload (i := 5) rfl (Or.inl ⟨_, rfl⟩) (dk_Step_letMergesChoose 71 rfl) c16 c17.1 c17.2 ?_
        refine g_iload_n (i := 1) (j := 2) (dk_Step_letMergesChoose 72 rfl) rfl rfl ?_
        obtain ⟨c18, h⟩ := p_gdE h
        refine g_putI fl_Step_161 (Or.inl rfl) (dk_Step_letMergesChoose 73 rfl) c18 ?_
        refine p_ltS (P := fun q => p_Go K l m_Step_letMergesChoose 144 [(2, p_i w0), (0, p_r v0), (1, p_i v1)] [] q _) (p_xZ _ _ _ _) ?_ h
        intro s19 hs20 h
        refine g_sub [(0, p_r v0), (1, p_i v1)] [1, 2] rfl ?_
        exact tB_Step_letMergesChoose_144 K l k34 hk34 v0 v1 s19 _ h
set_option maxRecDepth 100000 in
set_option maxHeartbeats 4000000 in
theorem tL_Step_letMergesChoose_34 (K : p_K) (l : Launch) (k34 : Nat → Int → p_Hp → Option p_Hp) (hk34 : ∀ (v0 : Nat) (v1 : Int)  (s0 : p_Hp) (r : p_Hp), k34 v0 v1 s0 = some r → p_Go K l m_Step_letMergesChoose 34 [(0, p_r v0), (1, p_i v1)] [] s0 (none, r)) (v0 : Nat) (v1 : Int) (s0 : p_Hp) (r : p_Hp) (h : L_Step_letMergesChoose_34 k34 v0 v1 s0 = some r) : p_Go K l m_Step_letMergesChoose 34 [(0, p_r v0), (1, p_i v1)] [] s0 (none, r) := by
  unfold L_Step_letMergesChoose_34 at h
  refine g_iload_n (i := 1) (j := 1) (dk_Step_letMergesChoose 18 rfl) rfl rfl ?_
  refine g_aload_n (i := 0) (j := 0) (dk_Step_letMergesChoose 19 rfl) rfl rfl ?_
  obtain ⟨c1, h⟩ := p_gdE h
  refine g_getR fl_Step_18 (Or.inl ⟨_, rfl⟩) (dk_Step_letMergesChoose 20 rfl) c1 ?_
  obtain ⟨c2, h⟩ := p_gdE h
  refine g_getI fl_Step_79 (Or.inl rfl) (dk_Step_letMergesChoose 21 rfl) c2 ?_
  refine g_icmp_ge 150 (dk_Step_letMergesChoose 22 rfl) (by decide) (fun b3 => ?_) (fun b3 => ?_)
  · have h := p_ifT b3 h
    cases h
    exact g_ret rfl rfl (dk_Step_letMergesChoose 76 rfl) (fun _ => rfl)
  · have h := p_ifF b3 h
    refine g_aload_n (i := 0) (j := 0) (dk_Step_letMergesChoose 23 rfl) rfl rfl ?_
    refine g_aload_n (i := 0) (j := 0) (dk_Step_letMergesChoose 24 rfl) rfl rfl ?_
    refine g_getR fl_Step_28 (Or.inl ⟨_, rfl⟩) (dk_Step_letMergesChoose 25 rfl) c1 ?_
    obtain ⟨c4, h⟩ := p_gdE h
    refine g_getR fl_Step_82 (Or.inr ⟨_, rfl⟩) (dk_Step_letMergesChoose 26 rfl) c4 ?_
    refine g_iload_n (i := 1) (j := 1) (dk_Step_letMergesChoose 27 rfl) rfl rfl ?_
    obtain ⟨c5, h⟩ := p_gdE h
    obtain ⟨c6, h⟩ := p_gdE h
    refine g_aaload (i := 5) rfl (Or.inl ⟨_, rfl⟩) (dk_Step_letMergesChoose 28 rfl) c5 c6.1 c6.2 ?_
    obtain ⟨r11, s7, q8, h⟩ := p_bdE h
    have t9 := tF_Step_isReadyToGive K l v0 (p_R s0 (p_R s0 (p_R s0 v0 3) 4) (v1 : Int).toNat) s0 _ q8
    refine g_callV (a := v0) (ci := 8) (q0 := (RX8, TX8, 5)) (As := [p_r (p_R s0 (p_R s0 (p_R s0 v0 3) 4) (v1 : Int).toNat)]) (rest := []) [p_i r11] mt_Step_isReadyToGive rfl rfl tw_4_193 ts_18 tw_4_191 ⟨Nat.le_of_ble_eq_true rfl, Nat.le_of_ble_eq_true rfl⟩ rfl (Nat.le_of_ble_eq_true rfl) (dk_Step_letMergesChoose 29 rfl) rfl c1 rfl t9 ?_
    have hs10 : p_x s0 s7 := t9.1
    show p_Go K l m_Step_letMergesChoose 58 [(0, p_r v0), (1, p_i v1)] [p_i r11] s7 _
    refine g_if_eq 92 (dk_Step_letMergesChoose 30 rfl) (by decide) (fun b12 => ?_) (fun b12 => ?_)
    · have h := p_ifT b12 h
      refine g_iconst (dk_Step_letMergesChoose 46 rfl) (by decide) ?_
      exact tB_Step_letMergesChoose_93 K l k34 hk34 v0 v1 (-1) s7 _ h
    · have h := p_ifF b12 h
      refine g_aload_n (i := 0) (j := 0) (dk_Step_letMergesChoose 31 rfl) rfl rfl ?_
      refine g_getR fl_Step_18 (Or.inl ⟨_, rfl⟩) (dk_Step_letMergesChoose 32 rfl) (c1.up hs10) ?_
      refine g_aload_n (i := 0) (j := 0) (dk_Step_letMergesChoose 33 rfl) rfl rfl ?_
      refine g_getR fl_Step_28 (Or.inl ⟨_, rfl⟩) (dk_Step_letMergesChoose 34 rfl) (c1.up hs10) ?_
      obtain ⟨c13, h⟩ := p_gdE h
      refine g_getR fl_Step_82 (Or.inr ⟨_, rfl⟩) (dk_Step_letMergesChoose 35 rfl) c13 ?_
      refine g_iload_n (i := 1) (j := 1) (dk_Step_letMergesChoose 36 rfl) rfl rfl ?_
      obtain ⟨c14, h⟩ := p_gdE h
      obtain ⟨c15, h⟩ := p_gdE h
      refine g_aaload (i := 5) rfl (Or.inl ⟨_, rfl⟩) (dk_Step_letMergesChoose 37 rfl) c14 c15.1 c15.2 ?_
      refine g_aload_n (i := 0) (j := 0) (dk_Step_letMergesChoose 38 rfl) rfl rfl ?_
      refine g_getR fl_Step_28 (Or.inl ⟨_, rfl⟩) (dk_Step_letMergesChoose 39 rfl) (c1.up hs10) ?_
      refine g_getR fl_Step_82 (Or.inr ⟨_, rfl⟩) (dk_Step_letMergesChoose 40 rfl) c13 ?_
      refine g_iload_n (i := 1) (j := 1) (dk_Step_letMergesChoose 41 rfl) rfl rfl ?_
      obtain ⟨c16, h⟩ := p_gdE h
      refine g_aaload (i := 5) rfl (Or.inl ⟨_, rfl⟩) (dk_Step_letMergesChoose 42 rfl) c14 c16.1 c16.2 ?_
      obtain ⟨c17, h⟩ := p_gdE h
      obtain ⟨r22, s18, q19, h⟩ := p_bdE h
      have t20 := tF_Gear_linkAhead K l (p_R s7 (p_R s7 (p_R s7 v0 3) 4) (v1 : Int).toNat) s7 _ q19
      refine g_callV (a := (p_R s7 (p_R s7 (p_R s7 v0 3) 4) (v1 : Int).toNat)) (ci := 0) (q0 := (RX0, TX0, 20)) (As := []) (rest := [p_r (p_R s7 (p_R s7 (p_R s7 v0 3) 4) (v1 : Int).toNat), p_r (p_R s7 v0 2)]) [p_i r22, p_r (p_R s7 (p_R s7 (p_R s7 v0 3) 4) (v1 : Int).toNat), p_r (p_R s7 v0 2)] mt_Gear_linkAhead rfl rfl tw_4_208 tw_4_209 tw_4_207 ⟨Nat.le_of_ble_eq_true rfl, Nat.le_of_ble_eq_true rfl⟩ rfl (Nat.le_of_ble_eq_true rfl) (dk_Step_letMergesChoose 43 rfl) rfl c17 rfl t20 ?_
      have hs21 : p_x s7 s18 := t20.1
      show p_Go K l m_Step_letMergesChoose 86 [(0, p_r v0), (1, p_i v1)] [p_i r22, p_r (p_R s7 (p_R s7 (p_R s7 v0 3) 4) (v1 : Int).toNat), p_r (p_R s7 v0 2)] s18 _
      obtain ⟨c23, h⟩ := p_gdE h
      obtain ⟨r28, s24, q25, h⟩ := p_bdE h
      have t26 := tF_Works_follow K l (p_R s7 v0 2) (p_R s7 (p_R s7 (p_R s7 v0 3) 4) (v1 : Int).toNat) r22 s18 _ q25
      refine g_callV (a := (p_R s7 v0 2)) (ci := 9) (q0 := (RX9, TX9, 15)) (As := [p_r (p_R s7 (p_R s7 (p_R s7 v0 3) 4) (v1 : Int).toNat), p_i r22]) (rest := []) [p_i r28] mt_Works_follow rfl rfl tw_4_213 tw_4_214 tw_4_212 ⟨Nat.le_of_ble_eq_true rfl, Nat.le_of_ble_eq_true rfl⟩ rfl (Nat.le_of_ble_eq_true rfl) (dk_Step_letMergesChoose 44 rfl) rfl c23 rfl t26 ?_
      have hs27 : p_x s18 s24 := t26.1
      show p_Go K l m_Step_letMergesChoose 89 [(0, p_r v0), (1, p_i v1)] [p_i r28] s24 _
      refine g_goto 93 (dk_Step_letMergesChoose 45 rfl) (by decide) ?_
      exact tB_Step_letMergesChoose_93 K l k34 hk34 v0 v1 r28 s24 _ h
set_option maxRecDepth 100000 in
set_option maxHeartbeats 4000000 in
theorem tO_Step_letMergesChoose_34 (K : p_K) (l : Launch)  : ∀ (n : Nat) (v0 : Nat) (v1 : Int) (s0 : p_Hp) (r : p_Hp), O_Step_letMergesChoose_34 n v0 v1 s0 = some r → p_Go K l m_Step_letMergesChoose 34 [(0, p_r v0), (1, p_i v1)] [] s0 (none, r) := by
  intro n
  induction n with
  | zero => intro v0 v1 s0 r h; cases (show (none : Option p_Hp) = some r from h)
  | succ n ih => intro v0 v1 s0 r h; exact tL_Step_letMergesChoose_34 K l _ ih v0 v1 s0 r h
set_option maxRecDepth 100000 in
set_option maxHeartbeats 4000000 in
theorem tL_Step_letMergesChoose_2 (K : p_K) (l : Launch) (k2 : Nat → Int → p_Hp → Option p_Hp) (hk2 : ∀ (v0 : Nat) (v1 : Int)  (s0 : p_Hp) (r : p_Hp), k2 v0 v1 s0 = some r → p_Go K l m_Step_letMergesChoose 2 [(0, p_r v0), (1, p_i v1)] [] s0 (none, r)) (v0 : Nat) (v1 : Int) (s0 : p_Hp) (r : p_Hp) (h : L_Step_letMergesChoose_2 k2 v0 v1 s0 = some r) : p_Go K l m_Step_letMergesChoose 2 [(0, p_r v0), (1, p_i v1)] [] s0 (none, r) := by
  unfold L_Step_letMergesChoose_2 at h
  refine g_iload_n (i := 1) (j := 1) (dk_Step_letMergesChoose 2 rfl) rfl rfl ?_
  refine g_aload_n (i := 0) (j := 0) (dk_Step_letMergesChoose 3 rfl) rfl rfl ?_
  obtain ⟨c1, h⟩ := p_gdE h
  refine g_getR fl_Step_18 (Or.inl ⟨_, rfl⟩) (dk_Step_letMergesChoose 4 rfl) c1 ?_
  obtain ⟨c2, h⟩ := p_gdE h
  refine g_getI fl_Step_79 (Or.inl rfl) (dk_Step_letMergesChoose 5 rfl) c2 ?_
  refine g_icmp_ge 32 (dk_Step_letMergesChoose 6 rfl) (by decide) (fun b3 => ?_) (fun b3 => ?_)
  · have h := p_ifT b3 h
    refine g_iconst (dk_Step_letMergesChoose 16 rfl) (by decide) ?_
    refine g_istore_n (i := 1) [(1, p_i 0), (0, p_r v0)] (dk_Step_letMergesChoose 17 rfl) rfl (by decide) rfl ?_
    refine g_sub [(0, p_r v0), (1, p_i 0)] [1, 0] rfl ?_
    exact tO_Step_letMergesChoose_34 K l 3000 v0 0 s0 _ h
  · have h := p_ifF b3 h
    refine g_aload_n (i := 0) (j := 0) (dk_Step_letMergesChoose 7 rfl) rfl rfl ?_
    refine g_getR fl_Step_28 (Or.inl ⟨_, rfl⟩) (dk_Step_letMergesChoose 8 rfl) c1 ?_
    obtain ⟨c4, h⟩ := p_gdE h
    refine g_getR fl_Step_82 (Or.inr ⟨_, rfl⟩) (dk_Step_letMergesChoose 9 rfl) c4 ?_
    refine g_iload_n (i := 1) (j := 1) (dk_Step_letMergesChoose 10 rfl) rfl rfl ?_
    obtain ⟨c5, h⟩ := p_gdE h
    obtain ⟨c6, h⟩ := p_gdE h
    refine g_aaload (i := 5) rfl (Or.inl ⟨_, rfl⟩) (dk_Step_letMergesChoose 11 rfl) c5 c6.1 c6.2 ?_
    refine g_iconst (dk_Step_letMergesChoose 12 rfl) (by decide) ?_
    obtain ⟨c7, h⟩ := p_gdE h
    refine g_putI fl_Step_161 (Or.inl rfl) (dk_Step_letMergesChoose 13 rfl) c7 ?_
    refine p_ltS (P := fun q => p_Go K l m_Step_letMergesChoose 26 [(0, p_r v0), (1, p_i v1)] [] q _) (p_xZ _ _ _ _) ?_ h
    intro s8 hs9 h
    refine g_iinc (j := 1) [(1, p_i (p_w (v1 + 1))), (0, p_r v0)] (dk_Step_letMergesChoose 14 rfl) rfl (by decide) rfl ?_
    refine p_ltG (P := fun q => p_Go K l m_Step_letMergesChoose 29 [(1, p_i q), (0, p_r v0)] [] s8 _) ?_ h
    intro x10 h
    refine g_goto 2 (dk_Step_letMergesChoose 15 rfl) (by decide) ?_
    refine g_sub [(0, p_r v0), (1, p_i x10)] [1, 0] rfl ?_
    exact hk2 v0 x10 s8 _ h
set_option maxRecDepth 100000 in
set_option maxHeartbeats 4000000 in
theorem tO_Step_letMergesChoose_2 (K : p_K) (l : Launch)  : ∀ (n : Nat) (v0 : Nat) (v1 : Int) (s0 : p_Hp) (r : p_Hp), O_Step_letMergesChoose_2 n v0 v1 s0 = some r → p_Go K l m_Step_letMergesChoose 2 [(0, p_r v0), (1, p_i v1)] [] s0 (none, r) := by
  intro n
  induction n with
  | zero => intro v0 v1 s0 r h; cases (show (none : Option p_Hp) = some r from h)
  | succ n ih => intro v0 v1 s0 r h; exact tL_Step_letMergesChoose_2 K l _ ih v0 v1 s0 r h
set_option maxRecDepth 100000 in
set_option maxHeartbeats 4000000 in
theorem tF_Step_letMergesChoose (K : p_K) (l : Launch) (v0 : Nat) (s0 : p_Hp) (r : p_Hp) (h : F_Step_letMergesChoose v0 s0 = some r) : p_Ct K l m_Step_letMergesChoose [p_r v0] s0 (none, r) := by
  refine p_Ct.of (by decide +kernel) (Nat.le_of_ble_eq_true rfl) ?_
  unfold F_Step_letMergesChoose at h
  show p_Go K l m_Step_letMergesChoose 0 [(0, p_r v0)] [] s0 _
  refine g_iconst (dk_Step_letMergesChoose 0 rfl) (by decide) ?_
  refine g_istore_n (i := 1) [(1, p_i 0), (0, p_r v0)] (dk_Step_letMergesChoose 1 rfl) rfl (by decide) rfl ?_
  refine g_sub [(0, p_r v0), (1, p_i 0)] [1, 0] rfl ?_
  exact tO_Step_letMergesChoose_2 K l 3000 v0 0 s0 _ h
def m_Gear_keep : p_Me := (⟨"SortWorks$Gear", "keep", "(I)V"⟩, prog_2_method_4_code, 3, none, 0, 0)
theorem mt_Gear_keep : p_Mt m_Gear_keep 1 := ⟨p_mem (p_tb4 (List.mem_of_getElem? (i := 147) rfl)) rfl, tw_1_5, by decide +kernel, by decide +kernel, by decide +kernel⟩
def dt_Gear_keep : List (Nat × Instr × Nat) := [(0, .bipush 11, 2), (2, .iload_n 1, 1), (3, .imul, 1), (4, .istore_n 2, 1), (5, .aload_n 0, 1), (6, .getfield 29, 3), (9, .iload_n 2, 1), (10, .aload_n 0, 1), (11, .getfield 50, 3), (14, .iastore, 1), (15, .aload_n 0, 1), (16, .getfield 29, 3), (19, .iload_n 2, 1), (20, .iconst 1, 1), (21, .iadd, 1), (22, .aload_n 0, 1), (23, .getfield 53, 3), (26, .ifCond .eq 7, 3), (29, .iconst 1, 1), (30, .goto 4, 3), (33, .iconst 0, 1), (34, .iastore, 1), (35, .aload_n 0, 1), (36, .getfield 29, 3), (39, .iload_n 2, 1), (40, .iconst 2, 1), (41, .iadd, 1), (42, .aload_n 0, 1), (43, .getfield 57, 3), (46, .iastore, 1), (47, .aload_n 0, 1), (48, .getfield 29, 3), (51, .iload_n 2, 1), (52, .iconst 3, 1), (53, .iadd, 1), (54, .aload_n 0, 1), (55, .getfield 60, 3), (58, .iastore, 1), (59, .aload_n 0, 1), (60, .getfield 29, 3), (63, .iload_n 2, 1), (64, .iconst 4, 1), (65, .iadd, 1), (66, .aload_n 0, 1), (67, .getfield 63, 3), (70, .iastore, 1), (71, .aload_n 0, 1), (72, .getfield 29, 3), (75, .iload_n 2, 1), (76, .iconst 5, 1), (77, .iadd, 1), (78, .aload_n 0, 1), (79, .getfield 66, 3), (82, .iastore, 1), (83, .aload_n 0, 1), (84, .getfield 29, 3), (87, .iload_n 2, 1), (88, .bipush 6, 2), (90, .iadd, 1), (91, .aload_n 0, 1), (92, .getfield 69, 3), (95, .iastore, 1), (96, .aload_n 0, 1), (97, .getfield 29, 3), (100, .iload_n 2, 1), (101, .bipush 7, 2), (103, .iadd, 1), (104, .aload_n 0, 1), (105, .getfield 72, 3), (108, .iastore, 1), (109, .aload_n 0, 1), (110, .getfield 29, 3), (113, .iload_n 2, 1), (114, .bipush 8, 2), (116, .iadd, 1), (117, .aload_n 0, 1), (118, .getfield 75, 3), (121, .iastore, 1), (122, .aload_n 0, 1), (123, .getfield 29, 3), (126, .iload_n 2, 1), (127, .bipush 9, 2), (129, .iadd, 1), (130, .aload_n 0, 1), (131, .getfield 23, 3), (134, .iastore, 1), (135, .aload_n 0, 1), (136, .getfield 29, 3), (139, .iload_n 2, 1), (140, .bipush 10, 2), (142, .iadd, 1), (143, .aload_n 0, 1), (144, .getfield 78, 3), (147, .iastore, 1), (148, .return_, 1)]
theorem dk_Gear_keep (i : Nat) {pc : Nat} {ins : Instr} {len : Nat} (h : dt_Gear_keep[i]? = some (pc, ins, len)) : decode m_Gear_keep.2.1 pc = .ok (ins, len) := p_dk (b := m_Gear_keep.2.1) (t := dt_Gear_keep) (by decide +kernel) i h
def B_Gear_keep_34  (v0 : Nat) (v2 : Int) (w0 : Int) (w1 : Int) (w2 : Nat) (s0 : p_Hp) : Option p_Hp :=
  p_gd (p_is s0 w2 100) <|
  p_gd ((0 : Int) ≤ w1 ∧ w1 < (p_L s0 w2 : Int)) <|
  p_bi (p_wZ s0 w2 (w1 : Int).toNat w0) fun s3 =>
  p_gd (p_is s3 v0 0) <|
  p_gd (p_is s3 (p_R s3 v0 18) 100) <|
  p_gd ((0 : Int) ≤ (p_w (v2 + 2)) ∧ (p_w (v2 + 2)) < (p_L s3 (p_R s3 v0 18) : Int)) <|
  p_bi (p_wZ s3 (p_R s3 v0 18) ((p_w (v2 + 2)) : Int).toNat (p_Z s3 v0 8)) fun s8 =>
  p_gd (p_is s8 (p_R s8 v0 18) 100) <|
  p_gd ((0 : Int) ≤ (p_w (v2 + 3)) ∧ (p_w (v2 + 3)) < (p_L s8 (p_R s8 v0 18) : Int)) <|
  p_bi (p_wZ s8 (p_R s8 v0 18) ((p_w (v2 + 3)) : Int).toNat (p_Z s8 v0 9)) fun s12 =>
  p_gd (p_is s12 (p_R s12 v0 18) 100) <|
  p_gd ((0 : Int) ≤ (p_w (v2 + 4)) ∧ (p_w (v2 + 4)) < (p_L s12 (p_R s12 v0 18) : Int)) <|
  p_bi (p_wZ s12 (p_R s12 v0 18) ((p_w (v2 + 4)) : Int).toNat (p_Z s12 v0 10)) fun s16 =>
  p_gd (p_is s16 (p_R s16 v0 18) 100) <|
  p_gd ((0 : Int) ≤ (p_w (v2 + 5)) ∧ (p_w (v2 + 5)) < (p_L s16 (p_R s16 v0 18) : Int)) <|
  p_bi (p_wZ s16 (p_R s16 v0 18) ((p_w (v2 + 5)) : Int).toNat (p_Z s16 v0 11)) fun s20 =>
  p_gd (p_is s20 (p_R s20 v0 18) 100) <|
  p_gd ((0 : Int) ≤ (p_w (v2 + 6)) ∧ (p_w (v2 + 6)) < (p_L s20 (p_R s20 v0 18) : Int)) <|
  p_bi (p_wZ s20 (p_R s20 v0 18) ((p_w (v2 + 6)) : Int).toNat (p_Z s20 v0 12)) fun s24 =>
  p_gd (p_is s24 (p_R s24 v0 18) 100) <|
  p_gd ((0 : Int) ≤ (p_w (v2 + 7)) ∧ (p_w (v2 + 7)) < (p_L s24 (p_R s24 v0 18) : Int)) <|
  p_bi (p_wZ s24 (p_R s24 v0 18) ((p_w (v2 + 7)) : Int).toNat (p_Z s24 v0 13)) fun s28 =>
  p_gd (p_is s28 (p_R s28 v0 18) 100) <|
  p_gd ((0 : Int) ≤ (p_w (v2 + 8)) ∧ (p_w (v2 + 8)) < (p_L s28 (p_R s28 v0 18) : Int)) <|
  p_bi (p_wZ s28 (p_R s28 v0 18) ((p_w (v2 + 8)) : Int).toNat (p_Z s28 v0 14)) fun s32 =>
  p_gd (p_is s32 (p_R s32 v0 18) 100) <|
  p_gd ((0 : Int) ≤ (p_w (v2 + 9)) ∧ (p_w (v2 + 9)) < (p_L s32 (p_R s32 v0 18) : Int)) <|
  p_bi (p_wZ s32 (p_R s32 v0 18) ((p_w (v2 + 9)) : Int).toNat (p_Z s32 v0 15)) fun s36 =>
  p_gd (p_is s36 (p_R s36 v0 18) 100) <|
  p_gd ((0 : Int) ≤ (p_w (v2 + 10)) ∧ (p_w (v2 + 10)) < (p_L s36 (p_R s36 v0 18) : Int)) <|
  p_bi (p_wZ s36 (p_R s36 v0 18) ((p_w (v2 + 10)) : Int).toNat (p_Z s36 v0 16)) fun s40 =>
  some s40
def F_Gear_keep (v0 : Nat) (v1 : Int) (s0 : p_Hp) : Option p_Hp :=
  p_bi ((p_w (11 * v1))) fun x1 =>
  p_gd (p_is s0 v0 0) <|
  p_gd (p_is s0 (p_R s0 v0 18) 100) <|
  p_gd ((0 : Int) ≤ x1 ∧ x1 < (p_L s0 (p_R s0 v0 18) : Int)) <|
  p_bi (p_wZ s0 (p_R s0 v0 18) (x1 : Int).toNat (p_Z s0 v0 6)) fun s5 =>
  if (p_Z s5 v0 7) = 0 then
    B_Gear_keep_34 v0 x1 0 (p_w (x1 + 1)) (p_R s5 v0 18) s5
  else
    B_Gear_keep_34 v0 x1 1 (p_w (x1 + 1)) (p_R s5 v0 18) s5
set_option maxRecDepth 100000 in
set_option maxHeartbeats 4000000 in
theorem tB_Gear_keep_34 (K : p_K) (l : Launch)  (v0 : Nat) (v2 : Int) (w0 : Int) (w1 : Int) (w2 : Nat) (s0 : p_Hp) (r : p_Hp) (h : B_Gear_keep_34 v0 v2 w0 w1 w2 s0 = some r) : p_Go K l m_Gear_keep 34 [(0, p_r v0), (2, p_i v2)] [p_i w0, p_i w1, p_r w2] s0 (none, r) := by
  unfold B_Gear_keep_34 at h
  obtain ⟨c1, h⟩ := p_gdE h
  obtain ⟨c2, h⟩ := p_gdE h
  refine g_iastore (dk_Gear_keep 21 rfl) c1 c2.1 c2.2 ?_
  refine p_ltS (P := fun q => p_Go K l m_Gear_keep 35 [(0, p_r v0), (2, p_i v2)] [] q _) (p_xZ _ _ _ _) ?_ h
  intro s3 hs4 h
  refine g_aload_n (i := 0) (j := 0) (dk_Gear_keep 22 rfl) rfl rfl ?_
  obtain ⟨c5, h⟩ := p_gdE h
  refine g_getR fl_Gear_29 (Or.inr ⟨_, rfl⟩) (dk_Gear_keep 23 rfl) c5 ?_
  refine g_iload_n (i := 2) (j := 1) (dk_Gear_keep 24 rfl) rfl rfl ?_
  refine g_iconst (dk_Gear_keep 25 rfl) (by decide) ?_
  refine g_iadd (dk_Gear_keep 26 rfl) ?_
  refine g_aload_n (i := 0) (j := 0) (dk_Gear_keep 27 rfl) rfl rfl ?_
  refine g_getI fl_Gear_57 (Or.inl rfl) (dk_Gear_keep 28 rfl) c5 ?_
  obtain ⟨c6, h⟩ := p_gdE h
  obtain ⟨c7, h⟩ := p_gdE h
  refine g_iastore (dk_Gear_keep 29 rfl) c6 c7.1 c7.2 ?_
  refine p_ltS (P := fun q => p_Go K l m_Gear_keep 47 [(0, p_r v0), (2, p_i v2)] [] q _) (p_xZ _ _ _ _) ?_ h
  intro s8 hs9 h
  refine g_aload_n (i := 0) (j := 0) (dk_Gear_keep 30 rfl) rfl rfl ?_
  refine g_getR fl_Gear_29 (Or.inr ⟨_, rfl⟩) (dk_Gear_keep 31 rfl) (c5.up hs9) ?_
  refine g_iload_n (i := 2) (j := 1) (dk_Gear_keep 32 rfl) rfl rfl ?_
  refine g_iconst (dk_Gear_keep 33 rfl) (by decide) ?_
  refine g_iadd (dk_Gear_keep 34 rfl) ?_
  refine g_aload_n (i := 0) (j := 0) (dk_Gear_keep 35 rfl) rfl rfl ?_
  refine g_getI fl_Gear_60 (Or.inl rfl) (dk_Gear_keep 36 rfl) (c5.up hs9) ?_
  obtain ⟨c10, h⟩ := p_gdE h
  obtain ⟨c11, h⟩ := p_gdE h
  refine g_iastore (dk_Gear_keep 37 rfl) c10 c11.1 c11.2 ?_
  refine p_ltS (P := fun q => p_Go K l m_Gear_keep 59 [(0, p_r v0), (2, p_i v2)] [] q _) (p_xZ _ _ _ _) ?_ h
  intro s12 hs13 h
  refine g_aload_n (i := 0) (j := 0) (dk_Gear_keep 38 rfl) rfl rfl ?_
  refine g_getR fl_Gear_29 (Or.inr ⟨_, rfl⟩) (dk_Gear_keep 39 rfl) (c5.up (hs9.trans hs13)) ?_
  refine g_iload_n (i := 2) (j := 1) (dk_Gear_keep 40 rfl) rfl rfl ?_
  refine g_iconst (dk_Gear_keep 41 rfl) (by decide) ?_
  refine g_iadd (dk_Gear_keep 42 rfl) ?_
  refine g_aload_n (i := 0) (j := 0) (dk_Gear_keep 43 rfl) rfl rfl ?_
  refine g_getI fl_Gear_63 (Or.inl rfl) (dk_Gear_keep 44 rfl) (c5.up (hs9.trans hs13)) ?_
  obtain ⟨c14, h⟩ := p_gdE h
  obtain ⟨c15, h⟩ := p_gdE h
  refine g_iastore (dk_Gear_keep 45 rfl) c14 c15.1 c15.2 ?_
  refine p_ltS (P := fun q => p_Go K l m_Gear_keep 71 [(0, p_r v0), (2, p_i v2)] [] q _) (p_xZ _ _ _ _) ?_ h
  intro s16 hs17 h
  refine g_aload_n (i := 0) (j := 0) (dk_Gear_keep 46 rfl) rfl rfl ?_
  refine g_getR fl_Gear_29 (Or.inr ⟨_, rfl⟩) (dk_Gear_keep 47 rfl) (c5.up (hs9.trans (hs13.trans hs17))) ?_
  refine g_iload_n (i := 2) (j := 1) (dk_Gear_keep 48 rfl) rfl rfl ?_
  refine g_iconst (dk_Gear_keep 49 rfl) (by decide) ?_
  refine g_iadd (dk_Gear_keep 50 rfl) ?_
  refine g_aload_n (i := 0) (j := 0) (dk_Gear_keep 51 rfl) rfl rfl ?_
  refine g_getI fl_Gear_66 (Or.inl rfl) (dk_Gear_keep 52 rfl) (c5.up (hs9.trans (hs13.trans hs17))) ?_
  obtain ⟨c18, h⟩ := p_gdE h
  obtain ⟨c19, h⟩ := p_gdE h
  refine g_iastore (dk_Gear_keep 53 rfl) c18 c19.1 c19.2 ?_
  refine p_ltS (P := fun q => p_Go K l m_Gear_keep 83 [(0, p_r v0), (2, p_i v2)] [] q _) (p_xZ _ _ _ _) ?_ h
  intro s20 hs21 h
  refine g_aload_n (i := 0) (j := 0) (dk_Gear_keep 54 rfl) rfl rfl ?_
  refine g_getR fl_Gear_29 (Or.inr ⟨_, rfl⟩) (dk_Gear_keep 55 rfl) (c5.up (hs9.trans (hs13.trans (hs17.trans hs21)))) ?_
  refine g_iload_n (i := 2) (j := 1) (dk_Gear_keep 56 rfl) rfl rfl ?_
  refine g_bipush (dk_Gear_keep 57 rfl) (by decide +kernel) (by decide) ?_
  refine g_iadd (dk_Gear_keep 58 rfl) ?_
  refine g_aload_n (i := 0) (j := 0) (dk_Gear_keep 59 rfl) rfl rfl ?_
  refine g_getI fl_Gear_69 (Or.inl rfl) (dk_Gear_keep 60 rfl) (c5.up (hs9.trans (hs13.trans (hs17.trans hs21)))) ?_
  obtain ⟨c22, h⟩ := p_gdE h
  obtain ⟨c23, h⟩ := p_gdE h
  refine g_iastore (dk_Gear_keep 61 rfl) c22 c23.1 c23.2 ?_
  refine p_ltS (P := fun q => p_Go K l m_Gear_keep 96 [(0, p_r v0), (2, p_i v2)] [] q _) (p_xZ _ _ _ _) ?_ h
  intro s24 hs25 h
  refine g_aload_n (i := 0) (j := 0) (dk_Gear_keep 62 rfl) rfl rfl ?_
  refine g_getR fl_Gear_29 (Or.inr ⟨_, rfl⟩) (dk_Gear_keep 63 rfl) (c5.up (hs9.trans (hs13.trans (hs17.trans (hs21.trans hs25))))) ?_
  refine g_iload_n (i := 2) (j := 1) (dk_Gear_keep 64 rfl) rfl rfl ?_
  refine g_bipush (dk_Gear_keep 65 rfl) (by decide +kernel) (by decide) ?_
  refine g_iadd (dk_Gear_keep 66 rfl) ?_
  refine g_aload_n (i := 0) (j := 0) (dk_Gear_keep 67 rfl) rfl rfl ?_
  refine g_getI fl_Gear_72 (Or.inl rfl) (dk_Gear_keep 68 rfl) (c5.up (hs9.trans (hs13.trans (hs17.trans (hs21.trans hs25))))) ?_
  obtain ⟨c26, h⟩ := p_gdE h
  obtain ⟨c27, h⟩ := p_gdE h
  refine g_iastore (dk_Gear_keep 69 rfl) c26 c27.1 c27.2 ?_
  refine p_ltS (P := fun q => p_Go K l m_Gear_keep 109 [(0, p_r v0), (2, p_i v2)] [] q _) (p_xZ _ _ _ _) ?_ h
  intro s28 hs29 h
  refine g_aload_n (i := 0) (j := 0) (dk_Gear_keep 70 rfl) rfl rfl ?_
  refine g_getR fl_Gear_29 (Or.inr ⟨_, rfl⟩) (dk_Gear_keep 71 rfl) (c5.up (hs9.trans (hs13.trans (hs17.trans (hs21.trans (hs25.trans hs29)))))) ?_
  refine g_iload_n (i := 2) (j := 1) (dk_Gear_keep 72 rfl) rfl rfl ?_
  refine g_bipush (dk_Gear_keep 73 rfl) (by decide +kernel) (by decide) ?_
  refine g_iadd (dk_Gear_keep 74 rfl) ?_
  refine g_aload_n (i := 0) (j := 0) (dk_Gear_keep 75 rfl) rfl rfl ?_
  refine g_getI fl_Gear_75 (Or.inl rfl) (dk_Gear_keep 76 rfl) (c5.up (hs9.trans (hs13.trans (hs17.trans (hs21.trans (hs25.trans hs29)))))) ?_
  obtain ⟨c30, h⟩ := p_gdE h
  obtain ⟨c31, h⟩ := p_gdE h
  refine g_iastore (dk_Gear_keep 77 rfl) c30 c31.1 c31.2 ?_
  refine p_ltS (P := fun q => p_Go K l m_Gear_keep 122 [(0, p_r v0), (2, p_i v2)] [] q _) (p_xZ _ _ _ _) ?_ h
  intro s32 hs33 h
  refine g_aload_n (i := 0) (j := 0) (dk_Gear_keep 78 rfl) rfl rfl ?_
  refine g_getR fl_Gear_29 (Or.inr ⟨_, rfl⟩) (dk_Gear_keep 79 rfl) (c5.up (hs9.trans (hs13.trans (hs17.trans (hs21.trans (hs25.trans (hs29.trans hs33))))))) ?_
  refine g_iload_n (i := 2) (j := 1) (dk_Gear_keep 80 rfl) rfl rfl ?_
  refine g_bipush (dk_Gear_keep 81 rfl) (by decide +kernel) (by decide) ?_
  refine g_iadd (dk_Gear_keep 82 rfl) ?_
  refine g_aload_n (i := 0) (j := 0) (dk_Gear_keep 83 rfl) rfl rfl ?_
  refine g_getI fl_Gear_23 (Or.inl rfl) (dk_Gear_keep 84 rfl) (c5.up (hs9.trans (hs13.trans (hs17.trans (hs21.trans (hs25.trans (hs29.trans hs33))))))) ?_
  obtain ⟨c34, h⟩ := p_gdE h
  obtain ⟨c35, h⟩ := p_gdE h
  refine g_iastore (dk_Gear_keep 85 rfl) c34 c35.1 c35.2 ?_
  refine p_ltS (P := fun q => p_Go K l m_Gear_keep 135 [(0, p_r v0), (2, p_i v2)] [] q _) (p_xZ _ _ _ _) ?_ h
  intro s36 hs37 h
  refine g_aload_n (i := 0) (j := 0) (dk_Gear_keep 86 rfl) rfl rfl ?_
  refine g_getR fl_Gear_29 (Or.inr ⟨_, rfl⟩) (dk_Gear_keep 87 rfl) (c5.up (hs9.trans (hs13.trans (hs17.trans (hs21.trans (hs25.trans (hs29.trans (hs33.trans hs37)))))))) ?_
  refine g_iload_n (i := 2) (j := 1) (dk_Gear_keep 88 rfl) rfl rfl ?_
  refine g_bipush (dk_Gear_keep 89 rfl) (by decide +kernel) (by decide) ?_
  refine g_iadd (dk_Gear_keep 90 rfl) ?_
  refine g_aload_n (i := 0) (j := 0) (dk_Gear_keep 91 rfl) rfl rfl ?_
  refine g_getI fl_Gear_78 (Or.inl rfl) (dk_Gear_keep 92 rfl) (c5.up (hs9.trans (hs13.trans (hs17.trans (hs21.trans (hs25.trans (hs29.trans (hs33.trans hs37)))))))) ?_
  obtain ⟨c38, h⟩ := p_gdE h
  obtain ⟨c39, h⟩ := p_gdE h
  refine g_iastore (dk_Gear_keep 93 rfl) c38 c39.1 c39.2 ?_
  refine p_ltS (P := fun q => p_Go K l m_Gear_keep 148 [(0, p_r v0), (2, p_i v2)] [] q _) (p_xZ _ _ _ _) ?_ h
  intro s40 hs41 h
  cases h
  exact g_ret rfl rfl (dk_Gear_keep 94 rfl) (fun _ => rfl)
set_option maxRecDepth 100000 in
set_option maxHeartbeats 4000000 in
theorem tF_Gear_keep (K : p_K) (l : Launch) (v0 : Nat) (v1 : Int) (s0 : p_Hp) (r : p_Hp) (h : F_Gear_keep v0 v1 s0 = some r) : p_Ct K l m_Gear_keep [p_r v0, p_i v1] s0 (none, r) := by
  refine p_Ct.of (by decide +kernel) (Nat.le_of_ble_eq_true rfl) ?_
  unfold F_Gear_keep at h
  show p_Go K l m_Gear_keep 0 [(0, p_r v0), (1, p_i v1)] [] s0 _
  refine g_bipush (dk_Gear_keep 0 rfl) (by decide +kernel) (by decide) ?_
  refine g_iload_n (i := 1) (j := 1) (dk_Gear_keep 1 rfl) rfl rfl ?_
  refine g_imul (dk_Gear_keep 2 rfl) ?_
  refine g_istore_n (i := 2) [(2, p_i (p_w (11 * v1))), (0, p_r v0), (1, p_i v1)] (dk_Gear_keep 3 rfl) rfl (by decide) rfl ?_
  refine p_ltG (P := fun q => p_Go K l m_Gear_keep 5 [(2, p_i q), (0, p_r v0), (1, p_i v1)] [] s0 _) ?_ h
  intro x1 h
  refine g_aload_n (i := 0) (j := 1) (dk_Gear_keep 4 rfl) rfl rfl ?_
  obtain ⟨c2, h⟩ := p_gdE h
  refine g_getR fl_Gear_29 (Or.inr ⟨_, rfl⟩) (dk_Gear_keep 5 rfl) c2 ?_
  refine g_iload_n (i := 2) (j := 0) (dk_Gear_keep 6 rfl) rfl rfl ?_
  refine g_aload_n (i := 0) (j := 1) (dk_Gear_keep 7 rfl) rfl rfl ?_
  refine g_getI fl_Gear_50 (Or.inl rfl) (dk_Gear_keep 8 rfl) c2 ?_
  obtain ⟨c3, h⟩ := p_gdE h
  obtain ⟨c4, h⟩ := p_gdE h
  refine g_iastore (dk_Gear_keep 9 rfl) c3 c4.1 c4.2 ?_
  refine p_ltS (P := fun q => p_Go K l m_Gear_keep 15 [(2, p_i x1), (0, p_r v0), (1, p_i v1)] [] q _) (p_xZ _ _ _ _) ?_ h
  intro s5 hs6 h
  refine g_aload_n (i := 0) (j := 1) (dk_Gear_keep 10 rfl) rfl rfl ?_
  refine g_getR fl_Gear_29 (Or.inr ⟨_, rfl⟩) (dk_Gear_keep 11 rfl) (c2.up hs6) ?_
  refine g_iload_n (i := 2) (j := 0) (dk_Gear_keep 12 rfl) rfl rfl ?_
  refine g_iconst (dk_Gear_keep 13 rfl) (by decide) ?_
  refine g_iadd (dk_Gear_keep 14 rfl) ?_
  refine g_aload_n (i := 0) (j := 1) (dk_Gear_keep 15 rfl) rfl rfl ?_
  refine g_getI fl_Gear_53 (Or.inr rfl) (dk_Gear_keep 16 rfl) (c2.up hs6) ?_
  refine g_if_eq 33 (dk_Gear_keep 17 rfl) (by decide) (fun b7 => ?_) (fun b7 => ?_)
  · have h := p_ifT b7 h
    refine g_iconst (dk_Gear_keep 20 rfl) (by decide) ?_
    refine g_sub [(0, p_r v0), (2, p_i x1)] [1, 0] rfl ?_
    exact tB_Gear_keep_34 K l v0 x1 0 (p_w (x1 + 1)) (p_R s5 v0 18) s5 _ h
  · have h := p_ifF b7 h
    refine g_iconst (dk_Gear_keep 18 rfl) (by decide) ?_
    refine g_goto 34 (dk_Gear_keep 19 rfl) (by decide) ?_
    refine g_sub [(0, p_r v0), (2, p_i x1)] [1, 0] rfl ?_
    exact tB_Gear_keep_34 K l v0 x1 1 (p_w (x1 + 1)) (p_R s5 v0 18) s5 _ h
def m_Log_keep : p_Me := (⟨"SortWorks$Log", "keep", "(I)V"⟩, prog_4_method_4_code, 2, none, 1, 60)
theorem mt_Log_keep : p_Mt m_Log_keep 1 := ⟨p_mem (p_tb4 (List.mem_of_getElem? (i := 156) rfl)) rfl, tw_1_4, by decide +kernel, by decide +kernel, by decide +kernel⟩
def dt_Log_keep : List (Nat × Instr × Nat) := [(0, .aload_n 0, 1), (1, .getfield 9, 3), (4, .iload_n 1, 1), (5, .aload_n 0, 1), (6, .getfield 28, 3), (9, .iastore, 1), (10, .aload_n 0, 1), (11, .getfield 22, 3), (14, .iconst 0, 1), (15, .aload_n 0, 1), (16, .getfield 25, 3), (19, .iload_n 1, 1), (20, .aload_n 0, 1), (21, .getfield 22, 3), (24, .arraylength, 1), (25, .imul, 1), (26, .aload_n 0, 1), (27, .getfield 22, 3), (30, .arraylength, 1), (31, .invokestatic 31, 3), (34, .return_, 1)]
theorem dk_Log_keep (i : Nat) {pc : Nat} {ins : Instr} {len : Nat} (h : dt_Log_keep[i]? = some (pc, ins, len)) : decode m_Log_keep.2.1 pc = .ok (ins, len) := p_dk (b := m_Log_keep.2.1) (t := dt_Log_keep) (by decide +kernel) i h
def F_Log_keep (v0 : Nat) (v1 : Int) (s0 : p_Hp) : Option p_Hp :=
  p_gd (p_is s0 v0 2) <|
  p_gd (p_is s0 (p_R s0 v0 5) 100) <|
  p_gd ((0 : Int) ≤ v1 ∧ v1 < (p_L s0 (p_R s0 v0 5) : Int)) <|
  p_bi (p_wZ s0 (p_R s0 v0 5) (v1 : Int).toNat (p_Z s0 v0 3)) fun s4 =>
  p_gd (p_is s4 (p_R s4 v0 2) 100) <|
  p_gd (p_is s4 (p_R s4 v0 4) 100) <|
  p_gd ((0 : Int) ≤ 0 ∧ (0 : Int) ≤ (p_w (v1 * (p_L s4 (p_R s4 v0 2) : Int))) ∧ (0 : Int) ≤ (p_L s4 (p_R s4 v0 2) : Int) ∧ 0 + (p_L s4 (p_R s4 v0 2) : Int) ≤ (p_L s4 (p_R s4 v0 2) : Int) ∧ (p_w (v1 * (p_L s4 (p_R s4 v0 2) : Int))) + (p_L s4 (p_R s4 v0 2) : Int) ≤ (p_L s4 (p_R s4 v0 4) : Int)) <|
  p_bi (p_cp s4 (p_R s4 v0 2) (0 : Int).toNat (p_R s4 v0 4) ((p_w (v1 * (p_L s4 (p_R s4 v0 2) : Int))) : Int).toNat ((p_L s4 (p_R s4 v0 2) : Int) : Int).toNat) fun s9 =>
  some s9
set_option maxRecDepth 100000 in
set_option maxHeartbeats 4000000 in
theorem tF_Log_keep (K : p_K) (l : Launch) (v0 : Nat) (v1 : Int) (s0 : p_Hp) (r : p_Hp) (h : F_Log_keep v0 v1 s0 = some r) : p_Ct K l m_Log_keep [p_r v0, p_i v1] s0 (none, r) := by
  refine p_Ct.of (by decide +kernel) (Nat.le_of_ble_eq_true rfl) ?_
  unfold F_Log_keep at h
  show p_Go K l m_Log_keep 0 [(0, p_r v0), (1, p_i v1)] [] s0 _
  refine g_aload_n (i := 0) (j := 0) (dk_Log_keep 0 rfl) rfl rfl ?_
  obtain ⟨c1, h⟩ := p_gdE h
  refine g_getR fl_Log_9 (Or.inr ⟨_, rfl⟩) (dk_Log_keep 1 rfl) c1 ?_
  refine g_iload_n (i := 1) (j := 1) (dk_Log_keep 2 rfl) rfl rfl ?_
  refine g_aload_n (i := 0) (j := 0) (dk_Log_keep 3 rfl) rfl rfl ?_
  refine g_getI fl_Log_28 (Or.inl rfl) (dk_Log_keep 4 rfl) c1 ?_
  obtain ⟨c2, h⟩ := p_gdE h
  obtain ⟨c3, h⟩ := p_gdE h
  refine g_iastore (dk_Log_keep 5 rfl) c2 c3.1 c3.2 ?_
  refine p_ltS (P := fun q => p_Go K l m_Log_keep 10 [(0, p_r v0), (1, p_i v1)] [] q _) (p_xZ _ _ _ _) ?_ h
  intro s4 hs5 h
  refine g_aload_n (i := 0) (j := 0) (dk_Log_keep 6 rfl) rfl rfl ?_
  refine g_getR fl_Log_22 (Or.inr ⟨_, rfl⟩) (dk_Log_keep 7 rfl) (c1.up hs5) ?_
  refine g_iconst (dk_Log_keep 8 rfl) (by decide) ?_
  refine g_aload_n (i := 0) (j := 0) (dk_Log_keep 9 rfl) rfl rfl ?_
  refine g_getR fl_Log_25 (Or.inr ⟨_, rfl⟩) (dk_Log_keep 10 rfl) (c1.up hs5) ?_
  refine g_iload_n (i := 1) (j := 1) (dk_Log_keep 11 rfl) rfl rfl ?_
  refine g_aload_n (i := 0) (j := 0) (dk_Log_keep 12 rfl) rfl rfl ?_
  refine g_getR fl_Log_22 (Or.inr ⟨_, rfl⟩) (dk_Log_keep 13 rfl) (c1.up hs5) ?_
  obtain ⟨c6, h⟩ := p_gdE h
  refine g_alen (i := 0) rfl (dk_Log_keep 14 rfl) c6 ?_
  refine g_imul (dk_Log_keep 15 rfl) ?_
  refine g_aload_n (i := 0) (j := 0) (dk_Log_keep 16 rfl) rfl rfl ?_
  refine g_getR fl_Log_22 (Or.inr ⟨_, rfl⟩) (dk_Log_keep 17 rfl) (c1.up hs5) ?_
  refine g_alen (i := 0) rfl (dk_Log_keep 18 rfl) c6 ?_
  obtain ⟨c7, h⟩ := p_gdE h
  obtain ⟨c8, h⟩ := p_gdE h
  refine g_arraycopy tw_4_157 tw_3_169 tw_3_168 tw_1_14 (dk_Log_keep 19 rfl) (Nat.le_of_ble_eq_true rfl) (Nat.le_of_ble_eq_true rfl) c6 c7 c8.1 c8.2.1 c8.2.2.1 c8.2.2.2.1 c8.2.2.2.2 ?_
  refine p_ltS (P := fun q => p_Go K l m_Log_keep 34 [(0, p_r v0), (1, p_i v1)] [] q _) (p_xC _ _ _ _ _ _) ?_ h
  intro s9 hs10 h
  cases h
  exact g_ret rfl rfl (dk_Log_keep 20 rfl) (fun _ => rfl)
def m_Parcel_keep : p_Me := (⟨"SortWorks$Parcel", "keep", "(I)V"⟩, prog_6_method_2_code, 3, none, 1, 60)
theorem mt_Parcel_keep : p_Mt m_Parcel_keep 1 := ⟨p_mem (p_tb4 (List.mem_of_getElem? (i := 151) rfl)) rfl, tw_1_6, by decide +kernel, by decide +kernel, by decide +kernel⟩
def dt_Parcel_keep : List (Nat × Instr × Nat) := [(0, .bipush 37, 2), (2, .iload_n 1, 1), (3, .imul, 1), (4, .istore_n 2, 1), (5, .aload_n 0, 1), (6, .getfield 18, 3), (9, .iload_n 2, 1), (10, .aload_n 0, 1), (11, .getfield 25, 3), (14, .iastore, 1), (15, .aload_n 0, 1), (16, .getfield 25, 3), (19, .ifCond .ne 4, 3), (22, .return_, 1), (23, .aload_n 0, 1), (24, .getfield 18, 3), (27, .iload_n 2, 1), (28, .iconst 1, 1), (29, .iadd, 1), (30, .aload_n 0, 1), (31, .getfield 28, 3), (34, .iastore, 1), (35, .aload_n 0, 1), (36, .getfield 18, 3), (39, .iload_n 2, 1), (40, .iconst 2, 1), (41, .iadd, 1), (42, .aload_n 0, 1), (43, .getfield 31, 3), (46, .iastore, 1), (47, .aload_n 0, 1), (48, .getfield 18, 3), (51, .iload_n 2, 1), (52, .iconst 3, 1), (53, .iadd, 1), (54, .aload_n 0, 1), (55, .getfield 34, 3), (58, .iastore, 1), (59, .aload_n 0, 1), (60, .getfield 18, 3), (63, .iload_n 2, 1), (64, .iconst 4, 1), (65, .iadd, 1), (66, .aload_n 0, 1), (67, .getfield 37, 3), (70, .iastore, 1), (71, .aload_n 0, 1), (72, .getfield 18, 3), (75, .iload_n 2, 1), (76, .iconst 5, 1), (77, .iadd, 1), (78, .aload_n 0, 1), (79, .getfield 40, 3), (82, .iastore, 1), (83, .aload_n 0, 1), (84, .getfield 18, 3), (87, .iload_n 2, 1), (88, .bipush 6, 2), (90, .iadd, 1), (91, .aload_n 0, 1), (92, .getfield 43, 3), (95, .ifCond .eq 7, 3), (98, .iconst 1, 1), (99, .goto 4, 3), (102, .iconst 0, 1), (103, .iastore, 1), (104, .aload_n 0, 1), (105, .getfield 18, 3), (108, .iload_n 2, 1), (109, .bipush 7, 2), (111, .iadd, 1), (112, .aload_n 0, 1), (113, .getfield 47, 3), (116, .iastore, 1), (117, .aload_n 0, 1), (118, .getfield 18, 3), (121, .iload_n 2, 1), (122, .bipush 8, 2), (124, .iadd, 1), (125, .aload_n 0, 1), (126, .getfield 50, 3), (129, .iastore, 1), (130, .aload_n 0, 1), (131, .getfield 11, 3), (134, .iconst 0, 1), (135, .aload_n 0, 1), (136, .getfield 18, 3), (139, .iload_n 2, 1), (140, .bipush 9, 2), (142, .iadd, 1), (143, .bipush 16, 2), (145, .invokestatic 53, 3), (148, .aload_n 0, 1), (149, .getfield 15, 3), (152, .iconst 0, 1), (153, .aload_n 0, 1), (154, .getfield 18, 3), (157, .iload_n 2, 1), (158, .bipush 25, 2), (160, .iadd, 1), (161, .bipush 12, 2), (163, .invokestatic 53, 3), (166, .return_, 1)]
theorem dk_Parcel_keep (i : Nat) {pc : Nat} {ins : Instr} {len : Nat} (h : dt_Parcel_keep[i]? = some (pc, ins, len)) : decode m_Parcel_keep.2.1 pc = .ok (ins, len) := p_dk (b := m_Parcel_keep.2.1) (t := dt_Parcel_keep) (by decide +kernel) i h
def B_Parcel_keep_103  (v0 : Nat) (v2 : Int) (w0 : Int) (w1 : Int) (w2 : Nat) (s0 : p_Hp) : Option p_Hp :=
  p_gd (p_is s0 w2 100) <|
  p_gd ((0 : Int) ≤ w1 ∧ w1 < (p_L s0 w2 : Int)) <|
  p_bi (p_wZ s0 w2 (w1 : Int).toNat w0) fun s3 =>
  p_gd (p_is s3 v0 4) <|
  p_gd (p_is s3 (p_R s3 v0 13) 100) <|
  p_gd ((0 : Int) ≤ (p_w (v2 + 7)) ∧ (p_w (v2 + 7)) < (p_L s3 (p_R s3 v0 13) : Int)) <|
  p_bi (p_wZ s3 (p_R s3 v0 13) ((p_w (v2 + 7)) : Int).toNat (p_Z s3 v0 9)) fun s8 =>
  p_gd (p_is s8 (p_R s8 v0 13) 100) <|
  p_gd ((0 : Int) ≤ (p_w (v2 + 8)) ∧ (p_w (v2 + 8)) < (p_L s8 (p_R s8 v0 13) : Int)) <|
  p_bi (p_wZ s8 (p_R s8 v0 13) ((p_w (v2 + 8)) : Int).toNat (p_Z s8 v0 11)) fun s12 =>
  p_gd (p_is s12 (p_R s12 v0 10) 100) <|
  p_gd (p_is s12 (p_R s12 v0 13) 100) <|
  p_gd ((0 : Int) ≤ 0 ∧ (0 : Int) ≤ (p_w (v2 + 9)) ∧ (0 : Int) ≤ 16 ∧ 0 + 16 ≤ (p_L s12 (p_R s12 v0 10) : Int) ∧ (p_w (v2 + 9)) + 16 ≤ (p_L s12 (p_R s12 v0 13) : Int)) <|
  p_bi (p_cp s12 (p_R s12 v0 10) (0 : Int).toNat (p_R s12 v0 13) ((p_w (v2 + 9)) : Int).toNat (16 : Int).toNat) fun s17 =>
  p_gd (p_is s17 (p_R s17 v0 12) 100) <|
  p_gd (p_is s17 (p_R s17 v0 13) 100) <|
  p_gd ((0 : Int) ≤ 0 ∧ (0 : Int) ≤ (p_w (v2 + 25)) ∧ (0 : Int) ≤ 12 ∧ 0 + 12 ≤ (p_L s17 (p_R s17 v0 12) : Int) ∧ (p_w (v2 + 25)) + 12 ≤ (p_L s17 (p_R s17 v0 13) : Int)) <|
  p_bi (p_cp s17 (p_R s17 v0 12) (0 : Int).toNat (p_R s17 v0 13) ((p_w (v2 + 25)) : Int).toNat (12 : Int).toNat) fun s22 =>
  some s22
def F_Parcel_keep (v0 : Nat) (v1 : Int) (s0 : p_Hp) : Option p_Hp :=
  p_bi ((p_w (37 * v1))) fun x1 =>
  p_gd (p_is s0 v0 4) <|
  p_gd (p_is s0 (p_R s0 v0 13) 100) <|
  p_gd ((0 : Int) ≤ x1 ∧ x1 < (p_L s0 (p_R s0 v0 13) : Int)) <|
  p_bi (p_wZ s0 (p_R s0 v0 13) (x1 : Int).toNat (p_Z s0 v0 1)) fun s5 =>
  if (p_Z s5 v0 1) ≠ 0 then
    p_gd (p_is s5 (p_R s5 v0 13) 100) <|
    p_gd ((0 : Int) ≤ (p_w (x1 + 1)) ∧ (p_w (x1 + 1)) < (p_L s5 (p_R s5 v0 13) : Int)) <|
    p_bi (p_wZ s5 (p_R s5 v0 13) ((p_w (x1 + 1)) : Int).toNat (p_Z s5 v0 2)) fun s10 =>
    p_gd (p_is s10 (p_R s10 v0 13) 100) <|
    p_gd ((0 : Int) ≤ (p_w (x1 + 2)) ∧ (p_w (x1 + 2)) < (p_L s10 (p_R s10 v0 13) : Int)) <|
    p_bi (p_wZ s10 (p_R s10 v0 13) ((p_w (x1 + 2)) : Int).toNat (p_Z s10 v0 3)) fun s14 =>
    p_gd (p_is s14 (p_R s14 v0 13) 100) <|
    p_gd ((0 : Int) ≤ (p_w (x1 + 3)) ∧ (p_w (x1 + 3)) < (p_L s14 (p_R s14 v0 13) : Int)) <|
    p_bi (p_wZ s14 (p_R s14 v0 13) ((p_w (x1 + 3)) : Int).toNat (p_Z s14 v0 4)) fun s18 =>
    p_gd (p_is s18 (p_R s18 v0 13) 100) <|
    p_gd ((0 : Int) ≤ (p_w (x1 + 4)) ∧ (p_w (x1 + 4)) < (p_L s18 (p_R s18 v0 13) : Int)) <|
    p_bi (p_wZ s18 (p_R s18 v0 13) ((p_w (x1 + 4)) : Int).toNat (p_Z s18 v0 5)) fun s22 =>
    p_gd (p_is s22 (p_R s22 v0 13) 100) <|
    p_gd ((0 : Int) ≤ (p_w (x1 + 5)) ∧ (p_w (x1 + 5)) < (p_L s22 (p_R s22 v0 13) : Int)) <|
    p_bi (p_wZ s22 (p_R s22 v0 13) ((p_w (x1 + 5)) : Int).toNat (p_Z s22 v0 6)) fun s26 =>
    if (p_Z s26 v0 7) = 0 then
      B_Parcel_keep_103 v0 x1 0 (p_w (x1 + 6)) (p_R s26 v0 13) s26
    else
      B_Parcel_keep_103 v0 x1 1 (p_w (x1 + 6)) (p_R s26 v0 13) s26
  else
    some s5
set_option maxRecDepth 100000 in
set_option maxHeartbeats 4000000 in
theorem tB_Parcel_keep_103 (K : p_K) (l : Launch)  (v0 : Nat) (v2 : Int) (w0 : Int) (w1 : Int) (w2 : Nat) (s0 : p_Hp) (r : p_Hp) (h : B_Parcel_keep_103 v0 v2 w0 w1 w2 s0 = some r) : p_Go K l m_Parcel_keep 103 [(0, p_r v0), (2, p_i v2)] [p_i w0, p_i w1, p_r w2] s0 (none, r) := by
  unfold B_Parcel_keep_103 at h
  obtain ⟨c1, h⟩ := p_gdE h
  obtain ⟨c2, h⟩ := p_gdE h
  refine g_iastore (dk_Parcel_keep 65 rfl) c1 c2.1 c2.2 ?_
  refine p_ltS (P := fun q => p_Go K l m_Parcel_keep 104 [(0, p_r v0), (2, p_i v2)] [] q _) (p_xZ _ _ _ _) ?_ h
  intro s3 hs4 h
  refine g_aload_n (i := 0) (j := 0) (dk_Parcel_keep 66 rfl) rfl rfl ?_
  obtain ⟨c5, h⟩ := p_gdE h
  refine g_getR fl_Parcel_18 (Or.inr ⟨_, rfl⟩) (dk_Parcel_keep 67 rfl) c5 ?_
  refine g_iload_n (i := 2) (j := 1) (dk_Parcel_keep 68 rfl) rfl rfl ?_
  refine g_bipush (dk_Parcel_keep 69 rfl) (by decide +kernel) (by decide) ?_
  refine g_iadd (dk_Parcel_keep 70 rfl) ?_
  refine g_aload_n (i := 0) (j := 0) (dk_Parcel_keep 71 rfl) rfl rfl ?_
  refine g_getI fl_Parcel_47 (Or.inl rfl) (dk_Parcel_keep 72 rfl) c5 ?_
  obtain ⟨c6, h⟩ := p_gdE h
  obtain ⟨c7, h⟩ := p_gdE h
  refine g_iastore (dk_Parcel_keep 73 rfl) c6 c7.1 c7.2 ?_
  refine p_ltS (P := fun q => p_Go K l m_Parcel_keep 117 [(0, p_r v0), (2, p_i v2)] [] q _) (p_xZ _ _ _ _) ?_ h
  intro s8 hs9 h
  refine g_aload_n (i := 0) (j := 0) (dk_Parcel_keep 74 rfl) rfl rfl ?_
  refine g_getR fl_Parcel_18 (Or.inr ⟨_, rfl⟩) (dk_Parcel_keep 75 rfl) (c5.up hs9) ?_
  refine g_iload_n (i := 2) (j := 1) (dk_Parcel_keep 76 rfl) rfl rfl ?_
  refine g_bipush (dk_Parcel_keep 77 rfl) (by decide +kernel) (by decide) ?_
  refine g_iadd (dk_Parcel_keep 78 rfl) ?_
  refine g_aload_n (i := 0) (j := 0) (dk_Parcel_keep 79 rfl) rfl rfl ?_
  refine g_getI fl_Parcel_50 (Or.inl rfl) (dk_Parcel_keep 80 rfl) (c5.up hs9) ?_
  obtain ⟨c10, h⟩ := p_gdE h
  obtain ⟨c11, h⟩ := p_gdE h
  refine g_iastore (dk_Parcel_keep 81 rfl) c10 c11.1 c11.2 ?_
  refine p_ltS (P := fun q => p_Go K l m_Parcel_keep 130 [(0, p_r v0), (2, p_i v2)] [] q _) (p_xZ _ _ _ _) ?_ h
  intro s12 hs13 h
  refine g_aload_n (i := 0) (j := 0) (dk_Parcel_keep 82 rfl) rfl rfl ?_
  refine g_getR fl_Parcel_11 (Or.inr ⟨_, rfl⟩) (dk_Parcel_keep 83 rfl) (c5.up (hs9.trans hs13)) ?_
  refine g_iconst (dk_Parcel_keep 84 rfl) (by decide) ?_
  refine g_aload_n (i := 0) (j := 0) (dk_Parcel_keep 85 rfl) rfl rfl ?_
  refine g_getR fl_Parcel_18 (Or.inr ⟨_, rfl⟩) (dk_Parcel_keep 86 rfl) (c5.up (hs9.trans hs13)) ?_
  refine g_iload_n (i := 2) (j := 1) (dk_Parcel_keep 87 rfl) rfl rfl ?_
  refine g_bipush (dk_Parcel_keep 88 rfl) (by decide +kernel) (by decide) ?_
  refine g_iadd (dk_Parcel_keep 89 rfl) ?_
  refine g_bipush (dk_Parcel_keep 90 rfl) (by decide +kernel) (by decide) ?_
  obtain ⟨c14, h⟩ := p_gdE h
  obtain ⟨c15, h⟩ := p_gdE h
  obtain ⟨c16, h⟩ := p_gdE h
  refine g_arraycopy tw_4_152 tw_3_169 tw_3_168 tw_1_14 (dk_Parcel_keep 91 rfl) (Nat.le_of_ble_eq_true rfl) (Nat.le_of_ble_eq_true rfl) c14 c15 c16.1 c16.2.1 c16.2.2.1 c16.2.2.2.1 c16.2.2.2.2 ?_
  refine p_ltS (P := fun q => p_Go K l m_Parcel_keep 148 [(0, p_r v0), (2, p_i v2)] [] q _) (p_xC _ _ _ _ _ _) ?_ h
  intro s17 hs18 h
  refine g_aload_n (i := 0) (j := 0) (dk_Parcel_keep 92 rfl) rfl rfl ?_
  refine g_getR fl_Parcel_15 (Or.inr ⟨_, rfl⟩) (dk_Parcel_keep 93 rfl) (c5.up (hs9.trans (hs13.trans hs18))) ?_
  refine g_iconst (dk_Parcel_keep 94 rfl) (by decide) ?_
  refine g_aload_n (i := 0) (j := 0) (dk_Parcel_keep 95 rfl) rfl rfl ?_
  refine g_getR fl_Parcel_18 (Or.inr ⟨_, rfl⟩) (dk_Parcel_keep 96 rfl) (c5.up (hs9.trans (hs13.trans hs18))) ?_
  refine g_iload_n (i := 2) (j := 1) (dk_Parcel_keep 97 rfl) rfl rfl ?_
  refine g_bipush (dk_Parcel_keep 98 rfl) (by decide +kernel) (by decide) ?_
  refine g_iadd (dk_Parcel_keep 99 rfl) ?_
  refine g_bipush (dk_Parcel_keep 100 rfl) (by decide +kernel) (by decide) ?_
  obtain ⟨c19, h⟩ := p_gdE h
  obtain ⟨c20, h⟩ := p_gdE h
  obtain ⟨c21, h⟩ := p_gdE h
  refine g_arraycopy tw_4_152 tw_3_169 tw_3_168 tw_1_14 (dk_Parcel_keep 101 rfl) (Nat.le_of_ble_eq_true rfl) (Nat.le_of_ble_eq_true rfl) c19 c20 c21.1 c21.2.1 c21.2.2.1 c21.2.2.2.1 c21.2.2.2.2 ?_
  refine p_ltS (P := fun q => p_Go K l m_Parcel_keep 166 [(0, p_r v0), (2, p_i v2)] [] q _) (p_xC _ _ _ _ _ _) ?_ h
  intro s22 hs23 h
  cases h
  exact g_ret rfl rfl (dk_Parcel_keep 102 rfl) (fun _ => rfl)
set_option maxRecDepth 100000 in
set_option maxHeartbeats 4000000 in
theorem tF_Parcel_keep (K : p_K) (l : Launch) (v0 : Nat) (v1 : Int) (s0 : p_Hp) (r : p_Hp) (h : F_Parcel_keep v0 v1 s0 = some r) : p_Ct K l m_Parcel_keep [p_r v0, p_i v1] s0 (none, r) := by
  refine p_Ct.of (by decide +kernel) (Nat.le_of_ble_eq_true rfl) ?_
  unfold F_Parcel_keep at h
  show p_Go K l m_Parcel_keep 0 [(0, p_r v0), (1, p_i v1)] [] s0 _
  refine g_bipush (dk_Parcel_keep 0 rfl) (by decide +kernel) (by decide) ?_
  refine g_iload_n (i := 1) (j := 1) (dk_Parcel_keep 1 rfl) rfl rfl ?_
  refine g_imul (dk_Parcel_keep 2 rfl) ?_
  refine g_istore_n (i := 2) [(2, p_i (p_w (37 * v1))), (0, p_r v0), (1, p_i v1)] (dk_Parcel_keep 3 rfl) rfl (by decide) rfl ?_
  refine p_ltG (P := fun q => p_Go K l m_Parcel_keep 5 [(2, p_i q), (0, p_r v0), (1, p_i v1)] [] s0 _) ?_ h
  intro x1 h
  refine g_aload_n (i := 0) (j := 1) (dk_Parcel_keep 4 rfl) rfl rfl ?_
  obtain ⟨c2, h⟩ := p_gdE h
  refine g_getR fl_Parcel_18 (Or.inr ⟨_, rfl⟩) (dk_Parcel_keep 5 rfl) c2 ?_
  refine g_iload_n (i := 2) (j := 0) (dk_Parcel_keep 6 rfl) rfl rfl ?_
  refine g_aload_n (i := 0) (j := 1) (dk_Parcel_keep 7 rfl) rfl rfl ?_
  refine g_getI fl_Parcel_25 (Or.inl rfl) (dk_Parcel_keep 8 rfl) c2 ?_
  obtain ⟨c3, h⟩ := p_gdE h
  obtain ⟨c4, h⟩ := p_gdE h
  refine g_iastore (dk_Parcel_keep 9 rfl) c3 c4.1 c4.2 ?_
  refine p_ltS (P := fun q => p_Go K l m_Parcel_keep 15 [(2, p_i x1), (0, p_r v0), (1, p_i v1)] [] q _) (p_xZ _ _ _ _) ?_ h
  intro s5 hs6 h
  refine g_aload_n (i := 0) (j := 1) (dk_Parcel_keep 10 rfl) rfl rfl ?_
  refine g_getI fl_Parcel_25 (Or.inl rfl) (dk_Parcel_keep 11 rfl) (c2.up hs6) ?_
  refine g_if_ne 23 (dk_Parcel_keep 12 rfl) (by decide) (fun b7 => ?_) (fun b7 => ?_)
  · have h := p_ifT b7 h
    refine g_aload_n (i := 0) (j := 1) (dk_Parcel_keep 14 rfl) rfl rfl ?_
    refine g_getR fl_Parcel_18 (Or.inr ⟨_, rfl⟩) (dk_Parcel_keep 15 rfl) (c2.up hs6) ?_
    refine g_iload_n (i := 2) (j := 0) (dk_Parcel_keep 16 rfl) rfl rfl ?_
    refine g_iconst (dk_Parcel_keep 17 rfl) (by decide) ?_
    refine g_iadd (dk_Parcel_keep 18 rfl) ?_
    refine g_aload_n (i := 0) (j := 1) (dk_Parcel_keep 19 rfl) rfl rfl ?_
    refine g_getI fl_Parcel_28 (Or.inl rfl) (dk_Parcel_keep 20 rfl) (c2.up hs6) ?_
    obtain ⟨c8, h⟩ := p_gdE h
    obtain ⟨c9, h⟩ := p_gdE h
    refine g_iastore (dk_Parcel_keep 21 rfl) c8 c9.1 c9.2 ?_
    refine p_ltS (P := fun q => p_Go K l m_Parcel_keep 35 [(2, p_i x1), (0, p_r v0), (1, p_i v1)] [] q _) (p_xZ _ _ _ _) ?_ h
    intro s10 hs11 h
    refine g_aload_n (i := 0) (j := 1) (dk_Parcel_keep 22 rfl) rfl rfl ?_
    refine g_getR fl_Parcel_18 (Or.inr ⟨_, rfl⟩) (dk_Parcel_keep 23 rfl) (c2.up (hs6.trans hs11)) ?_
    refine g_iload_n (i := 2) (j := 0) (dk_Parcel_keep 24 rfl) rfl rfl ?_
    refine g_iconst (dk_Parcel_keep 25 rfl) (by decide) ?_
    refine g_iadd (dk_Parcel_keep 26 rfl) ?_
    refine g_aload_n (i := 0) (j := 1) (dk_Parcel_keep 27 rfl) rfl rfl ?_
    refine g_getI fl_Parcel_31 (Or.inl rfl) (dk_Parcel_keep 28 rfl) (c2.up (hs6.trans hs11)) ?_
    obtain ⟨c12, h⟩ := p_gdE h
    obtain ⟨c13, h⟩ := p_gdE h
    refine g_iastore (dk_Parcel_keep 29 rfl) c12 c13.1 c13.2 ?_
    refine p_ltS (P := fun q => p_Go K l m_Parcel_keep 47 [(2, p_i x1), (0, p_r v0), (1, p_i v1)] [] q _) (p_xZ _ _ _ _) ?_ h
    intro s14 hs15 h
    refine g_aload_n (i := 0) (j := 1) (dk_Parcel_keep 30 rfl) rfl rfl ?_
    refine g_getR fl_Parcel_18 (Or.inr ⟨_, rfl⟩) (dk_Parcel_keep 31 rfl) (c2.up (hs6.trans (hs11.trans hs15))) ?_
    refine g_iload_n (i := 2) (j := 0) (dk_Parcel_keep 32 rfl) rfl rfl ?_
    refine g_iconst (dk_Parcel_keep 33 rfl) (by decide) ?_
    refine g_iadd (dk_Parcel_keep 34 rfl) ?_
    refine g_aload_n (i := 0) (j := 1) (dk_Parcel_keep 35 rfl) rfl rfl ?_
    refine g_getI fl_Parcel_34 (Or.inl rfl) (dk_Parcel_keep 36 rfl) (c2.up (hs6.trans (hs11.trans hs15))) ?_
    obtain ⟨c16, h⟩ := p_gdE h
    obtain ⟨c17, h⟩ := p_gdE h
    refine g_iastore (dk_Parcel_keep 37 rfl) c16 c17.1 c17.2 ?_
    refine p_ltS (P := fun q => p_Go K l m_Parcel_keep 59 [(2, p_i x1), (0, p_r v0), (1, p_i v1)] [] q _) (p_xZ _ _ _ _) ?_ h
    intro s18 hs19 h
    refine g_aload_n (i := 0) (j := 1) (dk_Parcel_keep 38 rfl) rfl rfl ?_
    refine g_getR fl_Parcel_18 (Or.inr ⟨_, rfl⟩) (dk_Parcel_keep 39 rfl) (c2.up (hs6.trans (hs11.trans (hs15.trans hs19)))) ?_
    refine g_iload_n (i := 2) (j := 0) (dk_Parcel_keep 40 rfl) rfl rfl ?_
    refine g_iconst (dk_Parcel_keep 41 rfl) (by decide) ?_
    refine g_iadd (dk_Parcel_keep 42 rfl) ?_
    refine g_aload_n (i := 0) (j := 1) (dk_Parcel_keep 43 rfl) rfl rfl ?_
    refine g_getI fl_Parcel_37 (Or.inl rfl) (dk_Parcel_keep 44 rfl) (c2.up (hs6.trans (hs11.trans (hs15.trans hs19)))) ?_
    obtain ⟨c20, h⟩ := p_gdE h
    obtain ⟨c21, h⟩ := p_gdE h
    refine g_iastore (dk_Parcel_keep 45 rfl) c20 c21.1 c21.2 ?_
    refine p_ltS (P := fun q => p_Go K l m_Parcel_keep 71 [(2, p_i x1), (0, p_r v0), (1, p_i v1)] [] q _) (p_xZ _ _ _ _) ?_ h
    intro s22 hs23 h
    refine g_aload_n (i := 0) (j := 1) (dk_Parcel_keep 46 rfl) rfl rfl ?_
    refine g_getR fl_Parcel_18 (Or.inr ⟨_, rfl⟩) (dk_Parcel_keep 47 rfl) (c2.up (hs6.trans (hs11.trans (hs15.trans (hs19.trans hs23))))) ?_
    refine g_iload_n (i := 2) (j := 0) (dk_Parcel_keep 48 rfl) rfl rfl ?_
    refine g_iconst (dk_Parcel_keep 49 rfl) (by decide) ?_
    refine g_iadd (dk_Parcel_keep 50 rfl) ?_
    refine g_aload_n (i := 0) (j := 1) (dk_Parcel_keep 51 rfl) rfl rfl ?_
    refine g_getI fl_Parcel_40 (Or.inl rfl) (dk_Parcel_keep 52 rfl) (c2.up (hs6.trans (hs11.trans (hs15.trans (hs19.trans hs23))))) ?_
    obtain ⟨c24, h⟩ := p_gdE h
    obtain ⟨c25, h⟩ := p_gdE h
    refine g_iastore (dk_Parcel_keep 53 rfl) c24 c25.1 c25.2 ?_
    refine p_ltS (P := fun q => p_Go K l m_Parcel_keep 83 [(2, p_i x1), (0, p_r v0), (1, p_i v1)] [] q _) (p_xZ _ _ _ _) ?_ h
    intro s26 hs27 h
    refine g_aload_n (i := 0) (j := 1) (dk_Parcel_keep 54 rfl) rfl rfl ?_
    refine g_getR fl_Parcel_18 (Or.inr ⟨_, rfl⟩) (dk_Parcel_keep 55 rfl) (c2.up (hs6.trans (hs11.trans (hs15.trans (hs19.trans (hs23.trans hs27)))))) ?_
    refine g_iload_n (i := 2) (j := 0) (dk_Parcel_keep 56 rfl) rfl rfl ?_
    refine g_bipush (dk_Parcel_keep 57 rfl) (by decide +kernel) (by decide) ?_
    refine g_iadd (dk_Parcel_keep 58 rfl) ?_
    refine g_aload_n (i := 0) (j := 1) (dk_Parcel_keep 59 rfl) rfl rfl ?_
    refine g_getI fl_Parcel_43 (Or.inr rfl) (dk_Parcel_keep 60 rfl) (c2.up (hs6.trans (hs11.trans (hs15.trans (hs19.trans (hs23.trans hs27)))))) ?_
    refine g_if_eq 102 (dk_Parcel_keep 61 rfl) (by decide) (fun b28 => ?_) (fun b28 => ?_)
    · have h := p_ifT b28 h
      refine g_iconst (dk_Parcel_keep 64 rfl) (by decide) ?_
      refine g_sub [(0, p_r v0), (2, p_i x1)] [1, 0] rfl ?_
      exact tB_Parcel_keep_103 K l v0 x1 0 (p_w (x1 + 6)) (p_R s26 v0 13) s26 _ h
    · have h := p_ifF b28 h
      refine g_iconst (dk_Parcel_keep 62 rfl) (by decide) ?_
      refine g_goto 103 (dk_Parcel_keep 63 rfl) (by decide) ?_
      refine g_sub [(0, p_r v0), (2, p_i x1)] [1, 0] rfl ?_
      exact tB_Parcel_keep_103 K l v0 x1 1 (p_w (x1 + 6)) (p_R s26 v0 13) s26 _ h
  · have h := p_ifF b7 h
    cases h
    exact g_ret rfl rfl (dk_Parcel_keep 13 rfl) (fun _ => rfl)
def m_State_keep : p_Me := (⟨"SortWorks$State", "keep", "(II)V"⟩, prog_9_method_2_code, 5, none, 2, 82)
theorem mt_State_keep : p_Mt m_State_keep 2 := ⟨p_mem (p_tb4 (List.mem_of_getElem? (i := 142) rfl)) rfl, tw_1_3, by decide +kernel, by decide +kernel, by decide +kernel⟩
def dt_State_keep : List (Nat × Instr × Nat) := [(0, .bipush 16, 2), (2, .iload_n 1, 1), (3, .imul, 1), (4, .istore_n 3, 1), (5, .aload_n 0, 1), (6, .getfield 39, 3), (9, .iload_n 3, 1), (10, .aload_n 0, 1), (11, .getfield 46, 3), (14, .iastore, 1), (15, .aload_n 0, 1), (16, .getfield 39, 3), (19, .iload_n 3, 1), (20, .iconst 1, 1), (21, .iadd, 1), (22, .aload_n 0, 1), (23, .getfield 50, 3), (26, .iastore, 1), (27, .aload_n 0, 1), (28, .getfield 39, 3), (31, .iload_n 3, 1), (32, .iconst 2, 1), (33, .iadd, 1), (34, .aload_n 0, 1), (35, .getfield 53, 3), (38, .iastore, 1), (39, .aload_n 0, 1), (40, .getfield 39, 3), (43, .iload_n 3, 1), (44, .iconst 3, 1), (45, .iadd, 1), (46, .aload_n 0, 1), (47, .getfield 56, 3), (50, .iastore, 1), (51, .aload_n 0, 1), (52, .getfield 23, 3), (55, .iconst 0, 1), (56, .aload_n 0, 1), (57, .getfield 39, 3), (60, .iload_n 3, 1), (61, .iconst 4, 1), (62, .iadd, 1), (63, .bipush 12, 2), (65, .invokestatic 59, 3), (68, .iconst 0, 1), (69, .istore 4, 2), (71, .iload 4, 2), (73, .iload_n 2, 1), (74, .if_icmp .ge 20, 3), (77, .aload_n 0, 1), (78, .getfield 13, 3), (81, .iload 4, 2), (83, .aaload, 1), (84, .iload_n 1, 1), (85, .invokevirtual 65, 3), (88, .iinc 4 1, 3), (91, .goto (-20), 3), (94, .iconst 1, 1), (95, .istore 4, 2), (97, .iload 4, 2), (99, .bipush 30, 2), (101, .if_icmp .gt 20, 3), (104, .aload_n 0, 1), (105, .getfield 19, 3), (108, .iload 4, 2), (110, .aaload, 1), (111, .iload_n 1, 1), (112, .invokevirtual 68, 3), (115, .iinc 4 1, 3), (118, .goto (-21), 3), (121, .aload_n 0, 1), (122, .getfield 32, 3), (125, .iload_n 1, 1), (126, .invokevirtual 69, 3), (129, .aload_n 0, 1), (130, .getfield 36, 3), (133, .iload_n 1, 1), (134, .invokevirtual 69, 3), (137, .return_, 1)]
theorem dk_State_keep (i : Nat) {pc : Nat} {ins : Instr} {len : Nat} (h : dt_State_keep[i]? = some (pc, ins, len)) : decode m_State_keep.2.1 pc = .ok (ins, len) := p_dk (b := m_State_keep.2.1) (t := dt_State_keep) (by decide +kernel) i h
def L_State_keep_97 (k97 : Nat → Int → Int → p_Hp → Option p_Hp) (v0 : Nat) (v1 : Int) (v4 : Int) (s0 : p_Hp) : Option p_Hp :=
  if 30 < v4 then
    p_gd (p_is s0 v0 7) <|
    p_gd (p_is s0 (p_R s0 v0 7) 2) <|
    p_bv (F_Log_keep (p_R s0 v0 7) v1 s0) fun s4 =>
    p_gd (p_is s4 (p_R s4 v0 8) 2) <|
    p_bv (F_Log_keep (p_R s4 v0 8) v1 s4) fun s9 =>
    some s9
  else
    p_gd (p_is s0 v0 7) <|
    p_gd (p_is s0 (p_R s0 v0 5) 106) <|
    p_gd ((0 : Int) ≤ v4 ∧ v4 < (p_L s0 (p_R s0 v0 5) : Int)) <|
    p_gd (p_is s0 (p_R s0 (p_R s0 v0 5) (v4 : Int).toNat) 4) <|
    p_bv (F_Parcel_keep (p_R s0 (p_R s0 v0 5) (v4 : Int).toNat) v1 s0) fun s17 =>
    p_bi (p_w (v4 + 1)) fun x21 =>
    k97 v0 v1 x21 s17
def O_State_keep_97  : Nat → Nat → Int → Int → p_Hp → Option p_Hp
  | 0 => fun _ _ _ _ => none
  | n + 1 => L_State_keep_97 (O_State_keep_97 n)
def L_State_keep_71 (k71 : Nat → Int → Int → Int → p_Hp → Option p_Hp) (v0 : Nat) (v1 : Int) (v2 : Int) (v4 : Int) (s0 : p_Hp) : Option p_Hp :=
  if v2 ≤ v4 then
    O_State_keep_97 3000 v0 v1 1 s0
  else
    p_gd (p_is s0 v0 7) <|
    p_gd (p_is s0 (p_R s0 v0 4) 105) <|
    p_gd ((0 : Int) ≤ v4 ∧ v4 < (p_L s0 (p_R s0 v0 4) : Int)) <|
    p_gd (p_is s0 (p_R s0 (p_R s0 v0 4) (v4 : Int).toNat) 0) <|
    p_bv (F_Gear_keep (p_R s0 (p_R s0 v0 4) (v4 : Int).toNat) v1 s0) fun s6 =>
    p_bi (p_w (v4 + 1)) fun x10 =>
    k71 v0 v1 v2 x10 s6
def O_State_keep_71  : Nat → Nat → Int → Int → Int → p_Hp → Option p_Hp
  | 0 => fun _ _ _ _ _ => none
  | n + 1 => L_State_keep_71 (O_State_keep_71 n)
def F_State_keep (v0 : Nat) (v1 : Int) (v2 : Int) (s0 : p_Hp) : Option p_Hp :=
  p_bi ((p_w (16 * v1))) fun x1 =>
  p_gd (p_is s0 v0 7) <|
  p_gd (p_is s0 (p_R s0 v0 9) 100) <|
  p_gd ((0 : Int) ≤ x1 ∧ x1 < (p_L s0 (p_R s0 v0 9) : Int)) <|
  p_bi (p_wZ s0 (p_R s0 v0 9) (x1 : Int).toNat (p_Z s0 v0 0)) fun s5 =>
  p_gd (p_is s5 (p_R s5 v0 9) 100) <|
  p_gd ((0 : Int) ≤ (p_w (x1 + 1)) ∧ (p_w (x1 + 1)) < (p_L s5 (p_R s5 v0 9) : Int)) <|
  p_bi (p_wZ s5 (p_R s5 v0 9) ((p_w (x1 + 1)) : Int).toNat (p_Z s5 v0 1)) fun s9 =>
  p_gd (p_is s9 (p_R s9 v0 9) 100) <|
  p_gd ((0 : Int) ≤ (p_w (x1 + 2)) ∧ (p_w (x1 + 2)) < (p_L s9 (p_R s9 v0 9) : Int)) <|
  p_bi (p_wZ s9 (p_R s9 v0 9) ((p_w (x1 + 2)) : Int).toNat (p_Z s9 v0 2)) fun s13 =>
  p_gd (p_is s13 (p_R s13 v0 9) 100) <|
  p_gd ((0 : Int) ≤ (p_w (x1 + 3)) ∧ (p_w (x1 + 3)) < (p_L s13 (p_R s13 v0 9) : Int)) <|
  p_bi (p_wZ s13 (p_R s13 v0 9) ((p_w (x1 + 3)) : Int).toNat (p_Z s13 v0 3)) fun s17 =>
  p_gd (p_is s17 (p_R s17 v0 6) 100) <|
  p_gd (p_is s17 (p_R s17 v0 9) 100) <|
  p_gd ((0 : Int) ≤ 0 ∧ (0 : Int) ≤ (p_w (x1 + 4)) ∧ (0 : Int) ≤ 12 ∧ 0 + 12 ≤ (p_L s17 (p_R s17 v0 6) : Int) ∧ (p_w (x1 + 4)) + 12 ≤ (p_L s17 (p_R s17 v0 9) : Int)) <|
  p_bi (p_cp s17 (p_R s17 v0 6) (0 : Int).toNat (p_R s17 v0 9) ((p_w (x1 + 4)) : Int).toNat (12 : Int).toNat) fun s22 =>
  O_State_keep_71 3000 v0 v1 v2 0 s22
set_option maxRecDepth 100000 in
set_option maxHeartbeats 4000000 in
theorem tL_State_keep_97 (K : p_K) (l : Launch) (k97 : Nat → Int → Int → p_Hp → Option p_Hp) (hk97 : ∀ (v0 : Nat) (v1 : Int) (v4 : Int)  (s0 : p_Hp) (r : p_Hp), k97 v0 v1 v4 s0 = some r → p_Go K l m_State_keep 97 [(0, p_r v0), (1, p_i v1), (4, p_i v4)] [] s0 (none, r)) (v0 : Nat) (v1 : Int) (v4 : Int) (s0 : p_Hp) (r : p_Hp) (h : L_State_keep_97 k97 v0 v1 v4 s0 = some r) : p_Go K l m_State_keep 97 [(0, p_r v0), (1, p_i v1), (4, p_i v4)] [] s0 (none, r) := by
  unfold L_State_keep_97 at h
  refine g_iload (j := 2) (dk_State_keep 59 rfl) rfl ?_
  refine g_bipush (dk_State_keep 60 rfl) (by decide +kernel) (by decide) ?_
  refine g_icmp_gt 121 (dk_State_keep 61 rfl) (by decide) (fun b1 => ?_) (fun b1 => ?_)
  · have h := p_ifT b1 h
    refine g_aload_n (i := 0) (j := 0) (dk_State_keep 70 rfl) rfl rfl ?_
    obtain ⟨c2, h⟩ := p_gdE h
    refine g_getR fl_State_32 (Or.inl ⟨_, rfl⟩) (dk_State_keep 71 rfl) c2 ?_
    refine g_iload_n (i := 1) (j := 1) (dk_State_keep 72 rfl) rfl rfl ?_
    obtain ⟨c3, h⟩ := p_gdE h
    obtain ⟨s4, q5, h⟩ := p_bvE h
    have t6 := tF_Log_keep K l (p_R s0 v0 7) v1 s0 _ q5
    refine g_callV (a := (p_R s0 v0 7)) (ci := 2) (q0 := (RX2, TX2, 6)) (As := [p_i v1]) (rest := []) [] mt_Log_keep rfl rfl tw_4_154 tw_4_155 tw_4_153 ⟨Nat.le_of_ble_eq_true rfl, Nat.le_of_ble_eq_true rfl⟩ rfl (Nat.le_of_ble_eq_true rfl) (dk_State_keep 73 rfl) rfl c3 rfl t6 ?_
    have hs7 : p_x s0 s4 := t6.1
    show p_Go K l m_State_keep 129 [(0, p_r v0), (1, p_i v1), (4, p_i v4)] [] s4 _
    refine g_aload_n (i := 0) (j := 0) (dk_State_keep 74 rfl) rfl rfl ?_
    refine g_getR fl_State_36 (Or.inl ⟨_, rfl⟩) (dk_State_keep 75 rfl) (c2.up hs7) ?_
    refine g_iload_n (i := 1) (j := 1) (dk_State_keep 76 rfl) rfl rfl ?_
    obtain ⟨c8, h⟩ := p_gdE h
    obtain ⟨s9, q10, h⟩ := p_bvE h
    have t11 := tF_Log_keep K l (p_R s4 v0 8) v1 s4 _ q10
    refine g_callV (a := (p_R s4 v0 8)) (ci := 2) (q0 := (RX2, TX2, 6)) (As := [p_i v1]) (rest := []) [] mt_Log_keep rfl rfl tw_4_154 tw_4_155 tw_4_153 ⟨Nat.le_of_ble_eq_true rfl, Nat.le_of_ble_eq_true rfl⟩ rfl (Nat.le_of_ble_eq_true rfl) (dk_State_keep 77 rfl) rfl c8 rfl t11 ?_
    have hs12 : p_x s4 s9 := t11.1
    show p_Go K l m_State_keep 137 [(0, p_r v0), (1, p_i v1), (4, p_i v4)] [] s9 _
    cases h
    exact g_ret rfl rfl (dk_State_keep 78 rfl) (fun _ => rfl)
  · have h := p_ifF b1 h
    refine g_aload_n (i := 0) (j := 0) (dk_State_keep 62 rfl) rfl rfl ?_
    obtain ⟨c13, h⟩ := p_gdE h
    refine g_getR fl_State_19 (Or.inr ⟨_, rfl⟩) (dk_State_keep 63 rfl) c13 ?_
    refine g_iload (j := 2) (dk_State_keep 64 rfl) rfl ?_
    obtain ⟨c14, h⟩ := p_gdE h
    obtain ⟨c15, h⟩ := p_gdE h
    refine g_aaload (i := 6) rfl (Or.inl ⟨_, rfl⟩) (dk_State_keep 65 rfl) c14 c15.1 c15.2 ?_
    refine g_iload_n (i := 1) (j := 1) (dk_State_keep 66 rfl) rfl rfl ?_
    obtain ⟨c16, h⟩ := p_gdE h
    obtain ⟨s17, q18, h⟩ := p_bvE h
    have t19 := tF_Parcel_keep K l (p_R s0 (p_R s0 v0 5) (v4 : Int).toNat) v1 s0 _ q18
    refine g_callV (a := (p_R s0 (p_R s0 v0 5) (v4 : Int).toNat)) (ci := 4) (q0 := (RX4, TX4, 14)) (As := [p_i v1]) (rest := []) [] mt_Parcel_keep rfl rfl tw_4_149 tw_4_150 tw_4_148 ⟨Nat.le_of_ble_eq_true rfl, Nat.le_of_ble_eq_true rfl⟩ rfl (Nat.le_of_ble_eq_true rfl) (dk_State_keep 67 rfl) rfl c16 rfl t19 ?_
    have hs20 : p_x s0 s17 := t19.1
    show p_Go K l m_State_keep 115 [(0, p_r v0), (1, p_i v1), (4, p_i v4)] [] s17 _
    refine g_iinc (j := 2) [(4, p_i (p_w (v4 + 1))), (0, p_r v0), (1, p_i v1)] (dk_State_keep 68 rfl) rfl (by decide) rfl ?_
    refine p_ltG (P := fun q => p_Go K l m_State_keep 118 [(4, p_i q), (0, p_r v0), (1, p_i v1)] [] s17 _) ?_ h
    intro x21 h
    refine g_goto 97 (dk_State_keep 69 rfl) (by decide) ?_
    refine g_sub [(0, p_r v0), (1, p_i v1), (4, p_i x21)] [1, 2, 0] rfl ?_
    exact hk97 v0 v1 x21 s17 _ h
set_option maxRecDepth 100000 in
set_option maxHeartbeats 4000000 in
theorem tO_State_keep_97 (K : p_K) (l : Launch)  : ∀ (n : Nat) (v0 : Nat) (v1 : Int) (v4 : Int) (s0 : p_Hp) (r : p_Hp), O_State_keep_97 n v0 v1 v4 s0 = some r → p_Go K l m_State_keep 97 [(0, p_r v0), (1, p_i v1), (4, p_i v4)] [] s0 (none, r) := by
  intro n
  induction n with
  | zero => intro v0 v1 v4 s0 r h; cases (show (none : Option p_Hp) = some r from h)
  | succ n ih => intro v0 v1 v4 s0 r h; exact tL_State_keep_97 K l _ ih v0 v1 v4 s0 r h
set_option maxRecDepth 100000 in
set_option maxHeartbeats 4000000 in
theorem tL_State_keep_71 (K : p_K) (l : Launch) (k71 : Nat → Int → Int → Int → p_Hp → Option p_Hp) (hk71 : ∀ (v0 : Nat) (v1 : Int) (v2 : Int) (v4 : Int)  (s0 : p_Hp) (r : p_Hp), k71 v0 v1 v2 v4 s0 = some r → p_Go K l m_State_keep 71 [(0, p_r v0), (1, p_i v1), (2, p_i v2), (4, p_i v4)] [] s0 (none, r)) (v0 : Nat) (v1 : Int) (v2 : Int) (v4 : Int) (s0 : p_Hp) (r : p_Hp) (h : L_State_keep_71 k71 v0 v1 v2 v4 s0 = some r) : p_Go K l m_State_keep 71 [(0, p_r v0), (1, p_i v1), (2, p_i v2), (4, p_i v4)] [] s0 (none, r) := by
  unfold L_State_keep_71 at h
  refine g_iload (j := 3) (dk_State_keep 46 rfl) rfl ?_
  refine g_iload_n (i := 2) (j := 2) (dk_State_keep 47 rfl) rfl rfl ?_
  refine g_icmp_ge 94 (dk_State_keep 48 rfl) (by decide) (fun b1 => ?_) (fun b1 => ?_)
  · have h := p_ifT b1 h
    refine g_iconst (dk_State_keep 57 rfl) (by decide) ?_
    refine g_istore [(4, p_i 1), (0, p_r v0), (1, p_i v1), (2, p_i v2)] (dk_State_keep 58 rfl) (by decide) rfl ?_
    refine g_sub [(0, p_r v0), (1, p_i v1), (4, p_i 1)] [1, 2, 0] rfl ?_
    exact tO_State_keep_97 K l 3000 v0 v1 1 s0 _ h
  · have h := p_ifF b1 h
    refine g_aload_n (i := 0) (j := 0) (dk_State_keep 49 rfl) rfl rfl ?_
    obtain ⟨c2, h⟩ := p_gdE h
    refine g_getR fl_State_13 (Or.inr ⟨_, rfl⟩) (dk_State_keep 50 rfl) c2 ?_
    refine g_iload (j := 3) (dk_State_keep 51 rfl) rfl ?_
    obtain ⟨c3, h⟩ := p_gdE h
    obtain ⟨c4, h⟩ := p_gdE h
    refine g_aaload (i := 5) rfl (Or.inl ⟨_, rfl⟩) (dk_State_keep 52 rfl) c3 c4.1 c4.2 ?_
    refine g_iload_n (i := 1) (j := 1) (dk_State_keep 53 rfl) rfl rfl ?_
    obtain ⟨c5, h⟩ := p_gdE h
    obtain ⟨s6, q7, h⟩ := p_bvE h
    have t8 := tF_Gear_keep K l (p_R s0 (p_R s0 v0 4) (v4 : Int).toNat) v1 s0 _ q7
    refine g_callV (a := (p_R s0 (p_R s0 v0 4) (v4 : Int).toNat)) (ci := 0) (q0 := (RX0, TX0, 20)) (As := [p_i v1]) (rest := []) [] mt_Gear_keep rfl rfl tw_4_145 tw_4_146 tw_4_144 ⟨Nat.le_of_ble_eq_true rfl, Nat.le_of_ble_eq_true rfl⟩ rfl (Nat.le_of_ble_eq_true rfl) (dk_State_keep 54 rfl) rfl c5 rfl t8 ?_
    have hs9 : p_x s0 s6 := t8.1
    show p_Go K l m_State_keep 88 [(0, p_r v0), (1, p_i v1), (2, p_i v2), (4, p_i v4)] [] s6 _
    refine g_iinc (j := 3) [(4, p_i (p_w (v4 + 1))), (0, p_r v0), (1, p_i v1), (2, p_i v2)] (dk_State_keep 55 rfl) rfl (by decide) rfl ?_
    refine p_ltG (P := fun q => p_Go K l m_State_keep 91 [(4, p_i q), (0, p_r v0), (1, p_i v1), (2, p_i v2)] [] s6 _) ?_ h
    intro x10 h
    refine g_goto 71 (dk_State_keep 56 rfl) (by decide) ?_
    refine g_sub [(0, p_r v0), (1, p_i v1), (2, p_i v2), (4, p_i x10)] [1, 2, 3, 0] rfl ?_
    exact hk71 v0 v1 v2 x10 s6 _ h
set_option maxRecDepth 100000 in
set_option maxHeartbeats 4000000 in
theorem tO_State_keep_71 (K : p_K) (l : Launch)  : ∀ (n : Nat) (v0 : Nat) (v1 : Int) (v2 : Int) (v4 : Int) (s0 : p_Hp) (r : p_Hp), O_State_keep_71 n v0 v1 v2 v4 s0 = some r → p_Go K l m_State_keep 71 [(0, p_r v0), (1, p_i v1), (2, p_i v2), (4, p_i v4)] [] s0 (none, r) := by
  intro n
  induction n with
  | zero => intro v0 v1 v2 v4 s0 r h; cases (show (none : Option p_Hp) = some r from h)
  | succ n ih => intro v0 v1 v2 v4 s0 r h; exact tL_State_keep_71 K l _ ih v0 v1 v2 v4 s0 r h
set_option maxRecDepth 100000 in
set_option maxHeartbeats 4000000 in
theorem tF_State_keep (K : p_K) (l : Launch) (v0 : Nat) (v1 : Int) (v2 : Int) (s0 : p_Hp) (r : p_Hp) (h : F_State_keep v0 v1 v2 s0 = some r) : p_Ct K l m_State_keep [p_r v0, p_i v1, p_i v2] s0 (none, r) := by
  refine p_Ct.of (by decide +kernel) (Nat.le_of_ble_eq_true rfl) ?_
  unfold F_State_keep at h
  show p_Go K l m_State_keep 0 [(0, p_r v0), (1, p_i v1), (2, p_i v2)] [] s0 _
  refine g_bipush (dk_State_keep 0 rfl) (by decide +kernel) (by decide) ?_
  refine g_iload_n (i := 1) (j := 1) (dk_State_keep 1 rfl) rfl rfl ?_
  refine g_imul (dk_State_keep 2 rfl) ?_
  refine g_istore_n (i := 3) [(3, p_i (p_w (16 * v1))), (0, p_r v0), (1, p_i v1), (2, p_i v2)] (dk_State_keep 3 rfl) rfl (by decide) rfl ?_
  refine p_ltG (P := fun q => p_Go K l m_State_keep 5 [(3, p_i q), (0, p_r v0), (1, p_i v1), (2, p_i v2)] [] s0 _) ?_ h
  intro x1 h
  refine g_aload_n (i := 0) (j := 1) (dk_State_keep 4 rfl) rfl rfl ?_
  obtain ⟨c2, h⟩ := p_gdE h
  refine g_getR fl_State_39 (Or.inr ⟨_, rfl⟩) (dk_State_keep 5 rfl) c2 ?_
  refine g_iload_n (i := 3) (j := 0) (dk_State_keep 6 rfl) rfl rfl ?_
  refine g_aload_n (i := 0) (j := 1) (dk_State_keep 7 rfl) rfl rfl ?_
  refine g_getI fl_State_46 (Or.inl rfl) (dk_State_keep 8 rfl) c2 ?_
  obtain ⟨c3, h⟩ := p_gdE h
  obtain ⟨c4, h⟩ := p_gdE h
  refine g_iastore (dk_State_keep 9 rfl) c3 c4.1 c4.2 ?_
  refine p_ltS (P := fun q => p_Go K l m_State_keep 15 [(3, p_i x1), (0, p_r v0), (1, p_i v1), (2, p_i v2)] [] q _) (p_xZ _ _ _ _) ?_ h
  intro s5 hs6 h
  refine g_aload_n (i := 0) (j := 1) (dk_State_keep 10 rfl) rfl rfl ?_
  refine g_getR fl_State_39 (Or.inr ⟨_, rfl⟩) (dk_State_keep 11 rfl) (c2.up hs6) ?_
  refine g_iload_n (i := 3) (j := 0) (dk_State_keep 12 rfl) rfl rfl ?_
  refine g_iconst (dk_State_keep 13 rfl) (by decide) ?_
  refine g_iadd (dk_State_keep 14 rfl) ?_
  refine g_aload_n (i := 0) (j := 1) (dk_State_keep 15 rfl) rfl rfl ?_
  refine g_getI fl_State_50 (Or.inl rfl) (dk_State_keep 16 rfl) (c2.up hs6) ?_
  obtain ⟨c7, h⟩ := p_gdE h
  obtain ⟨c8, h⟩ := p_gdE h
  refine g_iastore (dk_State_keep 17 rfl) c7 c8.1 c8.2 ?_
  refine p_ltS (P := fun q => p_Go K l m_State_keep 27 [(3, p_i x1), (0, p_r v0), (1, p_i v1), (2, p_i v2)] [] q _) (p_xZ _ _ _ _) ?_ h
  intro s9 hs10 h
  refine g_aload_n (i := 0) (j := 1) (dk_State_keep 18 rfl) rfl rfl ?_
  refine g_getR fl_State_39 (Or.inr ⟨_, rfl⟩) (dk_State_keep 19 rfl) (c2.up (hs6.trans hs10)) ?_
  refine g_iload_n (i := 3) (j := 0) (dk_State_keep 20 rfl) rfl rfl ?_
  refine g_iconst (dk_State_keep 21 rfl) (by decide) ?_
  refine g_iadd (dk_State_keep 22 rfl) ?_
  refine g_aload_n (i := 0) (j := 1) (dk_State_keep 23 rfl) rfl rfl ?_
  refine g_getI fl_State_53 (Or.inl rfl) (dk_State_keep 24 rfl) (c2.up (hs6.trans hs10)) ?_
  obtain ⟨c11, h⟩ := p_gdE h
  obtain ⟨c12, h⟩ := p_gdE h
  refine g_iastore (dk_State_keep 25 rfl) c11 c12.1 c12.2 ?_
  refine p_ltS (P := fun q => p_Go K l m_State_keep 39 [(3, p_i x1), (0, p_r v0), (1, p_i v1), (2, p_i v2)] [] q _) (p_xZ _ _ _ _) ?_ h
  intro s13 hs14 h
  refine g_aload_n (i := 0) (j := 1) (dk_State_keep 26 rfl) rfl rfl ?_
  refine g_getR fl_State_39 (Or.inr ⟨_, rfl⟩) (dk_State_keep 27 rfl) (c2.up (hs6.trans (hs10.trans hs14))) ?_
  refine g_iload_n (i := 3) (j := 0) (dk_State_keep 28 rfl) rfl rfl ?_
  refine g_iconst (dk_State_keep 29 rfl) (by decide) ?_
  refine g_iadd (dk_State_keep 30 rfl) ?_
  refine g_aload_n (i := 0) (j := 1) (dk_State_keep 31 rfl) rfl rfl ?_
  refine g_getI fl_State_56 (Or.inl rfl) (dk_State_keep 32 rfl) (c2.up (hs6.trans (hs10.trans hs14))) ?_
  obtain ⟨c15, h⟩ := p_gdE h
  obtain ⟨c16, h⟩ := p_gdE h
  refine g_iastore (dk_State_keep 33 rfl) c15 c16.1 c16.2 ?_
  refine p_ltS (P := fun q => p_Go K l m_State_keep 51 [(3, p_i x1), (0, p_r v0), (1, p_i v1), (2, p_i v2)] [] q _) (p_xZ _ _ _ _) ?_ h
  intro s17 hs18 h
  refine g_aload_n (i := 0) (j := 1) (dk_State_keep 34 rfl) rfl rfl ?_
  refine g_getR fl_State_23 (Or.inr ⟨_, rfl⟩) (dk_State_keep 35 rfl) (c2.up (hs6.trans (hs10.trans (hs14.trans hs18)))) ?_
  refine g_iconst (dk_State_keep 36 rfl) (by decide) ?_
  refine g_aload_n (i := 0) (j := 1) (dk_State_keep 37 rfl) rfl rfl ?_
  refine g_getR fl_State_39 (Or.inr ⟨_, rfl⟩) (dk_State_keep 38 rfl) (c2.up (hs6.trans (hs10.trans (hs14.trans hs18)))) ?_
  refine g_iload_n (i := 3) (j := 0) (dk_State_keep 39 rfl) rfl rfl ?_
  refine g_iconst (dk_State_keep 40 rfl) (by decide) ?_
  refine g_iadd (dk_State_keep 41 rfl) ?_
  refine g_bipush (dk_State_keep 42 rfl) (by decide +kernel) (by decide) ?_
  obtain ⟨c19, h⟩ := p_gdE h
  obtain ⟨c20, h⟩ := p_gdE h
  obtain ⟨c21, h⟩ := p_gdE h
  refine g_arraycopy tw_4_143 tw_3_169 tw_3_168 tw_1_14 (dk_State_keep 43 rfl) (Nat.le_of_ble_eq_true rfl) (Nat.le_of_ble_eq_true rfl) c19 c20 c21.1 c21.2.1 c21.2.2.1 c21.2.2.2.1 c21.2.2.2.2 ?_
  refine p_ltS (P := fun q => p_Go K l m_State_keep 68 [(3, p_i x1), (0, p_r v0), (1, p_i v1), (2, p_i v2)] [] q _) (p_xC _ _ _ _ _ _) ?_ h
  intro s22 hs23 h
  refine g_iconst (dk_State_keep 44 rfl) (by decide) ?_
  refine g_istore [(4, p_i 0), (3, p_i x1), (0, p_r v0), (1, p_i v1), (2, p_i v2)] (dk_State_keep 45 rfl) (by decide) rfl ?_
  refine g_sub [(0, p_r v0), (1, p_i v1), (2, p_i v2), (4, p_i 0)] [2, 3, 4, 0] rfl ?_
  exact tO_State_keep_71 K l 3000 v0 v1 v2 0 s22 _ h
def m_Ma_min : p_Me := (⟨"java/lang/Math", "min", "(II)I"⟩, prog_15_method_69_code, 2, (some .int), 0, 0)
theorem mt_Ma_min : p_Mt m_Ma_min 2 := ⟨p_mem (p_tb4 (List.mem_of_getElem? (i := 160) rfl)) rfl, tw_1_15, by decide +kernel, by decide +kernel, by decide +kernel⟩
def dt_Ma_min : List (Nat × Instr × Nat) := [(0, .iload_n 0, 1), (1, .iload_n 1, 1), (2, .if_icmp .gt 7, 3), (5, .iload_n 0, 1), (6, .goto 4, 3), (9, .iload_n 1, 1), (10, .ireturn, 1)]
theorem dk_Ma_min (i : Nat) {pc : Nat} {ins : Instr} {len : Nat} (h : dt_Ma_min[i]? = some (pc, ins, len)) : decode m_Ma_min.2.1 pc = .ok (ins, len) := p_dk (b := m_Ma_min.2.1) (t := dt_Ma_min) (by decide +kernel) i h
def F_Ma_min (v0 : Int) (v1 : Int) (s0 : p_Hp) : Option (Int × p_Hp) :=
  if v1 < v0 then
    some (v1, s0)
  else
    some (v0, s0)
set_option maxRecDepth 100000 in
set_option maxHeartbeats 4000000 in
theorem tF_Ma_min (K : p_K) (l : Launch) (v0 : Int) (v1 : Int) (s0 : p_Hp) (r : (Int × p_Hp)) (h : F_Ma_min v0 v1 s0 = some r) : p_Ct K l m_Ma_min [p_i v0, p_i v1] s0 (some (p_i r.1), r.2) := by
  refine p_Ct.of (by decide +kernel) (Nat.le_of_ble_eq_true rfl) ?_
  unfold F_Ma_min at h
  show p_Go K l m_Ma_min 0 [(0, p_i v0), (1, p_i v1)] [] s0 _
  refine g_iload_n (i := 0) (j := 0) (dk_Ma_min 0 rfl) rfl rfl ?_
  refine g_iload_n (i := 1) (j := 1) (dk_Ma_min 1 rfl) rfl rfl ?_
  refine g_icmp_gt 9 (dk_Ma_min 2 rfl) (by decide) (fun b1 => ?_) (fun b1 => ?_)
  · have h := p_ifT b1 h
    refine g_iload_n (i := 1) (j := 1) (dk_Ma_min 5 rfl) rfl rfl ?_
    cases h
    exact g_ret rfl rfl (dk_Ma_min 6 rfl) (fun os => ⟨_, rfl, p_okh os⟩)
  · have h := p_ifF b1 h
    refine g_iload_n (i := 0) (j := 0) (dk_Ma_min 3 rfl) rfl rfl ?_
    refine g_goto 10 (dk_Ma_min 4 rfl) (by decide) ?_
    cases h
    exact g_ret rfl rfl (dk_Ma_min 6 rfl) (fun os => ⟨_, rfl, p_okh os⟩)
def m_Works_keep : p_Me := (⟨"SortWorks$Works", "keep", "(I)V"⟩, prog_11_method_5_code, 2, none, 3, 106)
theorem mt_Works_keep : p_Mt m_Works_keep 1 := ⟨p_mem (p_tb4 (List.mem_of_getElem? (i := 138) rfl)) rfl, tw_1_2, by decide +kernel, by decide +kernel, by decide +kernel⟩
def dt_Works_keep : List (Nat × Instr × Nat) := [(0, .aload_n 0, 1), (1, .getfield 12, 3), (4, .iload_n 1, 1), (5, .putfield 91, 3), (8, .aload_n 0, 1), (9, .getfield 12, 3), (12, .aload_n 0, 1), (13, .getfield 94, 3), (16, .aload_n 0, 1), (17, .getfield 53, 3), (20, .invokevirtual 97, 3), (23, .aload_n 0, 1), (24, .aload_n 0, 1), (25, .getfield 94, 3), (28, .iconst 1, 1), (29, .iadd, 1), (30, .bipush 30, 2), (32, .irem, 1), (33, .putfield 94, 3), (36, .aload_n 0, 1), (37, .aload_n 0, 1), (38, .getfield 101, 3), (41, .iconst 1, 1), (42, .iadd, 1), (43, .bipush 30, 2), (45, .invokestatic 104, 3), (48, .putfield 101, 3), (51, .return_, 1)]
theorem dk_Works_keep (i : Nat) {pc : Nat} {ins : Instr} {len : Nat} (h : dt_Works_keep[i]? = some (pc, ins, len)) : decode m_Works_keep.2.1 pc = .ok (ins, len) := p_dk (b := m_Works_keep.2.1) (t := dt_Works_keep) (by decide +kernel) i h
def F_Works_keep (v0 : Nat) (v1 : Int) (s0 : p_Hp) : Option p_Hp :=
  p_gd (p_is s0 v0 9) <|
  p_gd (p_is s0 (p_R s0 v0 1) 7) <|
  p_bi (p_wZ s0 (p_R s0 v0 1) 3 v1) fun s3 =>
  p_gd (p_is s3 (p_R s3 v0 1) 7) <|
  p_bv (F_State_keep (p_R s3 v0 1) (p_Z s3 v0 12) (p_Z s3 v0 2) s3) fun s6 =>
  p_bi (p_wZ s6 v0 12 (p_rem (p_w ((p_Z s6 v0 12) + 1)) 30)) fun s10 =>
  p_bd (F_Ma_min (p_w ((p_Z s10 v0 13) + 1)) 30 s10) fun r16 s12 =>
  p_bi (p_wZ s12 v0 13 r16) fun s17 =>
  some s17
set_option maxRecDepth 100000 in
set_option maxHeartbeats 4000000 in
theorem tF_Works_keep (K : p_K) (l : Launch) (v0 : Nat) (v1 : Int) (s0 : p_Hp) (r : p_Hp) (h : F_Works_keep v0 v1 s0 = some r) : p_Ct K l m_Works_keep [p_r v0, p_i v1] s0 (none, r) := by
  refine p_Ct.of (by decide +kernel) (Nat.le_of_ble_eq_true rfl) ?_
  unfold F_Works_keep at h
  show p_Go K l m_Works_keep 0 [(0, p_r v0), (1, p_i v1)] [] s0 _
  refine g_aload_n (i := 0) (j := 0) (dk_Works_keep 0 rfl) rfl rfl ?_
  obtain ⟨c1, h⟩ := p_gdE h
  refine g_getR fl_Works_12 (Or.inl ⟨_, rfl⟩) (dk_Works_keep 1 rfl) c1 ?_
  refine g_iload_n (i := 1) (j := 1) (dk_Works_keep 2 rfl) rfl rfl ?_
  obtain ⟨c2, h⟩ := p_gdE h
  refine g_putI fl_Works_91 (Or.inl rfl) (dk_Works_keep 3 rfl) c2 ?_
  refine p_ltS (P := fun q => p_Go K l m_Works_keep 8 [(0, p_r v0), (1, p_i v1)] [] q _) (p_xZ _ _ _ _) ?_ h
  intro s3 hs4 h
  refine g_aload_n (i := 0) (j := 0) (dk_Works_keep 4 rfl) rfl rfl ?_
  refine g_getR fl_Works_12 (Or.inl ⟨_, rfl⟩) (dk_Works_keep 5 rfl) (c1.up hs4) ?_
  refine g_aload_n (i := 0) (j := 0) (dk_Works_keep 6 rfl) rfl rfl ?_
  refine g_getI fl_Works_94 (Or.inl rfl) (dk_Works_keep 7 rfl) (c1.up hs4) ?_
  refine g_aload_n (i := 0) (j := 0) (dk_Works_keep 8 rfl) rfl rfl ?_
  refine g_getI fl_Works_53 (Or.inl rfl) (dk_Works_keep 9 rfl) (c1.up hs4) ?_
  obtain ⟨c5, h⟩ := p_gdE h
  obtain ⟨s6, q7, h⟩ := p_bvE h
  have t8 := tF_State_keep K l (p_R s3 v0 1) (p_Z s3 v0 12) (p_Z s3 v0 2) s3 _ q7
  refine g_callV (a := (p_R s3 v0 1)) (ci := 7) (q0 := (RX7, TX7, 10)) (As := [p_i (p_Z s3 v0 12), p_i (p_Z s3 v0 2)]) (rest := []) [] mt_State_keep rfl rfl tw_4_140 tw_4_141 tw_4_139 ⟨Nat.le_of_ble_eq_true rfl, Nat.le_of_ble_eq_true rfl⟩ rfl (Nat.le_of_ble_eq_true rfl) (dk_Works_keep 10 rfl) rfl c5 rfl t8 ?_
  have hs9 : p_x s3 s6 := t8.1
  show p_Go K l m_Works_keep 23 [(0, p_r v0), (1, p_i v1)] [] s6 _
  refine g_aload_n (i := 0) (j := 0) (dk_Works_keep 11 rfl) rfl rfl ?_
  refine g_aload_n (i := 0) (j := 0) (dk_Works_keep 12 rfl) rfl rfl ?_
  refine g_getI fl_Works_94 (Or.inl rfl) (dk_Works_keep 13 rfl) (c1.up (hs4.trans hs9)) ?_
  refine g_iconst (dk_Works_keep 14 rfl) (by decide) ?_
  refine g_iadd (dk_Works_keep 15 rfl) ?_
  refine g_bipush (dk_Works_keep 16 rfl) (by decide +kernel) (by decide) ?_
  refine g_irem (dk_Works_keep 17 rfl) (by decide) ?_
  refine g_putI fl_Works_94 (Or.inl rfl) (dk_Works_keep 18 rfl) (c1.up (hs4.trans hs9)) ?_
  refine p_ltS (P := fun q => p_Go K l m_Works_keep 36 [(0, p_r v0), (1, p_i v1)] [] q _) (p_xZ _ _ _ _) ?_ h
  intro s10 hs11 h
  refine g_aload_n (i := 0) (j := 0) (dk_Works_keep 19 rfl) rfl rfl ?_
  refine g_aload_n (i := 0) (j := 0) (dk_Works_keep 20 rfl) rfl rfl ?_
  refine g_getI fl_Works_101 (Or.inl rfl) (dk_Works_keep 21 rfl) (c1.up (hs4.trans (hs9.trans hs11))) ?_
  refine g_iconst (dk_Works_keep 22 rfl) (by decide) ?_
  refine g_iadd (dk_Works_keep 23 rfl) ?_
  refine g_bipush (dk_Works_keep 24 rfl) (by decide +kernel) (by decide) ?_
  obtain ⟨r16, s12, q13, h⟩ := p_bdE h
  have t14 := tF_Ma_min K l (p_w ((p_Z s10 v0 13) + 1)) 30 s10 _ q13
  refine g_callS (av := [p_i (p_w ((p_Z s10 v0 13) + 1)), p_i 30]) (rest := [p_r v0]) [p_i r16, p_r v0] mt_Ma_min tw_4_159 tw_4_158 ⟨Nat.le_of_ble_eq_true rfl, Nat.le_of_ble_eq_true rfl⟩ rfl (Nat.le_of_ble_eq_true rfl) (dk_Works_keep 25 rfl) rfl rfl t14 ?_
  have hs15 : p_x s10 s12 := t14.1
  show p_Go K l m_Works_keep 48 [(0, p_r v0), (1, p_i v1)] [p_i r16, p_r v0] s12 _
  refine g_putI fl_Works_101 (Or.inl rfl) (dk_Works_keep 26 rfl) (c1.up (hs4.trans (hs9.trans (hs11.trans hs15)))) ?_
  refine p_ltS (P := fun q => p_Go K l m_Works_keep 51 [(0, p_r v0), (1, p_i v1)] [] q _) (p_xZ _ _ _ _) ?_ h
  intro s17 hs18 h
  cases h
  exact g_ret rfl rfl (dk_Works_keep 27 rfl) (fun _ => rfl)
def m_Step_run : p_Me := (⟨"SortWorks$Step", "run", "(LSortWorks$Works;LSortWorks$Numbers;)I"⟩, prog_10_method_2_code, 5, (some .int), 6, 145)
theorem mt_Step_run : p_Mt m_Step_run 2 := ⟨p_mem (p_tb4 (List.mem_of_getElem? (i := 134) rfl)) rfl, tw_1_9, by decide +kernel, by decide +kernel, by decide +kernel⟩
def dt_Step_run : List (Nat × Instr × Nat) := [(0, .aload_n 0, 1), (1, .aload_n 1, 1), (2, .putfield 18, 3), (5, .aload_n 0, 1), (6, .aload_n 1, 1), (7, .getfield 22, 3), (10, .putfield 28, 3), (13, .aload_n 0, 1), (14, .aload_n 2, 1), (15, .putfield 29, 3), (18, .aload_n 0, 1), (19, .getfield 28, 3), (22, .getfield 33, 3), (25, .getfield 39, 3), (28, .istore_n 3, 1), (29, .aload_n 0, 1), (30, .getfield 18, 3), (33, .aload_n 0, 1), (34, .getfield 29, 3), (37, .getfield 45, 3), (40, .invokevirtual 50, 3), (43, .aload_n 0, 1), (44, .getfield 28, 3), (47, .dup, 1), (48, .getfield 54, 3), (51, .iconst 1, 1), (52, .iadd, 1), (53, .putfield 54, 3), (56, .aload_n 0, 1), (57, .getfield 18, 3), (60, .iconst 0, 1), (61, .putfield 57, 3), (64, .iconst 1, 1), (65, .istore 4, 2), (67, .iload 4, 2), (69, .bipush 30, 2), (71, .if_icmp .gt 23, 3), (74, .aload_n 0, 1), (75, .getfield 28, 3), (78, .getfield 60, 3), (81, .iload 4, 2), (83, .aaload, 1), (84, .iconst 0, 1), (85, .putfield 64, 3), (88, .iinc 4 1, 3), (91, .goto (-24), 3), (94, .iconst 0, 1), (95, .istore 4, 2), (97, .iload 4, 2), (99, .aload_n 0, 1), (100, .getfield 18, 3), (103, .getfield 70, 3), (106, .if_icmp .ge 15, 3), (109, .aload_n 0, 1), (110, .iload 4, 2), (112, .invokevirtual 73, 3), (115, .iinc 4 1, 3), (118, .goto (-21), 3), (121, .aload_n 0, 1), (122, .invokevirtual 76, 3), (125, .iconst 0, 1), (126, .istore 4, 2), (128, .iload 4, 2), (130, .aload_n 0, 1), (131, .getfield 18, 3), (134, .getfield 79, 3), (137, .if_icmp .ge 32, 3), (140, .aload_n 0, 1), (141, .aload_n 0, 1), (142, .getfield 28, 3), (145, .getfield 82, 3), (148, .iload 4, 2), (150, .aaload, 1), (151, .invokevirtual 86, 3), (154, .ifCond .eq 9, 3), (157, .aload_n 0, 1), (158, .iload 4, 2), (160, .invokevirtual 90, 3), (163, .iinc 4 1, 3), (166, .goto (-38), 3), (169, .aload_n 0, 1), (170, .getfield 28, 3), (173, .getfield 33, 3), (176, .getfield 39, 3), (179, .iload_n 3, 1), (180, .isub, 1), (181, .ireturn, 1)]
theorem dk_Step_run (i : Nat) {pc : Nat} {ins : Instr} {len : Nat} (h : dt_Step_run[i]? = some (pc, ins, len)) : decode m_Step_run.2.1 pc = .ok (ins, len) := p_dk (b := m_Step_run.2.1) (t := dt_Step_run) (by decide +kernel) i h
def B_Step_run_163 (k128 : Nat → Int → Int → p_Hp → Option (Int × p_Hp)) (v0 : Nat) (v3 : Int) (v4 : Int) (s0 : p_Hp) : Option (Int × p_Hp) :=
  p_bi (p_w (v4 + 1)) fun x1 =>
  k128 v0 v3 x1 s0
def L_Step_run_128 (k128 : Nat → Int → Int → p_Hp → Option (Int × p_Hp)) (v0 : Nat) (v3 : Int) (v4 : Int) (s0 : p_Hp) : Option (Int × p_Hp) :=
  p_gd (p_is s0 v0 8) <|
  p_gd (p_is s0 (p_R s0 v0 2) 9) <|
  if (p_Z s0 (p_R s0 v0 2) 2) ≤ v4 then
    p_gd (p_is s0 (p_R s0 v0 3) 7) <|
    p_gd (p_is s0 (p_R s0 (p_R s0 v0 3) 7) 2) <|
    some ((p_w ((p_Z s0 (p_R s0 (p_R s0 v0 3) 7) 3) - v3)), s0)
  else
    p_gd (p_is s0 (p_R s0 v0 3) 7) <|
    p_gd (p_is s0 (p_R s0 (p_R s0 v0 3) 4) 105) <|
    p_gd ((0 : Int) ≤ v4 ∧ v4 < (p_L s0 (p_R s0 (p_R s0 v0 3) 4) : Int)) <|
    p_bd (F_Step_isInStep v0 (p_R s0 (p_R s0 (p_R s0 v0 3) 4) (v4 : Int).toNat) s0) fun r13 s9 =>
    if r13 = 0 then
      B_Step_run_163 k128 v0 v3 v4 s9
    else
      p_bv (F_Step_act v0 v4 s9) fun s15 =>
      B_Step_run_163 k128 v0 v3 v4 s15
def O_Step_run_128  : Nat → Nat → Int → Int → p_Hp → Option (Int × p_Hp)
  | 0 => fun _ _ _ _ => none
  | n + 1 => L_Step_run_128 (O_Step_run_128 n)
def L_Step_run_97 (k97 : Nat → Int → Int → p_Hp → Option (Int × p_Hp)) (v0 : Nat) (v3 : Int) (v4 : Int) (s0 : p_Hp) : Option (Int × p_Hp) :=
  p_gd (p_is s0 v0 8) <|
  p_gd (p_is s0 (p_R s0 v0 2) 9) <|
  if (p_Z s0 (p_R s0 v0 2) 6) ≤ v4 then
    p_bv (F_Step_letMergesChoose v0 s0) fun s4 =>
    O_Step_run_128 3000 v0 v3 0 s4
  else
    p_bv (F_Step_doPlan v0 v4 s0) fun s8 =>
    p_bi (p_w (v4 + 1)) fun x12 =>
    k97 v0 v3 x12 s8
def O_Step_run_97  : Nat → Nat → Int → Int → p_Hp → Option (Int × p_Hp)
  | 0 => fun _ _ _ _ => none
  | n + 1 => L_Step_run_97 (O_Step_run_97 n)
def L_Step_run_67 (k67 : Nat → Int → Int → p_Hp → Option (Int × p_Hp)) (v0 : Nat) (v3 : Int) (v4 : Int) (s0 : p_Hp) : Option (Int × p_Hp) :=
  if 30 < v4 then
    O_Step_run_97 3000 v0 v3 0 s0
  else
    p_gd (p_is s0 v0 8) <|
    p_gd (p_is s0 (p_R s0 v0 3) 7) <|
    p_gd (p_is s0 (p_R s0 (p_R s0 v0 3) 5) 106) <|
    p_gd ((0 : Int) ≤ v4 ∧ v4 < (p_L s0 (p_R s0 (p_R s0 v0 3) 5) : Int)) <|
    p_gd (p_is s0 (p_R s0 (p_R s0 (p_R s0 v0 3) 5) (v4 : Int).toNat) 4) <|
    p_bi (p_wZ s0 (p_R s0 (p_R s0 (p_R s0 v0 3) 5) (v4 : Int).toNat) 8 0) fun s7 =>
    p_bi (p_w (v4 + 1)) fun x9 =>
    k67 v0 v3 x9 s7
def O_Step_run_67  : Nat → Nat → Int → Int → p_Hp → Option (Int × p_Hp)
  | 0 => fun _ _ _ _ => none
  | n + 1 => L_Step_run_67 (O_Step_run_67 n)
def F_Step_run (v0 : Nat) (v1 : Nat) (v2 : Nat) (s0 : p_Hp) : Option (Int × p_Hp) :=
  p_gd (p_is s0 v0 8) <|
  p_bi (p_wR s0 v0 2 v1) fun s2 =>
  p_gd (p_is s2 v1 9) <|
  p_bi (p_wR s2 v0 3 (p_R s2 v1 1)) fun s5 =>
  p_bi (p_wR s5 v0 1 v2) fun s7 =>
  p_gd (p_is s7 (p_R s7 v0 3) 7) <|
  p_gd (p_is s7 (p_R s7 (p_R s7 v0 3) 7) 2) <|
  p_bi ((p_Z s7 (p_R s7 (p_R s7 v0 3) 7) 3)) fun x11 =>
  p_gd (p_is s7 (p_R s7 v0 1) 3) <|
  p_gd (p_is s7 (p_R s7 v0 2) 9) <|
  p_bv (F_Works_keep (p_R s7 v0 2) (p_Z s7 (p_R s7 v0 1) 1) s7) fun s14 =>
  p_gd (p_is s14 (p_R s14 v0 3) 7) <|
  p_bi (p_wZ s14 (p_R s14 v0 3) 0 (p_w ((p_Z s14 (p_R s14 v0 3) 0) + 1))) fun s19 =>
  p_gd (p_is s19 (p_R s19 v0 2) 9) <|
  p_bi (p_wZ s19 (p_R s19 v0 2) 11 0) fun s22 =>
  O_Step_run_67 3000 v0 x11 1 s22
set_option maxRecDepth 100000 in
set_option maxHeartbeats 4000000 in
theorem tB_Step_run_163 (K : p_K) (l : Launch) (k128 : Nat → Int → Int → p_Hp → Option (Int × p_Hp)) (hk128 : ∀ (v0 : Nat) (v3 : Int) (v4 : Int)  (s0 : p_Hp) (r : (Int × p_Hp)), k128 v0 v3 v4 s0 = some r → p_Go K l m_Step_run 128 [(0, p_r v0), (3, p_i v3), (4, p_i v4)] [] s0 (some (p_i r.1), r.2)) (v0 : Nat) (v3 : Int) (v4 : Int) (s0 : p_Hp) (r : (Int × p_Hp)) (h : B_Step_run_163 k128 v0 v3 v4 s0 = some r) : p_Go K l m_Step_run 163 [(0, p_r v0), (3, p_i v3), (4, p_i v4)] [] s0 (some (p_i r.1), r.2) := by
  unfold B_Step_run_163 at h
  refine g_iinc (j := 2) [(4, p_i (p_w (v4 + 1))), (0, p_r v0), (3, p_i v3)] (dk_Step_run 78 rfl) rfl (by decide) rfl ?_
  refine p_ltG (P := fun q => p_Go K l m_Step_run 166 [(4, p_i q), (0, p_r v0), (3, p_i v3)] [] s0 _) ?_ h
  intro x1 h
  refine g_goto 128 (dk_Step_run 79 rfl) (by decide) ?_
  refine g_sub [(0, p_r v0), (3, p_i v3), (4, p_i x1)] [1, 2, 0] rfl ?_
  exact hk128 v0 v3 x1 s0 _ h
set_option maxRecDepth 100000 in
set_option maxHeartbeats 4000000 in
theorem tL_Step_run_128 (K : p_K) (l : Launch) (k128 : Nat → Int → Int → p_Hp → Option (Int × p_Hp)) (hk128 : ∀ (v0 : Nat) (v3 : Int) (v4 : Int)  (s0 : p_Hp) (r : (Int × p_Hp)), k128 v0 v3 v4 s0 = some r → p_Go K l m_Step_run 128 [(0, p_r v0), (3, p_i v3), (4, p_i v4)] [] s0 (some (p_i r.1), r.2)) (v0 : Nat) (v3 : Int) (v4 : Int) (s0 : p_Hp) (r : (Int × p_Hp)) (h : L_Step_run_128 k128 v0 v3 v4 s0 = some r) : p_Go K l m_Step_run 128 [(0, p_r v0), (3, p_i v3), (4, p_i v4)] [] s0 (some (p_i r.1), r.2) := by
  unfold L_Step_run_128 at h
  refine g_iload (j := 2) (dk_Step_run 62 rfl) rfl ?_
  refine g_aload_n (i := 0) (j := 0) (dk_Step_run 63 rfl) rfl rfl ?_
  obtain ⟨c1, h⟩ := p_gdE h
  refine g_getR fl_Step_18 (Or.inl ⟨_, rfl⟩) (dk_Step_run 64 rfl) c1 ?_
  obtain ⟨c2, h⟩ := p_gdE h
  refine g_getI fl_Step_79 (Or.inl rfl) (dk_Step_run 65 rfl) c2 ?_
  refine g_icmp_ge 169 (dk_Step_run 66 rfl) (by decide) (fun b3 => ?_) (fun b3 => ?_)
  · have h := p_ifT b3 h
    refine g_aload_n (i := 0) (j := 0) (dk_Step_run 80 rfl) rfl rfl ?_
    refine g_getR fl_Step_28 (Or.inl ⟨_, rfl⟩) (dk_Step_run 81 rfl) c1 ?_
    obtain ⟨c4, h⟩ := p_gdE h
    refine g_getR fl_Step_33 (Or.inl ⟨_, rfl⟩) (dk_Step_run 82 rfl) c4 ?_
    obtain ⟨c5, h⟩ := p_gdE h
    refine g_getI fl_Step_39 (Or.inl rfl) (dk_Step_run 83 rfl) c5 ?_
    refine g_iload_n (i := 3) (j := 1) (dk_Step_run 84 rfl) rfl rfl ?_
    refine g_isub (dk_Step_run 85 rfl) ?_
    cases h
    exact g_ret rfl rfl (dk_Step_run 86 rfl) (fun os => ⟨_, rfl, p_okh os⟩)
  · have h := p_ifF b3 h
    refine g_aload_n (i := 0) (j := 0) (dk_Step_run 67 rfl) rfl rfl ?_
    refine g_aload_n (i := 0) (j := 0) (dk_Step_run 68 rfl) rfl rfl ?_
    refine g_getR fl_Step_28 (Or.inl ⟨_, rfl⟩) (dk_Step_run 69 rfl) c1 ?_
    obtain ⟨c6, h⟩ := p_gdE h
    refine g_getR fl_Step_82 (Or.inr ⟨_, rfl⟩) (dk_Step_run 70 rfl) c6 ?_
    refine g_iload (j := 2) (dk_Step_run 71 rfl) rfl ?_
    obtain ⟨c7, h⟩ := p_gdE h
    obtain ⟨c8, h⟩ := p_gdE h
    refine g_aaload (i := 5) rfl (Or.inl ⟨_, rfl⟩) (dk_Step_run 72 rfl) c7 c8.1 c8.2 ?_
    obtain ⟨r13, s9, q10, h⟩ := p_bdE h
    have t11 := tF_Step_isInStep K l v0 (p_R s0 (p_R s0 (p_R s0 v0 3) 4) (v4 : Int).toNat) s0 _ q10
    refine g_callV (a := v0) (ci := 8) (q0 := (RX8, TX8, 5)) (As := [p_r (p_R s0 (p_R s0 (p_R s0 v0 3) 4) (v4 : Int).toNat)]) (rest := []) [p_i r13] mt_Step_isInStep rfl rfl tw_4_198 ts_19 tw_4_196 ⟨Nat.le_of_ble_eq_true rfl, Nat.le_of_ble_eq_true rfl⟩ rfl (Nat.le_of_ble_eq_true rfl) (dk_Step_run 73 rfl) rfl c1 rfl t11 ?_
    have hs12 : p_x s0 s9 := t11.1
    show p_Go K l m_Step_run 154 [(0, p_r v0), (3, p_i v3), (4, p_i v4)] [p_i r13] s9 _
    refine g_if_eq 163 (dk_Step_run 74 rfl) (by decide) (fun b14 => ?_) (fun b14 => ?_)
    · have h := p_ifT b14 h
      exact tB_Step_run_163 K l k128 hk128 v0 v3 v4 s9 _ h
    · have h := p_ifF b14 h
      refine g_aload_n (i := 0) (j := 0) (dk_Step_run 75 rfl) rfl rfl ?_
      refine g_iload (j := 2) (dk_Step_run 76 rfl) rfl ?_
      obtain ⟨s15, q16, h⟩ := p_bvE h
      have t17 := tF_Step_act K l v0 v4 s9 _ q16
      refine g_callV (a := v0) (ci := 8) (q0 := (RX8, TX8, 5)) (As := [p_i v4]) (rest := []) [] mt_Step_act rfl rfl tw_4_222 ts_21 tw_4_220 ⟨Nat.le_of_ble_eq_true rfl, Nat.le_of_ble_eq_true rfl⟩ rfl (Nat.le_of_ble_eq_true rfl) (dk_Step_run 77 rfl) rfl (c1.up hs12) rfl t17 ?_
      have hs18 : p_x s9 s15 := t17.1
      show p_Go K l m_Step_run 163 [(0, p_r v0), (3, p_i v3), (4, p_i v4)] [] s15 _
      exact tB_Step_run_163 K l k128 hk128 v0 v3 v4 s15 _ h
set_option maxRecDepth 100000 in
set_option maxHeartbeats 4000000 in
theorem tO_Step_run_128 (K : p_K) (l : Launch)  : ∀ (n : Nat) (v0 : Nat) (v3 : Int) (v4 : Int) (s0 : p_Hp) (r : (Int × p_Hp)), O_Step_run_128 n v0 v3 v4 s0 = some r → p_Go K l m_Step_run 128 [(0, p_r v0), (3, p_i v3), (4, p_i v4)] [] s0 (some (p_i r.1), r.2) := by
  intro n
  induction n with
  | zero => intro v0 v3 v4 s0 r h; cases (show (none : Option (Int × p_Hp)) = some r from h)
  | succ n ih => intro v0 v3 v4 s0 r h; exact tL_Step_run_128 K l _ ih v0 v3 v4 s0 r h
set_option maxRecDepth 100000 in
set_option maxHeartbeats 4000000 in
theorem tL_Step_run_97 (K : p_K) (l : Launch) (k97 : Nat → Int → Int → p_Hp → Option (Int × p_Hp)) (hk97 : ∀ (v0 : Nat) (v3 : Int) (v4 : Int)  (s0 : p_Hp) (r : (Int × p_Hp)), k97 v0 v3 v4 s0 = some r → p_Go K l m_Step_run 97 [(0, p_r v0), (3, p_i v3), (4, p_i v4)] [] s0 (some (p_i r.1), r.2)) (v0 : Nat) (v3 : Int) (v4 : Int) (s0 : p_Hp) (r : (Int × p_Hp)) (h : L_Step_run_97 k97 v0 v3 v4 s0 = some r) : p_Go K l m_Step_run 97 [(0, p_r v0), (3, p_i v3), (4, p_i v4)] [] s0 (some (p_i r.1), r.2) := by
  unfold L_Step_run_97 at h
  refine g_iload (j := 2) (dk_Step_run 48 rfl) rfl ?_
  refine g_aload_n (i := 0) (j := 0) (dk_Step_run 49 rfl) rfl rfl ?_
  obtain ⟨c1, h⟩ := p_gdE h
  refine g_getR fl_Step_18 (Or.inl ⟨_, rfl⟩) (dk_Step_run 50 rfl) c1 ?_
  obtain ⟨c2, h⟩ := p_gdE h
  refine g_getI fl_Step_70 (Or.inl rfl) (dk_Step_run 51 rfl) c2 ?_
  refine g_icmp_ge 121 (dk_Step_run 52 rfl) (by decide) (fun b3 => ?_) (fun b3 => ?_)
  · have h := p_ifT b3 h
    refine g_aload_n (i := 0) (j := 0) (dk_Step_run 58 rfl) rfl rfl ?_
    obtain ⟨s4, q5, h⟩ := p_bvE h
    have t6 := tF_Step_letMergesChoose K l v0 s0 _ q5
    refine g_callV (a := v0) (ci := 8) (q0 := (RX8, TX8, 5)) (As := []) (rest := []) [] mt_Step_letMergesChoose rfl rfl tw_4_189 ts_17 tw_4_187 ⟨Nat.le_of_ble_eq_true rfl, Nat.le_of_ble_eq_true rfl⟩ rfl (Nat.le_of_ble_eq_true rfl) (dk_Step_run 59 rfl) rfl c1 rfl t6 ?_
    have hs7 : p_x s0 s4 := t6.1
    show p_Go K l m_Step_run 125 [(0, p_r v0), (3, p_i v3), (4, p_i v4)] [] s4 _
    refine g_iconst (dk_Step_run 60 rfl) (by decide) ?_
    refine g_istore [(4, p_i 0), (0, p_r v0), (3, p_i v3)] (dk_Step_run 61 rfl) (by decide) rfl ?_
    refine g_sub [(0, p_r v0), (3, p_i v3), (4, p_i 0)] [1, 2, 0] rfl ?_
    exact tO_Step_run_128 K l 3000 v0 v3 0 s4 _ h
  · have h := p_ifF b3 h
    refine g_aload_n (i := 0) (j := 0) (dk_Step_run 53 rfl) rfl rfl ?_
    refine g_iload (j := 2) (dk_Step_run 54 rfl) rfl ?_
    obtain ⟨s8, q9, h⟩ := p_bvE h
    have t10 := tF_Step_doPlan K l v0 v4 s0 _ q9
    refine g_callV (a := v0) (ci := 8) (q0 := (RX8, TX8, 5)) (As := [p_i v4]) (rest := []) [] mt_Step_doPlan rfl rfl tw_4_163 ts_14 tw_4_161 ⟨Nat.le_of_ble_eq_true rfl, Nat.le_of_ble_eq_true rfl⟩ rfl (Nat.le_of_ble_eq_true rfl) (dk_Step_run 55 rfl) rfl c1 rfl t10 ?_
    have hs11 : p_x s0 s8 := t10.1
    show p_Go K l m_Step_run 115 [(0, p_r v0), (3, p_i v3), (4, p_i v4)] [] s8 _
    refine g_iinc (j := 2) [(4, p_i (p_w (v4 + 1))), (0, p_r v0), (3, p_i v3)] (dk_Step_run 56 rfl) rfl (by decide) rfl ?_
    refine p_ltG (P := fun q => p_Go K l m_Step_run 118 [(4, p_i q), (0, p_r v0), (3, p_i v3)] [] s8 _) ?_ h
    intro x12 h
    refine g_goto 97 (dk_Step_run 57 rfl) (by decide) ?_
    refine g_sub [(0, p_r v0), (3, p_i v3), (4, p_i x12)] [1, 2, 0] rfl ?_
    exact hk97 v0 v3 x12 s8 _ h
set_option maxRecDepth 100000 in
set_option maxHeartbeats 4000000 in
theorem tO_Step_run_97 (K : p_K) (l : Launch)  : ∀ (n : Nat) (v0 : Nat) (v3 : Int) (v4 : Int) (s0 : p_Hp) (r : (Int × p_Hp)), O_Step_run_97 n v0 v3 v4 s0 = some r → p_Go K l m_Step_run 97 [(0, p_r v0), (3, p_i v3), (4, p_i v4)] [] s0 (some (p_i r.1), r.2) := by
  intro n
  induction n with
  | zero => intro v0 v3 v4 s0 r h; cases (show (none : Option (Int × p_Hp)) = some r from h)
  | succ n ih => intro v0 v3 v4 s0 r h; exact tL_Step_run_97 K l _ ih v0 v3 v4 s0 r h
set_option maxRecDepth 100000 in
set_option maxHeartbeats 4000000 in
theorem tL_Step_run_67 (K : p_K) (l : Launch) (k67 : Nat → Int → Int → p_Hp → Option (Int × p_Hp)) (hk67 : ∀ (v0 : Nat) (v3 : Int) (v4 : Int)  (s0 : p_Hp) (r : (Int × p_Hp)), k67 v0 v3 v4 s0 = some r → p_Go K l m_Step_run 67 [(0, p_r v0), (3, p_i v3), (4, p_i v4)] [] s0 (some (p_i r.1), r.2)) (v0 : Nat) (v3 : Int) (v4 : Int) (s0 : p_Hp) (r : (Int × p_Hp)) (h : L_Step_run_67 k67 v0 v3 v4 s0 = some r) : p_Go K l m_Step_run 67 [(0, p_r v0), (3, p_i v3), (4, p_i v4)] [] s0 (some (p_i r.1), r.2) := by
  unfold L_Step_run_67 at h
  refine g_iload (j := 2) (dk_Step_run 34 rfl) rfl ?_
  refine g_bipush (dk_Step_run 35 rfl) (by decide +kernel) (by decide) ?_
  refine g_icmp_gt 94 (dk_Step_run 36 rfl) (by decide) (fun b1 => ?_) (fun b1 => ?_)
  · have h := p_ifT b1 h
    refine g_iconst (dk_Step_run 46 rfl) (by decide) ?_
    refine g_istore [(4, p_i 0), (0, p_r v0), (3, p_i v3)] (dk_Step_run 47 rfl) (by decide) rfl ?_
    refine g_sub [(0, p_r v0), (3, p_i v3), (4, p_i 0)] [1, 2, 0] rfl ?_
    exact tO_Step_run_97 K l 3000 v0 v3 0 s0 _ h
  · have h := p_ifF b1 h
    refine g_aload_n (i := 0) (j := 0) (dk_Step_run 37 rfl) rfl rfl ?_
    obtain ⟨c2, h⟩ := p_gdE h
    refine g_getR fl_Step_28 (Or.inl ⟨_, rfl⟩) (dk_Step_run 38 rfl) c2 ?_
    obtain ⟨c3, h⟩ := p_gdE h
    refine g_getR fl_Step_60 (Or.inr ⟨_, rfl⟩) (dk_Step_run 39 rfl) c3 ?_
    refine g_iload (j := 2) (dk_Step_run 40 rfl) rfl ?_
    obtain ⟨c4, h⟩ := p_gdE h
    obtain ⟨c5, h⟩ := p_gdE h
    refine g_aaload (i := 6) rfl (Or.inl ⟨_, rfl⟩) (dk_Step_run 41 rfl) c4 c5.1 c5.2 ?_
    refine g_iconst (dk_Step_run 42 rfl) (by decide) ?_
    obtain ⟨c6, h⟩ := p_gdE h
    refine g_putB fl_Step_64 (Or.inl rfl) (dk_Step_run 43 rfl) c6 (Or.inl rfl) ?_
    refine p_ltS (P := fun q => p_Go K l m_Step_run 88 [(0, p_r v0), (3, p_i v3), (4, p_i v4)] [] q _) (p_xZ _ _ _ _) ?_ h
    intro s7 hs8 h
    refine g_iinc (j := 2) [(4, p_i (p_w (v4 + 1))), (0, p_r v0), (3, p_i v3)] (dk_Step_run 44 rfl) rfl (by decide) rfl ?_
    refine p_ltG (P := fun q => p_Go K l m_Step_run 91 [(4, p_i q), (0, p_r v0), (3, p_i v3)] [] s7 _) ?_ h
    intro x9 h
    refine g_goto 67 (dk_Step_run 45 rfl) (by decide) ?_
    refine g_sub [(0, p_r v0), (3, p_i v3), (4, p_i x9)] [1, 2, 0] rfl ?_
    exact hk67 v0 v3 x9 s7 _ h
set_option maxRecDepth 100000 in
set_option maxHeartbeats 4000000 in
theorem tO_Step_run_67 (K : p_K) (l : Launch)  : ∀ (n : Nat) (v0 : Nat) (v3 : Int) (v4 : Int) (s0 : p_Hp) (r : (Int × p_Hp)), O_Step_run_67 n v0 v3 v4 s0 = some r → p_Go K l m_Step_run 67 [(0, p_r v0), (3, p_i v3), (4, p_i v4)] [] s0 (some (p_i r.1), r.2) := by
  intro n
  induction n with
  | zero => intro v0 v3 v4 s0 r h; cases (show (none : Option (Int × p_Hp)) = some r from h)
  | succ n ih => intro v0 v3 v4 s0 r h; exact tL_Step_run_67 K l _ ih v0 v3 v4 s0 r h
set_option maxRecDepth 100000 in
set_option maxHeartbeats 4000000 in
theorem tF_Step_run (K : p_K) (l : Launch) (v0 : Nat) (v1 : Nat) (v2 : Nat) (s0 : p_Hp) (r : (Int × p_Hp)) (h : F_Step_run v0 v1 v2 s0 = some r) : p_Ct K l m_Step_run [p_r v0, p_r v1, p_r v2] s0 (some (p_i r.1), r.2) := by
  refine p_Ct.of (by decide +kernel) (Nat.le_of_ble_eq_true rfl) ?_
  unfold F_Step_run at h
  show p_Go K l m_Step_run 0 [(0, p_r v0), (1, p_r v1), (2, p_r v2)] [] s0 _
  refine g_aload_n (i := 0) (j := 0) (dk_Step_run 0 rfl) rfl rfl ?_
  refine g_aload_n (i := 1) (j := 1) (dk_Step_run 1 rfl) rfl rfl ?_
  obtain ⟨c1, h⟩ := p_gdE h
  refine g_putR fl_Step_18 (Or.inl ⟨_, rfl⟩) (Or.inl rfl) (dk_Step_run 2 rfl) c1 ?_
  refine p_ltS (P := fun q => p_Go K l m_Step_run 5 [(0, p_r v0), (1, p_r v1), (2, p_r v2)] [] q _) (p_xR _ _ _ _) ?_ h
  intro s2 hs3 h
  refine g_aload_n (i := 0) (j := 0) (dk_Step_run 3 rfl) rfl rfl ?_
  refine g_aload_n (i := 1) (j := 1) (dk_Step_run 4 rfl) rfl rfl ?_
  obtain ⟨c4, h⟩ := p_gdE h
  refine g_getR fl_Step_22 (Or.inl ⟨_, rfl⟩) (dk_Step_run 5 rfl) c4 ?_
  refine g_putR fl_Step_28 (Or.inl ⟨_, rfl⟩) (Or.inl rfl) (dk_Step_run 6 rfl) (c1.up hs3) ?_
  refine p_ltS (P := fun q => p_Go K l m_Step_run 13 [(0, p_r v0), (1, p_r v1), (2, p_r v2)] [] q _) (p_xR _ _ _ _) ?_ h
  intro s5 hs6 h
  refine g_aload_n (i := 0) (j := 0) (dk_Step_run 7 rfl) rfl rfl ?_
  refine g_aload_n (i := 2) (j := 2) (dk_Step_run 8 rfl) rfl rfl ?_
  refine g_putR fl_Step_29 (Or.inl ⟨_, rfl⟩) (Or.inl rfl) (dk_Step_run 9 rfl) (c1.up (hs3.trans hs6)) ?_
  refine p_ltS (P := fun q => p_Go K l m_Step_run 18 [(0, p_r v0), (1, p_r v1), (2, p_r v2)] [] q _) (p_xR _ _ _ _) ?_ h
  intro s7 hs8 h
  refine g_aload_n (i := 0) (j := 0) (dk_Step_run 10 rfl) rfl rfl ?_
  refine g_getR fl_Step_28 (Or.inl ⟨_, rfl⟩) (dk_Step_run 11 rfl) (c1.up (hs3.trans (hs6.trans hs8))) ?_
  obtain ⟨c9, h⟩ := p_gdE h
  refine g_getR fl_Step_33 (Or.inl ⟨_, rfl⟩) (dk_Step_run 12 rfl) c9 ?_
  obtain ⟨c10, h⟩ := p_gdE h
  refine g_getI fl_Step_39 (Or.inl rfl) (dk_Step_run 13 rfl) c10 ?_
  refine g_istore_n (i := 3) [(3, p_i (p_Z s7 (p_R s7 (p_R s7 v0 3) 7) 3)), (0, p_r v0), (1, p_r v1), (2, p_r v2)] (dk_Step_run 14 rfl) rfl (by decide) rfl ?_
  refine p_ltG (P := fun q => p_Go K l m_Step_run 29 [(3, p_i q), (0, p_r v0), (1, p_r v1), (2, p_r v2)] [] s7 _) ?_ h
  intro x11 h
  refine g_aload_n (i := 0) (j := 1) (dk_Step_run 15 rfl) rfl rfl ?_
  refine g_getR fl_Step_18 (Or.inl ⟨_, rfl⟩) (dk_Step_run 16 rfl) (c1.up (hs3.trans (hs6.trans hs8))) ?_
  refine g_aload_n (i := 0) (j := 1) (dk_Step_run 17 rfl) rfl rfl ?_
  refine g_getR fl_Step_29 (Or.inl ⟨_, rfl⟩) (dk_Step_run 18 rfl) (c1.up (hs3.trans (hs6.trans hs8))) ?_
  obtain ⟨c12, h⟩ := p_gdE h
  refine g_getI fl_Step_45 (Or.inl rfl) (dk_Step_run 19 rfl) c12 ?_
  obtain ⟨c13, h⟩ := p_gdE h
  obtain ⟨s14, q15, h⟩ := p_bvE h
  have t16 := tF_Works_keep K l (p_R s7 v0 2) (p_Z s7 (p_R s7 v0 1) 1) s7 _ q15
  refine g_callV (a := (p_R s7 v0 2)) (ci := 9) (q0 := (RX9, TX9, 15)) (As := [p_i (p_Z s7 (p_R s7 v0 1) 1)]) (rest := []) [] mt_Works_keep rfl rfl tw_4_136 tw_4_137 tw_4_135 ⟨Nat.le_of_ble_eq_true rfl, Nat.le_of_ble_eq_true rfl⟩ rfl (Nat.le_of_ble_eq_true rfl) (dk_Step_run 20 rfl) rfl c13 rfl t16 ?_
  have hs17 : p_x s7 s14 := t16.1
  show p_Go K l m_Step_run 43 [(3, p_i x11), (0, p_r v0), (1, p_r v1), (2, p_r v2)] [] s14 _
  refine g_aload_n (i := 0) (j := 1) (dk_Step_run 21 rfl) rfl rfl ?_
  refine g_getR fl_Step_28 (Or.inl ⟨_, rfl⟩) (dk_Step_run 22 rfl) (c1.up (hs3.trans (hs6.trans (hs8.trans hs17)))) ?_
  refine g_dup (dk_Step_run 23 rfl) rfl ?_
  obtain ⟨c18, h⟩ := p_gdE h
  refine g_getI fl_Step_54 (Or.inl rfl) (dk_Step_run 24 rfl) c18 ?_
  refine g_iconst (dk_Step_run 25 rfl) (by decide) ?_
  refine g_iadd (dk_Step_run 26 rfl) ?_
  refine g_putI fl_Step_54 (Or.inl rfl) (dk_Step_run 27 rfl) c18 ?_
  refine p_ltS (P := fun q => p_Go K l m_Step_run 56 [(3, p_i x11), (0, p_r v0), (1, p_r v1), (2, p_r v2)] [] q _) (p_xZ _ _ _ _) ?_ h
  intro s19 hs20 h
  refine g_aload_n (i := 0) (j := 1) (dk_Step_run 28 rfl) rfl rfl ?_
  refine g_getR fl_Step_18 (Or.inl ⟨_, rfl⟩) (dk_Step_run 29 rfl) (c1.up (hs3.trans (hs6.trans (hs8.trans (hs17.trans hs20))))) ?_
  refine g_iconst (dk_Step_run 30 rfl) (by decide) ?_
  obtain ⟨c21, h⟩ := p_gdE h
  refine g_putI fl_Step_57 (Or.inl rfl) (dk_Step_run 31 rfl) c21 ?_
  refine p_ltS (P := fun q => p_Go K l m_Step_run 64 [(3, p_i x11), (0, p_r v0), (1, p_r v1), (2, p_r v2)] [] q _) (p_xZ _ _ _ _) ?_ h
  intro s22 hs23 h
  refine g_iconst (dk_Step_run 32 rfl) (by decide) ?_
  refine g_istore [(4, p_i 1), (3, p_i x11), (0, p_r v0), (1, p_r v1), (2, p_r v2)] (dk_Step_run 33 rfl) (by decide) rfl ?_
  refine g_sub [(0, p_r v0), (3, p_i x11), (4, p_i 1)] [2, 1, 0] rfl ?_
  exact tO_Step_run_67 K l 3000 v0 x11 1 s22 _ h
def m_SW_step : p_Me := (⟨"SortWorks", "step", "()I"⟩, prog_1_method_29_code, 1, (some .int), 7, 169)
theorem mt_SW_step : p_Mt m_SW_step 0 := ⟨p_mem (p_tb4 (List.mem_of_getElem? (i := 130) rfl)) rfl, tw_1_1, by decide +kernel, by decide +kernel, by decide +kernel⟩
def dt_SW_step : List (Nat × Instr × Nat) := [(0, .aload_n 0, 1), (1, .getfield 47, 3), (4, .sipush 5000, 3), (7, .if_icmp .lt 10, 3), (10, .aload_n 0, 1), (11, .bipush (-4), 2), (13, .invokevirtual 61, 3), (16, .ireturn, 1), (17, .aload_n 0, 1), (18, .dup, 1), (19, .getfield 47, 3), (22, .aload_n 0, 1), (23, .getfield 32, 3), (26, .aload_n 0, 1), (27, .getfield 18, 3), (30, .aload_n 0, 1), (31, .getfield 25, 3), (34, .invokevirtual 273, 3), (37, .iadd, 1), (38, .putfield 47, 3), (41, .aload_n 0, 1), (42, .aload_n 0, 1), (43, .getfield 18, 3), (46, .getfield 77, 3), (49, .getfield 277, 3), (52, .invokevirtual 57, 3), (55, .ireturn, 1)]
theorem dk_SW_step (i : Nat) {pc : Nat} {ins : Instr} {len : Nat} (h : dt_SW_step[i]? = some (pc, ins, len)) : decode m_SW_step.2.1 pc = .ok (ins, len) := p_dk (b := m_SW_step.2.1) (t := dt_SW_step) (by decide +kernel) i h
def F_SW_step (v0 : Nat) (s0 : p_Hp) : Option (Int × p_Hp) :=
  p_gd (p_is s0 v0 10) <|
  if (p_Z s0 v0 7) < 5000 then
    p_gd (p_is s0 (p_R s0 v0 3) 8) <|
    p_bd (F_Step_run (p_R s0 v0 3) (p_R s0 v0 1) (p_R s0 v0 2) s0) fun r8 s4 =>
    p_bi (p_wZ s4 v0 7 (p_w ((p_Z s0 v0 7) + r8))) fun s9 =>
    p_gd (p_is s9 (p_R s9 v0 1) 9) <|
    p_gd (p_is s9 (p_R s9 (p_R s9 v0 1) 1) 7) <|
    p_bd (F_SW_done v0 (p_Z s9 (p_R s9 (p_R s9 v0 1) 1) 0) s9) fun r17 s13 =>
    some (r17, s13)
  else
    p_bd (F_SW_refuse v0 (-4) s0) fun r22 s18 =>
    some (r22, s18)
set_option maxRecDepth 100000 in
set_option maxHeartbeats 4000000 in
theorem tF_SW_step (K : p_K) (l : Launch) (v0 : Nat) (s0 : p_Hp) (r : (Int × p_Hp)) (h : F_SW_step v0 s0 = some r) : p_Ct K l m_SW_step [p_r v0] s0 (some (p_i r.1), r.2) := by
  refine p_Ct.of (by decide +kernel) (Nat.le_of_ble_eq_true rfl) ?_
  unfold F_SW_step at h
  show p_Go K l m_SW_step 0 [(0, p_r v0)] [] s0 _
  refine g_aload_n (i := 0) (j := 0) (dk_SW_step 0 rfl) rfl rfl ?_
  obtain ⟨c1, h⟩ := p_gdE h
  refine g_getI fl_SW_47 (Or.inl rfl) (dk_SW_step 1 rfl) c1 ?_
  refine g_sipush (dk_SW_step 2 rfl) (by decide +kernel) (by decide) ?_
  refine g_icmp_lt 17 (dk_SW_step 3 rfl) (by decide) (fun b2 => ?_) (fun b2 => ?_)
  · have h := p_ifT b2 h
    refine g_aload_n (i := 0) (j := 0) (dk_SW_step 8 rfl) rfl rfl ?_
    refine g_dup (dk_SW_step 9 rfl) rfl ?_
    refine g_getI fl_SW_47 (Or.inl rfl) (dk_SW_step 10 rfl) c1 ?_
    refine g_aload_n (i := 0) (j := 0) (dk_SW_step 11 rfl) rfl rfl ?_
    refine g_getR fl_SW_32 (Or.inl ⟨_, rfl⟩) (dk_SW_step 12 rfl) c1 ?_
    refine g_aload_n (i := 0) (j := 0) (dk_SW_step 13 rfl) rfl rfl ?_
    refine g_getR fl_SW_18 (Or.inl ⟨_, rfl⟩) (dk_SW_step 14 rfl) c1 ?_
    refine g_aload_n (i := 0) (j := 0) (dk_SW_step 15 rfl) rfl rfl ?_
    refine g_getR fl_SW_25 (Or.inl ⟨_, rfl⟩) (dk_SW_step 16 rfl) c1 ?_
    obtain ⟨c3, h⟩ := p_gdE h
    obtain ⟨r8, s4, q5, h⟩ := p_bdE h
    have t6 := tF_Step_run K l (p_R s0 v0 3) (p_R s0 v0 1) (p_R s0 v0 2) s0 _ q5
    refine g_callV (a := (p_R s0 v0 3)) (ci := 8) (q0 := (RX8, TX8, 5)) (As := [p_r (p_R s0 v0 1), p_r (p_R s0 v0 2)]) (rest := [p_i (p_Z s0 v0 7), p_r v0]) [p_i r8, p_i (p_Z s0 v0 7), p_r v0] mt_Step_run rfl rfl tw_4_132 tw_4_133 tw_4_131 ⟨Nat.le_of_ble_eq_true rfl, Nat.le_of_ble_eq_true rfl⟩ rfl (Nat.le_of_ble_eq_true rfl) (dk_SW_step 17 rfl) rfl c3 rfl t6 ?_
    have hs7 : p_x s0 s4 := t6.1
    show p_Go K l m_SW_step 37 [(0, p_r v0)] [p_i r8, p_i (p_Z s0 v0 7), p_r v0] s4 _
    refine g_iadd (dk_SW_step 18 rfl) ?_
    refine g_putI fl_SW_47 (Or.inl rfl) (dk_SW_step 19 rfl) (c1.up hs7) ?_
    refine p_ltS (P := fun q => p_Go K l m_SW_step 41 [(0, p_r v0)] [] q _) (p_xZ _ _ _ _) ?_ h
    intro s9 hs10 h
    refine g_aload_n (i := 0) (j := 0) (dk_SW_step 20 rfl) rfl rfl ?_
    refine g_aload_n (i := 0) (j := 0) (dk_SW_step 21 rfl) rfl rfl ?_
    refine g_getR fl_SW_18 (Or.inl ⟨_, rfl⟩) (dk_SW_step 22 rfl) (c1.up (hs7.trans hs10)) ?_
    obtain ⟨c11, h⟩ := p_gdE h
    refine g_getR fl_SW_77 (Or.inl ⟨_, rfl⟩) (dk_SW_step 23 rfl) c11 ?_
    obtain ⟨c12, h⟩ := p_gdE h
    refine g_getI fl_SW_277 (Or.inl rfl) (dk_SW_step 24 rfl) c12 ?_
    obtain ⟨r17, s13, q14, h⟩ := p_bdE h
    have t15 := tF_SW_done K l v0 (p_Z s9 (p_R s9 (p_R s9 v0 1) 1) 0) s9 _ q14
    refine g_callV (a := v0) (ci := 10) (q0 := (RX10, TX10, 9)) (As := [p_i (p_Z s9 (p_R s9 (p_R s9 v0 1) 1) 0)]) (rest := []) [p_i r17] mt_SW_done rfl rfl tw_3_70 ts_1 tw_3_68 ⟨Nat.le_of_ble_eq_true rfl, Nat.le_of_ble_eq_true rfl⟩ rfl (Nat.le_of_ble_eq_true rfl) (dk_SW_step 25 rfl) rfl (c1.up (hs7.trans hs10)) rfl t15 ?_
    have hs16 : p_x s9 s13 := t15.1
    show p_Go K l m_SW_step 55 [(0, p_r v0)] [p_i r17] s13 _
    cases h
    exact g_ret rfl rfl (dk_SW_step 26 rfl) (fun os => ⟨_, rfl, p_okh os⟩)
  · have h := p_ifF b2 h
    refine g_aload_n (i := 0) (j := 0) (dk_SW_step 4 rfl) rfl rfl ?_
    refine g_bipush (dk_SW_step 5 rfl) (by decide +kernel) (by decide) ?_
    obtain ⟨r22, s18, q19, h⟩ := p_bdE h
    have t20 := tF_SW_refuse K l v0 (-4) s0 _ q19
    refine g_callV (a := v0) (ci := 10) (q0 := (RX10, TX10, 9)) (As := [p_i (-4)]) (rest := []) [p_i r22] mt_SW_refuse rfl rfl tw_3_66 ts_0 tw_3_64 ⟨Nat.le_of_ble_eq_true rfl, Nat.le_of_ble_eq_true rfl⟩ rfl (Nat.le_of_ble_eq_true rfl) (dk_SW_step 6 rfl) rfl c1 rfl t20 ?_
    have hs21 : p_x s0 s18 := t20.1
    show p_Go K l m_SW_step 16 [(0, p_r v0)] [p_i r22] s18 _
    cases h
    exact g_ret rfl rfl (dk_SW_step 7 rfl) (fun os => ⟨_, rfl, p_okh os⟩)
def m_Parcel_raiseLastByte : p_Me := (⟨"SortWorks$Parcel", "raiseLastByte", "()V"⟩, prog_6_method_8_code, 2, none, 0, 0)
theorem mt_Parcel_raiseLastByte : p_Mt m_Parcel_raiseLastByte 0 := ⟨p_mem (p_tb5 (List.mem_of_getElem? (i := 99) rfl)) rfl, tw_1_6, by decide +kernel, by decide +kernel, by decide +kernel⟩
def dt_Parcel_raiseLastByte : List (Nat × Instr × Nat) := [(0, .aload_n 0, 1), (1, .getfield 50, 3), (4, .iconst 1, 1), (5, .isub, 1), (6, .istore_n 1, 1), (7, .iload_n 1, 1), (8, .ifCond .lt 21, 3), (11, .aload_n 0, 1), (12, .getfield 15, 3), (15, .iload_n 1, 1), (16, .aload_n 0, 1), (17, .getfield 15, 3), (20, .iload_n 1, 1), (21, .iaload, 1), (22, .iconst 1, 1), (23, .iadd, 1), (24, .sipush 255, 3), (27, .iand, 1), (28, .iastore, 1), (29, .return_, 1)]
theorem dk_Parcel_raiseLastByte (i : Nat) {pc : Nat} {ins : Instr} {len : Nat} (h : dt_Parcel_raiseLastByte[i]? = some (pc, ins, len)) : decode m_Parcel_raiseLastByte.2.1 pc = .ok (ins, len) := p_dk (b := m_Parcel_raiseLastByte.2.1) (t := dt_Parcel_raiseLastByte) (by decide +kernel) i h
def F_Parcel_raiseLastByte (v0 : Nat) (s0 : p_Hp) : Option p_Hp :=
  p_gd (p_is s0 v0 4) <|
  p_bi ((p_w ((p_Z s0 v0 11) - 1))) fun x2 =>
  if x2 < 0 then
    some s0
  else
    p_gd (p_is s0 (p_R s0 v0 12) 100) <|
    p_gd ((0 : Int) ≤ x2 ∧ x2 < (p_L s0 (p_R s0 v0 12) : Int)) <|
    p_gd ((0 : Int) ≤ x2 ∧ x2 < (p_L s0 (p_R s0 v0 12) : Int)) <|
    p_bi (p_wZ s0 (p_R s0 v0 12) (x2 : Int).toNat (p_and (p_w ((p_Z s0 (p_R s0 v0 12) (x2 : Int).toNat) + 1)) 255)) fun s7 =>
    some s7
set_option maxRecDepth 100000 in
set_option maxHeartbeats 4000000 in
theorem tF_Parcel_raiseLastByte (K : p_K) (l : Launch) (v0 : Nat) (s0 : p_Hp) (r : p_Hp) (h : F_Parcel_raiseLastByte v0 s0 = some r) : p_Ct K l m_Parcel_raiseLastByte [p_r v0] s0 (none, r) := by
  refine p_Ct.of (by decide +kernel) (Nat.le_of_ble_eq_true rfl) ?_
  unfold F_Parcel_raiseLastByte at h
  show p_Go K l m_Parcel_raiseLastByte 0 [(0, p_r v0)] [] s0 _
  refine g_aload_n (i := 0) (j := 0) (dk_Parcel_raiseLastByte 0 rfl) rfl rfl ?_
  obtain ⟨c1, h⟩ := p_gdE h
  refine g_getI fl_Parcel_50 (Or.inl rfl) (dk_Parcel_raiseLastByte 1 rfl) c1 ?_
  refine g_iconst (dk_Parcel_raiseLastByte 2 rfl) (by decide) ?_
  refine g_isub (dk_Parcel_raiseLastByte 3 rfl) ?_
  refine g_istore_n (i := 1) [(1, p_i (p_w ((p_Z s0 v0 11) - 1))), (0, p_r v0)] (dk_Parcel_raiseLastByte 4 rfl) rfl (by decide) rfl ?_
  refine p_ltG (P := fun q => p_Go K l m_Parcel_raiseLastByte 7 [(1, p_i q), (0, p_r v0)] [] s0 _) ?_ h
  intro x2 h
  refine g_iload_n (i := 1) (j := 0) (dk_Parcel_raiseLastByte 5 rfl) rfl rfl ?_
  refine g_if_lt 29 (dk_Parcel_raiseLastByte 6 rfl) (by decide) (fun b3 => ?_) (fun b3 => ?_)
  · have h := p_ifT b3 h
    cases h
    exact g_ret rfl rfl (dk_Parcel_raiseLastByte 19 rfl) (fun _ => rfl)
  · have h := p_ifF b3 h
    refine g_aload_n (i := 0) (j := 1) (dk_Parcel_raiseLastByte 7 rfl) rfl rfl ?_
    refine g_getR fl_Parcel_15 (Or.inr ⟨_, rfl⟩) (dk_Parcel_raiseLastByte 8 rfl) c1 ?_
    refine g_iload_n (i := 1) (j := 0) (dk_Parcel_raiseLastByte 9 rfl) rfl rfl ?_
    refine g_aload_n (i := 0) (j := 1) (dk_Parcel_raiseLastByte 10 rfl) rfl rfl ?_
    refine g_getR fl_Parcel_15 (Or.inr ⟨_, rfl⟩) (dk_Parcel_raiseLastByte 11 rfl) c1 ?_
    refine g_iload_n (i := 1) (j := 0) (dk_Parcel_raiseLastByte 12 rfl) rfl rfl ?_
    obtain ⟨c4, h⟩ := p_gdE h
    obtain ⟨c5, h⟩ := p_gdE h
    refine g_iaload (dk_Parcel_raiseLastByte 13 rfl) c4 c5.1 c5.2 ?_
    refine g_iconst (dk_Parcel_raiseLastByte 14 rfl) (by decide) ?_
    refine g_iadd (dk_Parcel_raiseLastByte 15 rfl) ?_
    refine g_sipush (dk_Parcel_raiseLastByte 16 rfl) (by decide +kernel) (by decide) ?_
    refine g_iand (dk_Parcel_raiseLastByte 17 rfl) ?_
    obtain ⟨c6, h⟩ := p_gdE h
    refine g_iastore (dk_Parcel_raiseLastByte 18 rfl) c4 c6.1 c6.2 ?_
    refine p_ltS (P := fun q => p_Go K l m_Parcel_raiseLastByte 29 [(1, p_i x2), (0, p_r v0)] [] q _) (p_xZ _ _ _ _) ?_ h
    intro s7 hs8 h
    cases h
    exact g_ret rfl rfl (dk_Parcel_raiseLastByte 19 rfl) (fun _ => rfl)
def m_Parcel_spoil : p_Me := (⟨"SortWorks$Parcel", "spoil", "(I)V"⟩, prog_6_method_7_code, 2, none, 1, 21)
theorem mt_Parcel_spoil : p_Mt m_Parcel_spoil 1 := ⟨p_mem (p_tb5 (List.mem_of_getElem? (i := 95) rfl)) rfl, tw_1_6, by decide +kernel, by decide +kernel, by decide +kernel⟩
def dt_Parcel_spoil : List (Nat × Instr × Nat) := [(0, .iload_n 1, 1), (1, .bipush 8, 2), (3, .irem, 1), (4, .tableswitch 57 0 2 #[28, 36, 50], 28), (32, .aload_n 0, 1), (33, .iconst (-1), 1), (34, .putfield 50, 3), (37, .goto 24, 3), (40, .aload_n 0, 1), (41, .iload_n 1, 1), (42, .bipush 8, 2), (44, .idiv, 1), (45, .bipush 6, 2), (47, .irem, 1), (48, .putfield 50, 3), (51, .goto 10, 3), (54, .aload_n 0, 1), (55, .invokevirtual 66, 3), (58, .goto 3, 3), (61, .return_, 1)]
theorem dk_Parcel_spoil (i : Nat) {pc : Nat} {ins : Instr} {len : Nat} (h : dt_Parcel_spoil[i]? = some (pc, ins, len)) : decode m_Parcel_spoil.2.1 pc = .ok (ins, len) := p_dk (b := m_Parcel_spoil.2.1) (t := dt_Parcel_spoil) (by decide +kernel) i h
def F_Parcel_spoil (v0 : Nat) (v1 : Int) (s0 : p_Hp) : Option p_Hp :=
  if (p_rem v1 8) = 0 then
    p_gd (p_is s0 v0 4) <|
    p_bi (p_wZ s0 v0 11 (-1)) fun s3 =>
    some s3
  else if (p_rem v1 8) = 1 then
    p_gd (p_is s0 v0 4) <|
    p_bi (p_wZ s0 v0 11 (p_rem (p_div v1 8) 6)) fun s7 =>
    some s7
  else if (p_rem v1 8) = 2 then
    p_gd (p_is s0 v0 4) <|
    p_bv (F_Parcel_raiseLastByte v0 s0) fun s11 =>
    some s11
  else 
  some s0
set_option maxRecDepth 100000 in
set_option maxHeartbeats 4000000 in
theorem tF_Parcel_spoil (K : p_K) (l : Launch) (v0 : Nat) (v1 : Int) (s0 : p_Hp) (r : p_Hp) (h : F_Parcel_spoil v0 v1 s0 = some r) : p_Ct K l m_Parcel_spoil [p_r v0, p_i v1] s0 (none, r) := by
  refine p_Ct.of (by decide +kernel) (Nat.le_of_ble_eq_true rfl) ?_
  unfold F_Parcel_spoil at h
  show p_Go K l m_Parcel_spoil 0 [(0, p_r v0), (1, p_i v1)] [] s0 _
  refine g_iload_n (i := 1) (j := 1) (dk_Parcel_spoil 0 rfl) rfl rfl ?_
  refine g_bipush (dk_Parcel_spoil 1 rfl) (by decide +kernel) (by decide) ?_
  refine g_irem (dk_Parcel_spoil 2 rfl) (by decide) ?_
  rcases p_iteE h with ⟨b1, h⟩ | ⟨b1, h⟩
  · refine g_tableIn 32 (dk_Parcel_spoil 3 rfl) (by omega) (by omega) (by rw [b1]; rfl) (by decide) ?_
    refine g_aload_n (i := 0) (j := 0) (dk_Parcel_spoil 4 rfl) rfl rfl ?_
    refine g_iconst (dk_Parcel_spoil 5 rfl) (by decide) ?_
    obtain ⟨c2, h⟩ := p_gdE h
    refine g_putI fl_Parcel_50 (Or.inl rfl) (dk_Parcel_spoil 6 rfl) c2 ?_
    refine p_ltS (P := fun q => p_Go K l m_Parcel_spoil 37 [(0, p_r v0), (1, p_i v1)] [] q _) (p_xZ _ _ _ _) ?_ h
    intro s3 hs4 h
    refine g_goto 61 (dk_Parcel_spoil 7 rfl) (by decide) ?_
    cases h
    exact g_ret rfl rfl (dk_Parcel_spoil 19 rfl) (fun _ => rfl)
  rcases p_iteE h with ⟨b5, h⟩ | ⟨b5, h⟩
  · refine g_tableIn 40 (dk_Parcel_spoil 3 rfl) (by omega) (by omega) (by rw [b5]; rfl) (by decide) ?_
    refine g_aload_n (i := 0) (j := 0) (dk_Parcel_spoil 8 rfl) rfl rfl ?_
    refine g_iload_n (i := 1) (j := 1) (dk_Parcel_spoil 9 rfl) rfl rfl ?_
    refine g_bipush (dk_Parcel_spoil 10 rfl) (by decide +kernel) (by decide) ?_
    refine g_idiv (dk_Parcel_spoil 11 rfl) (by decide) ?_
    refine g_bipush (dk_Parcel_spoil 12 rfl) (by decide +kernel) (by decide) ?_
    refine g_irem (dk_Parcel_spoil 13 rfl) (by decide) ?_
    obtain ⟨c6, h⟩ := p_gdE h
    refine g_putI fl_Parcel_50 (Or.inl rfl) (dk_Parcel_spoil 14 rfl) c6 ?_
    refine p_ltS (P := fun q => p_Go K l m_Parcel_spoil 51 [(0, p_r v0), (1, p_i v1)] [] q _) (p_xZ _ _ _ _) ?_ h
    intro s7 hs8 h
    refine g_goto 61 (dk_Parcel_spoil 15 rfl) (by decide) ?_
    cases h
    exact g_ret rfl rfl (dk_Parcel_spoil 19 rfl) (fun _ => rfl)
  rcases p_iteE h with ⟨b9, h⟩ | ⟨b9, h⟩
  · refine g_tableIn 54 (dk_Parcel_spoil 3 rfl) (by omega) (by omega) (by rw [b9]; rfl) (by decide) ?_
    refine g_aload_n (i := 0) (j := 0) (dk_Parcel_spoil 16 rfl) rfl rfl ?_
    obtain ⟨c10, h⟩ := p_gdE h
    obtain ⟨s11, q12, h⟩ := p_bvE h
    have t13 := tF_Parcel_raiseLastByte K l v0 s0 _ q12
    refine g_callV (a := v0) (ci := 4) (q0 := (RX4, TX4, 14)) (As := []) (rest := []) [] mt_Parcel_raiseLastByte rfl rfl tw_5_98 ts_40 tw_5_96 ⟨Nat.le_of_ble_eq_true rfl, Nat.le_of_ble_eq_true rfl⟩ rfl (Nat.le_of_ble_eq_true rfl) (dk_Parcel_spoil 17 rfl) rfl c10 rfl t13 ?_
    have hs14 : p_x s0 s11 := t13.1
    show p_Go K l m_Parcel_spoil 58 [(0, p_r v0), (1, p_i v1)] [] s11 _
    refine g_goto 61 (dk_Parcel_spoil 18 rfl) (by decide) ?_
    cases h
    exact g_ret rfl rfl (dk_Parcel_spoil 19 rfl) (fun _ => rfl)
  refine g_tableOut 61 (dk_Parcel_spoil 3 rfl) (by omega) (by decide) ?_
  cases h
  exact g_ret rfl rfl (dk_Parcel_spoil 19 rfl) (fun _ => rfl)
def m_SW_comeByNight : p_Me := (⟨"SortWorks", "comeByNight", "(III)I"⟩, prog_1_method_32_code, 6, (some .int), 3, 62)
theorem mt_SW_comeByNight : p_Mt m_SW_comeByNight 3 := ⟨p_mem (p_tb5 (List.mem_of_getElem? (i := 91) rfl)) rfl, tw_1_1, by decide +kernel, by decide +kernel, by decide +kernel⟩
def dt_SW_comeByNight : List (Nat × Instr × Nat) := [(0, .aload_n 0, 1), (1, .getfield 18, 3), (4, .iconst 0, 1), (5, .invokevirtual 98, 3), (8, .astore 4, 2), (10, .aload 4, 2), (12, .ifnull 27, 3), (15, .aload 4, 2), (17, .invokevirtual 129, 3), (20, .ifCond .eq 19, 3), (23, .aload 4, 2), (25, .invokevirtual 177, 3), (28, .ifCond .ne 11, 3), (31, .aload 4, 2), (33, .invokevirtual 180, 3), (36, .ifCond .ne 5, 3), (39, .iconst 0, 1), (40, .ireturn, 1), (41, .aload_n 0, 1), (42, .invokevirtual 183, 3), (45, .astore 5, 2), (47, .aload 5, 2), (49, .ifnonnull 5, 3), (52, .iconst 0, 1), (53, .ireturn, 1), (54, .aload_n 0, 1), (55, .getfield 18, 3), (58, .getfield 77, 3), (61, .aload 5, 2), (63, .iconst 0, 1), (64, .iconst 1, 1), (65, .iload_n 1, 1), (66, .sipush 200, 3), (69, .irem, 1), (70, .iadd, 1), (71, .iload_n 1, 1), (72, .sipush 200, 3), (75, .idiv, 1), (76, .bipush 10, 2), (78, .irem, 1), (79, .invokevirtual 187, 3), (82, .aload 5, 2), (84, .iload_n 2, 1), (85, .bipush 100, 2), (87, .idiv, 1), (88, .iconst 2, 1), (89, .irem, 1), (90, .iload_n 2, 1), (91, .bipush 100, 2), (93, .irem, 1), (94, .invokevirtual 213, 3), (97, .aload 5, 2), (99, .iload_n 3, 1), (100, .invokevirtual 288, 3), (103, .iconst 1, 1), (104, .ireturn, 1)]
theorem dk_SW_comeByNight (i : Nat) {pc : Nat} {ins : Instr} {len : Nat} (h : dt_SW_comeByNight[i]? = some (pc, ins, len)) : decode m_SW_comeByNight.2.1 pc = .ok (ins, len) := p_dk (b := m_SW_comeByNight.2.1) (t := dt_SW_comeByNight) (by decide +kernel) i h
def F_SW_comeByNight (v0 : Nat) (v1 : Int) (v2 : Int) (v3 : Int) (s0 : p_Hp) : Option (Int × p_Hp) :=
  p_gd (p_is s0 v0 10) <|
  p_gd (p_is s0 (p_R s0 v0 1) 9) <|
  p_bd (F_Works_gearOf (p_R s0 v0 1) 0 s0) fun r7 s3 =>
  if r7 = 0 then
    some (0, s3)
  else
    p_gd (p_is s3 r7 0) <|
    p_bd (F_Gear_isTaker r7 s3) fun r14 s10 =>
    if r14 = 0 then
      some (0, s10)
    else
      p_bd (F_Gear_isChute r7 s10) fun r20 s16 =>
      if r20 ≠ 0 then
        some (0, s16)
      else
        p_bd (F_Gear_isFreeAtStart r7 s16) fun r26 s22 =>
        if r26 ≠ 0 then
          p_bd (F_SW_newParcel v0 s22) fun r32 s28 =>
          if r32 ≠ 0 then
            p_gd (p_is s28 (p_R s28 v0 1) 9) <|
            p_gd (p_is s28 (p_R s28 (p_R s28 v0 1) 1) 7) <|
            p_bv (F_State_bringIn (p_R s28 (p_R s28 v0 1) 1) r32 0 (p_w (1 + (p_rem v1 200))) (p_rem (p_div v1 200) 10) s28) fun s36 =>
            p_gd (p_is s36 r32 4) <|
            p_bv (F_Parcel_write r32 (p_rem (p_div v2 100) 2) (p_rem v2 100) s36) fun s41 =>
            p_bv (F_Parcel_spoil r32 v3 s41) fun s45 =>
            some (1, s45)
          else
            some (0, s28)
        else
          some (0, s22)
set_option maxRecDepth 100000 in
set_option maxHeartbeats 4000000 in
theorem tF_SW_comeByNight (K : p_K) (l : Launch) (v0 : Nat) (v1 : Int) (v2 : Int) (v3 : Int) (s0 : p_Hp) (r : (Int × p_Hp)) (h : F_SW_comeByNight v0 v1 v2 v3 s0 = some r) : p_Ct K l m_SW_comeByNight [p_r v0, p_i v1, p_i v2, p_i v3] s0 (some (p_i r.1), r.2) := by
  refine p_Ct.of (by decide +kernel) (Nat.le_of_ble_eq_true rfl) ?_
  unfold F_SW_comeByNight at h
  show p_Go K l m_SW_comeByNight 0 [(0, p_r v0), (1, p_i v1), (2, p_i v2), (3, p_i v3)] [] s0 _
  refine g_aload_n (i := 0) (j := 0) (dk_SW_comeByNight 0 rfl) rfl rfl ?_
  obtain ⟨c1, h⟩ := p_gdE h
  refine g_getR fl_SW_18 (Or.inl ⟨_, rfl⟩) (dk_SW_comeByNight 1 rfl) c1 ?_
  refine g_iconst (dk_SW_comeByNight 2 rfl) (by decide) ?_
  obtain ⟨c2, h⟩ := p_gdE h
  obtain ⟨r7, s3, q4, h⟩ := p_bdE h
  have t5 := tF_Works_gearOf K l (p_R s0 v0 1) 0 s0 _ q4
  refine g_callV (a := (p_R s0 v0 1)) (ci := 9) (q0 := (RX9, TX9, 15)) (As := [p_i 0]) (rest := []) [p_r r7] mt_Works_gearOf rfl rfl tw_3_104 tw_3_105 tw_3_103 ⟨Nat.le_of_ble_eq_true rfl, Nat.le_of_ble_eq_true rfl⟩ rfl (Nat.le_of_ble_eq_true rfl) (dk_SW_comeByNight 3 rfl) rfl c2 rfl t5 ?_
  have hs6 : p_x s0 s3 := t5.1
  show p_Go K l m_SW_comeByNight 8 [(0, p_r v0), (1, p_i v1), (2, p_i v2), (3, p_i v3)] [p_r r7] s3 _
  refine g_astore [(4, p_r r7), (0, p_r v0), (1, p_i v1), (2, p_i v2), (3, p_i v3)] (dk_SW_comeByNight 4 rfl) (by decide) rfl ?_
  refine g_aload (j := 0) (dk_SW_comeByNight 5 rfl) rfl ?_
  refine g_ifnull 39 (dk_SW_comeByNight 6 rfl) (by decide) (fun b8 => ?_) (fun b8 => ?_)
  · have h := p_ifT b8 h
    refine g_iconst (dk_SW_comeByNight 16 rfl) (by decide) ?_
    cases h
    exact g_ret rfl rfl (dk_SW_comeByNight 17 rfl) (fun os => ⟨_, rfl, p_okh os⟩)
  · have h := p_ifF b8 h
    refine g_aload (j := 0) (dk_SW_comeByNight 7 rfl) rfl ?_
    obtain ⟨c9, h⟩ := p_gdE h
    obtain ⟨r14, s10, q11, h⟩ := p_bdE h
    have t12 := tF_Gear_isTaker K l r7 s3 _ q11
    refine g_callV (a := r7) (ci := 0) (q0 := (RX0, TX0, 20)) (As := []) (rest := []) [p_i r14] mt_Gear_isTaker rfl rfl tw_3_142 tw_3_143 tw_3_141 ⟨Nat.le_of_ble_eq_true rfl, Nat.le_of_ble_eq_true rfl⟩ rfl (Nat.le_of_ble_eq_true rfl) (dk_SW_comeByNight 8 rfl) rfl c9 rfl t12 ?_
    have hs13 : p_x s3 s10 := t12.1
    show p_Go K l m_SW_comeByNight 20 [(4, p_r r7), (0, p_r v0), (1, p_i v1), (2, p_i v2), (3, p_i v3)] [p_i r14] s10 _
    refine g_if_eq 39 (dk_SW_comeByNight 9 rfl) (by decide) (fun b15 => ?_) (fun b15 => ?_)
    · have h := p_ifT b15 h
      refine g_iconst (dk_SW_comeByNight 16 rfl) (by decide) ?_
      cases h
      exact g_ret rfl rfl (dk_SW_comeByNight 17 rfl) (fun os => ⟨_, rfl, p_okh os⟩)
    · have h := p_ifF b15 h
      refine g_aload (j := 0) (dk_SW_comeByNight 10 rfl) rfl ?_
      obtain ⟨r20, s16, q17, h⟩ := p_bdE h
      have t18 := tF_Gear_isChute K l r7 s10 _ q17
      refine g_callV (a := r7) (ci := 0) (q0 := (RX0, TX0, 20)) (As := []) (rest := []) [p_i r20] mt_Gear_isChute rfl rfl tw_3_231 tw_3_232 tw_3_230 ⟨Nat.le_of_ble_eq_true rfl, Nat.le_of_ble_eq_true rfl⟩ rfl (Nat.le_of_ble_eq_true rfl) (dk_SW_comeByNight 11 rfl) rfl (c9.up hs13) rfl t18 ?_
      have hs19 : p_x s10 s16 := t18.1
      show p_Go K l m_SW_comeByNight 28 [(4, p_r r7), (0, p_r v0), (1, p_i v1), (2, p_i v2), (3, p_i v3)] [p_i r20] s16 _
      refine g_if_ne 39 (dk_SW_comeByNight 12 rfl) (by decide) (fun b21 => ?_) (fun b21 => ?_)
      · have h := p_ifT b21 h
        refine g_iconst (dk_SW_comeByNight 16 rfl) (by decide) ?_
        cases h
        exact g_ret rfl rfl (dk_SW_comeByNight 17 rfl) (fun os => ⟨_, rfl, p_okh os⟩)
      · have h := p_ifF b21 h
        refine g_aload (j := 0) (dk_SW_comeByNight 13 rfl) rfl ?_
        obtain ⟨r26, s22, q23, h⟩ := p_bdE h
        have t24 := tF_Gear_isFreeAtStart K l r7 s16 _ q23
        refine g_callV (a := r7) (ci := 0) (q0 := (RX0, TX0, 20)) (As := []) (rest := []) [p_i r26] mt_Gear_isFreeAtStart rfl rfl tw_3_235 tw_3_236 tw_3_234 ⟨Nat.le_of_ble_eq_true rfl, Nat.le_of_ble_eq_true rfl⟩ rfl (Nat.le_of_ble_eq_true rfl) (dk_SW_comeByNight 14 rfl) rfl (c9.up (hs13.trans hs19)) rfl t24 ?_
        have hs25 : p_x s16 s22 := t24.1
        show p_Go K l m_SW_comeByNight 36 [(4, p_r r7), (0, p_r v0), (1, p_i v1), (2, p_i v2), (3, p_i v3)] [p_i r26] s22 _
        refine g_if_ne 41 (dk_SW_comeByNight 15 rfl) (by decide) (fun b27 => ?_) (fun b27 => ?_)
        · have h := p_ifT b27 h
          refine g_aload_n (i := 0) (j := 1) (dk_SW_comeByNight 18 rfl) rfl rfl ?_
          obtain ⟨r32, s28, q29, h⟩ := p_bdE h
          have t30 := tF_SW_newParcel K l v0 s22 _ q29
          refine g_callV (a := v0) (ci := 10) (q0 := (RX10, TX10, 9)) (As := []) (rest := []) [p_r r32] mt_SW_newParcel rfl rfl tw_4_0 ts_10 tw_3_238 ⟨Nat.le_of_ble_eq_true rfl, Nat.le_of_ble_eq_true rfl⟩ rfl (Nat.le_of_ble_eq_true rfl) (dk_SW_comeByNight 19 rfl) rfl (c1.up (hs6.trans (hs13.trans (hs19.trans hs25)))) rfl t30 ?_
          have hs31 : p_x s22 s28 := t30.1
          show p_Go K l m_SW_comeByNight 45 [(4, p_r r7), (0, p_r v0), (1, p_i v1), (2, p_i v2), (3, p_i v3)] [p_r r32] s28 _
          refine g_astore [(5, p_r r32), (4, p_r r7), (0, p_r v0), (1, p_i v1), (2, p_i v2), (3, p_i v3)] (dk_SW_comeByNight 20 rfl) (by decide) rfl ?_
          refine g_aload (j := 0) (dk_SW_comeByNight 21 rfl) rfl ?_
          refine g_ifnonnull 54 (dk_SW_comeByNight 22 rfl) (by decide) (fun b33 => ?_) (fun b33 => ?_)
          · have h := p_ifT b33 h
            refine g_aload_n (i := 0) (j := 2) (dk_SW_comeByNight 25 rfl) rfl rfl ?_
            refine g_getR fl_SW_18 (Or.inl ⟨_, rfl⟩) (dk_SW_comeByNight 26 rfl) (c1.up (hs6.trans (hs13.trans (hs19.trans (hs25.trans hs31))))) ?_
            obtain ⟨c34, h⟩ := p_gdE h
            refine g_getR fl_SW_77 (Or.inl ⟨_, rfl⟩) (dk_SW_comeByNight 27 rfl) c34 ?_
            refine g_aload (j := 0) (dk_SW_comeByNight 28 rfl) rfl ?_
            refine g_iconst (dk_SW_comeByNight 29 rfl) (by decide) ?_
            refine g_iconst (dk_SW_comeByNight 30 rfl) (by decide) ?_
            refine g_iload_n (i := 1) (j := 3) (dk_SW_comeByNight 31 rfl) rfl rfl ?_
            refine g_sipush (dk_SW_comeByNight 32 rfl) (by decide +kernel) (by decide) ?_
            refine g_irem (dk_SW_comeByNight 33 rfl) (by decide) ?_
            refine g_iadd (dk_SW_comeByNight 34 rfl) ?_
            refine g_iload_n (i := 1) (j := 3) (dk_SW_comeByNight 35 rfl) rfl rfl ?_
            refine g_sipush (dk_SW_comeByNight 36 rfl) (by decide +kernel) (by decide) ?_
            refine g_idiv (dk_SW_comeByNight 37 rfl) (by decide) ?_
            refine g_bipush (dk_SW_comeByNight 38 rfl) (by decide +kernel) (by decide) ?_
            refine g_irem (dk_SW_comeByNight 39 rfl) (by decide) ?_
            obtain ⟨c35, h⟩ := p_gdE h
            obtain ⟨s36, q37, h⟩ := p_bvE h
            have t38 := tF_State_bringIn K l (p_R s28 (p_R s28 v0 1) 1) r32 0 (p_w (1 + (p_rem v1 200))) (p_rem (p_div v1 200) 10) s28 _ q37
            refine g_callV (a := (p_R s28 (p_R s28 v0 1) 1)) (ci := 7) (q0 := (RX7, TX7, 10)) (As := [p_r r32, p_i 0, p_i (p_w (1 + (p_rem v1 200))), p_i (p_rem (p_div v1 200) 10)]) (rest := []) [] mt_State_bringIn rfl rfl tw_4_14 tw_4_15 tw_4_13 ⟨Nat.le_of_ble_eq_true rfl, Nat.le_of_ble_eq_true rfl⟩ rfl (Nat.le_of_ble_eq_true rfl) (dk_SW_comeByNight 40 rfl) rfl c35 rfl t38 ?_
            have hs39 : p_x s28 s36 := t38.1
            show p_Go K l m_SW_comeByNight 82 [(5, p_r r32), (4, p_r r7), (0, p_r v0), (1, p_i v1), (2, p_i v2), (3, p_i v3)] [] s36 _
            refine g_aload (j := 0) (dk_SW_comeByNight 41 rfl) rfl ?_
            refine g_iload_n (i := 2) (j := 4) (dk_SW_comeByNight 42 rfl) rfl rfl ?_
            refine g_bipush (dk_SW_comeByNight 43 rfl) (by decide +kernel) (by decide) ?_
            refine g_idiv (dk_SW_comeByNight 44 rfl) (by decide) ?_
            refine g_iconst (dk_SW_comeByNight 45 rfl) (by decide) ?_
            refine g_irem (dk_SW_comeByNight 46 rfl) (by decide) ?_
            refine g_iload_n (i := 2) (j := 4) (dk_SW_comeByNight 47 rfl) rfl rfl ?_
            refine g_bipush (dk_SW_comeByNight 48 rfl) (by decide +kernel) (by decide) ?_
            refine g_irem (dk_SW_comeByNight 49 rfl) (by decide) ?_
            obtain ⟨c40, h⟩ := p_gdE h
            obtain ⟨s41, q42, h⟩ := p_bvE h
            have t43 := tF_Parcel_write K l r32 (p_rem (p_div v2 100) 2) (p_rem v2 100) s36 _ q42
            refine g_callV (a := r32) (ci := 4) (q0 := (RX4, TX4, 14)) (As := [p_i (p_rem (p_div v2 100) 2), p_i (p_rem v2 100)]) (rest := []) [] mt_Parcel_write rfl rfl tw_4_38 tw_4_39 tw_4_37 ⟨Nat.le_of_ble_eq_true rfl, Nat.le_of_ble_eq_true rfl⟩ rfl (Nat.le_of_ble_eq_true rfl) (dk_SW_comeByNight 50 rfl) rfl c40 rfl t43 ?_
            have hs44 : p_x s36 s41 := t43.1
            show p_Go K l m_SW_comeByNight 97 [(5, p_r r32), (4, p_r r7), (0, p_r v0), (1, p_i v1), (2, p_i v2), (3, p_i v3)] [] s41 _
            refine g_aload (j := 0) (dk_SW_comeByNight 51 rfl) rfl ?_
            refine g_iload_n (i := 3) (j := 5) (dk_SW_comeByNight 52 rfl) rfl rfl ?_
            obtain ⟨s45, q46, h⟩ := p_bvE h
            have t47 := tF_Parcel_spoil K l r32 v3 s41 _ q46
            refine g_callV (a := r32) (ci := 4) (q0 := (RX4, TX4, 14)) (As := [p_i v3]) (rest := []) [] mt_Parcel_spoil rfl rfl tw_5_93 tw_5_94 tw_5_92 ⟨Nat.le_of_ble_eq_true rfl, Nat.le_of_ble_eq_true rfl⟩ rfl (Nat.le_of_ble_eq_true rfl) (dk_SW_comeByNight 53 rfl) rfl (c40.up hs44) rfl t47 ?_
            have hs48 : p_x s41 s45 := t47.1
            show p_Go K l m_SW_comeByNight 103 [(5, p_r r32), (4, p_r r7), (0, p_r v0), (1, p_i v1), (2, p_i v2), (3, p_i v3)] [] s45 _
            refine g_iconst (dk_SW_comeByNight 54 rfl) (by decide) ?_
            cases h
            exact g_ret rfl rfl (dk_SW_comeByNight 55 rfl) (fun os => ⟨_, rfl, p_okh os⟩)
          · have h := p_ifF b33 h
            refine g_iconst (dk_SW_comeByNight 23 rfl) (by decide) ?_
            cases h
            exact g_ret rfl rfl (dk_SW_comeByNight 24 rfl) (fun os => ⟨_, rfl, p_okh os⟩)
        · have h := p_ifF b27 h
          refine g_iconst (dk_SW_comeByNight 16 rfl) (by decide) ?_
          cases h
          exact g_ret rfl rfl (dk_SW_comeByNight 17 rfl) (fun os => ⟨_, rfl, p_okh os⟩)
def m_SW_drawnAfter : p_Me := (⟨"SortWorks", "drawnAfter", "(I)I"⟩, prog_1_method_31_code, 1, (some .int), 0, 0)
theorem mt_SW_drawnAfter : p_Mt m_SW_drawnAfter 1 := ⟨p_mem (p_tb5 (List.mem_of_getElem? (i := 86) rfl)) rfl, tw_1_1, by decide +kernel, by decide +kernel, by decide +kernel⟩
def dt_SW_drawnAfter : List (Nat × Instr × Nat) := [(0, .iload_n 0, 1), (1, .ldc_w 287, 3), (4, .imul, 1), (5, .sipush 12345, 3), (8, .iadd, 1), (9, .ireturn, 1)]
theorem dk_SW_drawnAfter (i : Nat) {pc : Nat} {ins : Instr} {len : Nat} (h : dt_SW_drawnAfter[i]? = some (pc, ins, len)) : decode m_SW_drawnAfter.2.1 pc = .ok (ins, len) := p_dk (b := m_SW_drawnAfter.2.1) (t := dt_SW_drawnAfter) (by decide +kernel) i h
def F_SW_drawnAfter (v0 : Int) (s0 : p_Hp) : Option (Int × p_Hp) :=
  some ((p_w ((p_w (v0 * 1103515245)) + 12345)), s0)
set_option maxRecDepth 100000 in
set_option maxHeartbeats 4000000 in
theorem tF_SW_drawnAfter (K : p_K) (l : Launch) (v0 : Int) (s0 : p_Hp) (r : (Int × p_Hp)) (h : F_SW_drawnAfter v0 s0 = some r) : p_Ct K l m_SW_drawnAfter [p_i v0] s0 (some (p_i r.1), r.2) := by
  refine p_Ct.of (by decide +kernel) (Nat.le_of_ble_eq_true rfl) ?_
  unfold F_SW_drawnAfter at h
  show p_Go K l m_SW_drawnAfter 0 [(0, p_i v0)] [] s0 _
  refine g_iload_n (i := 0) (j := 0) (dk_SW_drawnAfter 0 rfl) rfl rfl ?_
  refine g_ldc_w (x := 1103515245) (dk_SW_drawnAfter 1 rfl) tw_5_87 (by decide) (by decide) ?_
  refine g_imul (dk_SW_drawnAfter 2 rfl) ?_
  refine g_sipush (dk_SW_drawnAfter 3 rfl) (by decide +kernel) (by decide) ?_
  refine g_iadd (dk_SW_drawnAfter 4 rfl) ?_
  cases h
  exact g_ret rfl rfl (dk_SW_drawnAfter 5 rfl) (fun os => ⟨_, rfl, p_okh os⟩)
def m_SW_night : p_Me := (⟨"SortWorks", "night", "(II)I"⟩, prog_1_method_30_code, 9, (some .int), 7, 169)
theorem mt_SW_night : p_Mt m_SW_night 2 := ⟨p_mem (p_tb5 (List.mem_of_getElem? (i := 83) rfl)) rfl, tw_1_1, by decide +kernel, by decide +kernel, by decide +kernel⟩
def dt_SW_night : List (Nat × Instr × Nat) := [(0, .iload_n 2, 1), (1, .iconst 1, 1), (2, .if_icmp .lt 9, 3), (5, .iload_n 2, 1), (6, .bipush 20, 2), (8, .if_icmp .le 10, 3), (11, .aload_n 0, 1), (12, .bipush (-2), 2), (14, .invokevirtual 61, 3), (17, .ireturn, 1), (18, .iload_n 1, 1), (19, .istore_n 3, 1), (20, .iconst 0, 1), (21, .istore 4, 2), (23, .iconst 0, 1), (24, .istore 5, 2), (26, .iload 5, 2), (28, .iload_n 2, 1), (29, .if_icmp .ge 94, 3), (32, .iload_n 3, 1), (33, .invokestatic 280, 3), (36, .istore_n 3, 1), (37, .iload_n 3, 1), (38, .bipush 16, 2), (40, .iushr, 1), (41, .istore 6, 2), (43, .iload_n 3, 1), (44, .invokestatic 280, 3), (47, .istore_n 3, 1), (48, .iload_n 3, 1), (49, .bipush 16, 2), (51, .iushr, 1), (52, .istore 7, 2), (54, .iload_n 3, 1), (55, .invokestatic 280, 3), (58, .istore_n 3, 1), (59, .iload_n 3, 1), (60, .bipush 16, 2), (62, .iushr, 1), (63, .istore 8, 2), (65, .iload 4, 2), (67, .aload_n 0, 1), (68, .iload 6, 2), (70, .iload 7, 2), (72, .iload 8, 2), (74, .invokevirtual 283, 3), (77, .iadd, 1), (78, .istore 4, 2), (80, .aload_n 0, 1), (81, .getfield 47, 3), (84, .sipush 5000, 3), (87, .if_icmp .lt 6, 3), (90, .goto 33, 3), (93, .aload_n 0, 1), (94, .dup, 1), (95, .getfield 47, 3), (98, .aload_n 0, 1), (99, .getfield 32, 3), (102, .aload_n 0, 1), (103, .getfield 18, 3), (106, .aload_n 0, 1), (107, .getfield 25, 3), (110, .invokevirtual 273, 3), (113, .iadd, 1), (114, .putfield 47, 3), (117, .iinc 5 1, 3), (120, .goto (-94), 3), (123, .aload_n 0, 1), (124, .iload 4, 2), (126, .invokevirtual 57, 3), (129, .ireturn, 1)]
theorem dk_SW_night (i : Nat) {pc : Nat} {ins : Instr} {len : Nat} (h : dt_SW_night[i]? = some (pc, ins, len)) : decode m_SW_night.2.1 pc = .ok (ins, len) := p_dk (b := m_SW_night.2.1) (t := dt_SW_night) (by decide +kernel) i h
def B_SW_night_11  (v0 : Nat) (s0 : p_Hp) : Option (Int × p_Hp) :=
  p_gd (p_is s0 v0 10) <|
  p_bd (F_SW_refuse v0 (-2) s0) fun r6 s2 =>
  some (r6, s2)
def B_SW_night_123  (v0 : Nat) (v4 : Int) (s0 : p_Hp) : Option (Int × p_Hp) :=
  p_gd (p_is s0 v0 10) <|
  p_bd (F_SW_done v0 v4 s0) fun r6 s2 =>
  some (r6, s2)
def L_SW_night_26 (k26 : Nat → Int → Int → Int → Int → p_Hp → Option (Int × p_Hp)) (v0 : Nat) (v2 : Int) (v3 : Int) (v4 : Int) (v5 : Int) (s0 : p_Hp) : Option (Int × p_Hp) :=
  if v2 ≤ v5 then
    B_SW_night_123 v0 v4 s0
  else
    p_bd (F_SW_drawnAfter v3 s0) fun r6 s2 =>
    p_bi ((p_ushr r6 16)) fun x7 =>
    p_bd (F_SW_drawnAfter r6 s2) fun r12 s8 =>
    p_bi ((p_ushr r12 16)) fun x13 =>
    p_bd (F_SW_drawnAfter r12 s8) fun r18 s14 =>
    p_bi ((p_ushr r18 16)) fun x19 =>
    p_gd (p_is s14 v0 10) <|
    p_bd (F_SW_comeByNight v0 x7 x13 x19 s14) fun r25 s21 =>
    p_bi ((p_w (v4 + r25))) fun x26 =>
    if (p_Z s21 v0 7) < 5000 then
      p_gd (p_is s21 (p_R s21 v0 3) 8) <|
      p_bd (F_Step_run (p_R s21 v0 3) (p_R s21 v0 1) (p_R s21 v0 2) s21) fun r33 s29 =>
      p_bi (p_wZ s29 v0 7 (p_w ((p_Z s21 v0 7) + r33))) fun s34 =>
      p_bi (p_w (v5 + 1)) fun x36 =>
      k26 v0 v2 r18 x26 x36 s34
    else
      B_SW_night_123 v0 x26 s21
def O_SW_night_26  : Nat → Nat → Int → Int → Int → Int → p_Hp → Option (Int × p_Hp)
  | 0 => fun _ _ _ _ _ _ => none
  | n + 1 => L_SW_night_26 (O_SW_night_26 n)
def F_SW_night (v0 : Nat) (v1 : Int) (v2 : Int) (s0 : p_Hp) : Option (Int × p_Hp) :=
  if v2 < 1 then
    B_SW_night_11 v0 s0
  else
    if v2 ≤ 20 then
      O_SW_night_26 3000 v0 v2 v1 0 0 s0
    else
      B_SW_night_11 v0 s0
set_option maxRecDepth 100000 in
set_option maxHeartbeats 4000000 in
theorem tB_SW_night_11 (K : p_K) (l : Launch)  (v0 : Nat) (s0 : p_Hp) (r : (Int × p_Hp)) (h : B_SW_night_11 v0 s0 = some r) : p_Go K l m_SW_night 11 [(0, p_r v0)] [] s0 (some (p_i r.1), r.2) := by
  unfold B_SW_night_11 at h
  refine g_aload_n (i := 0) (j := 0) (dk_SW_night 6 rfl) rfl rfl ?_
  refine g_bipush (dk_SW_night 7 rfl) (by decide +kernel) (by decide) ?_
  obtain ⟨c1, h⟩ := p_gdE h
  obtain ⟨r6, s2, q3, h⟩ := p_bdE h
  have t4 := tF_SW_refuse K l v0 (-2) s0 _ q3
  refine g_callV (a := v0) (ci := 10) (q0 := (RX10, TX10, 9)) (As := [p_i (-2)]) (rest := []) [p_i r6] mt_SW_refuse rfl rfl tw_3_66 ts_0 tw_3_64 ⟨Nat.le_of_ble_eq_true rfl, Nat.le_of_ble_eq_true rfl⟩ rfl (Nat.le_of_ble_eq_true rfl) (dk_SW_night 8 rfl) rfl c1 rfl t4 ?_
  have hs5 : p_x s0 s2 := t4.1
  show p_Go K l m_SW_night 17 [(0, p_r v0)] [p_i r6] s2 _
  cases h
  exact g_ret rfl rfl (dk_SW_night 9 rfl) (fun os => ⟨_, rfl, p_okh os⟩)
set_option maxRecDepth 100000 in
set_option maxHeartbeats 4000000 in
theorem tB_SW_night_123 (K : p_K) (l : Launch)  (v0 : Nat) (v4 : Int) (s0 : p_Hp) (r : (Int × p_Hp)) (h : B_SW_night_123 v0 v4 s0 = some r) : p_Go K l m_SW_night 123 [(0, p_r v0), (4, p_i v4)] [] s0 (some (p_i r.1), r.2) := by
  unfold B_SW_night_123 at h
  refine g_aload_n (i := 0) (j := 0) (dk_SW_night 67 rfl) rfl rfl ?_
  refine g_iload (j := 1) (dk_SW_night 68 rfl) rfl ?_
  obtain ⟨c1, h⟩ := p_gdE h
  obtain ⟨r6, s2, q3, h⟩ := p_bdE h
  have t4 := tF_SW_done K l v0 v4 s0 _ q3
  refine g_callV (a := v0) (ci := 10) (q0 := (RX10, TX10, 9)) (As := [p_i v4]) (rest := []) [p_i r6] mt_SW_done rfl rfl tw_3_70 ts_1 tw_3_68 ⟨Nat.le_of_ble_eq_true rfl, Nat.le_of_ble_eq_true rfl⟩ rfl (Nat.le_of_ble_eq_true rfl) (dk_SW_night 69 rfl) rfl c1 rfl t4 ?_
  have hs5 : p_x s0 s2 := t4.1
  show p_Go K l m_SW_night 129 [(0, p_r v0), (4, p_i v4)] [p_i r6] s2 _
  cases h
  exact g_ret rfl rfl (dk_SW_night 70 rfl) (fun os => ⟨_, rfl, p_okh os⟩)
set_option maxRecDepth 100000 in
set_option maxHeartbeats 4000000 in
theorem tL_SW_night_26 (K : p_K) (l : Launch) (k26 : Nat → Int → Int → Int → Int → p_Hp → Option (Int × p_Hp)) (hk26 : ∀ (v0 : Nat) (v2 : Int) (v3 : Int) (v4 : Int) (v5 : Int)  (s0 : p_Hp) (r : (Int × p_Hp)), k26 v0 v2 v3 v4 v5 s0 = some r → p_Go K l m_SW_night 26 [(0, p_r v0), (2, p_i v2), (3, p_i v3), (4, p_i v4), (5, p_i v5)] [] s0 (some (p_i r.1), r.2)) (v0 : Nat) (v2 : Int) (v3 : Int) (v4 : Int) (v5 : Int) (s0 : p_Hp) (r : (Int × p_Hp)) (h : L_SW_night_26 k26 v0 v2 v3 v4 v5 s0 = some r) : p_Go K l m_SW_night 26 [(0, p_r v0), (2, p_i v2), (3, p_i v3), (4, p_i v4), (5, p_i v5)] [] s0 (some (p_i r.1), r.2) := by
  unfold L_SW_night_26 at h
  refine g_iload (j := 4) (dk_SW_night 16 rfl) rfl ?_
  refine g_iload_n (i := 2) (j := 1) (dk_SW_night 17 rfl) rfl rfl ?_
  refine g_icmp_ge 123 (dk_SW_night 18 rfl) (by decide) (fun b1 => ?_) (fun b1 => ?_)
  · have h := p_ifT b1 h
    refine g_sub [(0, p_r v0), (4, p_i v4)] [0, 3] rfl ?_
    exact tB_SW_night_123 K l v0 v4 s0 _ h
  · have h := p_ifF b1 h
    refine g_iload_n (i := 3) (j := 2) (dk_SW_night 19 rfl) rfl rfl ?_
    obtain ⟨r6, s2, q3, h⟩ := p_bdE h
    have t4 := tF_SW_drawnAfter K l v3 s0 _ q3
    refine g_callS (av := [p_i v3]) (rest := []) [p_i r6] mt_SW_drawnAfter tw_5_85 tw_5_84 ⟨Nat.le_of_ble_eq_true rfl, Nat.le_of_ble_eq_true rfl⟩ rfl (Nat.le_of_ble_eq_true rfl) (dk_SW_night 20 rfl) rfl rfl t4 ?_
    have hs5 : p_x s0 s2 := t4.1
    show p_Go K l m_SW_night 36 [(0, p_r v0), (2, p_i v2), (3, p_i v3), (4, p_i v4), (5, p_i v5)] [p_i r6] s2 _
    refine g_istore_n (i := 3) [(3, p_i r6), (0, p_r v0), (2, p_i v2), (4, p_i v4), (5, p_i v5)] (dk_SW_night 21 rfl) rfl (by decide) rfl ?_
    refine g_iload_n (i := 3) (j := 0) (dk_SW_night 22 rfl) rfl rfl ?_
    refine g_bipush (dk_SW_night 23 rfl) (by decide +kernel) (by decide) ?_
    refine g_iushr (dk_SW_night 24 rfl) ?_
    refine g_istore [(6, p_i (p_ushr r6 16)), (3, p_i r6), (0, p_r v0), (2, p_i v2), (4, p_i v4), (5, p_i v5)] (dk_SW_night 25 rfl) (by decide) rfl ?_
    refine p_ltG (P := fun q => p_Go K l m_SW_night 43 [(6, p_i q), (3, p_i r6), (0, p_r v0), (2, p_i v2), (4, p_i v4), (5, p_i v5)] [] s2 _) ?_ h
    intro x7 h
    refine g_iload_n (i := 3) (j := 1) (dk_SW_night 26 rfl) rfl rfl ?_
    obtain ⟨r12, s8, q9, h⟩ := p_bdE h
    have t10 := tF_SW_drawnAfter K l r6 s2 _ q9
    refine g_callS (av := [p_i r6]) (rest := []) [p_i r12] mt_SW_drawnAfter tw_5_85 tw_5_84 ⟨Nat.le_of_ble_eq_true rfl, Nat.le_of_ble_eq_true rfl⟩ rfl (Nat.le_of_ble_eq_true rfl) (dk_SW_night 27 rfl) rfl rfl t10 ?_
    have hs11 : p_x s2 s8 := t10.1
    show p_Go K l m_SW_night 47 [(6, p_i x7), (3, p_i r6), (0, p_r v0), (2, p_i v2), (4, p_i v4), (5, p_i v5)] [p_i r12] s8 _
    refine g_istore_n (i := 3) [(3, p_i r12), (6, p_i x7), (0, p_r v0), (2, p_i v2), (4, p_i v4), (5, p_i v5)] (dk_SW_night 28 rfl) rfl (by decide) rfl ?_
    refine g_iload_n (i := 3) (j := 0) (dk_SW_night 29 rfl) rfl rfl ?_
    refine g_bipush (dk_SW_night 30 rfl) (by decide +kernel) (by decide) ?_
    refine g_iushr (dk_SW_night 31 rfl) ?_
    refine g_istore [(7, p_i (p_ushr r12 16)), (3, p_i r12), (6, p_i x7), (0, p_r v0), (2, p_i v2), (4, p_i v4), (5, p_i v5)] (dk_SW_night 32 rfl) (by decide) rfl ?_
    refine p_ltG (P := fun q => p_Go K l m_SW_night 54 [(7, p_i q), (3, p_i r12), (6, p_i x7), (0, p_r v0), (2, p_i v2), (4, p_i v4), (5, p_i v5)] [] s8 _) ?_ h
    intro x13 h
    refine g_iload_n (i := 3) (j := 1) (dk_SW_night 33 rfl) rfl rfl ?_
    obtain ⟨r18, s14, q15, h⟩ := p_bdE h
    have t16 := tF_SW_drawnAfter K l r12 s8 _ q15
    refine g_callS (av := [p_i r12]) (rest := []) [p_i r18] mt_SW_drawnAfter tw_5_85 tw_5_84 ⟨Nat.le_of_ble_eq_true rfl, Nat.le_of_ble_eq_true rfl⟩ rfl (Nat.le_of_ble_eq_true rfl) (dk_SW_night 34 rfl) rfl rfl t16 ?_
    have hs17 : p_x s8 s14 := t16.1
    show p_Go K l m_SW_night 58 [(7, p_i x13), (3, p_i r12), (6, p_i x7), (0, p_r v0), (2, p_i v2), (4, p_i v4), (5, p_i v5)] [p_i r18] s14 _
    refine g_istore_n (i := 3) [(3, p_i r18), (7, p_i x13), (6, p_i x7), (0, p_r v0), (2, p_i v2), (4, p_i v4), (5, p_i v5)] (dk_SW_night 35 rfl) rfl (by decide) rfl ?_
    refine g_iload_n (i := 3) (j := 0) (dk_SW_night 36 rfl) rfl rfl ?_
    refine g_bipush (dk_SW_night 37 rfl) (by decide +kernel) (by decide) ?_
    refine g_iushr (dk_SW_night 38 rfl) ?_
    refine g_istore [(8, p_i (p_ushr r18 16)), (3, p_i r18), (7, p_i x13), (6, p_i x7), (0, p_r v0), (2, p_i v2), (4, p_i v4), (5, p_i v5)] (dk_SW_night 39 rfl) (by decide) rfl ?_
    refine p_ltG (P := fun q => p_Go K l m_SW_night 65 [(8, p_i q), (3, p_i r18), (7, p_i x13), (6, p_i x7), (0, p_r v0), (2, p_i v2), (4, p_i v4), (5, p_i v5)] [] s14 _) ?_ h
    intro x19 h
    refine g_iload (j := 6) (dk_SW_night 40 rfl) rfl ?_
    refine g_aload_n (i := 0) (j := 4) (dk_SW_night 41 rfl) rfl rfl ?_
    refine g_iload (j := 3) (dk_SW_night 42 rfl) rfl ?_
    refine g_iload (j := 2) (dk_SW_night 43 rfl) rfl ?_
    refine g_iload (j := 0) (dk_SW_night 44 rfl) rfl ?_
    obtain ⟨c20, h⟩ := p_gdE h
    obtain ⟨r25, s21, q22, h⟩ := p_bdE h
    have t23 := tF_SW_comeByNight K l v0 x7 x13 x19 s14 _ q22
    refine g_callV (a := v0) (ci := 10) (q0 := (RX10, TX10, 9)) (As := [p_i x7, p_i x13, p_i x19]) (rest := [p_i v4]) [p_i r25, p_i v4] mt_SW_comeByNight rfl rfl tw_5_90 ts_39 tw_5_88 ⟨Nat.le_of_ble_eq_true rfl, Nat.le_of_ble_eq_true rfl⟩ rfl (Nat.le_of_ble_eq_true rfl) (dk_SW_night 45 rfl) rfl c20 rfl t23 ?_
    have hs24 : p_x s14 s21 := t23.1
    show p_Go K l m_SW_night 77 [(8, p_i x19), (3, p_i r18), (7, p_i x13), (6, p_i x7), (0, p_r v0), (2, p_i v2), (4, p_i v4), (5, p_i v5)] [p_i r25, p_i v4] s21 _
    refine g_iadd (dk_SW_night 46 rfl) ?_
    refine g_istore [(4, p_i (p_w (v4 + r25))), (8, p_i x19), (3, p_i r18), (7, p_i x13), (6, p_i x7), (0, p_r v0), (2, p_i v2), (5, p_i v5)] (dk_SW_night 47 rfl) (by decide) rfl ?_
    refine p_ltG (P := fun q => p_Go K l m_SW_night 80 [(4, p_i q), (8, p_i x19), (3, p_i r18), (7, p_i x13), (6, p_i x7), (0, p_r v0), (2, p_i v2), (5, p_i v5)] [] s21 _) ?_ h
    intro x26 h
    refine g_aload_n (i := 0) (j := 5) (dk_SW_night 48 rfl) rfl rfl ?_
    refine g_getI fl_SW_47 (Or.inl rfl) (dk_SW_night 49 rfl) (c20.up hs24) ?_
    refine g_sipush (dk_SW_night 50 rfl) (by decide +kernel) (by decide) ?_
    refine g_icmp_lt 93 (dk_SW_night 51 rfl) (by decide) (fun b27 => ?_) (fun b27 => ?_)
    · have h := p_ifT b27 h
      refine g_aload_n (i := 0) (j := 5) (dk_SW_night 53 rfl) rfl rfl ?_
      refine g_dup (dk_SW_night 54 rfl) rfl ?_
      refine g_getI fl_SW_47 (Or.inl rfl) (dk_SW_night 55 rfl) (c20.up hs24) ?_
      refine g_aload_n (i := 0) (j := 5) (dk_SW_night 56 rfl) rfl rfl ?_
      refine g_getR fl_SW_32 (Or.inl ⟨_, rfl⟩) (dk_SW_night 57 rfl) (c20.up hs24) ?_
      refine g_aload_n (i := 0) (j := 5) (dk_SW_night 58 rfl) rfl rfl ?_
      refine g_getR fl_SW_18 (Or.inl ⟨_, rfl⟩) (dk_SW_night 59 rfl) (c20.up hs24) ?_
      refine g_aload_n (i := 0) (j := 5) (dk_SW_night 60 rfl) rfl rfl ?_
      refine g_getR fl_SW_25 (Or.inl ⟨_, rfl⟩) (dk_SW_night 61 rfl) (c20.up hs24) ?_
      obtain ⟨c28, h⟩ := p_gdE h
      obtain ⟨r33, s29, q30, h⟩ := p_bdE h
      have t31 := tF_Step_run K l (p_R s21 v0 3) (p_R s21 v0 1) (p_R s21 v0 2) s21 _ q30
      refine g_callV (a := (p_R s21 v0 3)) (ci := 8) (q0 := (RX8, TX8, 5)) (As := [p_r (p_R s21 v0 1), p_r (p_R s21 v0 2)]) (rest := [p_i (p_Z s21 v0 7), p_r v0]) [p_i r33, p_i (p_Z s21 v0 7), p_r v0] mt_Step_run rfl rfl tw_4_132 tw_4_133 tw_4_131 ⟨Nat.le_of_ble_eq_true rfl, Nat.le_of_ble_eq_true rfl⟩ rfl (Nat.le_of_ble_eq_true rfl) (dk_SW_night 62 rfl) rfl c28 rfl t31 ?_
      have hs32 : p_x s21 s29 := t31.1
      show p_Go K l m_SW_night 113 [(4, p_i x26), (8, p_i x19), (3, p_i r18), (7, p_i x13), (6, p_i x7), (0, p_r v0), (2, p_i v2), (5, p_i v5)] [p_i r33, p_i (p_Z s21 v0 7), p_r v0] s29 _
      refine g_iadd (dk_SW_night 63 rfl) ?_
      refine g_putI fl_SW_47 (Or.inl rfl) (dk_SW_night 64 rfl) (c20.up (hs24.trans hs32)) ?_
      refine p_ltS (P := fun q => p_Go K l m_SW_night 117 [(4, p_i x26), (8, p_i x19), (3, p_i r18), (7, p_i x13), (6, p_i x7), (0, p_r v0), (2, p_i v2), (5, p_i v5)] [] q _) (p_xZ _ _ _ _) ?_ h
      intro s34 hs35 h
      refine g_iinc (j := 7) [(5, p_i (p_w (v5 + 1))), (4, p_i x26), (8, p_i x19), (3, p_i r18), (7, p_i x13), (6, p_i x7), (0, p_r v0), (2, p_i v2)] (dk_SW_night 65 rfl) rfl (by decide) rfl ?_
      refine p_ltG (P := fun q => p_Go K l m_SW_night 120 [(5, p_i q), (4, p_i x26), (8, p_i x19), (3, p_i r18), (7, p_i x13), (6, p_i x7), (0, p_r v0), (2, p_i v2)] [] s34 _) ?_ h
      intro x36 h
      refine g_goto 26 (dk_SW_night 66 rfl) (by decide) ?_
      refine g_sub [(0, p_r v0), (2, p_i v2), (3, p_i r18), (4, p_i x26), (5, p_i x36)] [6, 7, 3, 1, 0] rfl ?_
      exact hk26 v0 v2 r18 x26 x36 s34 _ h
    · have h := p_ifF b27 h
      refine g_goto 123 (dk_SW_night 52 rfl) (by decide) ?_
      refine g_sub [(0, p_r v0), (4, p_i x26)] [5, 0] rfl ?_
      exact tB_SW_night_123 K l v0 x26 s21 _ h
set_option maxRecDepth 100000 in
set_option maxHeartbeats 4000000 in
theorem tO_SW_night_26 (K : p_K) (l : Launch)  : ∀ (n : Nat) (v0 : Nat) (v2 : Int) (v3 : Int) (v4 : Int) (v5 : Int) (s0 : p_Hp) (r : (Int × p_Hp)), O_SW_night_26 n v0 v2 v3 v4 v5 s0 = some r → p_Go K l m_SW_night 26 [(0, p_r v0), (2, p_i v2), (3, p_i v3), (4, p_i v4), (5, p_i v5)] [] s0 (some (p_i r.1), r.2) := by
  intro n
  induction n with
  | zero => intro v0 v2 v3 v4 v5 s0 r h; cases (show (none : Option (Int × p_Hp)) = some r from h)
  | succ n ih => intro v0 v2 v3 v4 v5 s0 r h; exact tL_SW_night_26 K l _ ih v0 v2 v3 v4 v5 s0 r h
set_option maxRecDepth 100000 in
set_option maxHeartbeats 4000000 in
theorem tF_SW_night (K : p_K) (l : Launch) (v0 : Nat) (v1 : Int) (v2 : Int) (s0 : p_Hp) (r : (Int × p_Hp)) (h : F_SW_night v0 v1 v2 s0 = some r) : p_Ct K l m_SW_night [p_r v0, p_i v1, p_i v2] s0 (some (p_i r.1), r.2) := by
  refine p_Ct.of (by decide +kernel) (Nat.le_of_ble_eq_true rfl) ?_
  unfold F_SW_night at h
  show p_Go K l m_SW_night 0 [(0, p_r v0), (1, p_i v1), (2, p_i v2)] [] s0 _
  refine g_iload_n (i := 2) (j := 2) (dk_SW_night 0 rfl) rfl rfl ?_
  refine g_iconst (dk_SW_night 1 rfl) (by decide) ?_
  refine g_icmp_lt 11 (dk_SW_night 2 rfl) (by decide) (fun b1 => ?_) (fun b1 => ?_)
  · have h := p_ifT b1 h
    refine g_sub [(0, p_r v0)] [0] rfl ?_
    exact tB_SW_night_11 K l v0 s0 _ h
  · have h := p_ifF b1 h
    refine g_iload_n (i := 2) (j := 2) (dk_SW_night 3 rfl) rfl rfl ?_
    refine g_bipush (dk_SW_night 4 rfl) (by decide +kernel) (by decide) ?_
    refine g_icmp_le 18 (dk_SW_night 5 rfl) (by decide) (fun b2 => ?_) (fun b2 => ?_)
    · have h := p_ifT b2 h
      refine g_iload_n (i := 1) (j := 1) (dk_SW_night 10 rfl) rfl rfl ?_
      refine g_istore_n (i := 3) [(3, p_i v1), (0, p_r v0), (1, p_i v1), (2, p_i v2)] (dk_SW_night 11 rfl) rfl (by decide) rfl ?_
      refine g_iconst (dk_SW_night 12 rfl) (by decide) ?_
      refine g_istore [(4, p_i 0), (3, p_i v1), (0, p_r v0), (1, p_i v1), (2, p_i v2)] (dk_SW_night 13 rfl) (by decide) rfl ?_
      refine g_iconst (dk_SW_night 14 rfl) (by decide) ?_
      refine g_istore [(5, p_i 0), (4, p_i 0), (3, p_i v1), (0, p_r v0), (1, p_i v1), (2, p_i v2)] (dk_SW_night 15 rfl) (by decide) rfl ?_
      refine g_sub [(0, p_r v0), (2, p_i v2), (3, p_i v1), (4, p_i 0), (5, p_i 0)] [3, 5, 2, 1, 0] rfl ?_
      exact tO_SW_night_26 K l 3000 v0 v2 v1 0 0 s0 _ h
    · have h := p_ifF b2 h
      refine g_sub [(0, p_r v0)] [0] rfl ?_
      exact tB_SW_night_11 K l v0 s0 _ h
def m_Numbers_undoSince : p_Me := (⟨"SortWorks$Numbers", "undoSince", "(ILSortWorks$State;)V"⟩, prog_5_method_4_code, 5, none, 1, 20)
theorem mt_Numbers_undoSince : p_Mt m_Numbers_undoSince 2 := ⟨p_mem (p_tb5 (List.mem_of_getElem? (i := 131) rfl)) rfl, tw_1_8, by decide +kernel, by decide +kernel, by decide +kernel⟩
def dt_Numbers_undoSince : List (Nat × Instr × Nat) := [(0, .aload_n 2, 1), (1, .getfield 23, 3), (4, .iconst 1, 1), (5, .iadd, 1), (6, .istore_n 3, 1), (7, .iload_n 3, 1), (8, .aload_n 0, 1), (9, .getfield 15, 3), (12, .if_icmp .gt 53, 3), (15, .aload_n 0, 1), (16, .getfield 9, 3), (19, .iload_n 3, 1), (20, .iaload, 1), (21, .iload_n 1, 1), (22, .invokestatic 19, 3), (25, .if_icmp .eq 26, 3), (28, .aload_n 0, 1), (29, .getfield 9, 3), (32, .iload_n 3, 1), (33, .iaload, 1), (34, .ifCond .lt 25, 3), (37, .aload_n 0, 1), (38, .getfield 9, 3), (41, .iload_n 3, 1), (42, .iaload, 1), (43, .sipush 1000, 3), (46, .idiv, 1), (47, .iload_n 1, 1), (48, .if_icmp .ne 11, 3), (51, .aload_n 0, 1), (52, .getfield 9, 3), (55, .iload_n 3, 1), (56, .bipush (-9), 2), (58, .iastore, 1), (59, .iinc 3 1, 3), (62, .goto (-55), 3), (65, .iconst 1, 1), (66, .istore_n 3, 1), (67, .iload_n 3, 1), (68, .bipush 30, 2), (70, .if_icmp .gt 36, 3), (73, .aload_n 2, 1), (74, .getfield 26, 3), (77, .iload_n 3, 1), (78, .aaload, 1), (79, .getfield 30, 3), (82, .istore 4, 2), (84, .iload 4, 2), (86, .ifCond .eq 14, 3), (89, .aload_n 0, 1), (90, .getfield 9, 3), (93, .iload 4, 2), (95, .iload_n 1, 1), (96, .invokestatic 19, 3), (99, .iastore, 1), (100, .iinc 3 1, 3), (103, .goto (-36), 3), (106, .return_, 1)]
theorem dk_Numbers_undoSince (i : Nat) {pc : Nat} {ins : Instr} {len : Nat} (h : dt_Numbers_undoSince[i]? = some (pc, ins, len)) : decode m_Numbers_undoSince.2.1 pc = .ok (ins, len) := p_dk (b := m_Numbers_undoSince.2.1) (t := dt_Numbers_undoSince) (by decide +kernel) i h
def B_Numbers_undoSince_59 (k7 : Nat → Int → Nat → Int → p_Hp → Option p_Hp) (v0 : Nat) (v1 : Int) (v2 : Nat) (v3 : Int) (s0 : p_Hp) : Option p_Hp :=
  p_bi (p_w (v3 + 1)) fun x1 =>
  k7 v0 v1 v2 x1 s0
def B_Numbers_undoSince_51 (k7 : Nat → Int → Nat → Int → p_Hp → Option p_Hp) (v0 : Nat) (v1 : Int) (v2 : Nat) (v3 : Int) (s0 : p_Hp) : Option p_Hp :=
  p_gd (p_is s0 v0 3) <|
  p_gd (p_is s0 (p_R s0 v0 0) 100) <|
  p_gd ((0 : Int) ≤ v3 ∧ v3 < (p_L s0 (p_R s0 v0 0) : Int)) <|
  p_bi (p_wZ s0 (p_R s0 v0 0) (v3 : Int).toNat (-9)) fun s4 =>
  B_Numbers_undoSince_59 k7 v0 v1 v2 v3 s4
def B_Numbers_undoSince_100 (k67 : Nat → Int → Nat → Int → p_Hp → Option p_Hp) (v0 : Nat) (v1 : Int) (v2 : Nat) (v3 : Int) (s0 : p_Hp) : Option p_Hp :=
  p_bi (p_w (v3 + 1)) fun x1 =>
  k67 v0 v1 v2 x1 s0
def L_Numbers_undoSince_67 (k67 : Nat → Int → Nat → Int → p_Hp → Option p_Hp) (v0 : Nat) (v1 : Int) (v2 : Nat) (v3 : Int) (s0 : p_Hp) : Option p_Hp :=
  if 30 < v3 then
    some s0
  else
    p_gd (p_is s0 v2 7) <|
    p_gd (p_is s0 (p_R s0 v2 5) 106) <|
    p_gd ((0 : Int) ≤ v3 ∧ v3 < (p_L s0 (p_R s0 v2 5) : Int)) <|
    p_gd (p_is s0 (p_R s0 (p_R s0 v2 5) (v3 : Int).toNat) 4) <|
    p_bi ((p_Z s0 (p_R s0 (p_R s0 v2 5) (v3 : Int).toNat) 1)) fun x6 =>
    if x6 = 0 then
      B_Numbers_undoSince_100 k67 v0 v1 v2 v3 s0
    else
      p_gd (p_is s0 v0 3) <|
      p_bd (F_Numbers_insideOf v1 s0) fun r13 s9 =>
      p_gd (p_is s9 (p_R s0 v0 0) 100) <|
      p_gd ((0 : Int) ≤ x6 ∧ x6 < (p_L s9 (p_R s0 v0 0) : Int)) <|
      p_bi (p_wZ s9 (p_R s0 v0 0) (x6 : Int).toNat r13) fun s16 =>
      B_Numbers_undoSince_100 k67 v0 v1 v2 v3 s16
def O_Numbers_undoSince_67  : Nat → Nat → Int → Nat → Int → p_Hp → Option p_Hp
  | 0 => fun _ _ _ _ _ => none
  | n + 1 => L_Numbers_undoSince_67 (O_Numbers_undoSince_67 n)
def L_Numbers_undoSince_7 (k7 : Nat → Int → Nat → Int → p_Hp → Option p_Hp) (v0 : Nat) (v1 : Int) (v2 : Nat) (v3 : Int) (s0 : p_Hp) : Option p_Hp :=
  p_gd (p_is s0 v0 3) <|
  if (p_Z s0 v0 1) < v3 then
    O_Numbers_undoSince_67 3000 v0 v1 v2 1 s0
  else
    p_gd (p_is s0 (p_R s0 v0 0) 100) <|
    p_gd ((0 : Int) ≤ v3 ∧ v3 < (p_L s0 (p_R s0 v0 0) : Int)) <|
    p_bd (F_Numbers_insideOf v1 s0) fun r9 s5 =>
    if (p_Z s0 (p_R s0 v0 0) (v3 : Int).toNat) = r9 then
      B_Numbers_undoSince_51 k7 v0 v1 v2 v3 s5
    else
      p_gd (p_is s5 (p_R s5 v0 0) 100) <|
      p_gd ((0 : Int) ≤ v3 ∧ v3 < (p_L s5 (p_R s5 v0 0) : Int)) <|
      if (p_Z s5 (p_R s5 v0 0) (v3 : Int).toNat) < 0 then
        B_Numbers_undoSince_59 k7 v0 v1 v2 v3 s5
      else
        p_gd ((0 : Int) ≤ v3 ∧ v3 < (p_L s5 (p_R s5 v0 0) : Int)) <|
        if (p_div (p_Z s5 (p_R s5 v0 0) (v3 : Int).toNat) 1000) ≠ v1 then
          B_Numbers_undoSince_59 k7 v0 v1 v2 v3 s5
        else
          B_Numbers_undoSince_51 k7 v0 v1 v2 v3 s5
def O_Numbers_undoSince_7  : Nat → Nat → Int → Nat → Int → p_Hp → Option p_Hp
  | 0 => fun _ _ _ _ _ => none
  | n + 1 => L_Numbers_undoSince_7 (O_Numbers_undoSince_7 n)
def F_Numbers_undoSince (v0 : Nat) (v1 : Int) (v2 : Nat) (s0 : p_Hp) : Option p_Hp :=
  p_gd (p_is s0 v2 7) <|
  p_bi ((p_w ((p_Z s0 v2 3) + 1))) fun x2 =>
  O_Numbers_undoSince_7 3000 v0 v1 v2 x2 s0
set_option maxRecDepth 100000 in
set_option maxHeartbeats 4000000 in
theorem tB_Numbers_undoSince_59 (K : p_K) (l : Launch) (k7 : Nat → Int → Nat → Int → p_Hp → Option p_Hp) (hk7 : ∀ (v0 : Nat) (v1 : Int) (v2 : Nat) (v3 : Int)  (s0 : p_Hp) (r : p_Hp), k7 v0 v1 v2 v3 s0 = some r → p_Go K l m_Numbers_undoSince 7 [(0, p_r v0), (1, p_i v1), (2, p_r v2), (3, p_i v3)] [] s0 (none, r)) (v0 : Nat) (v1 : Int) (v2 : Nat) (v3 : Int) (s0 : p_Hp) (r : p_Hp) (h : B_Numbers_undoSince_59 k7 v0 v1 v2 v3 s0 = some r) : p_Go K l m_Numbers_undoSince 59 [(0, p_r v0), (1, p_i v1), (2, p_r v2), (3, p_i v3)] [] s0 (none, r) := by
  unfold B_Numbers_undoSince_59 at h
  refine g_iinc (j := 3) [(3, p_i (p_w (v3 + 1))), (0, p_r v0), (1, p_i v1), (2, p_r v2)] (dk_Numbers_undoSince 34 rfl) rfl (by decide) rfl ?_
  refine p_ltG (P := fun q => p_Go K l m_Numbers_undoSince 62 [(3, p_i q), (0, p_r v0), (1, p_i v1), (2, p_r v2)] [] s0 _) ?_ h
  intro x1 h
  refine g_goto 7 (dk_Numbers_undoSince 35 rfl) (by decide) ?_
  refine g_sub [(0, p_r v0), (1, p_i v1), (2, p_r v2), (3, p_i x1)] [1, 2, 3, 0] rfl ?_
  exact hk7 v0 v1 v2 x1 s0 _ h
set_option maxRecDepth 100000 in
set_option maxHeartbeats 4000000 in
theorem tB_Numbers_undoSince_51 (K : p_K) (l : Launch) (k7 : Nat → Int → Nat → Int → p_Hp → Option p_Hp) (hk7 : ∀ (v0 : Nat) (v1 : Int) (v2 : Nat) (v3 : Int)  (s0 : p_Hp) (r : p_Hp), k7 v0 v1 v2 v3 s0 = some r → p_Go K l m_Numbers_undoSince 7 [(0, p_r v0), (1, p_i v1), (2, p_r v2), (3, p_i v3)] [] s0 (none, r)) (v0 : Nat) (v1 : Int) (v2 : Nat) (v3 : Int) (s0 : p_Hp) (r : p_Hp) (h : B_Numbers_undoSince_51 k7 v0 v1 v2 v3 s0 = some r) : p_Go K l m_Numbers_undoSince 51 [(0, p_r v0), (1, p_i v1), (2, p_r v2), (3, p_i v3)] [] s0 (none, r) := by
  unfold B_Numbers_undoSince_51 at h
  refine g_aload_n (i := 0) (j := 0) (dk_Numbers_undoSince 29 rfl) rfl rfl ?_
  obtain ⟨c1, h⟩ := p_gdE h
  refine g_getR fl_Numbers_9 (Or.inr ⟨_, rfl⟩) (dk_Numbers_undoSince 30 rfl) c1 ?_
  refine g_iload_n (i := 3) (j := 3) (dk_Numbers_undoSince 31 rfl) rfl rfl ?_
  refine g_bipush (dk_Numbers_undoSince 32 rfl) (by decide +kernel) (by decide) ?_
  obtain ⟨c2, h⟩ := p_gdE h
  obtain ⟨c3, h⟩ := p_gdE h
  refine g_iastore (dk_Numbers_undoSince 33 rfl) c2 c3.1 c3.2 ?_
  refine p_ltS (P := fun q => p_Go K l m_Numbers_undoSince 59 [(0, p_r v0), (1, p_i v1), (2, p_r v2), (3, p_i v3)] [] q _) (p_xZ _ _ _ _) ?_ h
  intro s4 hs5 h
  exact tB_Numbers_undoSince_59 K l k7 hk7 v0 v1 v2 v3 s4 _ h
set_option maxRecDepth 100000 in
set_option maxHeartbeats 4000000 in
theorem tB_Numbers_undoSince_100 (K : p_K) (l : Launch) (k67 : Nat → Int → Nat → Int → p_Hp → Option p_Hp) (hk67 : ∀ (v0 : Nat) (v1 : Int) (v2 : Nat) (v3 : Int)  (s0 : p_Hp) (r : p_Hp), k67 v0 v1 v2 v3 s0 = some r → p_Go K l m_Numbers_undoSince 67 [(0, p_r v0), (1, p_i v1), (2, p_r v2), (3, p_i v3)] [] s0 (none, r)) (v0 : Nat) (v1 : Int) (v2 : Nat) (v3 : Int) (s0 : p_Hp) (r : p_Hp) (h : B_Numbers_undoSince_100 k67 v0 v1 v2 v3 s0 = some r) : p_Go K l m_Numbers_undoSince 100 [(0, p_r v0), (1, p_i v1), (2, p_r v2), (3, p_i v3)] [] s0 (none, r) := by
  unfold B_Numbers_undoSince_100 at h
  refine g_iinc (j := 3) [(3, p_i (p_w (v3 + 1))), (0, p_r v0), (1, p_i v1), (2, p_r v2)] (dk_Numbers_undoSince 55 rfl) rfl (by decide) rfl ?_
  refine p_ltG (P := fun q => p_Go K l m_Numbers_undoSince 103 [(3, p_i q), (0, p_r v0), (1, p_i v1), (2, p_r v2)] [] s0 _) ?_ h
  intro x1 h
  refine g_goto 67 (dk_Numbers_undoSince 56 rfl) (by decide) ?_
  refine g_sub [(0, p_r v0), (1, p_i v1), (2, p_r v2), (3, p_i x1)] [1, 2, 3, 0] rfl ?_
  exact hk67 v0 v1 v2 x1 s0 _ h
set_option maxRecDepth 100000 in
set_option maxHeartbeats 4000000 in
theorem tL_Numbers_undoSince_67 (K : p_K) (l : Launch) (k67 : Nat → Int → Nat → Int → p_Hp → Option p_Hp) (hk67 : ∀ (v0 : Nat) (v1 : Int) (v2 : Nat) (v3 : Int)  (s0 : p_Hp) (r : p_Hp), k67 v0 v1 v2 v3 s0 = some r → p_Go K l m_Numbers_undoSince 67 [(0, p_r v0), (1, p_i v1), (2, p_r v2), (3, p_i v3)] [] s0 (none, r)) (v0 : Nat) (v1 : Int) (v2 : Nat) (v3 : Int) (s0 : p_Hp) (r : p_Hp) (h : L_Numbers_undoSince_67 k67 v0 v1 v2 v3 s0 = some r) : p_Go K l m_Numbers_undoSince 67 [(0, p_r v0), (1, p_i v1), (2, p_r v2), (3, p_i v3)] [] s0 (none, r) := by
  unfold L_Numbers_undoSince_67 at h
  refine g_iload_n (i := 3) (j := 3) (dk_Numbers_undoSince 38 rfl) rfl rfl ?_
  refine g_bipush (dk_Numbers_undoSince 39 rfl) (by decide +kernel) (by decide) ?_
  refine g_icmp_gt 106 (dk_Numbers_undoSince 40 rfl) (by decide) (fun b1 => ?_) (fun b1 => ?_)
  · have h := p_ifT b1 h
    cases h
    exact g_ret rfl rfl (dk_Numbers_undoSince 57 rfl) (fun _ => rfl)
  · have h := p_ifF b1 h
    refine g_aload_n (i := 2) (j := 2) (dk_Numbers_undoSince 41 rfl) rfl rfl ?_
    obtain ⟨c2, h⟩ := p_gdE h
    refine g_getR fl_Numbers_26 (Or.inr ⟨_, rfl⟩) (dk_Numbers_undoSince 42 rfl) c2 ?_
    refine g_iload_n (i := 3) (j := 3) (dk_Numbers_undoSince 43 rfl) rfl rfl ?_
    obtain ⟨c3, h⟩ := p_gdE h
    obtain ⟨c4, h⟩ := p_gdE h
    refine g_aaload (i := 6) rfl (Or.inl ⟨_, rfl⟩) (dk_Numbers_undoSince 44 rfl) c3 c4.1 c4.2 ?_
    obtain ⟨c5, h⟩ := p_gdE h
    refine g_getI fl_Numbers_30 (Or.inl rfl) (dk_Numbers_undoSince 45 rfl) c5 ?_
    refine g_istore [(4, p_i (p_Z s0 (p_R s0 (p_R s0 v2 5) (v3 : Int).toNat) 1)), (0, p_r v0), (1, p_i v1), (2, p_r v2), (3, p_i v3)] (dk_Numbers_undoSince 46 rfl) (by decide) rfl ?_
    refine p_ltG (P := fun q => p_Go K l m_Numbers_undoSince 84 [(4, p_i q), (0, p_r v0), (1, p_i v1), (2, p_r v2), (3, p_i v3)] [] s0 _) ?_ h
    intro x6 h
    refine g_iload (j := 0) (dk_Numbers_undoSince 47 rfl) rfl ?_
    refine g_if_eq 100 (dk_Numbers_undoSince 48 rfl) (by decide) (fun b7 => ?_) (fun b7 => ?_)
    · have h := p_ifT b7 h
      refine g_sub [(0, p_r v0), (1, p_i v1), (2, p_r v2), (3, p_i v3)] [1, 2, 3, 4] rfl ?_
      exact tB_Numbers_undoSince_100 K l k67 hk67 v0 v1 v2 v3 s0 _ h
    · have h := p_ifF b7 h
      refine g_aload_n (i := 0) (j := 1) (dk_Numbers_undoSince 49 rfl) rfl rfl ?_
      obtain ⟨c8, h⟩ := p_gdE h
      refine g_getR fl_Numbers_9 (Or.inr ⟨_, rfl⟩) (dk_Numbers_undoSince 50 rfl) c8 ?_
      refine g_iload (j := 0) (dk_Numbers_undoSince 51 rfl) rfl ?_
      refine g_iload_n (i := 1) (j := 2) (dk_Numbers_undoSince 52 rfl) rfl rfl ?_
      obtain ⟨r13, s9, q10, h⟩ := p_bdE h
      have t11 := tF_Numbers_insideOf K l v1 s0 _ q10
      refine g_callS (av := [p_i v1]) (rest := [p_i x6, p_r (p_R s0 v0 0)]) [p_i r13, p_i x6, p_r (p_R s0 v0 0)] mt_Numbers_insideOf tw_4_11 tw_4_10 ⟨Nat.le_of_ble_eq_true rfl, Nat.le_of_ble_eq_true rfl⟩ rfl (Nat.le_of_ble_eq_true rfl) (dk_Numbers_undoSince 53 rfl) rfl rfl t11 ?_
      have hs12 : p_x s0 s9 := t11.1
      show p_Go K l m_Numbers_undoSince 99 [(4, p_i x6), (0, p_r v0), (1, p_i v1), (2, p_r v2), (3, p_i v3)] [p_i r13, p_i x6, p_r (p_R s0 v0 0)] s9 _
      obtain ⟨c14, h⟩ := p_gdE h
      obtain ⟨c15, h⟩ := p_gdE h
      refine g_iastore (dk_Numbers_undoSince 54 rfl) c14 c15.1 c15.2 ?_
      refine p_ltS (P := fun q => p_Go K l m_Numbers_undoSince 100 [(4, p_i x6), (0, p_r v0), (1, p_i v1), (2, p_r v2), (3, p_i v3)] [] q _) (p_xZ _ _ _ _) ?_ h
      intro s16 hs17 h
      refine g_sub [(0, p_r v0), (1, p_i v1), (2, p_r v2), (3, p_i v3)] [1, 2, 3, 4] rfl ?_
      exact tB_Numbers_undoSince_100 K l k67 hk67 v0 v1 v2 v3 s16 _ h
set_option maxRecDepth 100000 in
set_option maxHeartbeats 4000000 in
theorem tO_Numbers_undoSince_67 (K : p_K) (l : Launch)  : ∀ (n : Nat) (v0 : Nat) (v1 : Int) (v2 : Nat) (v3 : Int) (s0 : p_Hp) (r : p_Hp), O_Numbers_undoSince_67 n v0 v1 v2 v3 s0 = some r → p_Go K l m_Numbers_undoSince 67 [(0, p_r v0), (1, p_i v1), (2, p_r v2), (3, p_i v3)] [] s0 (none, r) := by
  intro n
  induction n with
  | zero => intro v0 v1 v2 v3 s0 r h; cases (show (none : Option p_Hp) = some r from h)
  | succ n ih => intro v0 v1 v2 v3 s0 r h; exact tL_Numbers_undoSince_67 K l _ ih v0 v1 v2 v3 s0 r h
set_option maxRecDepth 100000 in
set_option maxHeartbeats 4000000 in
theorem tL_Numbers_undoSince_7 (K : p_K) (l : Launch) (k7 : Nat → Int → Nat → Int → p_Hp → Option p_Hp) (hk7 : ∀ (v0 : Nat) (v1 : Int) (v2 : Nat) (v3 : Int)  (s0 : p_Hp) (r : p_Hp), k7 v0 v1 v2 v3 s0 = some r → p_Go K l m_Numbers_undoSince 7 [(0, p_r v0), (1, p_i v1), (2, p_r v2), (3, p_i v3)] [] s0 (none, r)) (v0 : Nat) (v1 : Int) (v2 : Nat) (v3 : Int) (s0 : p_Hp) (r : p_Hp) (h : L_Numbers_undoSince_7 k7 v0 v1 v2 v3 s0 = some r) : p_Go K l m_Numbers_undoSince 7 [(0, p_r v0), (1, p_i v1), (2, p_r v2), (3, p_i v3)] [] s0 (none, r) := by
  unfold L_Numbers_undoSince_7 at h
  refine g_iload_n (i := 3) (j := 3) (dk_Numbers_undoSince 5 rfl) rfl rfl ?_
  refine g_aload_n (i := 0) (j := 0) (dk_Numbers_undoSince 6 rfl) rfl rfl ?_
  obtain ⟨c1, h⟩ := p_gdE h
  refine g_getI fl_Numbers_15 (Or.inl rfl) (dk_Numbers_undoSince 7 rfl) c1 ?_
  refine g_icmp_gt 65 (dk_Numbers_undoSince 8 rfl) (by decide) (fun b2 => ?_) (fun b2 => ?_)
  · have h := p_ifT b2 h
    refine g_iconst (dk_Numbers_undoSince 36 rfl) (by decide) ?_
    refine g_istore_n (i := 3) [(3, p_i 1), (0, p_r v0), (1, p_i v1), (2, p_r v2)] (dk_Numbers_undoSince 37 rfl) rfl (by decide) rfl ?_
    refine g_sub [(0, p_r v0), (1, p_i v1), (2, p_r v2), (3, p_i 1)] [1, 2, 3, 0] rfl ?_
    exact tO_Numbers_undoSince_67 K l 3000 v0 v1 v2 1 s0 _ h
  · have h := p_ifF b2 h
    refine g_aload_n (i := 0) (j := 0) (dk_Numbers_undoSince 9 rfl) rfl rfl ?_
    refine g_getR fl_Numbers_9 (Or.inr ⟨_, rfl⟩) (dk_Numbers_undoSince 10 rfl) c1 ?_
    refine g_iload_n (i := 3) (j := 3) (dk_Numbers_undoSince 11 rfl) rfl rfl ?_
    obtain ⟨c3, h⟩ := p_gdE h
    obtain ⟨c4, h⟩ := p_gdE h
    refine g_iaload (dk_Numbers_undoSince 12 rfl) c3 c4.1 c4.2 ?_
    refine g_iload_n (i := 1) (j := 1) (dk_Numbers_undoSince 13 rfl) rfl rfl ?_
    obtain ⟨r9, s5, q6, h⟩ := p_bdE h
    have t7 := tF_Numbers_insideOf K l v1 s0 _ q6
    refine g_callS (av := [p_i v1]) (rest := [p_i (p_Z s0 (p_R s0 v0 0) (v3 : Int).toNat)]) [p_i r9, p_i (p_Z s0 (p_R s0 v0 0) (v3 : Int).toNat)] mt_Numbers_insideOf tw_4_11 tw_4_10 ⟨Nat.le_of_ble_eq_true rfl, Nat.le_of_ble_eq_true rfl⟩ rfl (Nat.le_of_ble_eq_true rfl) (dk_Numbers_undoSince 14 rfl) rfl rfl t7 ?_
    have hs8 : p_x s0 s5 := t7.1
    show p_Go K l m_Numbers_undoSince 25 [(0, p_r v0), (1, p_i v1), (2, p_r v2), (3, p_i v3)] [p_i r9, p_i (p_Z s0 (p_R s0 v0 0) (v3 : Int).toNat)] s5 _
    refine g_icmp_eq 51 (dk_Numbers_undoSince 15 rfl) (by decide) (fun b10 => ?_) (fun b10 => ?_)
    · have h := p_ifT b10 h
      exact tB_Numbers_undoSince_51 K l k7 hk7 v0 v1 v2 v3 s5 _ h
    · have h := p_ifF b10 h
      refine g_aload_n (i := 0) (j := 0) (dk_Numbers_undoSince 16 rfl) rfl rfl ?_
      refine g_getR fl_Numbers_9 (Or.inr ⟨_, rfl⟩) (dk_Numbers_undoSince 17 rfl) (c1.up hs8) ?_
      refine g_iload_n (i := 3) (j := 3) (dk_Numbers_undoSince 18 rfl) rfl rfl ?_
      obtain ⟨c11, h⟩ := p_gdE h
      obtain ⟨c12, h⟩ := p_gdE h
      refine g_iaload (dk_Numbers_undoSince 19 rfl) c11 c12.1 c12.2 ?_
      refine g_if_lt 59 (dk_Numbers_undoSince 20 rfl) (by decide) (fun b13 => ?_) (fun b13 => ?_)
      · have h := p_ifT b13 h
        exact tB_Numbers_undoSince_59 K l k7 hk7 v0 v1 v2 v3 s5 _ h
      · have h := p_ifF b13 h
        refine g_aload_n (i := 0) (j := 0) (dk_Numbers_undoSince 21 rfl) rfl rfl ?_
        refine g_getR fl_Numbers_9 (Or.inr ⟨_, rfl⟩) (dk_Numbers_undoSince 22 rfl) (c1.up hs8) ?_
        refine g_iload_n (i := 3) (j := 3) (dk_Numbers_undoSince 23 rfl) rfl rfl ?_
        obtain ⟨c14, h⟩ := p_gdE h
        refine g_iaload (dk_Numbers_undoSince 24 rfl) c11 c14.1 c14.2 ?_
        refine g_sipush (dk_Numbers_undoSince 25 rfl) (by decide +kernel) (by decide) ?_
        refine g_idiv (dk_Numbers_undoSince 26 rfl) (by decide) ?_
        refine g_iload_n (i := 1) (j := 1) (dk_Numbers_undoSince 27 rfl) rfl rfl ?_
        refine g_icmp_ne 59 (dk_Numbers_undoSince 28 rfl) (by decide) (fun b15 => ?_) (fun b15 => ?_)
        · have h := p_ifT b15 h
          exact tB_Numbers_undoSince_59 K l k7 hk7 v0 v1 v2 v3 s5 _ h
        · have h := p_ifF b15 h
          exact tB_Numbers_undoSince_51 K l k7 hk7 v0 v1 v2 v3 s5 _ h
set_option maxRecDepth 100000 in
set_option maxHeartbeats 4000000 in
theorem tO_Numbers_undoSince_7 (K : p_K) (l : Launch)  : ∀ (n : Nat) (v0 : Nat) (v1 : Int) (v2 : Nat) (v3 : Int) (s0 : p_Hp) (r : p_Hp), O_Numbers_undoSince_7 n v0 v1 v2 v3 s0 = some r → p_Go K l m_Numbers_undoSince 7 [(0, p_r v0), (1, p_i v1), (2, p_r v2), (3, p_i v3)] [] s0 (none, r) := by
  intro n
  induction n with
  | zero => intro v0 v1 v2 v3 s0 r h; cases (show (none : Option p_Hp) = some r from h)
  | succ n ih => intro v0 v1 v2 v3 s0 r h; exact tL_Numbers_undoSince_7 K l _ ih v0 v1 v2 v3 s0 r h
set_option maxRecDepth 100000 in
set_option maxHeartbeats 4000000 in
theorem tF_Numbers_undoSince (K : p_K) (l : Launch) (v0 : Nat) (v1 : Int) (v2 : Nat) (s0 : p_Hp) (r : p_Hp) (h : F_Numbers_undoSince v0 v1 v2 s0 = some r) : p_Ct K l m_Numbers_undoSince [p_r v0, p_i v1, p_r v2] s0 (none, r) := by
  refine p_Ct.of (by decide +kernel) (Nat.le_of_ble_eq_true rfl) ?_
  unfold F_Numbers_undoSince at h
  show p_Go K l m_Numbers_undoSince 0 [(0, p_r v0), (1, p_i v1), (2, p_r v2)] [] s0 _
  refine g_aload_n (i := 2) (j := 2) (dk_Numbers_undoSince 0 rfl) rfl rfl ?_
  obtain ⟨c1, h⟩ := p_gdE h
  refine g_getI fl_Numbers_23 (Or.inl rfl) (dk_Numbers_undoSince 1 rfl) c1 ?_
  refine g_iconst (dk_Numbers_undoSince 2 rfl) (by decide) ?_
  refine g_iadd (dk_Numbers_undoSince 3 rfl) ?_
  refine g_istore_n (i := 3) [(3, p_i (p_w ((p_Z s0 v2 3) + 1))), (0, p_r v0), (1, p_i v1), (2, p_r v2)] (dk_Numbers_undoSince 4 rfl) rfl (by decide) rfl ?_
  refine p_ltG (P := fun q => p_Go K l m_Numbers_undoSince 7 [(3, p_i q), (0, p_r v0), (1, p_i v1), (2, p_r v2)] [] s0 _) ?_ h
  intro x2 h
  refine g_sub [(0, p_r v0), (1, p_i v1), (2, p_r v2), (3, p_i x2)] [1, 2, 3, 0] rfl ?_
  exact tO_Numbers_undoSince_7 K l 3000 v0 v1 v2 x2 s0 _ h
def m_Gear_goBack : p_Me := (⟨"SortWorks$Gear", "goBack", "(I)V"⟩, prog_2_method_5_code, 3, none, 1, 23)
theorem mt_Gear_goBack : p_Mt m_Gear_goBack 1 := ⟨p_mem (p_tb5 (List.mem_of_getElem? (i := 118) rfl)) rfl, tw_1_5, by decide +kernel, by decide +kernel, by decide +kernel⟩
def dt_Gear_goBack : List (Nat × Instr × Nat) := [(0, .bipush 11, 2), (2, .iload_n 1, 1), (3, .imul, 1), (4, .istore_n 2, 1), (5, .aload_n 0, 1), (6, .aload_n 0, 1), (7, .getfield 29, 3), (10, .iload_n 2, 1), (11, .iaload, 1), (12, .putfield 50, 3), (15, .aload_n 0, 1), (16, .aload_n 0, 1), (17, .getfield 29, 3), (20, .iload_n 2, 1), (21, .iconst 1, 1), (22, .iadd, 1), (23, .iaload, 1), (24, .iconst 1, 1), (25, .if_icmp .ne 7, 3), (28, .iconst 1, 1), (29, .goto 4, 3), (32, .iconst 0, 1), (33, .putfield 53, 3), (36, .aload_n 0, 1), (37, .aload_n 0, 1), (38, .getfield 29, 3), (41, .iload_n 2, 1), (42, .iconst 2, 1), (43, .iadd, 1), (44, .iaload, 1), (45, .putfield 57, 3), (48, .aload_n 0, 1), (49, .aload_n 0, 1), (50, .getfield 29, 3), (53, .iload_n 2, 1), (54, .iconst 3, 1), (55, .iadd, 1), (56, .iaload, 1), (57, .putfield 60, 3), (60, .aload_n 0, 1), (61, .aload_n 0, 1), (62, .getfield 29, 3), (65, .iload_n 2, 1), (66, .iconst 4, 1), (67, .iadd, 1), (68, .iaload, 1), (69, .putfield 63, 3), (72, .aload_n 0, 1), (73, .aload_n 0, 1), (74, .getfield 29, 3), (77, .iload_n 2, 1), (78, .iconst 5, 1), (79, .iadd, 1), (80, .iaload, 1), (81, .putfield 66, 3), (84, .aload_n 0, 1), (85, .aload_n 0, 1), (86, .getfield 29, 3), (89, .iload_n 2, 1), (90, .bipush 6, 2), (92, .iadd, 1), (93, .iaload, 1), (94, .putfield 69, 3), (97, .aload_n 0, 1), (98, .aload_n 0, 1), (99, .getfield 29, 3), (102, .iload_n 2, 1), (103, .bipush 7, 2), (105, .iadd, 1), (106, .iaload, 1), (107, .putfield 72, 3), (110, .aload_n 0, 1), (111, .aload_n 0, 1), (112, .getfield 29, 3), (115, .iload_n 2, 1), (116, .bipush 8, 2), (118, .iadd, 1), (119, .iaload, 1), (120, .putfield 75, 3), (123, .aload_n 0, 1), (124, .aload_n 0, 1), (125, .getfield 29, 3), (128, .iload_n 2, 1), (129, .bipush 9, 2), (131, .iadd, 1), (132, .iaload, 1), (133, .putfield 23, 3), (136, .aload_n 0, 1), (137, .aload_n 0, 1), (138, .getfield 29, 3), (141, .iload_n 2, 1), (142, .bipush 10, 2), (144, .iadd, 1), (145, .iaload, 1), (146, .putfield 78, 3), (149, .aload_n 0, 1), (150, .getfield 26, 3), (153, .iconst 0, 1), (154, .invokestatic 94, 3), (157, .return_, 1)]
theorem dk_Gear_goBack (i : Nat) {pc : Nat} {ins : Instr} {len : Nat} (h : dt_Gear_goBack[i]? = some (pc, ins, len)) : decode m_Gear_goBack.2.1 pc = .ok (ins, len) := p_dk (b := m_Gear_goBack.2.1) (t := dt_Gear_goBack) (by decide +kernel) i h
def B_Gear_goBack_33  (v0 : Nat) (v2 : Int) (w0 : Int) (w1 : Nat) (s0 : p_Hp) : Option p_Hp :=
  p_gd (p_is s0 w1 0) <|
  p_gd (w0 = 0 ∨ w0 = 1) <|
  p_bi (p_wZ s0 w1 7 w0) fun s3 =>
  p_gd (p_is s3 v0 0) <|
  p_gd (p_is s3 (p_R s3 v0 18) 100) <|
  p_gd ((0 : Int) ≤ (p_w (v2 + 2)) ∧ (p_w (v2 + 2)) < (p_L s3 (p_R s3 v0 18) : Int)) <|
  p_bi (p_wZ s3 v0 8 (p_Z s3 (p_R s3 v0 18) ((p_w (v2 + 2)) : Int).toNat)) fun s8 =>
  p_gd (p_is s8 (p_R s8 v0 18) 100) <|
  p_gd ((0 : Int) ≤ (p_w (v2 + 3)) ∧ (p_w (v2 + 3)) < (p_L s8 (p_R s8 v0 18) : Int)) <|
  p_bi (p_wZ s8 v0 9 (p_Z s8 (p_R s8 v0 18) ((p_w (v2 + 3)) : Int).toNat)) fun s12 =>
  p_gd (p_is s12 (p_R s12 v0 18) 100) <|
  p_gd ((0 : Int) ≤ (p_w (v2 + 4)) ∧ (p_w (v2 + 4)) < (p_L s12 (p_R s12 v0 18) : Int)) <|
  p_bi (p_wZ s12 v0 10 (p_Z s12 (p_R s12 v0 18) ((p_w (v2 + 4)) : Int).toNat)) fun s16 =>
  p_gd (p_is s16 (p_R s16 v0 18) 100) <|
  p_gd ((0 : Int) ≤ (p_w (v2 + 5)) ∧ (p_w (v2 + 5)) < (p_L s16 (p_R s16 v0 18) : Int)) <|
  p_bi (p_wZ s16 v0 11 (p_Z s16 (p_R s16 v0 18) ((p_w (v2 + 5)) : Int).toNat)) fun s20 =>
  p_gd (p_is s20 (p_R s20 v0 18) 100) <|
  p_gd ((0 : Int) ≤ (p_w (v2 + 6)) ∧ (p_w (v2 + 6)) < (p_L s20 (p_R s20 v0 18) : Int)) <|
  p_bi (p_wZ s20 v0 12 (p_Z s20 (p_R s20 v0 18) ((p_w (v2 + 6)) : Int).toNat)) fun s24 =>
  p_gd (p_is s24 (p_R s24 v0 18) 100) <|
  p_gd ((0 : Int) ≤ (p_w (v2 + 7)) ∧ (p_w (v2 + 7)) < (p_L s24 (p_R s24 v0 18) : Int)) <|
  p_bi (p_wZ s24 v0 13 (p_Z s24 (p_R s24 v0 18) ((p_w (v2 + 7)) : Int).toNat)) fun s28 =>
  p_gd (p_is s28 (p_R s28 v0 18) 100) <|
  p_gd ((0 : Int) ≤ (p_w (v2 + 8)) ∧ (p_w (v2 + 8)) < (p_L s28 (p_R s28 v0 18) : Int)) <|
  p_bi (p_wZ s28 v0 14 (p_Z s28 (p_R s28 v0 18) ((p_w (v2 + 8)) : Int).toNat)) fun s32 =>
  p_gd (p_is s32 (p_R s32 v0 18) 100) <|
  p_gd ((0 : Int) ≤ (p_w (v2 + 9)) ∧ (p_w (v2 + 9)) < (p_L s32 (p_R s32 v0 18) : Int)) <|
  p_bi (p_wZ s32 v0 15 (p_Z s32 (p_R s32 v0 18) ((p_w (v2 + 9)) : Int).toNat)) fun s36 =>
  p_gd (p_is s36 (p_R s36 v0 18) 100) <|
  p_gd ((0 : Int) ≤ (p_w (v2 + 10)) ∧ (p_w (v2 + 10)) < (p_L s36 (p_R s36 v0 18) : Int)) <|
  p_bi (p_wZ s36 v0 16 (p_Z s36 (p_R s36 v0 18) ((p_w (v2 + 10)) : Int).toNat)) fun s40 =>
  p_bv (F_Ar_fill_0 (p_R s40 v0 17) 0 s40) fun s42 =>
  some s42
def F_Gear_goBack (v0 : Nat) (v1 : Int) (s0 : p_Hp) : Option p_Hp :=
  p_bi ((p_w (11 * v1))) fun x1 =>
  p_gd (p_is s0 v0 0) <|
  p_gd (p_is s0 (p_R s0 v0 18) 100) <|
  p_gd ((0 : Int) ≤ x1 ∧ x1 < (p_L s0 (p_R s0 v0 18) : Int)) <|
  p_bi (p_wZ s0 v0 6 (p_Z s0 (p_R s0 v0 18) (x1 : Int).toNat)) fun s5 =>
  p_gd (p_is s5 (p_R s5 v0 18) 100) <|
  p_gd ((0 : Int) ≤ (p_w (x1 + 1)) ∧ (p_w (x1 + 1)) < (p_L s5 (p_R s5 v0 18) : Int)) <|
  if (p_Z s5 (p_R s5 v0 18) ((p_w (x1 + 1)) : Int).toNat) ≠ 1 then
    B_Gear_goBack_33 v0 x1 0 v0 s5
  else
    B_Gear_goBack_33 v0 x1 1 v0 s5
set_option maxRecDepth 100000 in
set_option maxHeartbeats 4000000 in
theorem tB_Gear_goBack_33 (K : p_K) (l : Launch)  (v0 : Nat) (v2 : Int) (w0 : Int) (w1 : Nat) (s0 : p_Hp) (r : p_Hp) (h : B_Gear_goBack_33 v0 v2 w0 w1 s0 = some r) : p_Go K l m_Gear_goBack 33 [(0, p_r v0), (2, p_i v2)] [p_i w0, p_r w1] s0 (none, r) := by
  unfold B_Gear_goBack_33 at h
  obtain ⟨c1, h⟩ := p_gdE h
  obtain ⟨c2, h⟩ := p_gdE h
  refine g_putB fl_Gear_53 (Or.inl rfl) (dk_Gear_goBack 22 rfl) c1 c2 ?_
  refine p_ltS (P := fun q => p_Go K l m_Gear_goBack 36 [(0, p_r v0), (2, p_i v2)] [] q _) (p_xZ _ _ _ _) ?_ h
  intro s3 hs4 h
  refine g_aload_n (i := 0) (j := 0) (dk_Gear_goBack 23 rfl) rfl rfl ?_
  refine g_aload_n (i := 0) (j := 0) (dk_Gear_goBack 24 rfl) rfl rfl ?_
  obtain ⟨c5, h⟩ := p_gdE h
  refine g_getR fl_Gear_29 (Or.inr ⟨_, rfl⟩) (dk_Gear_goBack 25 rfl) c5 ?_
  refine g_iload_n (i := 2) (j := 1) (dk_Gear_goBack 26 rfl) rfl rfl ?_
  refine g_iconst (dk_Gear_goBack 27 rfl) (by decide) ?_
  refine g_iadd (dk_Gear_goBack 28 rfl) ?_
  obtain ⟨c6, h⟩ := p_gdE h
  obtain ⟨c7, h⟩ := p_gdE h
  refine g_iaload (dk_Gear_goBack 29 rfl) c6 c7.1 c7.2 ?_
  refine g_putI fl_Gear_57 (Or.inl rfl) (dk_Gear_goBack 30 rfl) c5 ?_
  refine p_ltS (P := fun q => p_Go K l m_Gear_goBack 48 [(0, p_r v0), (2, p_i v2)] [] q _) (p_xZ _ _ _ _) ?_ h
  intro s8 hs9 h
  refine g_aload_n (i := 0) (j := 0) (dk_Gear_goBack 31 rfl) rfl rfl ?_
  refine g_aload_n (i := 0) (j := 0) (dk_Gear_goBack 32 rfl) rfl rfl ?_
  refine g_getR fl_Gear_29 (Or.inr ⟨_, rfl⟩) (dk_Gear_goBack 33 rfl) (c5.up hs9) ?_
  refine g_iload_n (i := 2) (j := 1) (dk_Gear_goBack 34 rfl) rfl rfl ?_
  refine g_iconst (dk_Gear_goBack 35 rfl) (by decide) ?_
  refine g_iadd (dk_Gear_goBack 36 rfl) ?_
  obtain ⟨c10, h⟩ := p_gdE h
  obtain ⟨c11, h⟩ := p_gdE h
  refine g_iaload (dk_Gear_goBack 37 rfl) c10 c11.1 c11.2 ?_
  refine g_putI fl_Gear_60 (Or.inl rfl) (dk_Gear_goBack 38 rfl) (c5.up hs9) ?_
  refine p_ltS (P := fun q => p_Go K l m_Gear_goBack 60 [(0, p_r v0), (2, p_i v2)] [] q _) (p_xZ _ _ _ _) ?_ h
  intro s12 hs13 h
  refine g_aload_n (i := 0) (j := 0) (dk_Gear_goBack 39 rfl) rfl rfl ?_
  refine g_aload_n (i := 0) (j := 0) (dk_Gear_goBack 40 rfl) rfl rfl ?_
  refine g_getR fl_Gear_29 (Or.inr ⟨_, rfl⟩) (dk_Gear_goBack 41 rfl) (c5.up (hs9.trans hs13)) ?_
  refine g_iload_n (i := 2) (j := 1) (dk_Gear_goBack 42 rfl) rfl rfl ?_
  refine g_iconst (dk_Gear_goBack 43 rfl) (by decide) ?_
  refine g_iadd (dk_Gear_goBack 44 rfl) ?_
  obtain ⟨c14, h⟩ := p_gdE h
  obtain ⟨c15, h⟩ := p_gdE h
  refine g_iaload (dk_Gear_goBack 45 rfl) c14 c15.1 c15.2 ?_
  refine g_putI fl_Gear_63 (Or.inl rfl) (dk_Gear_goBack 46 rfl) (c5.up (hs9.trans hs13)) ?_
  refine p_ltS (P := fun q => p_Go K l m_Gear_goBack 72 [(0, p_r v0), (2, p_i v2)] [] q _) (p_xZ _ _ _ _) ?_ h
  intro s16 hs17 h
  refine g_aload_n (i := 0) (j := 0) (dk_Gear_goBack 47 rfl) rfl rfl ?_
  refine g_aload_n (i := 0) (j := 0) (dk_Gear_goBack 48 rfl) rfl rfl ?_
  refine g_getR fl_Gear_29 (Or.inr ⟨_, rfl⟩) (dk_Gear_goBack 49 rfl) (c5.up (hs9.trans (hs13.trans hs17))) ?_
  refine g_iload_n (i := 2) (j := 1) (dk_Gear_goBack 50 rfl) rfl rfl ?_
  refine g_iconst (dk_Gear_goBack 51 rfl) (by decide) ?_
  refine g_iadd (dk_Gear_goBack 52 rfl) ?_
  obtain ⟨c18, h⟩ := p_gdE h
  obtain ⟨c19, h⟩ := p_gdE h
  refine g_iaload (dk_Gear_goBack 53 rfl) c18 c19.1 c19.2 ?_
  refine g_putI fl_Gear_66 (Or.inl rfl) (dk_Gear_goBack 54 rfl) (c5.up (hs9.trans (hs13.trans hs17))) ?_
  refine p_ltS (P := fun q => p_Go K l m_Gear_goBack 84 [(0, p_r v0), (2, p_i v2)] [] q _) (p_xZ _ _ _ _) ?_ h
  intro s20 hs21 h
  refine g_aload_n (i := 0) (j := 0) (dk_Gear_goBack 55 rfl) rfl rfl ?_
  refine g_aload_n (i := 0) (j := 0) (dk_Gear_goBack 56 rfl) rfl rfl ?_
  refine g_getR fl_Gear_29 (Or.inr ⟨_, rfl⟩) (dk_Gear_goBack 57 rfl) (c5.up (hs9.trans (hs13.trans (hs17.trans hs21)))) ?_
  refine g_iload_n (i := 2) (j := 1) (dk_Gear_goBack 58 rfl) rfl rfl ?_
  refine g_bipush (dk_Gear_goBack 59 rfl) (by decide +kernel) (by decide) ?_
  refine g_iadd (dk_Gear_goBack 60 rfl) ?_
  obtain ⟨c22, h⟩ := p_gdE h
  obtain ⟨c23, h⟩ := p_gdE h
  refine g_iaload (dk_Gear_goBack 61 rfl) c22 c23.1 c23.2 ?_
  refine g_putI fl_Gear_69 (Or.inl rfl) (dk_Gear_goBack 62 rfl) (c5.up (hs9.trans (hs13.trans (hs17.trans hs21)))) ?_
  refine p_ltS (P := fun q => p_Go K l m_Gear_goBack 97 [(0, p_r v0), (2, p_i v2)] [] q _) (p_xZ _ _ _ _) ?_ h
  intro s24 hs25 h
  refine g_aload_n (i := 0) (j := 0) (dk_Gear_goBack 63 rfl) rfl rfl ?_
  refine g_aload_n (i := 0) (j := 0) (dk_Gear_goBack 64 rfl) rfl rfl ?_
  refine g_getR fl_Gear_29 (Or.inr ⟨_, rfl⟩) (dk_Gear_goBack 65 rfl) (c5.up (hs9.trans (hs13.trans (hs17.trans (hs21.trans hs25))))) ?_
  refine g_iload_n (i := 2) (j := 1) (dk_Gear_goBack 66 rfl) rfl rfl ?_
  refine g_bipush (dk_Gear_goBack 67 rfl) (by decide +kernel) (by decide) ?_
  refine g_iadd (dk_Gear_goBack 68 rfl) ?_
  obtain ⟨c26, h⟩ := p_gdE h
  obtain ⟨c27, h⟩ := p_gdE h
  refine g_iaload (dk_Gear_goBack 69 rfl) c26 c27.1 c27.2 ?_
  refine g_putI fl_Gear_72 (Or.inl rfl) (dk_Gear_goBack 70 rfl) (c5.up (hs9.trans (hs13.trans (hs17.trans (hs21.trans hs25))))) ?_
  refine p_ltS (P := fun q => p_Go K l m_Gear_goBack 110 [(0, p_r v0), (2, p_i v2)] [] q _) (p_xZ _ _ _ _) ?_ h
  intro s28 hs29 h
  refine g_aload_n (i := 0) (j := 0) (dk_Gear_goBack 71 rfl) rfl rfl ?_
  refine g_aload_n (i := 0) (j := 0) (dk_Gear_goBack 72 rfl) rfl rfl ?_
  refine g_getR fl_Gear_29 (Or.inr ⟨_, rfl⟩) (dk_Gear_goBack 73 rfl) (c5.up (hs9.trans (hs13.trans (hs17.trans (hs21.trans (hs25.trans hs29)))))) ?_
  refine g_iload_n (i := 2) (j := 1) (dk_Gear_goBack 74 rfl) rfl rfl ?_
  refine g_bipush (dk_Gear_goBack 75 rfl) (by decide +kernel) (by decide) ?_
  refine g_iadd (dk_Gear_goBack 76 rfl) ?_
  obtain ⟨c30, h⟩ := p_gdE h
  obtain ⟨c31, h⟩ := p_gdE h
  refine g_iaload (dk_Gear_goBack 77 rfl) c30 c31.1 c31.2 ?_
  refine g_putI fl_Gear_75 (Or.inl rfl) (dk_Gear_goBack 78 rfl) (c5.up (hs9.trans (hs13.trans (hs17.trans (hs21.trans (hs25.trans hs29)))))) ?_
  refine p_ltS (P := fun q => p_Go K l m_Gear_goBack 123 [(0, p_r v0), (2, p_i v2)] [] q _) (p_xZ _ _ _ _) ?_ h
  intro s32 hs33 h
  refine g_aload_n (i := 0) (j := 0) (dk_Gear_goBack 79 rfl) rfl rfl ?_
  refine g_aload_n (i := 0) (j := 0) (dk_Gear_goBack 80 rfl) rfl rfl ?_
  refine g_getR fl_Gear_29 (Or.inr ⟨_, rfl⟩) (dk_Gear_goBack 81 rfl) (c5.up (hs9.trans (hs13.trans (hs17.trans (hs21.trans (hs25.trans (hs29.trans hs33))))))) ?_
  refine g_iload_n (i := 2) (j := 1) (dk_Gear_goBack 82 rfl) rfl rfl ?_
  refine g_bipush (dk_Gear_goBack 83 rfl) (by decide +kernel) (by decide) ?_
  refine g_iadd (dk_Gear_goBack 84 rfl) ?_
  obtain ⟨c34, h⟩ := p_gdE h
  obtain ⟨c35, h⟩ := p_gdE h
  refine g_iaload (dk_Gear_goBack 85 rfl) c34 c35.1 c35.2 ?_
  refine g_putI fl_Gear_23 (Or.inl rfl) (dk_Gear_goBack 86 rfl) (c5.up (hs9.trans (hs13.trans (hs17.trans (hs21.trans (hs25.trans (hs29.trans hs33))))))) ?_
  refine p_ltS (P := fun q => p_Go K l m_Gear_goBack 136 [(0, p_r v0), (2, p_i v2)] [] q _) (p_xZ _ _ _ _) ?_ h
  intro s36 hs37 h
  refine g_aload_n (i := 0) (j := 0) (dk_Gear_goBack 87 rfl) rfl rfl ?_
  refine g_aload_n (i := 0) (j := 0) (dk_Gear_goBack 88 rfl) rfl rfl ?_
  refine g_getR fl_Gear_29 (Or.inr ⟨_, rfl⟩) (dk_Gear_goBack 89 rfl) (c5.up (hs9.trans (hs13.trans (hs17.trans (hs21.trans (hs25.trans (hs29.trans (hs33.trans hs37)))))))) ?_
  refine g_iload_n (i := 2) (j := 1) (dk_Gear_goBack 90 rfl) rfl rfl ?_
  refine g_bipush (dk_Gear_goBack 91 rfl) (by decide +kernel) (by decide) ?_
  refine g_iadd (dk_Gear_goBack 92 rfl) ?_
  obtain ⟨c38, h⟩ := p_gdE h
  obtain ⟨c39, h⟩ := p_gdE h
  refine g_iaload (dk_Gear_goBack 93 rfl) c38 c39.1 c39.2 ?_
  refine g_putI fl_Gear_78 (Or.inl rfl) (dk_Gear_goBack 94 rfl) (c5.up (hs9.trans (hs13.trans (hs17.trans (hs21.trans (hs25.trans (hs29.trans (hs33.trans hs37)))))))) ?_
  refine p_ltS (P := fun q => p_Go K l m_Gear_goBack 149 [(0, p_r v0), (2, p_i v2)] [] q _) (p_xZ _ _ _ _) ?_ h
  intro s40 hs41 h
  refine g_aload_n (i := 0) (j := 0) (dk_Gear_goBack 95 rfl) rfl rfl ?_
  refine g_getR fl_Gear_26 (Or.inr ⟨_, rfl⟩) (dk_Gear_goBack 96 rfl) (c5.up (hs9.trans (hs13.trans (hs17.trans (hs21.trans (hs25.trans (hs29.trans (hs33.trans (hs37.trans hs41))))))))) ?_
  refine g_iconst (dk_Gear_goBack 97 rfl) (by decide) ?_
  obtain ⟨s42, q43, h⟩ := p_bvE h
  have t44 := tF_Ar_fill_0 K l (p_R s40 v0 17) 0 s40 _ q43
  refine g_callS (av := [p_r (p_R s40 v0 17), p_i 0]) (rest := []) [] mt_Ar_fill_0 tw_3_108 tw_5_119 ⟨Nat.le_of_ble_eq_true rfl, Nat.le_of_ble_eq_true rfl⟩ rfl (Nat.le_of_ble_eq_true rfl) (dk_Gear_goBack 98 rfl) rfl rfl t44 ?_
  have hs45 : p_x s40 s42 := t44.1
  show p_Go K l m_Gear_goBack 157 [(0, p_r v0), (2, p_i v2)] [] s42 _
  cases h
  exact g_ret rfl rfl (dk_Gear_goBack 99 rfl) (fun _ => rfl)
set_option maxRecDepth 100000 in
set_option maxHeartbeats 4000000 in
theorem tF_Gear_goBack (K : p_K) (l : Launch) (v0 : Nat) (v1 : Int) (s0 : p_Hp) (r : p_Hp) (h : F_Gear_goBack v0 v1 s0 = some r) : p_Ct K l m_Gear_goBack [p_r v0, p_i v1] s0 (none, r) := by
  refine p_Ct.of (by decide +kernel) (Nat.le_of_ble_eq_true rfl) ?_
  unfold F_Gear_goBack at h
  show p_Go K l m_Gear_goBack 0 [(0, p_r v0), (1, p_i v1)] [] s0 _
  refine g_bipush (dk_Gear_goBack 0 rfl) (by decide +kernel) (by decide) ?_
  refine g_iload_n (i := 1) (j := 1) (dk_Gear_goBack 1 rfl) rfl rfl ?_
  refine g_imul (dk_Gear_goBack 2 rfl) ?_
  refine g_istore_n (i := 2) [(2, p_i (p_w (11 * v1))), (0, p_r v0), (1, p_i v1)] (dk_Gear_goBack 3 rfl) rfl (by decide) rfl ?_
  refine p_ltG (P := fun q => p_Go K l m_Gear_goBack 5 [(2, p_i q), (0, p_r v0), (1, p_i v1)] [] s0 _) ?_ h
  intro x1 h
  refine g_aload_n (i := 0) (j := 1) (dk_Gear_goBack 4 rfl) rfl rfl ?_
  refine g_aload_n (i := 0) (j := 1) (dk_Gear_goBack 5 rfl) rfl rfl ?_
  obtain ⟨c2, h⟩ := p_gdE h
  refine g_getR fl_Gear_29 (Or.inr ⟨_, rfl⟩) (dk_Gear_goBack 6 rfl) c2 ?_
  refine g_iload_n (i := 2) (j := 0) (dk_Gear_goBack 7 rfl) rfl rfl ?_
  obtain ⟨c3, h⟩ := p_gdE h
  obtain ⟨c4, h⟩ := p_gdE h
  refine g_iaload (dk_Gear_goBack 8 rfl) c3 c4.1 c4.2 ?_
  refine g_putI fl_Gear_50 (Or.inl rfl) (dk_Gear_goBack 9 rfl) c2 ?_
  refine p_ltS (P := fun q => p_Go K l m_Gear_goBack 15 [(2, p_i x1), (0, p_r v0), (1, p_i v1)] [] q _) (p_xZ _ _ _ _) ?_ h
  intro s5 hs6 h
  refine g_aload_n (i := 0) (j := 1) (dk_Gear_goBack 10 rfl) rfl rfl ?_
  refine g_aload_n (i := 0) (j := 1) (dk_Gear_goBack 11 rfl) rfl rfl ?_
  refine g_getR fl_Gear_29 (Or.inr ⟨_, rfl⟩) (dk_Gear_goBack 12 rfl) (c2.up hs6) ?_
  refine g_iload_n (i := 2) (j := 0) (dk_Gear_goBack 13 rfl) rfl rfl ?_
  refine g_iconst (dk_Gear_goBack 14 rfl) (by decide) ?_
  refine g_iadd (dk_Gear_goBack 15 rfl) ?_
  obtain ⟨c7, h⟩ := p_gdE h
  obtain ⟨c8, h⟩ := p_gdE h
  refine g_iaload (dk_Gear_goBack 16 rfl) c7 c8.1 c8.2 ?_
  refine g_iconst (dk_Gear_goBack 17 rfl) (by decide) ?_
  refine g_icmp_ne 32 (dk_Gear_goBack 18 rfl) (by decide) (fun b9 => ?_) (fun b9 => ?_)
  · have h := p_ifT b9 h
    refine g_iconst (dk_Gear_goBack 21 rfl) (by decide) ?_
    refine g_sub [(0, p_r v0), (2, p_i x1)] [1, 0] rfl ?_
    exact tB_Gear_goBack_33 K l v0 x1 0 v0 s5 _ h
  · have h := p_ifF b9 h
    refine g_iconst (dk_Gear_goBack 19 rfl) (by decide) ?_
    refine g_goto 33 (dk_Gear_goBack 20 rfl) (by decide) ?_
    refine g_sub [(0, p_r v0), (2, p_i x1)] [1, 0] rfl ?_
    exact tB_Gear_goBack_33 K l v0 x1 1 v0 s5 _ h
def m_Log_goBack : p_Me := (⟨"SortWorks$Log", "goBack", "(I)V"⟩, prog_4_method_5_code, 2, none, 1, 60)
theorem mt_Log_goBack : p_Mt m_Log_goBack 1 := ⟨p_mem (p_tb5 (List.mem_of_getElem? (i := 127) rfl)) rfl, tw_1_4, by decide +kernel, by decide +kernel, by decide +kernel⟩
def dt_Log_goBack : List (Nat × Instr × Nat) := [(0, .aload_n 0, 1), (1, .aload_n 0, 1), (2, .getfield 9, 3), (5, .iload_n 1, 1), (6, .iaload, 1), (7, .putfield 28, 3), (10, .aload_n 0, 1), (11, .getfield 25, 3), (14, .iload_n 1, 1), (15, .aload_n 0, 1), (16, .getfield 22, 3), (19, .arraylength, 1), (20, .imul, 1), (21, .aload_n 0, 1), (22, .getfield 22, 3), (25, .iconst 0, 1), (26, .aload_n 0, 1), (27, .getfield 22, 3), (30, .arraylength, 1), (31, .invokestatic 31, 3), (34, .return_, 1)]
theorem dk_Log_goBack (i : Nat) {pc : Nat} {ins : Instr} {len : Nat} (h : dt_Log_goBack[i]? = some (pc, ins, len)) : decode m_Log_goBack.2.1 pc = .ok (ins, len) := p_dk (b := m_Log_goBack.2.1) (t := dt_Log_goBack) (by decide +kernel) i h
def F_Log_goBack (v0 : Nat) (v1 : Int) (s0 : p_Hp) : Option p_Hp :=
  p_gd (p_is s0 v0 2) <|
  p_gd (p_is s0 (p_R s0 v0 5) 100) <|
  p_gd ((0 : Int) ≤ v1 ∧ v1 < (p_L s0 (p_R s0 v0 5) : Int)) <|
  p_bi (p_wZ s0 v0 3 (p_Z s0 (p_R s0 v0 5) (v1 : Int).toNat)) fun s4 =>
  p_gd (p_is s4 (p_R s4 v0 2) 100) <|
  p_gd (p_is s4 (p_R s4 v0 4) 100) <|
  p_gd ((0 : Int) ≤ (p_w (v1 * (p_L s4 (p_R s4 v0 2) : Int))) ∧ (0 : Int) ≤ 0 ∧ (0 : Int) ≤ (p_L s4 (p_R s4 v0 2) : Int) ∧ (p_w (v1 * (p_L s4 (p_R s4 v0 2) : Int))) + (p_L s4 (p_R s4 v0 2) : Int) ≤ (p_L s4 (p_R s4 v0 4) : Int) ∧ 0 + (p_L s4 (p_R s4 v0 2) : Int) ≤ (p_L s4 (p_R s4 v0 2) : Int)) <|
  p_bi (p_cp s4 (p_R s4 v0 4) ((p_w (v1 * (p_L s4 (p_R s4 v0 2) : Int))) : Int).toNat (p_R s4 v0 2) (0 : Int).toNat ((p_L s4 (p_R s4 v0 2) : Int) : Int).toNat) fun s9 =>
  some s9
set_option maxRecDepth 100000 in
set_option maxHeartbeats 4000000 in
theorem tF_Log_goBack (K : p_K) (l : Launch) (v0 : Nat) (v1 : Int) (s0 : p_Hp) (r : p_Hp) (h : F_Log_goBack v0 v1 s0 = some r) : p_Ct K l m_Log_goBack [p_r v0, p_i v1] s0 (none, r) := by
  refine p_Ct.of (by decide +kernel) (Nat.le_of_ble_eq_true rfl) ?_
  unfold F_Log_goBack at h
  show p_Go K l m_Log_goBack 0 [(0, p_r v0), (1, p_i v1)] [] s0 _
  refine g_aload_n (i := 0) (j := 0) (dk_Log_goBack 0 rfl) rfl rfl ?_
  refine g_aload_n (i := 0) (j := 0) (dk_Log_goBack 1 rfl) rfl rfl ?_
  obtain ⟨c1, h⟩ := p_gdE h
  refine g_getR fl_Log_9 (Or.inr ⟨_, rfl⟩) (dk_Log_goBack 2 rfl) c1 ?_
  refine g_iload_n (i := 1) (j := 1) (dk_Log_goBack 3 rfl) rfl rfl ?_
  obtain ⟨c2, h⟩ := p_gdE h
  obtain ⟨c3, h⟩ := p_gdE h
  refine g_iaload (dk_Log_goBack 4 rfl) c2 c3.1 c3.2 ?_
  refine g_putI fl_Log_28 (Or.inl rfl) (dk_Log_goBack 5 rfl) c1 ?_
  refine p_ltS (P := fun q => p_Go K l m_Log_goBack 10 [(0, p_r v0), (1, p_i v1)] [] q _) (p_xZ _ _ _ _) ?_ h
  intro s4 hs5 h
  refine g_aload_n (i := 0) (j := 0) (dk_Log_goBack 6 rfl) rfl rfl ?_
  refine g_getR fl_Log_25 (Or.inr ⟨_, rfl⟩) (dk_Log_goBack 7 rfl) (c1.up hs5) ?_
  refine g_iload_n (i := 1) (j := 1) (dk_Log_goBack 8 rfl) rfl rfl ?_
  refine g_aload_n (i := 0) (j := 0) (dk_Log_goBack 9 rfl) rfl rfl ?_
  refine g_getR fl_Log_22 (Or.inr ⟨_, rfl⟩) (dk_Log_goBack 10 rfl) (c1.up hs5) ?_
  obtain ⟨c6, h⟩ := p_gdE h
  refine g_alen (i := 0) rfl (dk_Log_goBack 11 rfl) c6 ?_
  refine g_imul (dk_Log_goBack 12 rfl) ?_
  refine g_aload_n (i := 0) (j := 0) (dk_Log_goBack 13 rfl) rfl rfl ?_
  refine g_getR fl_Log_22 (Or.inr ⟨_, rfl⟩) (dk_Log_goBack 14 rfl) (c1.up hs5) ?_
  refine g_iconst (dk_Log_goBack 15 rfl) (by decide) ?_
  refine g_aload_n (i := 0) (j := 0) (dk_Log_goBack 16 rfl) rfl rfl ?_
  refine g_getR fl_Log_22 (Or.inr ⟨_, rfl⟩) (dk_Log_goBack 17 rfl) (c1.up hs5) ?_
  refine g_alen (i := 0) rfl (dk_Log_goBack 18 rfl) c6 ?_
  obtain ⟨c7, h⟩ := p_gdE h
  obtain ⟨c8, h⟩ := p_gdE h
  refine g_arraycopy tw_4_157 tw_3_169 tw_3_168 tw_1_14 (dk_Log_goBack 19 rfl) (Nat.le_of_ble_eq_true rfl) (Nat.le_of_ble_eq_true rfl) c7 c6 c8.1 c8.2.1 c8.2.2.1 c8.2.2.2.1 c8.2.2.2.2 ?_
  refine p_ltS (P := fun q => p_Go K l m_Log_goBack 34 [(0, p_r v0), (1, p_i v1)] [] q _) (p_xC _ _ _ _ _ _) ?_ h
  intro s9 hs10 h
  cases h
  exact g_ret rfl rfl (dk_Log_goBack 20 rfl) (fun _ => rfl)
def m_Parcel_goBack : p_Me := (⟨"SortWorks$Parcel", "goBack", "(I)V"⟩, prog_6_method_3_code, 3, none, 1, 60)
theorem mt_Parcel_goBack : p_Mt m_Parcel_goBack 1 := ⟨p_mem (p_tb5 (List.mem_of_getElem? (i := 123) rfl)) rfl, tw_1_6, by decide +kernel, by decide +kernel, by decide +kernel⟩
def dt_Parcel_goBack : List (Nat × Instr × Nat) := [(0, .bipush 37, 2), (2, .iload_n 1, 1), (3, .imul, 1), (4, .istore_n 2, 1), (5, .aload_n 0, 1), (6, .aload_n 0, 1), (7, .getfield 18, 3), (10, .iload_n 2, 1), (11, .iaload, 1), (12, .putfield 25, 3), (15, .aload_n 0, 1), (16, .getfield 25, 3), (19, .ifCond .ne 4, 3), (22, .return_, 1), (23, .aload_n 0, 1), (24, .aload_n 0, 1), (25, .getfield 18, 3), (28, .iload_n 2, 1), (29, .iconst 1, 1), (30, .iadd, 1), (31, .iaload, 1), (32, .putfield 28, 3), (35, .aload_n 0, 1), (36, .aload_n 0, 1), (37, .getfield 18, 3), (40, .iload_n 2, 1), (41, .iconst 2, 1), (42, .iadd, 1), (43, .iaload, 1), (44, .putfield 31, 3), (47, .aload_n 0, 1), (48, .aload_n 0, 1), (49, .getfield 18, 3), (52, .iload_n 2, 1), (53, .iconst 3, 1), (54, .iadd, 1), (55, .iaload, 1), (56, .putfield 34, 3), (59, .aload_n 0, 1), (60, .aload_n 0, 1), (61, .getfield 18, 3), (64, .iload_n 2, 1), (65, .iconst 4, 1), (66, .iadd, 1), (67, .iaload, 1), (68, .putfield 37, 3), (71, .aload_n 0, 1), (72, .aload_n 0, 1), (73, .getfield 18, 3), (76, .iload_n 2, 1), (77, .iconst 5, 1), (78, .iadd, 1), (79, .iaload, 1), (80, .putfield 40, 3), (83, .aload_n 0, 1), (84, .aload_n 0, 1), (85, .getfield 18, 3), (88, .iload_n 2, 1), (89, .bipush 6, 2), (91, .iadd, 1), (92, .iaload, 1), (93, .iconst 1, 1), (94, .if_icmp .ne 7, 3), (97, .iconst 1, 1), (98, .goto 4, 3), (101, .iconst 0, 1), (102, .putfield 43, 3), (105, .aload_n 0, 1), (106, .aload_n 0, 1), (107, .getfield 18, 3), (110, .iload_n 2, 1), (111, .bipush 7, 2), (113, .iadd, 1), (114, .iaload, 1), (115, .putfield 47, 3), (118, .aload_n 0, 1), (119, .aload_n 0, 1), (120, .getfield 18, 3), (123, .iload_n 2, 1), (124, .bipush 8, 2), (126, .iadd, 1), (127, .iaload, 1), (128, .putfield 50, 3), (131, .aload_n 0, 1), (132, .getfield 18, 3), (135, .iload_n 2, 1), (136, .bipush 9, 2), (138, .iadd, 1), (139, .aload_n 0, 1), (140, .getfield 11, 3), (143, .iconst 0, 1), (144, .bipush 16, 2), (146, .invokestatic 53, 3), (149, .aload_n 0, 1), (150, .getfield 18, 3), (153, .iload_n 2, 1), (154, .bipush 25, 2), (156, .iadd, 1), (157, .aload_n 0, 1), (158, .getfield 15, 3), (161, .iconst 0, 1), (162, .bipush 12, 2), (164, .invokestatic 53, 3), (167, .return_, 1)]
theorem dk_Parcel_goBack (i : Nat) {pc : Nat} {ins : Instr} {len : Nat} (h : dt_Parcel_goBack[i]? = some (pc, ins, len)) : decode m_Parcel_goBack.2.1 pc = .ok (ins, len) := p_dk (b := m_Parcel_goBack.2.1) (t := dt_Parcel_goBack) (by decide +kernel) i h
def B_Parcel_goBack_102  (v0 : Nat) (v2 : Int) (w0 : Int) (w1 : Nat) (s0 : p_Hp) : Option p_Hp :=
  p_gd (p_is s0 w1 4) <|
  p_gd (w0 = 0 ∨ w0 = 1) <|
  p_bi (p_wZ s0 w1 7 w0) fun s3 =>
  p_gd (p_is s3 v0 4) <|
  p_gd (p_is s3 (p_R s3 v0 13) 100) <|
  p_gd ((0 : Int) ≤ (p_w (v2 + 7)) ∧ (p_w (v2 + 7)) < (p_L s3 (p_R s3 v0 13) : Int)) <|
  p_bi (p_wZ s3 v0 9 (p_Z s3 (p_R s3 v0 13) ((p_w (v2 + 7)) : Int).toNat)) fun s8 =>
  p_gd (p_is s8 (p_R s8 v0 13) 100) <|
  p_gd ((0 : Int) ≤ (p_w (v2 + 8)) ∧ (p_w (v2 + 8)) < (p_L s8 (p_R s8 v0 13) : Int)) <|
  p_bi (p_wZ s8 v0 11 (p_Z s8 (p_R s8 v0 13) ((p_w (v2 + 8)) : Int).toNat)) fun s12 =>
  p_gd (p_is s12 (p_R s12 v0 13) 100) <|
  p_gd (p_is s12 (p_R s12 v0 10) 100) <|
  p_gd ((0 : Int) ≤ (p_w (v2 + 9)) ∧ (0 : Int) ≤ 0 ∧ (0 : Int) ≤ 16 ∧ (p_w (v2 + 9)) + 16 ≤ (p_L s12 (p_R s12 v0 13) : Int) ∧ 0 + 16 ≤ (p_L s12 (p_R s12 v0 10) : Int)) <|
  p_bi (p_cp s12 (p_R s12 v0 13) ((p_w (v2 + 9)) : Int).toNat (p_R s12 v0 10) (0 : Int).toNat (16 : Int).toNat) fun s17 =>
  p_gd (p_is s17 (p_R s17 v0 13) 100) <|
  p_gd (p_is s17 (p_R s17 v0 12) 100) <|
  p_gd ((0 : Int) ≤ (p_w (v2 + 25)) ∧ (0 : Int) ≤ 0 ∧ (0 : Int) ≤ 12 ∧ (p_w (v2 + 25)) + 12 ≤ (p_L s17 (p_R s17 v0 13) : Int) ∧ 0 + 12 ≤ (p_L s17 (p_R s17 v0 12) : Int)) <|
  p_bi (p_cp s17 (p_R s17 v0 13) ((p_w (v2 + 25)) : Int).toNat (p_R s17 v0 12) (0 : Int).toNat (12 : Int).toNat) fun s22 =>
  some s22
def F_Parcel_goBack (v0 : Nat) (v1 : Int) (s0 : p_Hp) : Option p_Hp :=
  p_bi ((p_w (37 * v1))) fun x1 =>
  p_gd (p_is s0 v0 4) <|
  p_gd (p_is s0 (p_R s0 v0 13) 100) <|
  p_gd ((0 : Int) ≤ x1 ∧ x1 < (p_L s0 (p_R s0 v0 13) : Int)) <|
  p_bi (p_wZ s0 v0 1 (p_Z s0 (p_R s0 v0 13) (x1 : Int).toNat)) fun s5 =>
  if (p_Z s5 v0 1) ≠ 0 then
    p_gd (p_is s5 (p_R s5 v0 13) 100) <|
    p_gd ((0 : Int) ≤ (p_w (x1 + 1)) ∧ (p_w (x1 + 1)) < (p_L s5 (p_R s5 v0 13) : Int)) <|
    p_bi (p_wZ s5 v0 2 (p_Z s5 (p_R s5 v0 13) ((p_w (x1 + 1)) : Int).toNat)) fun s10 =>
    p_gd (p_is s10 (p_R s10 v0 13) 100) <|
    p_gd ((0 : Int) ≤ (p_w (x1 + 2)) ∧ (p_w (x1 + 2)) < (p_L s10 (p_R s10 v0 13) : Int)) <|
    p_bi (p_wZ s10 v0 3 (p_Z s10 (p_R s10 v0 13) ((p_w (x1 + 2)) : Int).toNat)) fun s14 =>
    p_gd (p_is s14 (p_R s14 v0 13) 100) <|
    p_gd ((0 : Int) ≤ (p_w (x1 + 3)) ∧ (p_w (x1 + 3)) < (p_L s14 (p_R s14 v0 13) : Int)) <|
    p_bi (p_wZ s14 v0 4 (p_Z s14 (p_R s14 v0 13) ((p_w (x1 + 3)) : Int).toNat)) fun s18 =>
    p_gd (p_is s18 (p_R s18 v0 13) 100) <|
    p_gd ((0 : Int) ≤ (p_w (x1 + 4)) ∧ (p_w (x1 + 4)) < (p_L s18 (p_R s18 v0 13) : Int)) <|
    p_bi (p_wZ s18 v0 5 (p_Z s18 (p_R s18 v0 13) ((p_w (x1 + 4)) : Int).toNat)) fun s22 =>
    p_gd (p_is s22 (p_R s22 v0 13) 100) <|
    p_gd ((0 : Int) ≤ (p_w (x1 + 5)) ∧ (p_w (x1 + 5)) < (p_L s22 (p_R s22 v0 13) : Int)) <|
    p_bi (p_wZ s22 v0 6 (p_Z s22 (p_R s22 v0 13) ((p_w (x1 + 5)) : Int).toNat)) fun s26 =>
    p_gd (p_is s26 (p_R s26 v0 13) 100) <|
    p_gd ((0 : Int) ≤ (p_w (x1 + 6)) ∧ (p_w (x1 + 6)) < (p_L s26 (p_R s26 v0 13) : Int)) <|
    if (p_Z s26 (p_R s26 v0 13) ((p_w (x1 + 6)) : Int).toNat) ≠ 1 then
      B_Parcel_goBack_102 v0 x1 0 v0 s26
    else
      B_Parcel_goBack_102 v0 x1 1 v0 s26
  else
    some s5
set_option maxRecDepth 100000 in
set_option maxHeartbeats 4000000 in
theorem tB_Parcel_goBack_102 (K : p_K) (l : Launch)  (v0 : Nat) (v2 : Int) (w0 : Int) (w1 : Nat) (s0 : p_Hp) (r : p_Hp) (h : B_Parcel_goBack_102 v0 v2 w0 w1 s0 = some r) : p_Go K l m_Parcel_goBack 102 [(0, p_r v0), (2, p_i v2)] [p_i w0, p_r w1] s0 (none, r) := by
  unfold B_Parcel_goBack_102 at h
  obtain ⟨c1, h⟩ := p_gdE h
  obtain ⟨c2, h⟩ := p_gdE h
  refine g_putB fl_Parcel_43 (Or.inl rfl) (dk_Parcel_goBack 66 rfl) c1 c2 ?_
  refine p_ltS (P := fun q => p_Go K l m_Parcel_goBack 105 [(0, p_r v0), (2, p_i v2)] [] q _) (p_xZ _ _ _ _) ?_ h
  intro s3 hs4 h
  refine g_aload_n (i := 0) (j := 0) (dk_Parcel_goBack 67 rfl) rfl rfl ?_
  refine g_aload_n (i := 0) (j := 0) (dk_Parcel_goBack 68 rfl) rfl rfl ?_
  obtain ⟨c5, h⟩ := p_gdE h
  refine g_getR fl_Parcel_18 (Or.inr ⟨_, rfl⟩) (dk_Parcel_goBack 69 rfl) c5 ?_
  refine g_iload_n (i := 2) (j := 1) (dk_Parcel_goBack 70 rfl) rfl rfl ?_
  refine g_bipush (dk_Parcel_goBack 71 rfl) (by decide +kernel) (by decide) ?_
  refine g_iadd (dk_Parcel_goBack 72 rfl) ?_
  obtain ⟨c6, h⟩ := p_gdE h
  obtain ⟨c7, h⟩ := p_gdE h
  refine g_iaload (dk_Parcel_goBack 73 rfl) c6 c7.1 c7.2 ?_
  refine g_putI fl_Parcel_47 (Or.inl rfl) (dk_Parcel_goBack 74 rfl) c5 ?_
  refine p_ltS (P := fun q => p_Go K l m_Parcel_goBack 118 [(0, p_r v0), (2, p_i v2)] [] q _) (p_xZ _ _ _ _) ?_ h
  intro s8 hs9 h
  refine g_aload_n (i := 0) (j := 0) (dk_Parcel_goBack 75 rfl) rfl rfl ?_
  refine g_aload_n (i := 0) (j := 0) (dk_Parcel_goBack 76 rfl) rfl rfl ?_
  refine g_getR fl_Parcel_18 (Or.inr ⟨_, rfl⟩) (dk_Parcel_goBack 77 rfl) (c5.up hs9) ?_
  refine g_iload_n (i := 2) (j := 1) (dk_Parcel_goBack 78 rfl) rfl rfl ?_
  refine g_bipush (dk_Parcel_goBack 79 rfl) (by decide +kernel) (by decide) ?_
  refine g_iadd (dk_Parcel_goBack 80 rfl) ?_
  obtain ⟨c10, h⟩ := p_gdE h
  obtain ⟨c11, h⟩ := p_gdE h
  refine g_iaload (dk_Parcel_goBack 81 rfl) c10 c11.1 c11.2 ?_
  refine g_putI fl_Parcel_50 (Or.inl rfl) (dk_Parcel_goBack 82 rfl) (c5.up hs9) ?_
  refine p_ltS (P := fun q => p_Go K l m_Parcel_goBack 131 [(0, p_r v0), (2, p_i v2)] [] q _) (p_xZ _ _ _ _) ?_ h
  intro s12 hs13 h
  refine g_aload_n (i := 0) (j := 0) (dk_Parcel_goBack 83 rfl) rfl rfl ?_
  refine g_getR fl_Parcel_18 (Or.inr ⟨_, rfl⟩) (dk_Parcel_goBack 84 rfl) (c5.up (hs9.trans hs13)) ?_
  refine g_iload_n (i := 2) (j := 1) (dk_Parcel_goBack 85 rfl) rfl rfl ?_
  refine g_bipush (dk_Parcel_goBack 86 rfl) (by decide +kernel) (by decide) ?_
  refine g_iadd (dk_Parcel_goBack 87 rfl) ?_
  refine g_aload_n (i := 0) (j := 0) (dk_Parcel_goBack 88 rfl) rfl rfl ?_
  refine g_getR fl_Parcel_11 (Or.inr ⟨_, rfl⟩) (dk_Parcel_goBack 89 rfl) (c5.up (hs9.trans hs13)) ?_
  refine g_iconst (dk_Parcel_goBack 90 rfl) (by decide) ?_
  refine g_bipush (dk_Parcel_goBack 91 rfl) (by decide +kernel) (by decide) ?_
  obtain ⟨c14, h⟩ := p_gdE h
  obtain ⟨c15, h⟩ := p_gdE h
  obtain ⟨c16, h⟩ := p_gdE h
  refine g_arraycopy tw_4_152 tw_3_169 tw_3_168 tw_1_14 (dk_Parcel_goBack 92 rfl) (Nat.le_of_ble_eq_true rfl) (Nat.le_of_ble_eq_true rfl) c14 c15 c16.1 c16.2.1 c16.2.2.1 c16.2.2.2.1 c16.2.2.2.2 ?_
  refine p_ltS (P := fun q => p_Go K l m_Parcel_goBack 149 [(0, p_r v0), (2, p_i v2)] [] q _) (p_xC _ _ _ _ _ _) ?_ h
  intro s17 hs18 h
  refine g_aload_n (i := 0) (j := 0) (dk_Parcel_goBack 93 rfl) rfl rfl ?_
  refine g_getR fl_Parcel_18 (Or.inr ⟨_, rfl⟩) (dk_Parcel_goBack 94 rfl) (c5.up (hs9.trans (hs13.trans hs18))) ?_
  refine g_iload_n (i := 2) (j := 1) (dk_Parcel_goBack 95 rfl) rfl rfl ?_
  refine g_bipush (dk_Parcel_goBack 96 rfl) (by decide +kernel) (by decide) ?_
  refine g_iadd (dk_Parcel_goBack 97 rfl) ?_
  refine g_aload_n (i := 0) (j := 0) (dk_Parcel_goBack 98 rfl) rfl rfl ?_
  refine g_getR fl_Parcel_15 (Or.inr ⟨_, rfl⟩) (dk_Parcel_goBack 99 rfl) (c5.up (hs9.trans (hs13.trans hs18))) ?_
  refine g_iconst (dk_Parcel_goBack 100 rfl) (by decide) ?_
  refine g_bipush (dk_Parcel_goBack 101 rfl) (by decide +kernel) (by decide) ?_
  obtain ⟨c19, h⟩ := p_gdE h
  obtain ⟨c20, h⟩ := p_gdE h
  obtain ⟨c21, h⟩ := p_gdE h
  refine g_arraycopy tw_4_152 tw_3_169 tw_3_168 tw_1_14 (dk_Parcel_goBack 102 rfl) (Nat.le_of_ble_eq_true rfl) (Nat.le_of_ble_eq_true rfl) c19 c20 c21.1 c21.2.1 c21.2.2.1 c21.2.2.2.1 c21.2.2.2.2 ?_
  refine p_ltS (P := fun q => p_Go K l m_Parcel_goBack 167 [(0, p_r v0), (2, p_i v2)] [] q _) (p_xC _ _ _ _ _ _) ?_ h
  intro s22 hs23 h
  cases h
  exact g_ret rfl rfl (dk_Parcel_goBack 103 rfl) (fun _ => rfl)
set_option maxRecDepth 100000 in
set_option maxHeartbeats 4000000 in
theorem tF_Parcel_goBack (K : p_K) (l : Launch) (v0 : Nat) (v1 : Int) (s0 : p_Hp) (r : p_Hp) (h : F_Parcel_goBack v0 v1 s0 = some r) : p_Ct K l m_Parcel_goBack [p_r v0, p_i v1] s0 (none, r) := by
  refine p_Ct.of (by decide +kernel) (Nat.le_of_ble_eq_true rfl) ?_
  unfold F_Parcel_goBack at h
  show p_Go K l m_Parcel_goBack 0 [(0, p_r v0), (1, p_i v1)] [] s0 _
  refine g_bipush (dk_Parcel_goBack 0 rfl) (by decide +kernel) (by decide) ?_
  refine g_iload_n (i := 1) (j := 1) (dk_Parcel_goBack 1 rfl) rfl rfl ?_
  refine g_imul (dk_Parcel_goBack 2 rfl) ?_
  refine g_istore_n (i := 2) [(2, p_i (p_w (37 * v1))), (0, p_r v0), (1, p_i v1)] (dk_Parcel_goBack 3 rfl) rfl (by decide) rfl ?_
  refine p_ltG (P := fun q => p_Go K l m_Parcel_goBack 5 [(2, p_i q), (0, p_r v0), (1, p_i v1)] [] s0 _) ?_ h
  intro x1 h
  refine g_aload_n (i := 0) (j := 1) (dk_Parcel_goBack 4 rfl) rfl rfl ?_
  refine g_aload_n (i := 0) (j := 1) (dk_Parcel_goBack 5 rfl) rfl rfl ?_
  obtain ⟨c2, h⟩ := p_gdE h
  refine g_getR fl_Parcel_18 (Or.inr ⟨_, rfl⟩) (dk_Parcel_goBack 6 rfl) c2 ?_
  refine g_iload_n (i := 2) (j := 0) (dk_Parcel_goBack 7 rfl) rfl rfl ?_
  obtain ⟨c3, h⟩ := p_gdE h
  obtain ⟨c4, h⟩ := p_gdE h
  refine g_iaload (dk_Parcel_goBack 8 rfl) c3 c4.1 c4.2 ?_
  refine g_putI fl_Parcel_25 (Or.inl rfl) (dk_Parcel_goBack 9 rfl) c2 ?_
  refine p_ltS (P := fun q => p_Go K l m_Parcel_goBack 15 [(2, p_i x1), (0, p_r v0), (1, p_i v1)] [] q _) (p_xZ _ _ _ _) ?_ h
  intro s5 hs6 h
  refine g_aload_n (i := 0) (j := 1) (dk_Parcel_goBack 10 rfl) rfl rfl ?_
  refine g_getI fl_Parcel_25 (Or.inl rfl) (dk_Parcel_goBack 11 rfl) (c2.up hs6) ?_
  refine g_if_ne 23 (dk_Parcel_goBack 12 rfl) (by decide) (fun b7 => ?_) (fun b7 => ?_)
  · have h := p_ifT b7 h
    refine g_aload_n (i := 0) (j := 1) (dk_Parcel_goBack 14 rfl) rfl rfl ?_
    refine g_aload_n (i := 0) (j := 1) (dk_Parcel_goBack 15 rfl) rfl rfl ?_
    refine g_getR fl_Parcel_18 (Or.inr ⟨_, rfl⟩) (dk_Parcel_goBack 16 rfl) (c2.up hs6) ?_
    refine g_iload_n (i := 2) (j := 0) (dk_Parcel_goBack 17 rfl) rfl rfl ?_
    refine g_iconst (dk_Parcel_goBack 18 rfl) (by decide) ?_
    refine g_iadd (dk_Parcel_goBack 19 rfl) ?_
    obtain ⟨c8, h⟩ := p_gdE h
    obtain ⟨c9, h⟩ := p_gdE h
    refine g_iaload (dk_Parcel_goBack 20 rfl) c8 c9.1 c9.2 ?_
    refine g_putI fl_Parcel_28 (Or.inl rfl) (dk_Parcel_goBack 21 rfl) (c2.up hs6) ?_
    refine p_ltS (P := fun q => p_Go K l m_Parcel_goBack 35 [(2, p_i x1), (0, p_r v0), (1, p_i v1)] [] q _) (p_xZ _ _ _ _) ?_ h
    intro s10 hs11 h
    refine g_aload_n (i := 0) (j := 1) (dk_Parcel_goBack 22 rfl) rfl rfl ?_
    refine g_aload_n (i := 0) (j := 1) (dk_Parcel_goBack 23 rfl) rfl rfl ?_
    refine g_getR fl_Parcel_18 (Or.inr ⟨_, rfl⟩) (dk_Parcel_goBack 24 rfl) (c2.up (hs6.trans hs11)) ?_
    refine g_iload_n (i := 2) (j := 0) (dk_Parcel_goBack 25 rfl) rfl rfl ?_
    refine g_iconst (dk_Parcel_goBack 26 rfl) (by decide) ?_
    refine g_iadd (dk_Parcel_goBack 27 rfl) ?_
    obtain ⟨c12, h⟩ := p_gdE h
    obtain ⟨c13, h⟩ := p_gdE h
    refine g_iaload (dk_Parcel_goBack 28 rfl) c12 c13.1 c13.2 ?_
    refine g_putI fl_Parcel_31 (Or.inl rfl) (dk_Parcel_goBack 29 rfl) (c2.up (hs6.trans hs11)) ?_
    refine p_ltS (P := fun q => p_Go K l m_Parcel_goBack 47 [(2, p_i x1), (0, p_r v0), (1, p_i v1)] [] q _) (p_xZ _ _ _ _) ?_ h
    intro s14 hs15 h
    refine g_aload_n (i := 0) (j := 1) (dk_Parcel_goBack 30 rfl) rfl rfl ?_
    refine g_aload_n (i := 0) (j := 1) (dk_Parcel_goBack 31 rfl) rfl rfl ?_
    refine g_getR fl_Parcel_18 (Or.inr ⟨_, rfl⟩) (dk_Parcel_goBack 32 rfl) (c2.up (hs6.trans (hs11.trans hs15))) ?_
    refine g_iload_n (i := 2) (j := 0) (dk_Parcel_goBack 33 rfl) rfl rfl ?_
    refine g_iconst (dk_Parcel_goBack 34 rfl) (by decide) ?_
    refine g_iadd (dk_Parcel_goBack 35 rfl) ?_
    obtain ⟨c16, h⟩ := p_gdE h
    obtain ⟨c17, h⟩ := p_gdE h
    refine g_iaload (dk_Parcel_goBack 36 rfl) c16 c17.1 c17.2 ?_
    refine g_putI fl_Parcel_34 (Or.inl rfl) (dk_Parcel_goBack 37 rfl) (c2.up (hs6.trans (hs11.trans hs15))) ?_
    refine p_ltS (P := fun q => p_Go K l m_Parcel_goBack 59 [(2, p_i x1), (0, p_r v0), (1, p_i v1)] [] q _) (p_xZ _ _ _ _) ?_ h
    intro s18 hs19 h
    refine g_aload_n (i := 0) (j := 1) (dk_Parcel_goBack 38 rfl) rfl rfl ?_
    refine g_aload_n (i := 0) (j := 1) (dk_Parcel_goBack 39 rfl) rfl rfl ?_
    refine g_getR fl_Parcel_18 (Or.inr ⟨_, rfl⟩) (dk_Parcel_goBack 40 rfl) (c2.up (hs6.trans (hs11.trans (hs15.trans hs19)))) ?_
    refine g_iload_n (i := 2) (j := 0) (dk_Parcel_goBack 41 rfl) rfl rfl ?_
    refine g_iconst (dk_Parcel_goBack 42 rfl) (by decide) ?_
    refine g_iadd (dk_Parcel_goBack 43 rfl) ?_
    obtain ⟨c20, h⟩ := p_gdE h
    obtain ⟨c21, h⟩ := p_gdE h
    refine g_iaload (dk_Parcel_goBack 44 rfl) c20 c21.1 c21.2 ?_
    refine g_putI fl_Parcel_37 (Or.inl rfl) (dk_Parcel_goBack 45 rfl) (c2.up (hs6.trans (hs11.trans (hs15.trans hs19)))) ?_
    refine p_ltS (P := fun q => p_Go K l m_Parcel_goBack 71 [(2, p_i x1), (0, p_r v0), (1, p_i v1)] [] q _) (p_xZ _ _ _ _) ?_ h
    intro s22 hs23 h
    refine g_aload_n (i := 0) (j := 1) (dk_Parcel_goBack 46 rfl) rfl rfl ?_
    refine g_aload_n (i := 0) (j := 1) (dk_Parcel_goBack 47 rfl) rfl rfl ?_
    refine g_getR fl_Parcel_18 (Or.inr ⟨_, rfl⟩) (dk_Parcel_goBack 48 rfl) (c2.up (hs6.trans (hs11.trans (hs15.trans (hs19.trans hs23))))) ?_
    refine g_iload_n (i := 2) (j := 0) (dk_Parcel_goBack 49 rfl) rfl rfl ?_
    refine g_iconst (dk_Parcel_goBack 50 rfl) (by decide) ?_
    refine g_iadd (dk_Parcel_goBack 51 rfl) ?_
    obtain ⟨c24, h⟩ := p_gdE h
    obtain ⟨c25, h⟩ := p_gdE h
    refine g_iaload (dk_Parcel_goBack 52 rfl) c24 c25.1 c25.2 ?_
    refine g_putI fl_Parcel_40 (Or.inl rfl) (dk_Parcel_goBack 53 rfl) (c2.up (hs6.trans (hs11.trans (hs15.trans (hs19.trans hs23))))) ?_
    refine p_ltS (P := fun q => p_Go K l m_Parcel_goBack 83 [(2, p_i x1), (0, p_r v0), (1, p_i v1)] [] q _) (p_xZ _ _ _ _) ?_ h
    intro s26 hs27 h
    refine g_aload_n (i := 0) (j := 1) (dk_Parcel_goBack 54 rfl) rfl rfl ?_
    refine g_aload_n (i := 0) (j := 1) (dk_Parcel_goBack 55 rfl) rfl rfl ?_
    refine g_getR fl_Parcel_18 (Or.inr ⟨_, rfl⟩) (dk_Parcel_goBack 56 rfl) (c2.up (hs6.trans (hs11.trans (hs15.trans (hs19.trans (hs23.trans hs27)))))) ?_
    refine g_iload_n (i := 2) (j := 0) (dk_Parcel_goBack 57 rfl) rfl rfl ?_
    refine g_bipush (dk_Parcel_goBack 58 rfl) (by decide +kernel) (by decide) ?_
    refine g_iadd (dk_Parcel_goBack 59 rfl) ?_
    obtain ⟨c28, h⟩ := p_gdE h
    obtain ⟨c29, h⟩ := p_gdE h
    refine g_iaload (dk_Parcel_goBack 60 rfl) c28 c29.1 c29.2 ?_
    refine g_iconst (dk_Parcel_goBack 61 rfl) (by decide) ?_
    refine g_icmp_ne 101 (dk_Parcel_goBack 62 rfl) (by decide) (fun b30 => ?_) (fun b30 => ?_)
    · have h := p_ifT b30 h
      refine g_iconst (dk_Parcel_goBack 65 rfl) (by decide) ?_
      refine g_sub [(0, p_r v0), (2, p_i x1)] [1, 0] rfl ?_
      exact tB_Parcel_goBack_102 K l v0 x1 0 v0 s26 _ h
    · have h := p_ifF b30 h
      refine g_iconst (dk_Parcel_goBack 63 rfl) (by decide) ?_
      refine g_goto 102 (dk_Parcel_goBack 64 rfl) (by decide) ?_
      refine g_sub [(0, p_r v0), (2, p_i x1)] [1, 0] rfl ?_
      exact tB_Parcel_goBack_102 K l v0 x1 1 v0 s26 _ h
  · have h := p_ifF b7 h
    cases h
    exact g_ret rfl rfl (dk_Parcel_goBack 13 rfl) (fun _ => rfl)
