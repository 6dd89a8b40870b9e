def m_Step_isBetter : p_Me := (⟨"SortWorks$Step", "isBetter", "(ILSortWorks$Gear;)Z"⟩, prog_10_method_12_code, 5, (some .boolean), 0, 0)
theorem mt_Step_isBetter : p_Mt m_Step_isBetter 2 := ⟨p_mem (p_tb4 (List.mem_of_getElem? (i := 214) rfl)) rfl, tw_1_9, by decide +kernel, by decide +kernel, by decide +kernel⟩
def dt_Step_isBetter : List (Nat × Instr × Nat) := [(0, .aload_n 2, 1), (1, .getfield 161, 3), (4, .iconst (-1), 1), (5, .if_icmp .ne 5, 3), (8, .iconst 1, 1), (9, .ireturn, 1), (10, .aload_n 0, 1), (11, .getfield 28, 3), (14, .getfield 82, 3), (17, .iload_n 1, 1), (18, .aaload, 1), (19, .getfield 188, 3), (22, .istore_n 3, 1), (23, .aload_n 0, 1), (24, .getfield 28, 3), (27, .getfield 82, 3), (30, .aload_n 2, 1), (31, .getfield 161, 3), (34, .aaload, 1), (35, .getfield 188, 3), (38, .istore 4, 2), (40, .iload_n 3, 1), (41, .iload 4, 2), (43, .if_icmp .gt 28, 3), (46, .iload_n 3, 1), (47, .iload 4, 2), (49, .if_icmp .ne 26, 3), (52, .aload_n 2, 1), (53, .getfield 161, 3), (56, .aload_n 2, 1), (57, .getfield 191, 3), (60, .if_icmp .gt 15, 3), (63, .iload_n 1, 1), (64, .aload_n 2, 1), (65, .getfield 191, 3), (68, .if_icmp .le 7, 3), (71, .iconst 1, 1), (72, .goto 4, 3), (75, .iconst 0, 1), (76, .ireturn, 1)]
theorem dk_Step_isBetter (i : Nat) {pc : Nat} {ins : Instr} {len : Nat} (h : dt_Step_isBetter[i]? = some (pc, ins, len)) : decode m_Step_isBetter.2.1 pc = .ok (ins, len) := p_dk (b := m_Step_isBetter.2.1) (t := dt_Step_isBetter) (by decide +kernel) i h
def B_Step_isBetter_71   (s0 : p_Hp) : Option (Int × p_Hp) :=
  some (1, s0)
def F_Step_isBetter (v0 : Nat) (v1 : Int) (v2 : Nat) (s0 : p_Hp) : Option (Int × p_Hp) :=
  p_gd (p_is s0 v2 0) <|
  if (p_Z s0 v2 18) ≠ (-1) then
    p_gd (p_is s0 v0 8) <|
    p_gd (p_is s0 (p_R s0 v0 3) 7) <|
    p_gd (p_is s0 (p_R s0 (p_R s0 v0 3) 4) 105) <|
    p_gd ((0 : Int) ≤ v1 ∧ v1 < (p_L s0 (p_R s0 (p_R s0 v0 3) 4) : Int)) <|
    p_gd (p_is s0 (p_R s0 (p_R s0 (p_R s0 v0 3) 4) (v1 : Int).toNat) 0) <|
    p_bi ((p_Z s0 (p_R s0 (p_R s0 (p_R s0 v0 3) 4) (v1 : Int).toNat) 2)) fun x8 =>
    p_gd ((0 : Int) ≤ (p_Z s0 v2 18) ∧ (p_Z s0 v2 18) < (p_L s0 (p_R s0 (p_R s0 v0 3) 4) : Int)) <|
    p_gd (p_is s0 (p_R s0 (p_R s0 (p_R s0 v0 3) 4) ((p_Z s0 v2 18) : Int).toNat) 0) <|
    p_bi ((p_Z s0 (p_R s0 (p_R s0 (p_R s0 v0 3) 4) ((p_Z s0 v2 18) : Int).toNat) 2)) fun x11 =>
    if x11 < x8 then
      B_Step_isBetter_71 s0
    else
      if x8 ≠ x11 then
        some (0, s0)
      else
        if (p_Z s0 v2 15) < (p_Z s0 v2 18) then
          some (0, s0)
        else
          if v1 ≤ (p_Z s0 v2 15) then
            some (0, s0)
          else
            B_Step_isBetter_71 s0
  else
    some (1, s0)
set_option maxRecDepth 100000 in
set_option maxHeartbeats 4000000 in
theorem tB_Step_isBetter_71 (K : p_K) (l : Launch)   (s0 : p_Hp) (r : (Int × p_Hp)) (h : B_Step_isBetter_71  s0 = some r) : p_Go K l m_Step_isBetter 71 [] [] s0 (some (p_i r.1), r.2) := by
  unfold B_Step_isBetter_71 at h
  refine g_iconst (dk_Step_isBetter 36 rfl) (by decide) ?_
  refine g_goto 76 (dk_Step_isBetter 37 rfl) (by decide) ?_
  cases h
  exact g_ret rfl rfl (dk_Step_isBetter 39 rfl) (fun _ => ⟨_, rfl, Or.inr rfl⟩)
set_option maxRecDepth 100000 in
set_option maxHeartbeats 4000000 in
theorem tF_Step_isBetter (K : p_K) (l : Launch) (v0 : Nat) (v1 : Int) (v2 : Nat) (s0 : p_Hp) (r : (Int × p_Hp)) (h : F_Step_isBetter v0 v1 v2 s0 = some r) : p_Ct K l m_Step_isBetter [p_r v0, p_i v1, p_r v2] s0 (some (p_i r.1), r.2) := by
  refine p_Ct.of (by decide +kernel) (Nat.le_of_ble_eq_true rfl) ?_
  unfold F_Step_isBetter at h
  show p_Go K l m_Step_isBetter 0 [(0, p_r v0), (1, p_i v1), (2, p_r v2)] [] s0 _
  refine g_aload_n (i := 2) (j := 2) (dk_Step_isBetter 0 rfl) rfl rfl ?_
  obtain ⟨c1, h⟩ := p_gdE h
  refine g_getI fl_Step_161 (Or.inl rfl) (dk_Step_isBetter 1 rfl) c1 ?_
  refine g_iconst (dk_Step_isBetter 2 rfl) (by decide) ?_
  refine g_icmp_ne 10 (dk_Step_isBetter 3 rfl) (by decide) (fun b2 => ?_) (fun b2 => ?_)
  · have h := p_ifT b2 h
    refine g_aload_n (i := 0) (j := 0) (dk_Step_isBetter 6 rfl) rfl rfl ?_
    obtain ⟨c3, h⟩ := p_gdE h
    refine g_getR fl_Step_28 (Or.inl ⟨_, rfl⟩) (dk_Step_isBetter 7 rfl) c3 ?_
    obtain ⟨c4, h⟩ := p_gdE h
    refine g_getR fl_Step_82 (Or.inr ⟨_, rfl⟩) (dk_Step_isBetter 8 rfl) c4 ?_
    refine g_iload_n (i := 1) (j := 1) (dk_Step_isBetter 9 rfl) rfl rfl ?_
    obtain ⟨c5, h⟩ := p_gdE h
    obtain ⟨c6, h⟩ := p_gdE h
    refine g_aaload (i := 5) rfl (Or.inl ⟨_, rfl⟩) (dk_Step_isBetter 10 rfl) c5 c6.1 c6.2 ?_
    obtain ⟨c7, h⟩ := p_gdE h
    refine g_getI fl_Step_188 (Or.inl rfl) (dk_Step_isBetter 11 rfl) c7 ?_
    refine g_istore_n (i := 3) [(3, p_i (p_Z s0 (p_R s0 (p_R s0 (p_R s0 v0 3) 4) (v1 : Int).toNat) 2)), (0, p_r v0), (1, p_i v1), (2, p_r v2)] (dk_Step_isBetter 12 rfl) rfl (by decide) rfl ?_
    refine p_ltG (P := fun q => p_Go K l m_Step_isBetter 23 [(3, p_i q), (0, p_r v0), (1, p_i v1), (2, p_r v2)] [] s0 _) ?_ h
    intro x8 h
    refine g_aload_n (i := 0) (j := 1) (dk_Step_isBetter 13 rfl) rfl rfl ?_
    refine g_getR fl_Step_28 (Or.inl ⟨_, rfl⟩) (dk_Step_isBetter 14 rfl) c3 ?_
    refine g_getR fl_Step_82 (Or.inr ⟨_, rfl⟩) (dk_Step_isBetter 15 rfl) c4 ?_
    refine g_aload_n (i := 2) (j := 3) (dk_Step_isBetter 16 rfl) rfl rfl ?_
    refine g_getI fl_Step_161 (Or.inl rfl) (dk_Step_isBetter 17 rfl) c1 ?_
    obtain ⟨c9, h⟩ := p_gdE h
    refine g_aaload (i := 5) rfl (Or.inl ⟨_, rfl⟩) (dk_Step_isBetter 18 rfl) c5 c9.1 c9.2 ?_
    obtain ⟨c10, h⟩ := p_gdE h
    refine g_getI fl_Step_188 (Or.inl rfl) (dk_Step_isBetter 19 rfl) c10 ?_
    refine g_istore [(4, p_i (p_Z s0 (p_R s0 (p_R s0 (p_R s0 v0 3) 4) ((p_Z s0 v2 18) : Int).toNat) 2)), (3, p_i x8), (0, p_r v0), (1, p_i v1), (2, p_r v2)] (dk_Step_isBetter 20 rfl) (by decide) rfl ?_
    refine p_ltG (P := fun q => p_Go K l m_Step_isBetter 40 [(4, p_i q), (3, p_i x8), (0, p_r v0), (1, p_i v1), (2, p_r v2)] [] s0 _) ?_ h
    intro x11 h
    refine g_iload_n (i := 3) (j := 1) (dk_Step_isBetter 21 rfl) rfl rfl ?_
    refine g_iload (j := 0) (dk_Step_isBetter 22 rfl) rfl ?_
    refine g_icmp_gt 71 (dk_Step_isBetter 23 rfl) (by decide) (fun b12 => ?_) (fun b12 => ?_)
    · have h := p_ifT b12 h
      refine g_sub [] [] rfl ?_
      exact tB_Step_isBetter_71 K l s0 _ h
    · have h := p_ifF b12 h
      refine g_iload_n (i := 3) (j := 1) (dk_Step_isBetter 24 rfl) rfl rfl ?_
      refine g_iload (j := 0) (dk_Step_isBetter 25 rfl) rfl ?_
      refine g_icmp_ne 75 (dk_Step_isBetter 26 rfl) (by decide) (fun b13 => ?_) (fun b13 => ?_)
      · have h := p_ifT b13 h
        refine g_iconst (dk_Step_isBetter 38 rfl) (by decide) ?_
        cases h
        exact g_ret rfl rfl (dk_Step_isBetter 39 rfl) (fun _ => ⟨_, rfl, Or.inl rfl⟩)
      · have h := p_ifF b13 h
        refine g_aload_n (i := 2) (j := 4) (dk_Step_isBetter 27 rfl) rfl rfl ?_
        refine g_getI fl_Step_161 (Or.inl rfl) (dk_Step_isBetter 28 rfl) c1 ?_
        refine g_aload_n (i := 2) (j := 4) (dk_Step_isBetter 29 rfl) rfl rfl ?_
        refine g_getI fl_Step_191 (Or.inl rfl) (dk_Step_isBetter 30 rfl) c1 ?_
        refine g_icmp_gt 75 (dk_Step_isBetter 31 rfl) (by decide) (fun b14 => ?_) (fun b14 => ?_)
        · have h := p_ifT b14 h
          refine g_iconst (dk_Step_isBetter 38 rfl) (by decide) ?_
          cases h
          exact g_ret rfl rfl (dk_Step_isBetter 39 rfl) (fun _ => ⟨_, rfl, Or.inl rfl⟩)
        · have h := p_ifF b14 h
          refine g_iload_n (i := 1) (j := 3) (dk_Step_isBetter 32 rfl) rfl rfl ?_
          refine g_aload_n (i := 2) (j := 4) (dk_Step_isBetter 33 rfl) rfl rfl ?_
          refine g_getI fl_Step_191 (Or.inl rfl) (dk_Step_isBetter 34 rfl) c1 ?_
          refine g_icmp_le 75 (dk_Step_isBetter 35 rfl) (by decide) (fun b15 => ?_) (fun b15 => ?_)
          · have h := p_ifT b15 h
            refine g_iconst (dk_Step_isBetter 38 rfl) (by decide) ?_
            cases h
            exact g_ret rfl rfl (dk_Step_isBetter 39 rfl) (fun _ => ⟨_, rfl, Or.inl rfl⟩)
          · have h := p_ifF b15 h
            refine g_sub [] [] rfl ?_
            exact tB_Step_isBetter_71 K l s0 _ h
  · have h := p_ifF b2 h
    refine g_iconst (dk_Step_isBetter 4 rfl) (by decide) ?_
    cases h
    exact g_ret rfl rfl (dk_Step_isBetter 5 rfl) (fun _ => ⟨_, rfl, Or.inr rfl⟩)
def m_Step_isReadyToGive : p_Me := (⟨"SortWorks$Step", "isReadyToGive", "(LSortWorks$Gear;)Z"⟩, prog_10_method_11_code, 2, (some .boolean), 2, 43)
theorem mt_Step_isReadyToGive : p_Mt m_Step_isReadyToGive 1 := ⟨p_mem (p_tb4 (List.mem_of_getElem? (i := 189) rfl)) rfl, tw_1_9, by decide +kernel, by decide +kernel, by decide +kernel⟩
def dt_Step_isReadyToGive : List (Nat × Instr × Nat) := [(0, .aload_n 1, 1), (1, .invokevirtual 178, 3), (4, .ifCond .eq 42, 3), (7, .aload_n 1, 1), (8, .getfield 97, 3), (11, .bipush 7, 2), (13, .if_icmp .eq 33, 3), (16, .aload_n 0, 1), (17, .aload_n 1, 1), (18, .invokevirtual 86, 3), (21, .ifCond .eq 25, 3), (24, .aload_n 0, 1), (25, .getfield 28, 3), (28, .aload_n 1, 1), (29, .invokevirtual 181, 3), (32, .ifnull 14, 3), (35, .aload_n 1, 1), (36, .invokevirtual 185, 3), (39, .ifCond .ne 7, 3), (42, .iconst 1, 1), (43, .goto 4, 3), (46, .iconst 0, 1), (47, .ireturn, 1)]
theorem dk_Step_isReadyToGive (i : Nat) {pc : Nat} {ins : Instr} {len : Nat} (h : dt_Step_isReadyToGive[i]? = some (pc, ins, len)) : decode m_Step_isReadyToGive.2.1 pc = .ok (ins, len) := p_dk (b := m_Step_isReadyToGive.2.1) (t := dt_Step_isReadyToGive) (by decide +kernel) i h
def F_Step_isReadyToGive (v0 : Nat) (v1 : Nat) (s0 : p_Hp) : Option (Int × p_Hp) :=
  p_gd (p_is s0 v1 0) <|
  p_bd (F_Gear_isTaker v1 s0) fun r6 s2 =>
  if r6 = 0 then
    some (0, s2)
  else
    if (p_Z s2 v1 0) = 7 then
      some (0, s2)
    else
      p_gd (p_is s2 v0 8) <|
      p_bd (F_Step_isInStep v0 v1 s2) fun r14 s10 =>
      if r14 = 0 then
        some (0, s10)
      else
        p_gd (p_is s10 (p_R s10 v0 3) 7) <|
        p_bd (F_State_inLastSlot (p_R s10 v0 3) v1 s10) fun r21 s17 =>
        if r21 = 0 then
          some (0, s17)
        else
          p_bd (F_Gear_isHeld v1 s17) fun r27 s23 =>
          if r27 ≠ 0 then
            some (0, s23)
          else
            some (1, s23)
set_option maxRecDepth 100000 in
set_option maxHeartbeats 4000000 in
theorem tF_Step_isReadyToGive (K : p_K) (l : Launch) (v0 : Nat) (v1 : Nat) (s0 : p_Hp) (r : (Int × p_Hp)) (h : F_Step_isReadyToGive v0 v1 s0 = some r) : p_Ct K l m_Step_isReadyToGive [p_r v0, p_r v1] s0 (some (p_i r.1), r.2) := by
  refine p_Ct.of (by decide +kernel) (Nat.le_of_ble_eq_true rfl) ?_
  unfold F_Step_isReadyToGive at h
  show p_Go K l m_Step_isReadyToGive 0 [(0, p_r v0), (1, p_r v1)] [] s0 _
  refine g_aload_n (i := 1) (j := 1) (dk_Step_isReadyToGive 0 rfl) rfl rfl ?_
  obtain ⟨c1, h⟩ := p_gdE h
  obtain ⟨r6, s2, q3, h⟩ := p_bdE h
  have t4 := tF_Gear_isTaker K l v1 s0 _ q3
  refine g_callV (a := v1) (ci := 0) (q0 := (RX0, TX0, 19)) (As := []) (rest := []) [p_i r6] mt_Gear_isTaker rfl rfl tw_3_125 tw_3_126 tw_4_190 ⟨Nat.le_of_ble_eq_true rfl, Nat.le_of_ble_eq_true rfl⟩ rfl (Nat.le_of_ble_eq_true rfl) (dk_Step_isReadyToGive 1 rfl) rfl c1 rfl t4 ?_
  have hs5 : p_x s0 s2 := t4.1
  show p_Go K l m_Step_isReadyToGive 4 [(0, p_r v0), (1, p_r v1)] [p_i r6] s2 _
  refine g_if_eq 46 (dk_Step_isReadyToGive 2 rfl) (by decide) (fun b7 => ?_) (fun b7 => ?_)
  · have h := p_ifT b7 h
    refine g_iconst (dk_Step_isReadyToGive 21 rfl) (by decide) ?_
    cases h
    exact g_ret rfl rfl (dk_Step_isReadyToGive 22 rfl) (fun _ => ⟨_, rfl, Or.inl rfl⟩)
  · have h := p_ifF b7 h
    refine g_aload_n (i := 1) (j := 1) (dk_Step_isReadyToGive 3 rfl) rfl rfl ?_
    refine g_getI fl_Step_97 (Or.inl rfl) (dk_Step_isReadyToGive 4 rfl) (c1.up hs5) ?_
    refine g_bipush (dk_Step_isReadyToGive 5 rfl) (by decide +kernel) (by decide) ?_
    refine g_icmp_eq 46 (dk_Step_isReadyToGive 6 rfl) (by decide) (fun b8 => ?_) (fun b8 => ?_)
    · have h := p_ifT b8 h
      refine g_iconst (dk_Step_isReadyToGive 21 rfl) (by decide) ?_
      cases h
      exact g_ret rfl rfl (dk_Step_isReadyToGive 22 rfl) (fun _ => ⟨_, rfl, Or.inl rfl⟩)
    · have h := p_ifF b8 h
      refine g_aload_n (i := 0) (j := 0) (dk_Step_isReadyToGive 7 rfl) rfl rfl ?_
      refine g_aload_n (i := 1) (j := 1) (dk_Step_isReadyToGive 8 rfl) rfl rfl ?_
      obtain ⟨c9, h⟩ := p_gdE h
      obtain ⟨r14, s10, q11, h⟩ := p_bdE h
      have t12 := tF_Step_isInStep K l v0 v1 s2 _ q11
      refine g_callV (a := v0) (ci := 8) (q0 := (RX8, TX8, 5)) (As := [p_r v1]) (rest := []) [p_i r14] mt_Step_isInStep rfl rfl tw_4_193 ts_19 tw_4_191 ⟨Nat.le_of_ble_eq_true rfl, Nat.le_of_ble_eq_true rfl⟩ rfl (Nat.le_of_ble_eq_true rfl) (dk_Step_isReadyToGive 9 rfl) rfl c9 rfl t12 ?_
      have hs13 : p_x s2 s10 := t12.1
      show p_Go K l m_Step_isReadyToGive 21 [(0, p_r v0), (1, p_r v1)] [p_i r14] s10 _
      refine g_if_eq 46 (dk_Step_isReadyToGive 10 rfl) (by decide) (fun b15 => ?_) (fun b15 => ?_)
      · have h := p_ifT b15 h
        refine g_iconst (dk_Step_isReadyToGive 21 rfl) (by decide) ?_
        cases h
        exact g_ret rfl rfl (dk_Step_isReadyToGive 22 rfl) (fun _ => ⟨_, rfl, Or.inl rfl⟩)
      · have h := p_ifF b15 h
        refine g_aload_n (i := 0) (j := 0) (dk_Step_isReadyToGive 11 rfl) rfl rfl ?_
        refine g_getR fl_Step_28 (Or.inl ⟨_, rfl⟩) (dk_Step_isReadyToGive 12 rfl) (c9.up hs13) ?_
        refine g_aload_n (i := 1) (j := 1) (dk_Step_isReadyToGive 13 rfl) rfl rfl ?_
        obtain ⟨c16, h⟩ := p_gdE h
        obtain ⟨r21, s17, q18, h⟩ := p_bdE h
        have t19 := tF_State_inLastSlot K l (p_R s10 v0 3) v1 s10 _ q18
        refine g_callV (a := (p_R s10 v0 3)) (ci := 7) (q0 := (RX7, TX7, 9)) (As := [p_r v1]) (rest := []) [p_r r21] mt_State_inLastSlot rfl rfl tw_4_62 tw_4_63 tw_4_197 ⟨Nat.le_of_ble_eq_true rfl, Nat.le_of_ble_eq_true rfl⟩ rfl (Nat.le_of_ble_eq_true rfl) (dk_Step_isReadyToGive 14 rfl) rfl c16 rfl t19 ?_
        have hs20 : p_x s10 s17 := t19.1
        show p_Go K l m_Step_isReadyToGive 32 [(0, p_r v0), (1, p_r v1)] [p_r r21] s17 _
        refine g_ifnull 46 (dk_Step_isReadyToGive 15 rfl) (by decide) (fun b22 => ?_) (fun b22 => ?_)
        · have h := p_ifT b22 h
          refine g_iconst (dk_Step_isReadyToGive 21 rfl) (by decide) ?_
          cases h
          exact g_ret rfl rfl (dk_Step_isReadyToGive 22 rfl) (fun _ => ⟨_, rfl, Or.inl rfl⟩)
        · have h := p_ifF b22 h
          refine g_aload_n (i := 1) (j := 1) (dk_Step_isReadyToGive 16 rfl) rfl rfl ?_
          obtain ⟨r27, s23, q24, h⟩ := p_bdE h
          have t25 := tF_Gear_isHeld K l v1 s17 _ q24
          refine g_callV (a := v1) (ci := 0) (q0 := (RX0, TX0, 19)) (As := []) (rest := []) [p_i r27] mt_Gear_isHeld rfl rfl tw_4_199 tw_4_200 tw_4_198 ⟨Nat.le_of_ble_eq_true rfl, Nat.le_of_ble_eq_true rfl⟩ rfl (Nat.le_of_ble_eq_true rfl) (dk_Step_isReadyToGive 17 rfl) rfl (c1.up (hs5.trans (hs13.trans hs20))) rfl t25 ?_
          have hs26 : p_x s17 s23 := t25.1
          show p_Go K l m_Step_isReadyToGive 39 [(0, p_r v0), (1, p_r v1)] [p_i r27] s23 _
          refine g_if_ne 46 (dk_Step_isReadyToGive 18 rfl) (by decide) (fun b28 => ?_) (fun b28 => ?_)
          · have h := p_ifT b28 h
            refine g_iconst (dk_Step_isReadyToGive 21 rfl) (by decide) ?_
            cases h
            exact g_ret rfl rfl (dk_Step_isReadyToGive 22 rfl) (fun _ => ⟨_, rfl, Or.inl rfl⟩)
          · have h := p_ifF b28 h
            refine g_iconst (dk_Step_isReadyToGive 19 rfl) (by decide) ?_
            refine g_goto 47 (dk_Step_isReadyToGive 20 rfl) (by decide) ?_
            cases h
            exact g_ret rfl rfl (dk_Step_isReadyToGive 22 rfl) (fun _ => ⟨_, rfl, Or.inr rfl⟩)
def m_Step_letMergesChoose : p_Me := (⟨"SortWorks$Step", "letMergesChoose", "()V"⟩, prog_10_method_10_code, 3, none, 3, 64)
theorem mt_Step_letMergesChoose : p_Mt m_Step_letMergesChoose 0 := ⟨p_mem (p_tb4 (List.mem_of_getElem? (i := 185) rfl)) rfl, tw_1_9, by decide +kernel, by decide +kernel, by decide +kernel⟩
def dt_Step_letMergesChoose : List (Nat × Instr × Nat) := [(0, .iconst 0, 1), (1, .istore_n 1, 1), (2, .iload_n 1, 1), (3, .aload_n 0, 1), (4, .getfield 18, 3), (7, .getfield 79, 3), (10, .if_icmp .ge 22, 3), (13, .aload_n 0, 1), (14, .getfield 28, 3), (17, .getfield 82, 3), (20, .iload_n 1, 1), (21, .aaload, 1), (22, .iconst (-1), 1), (23, .putfield 161, 3), (26, .iinc 1 1, 3), (29, .goto (-27), 3), (32, .iconst 0, 1), (33, .istore_n 1, 1), (34, .iload_n 1, 1), (35, .aload_n 0, 1), (36, .getfield 18, 3), (39, .getfield 79, 3), (42, .if_icmp .ge 108, 3), (45, .aload_n 0, 1), (46, .aload_n 0, 1), (47, .getfield 28, 3), (50, .getfield 82, 3), (53, .iload_n 1, 1), (54, .aaload, 1), (55, .invokevirtual 164, 3), (58, .ifCond .eq 34, 3), (61, .aload_n 0, 1), (62, .getfield 18, 3), (65, .aload_n 0, 1), (66, .getfield 28, 3), (69, .getfield 82, 3), (72, .iload_n 1, 1), (73, .aaload, 1), (74, .aload_n 0, 1), (75, .getfield 28, 3), (78, .getfield 82, 3), (81, .iload_n 1, 1), (82, .aaload, 1), (83, .invokevirtual 167, 3), (86, .invokevirtual 170, 3), (89, .goto 4, 3), (92, .iconst (-1), 1), (93, .istore_n 2, 1), (94, .iload_n 2, 1), (95, .ifCond .lt 49, 3), (98, .aload_n 0, 1), (99, .getfield 28, 3), (102, .getfield 82, 3), (105, .iload_n 2, 1), (106, .aaload, 1), (107, .getfield 97, 3), (110, .iconst 2, 1), (111, .if_icmp .ne 33, 3), (114, .aload_n 0, 1), (115, .iload_n 1, 1), (116, .aload_n 0, 1), (117, .getfield 28, 3), (120, .getfield 82, 3), (123, .iload_n 2, 1), (124, .aaload, 1), (125, .invokevirtual 174, 3), (128, .ifCond .eq 16, 3), (131, .aload_n 0, 1), (132, .getfield 28, 3), (135, .getfield 82, 3), (138, .iload_n 2, 1), (139, .aaload, 1), (140, .iload_n 1, 1), (141, .putfield 161, 3), (144, .iinc 1 1, 3), (147, .goto (-113), 3), (150, .return_, 1)]
theorem dk_Step_letMergesChoose (i : Nat) {pc : Nat} {ins : Instr} {len : Nat} (h : dt_Step_letMergesChoose[i]? = some (pc, ins, len)) : decode m_Step_letMergesChoose.2.1 pc = .ok (ins, len) := p_dk (b := m_Step_letMergesChoose.2.1) (t := dt_Step_letMergesChoose) (by decide +kernel) i h
def B_Step_letMergesChoose_144 (k34 : Nat → Int → p_Hp → Option p_Hp) (v0 : Nat) (v1 : Int) (s0 : p_Hp) : Option p_Hp :=
  p_bi (p_w (v1 + 1)) fun x1 =>
  k34 v0 x1 s0
def B_Step_letMergesChoose_93 (k34 : Nat → Int → p_Hp → Option p_Hp) (v0 : Nat) (v1 : Int) (w0 : Int) (s0 : p_Hp) : Option p_Hp :=
  if w0 < 0 then
    B_Step_letMergesChoose_144 k34 v0 v1 s0
  else
    p_gd (p_is s0 v0 8) <|
    p_gd (p_is s0 (p_R s0 v0 3) 7) <|
    p_gd (p_is s0 (p_R s0 (p_R s0 v0 3) 4) 105) <|
    p_gd ((0 : Int) ≤ w0 ∧ w0 < (p_L s0 (p_R s0 (p_R s0 v0 3) 4) : Int)) <|
    p_gd (p_is s0 (p_R s0 (p_R s0 (p_R s0 v0 3) 4) (w0 : Int).toNat) 0) <|
    if (p_Z s0 (p_R s0 (p_R s0 (p_R s0 v0 3) 4) (w0 : Int).toNat) 0) ≠ 2 then
      B_Step_letMergesChoose_144 k34 v0 v1 s0
    else
      p_gd ((0 : Int) ≤ w0 ∧ w0 < (p_L s0 (p_R s0 (p_R s0 v0 3) 4) : Int)) <|
      p_bd (F_Step_isBetter v0 v1 (p_R s0 (p_R s0 (p_R s0 v0 3) 4) (w0 : Int).toNat) s0) fun r13 s9 =>
      if r13 = 0 then
        B_Step_letMergesChoose_144 k34 v0 v1 s9
      else
        p_gd (p_is s9 (p_R s9 v0 3) 7) <|
        p_gd (p_is s9 (p_R s9 (p_R s9 v0 3) 4) 105) <|
        p_gd ((0 : Int) ≤ w0 ∧ w0 < (p_L s9 (p_R s9 (p_R s9 v0 3) 4) : Int)) <|
        p_gd (p_is s9 (p_R s9 (p_R s9 (p_R s9 v0 3) 4) (w0 : Int).toNat) 0) <|
        p_bi (p_wZ s9 (p_R s9 (p_R s9 (p_R s9 v0 3) 4) (w0 : Int).toNat) 18 v1) fun s19 =>
        B_Step_letMergesChoose_144 k34 v0 v1 s19
def L_Step_letMergesChoose_34 (k34 : Nat → Int → p_Hp → Option p_Hp) (v0 : Nat) (v1 : Int) (s0 : p_Hp) : Option p_Hp :=
  p_gd (p_is s0 v0 8) <|
  p_gd (p_is s0 (p_R s0 v0 2) 9) <|
  if (p_Z s0 (p_R s0 v0 2) 2) ≤ v1 then
    some s0
  else
    p_gd (p_is s0 (p_R s0 v0 3) 7) <|
    p_gd (p_is s0 (p_R s0 (p_R s0 v0 3) 4) 105) <|
    p_gd ((0 : Int) ≤ v1 ∧ v1 < (p_L s0 (p_R s0 (p_R s0 v0 3) 4) : Int)) <|
    p_bd (F_Step_isReadyToGive v0 (p_R s0 (p_R s0 (p_R s0 v0 3) 4) (v1 : Int).toNat) s0) fun r11 s7 =>
    if r11 = 0 then
      B_Step_letMergesChoose_93 k34 v0 v1 (-1) s7
    else
      p_gd (p_is s7 (p_R s7 v0 3) 7) <|
      p_gd (p_is s7 (p_R s7 (p_R s7 v0 3) 4) 105) <|
      p_gd ((0 : Int) ≤ v1 ∧ v1 < (p_L s7 (p_R s7 (p_R s7 v0 3) 4) : Int)) <|
      p_gd ((0 : Int) ≤ v1 ∧ v1 < (p_L s7 (p_R s7 (p_R s7 v0 3) 4) : Int)) <|
      p_gd (p_is s7 (p_R s7 (p_R s7 (p_R s7 v0 3) 4) (v1 : Int).toNat) 0) <|
      p_bd (F_Gear_linkAhead (p_R s7 (p_R s7 (p_R s7 v0 3) 4) (v1 : Int).toNat) s7) fun r22 s18 =>
      p_gd (p_is s18 (p_R s7 v0 2) 9) <|
      p_bd (F_Works_follow (p_R s7 v0 2) (p_R s7 (p_R s7 (p_R s7 v0 3) 4) (v1 : Int).toNat) r22 s18) fun r28 s24 =>
      B_Step_letMergesChoose_93 k34 v0 v1 r28 s24
def O_Step_letMergesChoose_34  : Nat → Nat → Int → p_Hp → Option p_Hp
  | 0 => fun _ _ _ => none
  | n + 1 => L_Step_letMergesChoose_34 (O_Step_letMergesChoose_34 n)
def L_Step_letMergesChoose_2 (k2 : Nat → Int → p_Hp → Option p_Hp) (v0 : Nat) (v1 : Int) (s0 : p_Hp) : Option p_Hp :=
  p_gd (p_is s0 v0 8) <|
  p_gd (p_is s0 (p_R s0 v0 2) 9) <|
  if (p_Z s0 (p_R s0 v0 2) 2) ≤ v1 then
    O_Step_letMergesChoose_34 3000 v0 0 s0
  else
    p_gd (p_is s0 (p_R s0 v0 3) 7) <|
    p_gd (p_is s0 (p_R s0 (p_R s0 v0 3) 4) 105) <|
    p_gd ((0 : Int) ≤ v1 ∧ v1 < (p_L s0 (p_R s0 (p_R s0 v0 3) 4) : Int)) <|
    p_gd (p_is s0 (p_R s0 (p_R s0 (p_R s0 v0 3) 4) (v1 : Int).toNat) 0) <|
    p_bi (p_wZ s0 (p_R s0 (p_R s0 (p_R s0 v0 3) 4) (v1 : Int).toNat) 18 (-1)) fun s8 =>
    p_bi (p_w (v1 + 1)) fun x10 =>
    k2 v0 x10 s8
def O_Step_letMergesChoose_2  : Nat → Nat → Int → p_Hp → Option p_Hp
  | 0 => fun _ _ _ => none
  | n + 1 => L_Step_letMergesChoose_2 (O_Step_letMergesChoose_2 n)
def F_Step_letMergesChoose (v0 : Nat) (s0 : p_Hp) : Option p_Hp :=
  O_Step_letMergesChoose_2 3000 v0 0 s0
set_option maxRecDepth 100000 in
set_option maxHeartbeats 4000000 in
theorem tB_Step_letMergesChoose_144 (K : p_K) (l : Launch) (k34 : Nat → Int → p_Hp → Option p_Hp) (hk34 : ∀ (v0 : Nat) (v1 : Int)  (s0 : p_Hp) (r : p_Hp), k34 v0 v1 s0 = some r → p_Go K l m_Step_letMergesChoose 34 [(0, p_r v0), (1, p_i v1)] [] s0 (none, r)) (v0 : Nat) (v1 : Int) (s0 : p_Hp) (r : p_Hp) (h : B_Step_letMergesChoose_144 k34 v0 v1 s0 = some r) : p_Go K l m_Step_letMergesChoose 144 [(0, p_r v0), (1, p_i v1)] [] s0 (none, r) := by
  unfold B_Step_letMergesChoose_144 at h
  refine g_iinc (j := 1) [(1, p_i (p_w (v1 + 1))), (0, p_r v0)] (dk_Step_letMergesChoose 74 rfl) rfl (by decide) rfl ?_
  refine p_ltG (P := fun q => p_Go K l m_Step_letMergesChoose 147 [(1, p_i q), (0, p_r v0)] [] s0 _) ?_ h
  intro x1 h
  refine g_goto 34 (dk_Step_letMergesChoose 75 rfl) (by decide) ?_
  refine g_sub [(0, p_r v0), (1, p_i x1)] [1, 0] rfl ?_
  exact hk34 v0 x1 s0 _ h
set_option maxRecDepth 100000 in
set_option maxHeartbeats 4000000 in
theorem tB_Step_letMergesChoose_93 (K : p_K) (l : Launch) (k34 : Nat → Int → p_Hp → Option p_Hp) (hk34 : ∀ (v0 : Nat) (v1 : Int)  (s0 : p_Hp) (r : p_Hp), k34 v0 v1 s0 = some r → p_Go K l m_Step_letMergesChoose 34 [(0, p_r v0), (1, p_i v1)] [] s0 (none, r)) (v0 : Nat) (v1 : Int) (w0 : Int) (s0 : p_Hp) (r : p_Hp) (h : B_Step_letMergesChoose_93 k34 v0 v1 w0 s0 = some r) : p_Go K l m_Step_letMergesChoose 93 [(0, p_r v0), (1, p_i v1)] [p_i w0] s0 (none, r) := by
  unfold B_Step_letMergesChoose_93 at h
  refine g_istore_n (i := 2) [(2, p_i w0), (0, p_r v0), (1, p_i v1)] (dk_Step_letMergesChoose 47 rfl) rfl (by decide) rfl ?_
  refine g_iload_n (i := 2) (j := 0) (dk_Step_letMergesChoose 48 rfl) rfl rfl ?_
  refine g_if_lt 144 (dk_Step_letMergesChoose 49 rfl) (by decide) (fun b1 => ?_) (fun b1 => ?_)
  · have h := p_ifT b1 h
    refine g_sub [(0, p_r v0), (1, p_i v1)] [1, 2] rfl ?_
    exact tB_Step_letMergesChoose_144 K l k34 hk34 v0 v1 s0 _ h
  · have h := p_ifF b1 h
    refine g_aload_n (i := 0) (j := 1) (dk_Step_letMergesChoose 50 rfl) rfl rfl ?_
    obtain ⟨c2, h⟩ := p_gdE h
    refine g_getR fl_Step_28 (Or.inl ⟨_, rfl⟩) (dk_Step_letMergesChoose 51 rfl) c2 ?_
    obtain ⟨c3, h⟩ := p_gdE h
    refine g_getR fl_Step_82 (Or.inr ⟨_, rfl⟩) (dk_Step_letMergesChoose 52 rfl) c3 ?_
    refine g_iload_n (i := 2) (j := 0) (dk_Step_letMergesChoose 53 rfl) rfl rfl ?_
    obtain ⟨c4, h⟩ := p_gdE h
    obtain ⟨c5, h⟩ := p_gdE h
    refine g_aaload (i := 5) rfl (Or.inl ⟨_, rfl⟩) (dk_Step_letMergesChoose 54 rfl) c4 c5.1 c5.2 ?_
    obtain ⟨c6, h⟩ := p_gdE h
    refine g_getI fl_Step_97 (Or.inl rfl) (dk_Step_letMergesChoose 55 rfl) c6 ?_
    refine g_iconst (dk_Step_letMergesChoose 56 rfl) (by decide) ?_
    refine g_icmp_ne 144 (dk_Step_letMergesChoose 57 rfl) (by decide) (fun b7 => ?_) (fun b7 => ?_)
    · have h := p_ifT b7 h
      refine g_sub [(0, p_r v0), (1, p_i v1)] [1, 2] rfl ?_
      exact tB_Step_letMergesChoose_144 K l k34 hk34 v0 v1 s0 _ h
    · have h := p_ifF b7 h
      refine g_aload_n (i := 0) (j := 1) (dk_Step_letMergesChoose 58 rfl) rfl rfl ?_
      refine g_iload_n (i := 1) (j := 2) (dk_Step_letMergesChoose 59 rfl) rfl rfl ?_
      refine g_aload_n (i := 0) (j := 1) (dk_Step_letMergesChoose 60 rfl) rfl rfl ?_
      refine g_getR fl_Step_28 (Or.inl ⟨_, rfl⟩) (dk_Step_letMergesChoose 61 rfl) c2 ?_
      refine g_getR fl_Step_82 (Or.inr ⟨_, rfl⟩) (dk_Step_letMergesChoose 62 rfl) c3 ?_
      refine g_iload_n (i := 2) (j := 0) (dk_Step_letMergesChoose 63 rfl) rfl rfl ?_
      obtain ⟨c8, h⟩ := p_gdE h
      refine g_aaload (i := 5) rfl (Or.inl ⟨_, rfl⟩) (dk_Step_letMergesChoose 64 rfl) c4 c8.1 c8.2 ?_
      obtain ⟨r13, s9, q10, h⟩ := p_bdE h
      have t11 := tF_Step_isBetter K l v0 v1 (p_R s0 (p_R s0 (p_R s0 v0 3) 4) (w0 : Int).toNat) s0 _ q10
      refine g_callV (a := v0) (ci := 8) (q0 := (RX8, TX8, 5)) (As := [p_i v1, p_r (p_R s0 (p_R s0 (p_R s0 v0 3) 4) (w0 : Int).toNat)]) (rest := []) [p_i r13] mt_Step_isBetter rfl rfl tw_4_213 ts_20 tw_4_211 ⟨Nat.le_of_ble_eq_true rfl, Nat.le_of_ble_eq_true rfl⟩ rfl (Nat.le_of_ble_eq_true rfl) (dk_Step_letMergesChoose 65 rfl) rfl c2 rfl t11 ?_
      have hs12 : p_x s0 s9 := t11.1
      show p_Go K l m_Step_letMergesChoose 128 [(2, p_i w0), (0, p_r v0), (1, p_i v1)] [p_i r13] s9 _
      refine g_if_eq 144 (dk_Step_letMergesChoose 66 rfl) (by decide) (fun b14 => ?_) (fun b14 => ?_)
      · have h := p_ifT b14 h
        refine g_sub [(0, p_r v0), (1, p_i v1)] [1, 2] rfl ?_
        exact tB_Step_letMergesChoose_144 K l k34 hk34 v0 v1 s9 _ h
      · have h := p_ifF b14 h
        refine g_aload_n (i := 0) (j := 1) (dk_Step_letMergesChoose 67 rfl) rfl rfl ?_
        refine g_getR fl_Step_28 (Or.inl ⟨_, rfl⟩) (dk_Step_letMergesChoose 68 rfl) (c2.up hs12) ?_
        obtain ⟨c15, h⟩ := p_gdE h
        refine g_getR fl_Step_82 (Or.inr ⟨_, rfl⟩) (dk_Step_letMergesChoose 69 rfl) c15 ?_
        refine g_iload_n (i := 2) (j := 0) (dk_Step_letMergesChoose 70 rfl) rfl rfl ?_
        obtain ⟨c16, h⟩ := p_gdE h
        obtain ⟨c17, h⟩ := p_gdE h
        refine g_aaload (i := 5) rfl (Or.inl ⟨_, rfl⟩) (dk_Step_letMergesChoose 71 rfl) c16 c17.1 c17.2 ?_
        refine g_iload_n (i := 1) (j := 2) (dk_Step_letMergesChoose 72 rfl) rfl rfl ?_
        obtain ⟨c18, h⟩ := p_gdE h
        refine g_putI fl_Step_161 (Or.inl rfl) (dk_Step_letMergesChoose 73 rfl) c18 ?_
        refine p_ltS (P := fun q => p_Go K l m_Step_letMergesChoose 144 [(2, p_i w0), (0, p_r v0), (1, p_i v1)] [] q _) (p_xZ _ _ _ _) ?_ h
        intro s19 hs20 h
        refine g_sub [(0, p_r v0), (1, p_i v1)] [1, 2] rfl ?_
        exact tB_Step_letMergesChoose_144 K l k34 hk34 v0 v1 s19 _ h
set_option maxRecDepth 100000 in
set_option maxHeartbeats 4000000 in
theorem tL_Step_letMergesChoose_34 (K : p_K) (l : Launch) (k34 : Nat → Int → p_Hp → Option p_Hp) (hk34 : ∀ (v0 : Nat) (v1 : Int)  (s0 : p_Hp) (r : p_Hp), k34 v0 v1 s0 = some r → p_Go K l m_Step_letMergesChoose 34 [(0, p_r v0), (1, p_i v1)] [] s0 (none, r)) (v0 : Nat) (v1 : Int) (s0 : p_Hp) (r : p_Hp) (h : L_Step_letMergesChoose_34 k34 v0 v1 s0 = some r) : p_Go K l m_Step_letMergesChoose 34 [(0, p_r v0), (1, p_i v1)] [] s0 (none, r) := by
  unfold L_Step_letMergesChoose_34 at h
  refine g_iload_n (i := 1) (j := 1) (dk_Step_letMergesChoose 18 rfl) rfl rfl ?_
  refine g_aload_n (i := 0) (j := 0) (dk_Step_letMergesChoose 19 rfl) rfl rfl ?_
  obtain ⟨c1, h⟩ := p_gdE h
  refine g_getR fl_Step_18 (Or.inl ⟨_, rfl⟩) (dk_Step_letMergesChoose 20 rfl) c1 ?_
  obtain ⟨c2, h⟩ := p_gdE h
  refine g_getI fl_Step_79 (Or.inl rfl) (dk_Step_letMergesChoose 21 rfl) c2 ?_
  refine g_icmp_ge 150 (dk_Step_letMergesChoose 22 rfl) (by decide) (fun b3 => ?_) (fun b3 => ?_)
  · have h := p_ifT b3 h
    cases h
    exact g_ret rfl rfl (dk_Step_letMergesChoose 76 rfl) (fun _ => rfl)
  · have h := p_ifF b3 h
    refine g_aload_n (i := 0) (j := 0) (dk_Step_letMergesChoose 23 rfl) rfl rfl ?_
    refine g_aload_n (i := 0) (j := 0) (dk_Step_letMergesChoose 24 rfl) rfl rfl ?_
    refine g_getR fl_Step_28 (Or.inl ⟨_, rfl⟩) (dk_Step_letMergesChoose 25 rfl) c1 ?_
    obtain ⟨c4, h⟩ := p_gdE h
    refine g_getR fl_Step_82 (Or.inr ⟨_, rfl⟩) (dk_Step_letMergesChoose 26 rfl) c4 ?_
    refine g_iload_n (i := 1) (j := 1) (dk_Step_letMergesChoose 27 rfl) rfl rfl ?_
    obtain ⟨c5, h⟩ := p_gdE h
    obtain ⟨c6, h⟩ := p_gdE h
    refine g_aaload (i := 5) rfl (Or.inl ⟨_, rfl⟩) (dk_Step_letMergesChoose 28 rfl) c5 c6.1 c6.2 ?_
    obtain ⟨r11, s7, q8, h⟩ := p_bdE h
    have t9 := tF_Step_isReadyToGive K l v0 (p_R s0 (p_R s0 (p_R s0 v0 3) 4) (v1 : Int).toNat) s0 _ q8
    refine g_callV (a := v0) (ci := 8) (q0 := (RX8, TX8, 5)) (As := [p_r (p_R s0 (p_R s0 (p_R s0 v0 3) 4) (v1 : Int).toNat)]) (rest := []) [p_i r11] mt_Step_isReadyToGive rfl rfl tw_4_188 ts_18 tw_4_186 ⟨Nat.le_of_ble_eq_true rfl, Nat.le_of_ble_eq_true rfl⟩ rfl (Nat.le_of_ble_eq_true rfl) (dk_Step_letMergesChoose 29 rfl) rfl c1 rfl t9 ?_
    have hs10 : p_x s0 s7 := t9.1
    show p_Go K l m_Step_letMergesChoose 58 [(0, p_r v0), (1, p_i v1)] [p_i r11] s7 _
    refine g_if_eq 92 (dk_Step_letMergesChoose 30 rfl) (by decide) (fun b12 => ?_) (fun b12 => ?_)
    · have h := p_ifT b12 h
      refine g_iconst (dk_Step_letMergesChoose 46 rfl) (by decide) ?_
      exact tB_Step_letMergesChoose_93 K l k34 hk34 v0 v1 (-1) s7 _ h
    · have h := p_ifF b12 h
      refine g_aload_n (i := 0) (j := 0) (dk_Step_letMergesChoose 31 rfl) rfl rfl ?_
      refine g_getR fl_Step_18 (Or.inl ⟨_, rfl⟩) (dk_Step_letMergesChoose 32 rfl) (c1.up hs10) ?_
      refine g_aload_n (i := 0) (j := 0) (dk_Step_letMergesChoose 33 rfl) rfl rfl ?_
      refine g_getR fl_Step_28 (Or.inl ⟨_, rfl⟩) (dk_Step_letMergesChoose 34 rfl) (c1.up hs10) ?_
      obtain ⟨c13, h⟩ := p_gdE h
      refine g_getR fl_Step_82 (Or.inr ⟨_, rfl⟩) (dk_Step_letMergesChoose 35 rfl) c13 ?_
      refine g_iload_n (i := 1) (j := 1) (dk_Step_letMergesChoose 36 rfl) rfl rfl ?_
      obtain ⟨c14, h⟩ := p_gdE h
      obtain ⟨c15, h⟩ := p_gdE h
      refine g_aaload (i := 5) rfl (Or.inl ⟨_, rfl⟩) (dk_Step_letMergesChoose 37 rfl) c14 c15.1 c15.2 ?_
      refine g_aload_n (i := 0) (j := 0) (dk_Step_letMergesChoose 38 rfl) rfl rfl ?_
      refine g_getR fl_Step_28 (Or.inl ⟨_, rfl⟩) (dk_Step_letMergesChoose 39 rfl) (c1.up hs10) ?_
      refine g_getR fl_Step_82 (Or.inr ⟨_, rfl⟩) (dk_Step_letMergesChoose 40 rfl) c13 ?_
      refine g_iload_n (i := 1) (j := 1) (dk_Step_letMergesChoose 41 rfl) rfl rfl ?_
      obtain ⟨c16, h⟩ := p_gdE h
      refine g_aaload (i := 5) rfl (Or.inl ⟨_, rfl⟩) (dk_Step_letMergesChoose 42 rfl) c14 c16.1 c16.2 ?_
      obtain ⟨c17, h⟩ := p_gdE h
      obtain ⟨r22, s18, q19, h⟩ := p_bdE h
      have t20 := tF_Gear_linkAhead K l (p_R s7 (p_R s7 (p_R s7 v0 3) 4) (v1 : Int).toNat) s7 _ q19
      refine g_callV (a := (p_R s7 (p_R s7 (p_R s7 v0 3) 4) (v1 : Int).toNat)) (ci := 0) (q0 := (RX0, TX0, 19)) (As := []) (rest := [p_r (p_R s7 (p_R s7 (p_R s7 v0 3) 4) (v1 : Int).toNat), p_r (p_R s7 v0 2)]) [p_i r22, p_r (p_R s7 (p_R s7 (p_R s7 v0 3) 4) (v1 : Int).toNat), p_r (p_R s7 v0 2)] mt_Gear_linkAhead rfl rfl tw_4_203 tw_4_204 tw_4_202 ⟨Nat.le_of_ble_eq_true rfl, Nat.le_of_ble_eq_true rfl⟩ rfl (Nat.le_of_ble_eq_true rfl) (dk_Step_letMergesChoose 43 rfl) rfl c17 rfl t20 ?_
      have hs21 : p_x s7 s18 := t20.1
      show p_Go K l m_Step_letMergesChoose 86 [(0, p_r v0), (1, p_i v1)] [p_i r22, p_r (p_R s7 (p_R s7 (p_R s7 v0 3) 4) (v1 : Int).toNat), p_r (p_R s7 v0 2)] s18 _
      obtain ⟨c23, h⟩ := p_gdE h
      obtain ⟨r28, s24, q25, h⟩ := p_bdE h
      have t26 := tF_Works_follow K l (p_R s7 v0 2) (p_R s7 (p_R s7 (p_R s7 v0 3) 4) (v1 : Int).toNat) r22 s18 _ q25
      refine g_callV (a := (p_R s7 v0 2)) (ci := 9) (q0 := (RX9, TX9, 16)) (As := [p_r (p_R s7 (p_R s7 (p_R s7 v0 3) 4) (v1 : Int).toNat), p_i r22]) (rest := []) [p_i r28] mt_Works_follow rfl rfl tw_4_208 tw_4_209 tw_4_207 ⟨Nat.le_of_ble_eq_true rfl, Nat.le_of_ble_eq_true rfl⟩ rfl (Nat.le_of_ble_eq_true rfl) (dk_Step_letMergesChoose 44 rfl) rfl c23 rfl t26 ?_
      have hs27 : p_x s18 s24 := t26.1
      show p_Go K l m_Step_letMergesChoose 89 [(0, p_r v0), (1, p_i v1)] [p_i r28] s24 _
      refine g_goto 93 (dk_Step_letMergesChoose 45 rfl) (by decide) ?_
      exact tB_Step_letMergesChoose_93 K l k34 hk34 v0 v1 r28 s24 _ h
set_option maxRecDepth 100000 in
set_option maxHeartbeats 4000000 in
theorem tO_Step_letMergesChoose_34 (K : p_K) (l : Launch)  : ∀ (n : Nat) (v0 : Nat) (v1 : Int) (s0 : p_Hp) (r : p_Hp), O_Step_letMergesChoose_34 n v0 v1 s0 = some r → p_Go K l m_Step_letMergesChoose 34 [(0, p_r v0), (1, p_i v1)] [] s0 (none, r) := by
  intro n
  induction n with
  | zero => intro v0 v1 s0 r h; cases (show (none : Option p_Hp) = some r from h)
  | succ n ih => intro v0 v1 s0 r h; exact tL_Step_letMergesChoose_34 K l _ ih v0 v1 s0 r h
set_option maxRecDepth 100000 in
set_option maxHeartbeats 4000000 in
theorem tL_Step_letMergesChoose_2 (K : p_K) (l : Launch) (k2 : Nat → Int → p_Hp → Option p_Hp) (hk2 : ∀ (v0 : Nat) (v1 : Int)  (s0 : p_Hp) (r : p_Hp), k2 v0 v1 s0 = some r → p_Go K l m_Step_letMergesChoose 2 [(0, p_r v0), (1, p_i v1)] [] s0 (none, r)) (v0 : Nat) (v1 : Int) (s0 : p_Hp) (r : p_Hp) (h : L_Step_letMergesChoose_2 k2 v0 v1 s0 = some r) : p_Go K l m_Step_letMergesChoose 2 [(0, p_r v0), (1, p_i v1)] [] s0 (none, r) := by
  unfold L_Step_letMergesChoose_2 at h
  refine g_iload_n (i := 1) (j := 1) (dk_Step_letMergesChoose 2 rfl) rfl rfl ?_
  refine g_aload_n (i := 0) (j := 0) (dk_Step_letMergesChoose 3 rfl) rfl rfl ?_
  obtain ⟨c1, h⟩ := p_gdE h
  refine g_getR fl_Step_18 (Or.inl ⟨_, rfl⟩) (dk_Step_letMergesChoose 4 rfl) c1 ?_
  obtain ⟨c2, h⟩ := p_gdE h
  refine g_getI fl_Step_79 (Or.inl rfl) (dk_Step_letMergesChoose 5 rfl) c2 ?_
  refine g_icmp_ge 32 (dk_Step_letMergesChoose 6 rfl) (by decide) (fun b3 => ?_) (fun b3 => ?_)
  · have h := p_ifT b3 h
    refine g_iconst (dk_Step_letMergesChoose 16 rfl) (by decide) ?_
    refine g_istore_n (i := 1) [(1, p_i 0), (0, p_r v0)] (dk_Step_letMergesChoose 17 rfl) rfl (by decide) rfl ?_
    refine g_sub [(0, p_r v0), (1, p_i 0)] [1, 0] rfl ?_
    exact tO_Step_letMergesChoose_34 K l 3000 v0 0 s0 _ h
  · have h := p_ifF b3 h
    refine g_aload_n (i := 0) (j := 0) (dk_Step_letMergesChoose 7 rfl) rfl rfl ?_
    refine g_getR fl_Step_28 (Or.inl ⟨_, rfl⟩) (dk_Step_letMergesChoose 8 rfl) c1 ?_
    obtain ⟨c4, h⟩ := p_gdE h
    refine g_getR fl_Step_82 (Or.inr ⟨_, rfl⟩) (dk_Step_letMergesChoose 9 rfl) c4 ?_
    refine g_iload_n (i := 1) (j := 1) (dk_Step_letMergesChoose 10 rfl) rfl rfl ?_
    obtain ⟨c5, h⟩ := p_gdE h
    obtain ⟨c6, h⟩ := p_gdE h
    refine g_aaload (i := 5) rfl (Or.inl ⟨_, rfl⟩) (dk_Step_letMergesChoose 11 rfl) c5 c6.1 c6.2 ?_
    refine g_iconst (dk_Step_letMergesChoose 12 rfl) (by decide) ?_
    obtain ⟨c7, h⟩ := p_gdE h
    refine g_putI fl_Step_161 (Or.inl rfl) (dk_Step_letMergesChoose 13 rfl) c7 ?_
    refine p_ltS (P := fun q => p_Go K l m_Step_letMergesChoose 26 [(0, p_r v0), (1, p_i v1)] [] q _) (p_xZ _ _ _ _) ?_ h
    intro s8 hs9 h
    refine g_iinc (j := 1) [(1, p_i (p_w (v1 + 1))), (0, p_r v0)] (dk_Step_letMergesChoose 14 rfl) rfl (by decide) rfl ?_
    refine p_ltG (P := fun q => p_Go K l m_Step_letMergesChoose 29 [(1, p_i q), (0, p_r v0)] [] s8 _) ?_ h
    intro x10 h
    refine g_goto 2 (dk_Step_letMergesChoose 15 rfl) (by decide) ?_
    refine g_sub [(0, p_r v0), (1, p_i x10)] [1, 0] rfl ?_
    exact hk2 v0 x10 s8 _ h
set_option maxRecDepth 100000 in
set_option maxHeartbeats 4000000 in
theorem tO_Step_letMergesChoose_2 (K : p_K) (l : Launch)  : ∀ (n : Nat) (v0 : Nat) (v1 : Int) (s0 : p_Hp) (r : p_Hp), O_Step_letMergesChoose_2 n v0 v1 s0 = some r → p_Go K l m_Step_letMergesChoose 2 [(0, p_r v0), (1, p_i v1)] [] s0 (none, r) := by
  intro n
  induction n with
  | zero => intro v0 v1 s0 r h; cases (show (none : Option p_Hp) = some r from h)
  | succ n ih => intro v0 v1 s0 r h; exact tL_Step_letMergesChoose_2 K l _ ih v0 v1 s0 r h
set_option maxRecDepth 100000 in
set_option maxHeartbeats 4000000 in
theorem tF_Step_letMergesChoose (K : p_K) (l : Launch) (v0 : Nat) (s0 : p_Hp) (r : p_Hp) (h : F_Step_letMergesChoose v0 s0 = some r) : p_Ct K l m_Step_letMergesChoose [p_r v0] s0 (none, r) := by
  refine p_Ct.of (by decide +kernel) (Nat.le_of_ble_eq_true rfl) ?_
  unfold F_Step_letMergesChoose at h
  show p_Go K l m_Step_letMergesChoose 0 [(0, p_r v0)] [] s0 _
  refine g_iconst (dk_Step_letMergesChoose 0 rfl) (by decide) ?_
  refine g_istore_n (i := 1) [(1, p_i 0), (0, p_r v0)] (dk_Step_letMergesChoose 1 rfl) rfl (by decide) rfl ?_
  refine g_sub [(0, p_r v0), (1, p_i 0)] [1, 0] rfl ?_
  exact tO_Step_letMergesChoose_2 K l 3000 v0 0 s0 _ h
def m_Gear_becomeAs : p_Me := (⟨"SortWorks$Gear", "becomeAs", "(LSortWorks$Gear;)V"⟩, prog_2_method_4_code, 2, none, 1, 60)
theorem mt_Gear_becomeAs : p_Mt m_Gear_becomeAs 1 := ⟨p_mem (p_tb4 (List.mem_of_getElem? (i := 142) rfl)) rfl, tw_1_5, by decide +kernel, by decide +kernel, by decide +kernel⟩
def dt_Gear_becomeAs : List (Nat × Instr × Nat) := [(0, .aload_n 0, 1), (1, .aload_n 1, 1), (2, .getfield 38, 3), (5, .putfield 38, 3), (8, .aload_n 0, 1), (9, .aload_n 1, 1), (10, .getfield 41, 3), (13, .putfield 41, 3), (16, .aload_n 0, 1), (17, .aload_n 1, 1), (18, .getfield 45, 3), (21, .putfield 45, 3), (24, .aload_n 0, 1), (25, .aload_n 1, 1), (26, .getfield 48, 3), (29, .putfield 48, 3), (32, .aload_n 0, 1), (33, .aload_n 1, 1), (34, .getfield 51, 3), (37, .putfield 51, 3), (40, .aload_n 0, 1), (41, .aload_n 1, 1), (42, .getfield 54, 3), (45, .putfield 54, 3), (48, .aload_n 0, 1), (49, .aload_n 1, 1), (50, .getfield 57, 3), (53, .putfield 57, 3), (56, .aload_n 0, 1), (57, .aload_n 1, 1), (58, .getfield 60, 3), (61, .putfield 60, 3), (64, .aload_n 0, 1), (65, .aload_n 1, 1), (66, .getfield 63, 3), (69, .putfield 63, 3), (72, .aload_n 0, 1), (73, .aload_n 1, 1), (74, .getfield 9, 3), (77, .putfield 9, 3), (80, .aload_n 0, 1), (81, .aload_n 1, 1), (82, .getfield 66, 3), (85, .putfield 66, 3), (88, .aload_n 1, 1), (89, .getfield 15, 3), (92, .iconst 0, 1), (93, .aload_n 0, 1), (94, .getfield 15, 3), (97, .iconst 0, 1), (98, .bipush 8, 2), (100, .invokestatic 85, 3), (103, .return_, 1)]
theorem dk_Gear_becomeAs (i : Nat) {pc : Nat} {ins : Instr} {len : Nat} (h : dt_Gear_becomeAs[i]? = some (pc, ins, len)) : decode m_Gear_becomeAs.2.1 pc = .ok (ins, len) := p_dk (b := m_Gear_becomeAs.2.1) (t := dt_Gear_becomeAs) (by decide +kernel) i h
def F_Gear_becomeAs (v0 : Nat) (v1 : Nat) (s0 : p_Hp) : Option p_Hp :=
  p_gd (p_is s0 v1 0) <|
  p_gd (p_is s0 v0 0) <|
  p_bi (p_wZ s0 v0 6 (p_Z s0 v1 6)) fun s3 =>
  p_gd ((p_Z s3 v1 7) = 0 ∨ (p_Z s3 v1 7) = 1) <|
  p_bi (p_wZ s3 v0 7 (p_Z s3 v1 7)) fun s6 =>
  p_bi (p_wZ s6 v0 8 (p_Z s6 v1 8)) fun s8 =>
  p_bi (p_wZ s8 v0 9 (p_Z s8 v1 9)) fun s10 =>
  p_bi (p_wZ s10 v0 10 (p_Z s10 v1 10)) fun s12 =>
  p_bi (p_wZ s12 v0 11 (p_Z s12 v1 11)) fun s14 =>
  p_bi (p_wZ s14 v0 12 (p_Z s14 v1 12)) fun s16 =>
  p_bi (p_wZ s16 v0 13 (p_Z s16 v1 13)) fun s18 =>
  p_bi (p_wZ s18 v0 14 (p_Z s18 v1 14)) fun s20 =>
  p_bi (p_wZ s20 v0 15 (p_Z s20 v1 15)) fun s22 =>
  p_bi (p_wZ s22 v0 16 (p_Z s22 v1 16)) fun s24 =>
  p_gd (p_is s24 (p_R s24 v1 17) 100) <|
  p_gd (p_is s24 (p_R s24 v0 17) 100) <|
  p_gd ((0 : Int) ≤ 0 ∧ (0 : Int) ≤ 0 ∧ (0 : Int) ≤ 8 ∧ 0 + 8 ≤ (p_L s24 (p_R s24 v1 17) : Int) ∧ 0 + 8 ≤ (p_L s24 (p_R s24 v0 17) : Int)) <|
  p_bi (p_cp s24 (p_R s24 v1 17) (0 : Int).toNat (p_R s24 v0 17) (0 : Int).toNat (8 : Int).toNat) fun s29 =>
  some s29
set_option maxRecDepth 100000 in
set_option maxHeartbeats 4000000 in
theorem tF_Gear_becomeAs (K : p_K) (l : Launch) (v0 : Nat) (v1 : Nat) (s0 : p_Hp) (r : p_Hp) (h : F_Gear_becomeAs v0 v1 s0 = some r) : p_Ct K l m_Gear_becomeAs [p_r v0, p_r v1] s0 (none, r) := by
  refine p_Ct.of (by decide +kernel) (Nat.le_of_ble_eq_true rfl) ?_
  unfold F_Gear_becomeAs at h
  show p_Go K l m_Gear_becomeAs 0 [(0, p_r v0), (1, p_r v1)] [] s0 _
  refine g_aload_n (i := 0) (j := 0) (dk_Gear_becomeAs 0 rfl) rfl rfl ?_
  refine g_aload_n (i := 1) (j := 1) (dk_Gear_becomeAs 1 rfl) rfl rfl ?_
  obtain ⟨c1, h⟩ := p_gdE h
  refine g_getI fl_Gear_38 (Or.inl rfl) (dk_Gear_becomeAs 2 rfl) c1 ?_
  obtain ⟨c2, h⟩ := p_gdE h
  refine g_putI fl_Gear_38 (Or.inl rfl) (dk_Gear_becomeAs 3 rfl) c2 ?_
  refine p_ltS (P := fun q => p_Go K l m_Gear_becomeAs 8 [(0, p_r v0), (1, p_r v1)] [] q _) (p_xZ _ _ _ _) ?_ h
  intro s3 hs4 h
  refine g_aload_n (i := 0) (j := 0) (dk_Gear_becomeAs 4 rfl) rfl rfl ?_
  refine g_aload_n (i := 1) (j := 1) (dk_Gear_becomeAs 5 rfl) rfl rfl ?_
  refine g_getI fl_Gear_41 (Or.inr rfl) (dk_Gear_becomeAs 6 rfl) (c1.up hs4) ?_
  obtain ⟨c5, h⟩ := p_gdE h
  refine g_putB fl_Gear_41 (Or.inl rfl) (dk_Gear_becomeAs 7 rfl) (c2.up hs4) c5 ?_
  refine p_ltS (P := fun q => p_Go K l m_Gear_becomeAs 16 [(0, p_r v0), (1, p_r v1)] [] q _) (p_xZ _ _ _ _) ?_ h
  intro s6 hs7 h
  refine g_aload_n (i := 0) (j := 0) (dk_Gear_becomeAs 8 rfl) rfl rfl ?_
  refine g_aload_n (i := 1) (j := 1) (dk_Gear_becomeAs 9 rfl) rfl rfl ?_
  refine g_getI fl_Gear_45 (Or.inl rfl) (dk_Gear_becomeAs 10 rfl) (c1.up (hs4.trans hs7)) ?_
  refine g_putI fl_Gear_45 (Or.inl rfl) (dk_Gear_becomeAs 11 rfl) (c2.up (hs4.trans hs7)) ?_
  refine p_ltS (P := fun q => p_Go K l m_Gear_becomeAs 24 [(0, p_r v0), (1, p_r v1)] [] q _) (p_xZ _ _ _ _) ?_ h
  intro s8 hs9 h
  refine g_aload_n (i := 0) (j := 0) (dk_Gear_becomeAs 12 rfl) rfl rfl ?_
  refine g_aload_n (i := 1) (j := 1) (dk_Gear_becomeAs 13 rfl) rfl rfl ?_
  refine g_getI fl_Gear_48 (Or.inl rfl) (dk_Gear_becomeAs 14 rfl) (c1.up (hs4.trans (hs7.trans hs9))) ?_
  refine g_putI fl_Gear_48 (Or.inl rfl) (dk_Gear_becomeAs 15 rfl) (c2.up (hs4.trans (hs7.trans hs9))) ?_
  refine p_ltS (P := fun q => p_Go K l m_Gear_becomeAs 32 [(0, p_r v0), (1, p_r v1)] [] q _) (p_xZ _ _ _ _) ?_ h
  intro s10 hs11 h
  refine g_aload_n (i := 0) (j := 0) (dk_Gear_becomeAs 16 rfl) rfl rfl ?_
  refine g_aload_n (i := 1) (j := 1) (dk_Gear_becomeAs 17 rfl) rfl rfl ?_
  refine g_getI fl_Gear_51 (Or.inl rfl) (dk_Gear_becomeAs 18 rfl) (c1.up (hs4.trans (hs7.trans (hs9.trans hs11)))) ?_
  refine g_putI fl_Gear_51 (Or.inl rfl) (dk_Gear_becomeAs 19 rfl) (c2.up (hs4.trans (hs7.trans (hs9.trans hs11)))) ?_
  refine p_ltS (P := fun q => p_Go K l m_Gear_becomeAs 40 [(0, p_r v0), (1, p_r v1)] [] q _) (p_xZ _ _ _ _) ?_ h
  intro s12 hs13 h
  refine g_aload_n (i := 0) (j := 0) (dk_Gear_becomeAs 20 rfl) rfl rfl ?_
  refine g_aload_n (i := 1) (j := 1) (dk_Gear_becomeAs 21 rfl) rfl rfl ?_
  refine g_getI fl_Gear_54 (Or.inl rfl) (dk_Gear_becomeAs 22 rfl) (c1.up (hs4.trans (hs7.trans (hs9.trans (hs11.trans hs13))))) ?_
  refine g_putI fl_Gear_54 (Or.inl rfl) (dk_Gear_becomeAs 23 rfl) (c2.up (hs4.trans (hs7.trans (hs9.trans (hs11.trans hs13))))) ?_
  refine p_ltS (P := fun q => p_Go K l m_Gear_becomeAs 48 [(0, p_r v0), (1, p_r v1)] [] q _) (p_xZ _ _ _ _) ?_ h
  intro s14 hs15 h
  refine g_aload_n (i := 0) (j := 0) (dk_Gear_becomeAs 24 rfl) rfl rfl ?_
  refine g_aload_n (i := 1) (j := 1) (dk_Gear_becomeAs 25 rfl) rfl rfl ?_
  refine g_getI fl_Gear_57 (Or.inl rfl) (dk_Gear_becomeAs 26 rfl) (c1.up (hs4.trans (hs7.trans (hs9.trans (hs11.trans (hs13.trans hs15)))))) ?_
  refine g_putI fl_Gear_57 (Or.inl rfl) (dk_Gear_becomeAs 27 rfl) (c2.up (hs4.trans (hs7.trans (hs9.trans (hs11.trans (hs13.trans hs15)))))) ?_
  refine p_ltS (P := fun q => p_Go K l m_Gear_becomeAs 56 [(0, p_r v0), (1, p_r v1)] [] q _) (p_xZ _ _ _ _) ?_ h
  intro s16 hs17 h
  refine g_aload_n (i := 0) (j := 0) (dk_Gear_becomeAs 28 rfl) rfl rfl ?_
  refine g_aload_n (i := 1) (j := 1) (dk_Gear_becomeAs 29 rfl) rfl rfl ?_
  refine g_getI fl_Gear_60 (Or.inl rfl) (dk_Gear_becomeAs 30 rfl) (c1.up (hs4.trans (hs7.trans (hs9.trans (hs11.trans (hs13.trans (hs15.trans hs17))))))) ?_
  refine g_putI fl_Gear_60 (Or.inl rfl) (dk_Gear_becomeAs 31 rfl) (c2.up (hs4.trans (hs7.trans (hs9.trans (hs11.trans (hs13.trans (hs15.trans hs17))))))) ?_
  refine p_ltS (P := fun q => p_Go K l m_Gear_becomeAs 64 [(0, p_r v0), (1, p_r v1)] [] q _) (p_xZ _ _ _ _) ?_ h
  intro s18 hs19 h
  refine g_aload_n (i := 0) (j := 0) (dk_Gear_becomeAs 32 rfl) rfl rfl ?_
  refine g_aload_n (i := 1) (j := 1) (dk_Gear_becomeAs 33 rfl) rfl rfl ?_
  refine g_getI fl_Gear_63 (Or.inl rfl) (dk_Gear_becomeAs 34 rfl) (c1.up (hs4.trans (hs7.trans (hs9.trans (hs11.trans (hs13.trans (hs15.trans (hs17.trans hs19)))))))) ?_
  refine g_putI fl_Gear_63 (Or.inl rfl) (dk_Gear_becomeAs 35 rfl) (c2.up (hs4.trans (hs7.trans (hs9.trans (hs11.trans (hs13.trans (hs15.trans (hs17.trans hs19)))))))) ?_
  refine p_ltS (P := fun q => p_Go K l m_Gear_becomeAs 72 [(0, p_r v0), (1, p_r v1)] [] q _) (p_xZ _ _ _ _) ?_ h
  intro s20 hs21 h
  refine g_aload_n (i := 0) (j := 0) (dk_Gear_becomeAs 36 rfl) rfl rfl ?_
  refine g_aload_n (i := 1) (j := 1) (dk_Gear_becomeAs 37 rfl) rfl rfl ?_
  refine g_getI fl_Gear_9 (Or.inl rfl) (dk_Gear_becomeAs 38 rfl) (c1.up (hs4.trans (hs7.trans (hs9.trans (hs11.trans (hs13.trans (hs15.trans (hs17.trans (hs19.trans hs21))))))))) ?_
  refine g_putI fl_Gear_9 (Or.inl rfl) (dk_Gear_becomeAs 39 rfl) (c2.up (hs4.trans (hs7.trans (hs9.trans (hs11.trans (hs13.trans (hs15.trans (hs17.trans (hs19.trans hs21))))))))) ?_
  refine p_ltS (P := fun q => p_Go K l m_Gear_becomeAs 80 [(0, p_r v0), (1, p_r v1)] [] q _) (p_xZ _ _ _ _) ?_ h
  intro s22 hs23 h
  refine g_aload_n (i := 0) (j := 0) (dk_Gear_becomeAs 40 rfl) rfl rfl ?_
  refine g_aload_n (i := 1) (j := 1) (dk_Gear_becomeAs 41 rfl) rfl rfl ?_
  refine g_getI fl_Gear_66 (Or.inl rfl) (dk_Gear_becomeAs 42 rfl) (c1.up (hs4.trans (hs7.trans (hs9.trans (hs11.trans (hs13.trans (hs15.trans (hs17.trans (hs19.trans (hs21.trans hs23)))))))))) ?_
  refine g_putI fl_Gear_66 (Or.inl rfl) (dk_Gear_becomeAs 43 rfl) (c2.up (hs4.trans (hs7.trans (hs9.trans (hs11.trans (hs13.trans (hs15.trans (hs17.trans (hs19.trans (hs21.trans hs23)))))))))) ?_
  refine p_ltS (P := fun q => p_Go K l m_Gear_becomeAs 88 [(0, p_r v0), (1, p_r v1)] [] q _) (p_xZ _ _ _ _) ?_ h
  intro s24 hs25 h
  refine g_aload_n (i := 1) (j := 1) (dk_Gear_becomeAs 44 rfl) rfl rfl ?_
  refine g_getR fl_Gear_15 (Or.inr ⟨_, rfl⟩) (dk_Gear_becomeAs 45 rfl) (c1.up (hs4.trans (hs7.trans (hs9.trans (hs11.trans (hs13.trans (hs15.trans (hs17.trans (hs19.trans (hs21.trans (hs23.trans hs25))))))))))) ?_
  refine g_iconst (dk_Gear_becomeAs 46 rfl) (by decide) ?_
  refine g_aload_n (i := 0) (j := 0) (dk_Gear_becomeAs 47 rfl) rfl rfl ?_
  refine g_getR fl_Gear_15 (Or.inr ⟨_, rfl⟩) (dk_Gear_becomeAs 48 rfl) (c2.up (hs4.trans (hs7.trans (hs9.trans (hs11.trans (hs13.trans (hs15.trans (hs17.trans (hs19.trans (hs21.trans (hs23.trans hs25))))))))))) ?_
  refine g_iconst (dk_Gear_becomeAs 49 rfl) (by decide) ?_
  refine g_bipush (dk_Gear_becomeAs 50 rfl) (by decide +kernel) (by decide) ?_
  obtain ⟨c26, h⟩ := p_gdE h
  obtain ⟨c27, h⟩ := p_gdE h
  obtain ⟨c28, h⟩ := p_gdE h
  refine g_arraycopy tw_4_143 tw_3_165 tw_3_164 tw_1_15 (dk_Gear_becomeAs 51 rfl) (Nat.le_of_ble_eq_true rfl) (Nat.le_of_ble_eq_true rfl) c26 c27 c28.1 c28.2.1 c28.2.2.1 c28.2.2.2.1 c28.2.2.2.2 ?_
  refine p_ltS (P := fun q => p_Go K l m_Gear_becomeAs 103 [(0, p_r v0), (1, p_r v1)] [] q _) (p_xC _ _ _ _ _ _) ?_ h
  intro s29 hs30 h
  cases h
  exact g_ret rfl rfl (dk_Gear_becomeAs 52 rfl) (fun _ => rfl)
def m_Log_becomeAs : p_Me := (⟨"SortWorks$Log", "becomeAs", "(LSortWorks$Log;)V"⟩, prog_4_method_4_code, 2, none, 1, 60)
theorem mt_Log_becomeAs : p_Mt m_Log_becomeAs 1 := ⟨p_mem (p_tb4 (List.mem_of_getElem? (i := 153) rfl)) rfl, tw_1_4, by decide +kernel, by decide +kernel, by decide +kernel⟩
def dt_Log_becomeAs : List (Nat × Instr × Nat) := [(0, .aload_n 0, 1), (1, .aload_n 1, 1), (2, .getfield 22, 3), (5, .putfield 22, 3), (8, .aload_n 1, 1), (9, .getfield 18, 3), (12, .iconst 0, 1), (13, .aload_n 0, 1), (14, .getfield 18, 3), (17, .iconst 0, 1), (18, .aload_n 0, 1), (19, .getfield 18, 3), (22, .arraylength, 1), (23, .invokestatic 25, 3), (26, .return_, 1)]
theorem dk_Log_becomeAs (i : Nat) {pc : Nat} {ins : Instr} {len : Nat} (h : dt_Log_becomeAs[i]? = some (pc, ins, len)) : decode m_Log_becomeAs.2.1 pc = .ok (ins, len) := p_dk (b := m_Log_becomeAs.2.1) (t := dt_Log_becomeAs) (by decide +kernel) i h
def F_Log_becomeAs (v0 : Nat) (v1 : Nat) (s0 : p_Hp) : Option p_Hp :=
  p_gd (p_is s0 v1 2) <|
  p_gd (p_is s0 v0 2) <|
  p_bi (p_wZ s0 v0 3 (p_Z s0 v1 3)) fun s3 =>
  p_gd (p_is s3 (p_R s3 v0 2) 100) <|
  p_gd (p_is s3 (p_R s3 v1 2) 100) <|
  p_gd ((0 : Int) ≤ 0 ∧ (0 : Int) ≤ 0 ∧ (0 : Int) ≤ (p_L s3 (p_R s3 v0 2) : Int) ∧ 0 + (p_L s3 (p_R s3 v0 2) : Int) ≤ (p_L s3 (p_R s3 v1 2) : Int) ∧ 0 + (p_L s3 (p_R s3 v0 2) : Int) ≤ (p_L s3 (p_R s3 v0 2) : Int)) <|
  p_bi (p_cp s3 (p_R s3 v1 2) (0 : Int).toNat (p_R s3 v0 2) (0 : Int).toNat ((p_L s3 (p_R s3 v0 2) : Int) : Int).toNat) fun s8 =>
  some s8
set_option maxRecDepth 100000 in
set_option maxHeartbeats 4000000 in
theorem tF_Log_becomeAs (K : p_K) (l : Launch) (v0 : Nat) (v1 : Nat) (s0 : p_Hp) (r : p_Hp) (h : F_Log_becomeAs v0 v1 s0 = some r) : p_Ct K l m_Log_becomeAs [p_r v0, p_r v1] s0 (none, r) := by
  refine p_Ct.of (by decide +kernel) (Nat.le_of_ble_eq_true rfl) ?_
  unfold F_Log_becomeAs at h
  show p_Go K l m_Log_becomeAs 0 [(0, p_r v0), (1, p_r v1)] [] s0 _
  refine g_aload_n (i := 0) (j := 0) (dk_Log_becomeAs 0 rfl) rfl rfl ?_
  refine g_aload_n (i := 1) (j := 1) (dk_Log_becomeAs 1 rfl) rfl rfl ?_
  obtain ⟨c1, h⟩ := p_gdE h
  refine g_getI fl_Log_22 (Or.inl rfl) (dk_Log_becomeAs 2 rfl) c1 ?_
  obtain ⟨c2, h⟩ := p_gdE h
  refine g_putI fl_Log_22 (Or.inl rfl) (dk_Log_becomeAs 3 rfl) c2 ?_
  refine p_ltS (P := fun q => p_Go K l m_Log_becomeAs 8 [(0, p_r v0), (1, p_r v1)] [] q _) (p_xZ _ _ _ _) ?_ h
  intro s3 hs4 h
  refine g_aload_n (i := 1) (j := 1) (dk_Log_becomeAs 4 rfl) rfl rfl ?_
  refine g_getR fl_Log_18 (Or.inr ⟨_, rfl⟩) (dk_Log_becomeAs 5 rfl) (c1.up hs4) ?_
  refine g_iconst (dk_Log_becomeAs 6 rfl) (by decide) ?_
  refine g_aload_n (i := 0) (j := 0) (dk_Log_becomeAs 7 rfl) rfl rfl ?_
  refine g_getR fl_Log_18 (Or.inr ⟨_, rfl⟩) (dk_Log_becomeAs 8 rfl) (c2.up hs4) ?_
  refine g_iconst (dk_Log_becomeAs 9 rfl) (by decide) ?_
  refine g_aload_n (i := 0) (j := 0) (dk_Log_becomeAs 10 rfl) rfl rfl ?_
  refine g_getR fl_Log_18 (Or.inr ⟨_, rfl⟩) (dk_Log_becomeAs 11 rfl) (c2.up hs4) ?_
  obtain ⟨c5, h⟩ := p_gdE h
  refine g_alen (i := 0) rfl (dk_Log_becomeAs 12 rfl) c5 ?_
  obtain ⟨c6, h⟩ := p_gdE h
  obtain ⟨c7, h⟩ := p_gdE h
  refine g_arraycopy tw_4_154 tw_3_165 tw_3_164 tw_1_15 (dk_Log_becomeAs 13 rfl) (Nat.le_of_ble_eq_true rfl) (Nat.le_of_ble_eq_true rfl) c6 c5 c7.1 c7.2.1 c7.2.2.1 c7.2.2.2.1 c7.2.2.2.2 ?_
  refine p_ltS (P := fun q => p_Go K l m_Log_becomeAs 26 [(0, p_r v0), (1, p_r v1)] [] q _) (p_xC _ _ _ _ _ _) ?_ h
  intro s8 hs9 h
  cases h
  exact g_ret rfl rfl (dk_Log_becomeAs 14 rfl) (fun _ => rfl)
def m_Parcel_becomeAs : p_Me := (⟨"SortWorks$Parcel", "becomeAs", "(LSortWorks$Parcel;)V"⟩, prog_6_method_2_code, 2, none, 1, 60)
theorem mt_Parcel_becomeAs : p_Mt m_Parcel_becomeAs 1 := ⟨p_mem (p_tb4 (List.mem_of_getElem? (i := 147) rfl)) rfl, tw_1_6, by decide +kernel, by decide +kernel, by decide +kernel⟩
def dt_Parcel_becomeAs : List (Nat × Instr × Nat) := [(0, .aload_n 0, 1), (1, .aload_n 1, 1), (2, .getfield 22, 3), (5, .putfield 22, 3), (8, .aload_n 0, 1), (9, .aload_n 1, 1), (10, .getfield 25, 3), (13, .putfield 25, 3), (16, .aload_n 0, 1), (17, .aload_n 1, 1), (18, .getfield 28, 3), (21, .putfield 28, 3), (24, .aload_n 0, 1), (25, .aload_n 1, 1), (26, .getfield 31, 3), (29, .putfield 31, 3), (32, .aload_n 0, 1), (33, .aload_n 1, 1), (34, .getfield 34, 3), (37, .putfield 34, 3), (40, .aload_n 0, 1), (41, .aload_n 1, 1), (42, .getfield 37, 3), (45, .putfield 37, 3), (48, .aload_n 0, 1), (49, .aload_n 1, 1), (50, .getfield 40, 3), (53, .putfield 40, 3), (56, .aload_n 0, 1), (57, .aload_n 1, 1), (58, .getfield 44, 3), (61, .putfield 44, 3), (64, .aload_n 1, 1), (65, .getfield 9, 3), (68, .iconst 0, 1), (69, .aload_n 0, 1), (70, .getfield 9, 3), (73, .iconst 0, 1), (74, .bipush 16, 2), (76, .invokestatic 47, 3), (79, .aload_n 0, 1), (80, .aload_n 1, 1), (81, .getfield 53, 3), (84, .putfield 53, 3), (87, .aload_n 1, 1), (88, .getfield 15, 3), (91, .iconst 0, 1), (92, .aload_n 0, 1), (93, .getfield 15, 3), (96, .iconst 0, 1), (97, .bipush 12, 2), (99, .invokestatic 47, 3), (102, .return_, 1)]
theorem dk_Parcel_becomeAs (i : Nat) {pc : Nat} {ins : Instr} {len : Nat} (h : dt_Parcel_becomeAs[i]? = some (pc, ins, len)) : decode m_Parcel_becomeAs.2.1 pc = .ok (ins, len) := p_dk (b := m_Parcel_becomeAs.2.1) (t := dt_Parcel_becomeAs) (by decide +kernel) i h
def F_Parcel_becomeAs (v0 : Nat) (v1 : Nat) (s0 : p_Hp) : Option p_Hp :=
  p_gd (p_is s0 v1 4) <|
  p_gd (p_is s0 v0 4) <|
  p_bi (p_wZ s0 v0 1 (p_Z s0 v1 1)) fun s3 =>
  p_bi (p_wZ s3 v0 2 (p_Z s3 v1 2)) fun s5 =>
  p_bi (p_wZ s5 v0 3 (p_Z s5 v1 3)) fun s7 =>
  p_bi (p_wZ s7 v0 4 (p_Z s7 v1 4)) fun s9 =>
  p_bi (p_wZ s9 v0 5 (p_Z s9 v1 5)) fun s11 =>
  p_bi (p_wZ s11 v0 6 (p_Z s11 v1 6)) fun s13 =>
  p_gd ((p_Z s13 v1 7) = 0 ∨ (p_Z s13 v1 7) = 1) <|
  p_bi (p_wZ s13 v0 7 (p_Z s13 v1 7)) fun s16 =>
  p_bi (p_wZ s16 v0 9 (p_Z s16 v1 9)) fun s18 =>
  p_gd (p_is s18 (p_R s18 v1 10) 100) <|
  p_gd (p_is s18 (p_R s18 v0 10) 100) <|
  p_gd ((0 : Int) ≤ 0 ∧ (0 : Int) ≤ 0 ∧ (0 : Int) ≤ 16 ∧ 0 + 16 ≤ (p_L s18 (p_R s18 v1 10) : Int) ∧ 0 + 16 ≤ (p_L s18 (p_R s18 v0 10) : Int)) <|
  p_bi (p_cp s18 (p_R s18 v1 10) (0 : Int).toNat (p_R s18 v0 10) (0 : Int).toNat (16 : Int).toNat) fun s23 =>
  p_bi (p_wZ s23 v0 11 (p_Z s23 v1 11)) fun s25 =>
  p_gd (p_is s25 (p_R s25 v1 12) 100) <|
  p_gd (p_is s25 (p_R s25 v0 12) 100) <|
  p_gd ((0 : Int) ≤ 0 ∧ (0 : Int) ≤ 0 ∧ (0 : Int) ≤ 12 ∧ 0 + 12 ≤ (p_L s25 (p_R s25 v1 12) : Int) ∧ 0 + 12 ≤ (p_L s25 (p_R s25 v0 12) : Int)) <|
  p_bi (p_cp s25 (p_R s25 v1 12) (0 : Int).toNat (p_R s25 v0 12) (0 : Int).toNat (12 : Int).toNat) fun s30 =>
  some s30
set_option maxRecDepth 100000 in
set_option maxHeartbeats 4000000 in
theorem tF_Parcel_becomeAs (K : p_K) (l : Launch) (v0 : Nat) (v1 : Nat) (s0 : p_Hp) (r : p_Hp) (h : F_Parcel_becomeAs v0 v1 s0 = some r) : p_Ct K l m_Parcel_becomeAs [p_r v0, p_r v1] s0 (none, r) := by
  refine p_Ct.of (by decide +kernel) (Nat.le_of_ble_eq_true rfl) ?_
  unfold F_Parcel_becomeAs at h
  show p_Go K l m_Parcel_becomeAs 0 [(0, p_r v0), (1, p_r v1)] [] s0 _
  refine g_aload_n (i := 0) (j := 0) (dk_Parcel_becomeAs 0 rfl) rfl rfl ?_
  refine g_aload_n (i := 1) (j := 1) (dk_Parcel_becomeAs 1 rfl) rfl rfl ?_
  obtain ⟨c1, h⟩ := p_gdE h
  refine g_getI fl_Parcel_22 (Or.inl rfl) (dk_Parcel_becomeAs 2 rfl) c1 ?_
  obtain ⟨c2, h⟩ := p_gdE h
  refine g_putI fl_Parcel_22 (Or.inl rfl) (dk_Parcel_becomeAs 3 rfl) c2 ?_
  refine p_ltS (P := fun q => p_Go K l m_Parcel_becomeAs 8 [(0, p_r v0), (1, p_r v1)] [] q _) (p_xZ _ _ _ _) ?_ h
  intro s3 hs4 h
  refine g_aload_n (i := 0) (j := 0) (dk_Parcel_becomeAs 4 rfl) rfl rfl ?_
  refine g_aload_n (i := 1) (j := 1) (dk_Parcel_becomeAs 5 rfl) rfl rfl ?_
  refine g_getI fl_Parcel_25 (Or.inl rfl) (dk_Parcel_becomeAs 6 rfl) (c1.up hs4) ?_
  refine g_putI fl_Parcel_25 (Or.inl rfl) (dk_Parcel_becomeAs 7 rfl) (c2.up hs4) ?_
  refine p_ltS (P := fun q => p_Go K l m_Parcel_becomeAs 16 [(0, p_r v0), (1, p_r v1)] [] q _) (p_xZ _ _ _ _) ?_ h
  intro s5 hs6 h
  refine g_aload_n (i := 0) (j := 0) (dk_Parcel_becomeAs 8 rfl) rfl rfl ?_
  refine g_aload_n (i := 1) (j := 1) (dk_Parcel_becomeAs 9 rfl) rfl rfl ?_
  refine g_getI fl_Parcel_28 (Or.inl rfl) (dk_Parcel_becomeAs 10 rfl) (c1.up (hs4.trans hs6)) ?_
  refine g_putI fl_Parcel_28 (Or.inl rfl) (dk_Parcel_becomeAs 11 rfl) (c2.up (hs4.trans hs6)) ?_
  refine p_ltS (P := fun q => p_Go K l m_Parcel_becomeAs 24 [(0, p_r v0), (1, p_r v1)] [] q _) (p_xZ _ _ _ _) ?_ h
  intro s7 hs8 h
  refine g_aload_n (i := 0) (j := 0) (dk_Parcel_becomeAs 12 rfl) rfl rfl ?_
  refine g_aload_n (i := 1) (j := 1) (dk_Parcel_becomeAs 13 rfl) rfl rfl ?_
  refine g_getI fl_Parcel_31 (Or.inl rfl) (dk_Parcel_becomeAs 14 rfl) (c1.up (hs4.trans (hs6.trans hs8))) ?_
  refine g_putI fl_Parcel_31 (Or.inl rfl) (dk_Parcel_becomeAs 15 rfl) (c2.up (hs4.trans (hs6.trans hs8))) ?_
  refine p_ltS (P := fun q => p_Go K l m_Parcel_becomeAs 32 [(0, p_r v0), (1, p_r v1)] [] q _) (p_xZ _ _ _ _) ?_ h
  intro s9 hs10 h
  refine g_aload_n (i := 0) (j := 0) (dk_Parcel_becomeAs 16 rfl) rfl rfl ?_
  refine g_aload_n (i := 1) (j := 1) (dk_Parcel_becomeAs 17 rfl) rfl rfl ?_
  refine g_getI fl_Parcel_34 (Or.inl rfl) (dk_Parcel_becomeAs 18 rfl) (c1.up (hs4.trans (hs6.trans (hs8.trans hs10)))) ?_
  refine g_putI fl_Parcel_34 (Or.inl rfl) (dk_Parcel_becomeAs 19 rfl) (c2.up (hs4.trans (hs6.trans (hs8.trans hs10)))) ?_
  refine p_ltS (P := fun q => p_Go K l m_Parcel_becomeAs 40 [(0, p_r v0), (1, p_r v1)] [] q _) (p_xZ _ _ _ _) ?_ h
  intro s11 hs12 h
  refine g_aload_n (i := 0) (j := 0) (dk_Parcel_becomeAs 20 rfl) rfl rfl ?_
  refine g_aload_n (i := 1) (j := 1) (dk_Parcel_becomeAs 21 rfl) rfl rfl ?_
  refine g_getI fl_Parcel_37 (Or.inl rfl) (dk_Parcel_becomeAs 22 rfl) (c1.up (hs4.trans (hs6.trans (hs8.trans (hs10.trans hs12))))) ?_
  refine g_putI fl_Parcel_37 (Or.inl rfl) (dk_Parcel_becomeAs 23 rfl) (c2.up (hs4.trans (hs6.trans (hs8.trans (hs10.trans hs12))))) ?_
  refine p_ltS (P := fun q => p_Go K l m_Parcel_becomeAs 48 [(0, p_r v0), (1, p_r v1)] [] q _) (p_xZ _ _ _ _) ?_ h
  intro s13 hs14 h
  refine g_aload_n (i := 0) (j := 0) (dk_Parcel_becomeAs 24 rfl) rfl rfl ?_
  refine g_aload_n (i := 1) (j := 1) (dk_Parcel_becomeAs 25 rfl) rfl rfl ?_
  refine g_getI fl_Parcel_40 (Or.inr rfl) (dk_Parcel_becomeAs 26 rfl) (c1.up (hs4.trans (hs6.trans (hs8.trans (hs10.trans (hs12.trans hs14)))))) ?_
  obtain ⟨c15, h⟩ := p_gdE h
  refine g_putB fl_Parcel_40 (Or.inl rfl) (dk_Parcel_becomeAs 27 rfl) (c2.up (hs4.trans (hs6.trans (hs8.trans (hs10.trans (hs12.trans hs14)))))) c15 ?_
  refine p_ltS (P := fun q => p_Go K l m_Parcel_becomeAs 56 [(0, p_r v0), (1, p_r v1)] [] q _) (p_xZ _ _ _ _) ?_ h
  intro s16 hs17 h
  refine g_aload_n (i := 0) (j := 0) (dk_Parcel_becomeAs 28 rfl) rfl rfl ?_
  refine g_aload_n (i := 1) (j := 1) (dk_Parcel_becomeAs 29 rfl) rfl rfl ?_
  refine g_getI fl_Parcel_44 (Or.inl rfl) (dk_Parcel_becomeAs 30 rfl) (c1.up (hs4.trans (hs6.trans (hs8.trans (hs10.trans (hs12.trans (hs14.trans hs17))))))) ?_
  refine g_putI fl_Parcel_44 (Or.inl rfl) (dk_Parcel_becomeAs 31 rfl) (c2.up (hs4.trans (hs6.trans (hs8.trans (hs10.trans (hs12.trans (hs14.trans hs17))))))) ?_
  refine p_ltS (P := fun q => p_Go K l m_Parcel_becomeAs 64 [(0, p_r v0), (1, p_r v1)] [] q _) (p_xZ _ _ _ _) ?_ h
  intro s18 hs19 h
  refine g_aload_n (i := 1) (j := 1) (dk_Parcel_becomeAs 32 rfl) rfl rfl ?_
  refine g_getR fl_Parcel_9 (Or.inr ⟨_, rfl⟩) (dk_Parcel_becomeAs 33 rfl) (c1.up (hs4.trans (hs6.trans (hs8.trans (hs10.trans (hs12.trans (hs14.trans (hs17.trans hs19)))))))) ?_
  refine g_iconst (dk_Parcel_becomeAs 34 rfl) (by decide) ?_
  refine g_aload_n (i := 0) (j := 0) (dk_Parcel_becomeAs 35 rfl) rfl rfl ?_
  refine g_getR fl_Parcel_9 (Or.inr ⟨_, rfl⟩) (dk_Parcel_becomeAs 36 rfl) (c2.up (hs4.trans (hs6.trans (hs8.trans (hs10.trans (hs12.trans (hs14.trans (hs17.trans hs19)))))))) ?_
  refine g_iconst (dk_Parcel_becomeAs 37 rfl) (by decide) ?_
  refine g_bipush (dk_Parcel_becomeAs 38 rfl) (by decide +kernel) (by decide) ?_
  obtain ⟨c20, h⟩ := p_gdE h
  obtain ⟨c21, h⟩ := p_gdE h
  obtain ⟨c22, h⟩ := p_gdE h
  refine g_arraycopy tw_4_148 tw_3_165 tw_3_164 tw_1_15 (dk_Parcel_becomeAs 39 rfl) (Nat.le_of_ble_eq_true rfl) (Nat.le_of_ble_eq_true rfl) c20 c21 c22.1 c22.2.1 c22.2.2.1 c22.2.2.2.1 c22.2.2.2.2 ?_
  refine p_ltS (P := fun q => p_Go K l m_Parcel_becomeAs 79 [(0, p_r v0), (1, p_r v1)] [] q _) (p_xC _ _ _ _ _ _) ?_ h
  intro s23 hs24 h
  refine g_aload_n (i := 0) (j := 0) (dk_Parcel_becomeAs 40 rfl) rfl rfl ?_
  refine g_aload_n (i := 1) (j := 1) (dk_Parcel_becomeAs 41 rfl) rfl rfl ?_
  refine g_getI fl_Parcel_53 (Or.inl rfl) (dk_Parcel_becomeAs 42 rfl) (c1.up (hs4.trans (hs6.trans (hs8.trans (hs10.trans (hs12.trans (hs14.trans (hs17.trans (hs19.trans hs24))))))))) ?_
  refine g_putI fl_Parcel_53 (Or.inl rfl) (dk_Parcel_becomeAs 43 rfl) (c2.up (hs4.trans (hs6.trans (hs8.trans (hs10.trans (hs12.trans (hs14.trans (hs17.trans (hs19.trans hs24))))))))) ?_
  refine p_ltS (P := fun q => p_Go K l m_Parcel_becomeAs 87 [(0, p_r v0), (1, p_r v1)] [] q _) (p_xZ _ _ _ _) ?_ h
  intro s25 hs26 h
  refine g_aload_n (i := 1) (j := 1) (dk_Parcel_becomeAs 44 rfl) rfl rfl ?_
  refine g_getR fl_Parcel_15 (Or.inr ⟨_, rfl⟩) (dk_Parcel_becomeAs 45 rfl) (c1.up (hs4.trans (hs6.trans (hs8.trans (hs10.trans (hs12.trans (hs14.trans (hs17.trans (hs19.trans (hs24.trans hs26)))))))))) ?_
  refine g_iconst (dk_Parcel_becomeAs 46 rfl) (by decide) ?_
  refine g_aload_n (i := 0) (j := 0) (dk_Parcel_becomeAs 47 rfl) rfl rfl ?_
  refine g_getR fl_Parcel_15 (Or.inr ⟨_, rfl⟩) (dk_Parcel_becomeAs 48 rfl) (c2.up (hs4.trans (hs6.trans (hs8.trans (hs10.trans (hs12.trans (hs14.trans (hs17.trans (hs19.trans (hs24.trans hs26)))))))))) ?_
  refine g_iconst (dk_Parcel_becomeAs 49 rfl) (by decide) ?_
  refine g_bipush (dk_Parcel_becomeAs 50 rfl) (by decide +kernel) (by decide) ?_
  obtain ⟨c27, h⟩ := p_gdE h
  obtain ⟨c28, h⟩ := p_gdE h
  obtain ⟨c29, h⟩ := p_gdE h
  refine g_arraycopy tw_4_148 tw_3_165 tw_3_164 tw_1_15 (dk_Parcel_becomeAs 51 rfl) (Nat.le_of_ble_eq_true rfl) (Nat.le_of_ble_eq_true rfl) c27 c28 c29.1 c29.2.1 c29.2.2.1 c29.2.2.2.1 c29.2.2.2.2 ?_
  refine p_ltS (P := fun q => p_Go K l m_Parcel_becomeAs 102 [(0, p_r v0), (1, p_r v1)] [] q _) (p_xC _ _ _ _ _ _) ?_ h
  intro s30 hs31 h
  cases h
  exact g_ret rfl rfl (dk_Parcel_becomeAs 52 rfl) (fun _ => rfl)
def m_State_becomeAs : p_Me := (⟨"SortWorks$State", "becomeAs", "(LSortWorks$State;I)V"⟩, prog_9_method_2_code, 4, none, 2, 81)
theorem mt_State_becomeAs : p_Mt m_State_becomeAs 2 := ⟨p_mem (p_tb4 (List.mem_of_getElem? (i := 138) rfl)) rfl, tw_1_3, by decide +kernel, by decide +kernel, by decide +kernel⟩
def dt_State_becomeAs : List (Nat × Instr × Nat) := [(0, .aload_n 0, 1), (1, .aload_n 1, 1), (2, .getfield 43, 3), (5, .putfield 43, 3), (8, .aload_n 0, 1), (9, .aload_n 1, 1), (10, .getfield 47, 3), (13, .putfield 47, 3), (16, .aload_n 0, 1), (17, .aload_n 1, 1), (18, .getfield 50, 3), (21, .putfield 50, 3), (24, .aload_n 0, 1), (25, .aload_n 1, 1), (26, .getfield 53, 3), (29, .putfield 53, 3), (32, .iconst 0, 1), (33, .istore_n 3, 1), (34, .iload_n 3, 1), (35, .iload_n 2, 1), (36, .if_icmp .ge 24, 3), (39, .aload_n 0, 1), (40, .getfield 11, 3), (43, .iload_n 3, 1), (44, .aaload, 1), (45, .aload_n 1, 1), (46, .getfield 11, 3), (49, .iload_n 3, 1), (50, .aaload, 1), (51, .invokevirtual 56, 3), (54, .iinc 3 1, 3), (57, .goto (-23), 3), (60, .iconst 1, 1), (61, .istore_n 3, 1), (62, .iload_n 3, 1), (63, .bipush 30, 2), (65, .if_icmp .gt 49, 3), (68, .aload_n 1, 1), (69, .getfield 19, 3), (72, .iload_n 3, 1), (73, .aaload, 1), (74, .getfield 60, 3), (77, .ifCond .ne 16, 3), (80, .aload_n 0, 1), (81, .getfield 19, 3), (84, .iload_n 3, 1), (85, .aaload, 1), (86, .iconst 0, 1), (87, .putfield 60, 3), (90, .goto 18, 3), (93, .aload_n 0, 1), (94, .getfield 19, 3), (97, .iload_n 3, 1), (98, .aaload, 1), (99, .aload_n 1, 1), (100, .getfield 19, 3), (103, .iload_n 3, 1), (104, .aaload, 1), (105, .invokevirtual 63, 3), (108, .iinc 3 1, 3), (111, .goto (-49), 3), (114, .aload_n 1, 1), (115, .getfield 23, 3), (118, .iconst 0, 1), (119, .aload_n 0, 1), (120, .getfield 23, 3), (123, .iconst 0, 1), (124, .bipush 12, 2), (126, .invokestatic 66, 3), (129, .aload_n 0, 1), (130, .getfield 32, 3), (133, .aload_n 1, 1), (134, .getfield 32, 3), (137, .invokevirtual 72, 3), (140, .aload_n 0, 1), (141, .getfield 36, 3), (144, .aload_n 1, 1), (145, .getfield 36, 3), (148, .invokevirtual 72, 3), (151, .return_, 1)]
theorem dk_State_becomeAs (i : Nat) {pc : Nat} {ins : Instr} {len : Nat} (h : dt_State_becomeAs[i]? = some (pc, ins, len)) : decode m_State_becomeAs.2.1 pc = .ok (ins, len) := p_dk (b := m_State_becomeAs.2.1) (t := dt_State_becomeAs) (by decide +kernel) i h
def B_State_becomeAs_108 (k62 : Nat → Nat → Int → p_Hp → Option p_Hp) (v0 : Nat) (v1 : Nat) (v3 : Int) (s0 : p_Hp) : Option p_Hp :=
  p_bi (p_w (v3 + 1)) fun x1 =>
  k62 v0 v1 x1 s0
def L_State_becomeAs_62 (k62 : Nat → Nat → Int → p_Hp → Option p_Hp) (v0 : Nat) (v1 : Nat) (v3 : Int) (s0 : p_Hp) : Option p_Hp :=
  if 30 < v3 then
    p_gd (p_is s0 v1 7) <|
    p_gd (p_is s0 v0 7) <|
    p_gd (p_is s0 (p_R s0 v1 6) 100) <|
    p_gd (p_is s0 (p_R s0 v0 6) 100) <|
    p_gd ((0 : Int) ≤ 0 ∧ (0 : Int) ≤ 0 ∧ (0 : Int) ≤ 12 ∧ 0 + 12 ≤ (p_L s0 (p_R s0 v1 6) : Int) ∧ 0 + 12 ≤ (p_L s0 (p_R s0 v0 6) : Int)) <|
    p_bi (p_cp s0 (p_R s0 v1 6) (0 : Int).toNat (p_R s0 v0 6) (0 : Int).toNat (12 : Int).toNat) fun s7 =>
    p_gd (p_is s7 (p_R s7 v0 7) 2) <|
    p_bv (F_Log_becomeAs (p_R s7 v0 7) (p_R s7 v1 7) s7) fun s10 =>
    p_gd (p_is s10 (p_R s10 v0 8) 2) <|
    p_bv (F_Log_becomeAs (p_R s10 v0 8) (p_R s10 v1 8) s10) fun s15 =>
    some s15
  else
    p_gd (p_is s0 v1 7) <|
    p_gd (p_is s0 (p_R s0 v1 5) 106) <|
    p_gd ((0 : Int) ≤ v3 ∧ v3 < (p_L s0 (p_R s0 v1 5) : Int)) <|
    p_gd (p_is s0 (p_R s0 (p_R s0 v1 5) (v3 : Int).toNat) 4) <|
    if (p_Z s0 (p_R s0 (p_R s0 v1 5) (v3 : Int).toNat) 1) ≠ 0 then
      p_gd (p_is s0 v0 7) <|
      p_gd (p_is s0 (p_R s0 v0 5) 106) <|
      p_gd ((0 : Int) ≤ v3 ∧ v3 < (p_L s0 (p_R s0 v0 5) : Int)) <|
      p_gd ((0 : Int) ≤ v3 ∧ v3 < (p_L s0 (p_R s0 v1 5) : Int)) <|
      p_gd (p_is s0 (p_R s0 (p_R s0 v0 5) (v3 : Int).toNat) 4) <|
      p_bv (F_Parcel_becomeAs (p_R s0 (p_R s0 v0 5) (v3 : Int).toNat) (p_R s0 (p_R s0 v1 5) (v3 : Int).toNat) s0) fun s29 =>
      B_State_becomeAs_108 k62 v0 v1 v3 s29
    else
      p_gd (p_is s0 v0 7) <|
      p_gd (p_is s0 (p_R s0 v0 5) 106) <|
      p_gd ((0 : Int) ≤ v3 ∧ v3 < (p_L s0 (p_R s0 v0 5) : Int)) <|
      p_gd (p_is s0 (p_R s0 (p_R s0 v0 5) (v3 : Int).toNat) 4) <|
      p_bi (p_wZ s0 (p_R s0 (p_R s0 v0 5) (v3 : Int).toNat) 1 0) fun s37 =>
      B_State_becomeAs_108 k62 v0 v1 v3 s37
def O_State_becomeAs_62  : Nat → Nat → Nat → Int → p_Hp → Option p_Hp
  | 0 => fun _ _ _ _ => none
  | n + 1 => L_State_becomeAs_62 (O_State_becomeAs_62 n)
def L_State_becomeAs_34 (k34 : Nat → Nat → Int → Int → p_Hp → Option p_Hp) (v0 : Nat) (v1 : Nat) (v2 : Int) (v3 : Int) (s0 : p_Hp) : Option p_Hp :=
  if v2 ≤ v3 then
    O_State_becomeAs_62 3000 v0 v1 1 s0
  else
    p_gd (p_is s0 v0 7) <|
    p_gd (p_is s0 (p_R s0 v0 4) 105) <|
    p_gd ((0 : Int) ≤ v3 ∧ v3 < (p_L s0 (p_R s0 v0 4) : Int)) <|
    p_gd (p_is s0 v1 7) <|
    p_gd (p_is s0 (p_R s0 v1 4) 105) <|
    p_gd ((0 : Int) ≤ v3 ∧ v3 < (p_L s0 (p_R s0 v1 4) : Int)) <|
    p_gd (p_is s0 (p_R s0 (p_R s0 v0 4) (v3 : Int).toNat) 0) <|
    p_bv (F_Gear_becomeAs (p_R s0 (p_R s0 v0 4) (v3 : Int).toNat) (p_R s0 (p_R s0 v1 4) (v3 : Int).toNat) s0) fun s9 =>
    p_bi (p_w (v3 + 1)) fun x13 =>
    k34 v0 v1 v2 x13 s9
def O_State_becomeAs_34  : Nat → Nat → Nat → Int → Int → p_Hp → Option p_Hp
  | 0 => fun _ _ _ _ _ => none
  | n + 1 => L_State_becomeAs_34 (O_State_becomeAs_34 n)
def F_State_becomeAs (v0 : Nat) (v1 : Nat) (v2 : Int) (s0 : p_Hp) : Option p_Hp :=
  p_gd (p_is s0 v1 7) <|
  p_gd (p_is s0 v0 7) <|
  p_bi (p_wZ s0 v0 0 (p_Z s0 v1 0)) fun s3 =>
  p_bi (p_wZ s3 v0 1 (p_Z s3 v1 1)) fun s5 =>
  p_bi (p_wZ s5 v0 2 (p_Z s5 v1 2)) fun s7 =>
  p_bi (p_wZ s7 v0 3 (p_Z s7 v1 3)) fun s9 =>
  O_State_becomeAs_34 3000 v0 v1 v2 0 s9
set_option maxRecDepth 100000 in
set_option maxHeartbeats 4000000 in
theorem tB_State_becomeAs_108 (K : p_K) (l : Launch) (k62 : Nat → Nat → Int → p_Hp → Option p_Hp) (hk62 : ∀ (v0 : Nat) (v1 : Nat) (v3 : Int)  (s0 : p_Hp) (r : p_Hp), k62 v0 v1 v3 s0 = some r → p_Go K l m_State_becomeAs 62 [(0, p_r v0), (1, p_r v1), (3, p_i v3)] [] s0 (none, r)) (v0 : Nat) (v1 : Nat) (v3 : Int) (s0 : p_Hp) (r : p_Hp) (h : B_State_becomeAs_108 k62 v0 v1 v3 s0 = some r) : p_Go K l m_State_becomeAs 108 [(0, p_r v0), (1, p_r v1), (3, p_i v3)] [] s0 (none, r) := by
  unfold B_State_becomeAs_108 at h
  refine g_iinc (j := 2) [(3, p_i (p_w (v3 + 1))), (0, p_r v0), (1, p_r v1)] (dk_State_becomeAs 59 rfl) rfl (by decide) rfl ?_
  refine p_ltG (P := fun q => p_Go K l m_State_becomeAs 111 [(3, p_i q), (0, p_r v0), (1, p_r v1)] [] s0 _) ?_ h
  intro x1 h
  refine g_goto 62 (dk_State_becomeAs 60 rfl) (by decide) ?_
  refine g_sub [(0, p_r v0), (1, p_r v1), (3, p_i x1)] [1, 2, 0] rfl ?_
  exact hk62 v0 v1 x1 s0 _ h
set_option maxRecDepth 100000 in
set_option maxHeartbeats 4000000 in
theorem tL_State_becomeAs_62 (K : p_K) (l : Launch) (k62 : Nat → Nat → Int → p_Hp → Option p_Hp) (hk62 : ∀ (v0 : Nat) (v1 : Nat) (v3 : Int)  (s0 : p_Hp) (r : p_Hp), k62 v0 v1 v3 s0 = some r → p_Go K l m_State_becomeAs 62 [(0, p_r v0), (1, p_r v1), (3, p_i v3)] [] s0 (none, r)) (v0 : Nat) (v1 : Nat) (v3 : Int) (s0 : p_Hp) (r : p_Hp) (h : L_State_becomeAs_62 k62 v0 v1 v3 s0 = some r) : p_Go K l m_State_becomeAs 62 [(0, p_r v0), (1, p_r v1), (3, p_i v3)] [] s0 (none, r) := by
  unfold L_State_becomeAs_62 at h
  refine g_iload_n (i := 3) (j := 2) (dk_State_becomeAs 34 rfl) rfl rfl ?_
  refine g_bipush (dk_State_becomeAs 35 rfl) (by decide +kernel) (by decide) ?_
  refine g_icmp_gt 114 (dk_State_becomeAs 36 rfl) (by decide) (fun b1 => ?_) (fun b1 => ?_)
  · have h := p_ifT b1 h
    refine g_aload_n (i := 1) (j := 1) (dk_State_becomeAs 61 rfl) rfl rfl ?_
    obtain ⟨c2, h⟩ := p_gdE h
    refine g_getR fl_State_23 (Or.inr ⟨_, rfl⟩) (dk_State_becomeAs 62 rfl) c2 ?_
    refine g_iconst (dk_State_becomeAs 63 rfl) (by decide) ?_
    refine g_aload_n (i := 0) (j := 0) (dk_State_becomeAs 64 rfl) rfl rfl ?_
    obtain ⟨c3, h⟩ := p_gdE h
    refine g_getR fl_State_23 (Or.inr ⟨_, rfl⟩) (dk_State_becomeAs 65 rfl) c3 ?_
    refine g_iconst (dk_State_becomeAs 66 rfl) (by decide) ?_
    refine g_bipush (dk_State_becomeAs 67 rfl) (by decide +kernel) (by decide) ?_
    obtain ⟨c4, h⟩ := p_gdE h
    obtain ⟨c5, h⟩ := p_gdE h
    obtain ⟨c6, h⟩ := p_gdE h
    refine g_arraycopy tw_4_149 tw_3_165 tw_3_164 tw_1_15 (dk_State_becomeAs 68 rfl) (Nat.le_of_ble_eq_true rfl) (Nat.le_of_ble_eq_true rfl) c4 c5 c6.1 c6.2.1 c6.2.2.1 c6.2.2.2.1 c6.2.2.2.2 ?_
    refine p_ltS (P := fun q => p_Go K l m_State_becomeAs 129 [(0, p_r v0), (1, p_r v1), (3, p_i v3)] [] q _) (p_xC _ _ _ _ _ _) ?_ h
    intro s7 hs8 h
    refine g_aload_n (i := 0) (j := 0) (dk_State_becomeAs 69 rfl) rfl rfl ?_
    refine g_getR fl_State_32 (Or.inl ⟨_, rfl⟩) (dk_State_becomeAs 70 rfl) (c3.up hs8) ?_
    refine g_aload_n (i := 1) (j := 1) (dk_State_becomeAs 71 rfl) rfl rfl ?_
    refine g_getR fl_State_32 (Or.inl ⟨_, rfl⟩) (dk_State_becomeAs 72 rfl) (c2.up hs8) ?_
    obtain ⟨c9, h⟩ := p_gdE h
    obtain ⟨s10, q11, h⟩ := p_bvE h
    have t12 := tF_Log_becomeAs K l (p_R s7 v0 7) (p_R s7 v1 7) s7 _ q11
    refine g_callV (a := (p_R s7 v0 7)) (ci := 2) (q0 := (RX2, TX2, 4)) (As := [p_r (p_R s7 v1 7)]) (rest := []) [] mt_Log_becomeAs rfl rfl tw_4_151 tw_4_152 tw_4_150 ⟨Nat.le_of_ble_eq_true rfl, Nat.le_of_ble_eq_true rfl⟩ rfl (Nat.le_of_ble_eq_true rfl) (dk_State_becomeAs 73 rfl) rfl c9 rfl t12 ?_
    have hs13 : p_x s7 s10 := t12.1
    show p_Go K l m_State_becomeAs 140 [(0, p_r v0), (1, p_r v1), (3, p_i v3)] [] s10 _
    refine g_aload_n (i := 0) (j := 0) (dk_State_becomeAs 74 rfl) rfl rfl ?_
    refine g_getR fl_State_36 (Or.inl ⟨_, rfl⟩) (dk_State_becomeAs 75 rfl) (c3.up (hs8.trans hs13)) ?_
    refine g_aload_n (i := 1) (j := 1) (dk_State_becomeAs 76 rfl) rfl rfl ?_
    refine g_getR fl_State_36 (Or.inl ⟨_, rfl⟩) (dk_State_becomeAs 77 rfl) (c2.up (hs8.trans hs13)) ?_
    obtain ⟨c14, h⟩ := p_gdE h
    obtain ⟨s15, q16, h⟩ := p_bvE h
    have t17 := tF_Log_becomeAs K l (p_R s10 v0 8) (p_R s10 v1 8) s10 _ q16
    refine g_callV (a := (p_R s10 v0 8)) (ci := 2) (q0 := (RX2, TX2, 4)) (As := [p_r (p_R s10 v1 8)]) (rest := []) [] mt_Log_becomeAs rfl rfl tw_4_151 tw_4_152 tw_4_150 ⟨Nat.le_of_ble_eq_true rfl, Nat.le_of_ble_eq_true rfl⟩ rfl (Nat.le_of_ble_eq_true rfl) (dk_State_becomeAs 78 rfl) rfl c14 rfl t17 ?_
    have hs18 : p_x s10 s15 := t17.1
    show p_Go K l m_State_becomeAs 151 [(0, p_r v0), (1, p_r v1), (3, p_i v3)] [] s15 _
    cases h
    exact g_ret rfl rfl (dk_State_becomeAs 79 rfl) (fun _ => rfl)
  · have h := p_ifF b1 h
    refine g_aload_n (i := 1) (j := 1) (dk_State_becomeAs 37 rfl) rfl rfl ?_
    obtain ⟨c19, h⟩ := p_gdE h
    refine g_getR fl_State_19 (Or.inr ⟨_, rfl⟩) (dk_State_becomeAs 38 rfl) c19 ?_
    refine g_iload_n (i := 3) (j := 2) (dk_State_becomeAs 39 rfl) rfl rfl ?_
    obtain ⟨c20, h⟩ := p_gdE h
    obtain ⟨c21, h⟩ := p_gdE h
    refine g_aaload (i := 6) rfl (Or.inl ⟨_, rfl⟩) (dk_State_becomeAs 40 rfl) c20 c21.1 c21.2 ?_
    obtain ⟨c22, h⟩ := p_gdE h
    refine g_getI fl_State_60 (Or.inl rfl) (dk_State_becomeAs 41 rfl) c22 ?_
    refine g_if_ne 93 (dk_State_becomeAs 42 rfl) (by decide) (fun b23 => ?_) (fun b23 => ?_)
    · have h := p_ifT b23 h
      refine g_aload_n (i := 0) (j := 0) (dk_State_becomeAs 50 rfl) rfl rfl ?_
      obtain ⟨c24, h⟩ := p_gdE h
      refine g_getR fl_State_19 (Or.inr ⟨_, rfl⟩) (dk_State_becomeAs 51 rfl) c24 ?_
      refine g_iload_n (i := 3) (j := 2) (dk_State_becomeAs 52 rfl) rfl rfl ?_
      obtain ⟨c25, h⟩ := p_gdE h
      obtain ⟨c26, h⟩ := p_gdE h
      refine g_aaload (i := 6) rfl (Or.inl ⟨_, rfl⟩) (dk_State_becomeAs 53 rfl) c25 c26.1 c26.2 ?_
      refine g_aload_n (i := 1) (j := 1) (dk_State_becomeAs 54 rfl) rfl rfl ?_
      refine g_getR fl_State_19 (Or.inr ⟨_, rfl⟩) (dk_State_becomeAs 55 rfl) c19 ?_
      refine g_iload_n (i := 3) (j := 2) (dk_State_becomeAs 56 rfl) rfl rfl ?_
      obtain ⟨c27, h⟩ := p_gdE h
      refine g_aaload (i := 6) rfl (Or.inl ⟨_, rfl⟩) (dk_State_becomeAs 57 rfl) c20 c27.1 c27.2 ?_
      obtain ⟨c28, h⟩ := p_gdE h
      obtain ⟨s29, q30, h⟩ := p_bvE h
      have t31 := tF_Parcel_becomeAs K l (p_R s0 (p_R s0 v0 5) (v3 : Int).toNat) (p_R s0 (p_R s0 v1 5) (v3 : Int).toNat) s0 _ q30
      refine g_callV (a := (p_R s0 (p_R s0 v0 5) (v3 : Int).toNat)) (ci := 4) (q0 := (RX4, TX4, 13)) (As := [p_r (p_R s0 (p_R s0 v1 5) (v3 : Int).toNat)]) (rest := []) [] mt_Parcel_becomeAs rfl rfl tw_4_145 tw_4_146 tw_4_144 ⟨Nat.le_of_ble_eq_true rfl, Nat.le_of_ble_eq_true rfl⟩ rfl (Nat.le_of_ble_eq_true rfl) (dk_State_becomeAs 58 rfl) rfl c28 rfl t31 ?_
      have hs32 : p_x s0 s29 := t31.1
      show p_Go K l m_State_becomeAs 108 [(0, p_r v0), (1, p_r v1), (3, p_i v3)] [] s29 _
      exact tB_State_becomeAs_108 K l k62 hk62 v0 v1 v3 s29 _ h
    · have h := p_ifF b23 h
      refine g_aload_n (i := 0) (j := 0) (dk_State_becomeAs 43 rfl) rfl rfl ?_
      obtain ⟨c33, h⟩ := p_gdE h
      refine g_getR fl_State_19 (Or.inr ⟨_, rfl⟩) (dk_State_becomeAs 44 rfl) c33 ?_
      refine g_iload_n (i := 3) (j := 2) (dk_State_becomeAs 45 rfl) rfl rfl ?_
      obtain ⟨c34, h⟩ := p_gdE h
      obtain ⟨c35, h⟩ := p_gdE h
      refine g_aaload (i := 6) rfl (Or.inl ⟨_, rfl⟩) (dk_State_becomeAs 46 rfl) c34 c35.1 c35.2 ?_
      refine g_iconst (dk_State_becomeAs 47 rfl) (by decide) ?_
      obtain ⟨c36, h⟩ := p_gdE h
      refine g_putI fl_State_60 (Or.inl rfl) (dk_State_becomeAs 48 rfl) c36 ?_
      refine p_ltS (P := fun q => p_Go K l m_State_becomeAs 90 [(0, p_r v0), (1, p_r v1), (3, p_i v3)] [] q _) (p_xZ _ _ _ _) ?_ h
      intro s37 hs38 h
      refine g_goto 108 (dk_State_becomeAs 49 rfl) (by decide) ?_
      exact tB_State_becomeAs_108 K l k62 hk62 v0 v1 v3 s37 _ h
set_option maxRecDepth 100000 in
set_option maxHeartbeats 4000000 in
theorem tO_State_becomeAs_62 (K : p_K) (l : Launch)  : ∀ (n : Nat) (v0 : Nat) (v1 : Nat) (v3 : Int) (s0 : p_Hp) (r : p_Hp), O_State_becomeAs_62 n v0 v1 v3 s0 = some r → p_Go K l m_State_becomeAs 62 [(0, p_r v0), (1, p_r v1), (3, p_i v3)] [] s0 (none, r) := by
  intro n
  induction n with
  | zero => intro v0 v1 v3 s0 r h; cases (show (none : Option p_Hp) = some r from h)
  | succ n ih => intro v0 v1 v3 s0 r h; exact tL_State_becomeAs_62 K l _ ih v0 v1 v3 s0 r h
set_option maxRecDepth 100000 in
set_option maxHeartbeats 4000000 in
theorem tL_State_becomeAs_34 (K : p_K) (l : Launch) (k34 : Nat → Nat → Int → Int → p_Hp → Option p_Hp) (hk34 : ∀ (v0 : Nat) (v1 : Nat) (v2 : Int) (v3 : Int)  (s0 : p_Hp) (r : p_Hp), k34 v0 v1 v2 v3 s0 = some r → p_Go K l m_State_becomeAs 34 [(0, p_r v0), (1, p_r v1), (2, p_i v2), (3, p_i v3)] [] s0 (none, r)) (v0 : Nat) (v1 : Nat) (v2 : Int) (v3 : Int) (s0 : p_Hp) (r : p_Hp) (h : L_State_becomeAs_34 k34 v0 v1 v2 v3 s0 = some r) : p_Go K l m_State_becomeAs 34 [(0, p_r v0), (1, p_r v1), (2, p_i v2), (3, p_i v3)] [] s0 (none, r) := by
  unfold L_State_becomeAs_34 at h
  refine g_iload_n (i := 3) (j := 3) (dk_State_becomeAs 18 rfl) rfl rfl ?_
  refine g_iload_n (i := 2) (j := 2) (dk_State_becomeAs 19 rfl) rfl rfl ?_
  refine g_icmp_ge 60 (dk_State_becomeAs 20 rfl) (by decide) (fun b1 => ?_) (fun b1 => ?_)
  · have h := p_ifT b1 h
    refine g_iconst (dk_State_becomeAs 32 rfl) (by decide) ?_
    refine g_istore_n (i := 3) [(3, p_i 1), (0, p_r v0), (1, p_r v1), (2, p_i v2)] (dk_State_becomeAs 33 rfl) rfl (by decide) rfl ?_
    refine g_sub [(0, p_r v0), (1, p_r v1), (3, p_i 1)] [1, 2, 0] rfl ?_
    exact tO_State_becomeAs_62 K l 3000 v0 v1 1 s0 _ h
  · have h := p_ifF b1 h
    refine g_aload_n (i := 0) (j := 0) (dk_State_becomeAs 21 rfl) rfl rfl ?_
    obtain ⟨c2, h⟩ := p_gdE h
    refine g_getR fl_State_11 (Or.inr ⟨_, rfl⟩) (dk_State_becomeAs 22 rfl) c2 ?_
    refine g_iload_n (i := 3) (j := 3) (dk_State_becomeAs 23 rfl) rfl rfl ?_
    obtain ⟨c3, h⟩ := p_gdE h
    obtain ⟨c4, h⟩ := p_gdE h
    refine g_aaload (i := 5) rfl (Or.inl ⟨_, rfl⟩) (dk_State_becomeAs 24 rfl) c3 c4.1 c4.2 ?_
    refine g_aload_n (i := 1) (j := 1) (dk_State_becomeAs 25 rfl) rfl rfl ?_
    obtain ⟨c5, h⟩ := p_gdE h
    refine g_getR fl_State_11 (Or.inr ⟨_, rfl⟩) (dk_State_becomeAs 26 rfl) c5 ?_
    refine g_iload_n (i := 3) (j := 3) (dk_State_becomeAs 27 rfl) rfl rfl ?_
    obtain ⟨c6, h⟩ := p_gdE h
    obtain ⟨c7, h⟩ := p_gdE h
    refine g_aaload (i := 5) rfl (Or.inl ⟨_, rfl⟩) (dk_State_becomeAs 28 rfl) c6 c7.1 c7.2 ?_
    obtain ⟨c8, h⟩ := p_gdE h
    obtain ⟨s9, q10, h⟩ := p_bvE h
    have t11 := tF_Gear_becomeAs K l (p_R s0 (p_R s0 v0 4) (v3 : Int).toNat) (p_R s0 (p_R s0 v1 4) (v3 : Int).toNat) s0 _ q10
    refine g_callV (a := (p_R s0 (p_R s0 v0 4) (v3 : Int).toNat)) (ci := 0) (q0 := (RX0, TX0, 19)) (As := [p_r (p_R s0 (p_R s0 v1 4) (v3 : Int).toNat)]) (rest := []) [] mt_Gear_becomeAs rfl rfl tw_4_140 tw_4_141 tw_4_139 ⟨Nat.le_of_ble_eq_true rfl, Nat.le_of_ble_eq_true rfl⟩ rfl (Nat.le_of_ble_eq_true rfl) (dk_State_becomeAs 29 rfl) rfl c8 rfl t11 ?_
    have hs12 : p_x s0 s9 := t11.1
    show p_Go K l m_State_becomeAs 54 [(0, p_r v0), (1, p_r v1), (2, p_i v2), (3, p_i v3)] [] s9 _
    refine g_iinc (j := 3) [(3, p_i (p_w (v3 + 1))), (0, p_r v0), (1, p_r v1), (2, p_i v2)] (dk_State_becomeAs 30 rfl) rfl (by decide) rfl ?_
    refine p_ltG (P := fun q => p_Go K l m_State_becomeAs 57 [(3, p_i q), (0, p_r v0), (1, p_r v1), (2, p_i v2)] [] s9 _) ?_ h
    intro x13 h
    refine g_goto 34 (dk_State_becomeAs 31 rfl) (by decide) ?_
    refine g_sub [(0, p_r v0), (1, p_r v1), (2, p_i v2), (3, p_i x13)] [1, 2, 3, 0] rfl ?_
    exact hk34 v0 v1 v2 x13 s9 _ h
set_option maxRecDepth 100000 in
set_option maxHeartbeats 4000000 in
theorem tO_State_becomeAs_34 (K : p_K) (l : Launch)  : ∀ (n : Nat) (v0 : Nat) (v1 : Nat) (v2 : Int) (v3 : Int) (s0 : p_Hp) (r : p_Hp), O_State_becomeAs_34 n v0 v1 v2 v3 s0 = some r → p_Go K l m_State_becomeAs 34 [(0, p_r v0), (1, p_r v1), (2, p_i v2), (3, p_i v3)] [] s0 (none, r) := by
  intro n
  induction n with
  | zero => intro v0 v1 v2 v3 s0 r h; cases (show (none : Option p_Hp) = some r from h)
  | succ n ih => intro v0 v1 v2 v3 s0 r h; exact tL_State_becomeAs_34 K l _ ih v0 v1 v2 v3 s0 r h
set_option maxRecDepth 100000 in
set_option maxHeartbeats 4000000 in
theorem tF_State_becomeAs (K : p_K) (l : Launch) (v0 : Nat) (v1 : Nat) (v2 : Int) (s0 : p_Hp) (r : p_Hp) (h : F_State_becomeAs v0 v1 v2 s0 = some r) : p_Ct K l m_State_becomeAs [p_r v0, p_r v1, p_i v2] s0 (none, r) := by
  refine p_Ct.of (by decide +kernel) (Nat.le_of_ble_eq_true rfl) ?_
  unfold F_State_becomeAs at h
  show p_Go K l m_State_becomeAs 0 [(0, p_r v0), (1, p_r v1), (2, p_i v2)] [] s0 _
  refine g_aload_n (i := 0) (j := 0) (dk_State_becomeAs 0 rfl) rfl rfl ?_
  refine g_aload_n (i := 1) (j := 1) (dk_State_becomeAs 1 rfl) rfl rfl ?_
  obtain ⟨c1, h⟩ := p_gdE h
  refine g_getI fl_State_43 (Or.inl rfl) (dk_State_becomeAs 2 rfl) c1 ?_
  obtain ⟨c2, h⟩ := p_gdE h
  refine g_putI fl_State_43 (Or.inl rfl) (dk_State_becomeAs 3 rfl) c2 ?_
  refine p_ltS (P := fun q => p_Go K l m_State_becomeAs 8 [(0, p_r v0), (1, p_r v1), (2, p_i v2)] [] q _) (p_xZ _ _ _ _) ?_ h
  intro s3 hs4 h
  refine g_aload_n (i := 0) (j := 0) (dk_State_becomeAs 4 rfl) rfl rfl ?_
  refine g_aload_n (i := 1) (j := 1) (dk_State_becomeAs 5 rfl) rfl rfl ?_
  refine g_getI fl_State_47 (Or.inl rfl) (dk_State_becomeAs 6 rfl) (c1.up hs4) ?_
  refine g_putI fl_State_47 (Or.inl rfl) (dk_State_becomeAs 7 rfl) (c2.up hs4) ?_
  refine p_ltS (P := fun q => p_Go K l m_State_becomeAs 16 [(0, p_r v0), (1, p_r v1), (2, p_i v2)] [] q _) (p_xZ _ _ _ _) ?_ h
  intro s5 hs6 h
  refine g_aload_n (i := 0) (j := 0) (dk_State_becomeAs 8 rfl) rfl rfl ?_
  refine g_aload_n (i := 1) (j := 1) (dk_State_becomeAs 9 rfl) rfl rfl ?_
  refine g_getI fl_State_50 (Or.inl rfl) (dk_State_becomeAs 10 rfl) (c1.up (hs4.trans hs6)) ?_
  refine g_putI fl_State_50 (Or.inl rfl) (dk_State_becomeAs 11 rfl) (c2.up (hs4.trans hs6)) ?_
  refine p_ltS (P := fun q => p_Go K l m_State_becomeAs 24 [(0, p_r v0), (1, p_r v1), (2, p_i v2)] [] q _) (p_xZ _ _ _ _) ?_ h
  intro s7 hs8 h
  refine g_aload_n (i := 0) (j := 0) (dk_State_becomeAs 12 rfl) rfl rfl ?_
  refine g_aload_n (i := 1) (j := 1) (dk_State_becomeAs 13 rfl) rfl rfl ?_
  refine g_getI fl_State_53 (Or.inl rfl) (dk_State_becomeAs 14 rfl) (c1.up (hs4.trans (hs6.trans hs8))) ?_
  refine g_putI fl_State_53 (Or.inl rfl) (dk_State_becomeAs 15 rfl) (c2.up (hs4.trans (hs6.trans hs8))) ?_
  refine p_ltS (P := fun q => p_Go K l m_State_becomeAs 32 [(0, p_r v0), (1, p_r v1), (2, p_i v2)] [] q _) (p_xZ _ _ _ _) ?_ h
  intro s9 hs10 h
  refine g_iconst (dk_State_becomeAs 16 rfl) (by decide) ?_
  refine g_istore_n (i := 3) [(3, p_i 0), (0, p_r v0), (1, p_r v1), (2, p_i v2)] (dk_State_becomeAs 17 rfl) rfl (by decide) rfl ?_
  refine g_sub [(0, p_r v0), (1, p_r v1), (2, p_i v2), (3, p_i 0)] [1, 2, 3, 0] rfl ?_
  exact tO_State_becomeAs_34 K l 3000 v0 v1 v2 0 s9 _ h
def m_Works_keep : p_Me := (⟨"SortWorks$Works", "keep", "(I)V"⟩, prog_11_method_5_code, 2, none, 3, 104)
theorem mt_Works_keep : p_Mt m_Works_keep 1 := ⟨p_mem (p_tb4 (List.mem_of_getElem? (i := 134) rfl)) rfl, tw_1_2, by decide +kernel, by decide +kernel, by decide +kernel⟩
def dt_Works_keep : List (Nat × Instr × Nat) := [(0, .aload_n 0, 1), (1, .getfield 46, 3), (4, .aload_n 0, 1), (5, .getfield 95, 3), (8, .aaload, 1), (9, .ifnonnull 19, 3), (12, .aload_n 0, 1), (13, .getfield 46, 3), (16, .aload_n 0, 1), (17, .getfield 95, 3), (20, .new 9, 3), (23, .dup, 1), (24, .invokespecial 11, 3), (27, .aastore, 1), (28, .aload_n 0, 1), (29, .getfield 12, 3), (32, .iload_n 1, 1), (33, .putfield 98, 3), (36, .aload_n 0, 1), (37, .getfield 46, 3), (40, .aload_n 0, 1), (41, .getfield 95, 3), (44, .aaload, 1), (45, .aload_n 0, 1), (46, .getfield 12, 3), (49, .aload_n 0, 1), (50, .getfield 57, 3), (53, .invokevirtual 101, 3), (56, .aload_n 0, 1), (57, .aload_n 0, 1), (58, .getfield 95, 3), (61, .iconst 1, 1), (62, .iadd, 1), (63, .bipush 30, 2), (65, .irem, 1), (66, .putfield 95, 3), (69, .aload_n 0, 1), (70, .aload_n 0, 1), (71, .getfield 104, 3), (74, .iconst 1, 1), (75, .iadd, 1), (76, .bipush 30, 2), (78, .invokestatic 107, 3), (81, .putfield 104, 3), (84, .return_, 1)]
theorem dk_Works_keep (i : Nat) {pc : Nat} {ins : Instr} {len : Nat} (h : dt_Works_keep[i]? = some (pc, ins, len)) : decode m_Works_keep.2.1 pc = .ok (ins, len) := p_dk (b := m_Works_keep.2.1) (t := dt_Works_keep) (by decide +kernel) i h
def B_Works_keep_28  (v0 : Nat) (v1 : Int) (s0 : p_Hp) : Option p_Hp :=
  p_gd (p_is s0 v0 9) <|
  p_gd (p_is s0 (p_R s0 v0 1) 7) <|
  p_bi (p_wZ s0 (p_R s0 v0 1) 3 v1) fun s3 =>
  p_gd (p_is s3 (p_R s3 v0 12) 107) <|
  p_gd ((0 : Int) ≤ (p_Z s3 v0 13) ∧ (p_Z s3 v0 13) < (p_L s3 (p_R s3 v0 12) : Int)) <|
  p_gd (p_is s3 (p_R s3 (p_R s3 v0 12) ((p_Z s3 v0 13) : Int).toNat) 7) <|
  p_bv (F_State_becomeAs (p_R s3 (p_R s3 v0 12) ((p_Z s3 v0 13) : Int).toNat) (p_R s3 v0 1) (p_Z s3 v0 2) s3) fun s8 =>
  p_bi (p_wZ s8 v0 13 (p_rem (p_w ((p_Z s8 v0 13) + 1)) 30)) fun s12 =>
  p_bd (F_Ma_min (p_w ((p_Z s12 v0 14) + 1)) 30 s12) fun r18 s14 =>
  p_bi (p_wZ s14 v0 14 r18) fun s19 =>
  some s19
def F_Works_keep (v0 : Nat) (v1 : Int) (s0 : p_Hp) : Option p_Hp :=
  p_gd (p_is s0 v0 9) <|
  p_gd (p_is s0 (p_R s0 v0 12) 107) <|
  p_gd ((0 : Int) ≤ (p_Z s0 v0 13) ∧ (p_Z s0 v0 13) < (p_L s0 (p_R s0 v0 12) : Int)) <|
  if (p_R s0 (p_R s0 v0 12) ((p_Z s0 v0 13) : Int).toNat) ≠ 0 then
    B_Works_keep_28 v0 v1 s0
  else
    p_bi (p_nw s0 7 9) fun s5 =>
    p_bv (F_State_init (p_N s0 + 1) s5) fun s7 =>
    p_gd (p_is s7 (p_N s0 + 1) 7) <|
    p_gd ((0 : Int) ≤ (p_Z s0 v0 13) ∧ (p_Z s0 v0 13) < (p_L s7 (p_R s0 v0 12) : Int)) <|
    p_bi (p_wR s7 (p_R s0 v0 12) ((p_Z s0 v0 13) : Int).toNat (p_N s0 + 1)) fun s13 =>
    B_Works_keep_28 v0 v1 s13
set_option maxRecDepth 100000 in
set_option maxHeartbeats 4000000 in
theorem tB_Works_keep_28 (K : p_K) (l : Launch)  (v0 : Nat) (v1 : Int) (s0 : p_Hp) (r : p_Hp) (h : B_Works_keep_28 v0 v1 s0 = some r) : p_Go K l m_Works_keep 28 [(0, p_r v0), (1, p_i v1)] [] s0 (none, r) := by
  unfold B_Works_keep_28 at h
  refine g_aload_n (i := 0) (j := 0) (dk_Works_keep 14 rfl) rfl rfl ?_
  obtain ⟨c1, h⟩ := p_gdE h
  refine g_getR fl_Works_12 (Or.inl ⟨_, rfl⟩) (dk_Works_keep 15 rfl) c1 ?_
  refine g_iload_n (i := 1) (j := 1) (dk_Works_keep 16 rfl) rfl rfl ?_
  obtain ⟨c2, h⟩ := p_gdE h
  refine g_putI fl_Works_98 (Or.inl rfl) (dk_Works_keep 17 rfl) c2 ?_
  refine p_ltS (P := fun q => p_Go K l m_Works_keep 36 [(0, p_r v0), (1, p_i v1)] [] q _) (p_xZ _ _ _ _) ?_ h
  intro s3 hs4 h
  refine g_aload_n (i := 0) (j := 0) (dk_Works_keep 18 rfl) rfl rfl ?_
  refine g_getR fl_Works_46 (Or.inr ⟨_, rfl⟩) (dk_Works_keep 19 rfl) (c1.up hs4) ?_
  refine g_aload_n (i := 0) (j := 0) (dk_Works_keep 20 rfl) rfl rfl ?_
  refine g_getI fl_Works_95 (Or.inl rfl) (dk_Works_keep 21 rfl) (c1.up hs4) ?_
  obtain ⟨c5, h⟩ := p_gdE h
  obtain ⟨c6, h⟩ := p_gdE h
  refine g_aaload (i := 7) rfl (Or.inl ⟨_, rfl⟩) (dk_Works_keep 22 rfl) c5 c6.1 c6.2 ?_
  refine g_aload_n (i := 0) (j := 0) (dk_Works_keep 23 rfl) rfl rfl ?_
  refine g_getR fl_Works_12 (Or.inl ⟨_, rfl⟩) (dk_Works_keep 24 rfl) (c1.up hs4) ?_
  refine g_aload_n (i := 0) (j := 0) (dk_Works_keep 25 rfl) rfl rfl ?_
  refine g_getI fl_Works_57 (Or.inl rfl) (dk_Works_keep 26 rfl) (c1.up hs4) ?_
  obtain ⟨c7, h⟩ := p_gdE h
  obtain ⟨s8, q9, h⟩ := p_bvE h
  have t10 := tF_State_becomeAs K l (p_R s3 (p_R s3 v0 12) ((p_Z s3 v0 13) : Int).toNat) (p_R s3 v0 1) (p_Z s3 v0 2) s3 _ q9
  refine g_callV (a := (p_R s3 (p_R s3 v0 12) ((p_Z s3 v0 13) : Int).toNat)) (ci := 7) (q0 := (RX7, TX7, 9)) (As := [p_r (p_R s3 v0 1), p_i (p_Z s3 v0 2)]) (rest := []) [] mt_State_becomeAs rfl rfl tw_4_136 tw_4_137 tw_4_135 ⟨Nat.le_of_ble_eq_true rfl, Nat.le_of_ble_eq_true rfl⟩ rfl (Nat.le_of_ble_eq_true rfl) (dk_Works_keep 27 rfl) rfl c7 rfl t10 ?_
  have hs11 : p_x s3 s8 := t10.1
  show p_Go K l m_Works_keep 56 [(0, p_r v0), (1, p_i v1)] [] s8 _
  refine g_aload_n (i := 0) (j := 0) (dk_Works_keep 28 rfl) rfl rfl ?_
  refine g_aload_n (i := 0) (j := 0) (dk_Works_keep 29 rfl) rfl rfl ?_
  refine g_getI fl_Works_95 (Or.inl rfl) (dk_Works_keep 30 rfl) (c1.up (hs4.trans hs11)) ?_
  refine g_iconst (dk_Works_keep 31 rfl) (by decide) ?_
  refine g_iadd (dk_Works_keep 32 rfl) ?_
  refine g_bipush (dk_Works_keep 33 rfl) (by decide +kernel) (by decide) ?_
  refine g_irem (dk_Works_keep 34 rfl) (by decide) ?_
  refine g_putI fl_Works_95 (Or.inl rfl) (dk_Works_keep 35 rfl) (c1.up (hs4.trans hs11)) ?_
  refine p_ltS (P := fun q => p_Go K l m_Works_keep 69 [(0, p_r v0), (1, p_i v1)] [] q _) (p_xZ _ _ _ _) ?_ h
  intro s12 hs13 h
  refine g_aload_n (i := 0) (j := 0) (dk_Works_keep 36 rfl) rfl rfl ?_
  refine g_aload_n (i := 0) (j := 0) (dk_Works_keep 37 rfl) rfl rfl ?_
  refine g_getI fl_Works_104 (Or.inl rfl) (dk_Works_keep 38 rfl) (c1.up (hs4.trans (hs11.trans hs13))) ?_
  refine g_iconst (dk_Works_keep 39 rfl) (by decide) ?_
  refine g_iadd (dk_Works_keep 40 rfl) ?_
  refine g_bipush (dk_Works_keep 41 rfl) (by decide +kernel) (by decide) ?_
  obtain ⟨r18, s14, q15, h⟩ := p_bdE h
  have t16 := tF_Ma_min K l (p_w ((p_Z s12 v0 14) + 1)) 30 s12 _ q15
  refine g_callS (av := [p_i (p_w ((p_Z s12 v0 14) + 1)), p_i 30]) (rest := [p_r v0]) [p_i r18, p_r v0] mt_Ma_min tw_3_161 tw_4_155 ⟨Nat.le_of_ble_eq_true rfl, Nat.le_of_ble_eq_true rfl⟩ rfl (Nat.le_of_ble_eq_true rfl) (dk_Works_keep 42 rfl) rfl rfl t16 ?_
  have hs17 : p_x s12 s14 := t16.1
  show p_Go K l m_Works_keep 81 [(0, p_r v0), (1, p_i v1)] [p_i r18, p_r v0] s14 _
  refine g_putI fl_Works_104 (Or.inl rfl) (dk_Works_keep 43 rfl) (c1.up (hs4.trans (hs11.trans (hs13.trans hs17)))) ?_
  refine p_ltS (P := fun q => p_Go K l m_Works_keep 84 [(0, p_r v0), (1, p_i v1)] [] q _) (p_xZ _ _ _ _) ?_ h
  intro s19 hs20 h
  cases h
  exact g_ret rfl rfl (dk_Works_keep 44 rfl) (fun _ => rfl)
set_option maxRecDepth 100000 in
set_option maxHeartbeats 4000000 in
theorem tF_Works_keep (K : p_K) (l : Launch) (v0 : Nat) (v1 : Int) (s0 : p_Hp) (r : p_Hp) (h : F_Works_keep v0 v1 s0 = some r) : p_Ct K l m_Works_keep [p_r v0, p_i v1] s0 (none, r) := by
  refine p_Ct.of (by decide +kernel) (Nat.le_of_ble_eq_true rfl) ?_
  unfold F_Works_keep at h
  show p_Go K l m_Works_keep 0 [(0, p_r v0), (1, p_i v1)] [] s0 _
  refine g_aload_n (i := 0) (j := 0) (dk_Works_keep 0 rfl) rfl rfl ?_
  obtain ⟨c1, h⟩ := p_gdE h
  refine g_getR fl_Works_46 (Or.inr ⟨_, rfl⟩) (dk_Works_keep 1 rfl) c1 ?_
  refine g_aload_n (i := 0) (j := 0) (dk_Works_keep 2 rfl) rfl rfl ?_
  refine g_getI fl_Works_95 (Or.inl rfl) (dk_Works_keep 3 rfl) c1 ?_
  obtain ⟨c2, h⟩ := p_gdE h
  obtain ⟨c3, h⟩ := p_gdE h
  refine g_aaload (i := 7) rfl (Or.inl ⟨_, rfl⟩) (dk_Works_keep 4 rfl) c2 c3.1 c3.2 ?_
  refine g_ifnonnull 28 (dk_Works_keep 5 rfl) (by decide) (fun b4 => ?_) (fun b4 => ?_)
  · have h := p_ifT b4 h
    exact tB_Works_keep_28 K l v0 v1 s0 _ h
  · have h := p_ifF b4 h
    refine g_aload_n (i := 0) (j := 0) (dk_Works_keep 6 rfl) rfl rfl ?_
    refine g_getR fl_Works_46 (Or.inr ⟨_, rfl⟩) (dk_Works_keep 7 rfl) c1 ?_
    refine g_aload_n (i := 0) (j := 0) (dk_Works_keep 8 rfl) rfl rfl ?_
    refine g_getI fl_Works_95 (Or.inl rfl) (dk_Works_keep 9 rfl) c1 ?_
    refine g_new cl_7 tw_1_32 (dk_Works_keep 10 rfl) ?_
    refine p_ltS (P := fun q => p_Go K l m_Works_keep 23 [(0, p_r v0), (1, p_i v1)] [p_r (p_N s0 + 1), p_i (p_Z s0 v0 13), p_r (p_R s0 v0 12)] q _) (p_x_nw _ _ _) ?_ h
    intro s5 hs6 h
    refine g_dup (dk_Works_keep 11 rfl) rfl ?_
    obtain ⟨s7, q8, h⟩ := p_bvE h
    have t9 := tF_State_init K l (p_N s0 + 1) s5 _ q8
    refine g_callI (a := (p_N s0 + 1)) (As := []) (rest := [p_r (p_N s0 + 1), p_i (p_Z s0 v0 13), p_r (p_R s0 v0 12)]) [p_r (p_N s0 + 1), p_i (p_Z s0 v0 13), p_r (p_R s0 v0 12)] mt_State_init tw_1_35 tw_1_34 rfl rfl ⟨Nat.le_of_ble_eq_true rfl, Nat.le_of_ble_eq_true rfl⟩ rfl (Nat.le_of_ble_eq_true rfl) (dk_Works_keep 12 rfl) rfl (Nat.le_add_left _ _) rfl t9 ?_
    have hs10 : p_x s5 s7 := t9.1
    show p_Go K l m_Works_keep 27 [(0, p_r v0), (1, p_i v1)] [p_r (p_N s0 + 1), p_i (p_Z s0 v0 13), p_r (p_R s0 v0 12)] s7 _
    obtain ⟨c11, h⟩ := p_gdE h
    obtain ⟨c12, h⟩ := p_gdE h
    refine g_aastore (i := 7) (ci := 7) (q := (RX7, TX7, 9)) rfl rfl (dk_Works_keep 13 rfl) (c2.up (hs6.trans hs10)) c11 c12.1 c12.2 ?_
    refine p_ltS (P := fun q => p_Go K l m_Works_keep 28 [(0, p_r v0), (1, p_i v1)] [] q _) (p_xR _ _ _ _) ?_ h
    intro s13 hs14 h
    exact tB_Works_keep_28 K l v0 v1 s13 _ h
def m_Step_run : p_Me := (⟨"SortWorks$Step", "run", "(LSortWorks$Works;LSortWorks$Numbers;)I"⟩, prog_10_method_2_code, 5, (some .int), 6, 146)
theorem mt_Step_run : p_Mt m_Step_run 2 := ⟨p_mem (p_tb4 (List.mem_of_getElem? (i := 130) rfl)) rfl, tw_1_9, by decide +kernel, by decide +kernel, by decide +kernel⟩
def dt_Step_run : List (Nat × Instr × Nat) := [(0, .aload_n 0, 1), (1, .aload_n 1, 1), (2, .putfield 18, 3), (5, .aload_n 0, 1), (6, .aload_n 1, 1), (7, .getfield 22, 3), (10, .putfield 28, 3), (13, .aload_n 0, 1), (14, .aload_n 2, 1), (15, .putfield 29, 3), (18, .aload_n 0, 1), (19, .getfield 28, 3), (22, .getfield 33, 3), (25, .getfield 39, 3), (28, .istore_n 3, 1), (29, .aload_n 0, 1), (30, .getfield 18, 3), (33, .aload_n 0, 1), (34, .getfield 29, 3), (37, .getfield 45, 3), (40, .invokevirtual 50, 3), (43, .aload_n 0, 1), (44, .getfield 28, 3), (47, .dup, 1), (48, .getfield 54, 3), (51, .iconst 1, 1), (52, .iadd, 1), (53, .putfield 54, 3), (56, .aload_n 0, 1), (57, .getfield 18, 3), (60, .iconst 0, 1), (61, .putfield 57, 3), (64, .iconst 1, 1), (65, .istore 4, 2), (67, .iload 4, 2), (69, .bipush 30, 2), (71, .if_icmp .gt 23, 3), (74, .aload_n 0, 1), (75, .getfield 28, 3), (78, .getfield 60, 3), (81, .iload 4, 2), (83, .aaload, 1), (84, .iconst 0, 1), (85, .putfield 64, 3), (88, .iinc 4 1, 3), (91, .goto (-24), 3), (94, .iconst 0, 1), (95, .istore 4, 2), (97, .iload 4, 2), (99, .aload_n 0, 1), (100, .getfield 18, 3), (103, .getfield 70, 3), (106, .if_icmp .ge 15, 3), (109, .aload_n 0, 1), (110, .iload 4, 2), (112, .invokevirtual 73, 3), (115, .iinc 4 1, 3), (118, .goto (-21), 3), (121, .aload_n 0, 1), (122, .invokevirtual 76, 3), (125, .iconst 0, 1), (126, .istore 4, 2), (128, .iload 4, 2), (130, .aload_n 0, 1), (131, .getfield 18, 3), (134, .getfield 79, 3), (137, .if_icmp .ge 32, 3), (140, .aload_n 0, 1), (141, .aload_n 0, 1), (142, .getfield 28, 3), (145, .getfield 82, 3), (148, .iload 4, 2), (150, .aaload, 1), (151, .invokevirtual 86, 3), (154, .ifCond .eq 9, 3), (157, .aload_n 0, 1), (158, .iload 4, 2), (160, .invokevirtual 90, 3), (163, .iinc 4 1, 3), (166, .goto (-38), 3), (169, .aload_n 0, 1), (170, .getfield 28, 3), (173, .getfield 33, 3), (176, .getfield 39, 3), (179, .iload_n 3, 1), (180, .isub, 1), (181, .ireturn, 1)]
theorem dk_Step_run (i : Nat) {pc : Nat} {ins : Instr} {len : Nat} (h : dt_Step_run[i]? = some (pc, ins, len)) : decode m_Step_run.2.1 pc = .ok (ins, len) := p_dk (b := m_Step_run.2.1) (t := dt_Step_run) (by decide +kernel) i h
def B_Step_run_163 (k128 : Nat → Int → Int → p_Hp → Option (Int × p_Hp)) (v0 : Nat) (v3 : Int) (v4 : Int) (s0 : p_Hp) : Option (Int × p_Hp) :=
  p_bi (p_w (v4 + 1)) fun x1 =>
  k128 v0 v3 x1 s0
def L_Step_run_128 (k128 : Nat → Int → Int → p_Hp → Option (Int × p_Hp)) (v0 : Nat) (v3 : Int) (v4 : Int) (s0 : p_Hp) : Option (Int × p_Hp) :=
  p_gd (p_is s0 v0 8) <|
  p_gd (p_is s0 (p_R s0 v0 2) 9) <|
  if (p_Z s0 (p_R s0 v0 2) 2) ≤ v4 then
    p_gd (p_is s0 (p_R s0 v0 3) 7) <|
    p_gd (p_is s0 (p_R s0 (p_R s0 v0 3) 7) 2) <|
    some ((p_w ((p_Z s0 (p_R s0 (p_R s0 v0 3) 7) 3) - v3)), s0)
  else
    p_gd (p_is s0 (p_R s0 v0 3) 7) <|
    p_gd (p_is s0 (p_R s0 (p_R s0 v0 3) 4) 105) <|
    p_gd ((0 : Int) ≤ v4 ∧ v4 < (p_L s0 (p_R s0 (p_R s0 v0 3) 4) : Int)) <|
    p_bd (F_Step_isInStep v0 (p_R s0 (p_R s0 (p_R s0 v0 3) 4) (v4 : Int).toNat) s0) fun r13 s9 =>
    if r13 = 0 then
      B_Step_run_163 k128 v0 v3 v4 s9
    else
      p_bv (F_Step_act v0 v4 s9) fun s15 =>
      B_Step_run_163 k128 v0 v3 v4 s15
def O_Step_run_128  : Nat → Nat → Int → Int → p_Hp → Option (Int × p_Hp)
  | 0 => fun _ _ _ _ => none
  | n + 1 => L_Step_run_128 (O_Step_run_128 n)
def L_Step_run_97 (k97 : Nat → Int → Int → p_Hp → Option (Int × p_Hp)) (v0 : Nat) (v3 : Int) (v4 : Int) (s0 : p_Hp) : Option (Int × p_Hp) :=
  p_gd (p_is s0 v0 8) <|
  p_gd (p_is s0 (p_R s0 v0 2) 9) <|
  if (p_Z s0 (p_R s0 v0 2) 6) ≤ v4 then
    p_bv (F_Step_letMergesChoose v0 s0) fun s4 =>
    O_Step_run_128 3000 v0 v3 0 s4
  else
    p_bv (F_Step_doPlan v0 v4 s0) fun s8 =>
    p_bi (p_w (v4 + 1)) fun x12 =>
    k97 v0 v3 x12 s8
def O_Step_run_97  : Nat → Nat → Int → Int → p_Hp → Option (Int × p_Hp)
  | 0 => fun _ _ _ _ => none
  | n + 1 => L_Step_run_97 (O_Step_run_97 n)
def L_Step_run_67 (k67 : Nat → Int → Int → p_Hp → Option (Int × p_Hp)) (v0 : Nat) (v3 : Int) (v4 : Int) (s0 : p_Hp) : Option (Int × p_Hp) :=
  if 30 < v4 then
    O_Step_run_97 3000 v0 v3 0 s0
  else
    p_gd (p_is s0 v0 8) <|
    p_gd (p_is s0 (p_R s0 v0 3) 7) <|
    p_gd (p_is s0 (p_R s0 (p_R s0 v0 3) 5) 106) <|
    p_gd ((0 : Int) ≤ v4 ∧ v4 < (p_L s0 (p_R s0 (p_R s0 v0 3) 5) : Int)) <|
    p_gd (p_is s0 (p_R s0 (p_R s0 (p_R s0 v0 3) 5) (v4 : Int).toNat) 4) <|
    p_bi (p_wZ s0 (p_R s0 (p_R s0 (p_R s0 v0 3) 5) (v4 : Int).toNat) 8 0) fun s7 =>
    p_bi (p_w (v4 + 1)) fun x9 =>
    k67 v0 v3 x9 s7
def O_Step_run_67  : Nat → Nat → Int → Int → p_Hp → Option (Int × p_Hp)
  | 0 => fun _ _ _ _ => none
  | n + 1 => L_Step_run_67 (O_Step_run_67 n)
def F_Step_run (v0 : Nat) (v1 : Nat) (v2 : Nat) (s0 : p_Hp) : Option (Int × p_Hp) :=
  p_gd (p_is s0 v0 8) <|
  p_bi (p_wR s0 v0 2 v1) fun s2 =>
  p_gd (p_is s2 v1 9) <|
  p_bi (p_wR s2 v0 3 (p_R s2 v1 1)) fun s5 =>
  p_bi (p_wR s5 v0 1 v2) fun s7 =>
  p_gd (p_is s7 (p_R s7 v0 3) 7) <|
  p_gd (p_is s7 (p_R s7 (p_R s7 v0 3) 7) 2) <|
  p_bi ((p_Z s7 (p_R s7 (p_R s7 v0 3) 7) 3)) fun x11 =>
  p_gd (p_is s7 (p_R s7 v0 1) 3) <|
  p_gd (p_is s7 (p_R s7 v0 2) 9) <|
  p_bv (F_Works_keep (p_R s7 v0 2) (p_Z s7 (p_R s7 v0 1) 1) s7) fun s14 =>
  p_gd (p_is s14 (p_R s14 v0 3) 7) <|
  p_bi (p_wZ s14 (p_R s14 v0 3) 0 (p_w ((p_Z s14 (p_R s14 v0 3) 0) + 1))) fun s19 =>
  p_gd (p_is s19 (p_R s19 v0 2) 9) <|
  p_bi (p_wZ s19 (p_R s19 v0 2) 11 0) fun s22 =>
  O_Step_run_67 3000 v0 x11 1 s22
set_option maxRecDepth 100000 in
set_option maxHeartbeats 4000000 in
theorem tB_Step_run_163 (K : p_K) (l : Launch) (k128 : Nat → Int → Int → p_Hp → Option (Int × p_Hp)) (hk128 : ∀ (v0 : Nat) (v3 : Int) (v4 : Int)  (s0 : p_Hp) (r : (Int × p_Hp)), k128 v0 v3 v4 s0 = some r → p_Go K l m_Step_run 128 [(0, p_r v0), (3, p_i v3), (4, p_i v4)] [] s0 (some (p_i r.1), r.2)) (v0 : Nat) (v3 : Int) (v4 : Int) (s0 : p_Hp) (r : (Int × p_Hp)) (h : B_Step_run_163 k128 v0 v3 v4 s0 = some r) : p_Go K l m_Step_run 163 [(0, p_r v0), (3, p_i v3), (4, p_i v4)] [] s0 (some (p_i r.1), r.2) := by
  unfold B_Step_run_163 at h
  refine g_iinc (j := 2) [(4, p_i (p_w (v4 + 1))), (0, p_r v0), (3, p_i v3)] (dk_Step_run 78 rfl) rfl (by decide) rfl ?_
  refine p_ltG (P := fun q => p_Go K l m_Step_run 166 [(4, p_i q), (0, p_r v0), (3, p_i v3)] [] s0 _) ?_ h
  intro x1 h
  refine g_goto 128 (dk_Step_run 79 rfl) (by decide) ?_
  refine g_sub [(0, p_r v0), (3, p_i v3), (4, p_i x1)] [1, 2, 0] rfl ?_
  exact hk128 v0 v3 x1 s0 _ h
set_option maxRecDepth 100000 in
set_option maxHeartbeats 4000000 in
theorem tL_Step_run_128 (K : p_K) (l : Launch) (k128 : Nat → Int → Int → p_Hp → Option (Int × p_Hp)) (hk128 : ∀ (v0 : Nat) (v3 : Int) (v4 : Int)  (s0 : p_Hp) (r : (Int × p_Hp)), k128 v0 v3 v4 s0 = some r → p_Go K l m_Step_run 128 [(0, p_r v0), (3, p_i v3), (4, p_i v4)] [] s0 (some (p_i r.1), r.2)) (v0 : Nat) (v3 : Int) (v4 : Int) (s0 : p_Hp) (r : (Int × p_Hp)) (h : L_Step_run_128 k128 v0 v3 v4 s0 = some r) : p_Go K l m_Step_run 128 [(0, p_r v0), (3, p_i v3), (4, p_i v4)] [] s0 (some (p_i r.1), r.2) := by
  unfold L_Step_run_128 at h
  refine g_iload (j := 2) (dk_Step_run 62 rfl) rfl ?_
  refine g_aload_n (i := 0) (j := 0) (dk_Step_run 63 rfl) rfl rfl ?_
  obtain ⟨c1, h⟩ := p_gdE h
  refine g_getR fl_Step_18 (Or.inl ⟨_, rfl⟩) (dk_Step_run 64 rfl) c1 ?_
  obtain ⟨c2, h⟩ := p_gdE h
  refine g_getI fl_Step_79 (Or.inl rfl) (dk_Step_run 65 rfl) c2 ?_
  refine g_icmp_ge 169 (dk_Step_run 66 rfl) (by decide) (fun b3 => ?_) (fun b3 => ?_)
  · have h := p_ifT b3 h
    refine g_aload_n (i := 0) (j := 0) (dk_Step_run 80 rfl) rfl rfl ?_
    refine g_getR fl_Step_28 (Or.inl ⟨_, rfl⟩) (dk_Step_run 81 rfl) c1 ?_
    obtain ⟨c4, h⟩ := p_gdE h
    refine g_getR fl_Step_33 (Or.inl ⟨_, rfl⟩) (dk_Step_run 82 rfl) c4 ?_
    obtain ⟨c5, h⟩ := p_gdE h
    refine g_getI fl_Step_39 (Or.inl rfl) (dk_Step_run 83 rfl) c5 ?_
    refine g_iload_n (i := 3) (j := 1) (dk_Step_run 84 rfl) rfl rfl ?_
    refine g_isub (dk_Step_run 85 rfl) ?_
    cases h
    exact g_ret rfl rfl (dk_Step_run 86 rfl) (fun os => ⟨_, rfl, p_okh os⟩)
  · have h := p_ifF b3 h
    refine g_aload_n (i := 0) (j := 0) (dk_Step_run 67 rfl) rfl rfl ?_
    refine g_aload_n (i := 0) (j := 0) (dk_Step_run 68 rfl) rfl rfl ?_
    refine g_getR fl_Step_28 (Or.inl ⟨_, rfl⟩) (dk_Step_run 69 rfl) c1 ?_
    obtain ⟨c6, h⟩ := p_gdE h
    refine g_getR fl_Step_82 (Or.inr ⟨_, rfl⟩) (dk_Step_run 70 rfl) c6 ?_
    refine g_iload (j := 2) (dk_Step_run 71 rfl) rfl ?_
    obtain ⟨c7, h⟩ := p_gdE h
    obtain ⟨c8, h⟩ := p_gdE h
    refine g_aaload (i := 5) rfl (Or.inl ⟨_, rfl⟩) (dk_Step_run 72 rfl) c7 c8.1 c8.2 ?_
    obtain ⟨r13, s9, q10, h⟩ := p_bdE h
    have t11 := tF_Step_isInStep K l v0 (p_R s0 (p_R s0 (p_R s0 v0 3) 4) (v4 : Int).toNat) s0 _ q10
    refine g_callV (a := v0) (ci := 8) (q0 := (RX8, TX8, 5)) (As := [p_r (p_R s0 (p_R s0 (p_R s0 v0 3) 4) (v4 : Int).toNat)]) (rest := []) [p_i r13] mt_Step_isInStep rfl rfl tw_4_193 ts_19 tw_4_191 ⟨Nat.le_of_ble_eq_true rfl, Nat.le_of_ble_eq_true rfl⟩ rfl (Nat.le_of_ble_eq_true rfl) (dk_Step_run 73 rfl) rfl c1 rfl t11 ?_
    have hs12 : p_x s0 s9 := t11.1
    show p_Go K l m_Step_run 154 [(0, p_r v0), (3, p_i v3), (4, p_i v4)] [p_i r13] s9 _
    refine g_if_eq 163 (dk_Step_run 74 rfl) (by decide) (fun b14 => ?_) (fun b14 => ?_)
    · have h := p_ifT b14 h
      exact tB_Step_run_163 K l k128 hk128 v0 v3 v4 s9 _ h
    · have h := p_ifF b14 h
      refine g_aload_n (i := 0) (j := 0) (dk_Step_run 75 rfl) rfl rfl ?_
      refine g_iload (j := 2) (dk_Step_run 76 rfl) rfl ?_
      obtain ⟨s15, q16, h⟩ := p_bvE h
      have t17 := tF_Step_act K l v0 v4 s9 _ q16
      refine g_callV (a := v0) (ci := 8) (q0 := (RX8, TX8, 5)) (As := [p_i v4]) (rest := []) [] mt_Step_act rfl rfl tw_4_217 ts_21 tw_4_215 ⟨Nat.le_of_ble_eq_true rfl, Nat.le_of_ble_eq_true rfl⟩ rfl (Nat.le_of_ble_eq_true rfl) (dk_Step_run 77 rfl) rfl (c1.up hs12) rfl t17 ?_
      have hs18 : p_x s9 s15 := t17.1
      show p_Go K l m_Step_run 163 [(0, p_r v0), (3, p_i v3), (4, p_i v4)] [] s15 _
      exact tB_Step_run_163 K l k128 hk128 v0 v3 v4 s15 _ h
set_option maxRecDepth 100000 in
set_option maxHeartbeats 4000000 in
theorem tO_Step_run_128 (K : p_K) (l : Launch)  : ∀ (n : Nat) (v0 : Nat) (v3 : Int) (v4 : Int) (s0 : p_Hp) (r : (Int × p_Hp)), O_Step_run_128 n v0 v3 v4 s0 = some r → p_Go K l m_Step_run 128 [(0, p_r v0), (3, p_i v3), (4, p_i v4)] [] s0 (some (p_i r.1), r.2) := by
  intro n
  induction n with
  | zero => intro v0 v3 v4 s0 r h; cases (show (none : Option (Int × p_Hp)) = some r from h)
  | succ n ih => intro v0 v3 v4 s0 r h; exact tL_Step_run_128 K l _ ih v0 v3 v4 s0 r h
set_option maxRecDepth 100000 in
set_option maxHeartbeats 4000000 in
theorem tL_Step_run_97 (K : p_K) (l : Launch) (k97 : Nat → Int → Int → p_Hp → Option (Int × p_Hp)) (hk97 : ∀ (v0 : Nat) (v3 : Int) (v4 : Int)  (s0 : p_Hp) (r : (Int × p_Hp)), k97 v0 v3 v4 s0 = some r → p_Go K l m_Step_run 97 [(0, p_r v0), (3, p_i v3), (4, p_i v4)] [] s0 (some (p_i r.1), r.2)) (v0 : Nat) (v3 : Int) (v4 : Int) (s0 : p_Hp) (r : (Int × p_Hp)) (h : L_Step_run_97 k97 v0 v3 v4 s0 = some r) : p_Go K l m_Step_run 97 [(0, p_r v0), (3, p_i v3), (4, p_i v4)] [] s0 (some (p_i r.1), r.2) := by
  unfold L_Step_run_97 at h
  refine g_iload (j := 2) (dk_Step_run 48 rfl) rfl ?_
  refine g_aload_n (i := 0) (j := 0) (dk_Step_run 49 rfl) rfl rfl ?_
  obtain ⟨c1, h⟩ := p_gdE h
  refine g_getR fl_Step_18 (Or.inl ⟨_, rfl⟩) (dk_Step_run 50 rfl) c1 ?_
  obtain ⟨c2, h⟩ := p_gdE h
  refine g_getI fl_Step_70 (Or.inl rfl) (dk_Step_run 51 rfl) c2 ?_
  refine g_icmp_ge 121 (dk_Step_run 52 rfl) (by decide) (fun b3 => ?_) (fun b3 => ?_)
  · have h := p_ifT b3 h
    refine g_aload_n (i := 0) (j := 0) (dk_Step_run 58 rfl) rfl rfl ?_
    obtain ⟨s4, q5, h⟩ := p_bvE h
    have t6 := tF_Step_letMergesChoose K l v0 s0 _ q5
    refine g_callV (a := v0) (ci := 8) (q0 := (RX8, TX8, 5)) (As := []) (rest := []) [] mt_Step_letMergesChoose rfl rfl tw_4_184 ts_17 tw_4_182 ⟨Nat.le_of_ble_eq_true rfl, Nat.le_of_ble_eq_true rfl⟩ rfl (Nat.le_of_ble_eq_true rfl) (dk_Step_run 59 rfl) rfl c1 rfl t6 ?_
    have hs7 : p_x s0 s4 := t6.1
    show p_Go K l m_Step_run 125 [(0, p_r v0), (3, p_i v3), (4, p_i v4)] [] s4 _
    refine g_iconst (dk_Step_run 60 rfl) (by decide) ?_
    refine g_istore [(4, p_i 0), (0, p_r v0), (3, p_i v3)] (dk_Step_run 61 rfl) (by decide) rfl ?_
    refine g_sub [(0, p_r v0), (3, p_i v3), (4, p_i 0)] [1, 2, 0] rfl ?_
    exact tO_Step_run_128 K l 3000 v0 v3 0 s4 _ h
  · have h := p_ifF b3 h
    refine g_aload_n (i := 0) (j := 0) (dk_Step_run 53 rfl) rfl rfl ?_
    refine g_iload (j := 2) (dk_Step_run 54 rfl) rfl ?_
    obtain ⟨s8, q9, h⟩ := p_bvE h
    have t10 := tF_Step_doPlan K l v0 v4 s0 _ q9
    refine g_callV (a := v0) (ci := 8) (q0 := (RX8, TX8, 5)) (As := [p_i v4]) (rest := []) [] mt_Step_doPlan rfl rfl tw_4_158 ts_14 tw_4_156 ⟨Nat.le_of_ble_eq_true rfl, Nat.le_of_ble_eq_true rfl⟩ rfl (Nat.le_of_ble_eq_true rfl) (dk_Step_run 55 rfl) rfl c1 rfl t10 ?_
    have hs11 : p_x s0 s8 := t10.1
    show p_Go K l m_Step_run 115 [(0, p_r v0), (3, p_i v3), (4, p_i v4)] [] s8 _
    refine g_iinc (j := 2) [(4, p_i (p_w (v4 + 1))), (0, p_r v0), (3, p_i v3)] (dk_Step_run 56 rfl) rfl (by decide) rfl ?_
    refine p_ltG (P := fun q => p_Go K l m_Step_run 118 [(4, p_i q), (0, p_r v0), (3, p_i v3)] [] s8 _) ?_ h
    intro x12 h
    refine g_goto 97 (dk_Step_run 57 rfl) (by decide) ?_
    refine g_sub [(0, p_r v0), (3, p_i v3), (4, p_i x12)] [1, 2, 0] rfl ?_
    exact hk97 v0 v3 x12 s8 _ h
set_option maxRecDepth 100000 in
set_option maxHeartbeats 4000000 in
theorem tO_Step_run_97 (K : p_K) (l : Launch)  : ∀ (n : Nat) (v0 : Nat) (v3 : Int) (v4 : Int) (s0 : p_Hp) (r : (Int × p_Hp)), O_Step_run_97 n v0 v3 v4 s0 = some r → p_Go K l m_Step_run 97 [(0, p_r v0), (3, p_i v3), (4, p_i v4)] [] s0 (some (p_i r.1), r.2) := by
  intro n
  induction n with
  | zero => intro v0 v3 v4 s0 r h; cases (show (none : Option (Int × p_Hp)) = some r from h)
  | succ n ih => intro v0 v3 v4 s0 r h; exact tL_Step_run_97 K l _ ih v0 v3 v4 s0 r h
set_option maxRecDepth 100000 in
set_option maxHeartbeats 4000000 in
theorem tL_Step_run_67 (K : p_K) (l : Launch) (k67 : Nat → Int → Int → p_Hp → Option (Int × p_Hp)) (hk67 : ∀ (v0 : Nat) (v3 : Int) (v4 : Int)  (s0 : p_Hp) (r : (Int × p_Hp)), k67 v0 v3 v4 s0 = some r → p_Go K l m_Step_run 67 [(0, p_r v0), (3, p_i v3), (4, p_i v4)] [] s0 (some (p_i r.1), r.2)) (v0 : Nat) (v3 : Int) (v4 : Int) (s0 : p_Hp) (r : (Int × p_Hp)) (h : L_Step_run_67 k67 v0 v3 v4 s0 = some r) : p_Go K l m_Step_run 67 [(0, p_r v0), (3, p_i v3), (4, p_i v4)] [] s0 (some (p_i r.1), r.2) := by
  unfold L_Step_run_67 at h
  refine g_iload (j := 2) (dk_Step_run 34 rfl) rfl ?_
  refine g_bipush (dk_Step_run 35 rfl) (by decide +kernel) (by decide) ?_
  refine g_icmp_gt 94 (dk_Step_run 36 rfl) (by decide) (fun b1 => ?_) (fun b1 => ?_)
  · have h := p_ifT b1 h
    refine g_iconst (dk_Step_run 46 rfl) (by decide) ?_
    refine g_istore [(4, p_i 0), (0, p_r v0), (3, p_i v3)] (dk_Step_run 47 rfl) (by decide) rfl ?_
    refine g_sub [(0, p_r v0), (3, p_i v3), (4, p_i 0)] [1, 2, 0] rfl ?_
    exact tO_Step_run_97 K l 3000 v0 v3 0 s0 _ h
  · have h := p_ifF b1 h
    refine g_aload_n (i := 0) (j := 0) (dk_Step_run 37 rfl) rfl rfl ?_
    obtain ⟨c2, h⟩ := p_gdE h
    refine g_getR fl_Step_28 (Or.inl ⟨_, rfl⟩) (dk_Step_run 38 rfl) c2 ?_
    obtain ⟨c3, h⟩ := p_gdE h
    refine g_getR fl_Step_60 (Or.inr ⟨_, rfl⟩) (dk_Step_run 39 rfl) c3 ?_
    refine g_iload (j := 2) (dk_Step_run 40 rfl) rfl ?_
    obtain ⟨c4, h⟩ := p_gdE h
    obtain ⟨c5, h⟩ := p_gdE h
    refine g_aaload (i := 6) rfl (Or.inl ⟨_, rfl⟩) (dk_Step_run 41 rfl) c4 c5.1 c5.2 ?_
    refine g_iconst (dk_Step_run 42 rfl) (by decide) ?_
    obtain ⟨c6, h⟩ := p_gdE h
    refine g_putB fl_Step_64 (Or.inl rfl) (dk_Step_run 43 rfl) c6 (Or.inl rfl) ?_
    refine p_ltS (P := fun q => p_Go K l m_Step_run 88 [(0, p_r v0), (3, p_i v3), (4, p_i v4)] [] q _) (p_xZ _ _ _ _) ?_ h
    intro s7 hs8 h
    refine g_iinc (j := 2) [(4, p_i (p_w (v4 + 1))), (0, p_r v0), (3, p_i v3)] (dk_Step_run 44 rfl) rfl (by decide) rfl ?_
    refine p_ltG (P := fun q => p_Go K l m_Step_run 91 [(4, p_i q), (0, p_r v0), (3, p_i v3)] [] s7 _) ?_ h
    intro x9 h
    refine g_goto 67 (dk_Step_run 45 rfl) (by decide) ?_
    refine g_sub [(0, p_r v0), (3, p_i v3), (4, p_i x9)] [1, 2, 0] rfl ?_
    exact hk67 v0 v3 x9 s7 _ h
set_option maxRecDepth 100000 in
set_option maxHeartbeats 4000000 in
theorem tO_Step_run_67 (K : p_K) (l : Launch)  : ∀ (n : Nat) (v0 : Nat) (v3 : Int) (v4 : Int) (s0 : p_Hp) (r : (Int × p_Hp)), O_Step_run_67 n v0 v3 v4 s0 = some r → p_Go K l m_Step_run 67 [(0, p_r v0), (3, p_i v3), (4, p_i v4)] [] s0 (some (p_i r.1), r.2) := by
  intro n
  induction n with
  | zero => intro v0 v3 v4 s0 r h; cases (show (none : Option (Int × p_Hp)) = some r from h)
  | succ n ih => intro v0 v3 v4 s0 r h; exact tL_Step_run_67 K l _ ih v0 v3 v4 s0 r h
set_option maxRecDepth 100000 in
set_option maxHeartbeats 4000000 in
theorem tF_Step_run (K : p_K) (l : Launch) (v0 : Nat) (v1 : Nat) (v2 : Nat) (s0 : p_Hp) (r : (Int × p_Hp)) (h : F_Step_run v0 v1 v2 s0 = some r) : p_Ct K l m_Step_run [p_r v0, p_r v1, p_r v2] s0 (some (p_i r.1), r.2) := by
  refine p_Ct.of (by decide +kernel) (Nat.le_of_ble_eq_true rfl) ?_
  unfold F_Step_run at h
  show p_Go K l m_Step_run 0 [(0, p_r v0), (1, p_r v1), (2, p_r v2)] [] s0 _
  refine g_aload_n (i := 0) (j := 0) (dk_Step_run 0 rfl) rfl rfl ?_
  refine g_aload_n (i := 1) (j := 1) (dk_Step_run 1 rfl) rfl rfl ?_
  obtain ⟨c1, h⟩ := p_gdE h
  refine g_putR fl_Step_18 (Or.inl ⟨_, rfl⟩) (Or.inl rfl) (dk_Step_run 2 rfl) c1 ?_
  refine p_ltS (P := fun q => p_Go K l m_Step_run 5 [(0, p_r v0), (1, p_r v1), (2, p_r v2)] [] q _) (p_xR _ _ _ _) ?_ h
  intro s2 hs3 h
  refine g_aload_n (i := 0) (j := 0) (dk_Step_run 3 rfl) rfl rfl ?_
  refine g_aload_n (i := 1) (j := 1) (dk_Step_run 4 rfl) rfl rfl ?_
  obtain ⟨c4, h⟩ := p_gdE h
  refine g_getR fl_Step_22 (Or.inl ⟨_, rfl⟩) (dk_Step_run 5 rfl) c4 ?_
  refine g_putR fl_Step_28 (Or.inl ⟨_, rfl⟩) (Or.inl rfl) (dk_Step_run 6 rfl) (c1.up hs3) ?_
  refine p_ltS (P := fun q => p_Go K l m_Step_run 13 [(0, p_r v0), (1, p_r v1), (2, p_r v2)] [] q _) (p_xR _ _ _ _) ?_ h
  intro s5 hs6 h
  refine g_aload_n (i := 0) (j := 0) (dk_Step_run 7 rfl) rfl rfl ?_
  refine g_aload_n (i := 2) (j := 2) (dk_Step_run 8 rfl) rfl rfl ?_
  refine g_putR fl_Step_29 (Or.inl ⟨_, rfl⟩) (Or.inl rfl) (dk_Step_run 9 rfl) (c1.up (hs3.trans hs6)) ?_
  refine p_ltS (P := fun q => p_Go K l m_Step_run 18 [(0, p_r v0), (1, p_r v1), (2, p_r v2)] [] q _) (p_xR _ _ _ _) ?_ h
  intro s7 hs8 h
  refine g_aload_n (i := 0) (j := 0) (dk_Step_run 10 rfl) rfl rfl ?_
  refine g_getR fl_Step_28 (Or.inl ⟨_, rfl⟩) (dk_Step_run 11 rfl) (c1.up (hs3.trans (hs6.trans hs8))) ?_
  obtain ⟨c9, h⟩ := p_gdE h
  refine g_getR fl_Step_33 (Or.inl ⟨_, rfl⟩) (dk_Step_run 12 rfl) c9 ?_
  obtain ⟨c10, h⟩ := p_gdE h
  refine g_getI fl_Step_39 (Or.inl rfl) (dk_Step_run 13 rfl) c10 ?_
  refine g_istore_n (i := 3) [(3, p_i (p_Z s7 (p_R s7 (p_R s7 v0 3) 7) 3)), (0, p_r v0), (1, p_r v1), (2, p_r v2)] (dk_Step_run 14 rfl) rfl (by decide) rfl ?_
  refine p_ltG (P := fun q => p_Go K l m_Step_run 29 [(3, p_i q), (0, p_r v0), (1, p_r v1), (2, p_r v2)] [] s7 _) ?_ h
  intro x11 h
  refine g_aload_n (i := 0) (j := 1) (dk_Step_run 15 rfl) rfl rfl ?_
  refine g_getR fl_Step_18 (Or.inl ⟨_, rfl⟩) (dk_Step_run 16 rfl) (c1.up (hs3.trans (hs6.trans hs8))) ?_
  refine g_aload_n (i := 0) (j := 1) (dk_Step_run 17 rfl) rfl rfl ?_
  refine g_getR fl_Step_29 (Or.inl ⟨_, rfl⟩) (dk_Step_run 18 rfl) (c1.up (hs3.trans (hs6.trans hs8))) ?_
  obtain ⟨c12, h⟩ := p_gdE h
  refine g_getI fl_Step_45 (Or.inl rfl) (dk_Step_run 19 rfl) c12 ?_
  obtain ⟨c13, h⟩ := p_gdE h
  obtain ⟨s14, q15, h⟩ := p_bvE h
  have t16 := tF_Works_keep K l (p_R s7 v0 2) (p_Z s7 (p_R s7 v0 1) 1) s7 _ q15
  refine g_callV (a := (p_R s7 v0 2)) (ci := 9) (q0 := (RX9, TX9, 16)) (As := [p_i (p_Z s7 (p_R s7 v0 1) 1)]) (rest := []) [] mt_Works_keep rfl rfl tw_4_132 tw_4_133 tw_4_131 ⟨Nat.le_of_ble_eq_true rfl, Nat.le_of_ble_eq_true rfl⟩ rfl (Nat.le_of_ble_eq_true rfl) (dk_Step_run 20 rfl) rfl c13 rfl t16 ?_
  have hs17 : p_x s7 s14 := t16.1
  show p_Go K l m_Step_run 43 [(3, p_i x11), (0, p_r v0), (1, p_r v1), (2, p_r v2)] [] s14 _
  refine g_aload_n (i := 0) (j := 1) (dk_Step_run 21 rfl) rfl rfl ?_
  refine g_getR fl_Step_28 (Or.inl ⟨_, rfl⟩) (dk_Step_run 22 rfl) (c1.up (hs3.trans (hs6.trans (hs8.trans hs17)))) ?_
  refine g_dup (dk_Step_run 23 rfl) rfl ?_
  obtain ⟨c18, h⟩ := p_gdE h
  refine g_getI fl_Step_54 (Or.inl rfl) (dk_Step_run 24 rfl) c18 ?_
  refine g_iconst (dk_Step_run 25 rfl) (by decide) ?_
  refine g_iadd (dk_Step_run 26 rfl) ?_
  refine g_putI fl_Step_54 (Or.inl rfl) (dk_Step_run 27 rfl) c18 ?_
  refine p_ltS (P := fun q => p_Go K l m_Step_run 56 [(3, p_i x11), (0, p_r v0), (1, p_r v1), (2, p_r v2)] [] q _) (p_xZ _ _ _ _) ?_ h
  intro s19 hs20 h
  refine g_aload_n (i := 0) (j := 1) (dk_Step_run 28 rfl) rfl rfl ?_
  refine g_getR fl_Step_18 (Or.inl ⟨_, rfl⟩) (dk_Step_run 29 rfl) (c1.up (hs3.trans (hs6.trans (hs8.trans (hs17.trans hs20))))) ?_
  refine g_iconst (dk_Step_run 30 rfl) (by decide) ?_
  obtain ⟨c21, h⟩ := p_gdE h
  refine g_putI fl_Step_57 (Or.inl rfl) (dk_Step_run 31 rfl) c21 ?_
  refine p_ltS (P := fun q => p_Go K l m_Step_run 64 [(3, p_i x11), (0, p_r v0), (1, p_r v1), (2, p_r v2)] [] q _) (p_xZ _ _ _ _) ?_ h
  intro s22 hs23 h
  refine g_iconst (dk_Step_run 32 rfl) (by decide) ?_
  refine g_istore [(4, p_i 1), (3, p_i x11), (0, p_r v0), (1, p_r v1), (2, p_r v2)] (dk_Step_run 33 rfl) (by decide) rfl ?_
  refine g_sub [(0, p_r v0), (3, p_i x11), (4, p_i 1)] [2, 1, 0] rfl ?_
  exact tO_Step_run_67 K l 3000 v0 x11 1 s22 _ h
def m_SW_step : p_Me := (⟨"SortWorks", "step", "()I"⟩, prog_1_method_29_code, 1, (some .int), 7, 170)
theorem mt_SW_step : p_Mt m_SW_step 0 := ⟨p_mem (p_tb4 (List.mem_of_getElem? (i := 126) rfl)) rfl, tw_1_1, by decide +kernel, by decide +kernel, by decide +kernel⟩
def dt_SW_step : List (Nat × Instr × Nat) := [(0, .aload_n 0, 1), (1, .getfield 47, 3), (4, .sipush 5000, 3), (7, .if_icmp .lt 10, 3), (10, .aload_n 0, 1), (11, .bipush (-4), 2), (13, .invokevirtual 61, 3), (16, .ireturn, 1), (17, .aload_n 0, 1), (18, .dup, 1), (19, .getfield 47, 3), (22, .aload_n 0, 1), (23, .getfield 32, 3), (26, .aload_n 0, 1), (27, .getfield 18, 3), (30, .aload_n 0, 1), (31, .getfield 25, 3), (34, .invokevirtual 270, 3), (37, .iadd, 1), (38, .putfield 47, 3), (41, .aload_n 0, 1), (42, .aload_n 0, 1), (43, .getfield 18, 3), (46, .getfield 77, 3), (49, .getfield 274, 3), (52, .invokevirtual 57, 3), (55, .ireturn, 1)]
theorem dk_SW_step (i : Nat) {pc : Nat} {ins : Instr} {len : Nat} (h : dt_SW_step[i]? = some (pc, ins, len)) : decode m_SW_step.2.1 pc = .ok (ins, len) := p_dk (b := m_SW_step.2.1) (t := dt_SW_step) (by decide +kernel) i h
def F_SW_step (v0 : Nat) (s0 : p_Hp) : Option (Int × p_Hp) :=
  p_gd (p_is s0 v0 10) <|
  if (p_Z s0 v0 7) < 5000 then
    p_gd (p_is s0 (p_R s0 v0 3) 8) <|
    p_bd (F_Step_run (p_R s0 v0 3) (p_R s0 v0 1) (p_R s0 v0 2) s0) fun r8 s4 =>
    p_bi (p_wZ s4 v0 7 (p_w ((p_Z s0 v0 7) + r8))) fun s9 =>
    p_gd (p_is s9 (p_R s9 v0 1) 9) <|
    p_gd (p_is s9 (p_R s9 (p_R s9 v0 1) 1) 7) <|
    p_bd (F_SW_done v0 (p_Z s9 (p_R s9 (p_R s9 v0 1) 1) 0) s9) fun r17 s13 =>
    some (r17, s13)
  else
    p_bd (F_SW_refuse v0 (-4) s0) fun r22 s18 =>
    some (r22, s18)
set_option maxRecDepth 100000 in
set_option maxHeartbeats 4000000 in
theorem tF_SW_step (K : p_K) (l : Launch) (v0 : Nat) (s0 : p_Hp) (r : (Int × p_Hp)) (h : F_SW_step v0 s0 = some r) : p_Ct K l m_SW_step [p_r v0] s0 (some (p_i r.1), r.2) := by
  refine p_Ct.of (by decide +kernel) (Nat.le_of_ble_eq_true rfl) ?_
  unfold F_SW_step at h
  show p_Go K l m_SW_step 0 [(0, p_r v0)] [] s0 _
  refine g_aload_n (i := 0) (j := 0) (dk_SW_step 0 rfl) rfl rfl ?_
  obtain ⟨c1, h⟩ := p_gdE h
  refine g_getI fl_SW_47 (Or.inl rfl) (dk_SW_step 1 rfl) c1 ?_
  refine g_sipush (dk_SW_step 2 rfl) (by decide +kernel) (by decide) ?_
  refine g_icmp_lt 17 (dk_SW_step 3 rfl) (by decide) (fun b2 => ?_) (fun b2 => ?_)
  · have h := p_ifT b2 h
    refine g_aload_n (i := 0) (j := 0) (dk_SW_step 8 rfl) rfl rfl ?_
    refine g_dup (dk_SW_step 9 rfl) rfl ?_
    refine g_getI fl_SW_47 (Or.inl rfl) (dk_SW_step 10 rfl) c1 ?_
    refine g_aload_n (i := 0) (j := 0) (dk_SW_step 11 rfl) rfl rfl ?_
    refine g_getR fl_SW_32 (Or.inl ⟨_, rfl⟩) (dk_SW_step 12 rfl) c1 ?_
    refine g_aload_n (i := 0) (j := 0) (dk_SW_step 13 rfl) rfl rfl ?_
    refine g_getR fl_SW_18 (Or.inl ⟨_, rfl⟩) (dk_SW_step 14 rfl) c1 ?_
    refine g_aload_n (i := 0) (j := 0) (dk_SW_step 15 rfl) rfl rfl ?_
    refine g_getR fl_SW_25 (Or.inl ⟨_, rfl⟩) (dk_SW_step 16 rfl) c1 ?_
    obtain ⟨c3, h⟩ := p_gdE h
    obtain ⟨r8, s4, q5, h⟩ := p_bdE h
    have t6 := tF_Step_run K l (p_R s0 v0 3) (p_R s0 v0 1) (p_R s0 v0 2) s0 _ q5
    refine g_callV (a := (p_R s0 v0 3)) (ci := 8) (q0 := (RX8, TX8, 5)) (As := [p_r (p_R s0 v0 1), p_r (p_R s0 v0 2)]) (rest := [p_i (p_Z s0 v0 7), p_r v0]) [p_i r8, p_i (p_Z s0 v0 7), p_r v0] mt_Step_run rfl rfl tw_4_128 tw_4_129 tw_4_127 ⟨Nat.le_of_ble_eq_true rfl, Nat.le_of_ble_eq_true rfl⟩ rfl (Nat.le_of_ble_eq_true rfl) (dk_SW_step 17 rfl) rfl c3 rfl t6 ?_
    have hs7 : p_x s0 s4 := t6.1
    show p_Go K l m_SW_step 37 [(0, p_r v0)] [p_i r8, p_i (p_Z s0 v0 7), p_r v0] s4 _
    refine g_iadd (dk_SW_step 18 rfl) ?_
    refine g_putI fl_SW_47 (Or.inl rfl) (dk_SW_step 19 rfl) (c1.up hs7) ?_
    refine p_ltS (P := fun q => p_Go K l m_SW_step 41 [(0, p_r v0)] [] q _) (p_xZ _ _ _ _) ?_ h
    intro s9 hs10 h
    refine g_aload_n (i := 0) (j := 0) (dk_SW_step 20 rfl) rfl rfl ?_
    refine g_aload_n (i := 0) (j := 0) (dk_SW_step 21 rfl) rfl rfl ?_
    refine g_getR fl_SW_18 (Or.inl ⟨_, rfl⟩) (dk_SW_step 22 rfl) (c1.up (hs7.trans hs10)) ?_
    obtain ⟨c11, h⟩ := p_gdE h
    refine g_getR fl_SW_77 (Or.inl ⟨_, rfl⟩) (dk_SW_step 23 rfl) c11 ?_
    obtain ⟨c12, h⟩ := p_gdE h
    refine g_getI fl_SW_274 (Or.inl rfl) (dk_SW_step 24 rfl) c12 ?_
    obtain ⟨r17, s13, q14, h⟩ := p_bdE h
    have t15 := tF_SW_done K l v0 (p_Z s9 (p_R s9 (p_R s9 v0 1) 1) 0) s9 _ q14
    refine g_callV (a := v0) (ci := 10) (q0 := (RX10, TX10, 9)) (As := [p_i (p_Z s9 (p_R s9 (p_R s9 v0 1) 1) 0)]) (rest := []) [p_i r17] mt_SW_done rfl rfl tw_3_56 ts_1 tw_3_54 ⟨Nat.le_of_ble_eq_true rfl, Nat.le_of_ble_eq_true rfl⟩ rfl (Nat.le_of_ble_eq_true rfl) (dk_SW_step 25 rfl) rfl (c1.up (hs7.trans hs10)) rfl t15 ?_
    have hs16 : p_x s9 s13 := t15.1
    show p_Go K l m_SW_step 55 [(0, p_r v0)] [p_i r17] s13 _
    cases h
    exact g_ret rfl rfl (dk_SW_step 26 rfl) (fun os => ⟨_, rfl, p_okh os⟩)
  · have h := p_ifF b2 h
    refine g_aload_n (i := 0) (j := 0) (dk_SW_step 4 rfl) rfl rfl ?_
    refine g_bipush (dk_SW_step 5 rfl) (by decide +kernel) (by decide) ?_
    obtain ⟨r22, s18, q19, h⟩ := p_bdE h
    have t20 := tF_SW_refuse K l v0 (-4) s0 _ q19
    refine g_callV (a := v0) (ci := 10) (q0 := (RX10, TX10, 9)) (As := [p_i (-4)]) (rest := []) [p_i r22] mt_SW_refuse rfl rfl tw_3_52 ts_0 tw_3_50 ⟨Nat.le_of_ble_eq_true rfl, Nat.le_of_ble_eq_true rfl⟩ rfl (Nat.le_of_ble_eq_true rfl) (dk_SW_step 6 rfl) rfl c1 rfl t20 ?_
    have hs21 : p_x s0 s18 := t20.1
    show p_Go K l m_SW_step 16 [(0, p_r v0)] [p_i r22] s18 _
    cases h
    exact g_ret rfl rfl (dk_SW_step 7 rfl) (fun os => ⟨_, rfl, p_okh os⟩)
def m_Parcel_raiseLastByte : p_Me := (⟨"SortWorks$Parcel", "raiseLastByte", "()V"⟩, prog_6_method_7_code, 2, none, 0, 0)
theorem mt_Parcel_raiseLastByte : p_Mt m_Parcel_raiseLastByte 0 := ⟨p_mem (p_tb5 (List.mem_of_getElem? (i := 94) rfl)) rfl, tw_1_6, by decide +kernel, by decide +kernel, by decide +kernel⟩
def dt_Parcel_raiseLastByte : List (Nat × Instr × Nat) := [(0, .aload_n 0, 1), (1, .getfield 53, 3), (4, .iconst 1, 1), (5, .isub, 1), (6, .istore_n 1, 1), (7, .iload_n 1, 1), (8, .ifCond .lt 21, 3), (11, .aload_n 0, 1), (12, .getfield 15, 3), (15, .iload_n 1, 1), (16, .aload_n 0, 1), (17, .getfield 15, 3), (20, .iload_n 1, 1), (21, .iaload, 1), (22, .iconst 1, 1), (23, .iadd, 1), (24, .sipush 255, 3), (27, .iand, 1), (28, .iastore, 1), (29, .return_, 1)]
theorem dk_Parcel_raiseLastByte (i : Nat) {pc : Nat} {ins : Instr} {len : Nat} (h : dt_Parcel_raiseLastByte[i]? = some (pc, ins, len)) : decode m_Parcel_raiseLastByte.2.1 pc = .ok (ins, len) := p_dk (b := m_Parcel_raiseLastByte.2.1) (t := dt_Parcel_raiseLastByte) (by decide +kernel) i h
def F_Parcel_raiseLastByte (v0 : Nat) (s0 : p_Hp) : Option p_Hp :=
  p_gd (p_is s0 v0 4) <|
  p_bi ((p_w ((p_Z s0 v0 11) - 1))) fun x2 =>
  if x2 < 0 then
    some s0
  else
    p_gd (p_is s0 (p_R s0 v0 12) 100) <|
    p_gd ((0 : Int) ≤ x2 ∧ x2 < (p_L s0 (p_R s0 v0 12) : Int)) <|
    p_gd ((0 : Int) ≤ x2 ∧ x2 < (p_L s0 (p_R s0 v0 12) : Int)) <|
    p_bi (p_wZ s0 (p_R s0 v0 12) (x2 : Int).toNat (p_and (p_w ((p_Z s0 (p_R s0 v0 12) (x2 : Int).toNat) + 1)) 255)) fun s7 =>
    some s7
set_option maxRecDepth 100000 in
set_option maxHeartbeats 4000000 in
theorem tF_Parcel_raiseLastByte (K : p_K) (l : Launch) (v0 : Nat) (s0 : p_Hp) (r : p_Hp) (h : F_Parcel_raiseLastByte v0 s0 = some r) : p_Ct K l m_Parcel_raiseLastByte [p_r v0] s0 (none, r) := by
  refine p_Ct.of (by decide +kernel) (Nat.le_of_ble_eq_true rfl) ?_
  unfold F_Parcel_raiseLastByte at h
  show p_Go K l m_Parcel_raiseLastByte 0 [(0, p_r v0)] [] s0 _
  refine g_aload_n (i := 0) (j := 0) (dk_Parcel_raiseLastByte 0 rfl) rfl rfl ?_
  obtain ⟨c1, h⟩ := p_gdE h
  refine g_getI fl_Parcel_53 (Or.inl rfl) (dk_Parcel_raiseLastByte 1 rfl) c1 ?_
  refine g_iconst (dk_Parcel_raiseLastByte 2 rfl) (by decide) ?_
  refine g_isub (dk_Parcel_raiseLastByte 3 rfl) ?_
  refine g_istore_n (i := 1) [(1, p_i (p_w ((p_Z s0 v0 11) - 1))), (0, p_r v0)] (dk_Parcel_raiseLastByte 4 rfl) rfl (by decide) rfl ?_
  refine p_ltG (P := fun q => p_Go K l m_Parcel_raiseLastByte 7 [(1, p_i q), (0, p_r v0)] [] s0 _) ?_ h
  intro x2 h
  refine g_iload_n (i := 1) (j := 0) (dk_Parcel_raiseLastByte 5 rfl) rfl rfl ?_
  refine g_if_lt 29 (dk_Parcel_raiseLastByte 6 rfl) (by decide) (fun b3 => ?_) (fun b3 => ?_)
  · have h := p_ifT b3 h
    cases h
    exact g_ret rfl rfl (dk_Parcel_raiseLastByte 19 rfl) (fun _ => rfl)
  · have h := p_ifF b3 h
    refine g_aload_n (i := 0) (j := 1) (dk_Parcel_raiseLastByte 7 rfl) rfl rfl ?_
    refine g_getR fl_Parcel_15 (Or.inr ⟨_, rfl⟩) (dk_Parcel_raiseLastByte 8 rfl) c1 ?_
    refine g_iload_n (i := 1) (j := 0) (dk_Parcel_raiseLastByte 9 rfl) rfl rfl ?_
    refine g_aload_n (i := 0) (j := 1) (dk_Parcel_raiseLastByte 10 rfl) rfl rfl ?_
    refine g_getR fl_Parcel_15 (Or.inr ⟨_, rfl⟩) (dk_Parcel_raiseLastByte 11 rfl) c1 ?_
    refine g_iload_n (i := 1) (j := 0) (dk_Parcel_raiseLastByte 12 rfl) rfl rfl ?_
    obtain ⟨c4, h⟩ := p_gdE h
    obtain ⟨c5, h⟩ := p_gdE h
    refine g_iaload (dk_Parcel_raiseLastByte 13 rfl) c4 c5.1 c5.2 ?_
    refine g_iconst (dk_Parcel_raiseLastByte 14 rfl) (by decide) ?_
    refine g_iadd (dk_Parcel_raiseLastByte 15 rfl) ?_
    refine g_sipush (dk_Parcel_raiseLastByte 16 rfl) (by decide +kernel) (by decide) ?_
    refine g_iand (dk_Parcel_raiseLastByte 17 rfl) ?_
    obtain ⟨c6, h⟩ := p_gdE h
    refine g_iastore (dk_Parcel_raiseLastByte 18 rfl) c4 c6.1 c6.2 ?_
    refine p_ltS (P := fun q => p_Go K l m_Parcel_raiseLastByte 29 [(1, p_i x2), (0, p_r v0)] [] q _) (p_xZ _ _ _ _) ?_ h
    intro s7 hs8 h
    cases h
    exact g_ret rfl rfl (dk_Parcel_raiseLastByte 19 rfl) (fun _ => rfl)
def m_Parcel_spoil : p_Me := (⟨"SortWorks$Parcel", "spoil", "(I)V"⟩, prog_6_method_6_code, 2, none, 1, 21)
theorem mt_Parcel_spoil : p_Mt m_Parcel_spoil 1 := ⟨p_mem (p_tb5 (List.mem_of_getElem? (i := 90) rfl)) rfl, tw_1_6, by decide +kernel, by decide +kernel, by decide +kernel⟩
def dt_Parcel_spoil : List (Nat × Instr × Nat) := [(0, .iload_n 1, 1), (1, .bipush 8, 2), (3, .irem, 1), (4, .tableswitch 57 0 2 #[28, 36, 50], 28), (32, .aload_n 0, 1), (33, .iconst (-1), 1), (34, .putfield 53, 3), (37, .goto 24, 3), (40, .aload_n 0, 1), (41, .iload_n 1, 1), (42, .bipush 8, 2), (44, .idiv, 1), (45, .bipush 6, 2), (47, .irem, 1), (48, .putfield 53, 3), (51, .goto 10, 3), (54, .aload_n 0, 1), (55, .invokevirtual 63, 3), (58, .goto 3, 3), (61, .return_, 1)]
theorem dk_Parcel_spoil (i : Nat) {pc : Nat} {ins : Instr} {len : Nat} (h : dt_Parcel_spoil[i]? = some (pc, ins, len)) : decode m_Parcel_spoil.2.1 pc = .ok (ins, len) := p_dk (b := m_Parcel_spoil.2.1) (t := dt_Parcel_spoil) (by decide +kernel) i h
def F_Parcel_spoil (v0 : Nat) (v1 : Int) (s0 : p_Hp) : Option p_Hp :=
  if (p_rem v1 8) = 0 then
    p_gd (p_is s0 v0 4) <|
    p_bi (p_wZ s0 v0 11 (-1)) fun s3 =>
    some s3
  else if (p_rem v1 8) = 1 then
    p_gd (p_is s0 v0 4) <|
    p_bi (p_wZ s0 v0 11 (p_rem (p_div v1 8) 6)) fun s7 =>
    some s7
  else if (p_rem v1 8) = 2 then
    p_gd (p_is s0 v0 4) <|
    p_bv (F_Parcel_raiseLastByte v0 s0) fun s11 =>
    some s11
  else 
  some s0
set_option maxRecDepth 100000 in
set_option maxHeartbeats 4000000 in
theorem tF_Parcel_spoil (K : p_K) (l : Launch) (v0 : Nat) (v1 : Int) (s0 : p_Hp) (r : p_Hp) (h : F_Parcel_spoil v0 v1 s0 = some r) : p_Ct K l m_Parcel_spoil [p_r v0, p_i v1] s0 (none, r) := by
  refine p_Ct.of (by decide +kernel) (Nat.le_of_ble_eq_true rfl) ?_
  unfold F_Parcel_spoil at h
  show p_Go K l m_Parcel_spoil 0 [(0, p_r v0), (1, p_i v1)] [] s0 _
  refine g_iload_n (i := 1) (j := 1) (dk_Parcel_spoil 0 rfl) rfl rfl ?_
  refine g_bipush (dk_Parcel_spoil 1 rfl) (by decide +kernel) (by decide) ?_
  refine g_irem (dk_Parcel_spoil 2 rfl) (by decide) ?_
  rcases p_iteE h with ⟨b1, h⟩ | ⟨b1, h⟩
  · refine g_tableIn 32 (dk_Parcel_spoil 3 rfl) (by omega) (by omega) (by rw [b1]; rfl) (by decide) ?_
    refine g_aload_n (i := 0) (j := 0) (dk_Parcel_spoil 4 rfl) rfl rfl ?_
    refine g_iconst (dk_Parcel_spoil 5 rfl) (by decide) ?_
    obtain ⟨c2, h⟩ := p_gdE h
    refine g_putI fl_Parcel_53 (Or.inl rfl) (dk_Parcel_spoil 6 rfl) c2 ?_
    refine p_ltS (P := fun q => p_Go K l m_Parcel_spoil 37 [(0, p_r v0), (1, p_i v1)] [] q _) (p_xZ _ _ _ _) ?_ h
    intro s3 hs4 h
    refine g_goto 61 (dk_Parcel_spoil 7 rfl) (by decide) ?_
    cases h
    exact g_ret rfl rfl (dk_Parcel_spoil 19 rfl) (fun _ => rfl)
  rcases p_iteE h with ⟨b5, h⟩ | ⟨b5, h⟩
  · refine g_tableIn 40 (dk_Parcel_spoil 3 rfl) (by omega) (by omega) (by rw [b5]; rfl) (by decide) ?_
    refine g_aload_n (i := 0) (j := 0) (dk_Parcel_spoil 8 rfl) rfl rfl ?_
    refine g_iload_n (i := 1) (j := 1) (dk_Parcel_spoil 9 rfl) rfl rfl ?_
    refine g_bipush (dk_Parcel_spoil 10 rfl) (by decide +kernel) (by decide) ?_
    refine g_idiv (dk_Parcel_spoil 11 rfl) (by decide) ?_
    refine g_bipush (dk_Parcel_spoil 12 rfl) (by decide +kernel) (by decide) ?_
    refine g_irem (dk_Parcel_spoil 13 rfl) (by decide) ?_
    obtain ⟨c6, h⟩ := p_gdE h
    refine g_putI fl_Parcel_53 (Or.inl rfl) (dk_Parcel_spoil 14 rfl) c6 ?_
    refine p_ltS (P := fun q => p_Go K l m_Parcel_spoil 51 [(0, p_r v0), (1, p_i v1)] [] q _) (p_xZ _ _ _ _) ?_ h
    intro s7 hs8 h
    refine g_goto 61 (dk_Parcel_spoil 15 rfl) (by decide) ?_
    cases h
    exact g_ret rfl rfl (dk_Parcel_spoil 19 rfl) (fun _ => rfl)
  rcases p_iteE h with ⟨b9, h⟩ | ⟨b9, h⟩
  · refine g_tableIn 54 (dk_Parcel_spoil 3 rfl) (by omega) (by omega) (by rw [b9]; rfl) (by decide) ?_
    refine g_aload_n (i := 0) (j := 0) (dk_Parcel_spoil 16 rfl) rfl rfl ?_
    obtain ⟨c10, h⟩ := p_gdE h
    obtain ⟨s11, q12, h⟩ := p_bvE h
    have t13 := tF_Parcel_raiseLastByte K l v0 s0 _ q12
    refine g_callV (a := v0) (ci := 4) (q0 := (RX4, TX4, 13)) (As := []) (rest := []) [] mt_Parcel_raiseLastByte rfl rfl tw_5_93 ts_40 tw_5_91 ⟨Nat.le_of_ble_eq_true rfl, Nat.le_of_ble_eq_true rfl⟩ rfl (Nat.le_of_ble_eq_true rfl) (dk_Parcel_spoil 17 rfl) rfl c10 rfl t13 ?_
    have hs14 : p_x s0 s11 := t13.1
    show p_Go K l m_Parcel_spoil 58 [(0, p_r v0), (1, p_i v1)] [] s11 _
    refine g_goto 61 (dk_Parcel_spoil 18 rfl) (by decide) ?_
    cases h
    exact g_ret rfl rfl (dk_Parcel_spoil 19 rfl) (fun _ => rfl)
  refine g_tableOut 61 (dk_Parcel_spoil 3 rfl) (by omega) (by decide) ?_
  cases h
  exact g_ret rfl rfl (dk_Parcel_spoil 19 rfl) (fun _ => rfl)
def m_SW_comeByNight : p_Me := (⟨"SortWorks", "comeByNight", "(III)I"⟩, prog_1_method_32_code, 6, (some .int), 3, 62)
theorem mt_SW_comeByNight : p_Mt m_SW_comeByNight 3 := ⟨p_mem (p_tb5 (List.mem_of_getElem? (i := 86) rfl)) rfl, tw_1_1, by decide +kernel, by decide +kernel, by decide +kernel⟩
def dt_SW_comeByNight : List (Nat × Instr × Nat) := [(0, .aload_n 0, 1), (1, .getfield 18, 3), (4, .iconst 0, 1), (5, .invokevirtual 98, 3), (8, .astore 4, 2), (10, .aload 4, 2), (12, .ifnull 27, 3), (15, .aload 4, 2), (17, .invokevirtual 126, 3), (20, .ifCond .eq 19, 3), (23, .aload 4, 2), (25, .invokevirtual 174, 3), (28, .ifCond .ne 11, 3), (31, .aload 4, 2), (33, .invokevirtual 177, 3), (36, .ifCond .ne 5, 3), (39, .iconst 0, 1), (40, .ireturn, 1), (41, .aload_n 0, 1), (42, .invokevirtual 180, 3), (45, .astore 5, 2), (47, .aload 5, 2), (49, .ifnonnull 5, 3), (52, .iconst 0, 1), (53, .ireturn, 1), (54, .aload_n 0, 1), (55, .getfield 18, 3), (58, .getfield 77, 3), (61, .aload 5, 2), (63, .iconst 0, 1), (64, .iconst 1, 1), (65, .iload_n 1, 1), (66, .sipush 200, 3), (69, .irem, 1), (70, .iadd, 1), (71, .iload_n 1, 1), (72, .sipush 200, 3), (75, .idiv, 1), (76, .bipush 10, 2), (78, .irem, 1), (79, .invokevirtual 184, 3), (82, .aload 5, 2), (84, .iload_n 2, 1), (85, .bipush 100, 2), (87, .idiv, 1), (88, .iconst 2, 1), (89, .irem, 1), (90, .iload_n 2, 1), (91, .bipush 100, 2), (93, .irem, 1), (94, .invokevirtual 210, 3), (97, .aload 5, 2), (99, .iload_n 3, 1), (100, .invokevirtual 285, 3), (103, .iconst 1, 1), (104, .ireturn, 1)]
theorem dk_SW_comeByNight (i : Nat) {pc : Nat} {ins : Instr} {len : Nat} (h : dt_SW_comeByNight[i]? = some (pc, ins, len)) : decode m_SW_comeByNight.2.1 pc = .ok (ins, len) := p_dk (b := m_SW_comeByNight.2.1) (t := dt_SW_comeByNight) (by decide +kernel) i h
def F_SW_comeByNight (v0 : Nat) (v1 : Int) (v2 : Int) (v3 : Int) (s0 : p_Hp) : Option (Int × p_Hp) :=
  p_gd (p_is s0 v0 10) <|
  p_gd (p_is s0 (p_R s0 v0 1) 9) <|
  p_bd (F_Works_gearOf (p_R s0 v0 1) 0 s0) fun r7 s3 =>
  if r7 = 0 then
    some (0, s3)
  else
    p_gd (p_is s3 r7 0) <|
    p_bd (F_Gear_isTaker r7 s3) fun r14 s10 =>
    if r14 = 0 then
      some (0, s10)
    else
      p_bd (F_Gear_isChute r7 s10) fun r20 s16 =>
      if r20 ≠ 0 then
        some (0, s16)
      else
        p_bd (F_Gear_isFreeAtStart r7 s16) fun r26 s22 =>
        if r26 ≠ 0 then
          p_bd (F_SW_newParcel v0 s22) fun r32 s28 =>
          if r32 ≠ 0 then
            p_gd (p_is s28 (p_R s28 v0 1) 9) <|
            p_gd (p_is s28 (p_R s28 (p_R s28 v0 1) 1) 7) <|
            p_bv (F_State_bringIn (p_R s28 (p_R s28 v0 1) 1) r32 0 (p_w (1 + (p_rem v1 200))) (p_rem (p_div v1 200) 10) s28) fun s36 =>
            p_gd (p_is s36 r32 4) <|
            p_bv (F_Parcel_write r32 (p_rem (p_div v2 100) 2) (p_rem v2 100) s36) fun s41 =>
            p_bv (F_Parcel_spoil r32 v3 s41) fun s45 =>
            some (1, s45)
          else
            some (0, s28)
        else
          some (0, s22)
set_option maxRecDepth 100000 in
set_option maxHeartbeats 4000000 in
theorem tF_SW_comeByNight (K : p_K) (l : Launch) (v0 : Nat) (v1 : Int) (v2 : Int) (v3 : Int) (s0 : p_Hp) (r : (Int × p_Hp)) (h : F_SW_comeByNight v0 v1 v2 v3 s0 = some r) : p_Ct K l m_SW_comeByNight [p_r v0, p_i v1, p_i v2, p_i v3] s0 (some (p_i r.1), r.2) := by
  refine p_Ct.of (by decide +kernel) (Nat.le_of_ble_eq_true rfl) ?_
  unfold F_SW_comeByNight at h
  show p_Go K l m_SW_comeByNight 0 [(0, p_r v0), (1, p_i v1), (2, p_i v2), (3, p_i v3)] [] s0 _
  refine g_aload_n (i := 0) (j := 0) (dk_SW_comeByNight 0 rfl) rfl rfl ?_
  obtain ⟨c1, h⟩ := p_gdE h
  refine g_getR fl_SW_18 (Or.inl ⟨_, rfl⟩) (dk_SW_comeByNight 1 rfl) c1 ?_
  refine g_iconst (dk_SW_comeByNight 2 rfl) (by decide) ?_
  obtain ⟨c2, h⟩ := p_gdE h
  obtain ⟨r7, s3, q4, h⟩ := p_bdE h
  have t5 := tF_Works_gearOf K l (p_R s0 v0 1) 0 s0 _ q4
  refine g_callV (a := (p_R s0 v0 1)) (ci := 9) (q0 := (RX9, TX9, 16)) (As := [p_i 0]) (rest := []) [p_r r7] mt_Works_gearOf rfl rfl tw_3_87 tw_3_88 tw_3_86 ⟨Nat.le_of_ble_eq_true rfl, Nat.le_of_ble_eq_true rfl⟩ rfl (Nat.le_of_ble_eq_true rfl) (dk_SW_comeByNight 3 rfl) rfl c2 rfl t5 ?_
  have hs6 : p_x s0 s3 := t5.1
  show p_Go K l m_SW_comeByNight 8 [(0, p_r v0), (1, p_i v1), (2, p_i v2), (3, p_i v3)] [p_r r7] s3 _
  refine g_astore [(4, p_r r7), (0, p_r v0), (1, p_i v1), (2, p_i v2), (3, p_i v3)] (dk_SW_comeByNight 4 rfl) (by decide) rfl ?_
  refine g_aload (j := 0) (dk_SW_comeByNight 5 rfl) rfl ?_
  refine g_ifnull 39 (dk_SW_comeByNight 6 rfl) (by decide) (fun b8 => ?_) (fun b8 => ?_)
  · have h := p_ifT b8 h
    refine g_iconst (dk_SW_comeByNight 16 rfl) (by decide) ?_
    cases h
    exact g_ret rfl rfl (dk_SW_comeByNight 17 rfl) (fun os => ⟨_, rfl, p_okh os⟩)
  · have h := p_ifF b8 h
    refine g_aload (j := 0) (dk_SW_comeByNight 7 rfl) rfl ?_
    obtain ⟨c9, h⟩ := p_gdE h
    obtain ⟨r14, s10, q11, h⟩ := p_bdE h
    have t12 := tF_Gear_isTaker K l r7 s3 _ q11
    refine g_callV (a := r7) (ci := 0) (q0 := (RX0, TX0, 19)) (As := []) (rest := []) [p_i r14] mt_Gear_isTaker rfl rfl tw_3_125 tw_3_126 tw_3_124 ⟨Nat.le_of_ble_eq_true rfl, Nat.le_of_ble_eq_true rfl⟩ rfl (Nat.le_of_ble_eq_true rfl) (dk_SW_comeByNight 8 rfl) rfl c9 rfl t12 ?_
    have hs13 : p_x s3 s10 := t12.1
    show p_Go K l m_SW_comeByNight 20 [(4, p_r r7), (0, p_r v0), (1, p_i v1), (2, p_i v2), (3, p_i v3)] [p_i r14] s10 _
    refine g_if_eq 39 (dk_SW_comeByNight 9 rfl) (by decide) (fun b15 => ?_) (fun b15 => ?_)
    · have h := p_ifT b15 h
      refine g_iconst (dk_SW_comeByNight 16 rfl) (by decide) ?_
      cases h
      exact g_ret rfl rfl (dk_SW_comeByNight 17 rfl) (fun os => ⟨_, rfl, p_okh os⟩)
    · have h := p_ifF b15 h
      refine g_aload (j := 0) (dk_SW_comeByNight 10 rfl) rfl ?_
      obtain ⟨r20, s16, q17, h⟩ := p_bdE h
      have t18 := tF_Gear_isChute K l r7 s10 _ q17
      refine g_callV (a := r7) (ci := 0) (q0 := (RX0, TX0, 19)) (As := []) (rest := []) [p_i r20] mt_Gear_isChute rfl rfl tw_3_227 tw_3_228 tw_3_226 ⟨Nat.le_of_ble_eq_true rfl, Nat.le_of_ble_eq_true rfl⟩ rfl (Nat.le_of_ble_eq_true rfl) (dk_SW_comeByNight 11 rfl) rfl (c9.up hs13) rfl t18 ?_
      have hs19 : p_x s10 s16 := t18.1
      show p_Go K l m_SW_comeByNight 28 [(4, p_r r7), (0, p_r v0), (1, p_i v1), (2, p_i v2), (3, p_i v3)] [p_i r20] s16 _
      refine g_if_ne 39 (dk_SW_comeByNight 12 rfl) (by decide) (fun b21 => ?_) (fun b21 => ?_)
      · have h := p_ifT b21 h
        refine g_iconst (dk_SW_comeByNight 16 rfl) (by decide) ?_
        cases h
        exact g_ret rfl rfl (dk_SW_comeByNight 17 rfl) (fun os => ⟨_, rfl, p_okh os⟩)
      · have h := p_ifF b21 h
        refine g_aload (j := 0) (dk_SW_comeByNight 13 rfl) rfl ?_
        obtain ⟨r26, s22, q23, h⟩ := p_bdE h
        have t24 := tF_Gear_isFreeAtStart K l r7 s16 _ q23
        refine g_callV (a := r7) (ci := 0) (q0 := (RX0, TX0, 19)) (As := []) (rest := []) [p_i r26] mt_Gear_isFreeAtStart rfl rfl tw_3_231 tw_3_232 tw_3_230 ⟨Nat.le_of_ble_eq_true rfl, Nat.le_of_ble_eq_true rfl⟩ rfl (Nat.le_of_ble_eq_true rfl) (dk_SW_comeByNight 14 rfl) rfl (c9.up (hs13.trans hs19)) rfl t24 ?_
        have hs25 : p_x s16 s22 := t24.1
        show p_Go K l m_SW_comeByNight 36 [(4, p_r r7), (0, p_r v0), (1, p_i v1), (2, p_i v2), (3, p_i v3)] [p_i r26] s22 _
        refine g_if_ne 41 (dk_SW_comeByNight 15 rfl) (by decide) (fun b27 => ?_) (fun b27 => ?_)
        · have h := p_ifT b27 h
          refine g_aload_n (i := 0) (j := 1) (dk_SW_comeByNight 18 rfl) rfl rfl ?_
          obtain ⟨r32, s28, q29, h⟩ := p_bdE h
          have t30 := tF_SW_newParcel K l v0 s22 _ q29
          refine g_callV (a := v0) (ci := 10) (q0 := (RX10, TX10, 9)) (As := []) (rest := []) [p_r r32] mt_SW_newParcel rfl rfl tw_3_236 ts_10 tw_3_234 ⟨Nat.le_of_ble_eq_true rfl, Nat.le_of_ble_eq_true rfl⟩ rfl (Nat.le_of_ble_eq_true rfl) (dk_SW_comeByNight 19 rfl) rfl (c1.up (hs6.trans (hs13.trans (hs19.trans hs25)))) rfl t30 ?_
          have hs31 : p_x s22 s28 := t30.1
          show p_Go K l m_SW_comeByNight 45 [(4, p_r r7), (0, p_r v0), (1, p_i v1), (2, p_i v2), (3, p_i v3)] [p_r r32] s28 _
          refine g_astore [(5, p_r r32), (4, p_r r7), (0, p_r v0), (1, p_i v1), (2, p_i v2), (3, p_i v3)] (dk_SW_comeByNight 20 rfl) (by decide) rfl ?_
          refine g_aload (j := 0) (dk_SW_comeByNight 21 rfl) rfl ?_
          refine g_ifnonnull 54 (dk_SW_comeByNight 22 rfl) (by decide) (fun b33 => ?_) (fun b33 => ?_)
          · have h := p_ifT b33 h
            refine g_aload_n (i := 0) (j := 2) (dk_SW_comeByNight 25 rfl) rfl rfl ?_
            refine g_getR fl_SW_18 (Or.inl ⟨_, rfl⟩) (dk_SW_comeByNight 26 rfl) (c1.up (hs6.trans (hs13.trans (hs19.trans (hs25.trans hs31))))) ?_
            obtain ⟨c34, h⟩ := p_gdE h
            refine g_getR fl_SW_77 (Or.inl ⟨_, rfl⟩) (dk_SW_comeByNight 27 rfl) c34 ?_
            refine g_aload (j := 0) (dk_SW_comeByNight 28 rfl) rfl ?_
            refine g_iconst (dk_SW_comeByNight 29 rfl) (by decide) ?_
            refine g_iconst (dk_SW_comeByNight 30 rfl) (by decide) ?_
            refine g_iload_n (i := 1) (j := 3) (dk_SW_comeByNight 31 rfl) rfl rfl ?_
            refine g_sipush (dk_SW_comeByNight 32 rfl) (by decide +kernel) (by decide) ?_
            refine g_irem (dk_SW_comeByNight 33 rfl) (by decide) ?_
            refine g_iadd (dk_SW_comeByNight 34 rfl) ?_
            refine g_iload_n (i := 1) (j := 3) (dk_SW_comeByNight 35 rfl) rfl rfl ?_
            refine g_sipush (dk_SW_comeByNight 36 rfl) (by decide +kernel) (by decide) ?_
            refine g_idiv (dk_SW_comeByNight 37 rfl) (by decide) ?_
            refine g_bipush (dk_SW_comeByNight 38 rfl) (by decide +kernel) (by decide) ?_
            refine g_irem (dk_SW_comeByNight 39 rfl) (by decide) ?_
            obtain ⟨c35, h⟩ := p_gdE h
            obtain ⟨s36, q37, h⟩ := p_bvE h
            have t38 := tF_State_bringIn K l (p_R s28 (p_R s28 v0 1) 1) r32 0 (p_w (1 + (p_rem v1 200))) (p_rem (p_div v1 200) 10) s28 _ q37
            refine g_callV (a := (p_R s28 (p_R s28 v0 1) 1)) (ci := 7) (q0 := (RX7, TX7, 9)) (As := [p_r r32, p_i 0, p_i (p_w (1 + (p_rem v1 200))), p_i (p_rem (p_div v1 200) 10)]) (rest := []) [] mt_State_bringIn rfl rfl tw_4_10 tw_4_11 tw_4_9 ⟨Nat.le_of_ble_eq_true rfl, Nat.le_of_ble_eq_true rfl⟩ rfl (Nat.le_of_ble_eq_true rfl) (dk_SW_comeByNight 40 rfl) rfl c35 rfl t38 ?_
            have hs39 : p_x s28 s36 := t38.1
            show p_Go K l m_SW_comeByNight 82 [(5, p_r r32), (4, p_r r7), (0, p_r v0), (1, p_i v1), (2, p_i v2), (3, p_i v3)] [] s36 _
            refine g_aload (j := 0) (dk_SW_comeByNight 41 rfl) rfl ?_
            refine g_iload_n (i := 2) (j := 4) (dk_SW_comeByNight 42 rfl) rfl rfl ?_
            refine g_bipush (dk_SW_comeByNight 43 rfl) (by decide +kernel) (by decide) ?_
            refine g_idiv (dk_SW_comeByNight 44 rfl) (by decide) ?_
            refine g_iconst (dk_SW_comeByNight 45 rfl) (by decide) ?_
            refine g_irem (dk_SW_comeByNight 46 rfl) (by decide) ?_
            refine g_iload_n (i := 2) (j := 4) (dk_SW_comeByNight 47 rfl) rfl rfl ?_
            refine g_bipush (dk_SW_comeByNight 48 rfl) (by decide +kernel) (by decide) ?_
            refine g_irem (dk_SW_comeByNight 49 rfl) (by decide) ?_
            obtain ⟨c40, h⟩ := p_gdE h
            obtain ⟨s41, q42, h⟩ := p_bvE h
            have t43 := tF_Parcel_write K l r32 (p_rem (p_div v2 100) 2) (p_rem v2 100) s36 _ q42
            refine g_callV (a := r32) (ci := 4) (q0 := (RX4, TX4, 13)) (As := [p_i (p_rem (p_div v2 100) 2), p_i (p_rem v2 100)]) (rest := []) [] mt_Parcel_write rfl rfl tw_4_34 tw_4_35 tw_4_33 ⟨Nat.le_of_ble_eq_true rfl, Nat.le_of_ble_eq_true rfl⟩ rfl (Nat.le_of_ble_eq_true rfl) (dk_SW_comeByNight 50 rfl) rfl c40 rfl t43 ?_
            have hs44 : p_x s36 s41 := t43.1
            show p_Go K l m_SW_comeByNight 97 [(5, p_r r32), (4, p_r r7), (0, p_r v0), (1, p_i v1), (2, p_i v2), (3, p_i v3)] [] s41 _
            refine g_aload (j := 0) (dk_SW_comeByNight 51 rfl) rfl ?_
            refine g_iload_n (i := 3) (j := 5) (dk_SW_comeByNight 52 rfl) rfl rfl ?_
            obtain ⟨s45, q46, h⟩ := p_bvE h
            have t47 := tF_Parcel_spoil K l r32 v3 s41 _ q46
            refine g_callV (a := r32) (ci := 4) (q0 := (RX4, TX4, 13)) (As := [p_i v3]) (rest := []) [] mt_Parcel_spoil rfl rfl tw_5_88 tw_5_89 tw_5_87 ⟨Nat.le_of_ble_eq_true rfl, Nat.le_of_ble_eq_true rfl⟩ rfl (Nat.le_of_ble_eq_true rfl) (dk_SW_comeByNight 53 rfl) rfl (c40.up hs44) rfl t47 ?_
            have hs48 : p_x s41 s45 := t47.1
            show p_Go K l m_SW_comeByNight 103 [(5, p_r r32), (4, p_r r7), (0, p_r v0), (1, p_i v1), (2, p_i v2), (3, p_i v3)] [] s45 _
            refine g_iconst (dk_SW_comeByNight 54 rfl) (by decide) ?_
            cases h
            exact g_ret rfl rfl (dk_SW_comeByNight 55 rfl) (fun os => ⟨_, rfl, p_okh os⟩)
          · have h := p_ifF b33 h
            refine g_iconst (dk_SW_comeByNight 23 rfl) (by decide) ?_
            cases h
            exact g_ret rfl rfl (dk_SW_comeByNight 24 rfl) (fun os => ⟨_, rfl, p_okh os⟩)
        · have h := p_ifF b27 h
          refine g_iconst (dk_SW_comeByNight 16 rfl) (by decide) ?_
          cases h
          exact g_ret rfl rfl (dk_SW_comeByNight 17 rfl) (fun os => ⟨_, rfl, p_okh os⟩)
def m_SW_drawnAfter : p_Me := (⟨"SortWorks", "drawnAfter", "(I)I"⟩, prog_1_method_31_code, 1, (some .int), 0, 0)
theorem mt_SW_drawnAfter : p_Mt m_SW_drawnAfter 1 := ⟨p_mem (p_tb5 (List.mem_of_getElem? (i := 81) rfl)) rfl, tw_1_1, by decide +kernel, by decide +kernel, by decide +kernel⟩
def dt_SW_drawnAfter : List (Nat × Instr × Nat) := [(0, .iload_n 0, 1), (1, .ldc_w 284, 3), (4, .imul, 1), (5, .sipush 12345, 3), (8, .iadd, 1), (9, .ireturn, 1)]
theorem dk_SW_drawnAfter (i : Nat) {pc : Nat} {ins : Instr} {len : Nat} (h : dt_SW_drawnAfter[i]? = some (pc, ins, len)) : decode m_SW_drawnAfter.2.1 pc = .ok (ins, len) := p_dk (b := m_SW_drawnAfter.2.1) (t := dt_SW_drawnAfter) (by decide +kernel) i h
def F_SW_drawnAfter (v0 : Int) (s0 : p_Hp) : Option (Int × p_Hp) :=
  some ((p_w ((p_w (v0 * 1103515245)) + 12345)), s0)
set_option maxRecDepth 100000 in
set_option maxHeartbeats 4000000 in
theorem tF_SW_drawnAfter (K : p_K) (l : Launch) (v0 : Int) (s0 : p_Hp) (r : (Int × p_Hp)) (h : F_SW_drawnAfter v0 s0 = some r) : p_Ct K l m_SW_drawnAfter [p_i v0] s0 (some (p_i r.1), r.2) := by
  refine p_Ct.of (by decide +kernel) (Nat.le_of_ble_eq_true rfl) ?_
  unfold F_SW_drawnAfter at h
  show p_Go K l m_SW_drawnAfter 0 [(0, p_i v0)] [] s0 _
  refine g_iload_n (i := 0) (j := 0) (dk_SW_drawnAfter 0 rfl) rfl rfl ?_
  refine g_ldc_w (x := 1103515245) (dk_SW_drawnAfter 1 rfl) tw_5_82 (by decide) (by decide) ?_
  refine g_imul (dk_SW_drawnAfter 2 rfl) ?_
  refine g_sipush (dk_SW_drawnAfter 3 rfl) (by decide +kernel) (by decide) ?_
  refine g_iadd (dk_SW_drawnAfter 4 rfl) ?_
  cases h
  exact g_ret rfl rfl (dk_SW_drawnAfter 5 rfl) (fun os => ⟨_, rfl, p_okh os⟩)
def m_SW_night : p_Me := (⟨"SortWorks", "night", "(II)I"⟩, prog_1_method_30_code, 9, (some .int), 7, 170)
theorem mt_SW_night : p_Mt m_SW_night 2 := ⟨p_mem (p_tb5 (List.mem_of_getElem? (i := 78) rfl)) rfl, tw_1_1, by decide +kernel, by decide +kernel, by decide +kernel⟩
def dt_SW_night : List (Nat × Instr × Nat) := [(0, .iload_n 2, 1), (1, .iconst 1, 1), (2, .if_icmp .lt 9, 3), (5, .iload_n 2, 1), (6, .bipush 20, 2), (8, .if_icmp .le 10, 3), (11, .aload_n 0, 1), (12, .bipush (-2), 2), (14, .invokevirtual 61, 3), (17, .ireturn, 1), (18, .iload_n 1, 1), (19, .istore_n 3, 1), (20, .iconst 0, 1), (21, .istore 4, 2), (23, .iconst 0, 1), (24, .istore 5, 2), (26, .iload 5, 2), (28, .iload_n 2, 1), (29, .if_icmp .ge 94, 3), (32, .iload_n 3, 1), (33, .invokestatic 277, 3), (36, .istore_n 3, 1), (37, .iload_n 3, 1), (38, .bipush 16, 2), (40, .iushr, 1), (41, .istore 6, 2), (43, .iload_n 3, 1), (44, .invokestatic 277, 3), (47, .istore_n 3, 1), (48, .iload_n 3, 1), (49, .bipush 16, 2), (51, .iushr, 1), (52, .istore 7, 2), (54, .iload_n 3, 1), (55, .invokestatic 277, 3), (58, .istore_n 3, 1), (59, .iload_n 3, 1), (60, .bipush 16, 2), (62, .iushr, 1), (63, .istore 8, 2), (65, .iload 4, 2), (67, .aload_n 0, 1), (68, .iload 6, 2), (70, .iload 7, 2), (72, .iload 8, 2), (74, .invokevirtual 280, 3), (77, .iadd, 1), (78, .istore 4, 2), (80, .aload_n 0, 1), (81, .getfield 47, 3), (84, .sipush 5000, 3), (87, .if_icmp .lt 6, 3), (90, .goto 33, 3), (93, .aload_n 0, 1), (94, .dup, 1), (95, .getfield 47, 3), (98, .aload_n 0, 1), (99, .getfield 32, 3), (102, .aload_n 0, 1), (103, .getfield 18, 3), (106, .aload_n 0, 1), (107, .getfield 25, 3), (110, .invokevirtual 270, 3), (113, .iadd, 1), (114, .putfield 47, 3), (117, .iinc 5 1, 3), (120, .goto (-94), 3), (123, .aload_n 0, 1), (124, .iload 4, 2), (126, .invokevirtual 57, 3), (129, .ireturn, 1)]
theorem dk_SW_night (i : Nat) {pc : Nat} {ins : Instr} {len : Nat} (h : dt_SW_night[i]? = some (pc, ins, len)) : decode m_SW_night.2.1 pc = .ok (ins, len) := p_dk (b := m_SW_night.2.1) (t := dt_SW_night) (by decide +kernel) i h
def B_SW_night_11  (v0 : Nat) (s0 : p_Hp) : Option (Int × p_Hp) :=
  p_gd (p_is s0 v0 10) <|
  p_bd (F_SW_refuse v0 (-2) s0) fun r6 s2 =>
  some (r6, s2)
def B_SW_night_123  (v0 : Nat) (v4 : Int) (s0 : p_Hp) : Option (Int × p_Hp) :=
  p_gd (p_is s0 v0 10) <|
  p_bd (F_SW_done v0 v4 s0) fun r6 s2 =>
  some (r6, s2)
def L_SW_night_26 (k26 : Nat → Int → Int → Int → Int → p_Hp → Option (Int × p_Hp)) (v0 : Nat) (v2 : Int) (v3 : Int) (v4 : Int) (v5 : Int) (s0 : p_Hp) : Option (Int × p_Hp) :=
  if v2 ≤ v5 then
    B_SW_night_123 v0 v4 s0
  else
    p_bd (F_SW_drawnAfter v3 s0) fun r6 s2 =>
    p_bi ((p_ushr r6 16)) fun x7 =>
    p_bd (F_SW_drawnAfter r6 s2) fun r12 s8 =>
    p_bi ((p_ushr r12 16)) fun x13 =>
    p_bd (F_SW_drawnAfter r12 s8) fun r18 s14 =>
    p_bi ((p_ushr r18 16)) fun x19 =>
    p_gd (p_is s14 v0 10) <|
    p_bd (F_SW_comeByNight v0 x7 x13 x19 s14) fun r25 s21 =>
    p_bi ((p_w (v4 + r25))) fun x26 =>
    if (p_Z s21 v0 7) < 5000 then
      p_gd (p_is s21 (p_R s21 v0 3) 8) <|
      p_bd (F_Step_run (p_R s21 v0 3) (p_R s21 v0 1) (p_R s21 v0 2) s21) fun r33 s29 =>
      p_bi (p_wZ s29 v0 7 (p_w ((p_Z s21 v0 7) + r33))) fun s34 =>
      p_bi (p_w (v5 + 1)) fun x36 =>
      k26 v0 v2 r18 x26 x36 s34
    else
      B_SW_night_123 v0 x26 s21
def O_SW_night_26  : Nat → Nat → Int → Int → Int → Int → p_Hp → Option (Int × p_Hp)
  | 0 => fun _ _ _ _ _ _ => none
  | n + 1 => L_SW_night_26 (O_SW_night_26 n)
def F_SW_night (v0 : Nat) (v1 : Int) (v2 : Int) (s0 : p_Hp) : Option (Int × p_Hp) :=
  if v2 < 1 then
    B_SW_night_11 v0 s0
  else
    if v2 ≤ 20 then
      O_SW_night_26 3000 v0 v2 v1 0 0 s0
    else
      B_SW_night_11 v0 s0
set_option maxRecDepth 100000 in
set_option maxHeartbeats 4000000 in
theorem tB_SW_night_11 (K : p_K) (l : Launch)  (v0 : Nat) (s0 : p_Hp) (r : (Int × p_Hp)) (h : B_SW_night_11 v0 s0 = some r) : p_Go K l m_SW_night 11 [(0, p_r v0)] [] s0 (some (p_i r.1), r.2) := by
  unfold B_SW_night_11 at h
  refine g_aload_n (i := 0) (j := 0) (dk_SW_night 6 rfl) rfl rfl ?_
  refine g_bipush (dk_SW_night 7 rfl) (by decide +kernel) (by decide) ?_
  obtain ⟨c1, h⟩ := p_gdE h
  obtain ⟨r6, s2, q3, h⟩ := p_bdE h
  have t4 := tF_SW_refuse K l v0 (-2) s0 _ q3
  refine g_callV (a := v0) (ci := 10) (q0 := (RX10, TX10, 9)) (As := [p_i (-2)]) (rest := []) [p_i r6] mt_SW_refuse rfl rfl tw_3_52 ts_0 tw_3_50 ⟨Nat.le_of_ble_eq_true rfl, Nat.le_of_ble_eq_true rfl⟩ rfl (Nat.le_of_ble_eq_true rfl) (dk_SW_night 8 rfl) rfl c1 rfl t4 ?_
  have hs5 : p_x s0 s2 := t4.1
  show p_Go K l m_SW_night 17 [(0, p_r v0)] [p_i r6] s2 _
  cases h
  exact g_ret rfl rfl (dk_SW_night 9 rfl) (fun os => ⟨_, rfl, p_okh os⟩)
set_option maxRecDepth 100000 in
set_option maxHeartbeats 4000000 in
theorem tB_SW_night_123 (K : p_K) (l : Launch)  (v0 : Nat) (v4 : Int) (s0 : p_Hp) (r : (Int × p_Hp)) (h : B_SW_night_123 v0 v4 s0 = some r) : p_Go K l m_SW_night 123 [(0, p_r v0), (4, p_i v4)] [] s0 (some (p_i r.1), r.2) := by
  unfold B_SW_night_123 at h
  refine g_aload_n (i := 0) (j := 0) (dk_SW_night 67 rfl) rfl rfl ?_
  refine g_iload (j := 1) (dk_SW_night 68 rfl) rfl ?_
  obtain ⟨c1, h⟩ := p_gdE h
  obtain ⟨r6, s2, q3, h⟩ := p_bdE h
  have t4 := tF_SW_done K l v0 v4 s0 _ q3
  refine g_callV (a := v0) (ci := 10) (q0 := (RX10, TX10, 9)) (As := [p_i v4]) (rest := []) [p_i r6] mt_SW_done rfl rfl tw_3_56 ts_1 tw_3_54 ⟨Nat.le_of_ble_eq_true rfl, Nat.le_of_ble_eq_true rfl⟩ rfl (Nat.le_of_ble_eq_true rfl) (dk_SW_night 69 rfl) rfl c1 rfl t4 ?_
  have hs5 : p_x s0 s2 := t4.1
  show p_Go K l m_SW_night 129 [(0, p_r v0), (4, p_i v4)] [p_i r6] s2 _
  cases h
  exact g_ret rfl rfl (dk_SW_night 70 rfl) (fun os => ⟨_, rfl, p_okh os⟩)
set_option maxRecDepth 100000 in
set_option maxHeartbeats 4000000 in
theorem tL_SW_night_26 (K : p_K) (l : Launch) (k26 : Nat → Int → Int → Int → Int → p_Hp → Option (Int × p_Hp)) (hk26 : ∀ (v0 : Nat) (v2 : Int) (v3 : Int) (v4 : Int) (v5 : Int)  (s0 : p_Hp) (r : (Int × p_Hp)), k26 v0 v2 v3 v4 v5 s0 = some r → p_Go K l m_SW_night 26 [(0, p_r v0), (2, p_i v2), (3, p_i v3), (4, p_i v4), (5, p_i v5)] [] s0 (some (p_i r.1), r.2)) (v0 : Nat) (v2 : Int) (v3 : Int) (v4 : Int) (v5 : Int) (s0 : p_Hp) (r : (Int × p_Hp)) (h : L_SW_night_26 k26 v0 v2 v3 v4 v5 s0 = some r) : p_Go K l m_SW_night 26 [(0, p_r v0), (2, p_i v2), (3, p_i v3), (4, p_i v4), (5, p_i v5)] [] s0 (some (p_i r.1), r.2) := by
  unfold L_SW_night_26 at h
  refine g_iload (j := 4) (dk_SW_night 16 rfl) rfl ?_
  refine g_iload_n (i := 2) (j := 1) (dk_SW_night 17 rfl) rfl rfl ?_
  refine g_icmp_ge 123 (dk_SW_night 18 rfl) (by decide) (fun b1 => ?_) (fun b1 => ?_)
  · have h := p_ifT b1 h
    refine g_sub [(0, p_r v0), (4, p_i v4)] [0, 3] rfl ?_
    exact tB_SW_night_123 K l v0 v4 s0 _ h
  · have h := p_ifF b1 h
    refine g_iload_n (i := 3) (j := 2) (dk_SW_night 19 rfl) rfl rfl ?_
    obtain ⟨r6, s2, q3, h⟩ := p_bdE h
    have t4 := tF_SW_drawnAfter K l v3 s0 _ q3
    refine g_callS (av := [p_i v3]) (rest := []) [p_i r6] mt_SW_drawnAfter tw_5_80 tw_5_79 ⟨Nat.le_of_ble_eq_true rfl, Nat.le_of_ble_eq_true rfl⟩ rfl (Nat.le_of_ble_eq_true rfl) (dk_SW_night 20 rfl) rfl rfl t4 ?_
    have hs5 : p_x s0 s2 := t4.1
    show p_Go K l m_SW_night 36 [(0, p_r v0), (2, p_i v2), (3, p_i v3), (4, p_i v4), (5, p_i v5)] [p_i r6] s2 _
    refine g_istore_n (i := 3) [(3, p_i r6), (0, p_r v0), (2, p_i v2), (4, p_i v4), (5, p_i v5)] (dk_SW_night 21 rfl) rfl (by decide) rfl ?_
    refine g_iload_n (i := 3) (j := 0) (dk_SW_night 22 rfl) rfl rfl ?_
    refine g_bipush (dk_SW_night 23 rfl) (by decide +kernel) (by decide) ?_
    refine g_iushr (dk_SW_night 24 rfl) ?_
    refine g_istore [(6, p_i (p_ushr r6 16)), (3, p_i r6), (0, p_r v0), (2, p_i v2), (4, p_i v4), (5, p_i v5)] (dk_SW_night 25 rfl) (by decide) rfl ?_
    refine p_ltG (P := fun q => p_Go K l m_SW_night 43 [(6, p_i q), (3, p_i r6), (0, p_r v0), (2, p_i v2), (4, p_i v4), (5, p_i v5)] [] s2 _) ?_ h
    intro x7 h
    refine g_iload_n (i := 3) (j := 1) (dk_SW_night 26 rfl) rfl rfl ?_
    obtain ⟨r12, s8, q9, h⟩ := p_bdE h
    have t10 := tF_SW_drawnAfter K l r6 s2 _ q9
    refine g_callS (av := [p_i r6]) (rest := []) [p_i r12] mt_SW_drawnAfter tw_5_80 tw_5_79 ⟨Nat.le_of_ble_eq_true rfl, Nat.le_of_ble_eq_true rfl⟩ rfl (Nat.le_of_ble_eq_true rfl) (dk_SW_night 27 rfl) rfl rfl t10 ?_
    have hs11 : p_x s2 s8 := t10.1
    show p_Go K l m_SW_night 47 [(6, p_i x7), (3, p_i r6), (0, p_r v0), (2, p_i v2), (4, p_i v4), (5, p_i v5)] [p_i r12] s8 _
    refine g_istore_n (i := 3) [(3, p_i r12), (6, p_i x7), (0, p_r v0), (2, p_i v2), (4, p_i v4), (5, p_i v5)] (dk_SW_night 28 rfl) rfl (by decide) rfl ?_
    refine g_iload_n (i := 3) (j := 0) (dk_SW_night 29 rfl) rfl rfl ?_
    refine g_bipush (dk_SW_night 30 rfl) (by decide +kernel) (by decide) ?_
    refine g_iushr (dk_SW_night 31 rfl) ?_
    refine g_istore [(7, p_i (p_ushr r12 16)), (3, p_i r12), (6, p_i x7), (0, p_r v0), (2, p_i v2), (4, p_i v4), (5, p_i v5)] (dk_SW_night 32 rfl) (by decide) rfl ?_
    refine p_ltG (P := fun q => p_Go K l m_SW_night 54 [(7, p_i q), (3, p_i r12), (6, p_i x7), (0, p_r v0), (2, p_i v2), (4, p_i v4), (5, p_i v5)] [] s8 _) ?_ h
    intro x13 h
    refine g_iload_n (i := 3) (j := 1) (dk_SW_night 33 rfl) rfl rfl ?_
    obtain ⟨r18, s14, q15, h⟩ := p_bdE h
    have t16 := tF_SW_drawnAfter K l r12 s8 _ q15
    refine g_callS (av := [p_i r12]) (rest := []) [p_i r18] mt_SW_drawnAfter tw_5_80 tw_5_79 ⟨Nat.le_of_ble_eq_true rfl, Nat.le_of_ble_eq_true rfl⟩ rfl (Nat.le_of_ble_eq_true rfl) (dk_SW_night 34 rfl) rfl rfl t16 ?_
    have hs17 : p_x s8 s14 := t16.1
    show p_Go K l m_SW_night 58 [(7, p_i x13), (3, p_i r12), (6, p_i x7), (0, p_r v0), (2, p_i v2), (4, p_i v4), (5, p_i v5)] [p_i r18] s14 _
    refine g_istore_n (i := 3) [(3, p_i r18), (7, p_i x13), (6, p_i x7), (0, p_r v0), (2, p_i v2), (4, p_i v4), (5, p_i v5)] (dk_SW_night 35 rfl) rfl (by decide) rfl ?_
    refine g_iload_n (i := 3) (j := 0) (dk_SW_night 36 rfl) rfl rfl ?_
    refine g_bipush (dk_SW_night 37 rfl) (by decide +kernel) (by decide) ?_
    refine g_iushr (dk_SW_night 38 rfl) ?_
    refine g_istore [(8, p_i (p_ushr r18 16)), (3, p_i r18), (7, p_i x13), (6, p_i x7), (0, p_r v0), (2, p_i v2), (4, p_i v4), (5, p_i v5)] (dk_SW_night 39 rfl) (by decide) rfl ?_
    refine p_ltG (P := fun q => p_Go K l m_SW_night 65 [(8, p_i q), (3, p_i r18), (7, p_i x13), (6, p_i x7), (0, p_r v0), (2, p_i v2), (4, p_i v4), (5, p_i v5)] [] s14 _) ?_ h
    intro x19 h
    refine g_iload (j := 6) (dk_SW_night 40 rfl) rfl ?_
    refine g_aload_n (i := 0) (j := 4) (dk_SW_night 41 rfl) rfl rfl ?_
    refine g_iload (j := 3) (dk_SW_night 42 rfl) rfl ?_
    refine g_iload (j := 2) (dk_SW_night 43 rfl) rfl ?_
    refine g_iload (j := 0) (dk_SW_night 44 rfl) rfl ?_
    obtain ⟨c20, h⟩ := p_gdE h
    obtain ⟨r25, s21, q22, h⟩ := p_bdE h
    have t23 := tF_SW_comeByNight K l v0 x7 x13 x19 s14 _ q22
    refine g_callV (a := v0) (ci := 10) (q0 := (RX10, TX10, 9)) (As := [p_i x7, p_i x13, p_i x19]) (rest := [p_i v4]) [p_i r25, p_i v4] mt_SW_comeByNight rfl rfl tw_5_85 ts_39 tw_5_83 ⟨Nat.le_of_ble_eq_true rfl, Nat.le_of_ble_eq_true rfl⟩ rfl (Nat.le_of_ble_eq_true rfl) (dk_SW_night 45 rfl) rfl c20 rfl t23 ?_
    have hs24 : p_x s14 s21 := t23.1
    show p_Go K l m_SW_night 77 [(8, p_i x19), (3, p_i r18), (7, p_i x13), (6, p_i x7), (0, p_r v0), (2, p_i v2), (4, p_i v4), (5, p_i v5)] [p_i r25, p_i v4] s21 _
    refine g_iadd (dk_SW_night 46 rfl) ?_
    refine g_istore [(4, p_i (p_w (v4 + r25))), (8, p_i x19), (3, p_i r18), (7, p_i x13), (6, p_i x7), (0, p_r v0), (2, p_i v2), (5, p_i v5)] (dk_SW_night 47 rfl) (by decide) rfl ?_
    refine p_ltG (P := fun q => p_Go K l m_SW_night 80 [(4, p_i q), (8, p_i x19), (3, p_i r18), (7, p_i x13), (6, p_i x7), (0, p_r v0), (2, p_i v2), (5, p_i v5)] [] s21 _) ?_ h
    intro x26 h
    refine g_aload_n (i := 0) (j := 5) (dk_SW_night 48 rfl) rfl rfl ?_
    refine g_getI fl_SW_47 (Or.inl rfl) (dk_SW_night 49 rfl) (c20.up hs24) ?_
    refine g_sipush (dk_SW_night 50 rfl) (by decide +kernel) (by decide) ?_
    refine g_icmp_lt 93 (dk_SW_night 51 rfl) (by decide) (fun b27 => ?_) (fun b27 => ?_)
    · have h := p_ifT b27 h
      refine g_aload_n (i := 0) (j := 5) (dk_SW_night 53 rfl) rfl rfl ?_
      refine g_dup (dk_SW_night 54 rfl) rfl ?_
      refine g_getI fl_SW_47 (Or.inl rfl) (dk_SW_night 55 rfl) (c20.up hs24) ?_
      refine g_aload_n (i := 0) (j := 5) (dk_SW_night 56 rfl) rfl rfl ?_
      refine g_getR fl_SW_32 (Or.inl ⟨_, rfl⟩) (dk_SW_night 57 rfl) (c20.up hs24) ?_
      refine g_aload_n (i := 0) (j := 5) (dk_SW_night 58 rfl) rfl rfl ?_
      refine g_getR fl_SW_18 (Or.inl ⟨_, rfl⟩) (dk_SW_night 59 rfl) (c20.up hs24) ?_
      refine g_aload_n (i := 0) (j := 5) (dk_SW_night 60 rfl) rfl rfl ?_
      refine g_getR fl_SW_25 (Or.inl ⟨_, rfl⟩) (dk_SW_night 61 rfl) (c20.up hs24) ?_
      obtain ⟨c28, h⟩ := p_gdE h
      obtain ⟨r33, s29, q30, h⟩ := p_bdE h
      have t31 := tF_Step_run K l (p_R s21 v0 3) (p_R s21 v0 1) (p_R s21 v0 2) s21 _ q30
      refine g_callV (a := (p_R s21 v0 3)) (ci := 8) (q0 := (RX8, TX8, 5)) (As := [p_r (p_R s21 v0 1), p_r (p_R s21 v0 2)]) (rest := [p_i (p_Z s21 v0 7), p_r v0]) [p_i r33, p_i (p_Z s21 v0 7), p_r v0] mt_Step_run rfl rfl tw_4_128 tw_4_129 tw_4_127 ⟨Nat.le_of_ble_eq_true rfl, Nat.le_of_ble_eq_true rfl⟩ rfl (Nat.le_of_ble_eq_true rfl) (dk_SW_night 62 rfl) rfl c28 rfl t31 ?_
      have hs32 : p_x s21 s29 := t31.1
      show p_Go K l m_SW_night 113 [(4, p_i x26), (8, p_i x19), (3, p_i r18), (7, p_i x13), (6, p_i x7), (0, p_r v0), (2, p_i v2), (5, p_i v5)] [p_i r33, p_i (p_Z s21 v0 7), p_r v0] s29 _
      refine g_iadd (dk_SW_night 63 rfl) ?_
      refine g_putI fl_SW_47 (Or.inl rfl) (dk_SW_night 64 rfl) (c20.up (hs24.trans hs32)) ?_
      refine p_ltS (P := fun q => p_Go K l m_SW_night 117 [(4, p_i x26), (8, p_i x19), (3, p_i r18), (7, p_i x13), (6, p_i x7), (0, p_r v0), (2, p_i v2), (5, p_i v5)] [] q _) (p_xZ _ _ _ _) ?_ h
      intro s34 hs35 h
      refine g_iinc (j := 7) [(5, p_i (p_w (v5 + 1))), (4, p_i x26), (8, p_i x19), (3, p_i r18), (7, p_i x13), (6, p_i x7), (0, p_r v0), (2, p_i v2)] (dk_SW_night 65 rfl) rfl (by decide) rfl ?_
      refine p_ltG (P := fun q => p_Go K l m_SW_night 120 [(5, p_i q), (4, p_i x26), (8, p_i x19), (3, p_i r18), (7, p_i x13), (6, p_i x7), (0, p_r v0), (2, p_i v2)] [] s34 _) ?_ h
      intro x36 h
      refine g_goto 26 (dk_SW_night 66 rfl) (by decide) ?_
      refine g_sub [(0, p_r v0), (2, p_i v2), (3, p_i r18), (4, p_i x26), (5, p_i x36)] [6, 7, 3, 1, 0] rfl ?_
      exact hk26 v0 v2 r18 x26 x36 s34 _ h
    · have h := p_ifF b27 h
      refine g_goto 123 (dk_SW_night 52 rfl) (by decide) ?_
      refine g_sub [(0, p_r v0), (4, p_i x26)] [5, 0] rfl ?_
      exact tB_SW_night_123 K l v0 x26 s21 _ h
set_option maxRecDepth 100000 in
set_option maxHeartbeats 4000000 in
theorem tO_SW_night_26 (K : p_K) (l : Launch)  : ∀ (n : Nat) (v0 : Nat) (v2 : Int) (v3 : Int) (v4 : Int) (v5 : Int) (s0 : p_Hp) (r : (Int × p_Hp)), O_SW_night_26 n v0 v2 v3 v4 v5 s0 = some r → p_Go K l m_SW_night 26 [(0, p_r v0), (2, p_i v2), (3, p_i v3), (4, p_i v4), (5, p_i v5)] [] s0 (some (p_i r.1), r.2) := by
  intro n
  induction n with
  | zero => intro v0 v2 v3 v4 v5 s0 r h; cases (show (none : Option (Int × p_Hp)) = some r from h)
  | succ n ih => intro v0 v2 v3 v4 v5 s0 r h; exact tL_SW_night_26 K l _ ih v0 v2 v3 v4 v5 s0 r h
set_option maxRecDepth 100000 in
set_option maxHeartbeats 4000000 in
theorem tF_SW_night (K : p_K) (l : Launch) (v0 : Nat) (v1 : Int) (v2 : Int) (s0 : p_Hp) (r : (Int × p_Hp)) (h : F_SW_night v0 v1 v2 s0 = some r) : p_Ct K l m_SW_night [p_r v0, p_i v1, p_i v2] s0 (some (p_i r.1), r.2) := by
  refine p_Ct.of (by decide +kernel) (Nat.le_of_ble_eq_true rfl) ?_
  unfold F_SW_night at h
  show p_Go K l m_SW_night 0 [(0, p_r v0), (1, p_i v1), (2, p_i v2)] [] s0 _
  refine g_iload_n (i := 2) (j := 2) (dk_SW_night 0 rfl) rfl rfl ?_
  refine g_iconst (dk_SW_night 1 rfl) (by decide) ?_
  refine g_icmp_lt 11 (dk_SW_night 2 rfl) (by decide) (fun b1 => ?_) (fun b1 => ?_)
  · have h := p_ifT b1 h
    refine g_sub [(0, p_r v0)] [0] rfl ?_
    exact tB_SW_night_11 K l v0 s0 _ h
  · have h := p_ifF b1 h
    refine g_iload_n (i := 2) (j := 2) (dk_SW_night 3 rfl) rfl rfl ?_
    refine g_bipush (dk_SW_night 4 rfl) (by decide +kernel) (by decide) ?_
    refine g_icmp_le 18 (dk_SW_night 5 rfl) (by decide) (fun b2 => ?_) (fun b2 => ?_)
    · have h := p_ifT b2 h
      refine g_iload_n (i := 1) (j := 1) (dk_SW_night 10 rfl) rfl rfl ?_
      refine g_istore_n (i := 3) [(3, p_i v1), (0, p_r v0), (1, p_i v1), (2, p_i v2)] (dk_SW_night 11 rfl) rfl (by decide) rfl ?_
      refine g_iconst (dk_SW_night 12 rfl) (by decide) ?_
      refine g_istore [(4, p_i 0), (3, p_i v1), (0, p_r v0), (1, p_i v1), (2, p_i v2)] (dk_SW_night 13 rfl) (by decide) rfl ?_
      refine g_iconst (dk_SW_night 14 rfl) (by decide) ?_
      refine g_istore [(5, p_i 0), (4, p_i 0), (3, p_i v1), (0, p_r v0), (1, p_i v1), (2, p_i v2)] (dk_SW_night 15 rfl) (by decide) rfl ?_
      refine g_sub [(0, p_r v0), (2, p_i v2), (3, p_i v1), (4, p_i 0), (5, p_i 0)] [3, 5, 2, 1, 0] rfl ?_
      exact tO_SW_night_26 K l 3000 v0 v2 v1 0 0 s0 _ h
    · have h := p_ifF b2 h
      refine g_sub [(0, p_r v0)] [0] rfl ?_
      exact tB_SW_night_11 K l v0 s0 _ h
def m_Numbers_undoSince : p_Me := (⟨"SortWorks$Numbers", "undoSince", "(ILSortWorks$State;)V"⟩, prog_5_method_4_code, 5, none, 1, 20)
theorem mt_Numbers_undoSince : p_Mt m_Numbers_undoSince 2 := ⟨p_mem (p_tb5 (List.mem_of_getElem? (i := 109) rfl)) rfl, tw_1_8, by decide +kernel, by decide +kernel, by decide +kernel⟩
def dt_Numbers_undoSince : List (Nat × Instr × Nat) := [(0, .aload_n 2, 1), (1, .getfield 23, 3), (4, .iconst 1, 1), (5, .iadd, 1), (6, .istore_n 3, 1), (7, .iload_n 3, 1), (8, .aload_n 0, 1), (9, .getfield 15, 3), (12, .if_icmp .gt 53, 3), (15, .aload_n 0, 1), (16, .getfield 9, 3), (19, .iload_n 3, 1), (20, .iaload, 1), (21, .iload_n 1, 1), (22, .invokestatic 19, 3), (25, .if_icmp .eq 26, 3), (28, .aload_n 0, 1), (29, .getfield 9, 3), (32, .iload_n 3, 1), (33, .iaload, 1), (34, .ifCond .lt 25, 3), (37, .aload_n 0, 1), (38, .getfield 9, 3), (41, .iload_n 3, 1), (42, .iaload, 1), (43, .sipush 1000, 3), (46, .idiv, 1), (47, .iload_n 1, 1), (48, .if_icmp .ne 11, 3), (51, .aload_n 0, 1), (52, .getfield 9, 3), (55, .iload_n 3, 1), (56, .bipush (-9), 2), (58, .iastore, 1), (59, .iinc 3 1, 3), (62, .goto (-55), 3), (65, .iconst 1, 1), (66, .istore_n 3, 1), (67, .iload_n 3, 1), (68, .bipush 30, 2), (70, .if_icmp .gt 36, 3), (73, .aload_n 2, 1), (74, .getfield 26, 3), (77, .iload_n 3, 1), (78, .aaload, 1), (79, .getfield 30, 3), (82, .istore 4, 2), (84, .iload 4, 2), (86, .ifCond .eq 14, 3), (89, .aload_n 0, 1), (90, .getfield 9, 3), (93, .iload 4, 2), (95, .iload_n 1, 1), (96, .invokestatic 19, 3), (99, .iastore, 1), (100, .iinc 3 1, 3), (103, .goto (-36), 3), (106, .return_, 1)]
theorem dk_Numbers_undoSince (i : Nat) {pc : Nat} {ins : Instr} {len : Nat} (h : dt_Numbers_undoSince[i]? = some (pc, ins, len)) : decode m_Numbers_undoSince.2.1 pc = .ok (ins, len) := p_dk (b := m_Numbers_undoSince.2.1) (t := dt_Numbers_undoSince) (by decide +kernel) i h
def B_Numbers_undoSince_59 (k7 : Nat → Int → Nat → Int → p_Hp → Option p_Hp) (v0 : Nat) (v1 : Int) (v2 : Nat) (v3 : Int) (s0 : p_Hp) : Option p_Hp :=
  p_bi (p_w (v3 + 1)) fun x1 =>
  k7 v0 v1 v2 x1 s0
def B_Numbers_undoSince_51 (k7 : Nat → Int → Nat → Int → p_Hp → Option p_Hp) (v0 : Nat) (v1 : Int) (v2 : Nat) (v3 : Int) (s0 : p_Hp) : Option p_Hp :=
  p_gd (p_is s0 v0 3) <|
  p_gd (p_is s0 (p_R s0 v0 0) 100) <|
  p_gd ((0 : Int) ≤ v3 ∧ v3 < (p_L s0 (p_R s0 v0 0) : Int)) <|
  p_bi (p_wZ s0 (p_R s0 v0 0) (v3 : Int).toNat (-9)) fun s4 =>
  B_Numbers_undoSince_59 k7 v0 v1 v2 v3 s4
def B_Numbers_undoSince_100 (k67 : Nat → Int → Nat → Int → p_Hp → Option p_Hp) (v0 : Nat) (v1 : Int) (v2 : Nat) (v3 : Int) (s0 : p_Hp) : Option p_Hp :=
  p_bi (p_w (v3 + 1)) fun x1 =>
  k67 v0 v1 v2 x1 s0
def L_Numbers_undoSince_67 (k67 : Nat → Int → Nat → Int → p_Hp → Option p_Hp) (v0 : Nat) (v1 : Int) (v2 : Nat) (v3 : Int) (s0 : p_Hp) : Option p_Hp :=
  if 30 < v3 then
    some s0
  else
    p_gd (p_is s0 v2 7) <|
    p_gd (p_is s0 (p_R s0 v2 5) 106) <|
    p_gd ((0 : Int) ≤ v3 ∧ v3 < (p_L s0 (p_R s0 v2 5) : Int)) <|
    p_gd (p_is s0 (p_R s0 (p_R s0 v2 5) (v3 : Int).toNat) 4) <|
    p_bi ((p_Z s0 (p_R s0 (p_R s0 v2 5) (v3 : Int).toNat) 1)) fun x6 =>
    if x6 = 0 then
      B_Numbers_undoSince_100 k67 v0 v1 v2 v3 s0
    else
      p_gd (p_is s0 v0 3) <|
      p_bd (F_Numbers_insideOf v1 s0) fun r13 s9 =>
      p_gd (p_is s9 (p_R s0 v0 0) 100) <|
      p_gd ((0 : Int) ≤ x6 ∧ x6 < (p_L s9 (p_R s0 v0 0) : Int)) <|
      p_bi (p_wZ s9 (p_R s0 v0 0) (x6 : Int).toNat r13) fun s16 =>
      B_Numbers_undoSince_100 k67 v0 v1 v2 v3 s16
def O_Numbers_undoSince_67  : Nat → Nat → Int → Nat → Int → p_Hp → Option p_Hp
  | 0 => fun _ _ _ _ _ => none
  | n + 1 => L_Numbers_undoSince_67 (O_Numbers_undoSince_67 n)
def L_Numbers_undoSince_7 (k7 : Nat → Int → Nat → Int → p_Hp → Option p_Hp) (v0 : Nat) (v1 : Int) (v2 : Nat) (v3 : Int) (s0 : p_Hp) : Option p_Hp :=
  p_gd (p_is s0 v0 3) <|
  if (p_Z s0 v0 1) < v3 then
    O_Numbers_undoSince_67 3000 v0 v1 v2 1 s0
  else
    p_gd (p_is s0 (p_R s0 v0 0) 100) <|
    p_gd ((0 : Int) ≤ v3 ∧ v3 < (p_L s0 (p_R s0 v0 0) : Int)) <|
    p_bd (F_Numbers_insideOf v1 s0) fun r9 s5 =>
    if (p_Z s0 (p_R s0 v0 0) (v3 : Int).toNat) = r9 then
      B_Numbers_undoSince_51 k7 v0 v1 v2 v3 s5
    else
      p_gd (p_is s5 (p_R s5 v0 0) 100) <|
      p_gd ((0 : Int) ≤ v3 ∧ v3 < (p_L s5 (p_R s5 v0 0) : Int)) <|
      if (p_Z s5 (p_R s5 v0 0) (v3 : Int).toNat) < 0 then
        B_Numbers_undoSince_59 k7 v0 v1 v2 v3 s5
      else
        p_gd ((0 : Int) ≤ v3 ∧ v3 < (p_L s5 (p_R s5 v0 0) : Int)) <|
        if (p_div (p_Z s5 (p_R s5 v0 0) (v3 : Int).toNat) 1000) ≠ v1 then
          B_Numbers_undoSince_59 k7 v0 v1 v2 v3 s5
        else
          B_Numbers_undoSince_51 k7 v0 v1 v2 v3 s5
def O_Numbers_undoSince_7  : Nat → Nat → Int → Nat → Int → p_Hp → Option p_Hp
  | 0 => fun _ _ _ _ _ => none
  | n + 1 => L_Numbers_undoSince_7 (O_Numbers_undoSince_7 n)
def F_Numbers_undoSince (v0 : Nat) (v1 : Int) (v2 : Nat) (s0 : p_Hp) : Option p_Hp :=
  p_gd (p_is s0 v2 7) <|
  p_bi ((p_w ((p_Z s0 v2 3) + 1))) fun x2 =>
  O_Numbers_undoSince_7 3000 v0 v1 v2 x2 s0
set_option maxRecDepth 100000 in
set_option maxHeartbeats 4000000 in
theorem tB_Numbers_undoSince_59 (K : p_K) (l : Launch) (k7 : Nat → Int → Nat → Int → p_Hp → Option p_Hp) (hk7 : ∀ (v0 : Nat) (v1 : Int) (v2 : Nat) (v3 : Int)  (s0 : p_Hp) (r : p_Hp), k7 v0 v1 v2 v3 s0 = some r → p_Go K l m_Numbers_undoSince 7 [(0, p_r v0), (1, p_i v1), (2, p_r v2), (3, p_i v3)] [] s0 (none, r)) (v0 : Nat) (v1 : Int) (v2 : Nat) (v3 : Int) (s0 : p_Hp) (r : p_Hp) (h : B_Numbers_undoSince_59 k7 v0 v1 v2 v3 s0 = some r) : p_Go K l m_Numbers_undoSince 59 [(0, p_r v0), (1, p_i v1), (2, p_r v2), (3, p_i v3)] [] s0 (none, r) := by
  unfold B_Numbers_undoSince_59 at h
  refine g_iinc (j := 3) [(3, p_i (p_w (v3 + 1))), (0, p_r v0), (1, p_i v1), (2, p_r v2)] (dk_Numbers_undoSince 34 rfl) rfl (by decide) rfl ?_
  refine p_ltG (P := fun q => p_Go K l m_Numbers_undoSince 62 [(3, p_i q), (0, p_r v0), (1, p_i v1), (2, p_r v2)] [] s0 _) ?_ h
  intro x1 h
  refine g_goto 7 (dk_Numbers_undoSince 35 rfl) (by decide) ?_
  refine g_sub [(0, p_r v0), (1, p_i v1), (2, p_r v2), (3, p_i x1)] [1, 2, 3, 0] rfl ?_
  exact hk7 v0 v1 v2 x1 s0 _ h
set_option maxRecDepth 100000 in
set_option maxHeartbeats 4000000 in
theorem tB_Numbers_undoSince_51 (K : p_K) (l : Launch) (k7 : Nat → Int → Nat → Int → p_Hp → Option p_Hp) (hk7 : ∀ (v0 : Nat) (v1 : Int) (v2 : Nat) (v3 : Int)  (s0 : p_Hp) (r : p_Hp), k7 v0 v1 v2 v3 s0 = some r → p_Go K l m_Numbers_undoSince 7 [(0, p_r v0), (1, p_i v1), (2, p_r v2), (3, p_i v3)] [] s0 (none, r)) (v0 : Nat) (v1 : Int) (v2 : Nat) (v3 : Int) (s0 : p_Hp) (r : p_Hp) (h : B_Numbers_undoSince_51 k7 v0 v1 v2 v3 s0 = some r) : p_Go K l m_Numbers_undoSince 51 [(0, p_r v0), (1, p_i v1), (2, p_r v2), (3, p_i v3)] [] s0 (none, r) := by
  unfold B_Numbers_undoSince_51 at h
  refine g_aload_n (i := 0) (j := 0) (dk_Numbers_undoSince 29 rfl) rfl rfl ?_
  obtain ⟨c1, h⟩ := p_gdE h
  refine g_getR fl_Numbers_9 (Or.inr ⟨_, rfl⟩) (dk_Numbers_undoSince 30 rfl) c1 ?_
  refine g_iload_n (i := 3) (j := 3) (dk_Numbers_undoSince 31 rfl) rfl rfl ?_
  refine g_bipush (dk_Numbers_undoSince 32 rfl) (by decide +kernel) (by decide) ?_
  obtain ⟨c2, h⟩ := p_gdE h
  obtain ⟨c3, h⟩ := p_gdE h
  refine g_iastore (dk_Numbers_undoSince 33 rfl) c2 c3.1 c3.2 ?_
  refine p_ltS (P := fun q => p_Go K l m_Numbers_undoSince 59 [(0, p_r v0), (1, p_i v1), (2, p_r v2), (3, p_i v3)] [] q _) (p_xZ _ _ _ _) ?_ h
  intro s4 hs5 h
  exact tB_Numbers_undoSince_59 K l k7 hk7 v0 v1 v2 v3 s4 _ h
set_option maxRecDepth 100000 in
set_option maxHeartbeats 4000000 in
theorem tB_Numbers_undoSince_100 (K : p_K) (l : Launch) (k67 : Nat → Int → Nat → Int → p_Hp → Option p_Hp) (hk67 : ∀ (v0 : Nat) (v1 : Int) (v2 : Nat) (v3 : Int)  (s0 : p_Hp) (r : p_Hp), k67 v0 v1 v2 v3 s0 = some r → p_Go K l m_Numbers_undoSince 67 [(0, p_r v0), (1, p_i v1), (2, p_r v2), (3, p_i v3)] [] s0 (none, r)) (v0 : Nat) (v1 : Int) (v2 : Nat) (v3 : Int) (s0 : p_Hp) (r : p_Hp) (h : B_Numbers_undoSince_100 k67 v0 v1 v2 v3 s0 = some r) : p_Go K l m_Numbers_undoSince 100 [(0, p_r v0), (1, p_i v1), (2, p_r v2), (3, p_i v3)] [] s0 (none, r) := by
  unfold B_Numbers_undoSince_100 at h
  refine g_iinc (j := 3) [(3, p_i (p_w (v3 + 1))), (0, p_r v0), (1, p_i v1), (2, p_r v2)] (dk_Numbers_undoSince 55 rfl) rfl (by decide) rfl ?_
  refine p_ltG (P := fun q => p_Go K l m_Numbers_undoSince 103 [(3, p_i q), (0, p_r v0), (1, p_i v1), (2, p_r v2)] [] s0 _) ?_ h
  intro x1 h
  refine g_goto 67 (dk_Numbers_undoSince 56 rfl) (by decide) ?_
  refine g_sub [(0, p_r v0), (1, p_i v1), (2, p_r v2), (3, p_i x1)] [1, 2, 3, 0] rfl ?_
  exact hk67 v0 v1 v2 x1 s0 _ h
set_option maxRecDepth 100000 in
set_option maxHeartbeats 4000000 in
theorem tL_Numbers_undoSince_67 (K : p_K) (l : Launch) (k67 : Nat → Int → Nat → Int → p_Hp → Option p_Hp) (hk67 : ∀ (v0 : Nat) (v1 : Int) (v2 : Nat) (v3 : Int)  (s0 : p_Hp) (r : p_Hp), k67 v0 v1 v2 v3 s0 = some r → p_Go K l m_Numbers_undoSince 67 [(0, p_r v0), (1, p_i v1), (2, p_r v2), (3, p_i v3)] [] s0 (none, r)) (v0 : Nat) (v1 : Int) (v2 : Nat) (v3 : Int) (s0 : p_Hp) (r : p_Hp) (h : L_Numbers_undoSince_67 k67 v0 v1 v2 v3 s0 = some r) : p_Go K l m_Numbers_undoSince 67 [(0, p_r v0), (1, p_i v1), (2, p_r v2), (3, p_i v3)] [] s0 (none, r) := by
  unfold L_Numbers_undoSince_67 at h
  refine g_iload_n (i := 3) (j := 3) (dk_Numbers_undoSince 38 rfl) rfl rfl ?_
  refine g_bipush (dk_Numbers_undoSince 39 rfl) (by decide +kernel) (by decide) ?_
  refine g_icmp_gt 106 (dk_Numbers_undoSince 40 rfl) (by decide) (fun b1 => ?_) (fun b1 => ?_)
  · have h := p_ifT b1 h
    cases h
    exact g_ret rfl rfl (dk_Numbers_undoSince 57 rfl) (fun _ => rfl)
  · have h := p_ifF b1 h
    refine g_aload_n (i := 2) (j := 2) (dk_Numbers_undoSince 41 rfl) rfl rfl ?_
    obtain ⟨c2, h⟩ := p_gdE h
    refine g_getR fl_Numbers_26 (Or.inr ⟨_, rfl⟩) (dk_Numbers_undoSince 42 rfl) c2 ?_
    refine g_iload_n (i := 3) (j := 3) (dk_Numbers_undoSince 43 rfl) rfl rfl ?_
    obtain ⟨c3, h⟩ := p_gdE h
    obtain ⟨c4, h⟩ := p_gdE h
    refine g_aaload (i := 6) rfl (Or.inl ⟨_, rfl⟩) (dk_Numbers_undoSince 44 rfl) c3 c4.1 c4.2 ?_
    obtain ⟨c5, h⟩ := p_gdE h
    refine g_getI fl_Numbers_30 (Or.inl rfl) (dk_Numbers_undoSince 45 rfl) c5 ?_
    refine g_istore [(4, p_i (p_Z s0 (p_R s0 (p_R s0 v2 5) (v3 : Int).toNat) 1)), (0, p_r v0), (1, p_i v1), (2, p_r v2), (3, p_i v3)] (dk_Numbers_undoSince 46 rfl) (by decide) rfl ?_
    refine p_ltG (P := fun q => p_Go K l m_Numbers_undoSince 84 [(4, p_i q), (0, p_r v0), (1, p_i v1), (2, p_r v2), (3, p_i v3)] [] s0 _) ?_ h
    intro x6 h
    refine g_iload (j := 0) (dk_Numbers_undoSince 47 rfl) rfl ?_
    refine g_if_eq 100 (dk_Numbers_undoSince 48 rfl) (by decide) (fun b7 => ?_) (fun b7 => ?_)
    · have h := p_ifT b7 h
      refine g_sub [(0, p_r v0), (1, p_i v1), (2, p_r v2), (3, p_i v3)] [1, 2, 3, 4] rfl ?_
      exact tB_Numbers_undoSince_100 K l k67 hk67 v0 v1 v2 v3 s0 _ h
    · have h := p_ifF b7 h
      refine g_aload_n (i := 0) (j := 1) (dk_Numbers_undoSince 49 rfl) rfl rfl ?_
      obtain ⟨c8, h⟩ := p_gdE h
      refine g_getR fl_Numbers_9 (Or.inr ⟨_, rfl⟩) (dk_Numbers_undoSince 50 rfl) c8 ?_
      refine g_iload (j := 0) (dk_Numbers_undoSince 51 rfl) rfl ?_
      refine g_iload_n (i := 1) (j := 2) (dk_Numbers_undoSince 52 rfl) rfl rfl ?_
      obtain ⟨r13, s9, q10, h⟩ := p_bdE h
      have t11 := tF_Numbers_insideOf K l v1 s0 _ q10
      refine g_callS (av := [p_i v1]) (rest := [p_i x6, p_r (p_R s0 v0 0)]) [p_i r13, p_i x6, p_r (p_R s0 v0 0)] mt_Numbers_insideOf tw_4_7 tw_4_6 ⟨Nat.le_of_ble_eq_true rfl, Nat.le_of_ble_eq_true rfl⟩ rfl (Nat.le_of_ble_eq_true rfl) (dk_Numbers_undoSince 53 rfl) rfl rfl t11 ?_
      have hs12 : p_x s0 s9 := t11.1
      show p_Go K l m_Numbers_undoSince 99 [(4, p_i x6), (0, p_r v0), (1, p_i v1), (2, p_r v2), (3, p_i v3)] [p_i r13, p_i x6, p_r (p_R s0 v0 0)] s9 _
      obtain ⟨c14, h⟩ := p_gdE h
      obtain ⟨c15, h⟩ := p_gdE h
      refine g_iastore (dk_Numbers_undoSince 54 rfl) c14 c15.1 c15.2 ?_
      refine p_ltS (P := fun q => p_Go K l m_Numbers_undoSince 100 [(4, p_i x6), (0, p_r v0), (1, p_i v1), (2, p_r v2), (3, p_i v3)] [] q _) (p_xZ _ _ _ _) ?_ h
      intro s16 hs17 h
      refine g_sub [(0, p_r v0), (1, p_i v1), (2, p_r v2), (3, p_i v3)] [1, 2, 3, 4] rfl ?_
      exact tB_Numbers_undoSince_100 K l k67 hk67 v0 v1 v2 v3 s16 _ h
set_option maxRecDepth 100000 in
set_option maxHeartbeats 4000000 in
theorem tO_Numbers_undoSince_67 (K : p_K) (l : Launch)  : ∀ (n : Nat) (v0 : Nat) (v1 : Int) (v2 : Nat) (v3 : Int) (s0 : p_Hp) (r : p_Hp), O_Numbers_undoSince_67 n v0 v1 v2 v3 s0 = some r → p_Go K l m_Numbers_undoSince 67 [(0, p_r v0), (1, p_i v1), (2, p_r v2), (3, p_i v3)] [] s0 (none, r) := by
  intro n
  induction n with
  | zero => intro v0 v1 v2 v3 s0 r h; cases (show (none : Option p_Hp) = some r from h)
  | succ n ih => intro v0 v1 v2 v3 s0 r h; exact tL_Numbers_undoSince_67 K l _ ih v0 v1 v2 v3 s0 r h
set_option maxRecDepth 100000 in
set_option maxHeartbeats 4000000 in
theorem tL_Numbers_undoSince_7 (K : p_K) (l : Launch) (k7 : Nat → Int → Nat → Int → p_Hp → Option p_Hp) (hk7 : ∀ (v0 : Nat) (v1 : Int) (v2 : Nat) (v3 : Int)  (s0 : p_Hp) (r : p_Hp), k7 v0 v1 v2 v3 s0 = some r → p_Go K l m_Numbers_undoSince 7 [(0, p_r v0), (1, p_i v1), (2, p_r v2), (3, p_i v3)] [] s0 (none, r)) (v0 : Nat) (v1 : Int) (v2 : Nat) (v3 : Int) (s0 : p_Hp) (r : p_Hp) (h : L_Numbers_undoSince_7 k7 v0 v1 v2 v3 s0 = some r) : p_Go K l m_Numbers_undoSince 7 [(0, p_r v0), (1, p_i v1), (2, p_r v2), (3, p_i v3)] [] s0 (none, r) := by
  unfold L_Numbers_undoSince_7 at h
  refine g_iload_n (i := 3) (j := 3) (dk_Numbers_undoSince 5 rfl) rfl rfl ?_
  refine g_aload_n (i := 0) (j := 0) (dk_Numbers_undoSince 6 rfl) rfl rfl ?_
  obtain ⟨c1, h⟩ := p_gdE h
  refine g_getI fl_Numbers_15 (Or.inl rfl) (dk_Numbers_undoSince 7 rfl) c1 ?_
  refine g_icmp_gt 65 (dk_Numbers_undoSince 8 rfl) (by decide) (fun b2 => ?_) (fun b2 => ?_)
  · have h := p_ifT b2 h
    refine g_iconst (dk_Numbers_undoSince 36 rfl) (by decide) ?_
    refine g_istore_n (i := 3) [(3, p_i 1), (0, p_r v0), (1, p_i v1), (2, p_r v2)] (dk_Numbers_undoSince 37 rfl) rfl (by decide) rfl ?_
    refine g_sub [(0, p_r v0), (1, p_i v1), (2, p_r v2), (3, p_i 1)] [1, 2, 3, 0] rfl ?_
    exact tO_Numbers_undoSince_67 K l 3000 v0 v1 v2 1 s0 _ h
  · have h := p_ifF b2 h
    refine g_aload_n (i := 0) (j := 0) (dk_Numbers_undoSince 9 rfl) rfl rfl ?_
    refine g_getR fl_Numbers_9 (Or.inr ⟨_, rfl⟩) (dk_Numbers_undoSince 10 rfl) c1 ?_
    refine g_iload_n (i := 3) (j := 3) (dk_Numbers_undoSince 11 rfl) rfl rfl ?_
    obtain ⟨c3, h⟩ := p_gdE h
    obtain ⟨c4, h⟩ := p_gdE h
    refine g_iaload (dk_Numbers_undoSince 12 rfl) c3 c4.1 c4.2 ?_
    refine g_iload_n (i := 1) (j := 1) (dk_Numbers_undoSince 13 rfl) rfl rfl ?_
    obtain ⟨r9, s5, q6, h⟩ := p_bdE h
    have t7 := tF_Numbers_insideOf K l v1 s0 _ q6
    refine g_callS (av := [p_i v1]) (rest := [p_i (p_Z s0 (p_R s0 v0 0) (v3 : Int).toNat)]) [p_i r9, p_i (p_Z s0 (p_R s0 v0 0) (v3 : Int).toNat)] mt_Numbers_insideOf tw_4_7 tw_4_6 ⟨Nat.le_of_ble_eq_true rfl, Nat.le_of_ble_eq_true rfl⟩ rfl (Nat.le_of_ble_eq_true rfl) (dk_Numbers_undoSince 14 rfl) rfl rfl t7 ?_
    have hs8 : p_x s0 s5 := t7.1
    show p_Go K l m_Numbers_undoSince 25 [(0, p_r v0), (1, p_i v1), (2, p_r v2), (3, p_i v3)] [p_i r9, p_i (p_Z s0 (p_R s0 v0 0) (v3 : Int).toNat)] s5 _
    refine g_icmp_eq 51 (dk_Numbers_undoSince 15 rfl) (by decide) (fun b10 => ?_) (fun b10 => ?_)
    · have h := p_ifT b10 h
      exact tB_Numbers_undoSince_51 K l k7 hk7 v0 v1 v2 v3 s5 _ h
    · have h := p_ifF b10 h
      refine g_aload_n (i := 0) (j := 0) (dk_Numbers_undoSince 16 rfl) rfl rfl ?_
      refine g_getR fl_Numbers_9 (Or.inr ⟨_, rfl⟩) (dk_Numbers_undoSince 17 rfl) (c1.up hs8) ?_
      refine g_iload_n (i := 3) (j := 3) (dk_Numbers_undoSince 18 rfl) rfl rfl ?_
      obtain ⟨c11, h⟩ := p_gdE h
      obtain ⟨c12, h⟩ := p_gdE h
      refine g_iaload (dk_Numbers_undoSince 19 rfl) c11 c12.1 c12.2 ?_
      refine g_if_lt 59 (dk_Numbers_undoSince 20 rfl) (by decide) (fun b13 => ?_) (fun b13 => ?_)
      · have h := p_ifT b13 h
        exact tB_Numbers_undoSince_59 K l k7 hk7 v0 v1 v2 v3 s5 _ h
      · have h := p_ifF b13 h
        refine g_aload_n (i := 0) (j := 0) (dk_Numbers_undoSince 21 rfl) rfl rfl ?_
        refine g_getR fl_Numbers_9 (Or.inr ⟨_, rfl⟩) (dk_Numbers_undoSince 22 rfl) (c1.up hs8) ?_
        refine g_iload_n (i := 3) (j := 3) (dk_Numbers_undoSince 23 rfl) rfl rfl ?_
        obtain ⟨c14, h⟩ := p_gdE h
        refine g_iaload (dk_Numbers_undoSince 24 rfl) c11 c14.1 c14.2 ?_
        refine g_sipush (dk_Numbers_undoSince 25 rfl) (by decide +kernel) (by decide) ?_
        refine g_idiv (dk_Numbers_undoSince 26 rfl) (by decide) ?_
        refine g_iload_n (i := 1) (j := 1) (dk_Numbers_undoSince 27 rfl) rfl rfl ?_
        refine g_icmp_ne 59 (dk_Numbers_undoSince 28 rfl) (by decide) (fun b15 => ?_) (fun b15 => ?_)
        · have h := p_ifT b15 h
          exact tB_Numbers_undoSince_59 K l k7 hk7 v0 v1 v2 v3 s5 _ h
        · have h := p_ifF b15 h
          exact tB_Numbers_undoSince_51 K l k7 hk7 v0 v1 v2 v3 s5 _ h
set_option maxRecDepth 100000 in
set_option maxHeartbeats 4000000 in
theorem tO_Numbers_undoSince_7 (K : p_K) (l : Launch)  : ∀ (n : Nat) (v0 : Nat) (v1 : Int) (v2 : Nat) (v3 : Int) (s0 : p_Hp) (r : p_Hp), O_Numbers_undoSince_7 n v0 v1 v2 v3 s0 = some r → p_Go K l m_Numbers_undoSince 7 [(0, p_r v0), (1, p_i v1), (2, p_r v2), (3, p_i v3)] [] s0 (none, r) := by
  intro n
  induction n with
  | zero => intro v0 v1 v2 v3 s0 r h; cases (show (none : Option p_Hp) = some r from h)
  | succ n ih => intro v0 v1 v2 v3 s0 r h; exact tL_Numbers_undoSince_7 K l _ ih v0 v1 v2 v3 s0 r h
set_option maxRecDepth 100000 in
set_option maxHeartbeats 4000000 in
theorem tF_Numbers_undoSince (K : p_K) (l : Launch) (v0 : Nat) (v1 : Int) (v2 : Nat) (s0 : p_Hp) (r : p_Hp) (h : F_Numbers_undoSince v0 v1 v2 s0 = some r) : p_Ct K l m_Numbers_undoSince [p_r v0, p_i v1, p_r v2] s0 (none, r) := by
  refine p_Ct.of (by decide +kernel) (Nat.le_of_ble_eq_true rfl) ?_
  unfold F_Numbers_undoSince at h
  show p_Go K l m_Numbers_undoSince 0 [(0, p_r v0), (1, p_i v1), (2, p_r v2)] [] s0 _
  refine g_aload_n (i := 2) (j := 2) (dk_Numbers_undoSince 0 rfl) rfl rfl ?_
  obtain ⟨c1, h⟩ := p_gdE h
  refine g_getI fl_Numbers_23 (Or.inl rfl) (dk_Numbers_undoSince 1 rfl) c1 ?_
  refine g_iconst (dk_Numbers_undoSince 2 rfl) (by decide) ?_
  refine g_iadd (dk_Numbers_undoSince 3 rfl) ?_
  refine g_istore_n (i := 3) [(3, p_i (p_w ((p_Z s0 v2 3) + 1))), (0, p_r v0), (1, p_i v1), (2, p_r v2)] (dk_Numbers_undoSince 4 rfl) rfl (by decide) rfl ?_
  refine p_ltG (P := fun q => p_Go K l m_Numbers_undoSince 7 [(3, p_i q), (0, p_r v0), (1, p_i v1), (2, p_r v2)] [] s0 _) ?_ h
  intro x2 h
  refine g_sub [(0, p_r v0), (1, p_i v1), (2, p_r v2), (3, p_i x2)] [1, 2, 3, 0] rfl ?_
  exact tO_Numbers_undoSince_7 K l 3000 v0 v1 v2 x2 s0 _ h
def m_Ma_floorMod : p_Me := (⟨"java/lang/Math", "floorMod", "(II)I"⟩, prog_16_method_50_code, 3, (some .int), 0, 0)
theorem mt_Ma_floorMod : p_Mt m_Ma_floorMod 2 := ⟨p_mem (p_tb5 (List.mem_of_getElem? (i := 105) rfl)) rfl, tw_1_14, by decide +kernel, by decide +kernel, by decide +kernel⟩
def dt_Ma_floorMod : List (Nat × Instr × Nat) := [(0, .iload_n 0, 1), (1, .iload_n 1, 1), (2, .irem, 1), (3, .istore_n 2, 1), (4, .iload_n 0, 1), (5, .iload_n 1, 1), (6, .ixor, 1), (7, .ifCond .ge 11, 3), (10, .iload_n 2, 1), (11, .ifCond .eq 7, 3), (14, .iload_n 2, 1), (15, .iload_n 1, 1), (16, .iadd, 1), (17, .ireturn, 1), (18, .iload_n 2, 1), (19, .ireturn, 1)]
theorem dk_Ma_floorMod (i : Nat) {pc : Nat} {ins : Instr} {len : Nat} (h : dt_Ma_floorMod[i]? = some (pc, ins, len)) : decode m_Ma_floorMod.2.1 pc = .ok (ins, len) := p_dk (b := m_Ma_floorMod.2.1) (t := dt_Ma_floorMod) (by decide +kernel) i h
def F_Ma_floorMod (v0 : Int) (v1 : Int) (s0 : p_Hp) : Option (Int × p_Hp) :=
  p_gd (v1 ≠ 0) <|
  p_bi ((p_rem v0 v1)) fun x2 =>
  if 0 ≤ (p_xor v0 v1) then
    some (x2, s0)
  else
    if x2 = 0 then
      some (x2, s0)
    else
      some ((p_w (x2 + v1)), s0)
set_option maxRecDepth 100000 in
set_option maxHeartbeats 4000000 in
theorem tF_Ma_floorMod (K : p_K) (l : Launch) (v0 : Int) (v1 : Int) (s0 : p_Hp) (r : (Int × p_Hp)) (h : F_Ma_floorMod v0 v1 s0 = some r) : p_Ct K l m_Ma_floorMod [p_i v0, p_i v1] s0 (some (p_i r.1), r.2) := by
  refine p_Ct.of (by decide +kernel) (Nat.le_of_ble_eq_true rfl) ?_
  unfold F_Ma_floorMod at h
  show p_Go K l m_Ma_floorMod 0 [(0, p_i v0), (1, p_i v1)] [] s0 _
  refine g_iload_n (i := 0) (j := 0) (dk_Ma_floorMod 0 rfl) rfl rfl ?_
  refine g_iload_n (i := 1) (j := 1) (dk_Ma_floorMod 1 rfl) rfl rfl ?_
  obtain ⟨c1, h⟩ := p_gdE h
  refine g_irem (dk_Ma_floorMod 2 rfl) c1 ?_
  refine g_istore_n (i := 2) [(2, p_i (p_rem v0 v1)), (0, p_i v0), (1, p_i v1)] (dk_Ma_floorMod 3 rfl) rfl (by decide) rfl ?_
  refine p_ltG (P := fun q => p_Go K l m_Ma_floorMod 4 [(2, p_i q), (0, p_i v0), (1, p_i v1)] [] s0 _) ?_ h
  intro x2 h
  refine g_iload_n (i := 0) (j := 1) (dk_Ma_floorMod 4 rfl) rfl rfl ?_
  refine g_iload_n (i := 1) (j := 2) (dk_Ma_floorMod 5 rfl) rfl rfl ?_
  refine g_ixor (dk_Ma_floorMod 6 rfl) ?_
  refine g_if_ge 18 (dk_Ma_floorMod 7 rfl) (by decide) (fun b3 => ?_) (fun b3 => ?_)
  · have h := p_ifT b3 h
    refine g_iload_n (i := 2) (j := 0) (dk_Ma_floorMod 14 rfl) rfl rfl ?_
    cases h
    exact g_ret rfl rfl (dk_Ma_floorMod 15 rfl) (fun os => ⟨_, rfl, p_okh os⟩)
  · have h := p_ifF b3 h
    refine g_iload_n (i := 2) (j := 0) (dk_Ma_floorMod 8 rfl) rfl rfl ?_
    refine g_if_eq 18 (dk_Ma_floorMod 9 rfl) (by decide) (fun b4 => ?_) (fun b4 => ?_)
    · have h := p_ifT b4 h
      refine g_iload_n (i := 2) (j := 0) (dk_Ma_floorMod 14 rfl) rfl rfl ?_
      cases h
      exact g_ret rfl rfl (dk_Ma_floorMod 15 rfl) (fun os => ⟨_, rfl, p_okh os⟩)
    · have h := p_ifF b4 h
      refine g_iload_n (i := 2) (j := 0) (dk_Ma_floorMod 10 rfl) rfl rfl ?_
      refine g_iload_n (i := 1) (j := 2) (dk_Ma_floorMod 11 rfl) rfl rfl ?_
      refine g_iadd (dk_Ma_floorMod 12 rfl) ?_
      cases h
      exact g_ret rfl rfl (dk_Ma_floorMod 13 rfl) (fun os => ⟨_, rfl, p_okh os⟩)
def m_Works_goBack : p_Me := (⟨"SortWorks$Works", "goBack", "(I)V"⟩, prog_11_method_7_code, 2, none, 3, 104)
theorem mt_Works_goBack : p_Mt m_Works_goBack 1 := ⟨p_mem (p_tb5 (List.mem_of_getElem? (i := 102) rfl)) rfl, tw_1_2, by decide +kernel, by decide +kernel, by decide +kernel⟩
def dt_Works_goBack : List (Nat × Instr × Nat) := [(0, .aload_n 0, 1), (1, .aload_n 0, 1), (2, .getfield 95, 3), (5, .iload_n 1, 1), (6, .isub, 1), (7, .bipush 30, 2), (9, .invokestatic 113, 3), (12, .putfield 95, 3), (15, .aload_n 0, 1), (16, .dup, 1), (17, .getfield 104, 3), (20, .iload_n 1, 1), (21, .isub, 1), (22, .putfield 104, 3), (25, .aload_n 0, 1), (26, .iconst 0, 1), (27, .putfield 116, 3), (30, .aload_n 0, 1), (31, .getfield 46, 3), (34, .aload_n 0, 1), (35, .getfield 95, 3), (38, .aaload, 1), (39, .ifnull 23, 3), (42, .aload_n 0, 1), (43, .getfield 12, 3), (46, .aload_n 0, 1), (47, .getfield 46, 3), (50, .aload_n 0, 1), (51, .getfield 95, 3), (54, .aaload, 1), (55, .aload_n 0, 1), (56, .getfield 57, 3), (59, .invokevirtual 101, 3), (62, .return_, 1)]
theorem dk_Works_goBack (i : Nat) {pc : Nat} {ins : Instr} {len : Nat} (h : dt_Works_goBack[i]? = some (pc, ins, len)) : decode m_Works_goBack.2.1 pc = .ok (ins, len) := p_dk (b := m_Works_goBack.2.1) (t := dt_Works_goBack) (by decide +kernel) i h
def F_Works_goBack (v0 : Nat) (v1 : Int) (s0 : p_Hp) : Option p_Hp :=
  p_gd (p_is s0 v0 9) <|
  p_bd (F_Ma_floorMod (p_w ((p_Z s0 v0 13) - v1)) 30 s0) fun r6 s2 =>
  p_bi (p_wZ s2 v0 13 r6) fun s7 =>
  p_bi (p_wZ s7 v0 14 (p_w ((p_Z s7 v0 14) - v1))) fun s9 =>
  p_bi (p_wZ s9 v0 11 0) fun s11 =>
  p_gd (p_is s11 (p_R s11 v0 12) 107) <|
  p_gd ((0 : Int) ≤ (p_Z s11 v0 13) ∧ (p_Z s11 v0 13) < (p_L s11 (p_R s11 v0 12) : Int)) <|
  if (p_R s11 (p_R s11 v0 12) ((p_Z s11 v0 13) : Int).toNat) = 0 then
    some s11
  else
    p_gd ((0 : Int) ≤ (p_Z s11 v0 13) ∧ (p_Z s11 v0 13) < (p_L s11 (p_R s11 v0 12) : Int)) <|
    p_gd (p_is s11 (p_R s11 v0 1) 7) <|
    p_bv (F_State_becomeAs (p_R s11 v0 1) (p_R s11 (p_R s11 v0 12) ((p_Z s11 v0 13) : Int).toNat) (p_Z s11 v0 2) s11) fun s18 =>
    some s18
set_option maxRecDepth 100000 in
set_option maxHeartbeats 4000000 in
theorem tF_Works_goBack (K : p_K) (l : Launch) (v0 : Nat) (v1 : Int) (s0 : p_Hp) (r : p_Hp) (h : F_Works_goBack v0 v1 s0 = some r) : p_Ct K l m_Works_goBack [p_r v0, p_i v1] s0 (none, r) := by
  refine p_Ct.of (by decide +kernel) (Nat.le_of_ble_eq_true rfl) ?_
  unfold F_Works_goBack at h
  show p_Go K l m_Works_goBack 0 [(0, p_r v0), (1, p_i v1)] [] s0 _
  refine g_aload_n (i := 0) (j := 0) (dk_Works_goBack 0 rfl) rfl rfl ?_
  refine g_aload_n (i := 0) (j := 0) (dk_Works_goBack 1 rfl) rfl rfl ?_
  obtain ⟨c1, h⟩ := p_gdE h
  refine g_getI fl_Works_95 (Or.inl rfl) (dk_Works_goBack 2 rfl) c1 ?_
  refine g_iload_n (i := 1) (j := 1) (dk_Works_goBack 3 rfl) rfl rfl ?_
  refine g_isub (dk_Works_goBack 4 rfl) ?_
  refine g_bipush (dk_Works_goBack 5 rfl) (by decide +kernel) (by decide) ?_
  obtain ⟨r6, s2, q3, h⟩ := p_bdE h
  have t4 := tF_Ma_floorMod K l (p_w ((p_Z s0 v0 13) - v1)) 30 s0 _ q3
  refine g_callS (av := [p_i (p_w ((p_Z s0 v0 13) - v1)), p_i 30]) (rest := [p_r v0]) [p_i r6, p_r v0] mt_Ma_floorMod tw_5_104 tw_5_103 ⟨Nat.le_of_ble_eq_true rfl, Nat.le_of_ble_eq_true rfl⟩ rfl (Nat.le_of_ble_eq_true rfl) (dk_Works_goBack 6 rfl) rfl rfl t4 ?_
  have hs5 : p_x s0 s2 := t4.1
  show p_Go K l m_Works_goBack 12 [(0, p_r v0), (1, p_i v1)] [p_i r6, p_r v0] s2 _
  refine g_putI fl_Works_95 (Or.inl rfl) (dk_Works_goBack 7 rfl) (c1.up hs5) ?_
  refine p_ltS (P := fun q => p_Go K l m_Works_goBack 15 [(0, p_r v0), (1, p_i v1)] [] q _) (p_xZ _ _ _ _) ?_ h
  intro s7 hs8 h
  refine g_aload_n (i := 0) (j := 0) (dk_Works_goBack 8 rfl) rfl rfl ?_
  refine g_dup (dk_Works_goBack 9 rfl) rfl ?_
  refine g_getI fl_Works_104 (Or.inl rfl) (dk_Works_goBack 10 rfl) (c1.up (hs5.trans hs8)) ?_
  refine g_iload_n (i := 1) (j := 1) (dk_Works_goBack 11 rfl) rfl rfl ?_
  refine g_isub (dk_Works_goBack 12 rfl) ?_
  refine g_putI fl_Works_104 (Or.inl rfl) (dk_Works_goBack 13 rfl) (c1.up (hs5.trans hs8)) ?_
  refine p_ltS (P := fun q => p_Go K l m_Works_goBack 25 [(0, p_r v0), (1, p_i v1)] [] q _) (p_xZ _ _ _ _) ?_ h
  intro s9 hs10 h
  refine g_aload_n (i := 0) (j := 0) (dk_Works_goBack 14 rfl) rfl rfl ?_
  refine g_iconst (dk_Works_goBack 15 rfl) (by decide) ?_
  refine g_putI fl_Works_116 (Or.inl rfl) (dk_Works_goBack 16 rfl) (c1.up (hs5.trans (hs8.trans hs10))) ?_
  refine p_ltS (P := fun q => p_Go K l m_Works_goBack 30 [(0, p_r v0), (1, p_i v1)] [] q _) (p_xZ _ _ _ _) ?_ h
  intro s11 hs12 h
  refine g_aload_n (i := 0) (j := 0) (dk_Works_goBack 17 rfl) rfl rfl ?_
  refine g_getR fl_Works_46 (Or.inr ⟨_, rfl⟩) (dk_Works_goBack 18 rfl) (c1.up (hs5.trans (hs8.trans (hs10.trans hs12)))) ?_
  refine g_aload_n (i := 0) (j := 0) (dk_Works_goBack 19 rfl) rfl rfl ?_
  refine g_getI fl_Works_95 (Or.inl rfl) (dk_Works_goBack 20 rfl) (c1.up (hs5.trans (hs8.trans (hs10.trans hs12)))) ?_
  obtain ⟨c13, h⟩ := p_gdE h
  obtain ⟨c14, h⟩ := p_gdE h
  refine g_aaload (i := 7) rfl (Or.inl ⟨_, rfl⟩) (dk_Works_goBack 21 rfl) c13 c14.1 c14.2 ?_
  refine g_ifnull 62 (dk_Works_goBack 22 rfl) (by decide) (fun b15 => ?_) (fun b15 => ?_)
  · have h := p_ifT b15 h
    cases h
    exact g_ret rfl rfl (dk_Works_goBack 33 rfl) (fun _ => rfl)
  · have h := p_ifF b15 h
    refine g_aload_n (i := 0) (j := 0) (dk_Works_goBack 23 rfl) rfl rfl ?_
    refine g_getR fl_Works_12 (Or.inl ⟨_, rfl⟩) (dk_Works_goBack 24 rfl) (c1.up (hs5.trans (hs8.trans (hs10.trans hs12)))) ?_
    refine g_aload_n (i := 0) (j := 0) (dk_Works_goBack 25 rfl) rfl rfl ?_
    refine g_getR fl_Works_46 (Or.inr ⟨_, rfl⟩) (dk_Works_goBack 26 rfl) (c1.up (hs5.trans (hs8.trans (hs10.trans hs12)))) ?_
    refine g_aload_n (i := 0) (j := 0) (dk_Works_goBack 27 rfl) rfl rfl ?_
    refine g_getI fl_Works_95 (Or.inl rfl) (dk_Works_goBack 28 rfl) (c1.up (hs5.trans (hs8.trans (hs10.trans hs12)))) ?_
    obtain ⟨c16, h⟩ := p_gdE h
    refine g_aaload (i := 7) rfl (Or.inl ⟨_, rfl⟩) (dk_Works_goBack 29 rfl) c13 c16.1 c16.2 ?_
    refine g_aload_n (i := 0) (j := 0) (dk_Works_goBack 30 rfl) rfl rfl ?_
    refine g_getI fl_Works_57 (Or.inl rfl) (dk_Works_goBack 31 rfl) (c1.up (hs5.trans (hs8.trans (hs10.trans hs12)))) ?_
    obtain ⟨c17, h⟩ := p_gdE h
    obtain ⟨s18, q19, h⟩ := p_bvE h
    have t20 := tF_State_becomeAs K l (p_R s11 v0 1) (p_R s11 (p_R s11 v0 12) ((p_Z s11 v0 13) : Int).toNat) (p_Z s11 v0 2) s11 _ q19
    refine g_callV (a := (p_R s11 v0 1)) (ci := 7) (q0 := (RX7, TX7, 9)) (As := [p_r (p_R s11 (p_R s11 v0 12) ((p_Z s11 v0 13) : Int).toNat), p_i (p_Z s11 v0 2)]) (rest := []) [] mt_State_becomeAs rfl rfl tw_4_136 tw_4_137 tw_4_135 ⟨Nat.le_of_ble_eq_true rfl, Nat.le_of_ble_eq_true rfl⟩ rfl (Nat.le_of_ble_eq_true rfl) (dk_Works_goBack 32 rfl) rfl c17 rfl t20 ?_
    have hs21 : p_x s11 s18 := t20.1
    show p_Go K l m_Works_goBack 62 [(0, p_r v0), (1, p_i v1)] [] s18 _
    cases h
    exact g_ret rfl rfl (dk_Works_goBack 33 rfl) (fun _ => rfl)
def m_SW_back : p_Me := (⟨"SortWorks", "back", "(I)I"⟩, prog_1_method_33_code, 2, (some .int), 4, 125)
theorem mt_SW_back : p_Mt m_SW_back 1 := ⟨p_mem (p_tb5 (List.mem_of_getElem? (i := 98) rfl)) rfl, tw_1_1, by decide +kernel, by decide +kernel, by decide +kernel⟩
def dt_SW_back : List (Nat × Instr × Nat) := [(0, .iload_n 1, 1), (1, .iconst 1, 1), (2, .if_icmp .lt 9, 3), (5, .iload_n 1, 1), (6, .bipush 30, 2), (8, .if_icmp .le 10, 3), (11, .aload_n 0, 1), (12, .bipush (-2), 2), (14, .invokevirtual 61, 3), (17, .ireturn, 1), (18, .iload_n 1, 1), (19, .aload_n 0, 1), (20, .getfield 18, 3), (23, .getfield 288, 3), (26, .if_icmp .le 10, 3), (29, .aload_n 0, 1), (30, .bipush (-3), 2), (32, .invokevirtual 61, 3), (35, .ireturn, 1), (36, .aload_n 0, 1), (37, .getfield 18, 3), (40, .iload_n 1, 1), (41, .invokevirtual 291, 3), (44, .aload_n 0, 1), (45, .getfield 25, 3), (48, .aload_n 0, 1), (49, .getfield 18, 3), (52, .getfield 64, 3), (55, .aload_n 0, 1), (56, .getfield 18, 3), (59, .getfield 77, 3), (62, .invokevirtual 294, 3), (65, .aload_n 0, 1), (66, .aload_n 0, 1), (67, .getfield 18, 3), (70, .getfield 77, 3), (73, .getfield 274, 3), (76, .invokevirtual 57, 3), (79, .ireturn, 1)]
theorem dk_SW_back (i : Nat) {pc : Nat} {ins : Instr} {len : Nat} (h : dt_SW_back[i]? = some (pc, ins, len)) : decode m_SW_back.2.1 pc = .ok (ins, len) := p_dk (b := m_SW_back.2.1) (t := dt_SW_back) (by decide +kernel) i h
def B_SW_back_11  (v0 : Nat) (s0 : p_Hp) : Option (Int × p_Hp) :=
  p_gd (p_is s0 v0 10) <|
  p_bd (F_SW_refuse v0 (-2) s0) fun r6 s2 =>
  some (r6, s2)
def F_SW_back (v0 : Nat) (v1 : Int) (s0 : p_Hp) : Option (Int × p_Hp) :=
  if v1 < 1 then
    B_SW_back_11 v0 s0
  else
    if v1 ≤ 30 then
      p_gd (p_is s0 v0 10) <|
      p_gd (p_is s0 (p_R s0 v0 1) 9) <|
      if v1 ≤ (p_Z s0 (p_R s0 v0 1) 14) then
        p_bv (F_Works_goBack (p_R s0 v0 1) v1 s0) fun s6 =>
        p_gd (p_is s6 (p_R s6 v0 1) 9) <|
        p_gd (p_is s6 (p_R s6 v0 2) 3) <|
        p_bv (F_Numbers_undoSince (p_R s6 v0 2) (p_Z s6 (p_R s6 v0 1) 0) (p_R s6 (p_R s6 v0 1) 1) s6) fun s12 =>
        p_gd (p_is s12 (p_R s12 v0 1) 9) <|
        p_gd (p_is s12 (p_R s12 (p_R s12 v0 1) 1) 7) <|
        p_bd (F_SW_done v0 (p_Z s12 (p_R s12 (p_R s12 v0 1) 1) 0) s12) fun r22 s18 =>
        some (r22, s18)
      else
        p_bd (F_SW_refuse v0 (-3) s0) fun r27 s23 =>
        some (r27, s23)
    else
      B_SW_back_11 v0 s0
set_option maxRecDepth 100000 in
set_option maxHeartbeats 4000000 in
theorem tB_SW_back_11 (K : p_K) (l : Launch)  (v0 : Nat) (s0 : p_Hp) (r : (Int × p_Hp)) (h : B_SW_back_11 v0 s0 = some r) : p_Go K l m_SW_back 11 [(0, p_r v0)] [] s0 (some (p_i r.1), r.2) := by
  unfold B_SW_back_11 at h
  refine g_aload_n (i := 0) (j := 0) (dk_SW_back 6 rfl) rfl rfl ?_
  refine g_bipush (dk_SW_back 7 rfl) (by decide +kernel) (by decide) ?_
  obtain ⟨c1, h⟩ := p_gdE h
  obtain ⟨r6, s2, q3, h⟩ := p_bdE h
  have t4 := tF_SW_refuse K l v0 (-2) s0 _ q3
  refine g_callV (a := v0) (ci := 10) (q0 := (RX10, TX10, 9)) (As := [p_i (-2)]) (rest := []) [p_i r6] mt_SW_refuse rfl rfl tw_3_52 ts_0 tw_3_50 ⟨Nat.le_of_ble_eq_true rfl, Nat.le_of_ble_eq_true rfl⟩ rfl (Nat.le_of_ble_eq_true rfl) (dk_SW_back 8 rfl) rfl c1 rfl t4 ?_
  have hs5 : p_x s0 s2 := t4.1
  show p_Go K l m_SW_back 17 [(0, p_r v0)] [p_i r6] s2 _
  cases h
  exact g_ret rfl rfl (dk_SW_back 9 rfl) (fun os => ⟨_, rfl, p_okh os⟩)
set_option maxRecDepth 100000 in
set_option maxHeartbeats 4000000 in
theorem tF_SW_back (K : p_K) (l : Launch) (v0 : Nat) (v1 : Int) (s0 : p_Hp) (r : (Int × p_Hp)) (h : F_SW_back v0 v1 s0 = some r) : p_Ct K l m_SW_back [p_r v0, p_i v1] s0 (some (p_i r.1), r.2) := by
  refine p_Ct.of (by decide +kernel) (Nat.le_of_ble_eq_true rfl) ?_
  unfold F_SW_back at h
  show p_Go K l m_SW_back 0 [(0, p_r v0), (1, p_i v1)] [] s0 _
  refine g_iload_n (i := 1) (j := 1) (dk_SW_back 0 rfl) rfl rfl ?_
  refine g_iconst (dk_SW_back 1 rfl) (by decide) ?_
  refine g_icmp_lt 11 (dk_SW_back 2 rfl) (by decide) (fun b1 => ?_) (fun b1 => ?_)
  · have h := p_ifT b1 h
    refine g_sub [(0, p_r v0)] [0] rfl ?_
    exact tB_SW_back_11 K l v0 s0 _ h
  · have h := p_ifF b1 h
    refine g_iload_n (i := 1) (j := 1) (dk_SW_back 3 rfl) rfl rfl ?_
    refine g_bipush (dk_SW_back 4 rfl) (by decide +kernel) (by decide) ?_
    refine g_icmp_le 18 (dk_SW_back 5 rfl) (by decide) (fun b2 => ?_) (fun b2 => ?_)
    · have h := p_ifT b2 h
      refine g_iload_n (i := 1) (j := 1) (dk_SW_back 10 rfl) rfl rfl ?_
      refine g_aload_n (i := 0) (j := 0) (dk_SW_back 11 rfl) rfl rfl ?_
      obtain ⟨c3, h⟩ := p_gdE h
      refine g_getR fl_SW_18 (Or.inl ⟨_, rfl⟩) (dk_SW_back 12 rfl) c3 ?_
      obtain ⟨c4, h⟩ := p_gdE h
      refine g_getI fl_SW_288 (Or.inl rfl) (dk_SW_back 13 rfl) c4 ?_
      refine g_icmp_le 36 (dk_SW_back 14 rfl) (by decide) (fun b5 => ?_) (fun b5 => ?_)
      · have h := p_ifT b5 h
        refine g_aload_n (i := 0) (j := 0) (dk_SW_back 19 rfl) rfl rfl ?_
        refine g_getR fl_SW_18 (Or.inl ⟨_, rfl⟩) (dk_SW_back 20 rfl) c3 ?_
        refine g_iload_n (i := 1) (j := 1) (dk_SW_back 21 rfl) rfl rfl ?_
        obtain ⟨s6, q7, h⟩ := p_bvE h
        have t8 := tF_Works_goBack K l (p_R s0 v0 1) v1 s0 _ q7
        refine g_callV (a := (p_R s0 v0 1)) (ci := 9) (q0 := (RX9, TX9, 16)) (As := [p_i v1]) (rest := []) [] mt_Works_goBack rfl rfl tw_5_100 tw_5_101 tw_5_99 ⟨Nat.le_of_ble_eq_true rfl, Nat.le_of_ble_eq_true rfl⟩ rfl (Nat.le_of_ble_eq_true rfl) (dk_SW_back 22 rfl) rfl c4 rfl t8 ?_
        have hs9 : p_x s0 s6 := t8.1
        show p_Go K l m_SW_back 44 [(0, p_r v0), (1, p_i v1)] [] s6 _
        refine g_aload_n (i := 0) (j := 0) (dk_SW_back 23 rfl) rfl rfl ?_
        refine g_getR fl_SW_25 (Or.inl ⟨_, rfl⟩) (dk_SW_back 24 rfl) (c3.up hs9) ?_
        refine g_aload_n (i := 0) (j := 0) (dk_SW_back 25 rfl) rfl rfl ?_
        refine g_getR fl_SW_18 (Or.inl ⟨_, rfl⟩) (dk_SW_back 26 rfl) (c3.up hs9) ?_
        obtain ⟨c10, h⟩ := p_gdE h
        refine g_getI fl_SW_64 (Or.inl rfl) (dk_SW_back 27 rfl) c10 ?_
        refine g_aload_n (i := 0) (j := 0) (dk_SW_back 28 rfl) rfl rfl ?_
        refine g_getR fl_SW_18 (Or.inl ⟨_, rfl⟩) (dk_SW_back 29 rfl) (c3.up hs9) ?_
        refine g_getR fl_SW_77 (Or.inl ⟨_, rfl⟩) (dk_SW_back 30 rfl) c10 ?_
        obtain ⟨c11, h⟩ := p_gdE h
        obtain ⟨s12, q13, h⟩ := p_bvE h
        have t14 := tF_Numbers_undoSince K l (p_R s6 v0 2) (p_Z s6 (p_R s6 v0 1) 0) (p_R s6 (p_R s6 v0 1) 1) s6 _ q13
        refine g_callV (a := (p_R s6 v0 2)) (ci := 3) (q0 := (RX3, TX3, 2)) (As := [p_i (p_Z s6 (p_R s6 v0 1) 0), p_r (p_R s6 (p_R s6 v0 1) 1)]) (rest := []) [] mt_Numbers_undoSince rfl rfl tw_5_107 tw_5_108 tw_5_106 ⟨Nat.le_of_ble_eq_true rfl, Nat.le_of_ble_eq_true rfl⟩ rfl (Nat.le_of_ble_eq_true rfl) (dk_SW_back 31 rfl) rfl c11 rfl t14 ?_
        have hs15 : p_x s6 s12 := t14.1
        show p_Go K l m_SW_back 65 [(0, p_r v0), (1, p_i v1)] [] s12 _
        refine g_aload_n (i := 0) (j := 0) (dk_SW_back 32 rfl) rfl rfl ?_
        refine g_aload_n (i := 0) (j := 0) (dk_SW_back 33 rfl) rfl rfl ?_
        refine g_getR fl_SW_18 (Or.inl ⟨_, rfl⟩) (dk_SW_back 34 rfl) (c3.up (hs9.trans hs15)) ?_
        obtain ⟨c16, h⟩ := p_gdE h
        refine g_getR fl_SW_77 (Or.inl ⟨_, rfl⟩) (dk_SW_back 35 rfl) c16 ?_
        obtain ⟨c17, h⟩ := p_gdE h
        refine g_getI fl_SW_274 (Or.inl rfl) (dk_SW_back 36 rfl) c17 ?_
        obtain ⟨r22, s18, q19, h⟩ := p_bdE h
        have t20 := tF_SW_done K l v0 (p_Z s12 (p_R s12 (p_R s12 v0 1) 1) 0) s12 _ q19
        refine g_callV (a := v0) (ci := 10) (q0 := (RX10, TX10, 9)) (As := [p_i (p_Z s12 (p_R s12 (p_R s12 v0 1) 1) 0)]) (rest := []) [p_i r22] mt_SW_done rfl rfl tw_3_56 ts_1 tw_3_54 ⟨Nat.le_of_ble_eq_true rfl, Nat.le_of_ble_eq_true rfl⟩ rfl (Nat.le_of_ble_eq_true rfl) (dk_SW_back 37 rfl) rfl (c3.up (hs9.trans hs15)) rfl t20 ?_
        have hs21 : p_x s12 s18 := t20.1
        show p_Go K l m_SW_back 79 [(0, p_r v0), (1, p_i v1)] [p_i r22] s18 _
        cases h
        exact g_ret rfl rfl (dk_SW_back 38 rfl) (fun os => ⟨_, rfl, p_okh os⟩)
      · have h := p_ifF b5 h
        refine g_aload_n (i := 0) (j := 0) (dk_SW_back 15 rfl) rfl rfl ?_
        refine g_bipush (dk_SW_back 16 rfl) (by decide +kernel) (by decide) ?_
        obtain ⟨r27, s23, q24, h⟩ := p_bdE h
        have t25 := tF_SW_refuse K l v0 (-3) s0 _ q24
        refine g_callV (a := v0) (ci := 10) (q0 := (RX10, TX10, 9)) (As := [p_i (-3)]) (rest := []) [p_i r27] mt_SW_refuse rfl rfl tw_3_52 ts_0 tw_3_50 ⟨Nat.le_of_ble_eq_true rfl, Nat.le_of_ble_eq_true rfl⟩ rfl (Nat.le_of_ble_eq_true rfl) (dk_SW_back 17 rfl) rfl c3 rfl t25 ?_
        have hs26 : p_x s0 s23 := t25.1
        show p_Go K l m_SW_back 35 [(0, p_r v0), (1, p_i v1)] [p_i r27] s23 _
        cases h
        exact g_ret rfl rfl (dk_SW_back 18 rfl) (fun os => ⟨_, rfl, p_okh os⟩)
    · have h := p_ifF b2 h
      refine g_sub [(0, p_r v0)] [0] rfl ?_
      exact tB_SW_back_11 K l v0 s0 _ h
def m_SW_status : p_Me := (⟨"SortWorks", "status", "()I"⟩, prog_1_method_34_code, 1, (some .int), 0, 0)
theorem mt_SW_status : p_Mt m_SW_status 0 := ⟨p_mem (p_tb5 (List.mem_of_getElem? (i := 113) rfl)) rfl, tw_1_1, by decide +kernel, by decide +kernel, by decide +kernel⟩
def dt_SW_status : List (Nat × Instr × Nat) := [(0, .aload_n 0, 1), (1, .getfield 51, 3), (4, .ireturn, 1)]
theorem dk_SW_status (i : Nat) {pc : Nat} {ins : Instr} {len : Nat} (h : dt_SW_status[i]? = some (pc, ins, len)) : decode m_SW_status.2.1 pc = .ok (ins, len) := p_dk (b := m_SW_status.2.1) (t := dt_SW_status) (by decide +kernel) i h
def F_SW_status (v0 : Nat) (s0 : p_Hp) : Option (Int × p_Hp) :=
  p_gd (p_is s0 v0 10) <|
  some ((p_Z s0 v0 8), s0)
set_option maxRecDepth 100000 in
set_option maxHeartbeats 4000000 in
theorem tF_SW_status (K : p_K) (l : Launch) (v0 : Nat) (s0 : p_Hp) (r : (Int × p_Hp)) (h : F_SW_status v0 s0 = some r) : p_Ct K l m_SW_status [p_r v0] s0 (some (p_i r.1), r.2) := by
  refine p_Ct.of (by decide +kernel) (Nat.le_of_ble_eq_true rfl) ?_
  unfold F_SW_status at h
  show p_Go K l m_SW_status 0 [(0, p_r v0)] [] s0 _
  refine g_aload_n (i := 0) (j := 0) (dk_SW_status 0 rfl) rfl rfl ?_
  obtain ⟨c1, h⟩ := p_gdE h
  refine g_getI fl_SW_51 (Or.inl rfl) (dk_SW_status 1 rfl) c1 ?_
  cases h
  exact g_ret rfl rfl (dk_SW_status 2 rfl) (fun os => ⟨_, rfl, p_okh os⟩)
def m_Gear_tell : p_Me := (⟨"SortWorks$Gear", "tell", "(I)I"⟩, prog_2_method_21_code, 2, (some .int), 1, 22)
theorem mt_Gear_tell : p_Mt m_Gear_tell 1 := ⟨p_mem (p_tb5 (List.mem_of_getElem? (i := 121) rfl)) rfl, tw_1_5, by decide +kernel, by decide +kernel, by decide +kernel⟩
def dt_Gear_tell : List (Nat × Instr × Nat) := [(0, .iload_n 1, 1), (1, .tableswitch 198 0 15 #[79, 84, 89, 114, 119, 124, 129, 134, 139, 144, 149, 154, 159, 168, 175, 180], 79), (80, .aload_n 0, 1), (81, .getfield 22, 3), (84, .ireturn, 1), (85, .aload_n 0, 1), (86, .getfield 73, 3), (89, .ireturn, 1), (90, .aload_n 0, 1), (91, .getfield 22, 3), (94, .bipush 9, 2), (96, .if_icmp .ne 14, 3), (99, .aload_n 0, 1), (100, .getfield 41, 3), (103, .ifCond .eq 7, 3), (106, .iconst 1, 1), (107, .goto 7, 3), (110, .aload_n 0, 1), (111, .getfield 38, 3), (114, .ireturn, 1), (115, .aload_n 0, 1), (116, .getfield 45, 3), (119, .ireturn, 1), (120, .aload_n 0, 1), (121, .getfield 48, 3), (124, .ireturn, 1), (125, .aload_n 0, 1), (126, .getfield 51, 3), (129, .ireturn, 1), (130, .aload_n 0, 1), (131, .getfield 54, 3), (134, .ireturn, 1), (135, .aload_n 0, 1), (136, .getfield 57, 3), (139, .ireturn, 1), (140, .aload_n 0, 1), (141, .getfield 60, 3), (144, .ireturn, 1), (145, .aload_n 0, 1), (146, .invokevirtual 120, 3), (149, .ireturn, 1), (150, .aload_n 0, 1), (151, .getfield 63, 3), (154, .ireturn, 1), (155, .aload_n 0, 1), (156, .getfield 28, 3), (159, .ireturn, 1), (160, .getstatic 124, 3), (163, .aload_n 0, 1), (164, .getfield 22, 3), (167, .iaload, 1), (168, .ireturn, 1), (169, .aload_n 0, 1), (170, .getfield 9, 3), (173, .iconst 1, 1), (174, .iadd, 1), (175, .ireturn, 1), (176, .aload_n 0, 1), (177, .getfield 66, 3), (180, .ireturn, 1), (181, .aload_n 0, 1), (182, .getfield 76, 3), (185, .ifnonnull 8, 3), (188, .bipush (-9), 2), (190, .goto 8, 3), (193, .aload_n 0, 1), (194, .getfield 76, 3), (197, .arraylength, 1), (198, .ireturn, 1), (199, .bipush (-2), 2), (201, .ireturn, 1)]
theorem dk_Gear_tell (i : Nat) {pc : Nat} {ins : Instr} {len : Nat} (h : dt_Gear_tell[i]? = some (pc, ins, len)) : decode m_Gear_tell.2.1 pc = .ok (ins, len) := p_dk (b := m_Gear_tell.2.1) (t := dt_Gear_tell) (by decide +kernel) i h
def F_Gear_tell (v0 : Nat) (v1 : Int) (s0 : p_Hp) : Option (Int × p_Hp) :=
  if v1 = 0 then
    p_gd (p_is s0 v0 0) <|
    some ((p_Z s0 v0 0), s0)
  else if v1 = 1 then
    p_gd (p_is s0 v0 0) <|
    some ((p_Z s0 v0 1), s0)
  else if v1 = 2 then
    p_gd (p_is s0 v0 0) <|
    if (p_Z s0 v0 0) ≠ 9 then
      some ((p_Z s0 v0 6), s0)
    else
      if (p_Z s0 v0 7) = 0 then
        some ((p_Z s0 v0 6), s0)
      else
        some (1, s0)
  else if v1 = 3 then
    p_gd (p_is s0 v0 0) <|
    some ((p_Z s0 v0 8), s0)
  else if v1 = 4 then
    p_gd (p_is s0 v0 0) <|
    some ((p_Z s0 v0 9), s0)
  else if v1 = 5 then
    p_gd (p_is s0 v0 0) <|
    some ((p_Z s0 v0 10), s0)
  else if v1 = 6 then
    p_gd (p_is s0 v0 0) <|
    some ((p_Z s0 v0 11), s0)
  else if v1 = 7 then
    p_gd (p_is s0 v0 0) <|
    some ((p_Z s0 v0 12), s0)
  else if v1 = 8 then
    p_gd (p_is s0 v0 0) <|
    some ((p_Z s0 v0 13), s0)
  else if v1 = 9 then
    p_gd (p_is s0 v0 0) <|
    p_bd (F_Gear_parcels v0 s0) fun r27 s23 =>
    some (r27, s23)
  else if v1 = 10 then
    p_gd (p_is s0 v0 0) <|
    some ((p_Z s0 v0 14), s0)
  else if v1 = 11 then
    p_gd (p_is s0 v0 0) <|
    some ((p_Z s0 v0 2), s0)
  else if v1 = 12 then
    p_gd (p_is s0 v0 0) <|
    p_gd ((0 : Int) ≤ (p_Z s0 v0 0) ∧ (p_Z s0 v0 0) < (sw_tl 2 : Int)) <|
    some ((sw_tab 2 ((p_Z s0 v0 0) : Int).toNat), s0)
  else if v1 = 13 then
    p_gd (p_is s0 v0 0) <|
    some ((p_w ((p_Z s0 v0 15) + 1)), s0)
  else if v1 = 14 then
    p_gd (p_is s0 v0 0) <|
    some ((p_Z s0 v0 16), s0)
  else if v1 = 15 then
    p_gd (p_is s0 v0 0) <|
    if (p_R s0 v0 3) ≠ 0 then
      p_gd (p_is s0 (p_R s0 v0 3) 100) <|
      some ((p_L s0 (p_R s0 v0 3) : Int), s0)
    else
      some ((-9), s0)
  else 
  some ((-2), s0)
set_option maxRecDepth 100000 in
set_option maxHeartbeats 4000000 in
theorem tF_Gear_tell (K : p_K) (l : Launch) (v0 : Nat) (v1 : Int) (s0 : p_Hp) (r : (Int × p_Hp)) (h : F_Gear_tell v0 v1 s0 = some r) : p_Ct K l m_Gear_tell [p_r v0, p_i v1] s0 (some (p_i r.1), r.2) := by
  refine p_Ct.of (by decide +kernel) (Nat.le_of_ble_eq_true rfl) ?_
  unfold F_Gear_tell at h
  show p_Go K l m_Gear_tell 0 [(0, p_r v0), (1, p_i v1)] [] s0 _
  refine g_iload_n (i := 1) (j := 1) (dk_Gear_tell 0 rfl) rfl rfl ?_
  rcases p_iteE h with ⟨b1, h⟩ | ⟨b1, h⟩
  · refine g_tableIn 80 (dk_Gear_tell 1 rfl) (by omega) (by omega) (by rw [b1]; rfl) (by decide) ?_
    refine g_aload_n (i := 0) (j := 0) (dk_Gear_tell 2 rfl) rfl rfl ?_
    obtain ⟨c2, h⟩ := p_gdE h
    refine g_getI fl_Gear_22 (Or.inl rfl) (dk_Gear_tell 3 rfl) c2 ?_
    cases h
    exact g_ret rfl rfl (dk_Gear_tell 4 rfl) (fun os => ⟨_, rfl, p_okh os⟩)
  rcases p_iteE h with ⟨b3, h⟩ | ⟨b3, h⟩
  · refine g_tableIn 85 (dk_Gear_tell 1 rfl) (by omega) (by omega) (by rw [b3]; rfl) (by decide) ?_
    refine g_aload_n (i := 0) (j := 0) (dk_Gear_tell 5 rfl) rfl rfl ?_
    obtain ⟨c4, h⟩ := p_gdE h
    refine g_getI fl_Gear_73 (Or.inl rfl) (dk_Gear_tell 6 rfl) c4 ?_
    cases h
    exact g_ret rfl rfl (dk_Gear_tell 7 rfl) (fun os => ⟨_, rfl, p_okh os⟩)
  rcases p_iteE h with ⟨b5, h⟩ | ⟨b5, h⟩
  · refine g_tableIn 90 (dk_Gear_tell 1 rfl) (by omega) (by omega) (by rw [b5]; rfl) (by decide) ?_
    refine g_aload_n (i := 0) (j := 0) (dk_Gear_tell 8 rfl) rfl rfl ?_
    obtain ⟨c6, h⟩ := p_gdE h
    refine g_getI fl_Gear_22 (Or.inl rfl) (dk_Gear_tell 9 rfl) c6 ?_
    refine g_bipush (dk_Gear_tell 10 rfl) (by decide +kernel) (by decide) ?_
    refine g_icmp_ne 110 (dk_Gear_tell 11 rfl) (by decide) (fun b7 => ?_) (fun b7 => ?_)
    · have h := p_ifT b7 h
      refine g_aload_n (i := 0) (j := 0) (dk_Gear_tell 17 rfl) rfl rfl ?_
      refine g_getI fl_Gear_38 (Or.inl rfl) (dk_Gear_tell 18 rfl) c6 ?_
      cases h
      exact g_ret rfl rfl (dk_Gear_tell 19 rfl) (fun os => ⟨_, rfl, p_okh os⟩)
    · have h := p_ifF b7 h
      refine g_aload_n (i := 0) (j := 0) (dk_Gear_tell 12 rfl) rfl rfl ?_
      refine g_getI fl_Gear_41 (Or.inr rfl) (dk_Gear_tell 13 rfl) c6 ?_
      refine g_if_eq 110 (dk_Gear_tell 14 rfl) (by decide) (fun b8 => ?_) (fun b8 => ?_)
      · have h := p_ifT b8 h
        refine g_aload_n (i := 0) (j := 0) (dk_Gear_tell 17 rfl) rfl rfl ?_
        refine g_getI fl_Gear_38 (Or.inl rfl) (dk_Gear_tell 18 rfl) c6 ?_
        cases h
        exact g_ret rfl rfl (dk_Gear_tell 19 rfl) (fun os => ⟨_, rfl, p_okh os⟩)
      · have h := p_ifF b8 h
        refine g_iconst (dk_Gear_tell 15 rfl) (by decide) ?_
        refine g_goto 114 (dk_Gear_tell 16 rfl) (by decide) ?_
        cases h
        exact g_ret rfl rfl (dk_Gear_tell 19 rfl) (fun os => ⟨_, rfl, p_okh os⟩)
  rcases p_iteE h with ⟨b9, h⟩ | ⟨b9, h⟩
  · refine g_tableIn 115 (dk_Gear_tell 1 rfl) (by omega) (by omega) (by rw [b9]; rfl) (by decide) ?_
    refine g_aload_n (i := 0) (j := 0) (dk_Gear_tell 20 rfl) rfl rfl ?_
    obtain ⟨c10, h⟩ := p_gdE h
    refine g_getI fl_Gear_45 (Or.inl rfl) (dk_Gear_tell 21 rfl) c10 ?_
    cases h
    exact g_ret rfl rfl (dk_Gear_tell 22 rfl) (fun os => ⟨_, rfl, p_okh os⟩)
  rcases p_iteE h with ⟨b11, h⟩ | ⟨b11, h⟩
  · refine g_tableIn 120 (dk_Gear_tell 1 rfl) (by omega) (by omega) (by rw [b11]; rfl) (by decide) ?_
    refine g_aload_n (i := 0) (j := 0) (dk_Gear_tell 23 rfl) rfl rfl ?_
    obtain ⟨c12, h⟩ := p_gdE h
    refine g_getI fl_Gear_48 (Or.inl rfl) (dk_Gear_tell 24 rfl) c12 ?_
    cases h
    exact g_ret rfl rfl (dk_Gear_tell 25 rfl) (fun os => ⟨_, rfl, p_okh os⟩)
  rcases p_iteE h with ⟨b13, h⟩ | ⟨b13, h⟩
  · refine g_tableIn 125 (dk_Gear_tell 1 rfl) (by omega) (by omega) (by rw [b13]; rfl) (by decide) ?_
    refine g_aload_n (i := 0) (j := 0) (dk_Gear_tell 26 rfl) rfl rfl ?_
    obtain ⟨c14, h⟩ := p_gdE h
    refine g_getI fl_Gear_51 (Or.inl rfl) (dk_Gear_tell 27 rfl) c14 ?_
    cases h
    exact g_ret rfl rfl (dk_Gear_tell 28 rfl) (fun os => ⟨_, rfl, p_okh os⟩)
  rcases p_iteE h with ⟨b15, h⟩ | ⟨b15, h⟩
  · refine g_tableIn 130 (dk_Gear_tell 1 rfl) (by omega) (by omega) (by rw [b15]; rfl) (by decide) ?_
    refine g_aload_n (i := 0) (j := 0) (dk_Gear_tell 29 rfl) rfl rfl ?_
    obtain ⟨c16, h⟩ := p_gdE h
    refine g_getI fl_Gear_54 (Or.inl rfl) (dk_Gear_tell 30 rfl) c16 ?_
    cases h
    exact g_ret rfl rfl (dk_Gear_tell 31 rfl) (fun os => ⟨_, rfl, p_okh os⟩)
  rcases p_iteE h with ⟨b17, h⟩ | ⟨b17, h⟩
  · refine g_tableIn 135 (dk_Gear_tell 1 rfl) (by omega) (by omega) (by rw [b17]; rfl) (by decide) ?_
    refine g_aload_n (i := 0) (j := 0) (dk_Gear_tell 32 rfl) rfl rfl ?_
    obtain ⟨c18, h⟩ := p_gdE h
    refine g_getI fl_Gear_57 (Or.inl rfl) (dk_Gear_tell 33 rfl) c18 ?_
    cases h
    exact g_ret rfl rfl (dk_Gear_tell 34 rfl) (fun os => ⟨_, rfl, p_okh os⟩)
  rcases p_iteE h with ⟨b19, h⟩ | ⟨b19, h⟩
  · refine g_tableIn 140 (dk_Gear_tell 1 rfl) (by omega) (by omega) (by rw [b19]; rfl) (by decide) ?_
    refine g_aload_n (i := 0) (j := 0) (dk_Gear_tell 35 rfl) rfl rfl ?_
    obtain ⟨c20, h⟩ := p_gdE h
    refine g_getI fl_Gear_60 (Or.inl rfl) (dk_Gear_tell 36 rfl) c20 ?_
    cases h
    exact g_ret rfl rfl (dk_Gear_tell 37 rfl) (fun os => ⟨_, rfl, p_okh os⟩)
  rcases p_iteE h with ⟨b21, h⟩ | ⟨b21, h⟩
  · refine g_tableIn 145 (dk_Gear_tell 1 rfl) (by omega) (by omega) (by rw [b21]; rfl) (by decide) ?_
    refine g_aload_n (i := 0) (j := 0) (dk_Gear_tell 38 rfl) rfl rfl ?_
    obtain ⟨c22, h⟩ := p_gdE h
    obtain ⟨r27, s23, q24, h⟩ := p_bdE h
    have t25 := tF_Gear_parcels K l v0 s0 _ q24
    refine g_callV (a := v0) (ci := 0) (q0 := (RX0, TX0, 19)) (As := []) (rest := []) [p_i r27] mt_Gear_parcels rfl rfl tw_3_134 tw_3_135 tw_5_122 ⟨Nat.le_of_ble_eq_true rfl, Nat.le_of_ble_eq_true rfl⟩ rfl (Nat.le_of_ble_eq_true rfl) (dk_Gear_tell 39 rfl) rfl c22 rfl t25 ?_
    have hs26 : p_x s0 s23 := t25.1
    show p_Go K l m_Gear_tell 149 [(0, p_r v0), (1, p_i v1)] [p_i r27] s23 _
    cases h
    exact g_ret rfl rfl (dk_Gear_tell 40 rfl) (fun os => ⟨_, rfl, p_okh os⟩)
  rcases p_iteE h with ⟨b28, h⟩ | ⟨b28, h⟩
  · refine g_tableIn 150 (dk_Gear_tell 1 rfl) (by omega) (by omega) (by rw [b28]; rfl) (by decide) ?_
    refine g_aload_n (i := 0) (j := 0) (dk_Gear_tell 41 rfl) rfl rfl ?_
    obtain ⟨c29, h⟩ := p_gdE h
    refine g_getI fl_Gear_63 (Or.inl rfl) (dk_Gear_tell 42 rfl) c29 ?_
    cases h
    exact g_ret rfl rfl (dk_Gear_tell 43 rfl) (fun os => ⟨_, rfl, p_okh os⟩)
  rcases p_iteE h with ⟨b30, h⟩ | ⟨b30, h⟩
  · refine g_tableIn 155 (dk_Gear_tell 1 rfl) (by omega) (by omega) (by rw [b30]; rfl) (by decide) ?_
    refine g_aload_n (i := 0) (j := 0) (dk_Gear_tell 44 rfl) rfl rfl ?_
    obtain ⟨c31, h⟩ := p_gdE h
    refine g_getI fl_Gear_28 (Or.inl rfl) (dk_Gear_tell 45 rfl) c31 ?_
    cases h
    exact g_ret rfl rfl (dk_Gear_tell 46 rfl) (fun os => ⟨_, rfl, p_okh os⟩)
  rcases p_iteE h with ⟨b32, h⟩ | ⟨b32, h⟩
  · refine g_tableIn 160 (dk_Gear_tell 1 rfl) (by omega) (by omega) (by rw [b32]; rfl) (by decide) ?_
    refine g_getstatic (j := 2) rfl (by decide) (dk_Gear_tell 47 rfl) ?_
    refine g_aload_n (i := 0) (j := 0) (dk_Gear_tell 48 rfl) rfl rfl ?_
    obtain ⟨c33, h⟩ := p_gdE h
    refine g_getI fl_Gear_22 (Or.inl rfl) (dk_Gear_tell 49 rfl) c33 ?_
    obtain ⟨c34, h⟩ := p_gdE h
    refine g_tabS (by decide) (dk_Gear_tell 50 rfl) c34.1 c34.2 ?_
    cases h
    exact g_ret rfl rfl (dk_Gear_tell 51 rfl) (fun os => ⟨_, rfl, p_okh os⟩)
  rcases p_iteE h with ⟨b35, h⟩ | ⟨b35, h⟩
  · refine g_tableIn 169 (dk_Gear_tell 1 rfl) (by omega) (by omega) (by rw [b35]; rfl) (by decide) ?_
    refine g_aload_n (i := 0) (j := 0) (dk_Gear_tell 52 rfl) rfl rfl ?_
    obtain ⟨c36, h⟩ := p_gdE h
    refine g_getI fl_Gear_9 (Or.inl rfl) (dk_Gear_tell 53 rfl) c36 ?_
    refine g_iconst (dk_Gear_tell 54 rfl) (by decide) ?_
    refine g_iadd (dk_Gear_tell 55 rfl) ?_
    cases h
    exact g_ret rfl rfl (dk_Gear_tell 56 rfl) (fun os => ⟨_, rfl, p_okh os⟩)
  rcases p_iteE h with ⟨b37, h⟩ | ⟨b37, h⟩
  · refine g_tableIn 176 (dk_Gear_tell 1 rfl) (by omega) (by omega) (by rw [b37]; rfl) (by decide) ?_
    refine g_aload_n (i := 0) (j := 0) (dk_Gear_tell 57 rfl) rfl rfl ?_
    obtain ⟨c38, h⟩ := p_gdE h
    refine g_getI fl_Gear_66 (Or.inl rfl) (dk_Gear_tell 58 rfl) c38 ?_
    cases h
    exact g_ret rfl rfl (dk_Gear_tell 59 rfl) (fun os => ⟨_, rfl, p_okh os⟩)
  rcases p_iteE h with ⟨b39, h⟩ | ⟨b39, h⟩
  · refine g_tableIn 181 (dk_Gear_tell 1 rfl) (by omega) (by omega) (by rw [b39]; rfl) (by decide) ?_
    refine g_aload_n (i := 0) (j := 0) (dk_Gear_tell 60 rfl) rfl rfl ?_
    obtain ⟨c40, h⟩ := p_gdE h
    refine g_getR fl_Gear_76 (Or.inr ⟨_, rfl⟩) (dk_Gear_tell 61 rfl) c40 ?_
    refine g_ifnonnull 193 (dk_Gear_tell 62 rfl) (by decide) (fun b41 => ?_) (fun b41 => ?_)
    · have h := p_ifT b41 h
      refine g_aload_n (i := 0) (j := 0) (dk_Gear_tell 65 rfl) rfl rfl ?_
      refine g_getR fl_Gear_76 (Or.inr ⟨_, rfl⟩) (dk_Gear_tell 66 rfl) c40 ?_
      obtain ⟨c42, h⟩ := p_gdE h
      refine g_alen (i := 0) rfl (dk_Gear_tell 67 rfl) c42 ?_
      cases h
      exact g_ret rfl rfl (dk_Gear_tell 68 rfl) (fun os => ⟨_, rfl, p_okh os⟩)
    · have h := p_ifF b41 h
      refine g_bipush (dk_Gear_tell 63 rfl) (by decide +kernel) (by decide) ?_
      refine g_goto 198 (dk_Gear_tell 64 rfl) (by decide) ?_
      cases h
      exact g_ret rfl rfl (dk_Gear_tell 68 rfl) (fun os => ⟨_, rfl, p_okh os⟩)
  refine g_tableOut 199 (dk_Gear_tell 1 rfl) (by omega) (by decide) ?_
  refine g_bipush (dk_Gear_tell 69 rfl) (by decide +kernel) (by decide) ?_
  cases h
  exact g_ret rfl rfl (dk_Gear_tell 70 rfl) (fun os => ⟨_, rfl, p_okh os⟩)
def m_SW_told : p_Me := (⟨"SortWorks", "told", "(II)I"⟩, prog_1_method_35_code, 4, (some .int), 2, 43)
theorem mt_SW_told : p_Mt m_SW_told 2 := ⟨p_mem (p_tb5 (List.mem_of_getElem? (i := 117) rfl)) rfl, tw_1_1, by decide +kernel, by decide +kernel, by decide +kernel⟩
def dt_SW_told : List (Nat × Instr × Nat) := [(0, .aload_n 0, 1), (1, .getfield 18, 3), (4, .iload_n 1, 1), (5, .invokevirtual 98, 3), (8, .astore_n 3, 1), (9, .aload_n 3, 1), (10, .ifnonnull 5, 3), (13, .iconst (-1), 1), (14, .ireturn, 1), (15, .aload_n 3, 1), (16, .iload_n 2, 1), (17, .invokevirtual 298, 3), (20, .ireturn, 1)]
theorem dk_SW_told (i : Nat) {pc : Nat} {ins : Instr} {len : Nat} (h : dt_SW_told[i]? = some (pc, ins, len)) : decode m_SW_told.2.1 pc = .ok (ins, len) := p_dk (b := m_SW_told.2.1) (t := dt_SW_told) (by decide +kernel) i h
def F_SW_told (v0 : Nat) (v1 : Int) (v2 : Int) (s0 : p_Hp) : Option (Int × p_Hp) :=
  p_gd (p_is s0 v0 10) <|
  p_gd (p_is s0 (p_R s0 v0 1) 9) <|
  p_bd (F_Works_gearOf (p_R s0 v0 1) v1 s0) fun r7 s3 =>
  if r7 ≠ 0 then
    p_gd (p_is s3 r7 0) <|
    p_bd (F_Gear_tell r7 v2 s3) fun r14 s10 =>
    some (r14, s10)
  else
    some ((-1), s3)
set_option maxRecDepth 100000 in
set_option maxHeartbeats 4000000 in
theorem tF_SW_told (K : p_K) (l : Launch) (v0 : Nat) (v1 : Int) (v2 : Int) (s0 : p_Hp) (r : (Int × p_Hp)) (h : F_SW_told v0 v1 v2 s0 = some r) : p_Ct K l m_SW_told [p_r v0, p_i v1, p_i v2] s0 (some (p_i r.1), r.2) := by
  refine p_Ct.of (by decide +kernel) (Nat.le_of_ble_eq_true rfl) ?_
  unfold F_SW_told at h
  show p_Go K l m_SW_told 0 [(0, p_r v0), (1, p_i v1), (2, p_i v2)] [] s0 _
  refine g_aload_n (i := 0) (j := 0) (dk_SW_told 0 rfl) rfl rfl ?_
  obtain ⟨c1, h⟩ := p_gdE h
  refine g_getR fl_SW_18 (Or.inl ⟨_, rfl⟩) (dk_SW_told 1 rfl) c1 ?_
  refine g_iload_n (i := 1) (j := 1) (dk_SW_told 2 rfl) rfl rfl ?_
  obtain ⟨c2, h⟩ := p_gdE h
  obtain ⟨r7, s3, q4, h⟩ := p_bdE h
  have t5 := tF_Works_gearOf K l (p_R s0 v0 1) v1 s0 _ q4
  refine g_callV (a := (p_R s0 v0 1)) (ci := 9) (q0 := (RX9, TX9, 16)) (As := [p_i v1]) (rest := []) [p_r r7] mt_Works_gearOf rfl rfl tw_3_87 tw_3_88 tw_3_86 ⟨Nat.le_of_ble_eq_true rfl, Nat.le_of_ble_eq_true rfl⟩ rfl (Nat.le_of_ble_eq_true rfl) (dk_SW_told 3 rfl) rfl c2 rfl t5 ?_
  have hs6 : p_x s0 s3 := t5.1
  show p_Go K l m_SW_told 8 [(0, p_r v0), (1, p_i v1), (2, p_i v2)] [p_r r7] s3 _
  refine g_astore_n (i := 3) [(3, p_r r7), (0, p_r v0), (1, p_i v1), (2, p_i v2)] (dk_SW_told 4 rfl) rfl (by decide) rfl ?_
  refine g_aload_n (i := 3) (j := 0) (dk_SW_told 5 rfl) rfl rfl ?_
  refine g_ifnonnull 15 (dk_SW_told 6 rfl) (by decide) (fun b8 => ?_) (fun b8 => ?_)
  · have h := p_ifT b8 h
    refine g_aload_n (i := 3) (j := 0) (dk_SW_told 9 rfl) rfl rfl ?_
    refine g_iload_n (i := 2) (j := 3) (dk_SW_told 10 rfl) rfl rfl ?_
    obtain ⟨c9, h⟩ := p_gdE h
    obtain ⟨r14, s10, q11, h⟩ := p_bdE h
    have t12 := tF_Gear_tell K l r7 v2 s3 _ q11
    refine g_callV (a := r7) (ci := 0) (q0 := (RX0, TX0, 19)) (As := [p_i v2]) (rest := []) [p_i r14] mt_Gear_tell rfl rfl tw_5_119 tw_5_120 tw_5_118 ⟨Nat.le_of_ble_eq_true rfl, Nat.le_of_ble_eq_true rfl⟩ rfl (Nat.le_of_ble_eq_true rfl) (dk_SW_told 11 rfl) rfl c9 rfl t12 ?_
    have hs13 : p_x s3 s10 := t12.1
    show p_Go K l m_SW_told 20 [(3, p_r r7), (0, p_r v0), (1, p_i v1), (2, p_i v2)] [p_i r14] s10 _
    cases h
    exact g_ret rfl rfl (dk_SW_told 12 rfl) (fun os => ⟨_, rfl, p_okh os⟩)
  · have h := p_ifF b8 h
    refine g_iconst (dk_SW_told 7 rfl) (by decide) ?_
    cases h
    exact g_ret rfl rfl (dk_SW_told 8 rfl) (fun os => ⟨_, rfl, p_okh os⟩)
def m_SW_slot : p_Me := (⟨"SortWorks", "slot", "(II)I"⟩, prog_1_method_36_code, 5, (some .int), 1, 22)
theorem mt_SW_slot : p_Mt m_SW_slot 2 := ⟨p_mem (p_tb5 (List.mem_of_getElem? (i := 127) rfl)) rfl, tw_1_1, by decide +kernel, by decide +kernel, by decide +kernel⟩
def dt_SW_slot : List (Nat × Instr × Nat) := [(0, .aload_n 0, 1), (1, .getfield 18, 3), (4, .iload_n 1, 1), (5, .invokevirtual 98, 3), (8, .astore_n 3, 1), (9, .aload_n 3, 1), (10, .ifnonnull 5, 3), (13, .iconst (-1), 1), (14, .ireturn, 1), (15, .iload_n 2, 1), (16, .ifCond .lt 11, 3), (19, .iload_n 2, 1), (20, .aload_n 3, 1), (21, .getfield 92, 3), (24, .if_icmp .lt 6, 3), (27, .bipush (-2), 2), (29, .ireturn, 1), (30, .aload_n 0, 1), (31, .getfield 18, 3), (34, .getfield 77, 3), (37, .aload_n 3, 1), (38, .iload_n 2, 1), (39, .invokevirtual 301, 3), (42, .astore 4, 2), (44, .aload 4, 2), (46, .ifnonnull 7, 3), (49, .iconst 0, 1), (50, .goto 8, 3), (53, .aload 4, 2), (55, .getfield 188, 3), (58, .ireturn, 1)]
theorem dk_SW_slot (i : Nat) {pc : Nat} {ins : Instr} {len : Nat} (h : dt_SW_slot[i]? = some (pc, ins, len)) : decode m_SW_slot.2.1 pc = .ok (ins, len) := p_dk (b := m_SW_slot.2.1) (t := dt_SW_slot) (by decide +kernel) i h
def F_SW_slot (v0 : Nat) (v1 : Int) (v2 : Int) (s0 : p_Hp) : Option (Int × p_Hp) :=
  p_gd (p_is s0 v0 10) <|
  p_gd (p_is s0 (p_R s0 v0 1) 9) <|
  p_bd (F_Works_gearOf (p_R s0 v0 1) v1 s0) fun r7 s3 =>
  if r7 ≠ 0 then
    if v2 < 0 then
      some ((-2), s3)
    else
      p_gd (p_is s3 r7 0) <|
      if v2 < (p_Z s3 r7 1) then
        p_gd (p_is s3 (p_R s3 v0 1) 9) <|
        p_gd (p_is s3 (p_R s3 (p_R s3 v0 1) 1) 7) <|
        p_bd (F_State_inSlot (p_R s3 (p_R s3 v0 1) 1) r7 v2 s3) fun r18 s14 =>
        if r18 ≠ 0 then
          p_gd (p_is s14 r18 4) <|
          some ((p_Z s14 r18 1), s14)
        else
          some (0, s14)
      else
        some ((-2), s3)
  else
    some ((-1), s3)
set_option maxRecDepth 100000 in
set_option maxHeartbeats 4000000 in
theorem tF_SW_slot (K : p_K) (l : Launch) (v0 : Nat) (v1 : Int) (v2 : Int) (s0 : p_Hp) (r : (Int × p_Hp)) (h : F_SW_slot v0 v1 v2 s0 = some r) : p_Ct K l m_SW_slot [p_r v0, p_i v1, p_i v2] s0 (some (p_i r.1), r.2) := by
  refine p_Ct.of (by decide +kernel) (Nat.le_of_ble_eq_true rfl) ?_
  unfold F_SW_slot at h
  show p_Go K l m_SW_slot 0 [(0, p_r v0), (1, p_i v1), (2, p_i v2)] [] s0 _
  refine g_aload_n (i := 0) (j := 0) (dk_SW_slot 0 rfl) rfl rfl ?_
  obtain ⟨c1, h⟩ := p_gdE h
  refine g_getR fl_SW_18 (Or.inl ⟨_, rfl⟩) (dk_SW_slot 1 rfl) c1 ?_
  refine g_iload_n (i := 1) (j := 1) (dk_SW_slot 2 rfl) rfl rfl ?_
  obtain ⟨c2, h⟩ := p_gdE h
  obtain ⟨r7, s3, q4, h⟩ := p_bdE h
  have t5 := tF_Works_gearOf K l (p_R s0 v0 1) v1 s0 _ q4
  refine g_callV (a := (p_R s0 v0 1)) (ci := 9) (q0 := (RX9, TX9, 16)) (As := [p_i v1]) (rest := []) [p_r r7] mt_Works_gearOf rfl rfl tw_3_87 tw_3_88 tw_3_86 ⟨Nat.le_of_ble_eq_true rfl, Nat.le_of_ble_eq_true rfl⟩ rfl (Nat.le_of_ble_eq_true rfl) (dk_SW_slot 3 rfl) rfl c2 rfl t5 ?_
  have hs6 : p_x s0 s3 := t5.1
  show p_Go K l m_SW_slot 8 [(0, p_r v0), (1, p_i v1), (2, p_i v2)] [p_r r7] s3 _
  refine g_astore_n (i := 3) [(3, p_r r7), (0, p_r v0), (1, p_i v1), (2, p_i v2)] (dk_SW_slot 4 rfl) rfl (by decide) rfl ?_
  refine g_aload_n (i := 3) (j := 0) (dk_SW_slot 5 rfl) rfl rfl ?_
  refine g_ifnonnull 15 (dk_SW_slot 6 rfl) (by decide) (fun b8 => ?_) (fun b8 => ?_)
  · have h := p_ifT b8 h
    refine g_iload_n (i := 2) (j := 3) (dk_SW_slot 9 rfl) rfl rfl ?_
    refine g_if_lt 27 (dk_SW_slot 10 rfl) (by decide) (fun b9 => ?_) (fun b9 => ?_)
    · have h := p_ifT b9 h
      refine g_bipush (dk_SW_slot 15 rfl) (by decide +kernel) (by decide) ?_
      cases h
      exact g_ret rfl rfl (dk_SW_slot 16 rfl) (fun os => ⟨_, rfl, p_okh os⟩)
    · have h := p_ifF b9 h
      refine g_iload_n (i := 2) (j := 3) (dk_SW_slot 11 rfl) rfl rfl ?_
      refine g_aload_n (i := 3) (j := 0) (dk_SW_slot 12 rfl) rfl rfl ?_
      obtain ⟨c10, h⟩ := p_gdE h
      refine g_getI fl_SW_92 (Or.inl rfl) (dk_SW_slot 13 rfl) c10 ?_
      refine g_icmp_lt 30 (dk_SW_slot 14 rfl) (by decide) (fun b11 => ?_) (fun b11 => ?_)
      · have h := p_ifT b11 h
        refine g_aload_n (i := 0) (j := 1) (dk_SW_slot 17 rfl) rfl rfl ?_
        refine g_getR fl_SW_18 (Or.inl ⟨_, rfl⟩) (dk_SW_slot 18 rfl) (c1.up hs6) ?_
        obtain ⟨c12, h⟩ := p_gdE h
        refine g_getR fl_SW_77 (Or.inl ⟨_, rfl⟩) (dk_SW_slot 19 rfl) c12 ?_
        refine g_aload_n (i := 3) (j := 0) (dk_SW_slot 20 rfl) rfl rfl ?_
        refine g_iload_n (i := 2) (j := 3) (dk_SW_slot 21 rfl) rfl rfl ?_
        obtain ⟨c13, h⟩ := p_gdE h
        obtain ⟨r18, s14, q15, h⟩ := p_bdE h
        have t16 := tF_State_inSlot K l (p_R s3 (p_R s3 v0 1) 1) r7 v2 s3 _ q15
        refine g_callV (a := (p_R s3 (p_R s3 v0 1) 1)) (ci := 7) (q0 := (RX7, TX7, 9)) (As := [p_r r7, p_i v2]) (rest := []) [p_r r18] mt_State_inSlot rfl rfl tw_4_66 tw_4_67 tw_5_128 ⟨Nat.le_of_ble_eq_true rfl, Nat.le_of_ble_eq_true rfl⟩ rfl (Nat.le_of_ble_eq_true rfl) (dk_SW_slot 22 rfl) rfl c13 rfl t16 ?_
        have hs17 : p_x s3 s14 := t16.1
        show p_Go K l m_SW_slot 42 [(3, p_r r7), (0, p_r v0), (1, p_i v1), (2, p_i v2)] [p_r r18] s14 _
        refine g_astore [(4, p_r r18), (3, p_r r7), (0, p_r v0), (1, p_i v1), (2, p_i v2)] (dk_SW_slot 23 rfl) (by decide) rfl ?_
        refine g_aload (j := 0) (dk_SW_slot 24 rfl) rfl ?_
        refine g_ifnonnull 53 (dk_SW_slot 25 rfl) (by decide) (fun b19 => ?_) (fun b19 => ?_)
        · have h := p_ifT b19 h
          refine g_aload (j := 0) (dk_SW_slot 28 rfl) rfl ?_
          obtain ⟨c20, h⟩ := p_gdE h
          refine g_getI fl_SW_188 (Or.inl rfl) (dk_SW_slot 29 rfl) c20 ?_
          cases h
          exact g_ret rfl rfl (dk_SW_slot 30 rfl) (fun os => ⟨_, rfl, p_okh os⟩)
        · have h := p_ifF b19 h
          refine g_iconst (dk_SW_slot 26 rfl) (by decide) ?_
          refine g_goto 58 (dk_SW_slot 27 rfl) (by decide) ?_
          cases h
          exact g_ret rfl rfl (dk_SW_slot 30 rfl) (fun os => ⟨_, rfl, p_okh os⟩)
      · have h := p_ifF b11 h
        refine g_bipush (dk_SW_slot 15 rfl) (by decide +kernel) (by decide) ?_
        cases h
        exact g_ret rfl rfl (dk_SW_slot 16 rfl) (fun os => ⟨_, rfl, p_okh os⟩)
  · have h := p_ifF b8 h
    refine g_iconst (dk_SW_slot 7 rfl) (by decide) ?_
    cases h
    exact g_ret rfl rfl (dk_SW_slot 8 rfl) (fun os => ⟨_, rfl, p_okh os⟩)
def m_SW_linkOf : p_Me := (⟨"SortWorks", "linkOf", "(II)I"⟩, prog_1_method_37_code, 4, (some .int), 1, 21)
theorem mt_SW_linkOf : p_Mt m_SW_linkOf 2 := ⟨p_mem (p_tb5 (List.mem_of_getElem? (i := 132) rfl)) rfl, tw_1_1, by decide +kernel, by decide +kernel, by decide +kernel⟩
def dt_SW_linkOf : List (Nat × Instr × Nat) := [(0, .aload_n 0, 1), (1, .getfield 18, 3), (4, .iload_n 1, 1), (5, .invokevirtual 98, 3), (8, .astore_n 3, 1), (9, .aload_n 3, 1), (10, .ifnonnull 5, 3), (13, .iconst (-1), 1), (14, .ireturn, 1), (15, .aload_n 3, 1), (16, .getfield 102, 3), (19, .ifnull 16, 3), (22, .iload_n 2, 1), (23, .ifCond .lt 12, 3), (26, .iload_n 2, 1), (27, .aload_n 3, 1), (28, .getfield 102, 3), (31, .arraylength, 1), (32, .if_icmp .lt 6, 3), (35, .bipush (-9), 2), (37, .ireturn, 1), (38, .aload_n 3, 1), (39, .getfield 102, 3), (42, .iload_n 2, 1), (43, .iaload, 1), (44, .iconst 1, 1), (45, .iadd, 1), (46, .ireturn, 1)]
theorem dk_SW_linkOf (i : Nat) {pc : Nat} {ins : Instr} {len : Nat} (h : dt_SW_linkOf[i]? = some (pc, ins, len)) : decode m_SW_linkOf.2.1 pc = .ok (ins, len) := p_dk (b := m_SW_linkOf.2.1) (t := dt_SW_linkOf) (by decide +kernel) i h
def F_SW_linkOf (v0 : Nat) (v1 : Int) (v2 : Int) (s0 : p_Hp) : Option (Int × p_Hp) :=
  p_gd (p_is s0 v0 10) <|
  p_gd (p_is s0 (p_R s0 v0 1) 9) <|
  p_bd (F_Works_gearOf (p_R s0 v0 1) v1 s0) fun r7 s3 =>
  if r7 ≠ 0 then
    p_gd (p_is s3 r7 0) <|
    if (p_R s3 r7 3) = 0 then
      some ((-9), s3)
    else
      if v2 < 0 then
        some ((-9), s3)
      else
        p_gd (p_is s3 (p_R s3 r7 3) 100) <|
        if v2 < (p_L s3 (p_R s3 r7 3) : Int) then
          p_gd ((0 : Int) ≤ v2 ∧ v2 < (p_L s3 (p_R s3 r7 3) : Int)) <|
          some ((p_w ((p_Z s3 (p_R s3 r7 3) (v2 : Int).toNat) + 1)), s3)
        else
          some ((-9), s3)
  else
    some ((-1), s3)
set_option maxRecDepth 100000 in
set_option maxHeartbeats 4000000 in
theorem tF_SW_linkOf (K : p_K) (l : Launch) (v0 : Nat) (v1 : Int) (v2 : Int) (s0 : p_Hp) (r : (Int × p_Hp)) (h : F_SW_linkOf v0 v1 v2 s0 = some r) : p_Ct K l m_SW_linkOf [p_r v0, p_i v1, p_i v2] s0 (some (p_i r.1), r.2) := by
  refine p_Ct.of (by decide +kernel) (Nat.le_of_ble_eq_true rfl) ?_
  unfold F_SW_linkOf at h
  show p_Go K l m_SW_linkOf 0 [(0, p_r v0), (1, p_i v1), (2, p_i v2)] [] s0 _
  refine g_aload_n (i := 0) (j := 0) (dk_SW_linkOf 0 rfl) rfl rfl ?_
  obtain ⟨c1, h⟩ := p_gdE h
  refine g_getR fl_SW_18 (Or.inl ⟨_, rfl⟩) (dk_SW_linkOf 1 rfl) c1 ?_
  refine g_iload_n (i := 1) (j := 1) (dk_SW_linkOf 2 rfl) rfl rfl ?_
  obtain ⟨c2, h⟩ := p_gdE h
  obtain ⟨r7, s3, q4, h⟩ := p_bdE h
  have t5 := tF_Works_gearOf K l (p_R s0 v0 1) v1 s0 _ q4
  refine g_callV (a := (p_R s0 v0 1)) (ci := 9) (q0 := (RX9, TX9, 16)) (As := [p_i v1]) (rest := []) [p_r r7] mt_Works_gearOf rfl rfl tw_3_87 tw_3_88 tw_3_86 ⟨Nat.le_of_ble_eq_true rfl, Nat.le_of_ble_eq_true rfl⟩ rfl (Nat.le_of_ble_eq_true rfl) (dk_SW_linkOf 3 rfl) rfl c2 rfl t5 ?_
  have hs6 : p_x s0 s3 := t5.1
  show p_Go K l m_SW_linkOf 8 [(0, p_r v0), (1, p_i v1), (2, p_i v2)] [p_r r7] s3 _
  refine g_astore_n (i := 3) [(3, p_r r7), (0, p_r v0), (1, p_i v1), (2, p_i v2)] (dk_SW_linkOf 4 rfl) rfl (by decide) rfl ?_
  refine g_aload_n (i := 3) (j := 0) (dk_SW_linkOf 5 rfl) rfl rfl ?_
  refine g_ifnonnull 15 (dk_SW_linkOf 6 rfl) (by decide) (fun b8 => ?_) (fun b8 => ?_)
  · have h := p_ifT b8 h
    refine g_aload_n (i := 3) (j := 0) (dk_SW_linkOf 9 rfl) rfl rfl ?_
    obtain ⟨c9, h⟩ := p_gdE h
    refine g_getR fl_SW_102 (Or.inr ⟨_, rfl⟩) (dk_SW_linkOf 10 rfl) c9 ?_
    refine g_ifnull 35 (dk_SW_linkOf 11 rfl) (by decide) (fun b10 => ?_) (fun b10 => ?_)
    · have h := p_ifT b10 h
      refine g_bipush (dk_SW_linkOf 19 rfl) (by decide +kernel) (by decide) ?_
      cases h
      exact g_ret rfl rfl (dk_SW_linkOf 20 rfl) (fun os => ⟨_, rfl, p_okh os⟩)
    · have h := p_ifF b10 h
      refine g_iload_n (i := 2) (j := 3) (dk_SW_linkOf 12 rfl) rfl rfl ?_
      refine g_if_lt 35 (dk_SW_linkOf 13 rfl) (by decide) (fun b11 => ?_) (fun b11 => ?_)
      · have h := p_ifT b11 h
        refine g_bipush (dk_SW_linkOf 19 rfl) (by decide +kernel) (by decide) ?_
        cases h
        exact g_ret rfl rfl (dk_SW_linkOf 20 rfl) (fun os => ⟨_, rfl, p_okh os⟩)
      · have h := p_ifF b11 h
        refine g_iload_n (i := 2) (j := 3) (dk_SW_linkOf 14 rfl) rfl rfl ?_
        refine g_aload_n (i := 3) (j := 0) (dk_SW_linkOf 15 rfl) rfl rfl ?_
        refine g_getR fl_SW_102 (Or.inr ⟨_, rfl⟩) (dk_SW_linkOf 16 rfl) c9 ?_
        obtain ⟨c12, h⟩ := p_gdE h
        refine g_alen (i := 0) rfl (dk_SW_linkOf 17 rfl) c12 ?_
        refine g_icmp_lt 38 (dk_SW_linkOf 18 rfl) (by decide) (fun b13 => ?_) (fun b13 => ?_)
        · have h := p_ifT b13 h
          refine g_aload_n (i := 3) (j := 0) (dk_SW_linkOf 21 rfl) rfl rfl ?_
          refine g_getR fl_SW_102 (Or.inr ⟨_, rfl⟩) (dk_SW_linkOf 22 rfl) c9 ?_
          refine g_iload_n (i := 2) (j := 3) (dk_SW_linkOf 23 rfl) rfl rfl ?_
          obtain ⟨c14, h⟩ := p_gdE h
          refine g_iaload (dk_SW_linkOf 24 rfl) c12 c14.1 c14.2 ?_
          refine g_iconst (dk_SW_linkOf 25 rfl) (by decide) ?_
          refine g_iadd (dk_SW_linkOf 26 rfl) ?_
          cases h
          exact g_ret rfl rfl (dk_SW_linkOf 27 rfl) (fun os => ⟨_, rfl, p_okh os⟩)
        · have h := p_ifF b13 h
          refine g_bipush (dk_SW_linkOf 19 rfl) (by decide +kernel) (by decide) ?_
          cases h
          exact g_ret rfl rfl (dk_SW_linkOf 20 rfl) (fun os => ⟨_, rfl, p_okh os⟩)
  · have h := p_ifF b8 h
    refine g_iconst (dk_SW_linkOf 7 rfl) (by decide) ?_
    cases h
    exact g_ret rfl rfl (dk_SW_linkOf 8 rfl) (fun os => ⟨_, rfl, p_okh os⟩)
def m_Parcel_tell : p_Me := (⟨"SortWorks$Parcel", "tell", "(I)I"⟩, prog_6_method_8_code, 2, (some .int), 0, 0)
theorem mt_Parcel_tell : p_Mt m_Parcel_tell 1 := ⟨p_mem (p_tb5 (List.mem_of_getElem? (i := 140) rfl)) rfl, tw_1_6, by decide +kernel, by decide +kernel, by decide +kernel⟩
def dt_Parcel_tell : List (Nat × Instr × Nat) := [(0, .iload_n 1, 1), (1, .tableswitch 108 0 7 #[47, 52, 57, 62, 67, 72, 77, 95], 47), (48, .aload_n 0, 1), (49, .getfield 34, 3), (52, .ireturn, 1), (53, .aload_n 0, 1), (54, .getfield 37, 3), (57, .ireturn, 1), (58, .aload_n 0, 1), (59, .getfield 25, 3), (62, .ireturn, 1), (63, .aload_n 0, 1), (64, .getfield 28, 3), (67, .ireturn, 1), (68, .aload_n 0, 1), (69, .getfield 31, 3), (72, .ireturn, 1), (73, .aload_n 0, 1), (74, .getfield 44, 3), (77, .ireturn, 1), (78, .aload_n 0, 1), (79, .getfield 53, 3), (82, .iconst (-1), 1), (83, .if_icmp .ne 8, 3), (86, .bipush (-9), 2), (88, .goto 7, 3), (91, .aload_n 0, 1), (92, .getfield 53, 3), (95, .ireturn, 1), (96, .aload_n 0, 1), (97, .getfield 40, 3), (100, .ifCond .eq 7, 3), (103, .iconst 1, 1), (104, .goto 4, 3), (107, .iconst 0, 1), (108, .ireturn, 1), (109, .bipush (-2), 2), (111, .ireturn, 1)]
theorem dk_Parcel_tell (i : Nat) {pc : Nat} {ins : Instr} {len : Nat} (h : dt_Parcel_tell[i]? = some (pc, ins, len)) : decode m_Parcel_tell.2.1 pc = .ok (ins, len) := p_dk (b := m_Parcel_tell.2.1) (t := dt_Parcel_tell) (by decide +kernel) i h
def F_Parcel_tell (v0 : Nat) (v1 : Int) (s0 : p_Hp) : Option (Int × p_Hp) :=
  if v1 = 0 then
    p_gd (p_is s0 v0 4) <|
    some ((p_Z s0 v0 5), s0)
  else if v1 = 1 then
    p_gd (p_is s0 v0 4) <|
    some ((p_Z s0 v0 6), s0)
  else if v1 = 2 then
    p_gd (p_is s0 v0 4) <|
    some ((p_Z s0 v0 2), s0)
  else if v1 = 3 then
    p_gd (p_is s0 v0 4) <|
    some ((p_Z s0 v0 3), s0)
  else if v1 = 4 then
    p_gd (p_is s0 v0 4) <|
    some ((p_Z s0 v0 4), s0)
  else if v1 = 5 then
    p_gd (p_is s0 v0 4) <|
    some ((p_Z s0 v0 9), s0)
  else if v1 = 6 then
    p_gd (p_is s0 v0 4) <|
    if (p_Z s0 v0 11) ≠ (-1) then
      some ((p_Z s0 v0 11), s0)
    else
      some ((-9), s0)
  else if v1 = 7 then
    p_gd (p_is s0 v0 4) <|
    if (p_Z s0 v0 7) = 0 then
      some (0, s0)
    else
      some (1, s0)
  else 
  some ((-2), s0)
set_option maxRecDepth 100000 in
set_option maxHeartbeats 4000000 in
theorem tF_Parcel_tell (K : p_K) (l : Launch) (v0 : Nat) (v1 : Int) (s0 : p_Hp) (r : (Int × p_Hp)) (h : F_Parcel_tell v0 v1 s0 = some r) : p_Ct K l m_Parcel_tell [p_r v0, p_i v1] s0 (some (p_i r.1), r.2) := by
  refine p_Ct.of (by decide +kernel) (Nat.le_of_ble_eq_true rfl) ?_
  unfold F_Parcel_tell at h
  show p_Go K l m_Parcel_tell 0 [(0, p_r v0), (1, p_i v1)] [] s0 _
  refine g_iload_n (i := 1) (j := 1) (dk_Parcel_tell 0 rfl) rfl rfl ?_
  rcases p_iteE h with ⟨b1, h⟩ | ⟨b1, h⟩
  · refine g_tableIn 48 (dk_Parcel_tell 1 rfl) (by omega) (by omega) (by rw [b1]; rfl) (by decide) ?_
    refine g_aload_n (i := 0) (j := 0) (dk_Parcel_tell 2 rfl) rfl rfl ?_
    obtain ⟨c2, h⟩ := p_gdE h
    refine g_getI fl_Parcel_34 (Or.inl rfl) (dk_Parcel_tell 3 rfl) c2 ?_
    cases h
    exact g_ret rfl rfl (dk_Parcel_tell 4 rfl) (fun os => ⟨_, rfl, p_okh os⟩)
  rcases p_iteE h with ⟨b3, h⟩ | ⟨b3, h⟩
  · refine g_tableIn 53 (dk_Parcel_tell 1 rfl) (by omega) (by omega) (by rw [b3]; rfl) (by decide) ?_
    refine g_aload_n (i := 0) (j := 0) (dk_Parcel_tell 5 rfl) rfl rfl ?_
    obtain ⟨c4, h⟩ := p_gdE h
    refine g_getI fl_Parcel_37 (Or.inl rfl) (dk_Parcel_tell 6 rfl) c4 ?_
    cases h
    exact g_ret rfl rfl (dk_Parcel_tell 7 rfl) (fun os => ⟨_, rfl, p_okh os⟩)
  rcases p_iteE h with ⟨b5, h⟩ | ⟨b5, h⟩
  · refine g_tableIn 58 (dk_Parcel_tell 1 rfl) (by omega) (by omega) (by rw [b5]; rfl) (by decide) ?_
    refine g_aload_n (i := 0) (j := 0) (dk_Parcel_tell 8 rfl) rfl rfl ?_
    obtain ⟨c6, h⟩ := p_gdE h
    refine g_getI fl_Parcel_25 (Or.inl rfl) (dk_Parcel_tell 9 rfl) c6 ?_
    cases h
    exact g_ret rfl rfl (dk_Parcel_tell 10 rfl) (fun os => ⟨_, rfl, p_okh os⟩)
  rcases p_iteE h with ⟨b7, h⟩ | ⟨b7, h⟩
  · refine g_tableIn 63 (dk_Parcel_tell 1 rfl) (by omega) (by omega) (by rw [b7]; rfl) (by decide) ?_
    refine g_aload_n (i := 0) (j := 0) (dk_Parcel_tell 11 rfl) rfl rfl ?_
    obtain ⟨c8, h⟩ := p_gdE h
    refine g_getI fl_Parcel_28 (Or.inl rfl) (dk_Parcel_tell 12 rfl) c8 ?_
    cases h
    exact g_ret rfl rfl (dk_Parcel_tell 13 rfl) (fun os => ⟨_, rfl, p_okh os⟩)
  rcases p_iteE h with ⟨b9, h⟩ | ⟨b9, h⟩
  · refine g_tableIn 68 (dk_Parcel_tell 1 rfl) (by omega) (by omega) (by rw [b9]; rfl) (by decide) ?_
    refine g_aload_n (i := 0) (j := 0) (dk_Parcel_tell 14 rfl) rfl rfl ?_
    obtain ⟨c10, h⟩ := p_gdE h
    refine g_getI fl_Parcel_31 (Or.inl rfl) (dk_Parcel_tell 15 rfl) c10 ?_
    cases h
    exact g_ret rfl rfl (dk_Parcel_tell 16 rfl) (fun os => ⟨_, rfl, p_okh os⟩)
  rcases p_iteE h with ⟨b11, h⟩ | ⟨b11, h⟩
  · refine g_tableIn 73 (dk_Parcel_tell 1 rfl) (by omega) (by omega) (by rw [b11]; rfl) (by decide) ?_
    refine g_aload_n (i := 0) (j := 0) (dk_Parcel_tell 17 rfl) rfl rfl ?_
    obtain ⟨c12, h⟩ := p_gdE h
    refine g_getI fl_Parcel_44 (Or.inl rfl) (dk_Parcel_tell 18 rfl) c12 ?_
    cases h
    exact g_ret rfl rfl (dk_Parcel_tell 19 rfl) (fun os => ⟨_, rfl, p_okh os⟩)
  rcases p_iteE h with ⟨b13, h⟩ | ⟨b13, h⟩
  · refine g_tableIn 78 (dk_Parcel_tell 1 rfl) (by omega) (by omega) (by rw [b13]; rfl) (by decide) ?_
    refine g_aload_n (i := 0) (j := 0) (dk_Parcel_tell 20 rfl) rfl rfl ?_
    obtain ⟨c14, h⟩ := p_gdE h
    refine g_getI fl_Parcel_53 (Or.inl rfl) (dk_Parcel_tell 21 rfl) c14 ?_
    refine g_iconst (dk_Parcel_tell 22 rfl) (by decide) ?_
    refine g_icmp_ne 91 (dk_Parcel_tell 23 rfl) (by decide) (fun b15 => ?_) (fun b15 => ?_)
    · have h := p_ifT b15 h
      refine g_aload_n (i := 0) (j := 0) (dk_Parcel_tell 26 rfl) rfl rfl ?_
      refine g_getI fl_Parcel_53 (Or.inl rfl) (dk_Parcel_tell 27 rfl) c14 ?_
      cases h
      exact g_ret rfl rfl (dk_Parcel_tell 28 rfl) (fun os => ⟨_, rfl, p_okh os⟩)
    · have h := p_ifF b15 h
      refine g_bipush (dk_Parcel_tell 24 rfl) (by decide +kernel) (by decide) ?_
      refine g_goto 95 (dk_Parcel_tell 25 rfl) (by decide) ?_
      cases h
      exact g_ret rfl rfl (dk_Parcel_tell 28 rfl) (fun os => ⟨_, rfl, p_okh os⟩)
  rcases p_iteE h with ⟨b16, h⟩ | ⟨b16, h⟩
  · refine g_tableIn 96 (dk_Parcel_tell 1 rfl) (by omega) (by omega) (by rw [b16]; rfl) (by decide) ?_
    refine g_aload_n (i := 0) (j := 0) (dk_Parcel_tell 29 rfl) rfl rfl ?_
    obtain ⟨c17, h⟩ := p_gdE h
    refine g_getI fl_Parcel_40 (Or.inr rfl) (dk_Parcel_tell 30 rfl) c17 ?_
    refine g_if_eq 107 (dk_Parcel_tell 31 rfl) (by decide) (fun b18 => ?_) (fun b18 => ?_)
    · have h := p_ifT b18 h
      refine g_iconst (dk_Parcel_tell 34 rfl) (by decide) ?_
      cases h
      exact g_ret rfl rfl (dk_Parcel_tell 35 rfl) (fun os => ⟨_, rfl, p_okh os⟩)
    · have h := p_ifF b18 h
      refine g_iconst (dk_Parcel_tell 32 rfl) (by decide) ?_
      refine g_goto 108 (dk_Parcel_tell 33 rfl) (by decide) ?_
      cases h
      exact g_ret rfl rfl (dk_Parcel_tell 35 rfl) (fun os => ⟨_, rfl, p_okh os⟩)
  refine g_tableOut 109 (dk_Parcel_tell 1 rfl) (by omega) (by decide) ?_
  refine g_bipush (dk_Parcel_tell 36 rfl) (by decide +kernel) (by decide) ?_
  cases h
  exact g_ret rfl rfl (dk_Parcel_tell 37 rfl) (fun os => ⟨_, rfl, p_okh os⟩)
