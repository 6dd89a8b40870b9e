def m_Parcel_write : p_Me := (⟨"SortWorks$Parcel", "write", "(II)V"⟩, prog_6_method_4_code, 3, none, 1, 22)
theorem mt_Parcel_write : p_Mt m_Parcel_write 2 := ⟨p_mem (p_tb4 (List.mem_of_getElem? (i := 40) rfl)) rfl, tw_1_6, by decide +kernel, by decide +kernel, by decide +kernel⟩
def dt_Parcel_write : List (Nat × Instr × Nat) := [(0, .iload_n 1, 1), (1, .ifCond .ne 11, 3), (4, .aload_n 0, 1), (5, .iload_n 2, 1), (6, .invokevirtual 59, 3), (9, .goto 8, 3), (12, .aload_n 0, 1), (13, .iload_n 2, 1), (14, .invokevirtual 63, 3), (17, .return_, 1)]
theorem dk_Parcel_write (i : Nat) {pc : Nat} {ins : Instr} {len : Nat} (h : dt_Parcel_write[i]? = some (pc, ins, len)) : decode m_Parcel_write.2.1 pc = .ok (ins, len) := p_dk (b := m_Parcel_write.2.1) (t := dt_Parcel_write) (by decide +kernel) i h
def F_Parcel_write (v0 : Nat) (v1 : Int) (v2 : Int) (s0 : p_Hp) : Option p_Hp :=
  if v1 ≠ 0 then
    p_gd (p_is s0 v0 4) <|
    p_bv (F_Parcel_writeFormB v0 v2 s0) fun s3 =>
    some s3
  else
    p_gd (p_is s0 v0 4) <|
    p_bv (F_Parcel_writeFormA v0 v2 s0) fun s8 =>
    some s8
set_option maxRecDepth 100000 in
set_option maxHeartbeats 4000000 in
theorem tF_Parcel_write (K : p_K) (l : Launch) (v0 : Nat) (v1 : Int) (v2 : Int) (s0 : p_Hp) (r : p_Hp) (h : F_Parcel_write v0 v1 v2 s0 = some r) : p_Ct K l m_Parcel_write [p_r v0, p_i v1, p_i v2] s0 (none, r) := by
  refine p_Ct.of (by decide +kernel) (Nat.le_of_ble_eq_true rfl) ?_
  unfold F_Parcel_write at h
  show p_Go K l m_Parcel_write 0 [(0, p_r v0), (1, p_i v1), (2, p_i v2)] [] s0 _
  refine g_iload_n (i := 1) (j := 1) (dk_Parcel_write 0 rfl) rfl rfl ?_
  refine g_if_ne 12 (dk_Parcel_write 1 rfl) (by decide) (fun b1 => ?_) (fun b1 => ?_)
  · have h := p_ifT b1 h
    refine g_aload_n (i := 0) (j := 0) (dk_Parcel_write 6 rfl) rfl rfl ?_
    refine g_iload_n (i := 2) (j := 2) (dk_Parcel_write 7 rfl) rfl rfl ?_
    obtain ⟨c2, h⟩ := p_gdE h
    obtain ⟨s3, q4, h⟩ := p_bvE h
    have t5 := tF_Parcel_writeFormB K l v0 v2 s0 _ q4
    refine g_callV (a := v0) (ci := 4) (q0 := (RX4, TX4, 14)) (As := [p_i v2]) (rest := []) [] mt_Parcel_writeFormB rfl rfl tw_4_47 ts_13 tw_4_45 ⟨Nat.le_of_ble_eq_true rfl, Nat.le_of_ble_eq_true rfl⟩ rfl (Nat.le_of_ble_eq_true rfl) (dk_Parcel_write 8 rfl) rfl c2 rfl t5 ?_
    have hs6 : p_x s0 s3 := t5.1
    show p_Go K l m_Parcel_write 17 [(0, p_r v0), (1, p_i v1), (2, p_i v2)] [] s3 _
    cases h
    exact g_ret rfl rfl (dk_Parcel_write 9 rfl) (fun _ => rfl)
  · have h := p_ifF b1 h
    refine g_aload_n (i := 0) (j := 0) (dk_Parcel_write 2 rfl) rfl rfl ?_
    refine g_iload_n (i := 2) (j := 2) (dk_Parcel_write 3 rfl) rfl rfl ?_
    obtain ⟨c7, h⟩ := p_gdE h
    obtain ⟨s8, q9, h⟩ := p_bvE h
    have t10 := tF_Parcel_writeFormA K l v0 v2 s0 _ q9
    refine g_callV (a := v0) (ci := 4) (q0 := (RX4, TX4, 14)) (As := [p_i v2]) (rest := []) [] mt_Parcel_writeFormA rfl rfl tw_4_43 ts_12 tw_4_41 ⟨Nat.le_of_ble_eq_true rfl, Nat.le_of_ble_eq_true rfl⟩ rfl (Nat.le_of_ble_eq_true rfl) (dk_Parcel_write 4 rfl) rfl c7 rfl t10 ?_
    have hs11 : p_x s0 s8 := t10.1
    show p_Go K l m_Parcel_write 9 [(0, p_r v0), (1, p_i v1), (2, p_i v2)] [] s8 _
    refine g_goto 17 (dk_Parcel_write 5 rfl) (by decide) ?_
    cases h
    exact g_ret rfl rfl (dk_Parcel_write 9 rfl) (fun _ => rfl)
def m_SW_tag : p_Me := (⟨"SortWorks", "tag", "(III)I"⟩, prog_1_method_20_code, 5, (some .int), 2, 44)
theorem mt_SW_tag : p_Mt m_SW_tag 3 := ⟨p_mem (p_tb4 (List.mem_of_getElem? (i := 36) rfl)) rfl, tw_1_1, by decide +kernel, by decide +kernel, by decide +kernel⟩
def dt_SW_tag : List (Nat × Instr × Nat) := [(0, .aload_n 0, 1), (1, .getfield 18, 3), (4, .getfield 77, 3), (7, .iload_n 1, 1), (8, .invokevirtual 203, 3), (11, .astore 4, 2), (13, .aload 4, 2), (15, .ifnonnull 9, 3), (18, .aload_n 0, 1), (19, .iconst (-1), 1), (20, .invokevirtual 61, 3), (23, .ireturn, 1), (24, .iload_n 2, 1), (25, .ifCond .lt 18, 3), (28, .iload_n 2, 1), (29, .iconst 1, 1), (30, .if_icmp .gt 13, 3), (33, .iload_n 3, 1), (34, .ifCond .lt 9, 3), (37, .iload_n 3, 1), (38, .bipush 99, 2), (40, .if_icmp .le 10, 3), (43, .aload_n 0, 1), (44, .bipush (-2), 2), (46, .invokevirtual 61, 3), (49, .ireturn, 1), (50, .aload 4, 2), (52, .iload_n 2, 1), (53, .iload_n 3, 1), (54, .invokevirtual 213, 3), (57, .aload_n 0, 1), (58, .aload 4, 2), (60, .getfield 210, 3), (63, .invokevirtual 57, 3), (66, .ireturn, 1)]
theorem dk_SW_tag (i : Nat) {pc : Nat} {ins : Instr} {len : Nat} (h : dt_SW_tag[i]? = some (pc, ins, len)) : decode m_SW_tag.2.1 pc = .ok (ins, len) := p_dk (b := m_SW_tag.2.1) (t := dt_SW_tag) (by decide +kernel) i h
def B_SW_tag_43  (v0 : Nat) (s0 : p_Hp) : Option (Int × p_Hp) :=
  p_gd (p_is s0 v0 10) <|
  p_bd (F_SW_refuse v0 (-2) s0) fun r6 s2 =>
  some (r6, s2)
def F_SW_tag (v0 : Nat) (v1 : Int) (v2 : Int) (v3 : Int) (s0 : p_Hp) : Option (Int × p_Hp) :=
  p_gd (p_is s0 v0 10) <|
  p_gd (p_is s0 (p_R s0 v0 1) 9) <|
  p_gd (p_is s0 (p_R s0 (p_R s0 v0 1) 1) 7) <|
  p_bd (F_State_find (p_R s0 (p_R s0 v0 1) 1) v1 s0) fun r8 s4 =>
  if r8 ≠ 0 then
    if v2 < 0 then
      B_SW_tag_43 v0 s4
    else
      if 1 < v2 then
        B_SW_tag_43 v0 s4
      else
        if v3 < 0 then
          B_SW_tag_43 v0 s4
        else
          if v3 ≤ 99 then
            p_gd (p_is s4 r8 4) <|
            p_bv (F_Parcel_write r8 v2 v3 s4) fun s15 =>
            p_bd (F_SW_done v0 (p_Z s15 r8 11) s15) fun r23 s19 =>
            some (r23, s19)
          else
            B_SW_tag_43 v0 s4
  else
    p_bd (F_SW_refuse v0 (-1) s4) fun r28 s24 =>
    some (r28, s24)
set_option maxRecDepth 100000 in
set_option maxHeartbeats 4000000 in
theorem tB_SW_tag_43 (K : p_K) (l : Launch)  (v0 : Nat) (s0 : p_Hp) (r : (Int × p_Hp)) (h : B_SW_tag_43 v0 s0 = some r) : p_Go K l m_SW_tag 43 [(0, p_r v0)] [] s0 (some (p_i r.1), r.2) := by
  unfold B_SW_tag_43 at h
  refine g_aload_n (i := 0) (j := 0) (dk_SW_tag 22 rfl) rfl rfl ?_
  refine g_bipush (dk_SW_tag 23 rfl) (by decide +kernel) (by decide) ?_
  obtain ⟨c1, h⟩ := p_gdE h
  obtain ⟨r6, s2, q3, h⟩ := p_bdE h
  have t4 := tF_SW_refuse K l v0 (-2) s0 _ q3
  refine g_callV (a := v0) (ci := 10) (q0 := (RX10, TX10, 9)) (As := [p_i (-2)]) (rest := []) [p_i r6] mt_SW_refuse rfl rfl tw_3_66 ts_0 tw_3_64 ⟨Nat.le_of_ble_eq_true rfl, Nat.le_of_ble_eq_true rfl⟩ rfl (Nat.le_of_ble_eq_true rfl) (dk_SW_tag 24 rfl) rfl c1 rfl t4 ?_
  have hs5 : p_x s0 s2 := t4.1
  show p_Go K l m_SW_tag 49 [(0, p_r v0)] [p_i r6] s2 _
  cases h
  exact g_ret rfl rfl (dk_SW_tag 25 rfl) (fun os => ⟨_, rfl, p_okh os⟩)
set_option maxRecDepth 100000 in
set_option maxHeartbeats 4000000 in
theorem tF_SW_tag (K : p_K) (l : Launch) (v0 : Nat) (v1 : Int) (v2 : Int) (v3 : Int) (s0 : p_Hp) (r : (Int × p_Hp)) (h : F_SW_tag v0 v1 v2 v3 s0 = some r) : p_Ct K l m_SW_tag [p_r v0, p_i v1, p_i v2, p_i v3] s0 (some (p_i r.1), r.2) := by
  refine p_Ct.of (by decide +kernel) (Nat.le_of_ble_eq_true rfl) ?_
  unfold F_SW_tag at h
  show p_Go K l m_SW_tag 0 [(0, p_r v0), (1, p_i v1), (2, p_i v2), (3, p_i v3)] [] s0 _
  refine g_aload_n (i := 0) (j := 0) (dk_SW_tag 0 rfl) rfl rfl ?_
  obtain ⟨c1, h⟩ := p_gdE h
  refine g_getR fl_SW_18 (Or.inl ⟨_, rfl⟩) (dk_SW_tag 1 rfl) c1 ?_
  obtain ⟨c2, h⟩ := p_gdE h
  refine g_getR fl_SW_77 (Or.inl ⟨_, rfl⟩) (dk_SW_tag 2 rfl) c2 ?_
  refine g_iload_n (i := 1) (j := 1) (dk_SW_tag 3 rfl) rfl rfl ?_
  obtain ⟨c3, h⟩ := p_gdE h
  obtain ⟨r8, s4, q5, h⟩ := p_bdE h
  have t6 := tF_State_find K l (p_R s0 (p_R s0 v0 1) 1) v1 s0 _ q5
  refine g_callV (a := (p_R s0 (p_R s0 v0 1) 1)) (ci := 7) (q0 := (RX7, TX7, 10)) (As := [p_i v1]) (rest := []) [p_r r8] mt_State_find rfl rfl tw_4_26 tw_4_27 tw_4_25 ⟨Nat.le_of_ble_eq_true rfl, Nat.le_of_ble_eq_true rfl⟩ rfl (Nat.le_of_ble_eq_true rfl) (dk_SW_tag 4 rfl) rfl c3 rfl t6 ?_
  have hs7 : p_x s0 s4 := t6.1
  show p_Go K l m_SW_tag 11 [(0, p_r v0), (1, p_i v1), (2, p_i v2), (3, p_i v3)] [p_r r8] s4 _
  refine g_astore [(4, p_r r8), (0, p_r v0), (1, p_i v1), (2, p_i v2), (3, p_i v3)] (dk_SW_tag 5 rfl) (by decide) rfl ?_
  refine g_aload (j := 0) (dk_SW_tag 6 rfl) rfl ?_
  refine g_ifnonnull 24 (dk_SW_tag 7 rfl) (by decide) (fun b9 => ?_) (fun b9 => ?_)
  · have h := p_ifT b9 h
    refine g_iload_n (i := 2) (j := 3) (dk_SW_tag 12 rfl) rfl rfl ?_
    refine g_if_lt 43 (dk_SW_tag 13 rfl) (by decide) (fun b10 => ?_) (fun b10 => ?_)
    · have h := p_ifT b10 h
      refine g_sub [(0, p_r v0)] [1] rfl ?_
      exact tB_SW_tag_43 K l v0 s4 _ h
    · have h := p_ifF b10 h
      refine g_iload_n (i := 2) (j := 3) (dk_SW_tag 14 rfl) rfl rfl ?_
      refine g_iconst (dk_SW_tag 15 rfl) (by decide) ?_
      refine g_icmp_gt 43 (dk_SW_tag 16 rfl) (by decide) (fun b11 => ?_) (fun b11 => ?_)
      · have h := p_ifT b11 h
        refine g_sub [(0, p_r v0)] [1] rfl ?_
        exact tB_SW_tag_43 K l v0 s4 _ h
      · have h := p_ifF b11 h
        refine g_iload_n (i := 3) (j := 4) (dk_SW_tag 17 rfl) rfl rfl ?_
        refine g_if_lt 43 (dk_SW_tag 18 rfl) (by decide) (fun b12 => ?_) (fun b12 => ?_)
        · have h := p_ifT b12 h
          refine g_sub [(0, p_r v0)] [1] rfl ?_
          exact tB_SW_tag_43 K l v0 s4 _ h
        · have h := p_ifF b12 h
          refine g_iload_n (i := 3) (j := 4) (dk_SW_tag 19 rfl) rfl rfl ?_
          refine g_bipush (dk_SW_tag 20 rfl) (by decide +kernel) (by decide) ?_
          refine g_icmp_le 50 (dk_SW_tag 21 rfl) (by decide) (fun b13 => ?_) (fun b13 => ?_)
          · have h := p_ifT b13 h
            refine g_aload (j := 0) (dk_SW_tag 26 rfl) rfl ?_
            refine g_iload_n (i := 2) (j := 3) (dk_SW_tag 27 rfl) rfl rfl ?_
            refine g_iload_n (i := 3) (j := 4) (dk_SW_tag 28 rfl) rfl rfl ?_
            obtain ⟨c14, h⟩ := p_gdE h
            obtain ⟨s15, q16, h⟩ := p_bvE h
            have t17 := tF_Parcel_write K l r8 v2 v3 s4 _ q16
            refine g_callV (a := r8) (ci := 4) (q0 := (RX4, TX4, 14)) (As := [p_i v2, p_i v3]) (rest := []) [] mt_Parcel_write rfl rfl tw_4_38 tw_4_39 tw_4_37 ⟨Nat.le_of_ble_eq_true rfl, Nat.le_of_ble_eq_true rfl⟩ rfl (Nat.le_of_ble_eq_true rfl) (dk_SW_tag 29 rfl) rfl c14 rfl t17 ?_
            have hs18 : p_x s4 s15 := t17.1
            show p_Go K l m_SW_tag 57 [(4, p_r r8), (0, p_r v0), (1, p_i v1), (2, p_i v2), (3, p_i v3)] [] s15 _
            refine g_aload_n (i := 0) (j := 1) (dk_SW_tag 30 rfl) rfl rfl ?_
            refine g_aload (j := 0) (dk_SW_tag 31 rfl) rfl ?_
            refine g_getI fl_SW_210 (Or.inl rfl) (dk_SW_tag 32 rfl) (c14.up hs18) ?_
            obtain ⟨r23, s19, q20, h⟩ := p_bdE h
            have t21 := tF_SW_done K l v0 (p_Z s15 r8 11) s15 _ q20
            refine g_callV (a := v0) (ci := 10) (q0 := (RX10, TX10, 9)) (As := [p_i (p_Z s15 r8 11)]) (rest := []) [p_i r23] mt_SW_done rfl rfl tw_3_70 ts_1 tw_3_68 ⟨Nat.le_of_ble_eq_true rfl, Nat.le_of_ble_eq_true rfl⟩ rfl (Nat.le_of_ble_eq_true rfl) (dk_SW_tag 33 rfl) rfl (c1.up (hs7.trans hs18)) rfl t21 ?_
            have hs22 : p_x s15 s19 := t21.1
            show p_Go K l m_SW_tag 66 [(4, p_r r8), (0, p_r v0), (1, p_i v1), (2, p_i v2), (3, p_i v3)] [p_i r23] s19 _
            cases h
            exact g_ret rfl rfl (dk_SW_tag 34 rfl) (fun os => ⟨_, rfl, p_okh os⟩)
          · have h := p_ifF b13 h
            refine g_sub [(0, p_r v0)] [1] rfl ?_
            exact tB_SW_tag_43 K l v0 s4 _ h
  · have h := p_ifF b9 h
    refine g_aload_n (i := 0) (j := 1) (dk_SW_tag 8 rfl) rfl rfl ?_
    refine g_iconst (dk_SW_tag 9 rfl) (by decide) ?_
    obtain ⟨r28, s24, q25, h⟩ := p_bdE h
    have t26 := tF_SW_refuse K l v0 (-1) s4 _ q25
    refine g_callV (a := v0) (ci := 10) (q0 := (RX10, TX10, 9)) (As := [p_i (-1)]) (rest := []) [p_i r28] mt_SW_refuse rfl rfl tw_3_66 ts_0 tw_3_64 ⟨Nat.le_of_ble_eq_true rfl, Nat.le_of_ble_eq_true rfl⟩ rfl (Nat.le_of_ble_eq_true rfl) (dk_SW_tag 10 rfl) rfl (c1.up hs7) rfl t26 ?_
    have hs27 : p_x s4 s24 := t26.1
    show p_Go K l m_SW_tag 23 [(4, p_r r8), (0, p_r v0), (1, p_i v1), (2, p_i v2), (3, p_i v3)] [p_i r28] s24 _
    cases h
    exact g_ret rfl rfl (dk_SW_tag 11 rfl) (fun os => ⟨_, rfl, p_okh os⟩)
def m_SW_door : p_Me := (⟨"SortWorks", "door", "(IZ)I"⟩, prog_1_method_21_code, 5, (some .int), 1, 21)
theorem mt_SW_door : p_Mt m_SW_door 2 := ⟨p_mem (p_tb4 (List.mem_of_getElem? (i := 52) rfl)) rfl, tw_1_1, by decide +kernel, by decide +kernel, by decide +kernel⟩
def dt_SW_door : List (Nat × Instr × Nat) := [(0, .aload_n 0, 1), (1, .getfield 18, 3), (4, .iload_n 1, 1), (5, .invokevirtual 98, 3), (8, .astore_n 3, 1), (9, .aload_n 3, 1), (10, .ifnonnull 9, 3), (13, .aload_n 0, 1), (14, .iconst (-1), 1), (15, .invokevirtual 61, 3), (18, .ireturn, 1), (19, .aload_n 3, 1), (20, .getfield 139, 3), (23, .bipush 9, 2), (25, .if_icmp .eq 10, 3), (28, .aload_n 0, 1), (29, .bipush (-12), 2), (31, .invokevirtual 61, 3), (34, .ireturn, 1), (35, .aload_n 3, 1), (36, .getfield 217, 3), (39, .istore 4, 2), (41, .aload_n 3, 1), (42, .iload_n 2, 1), (43, .putfield 217, 3), (46, .aload_n 0, 1), (47, .iload 4, 2), (49, .ifCond .eq 7, 3), (52, .iconst 1, 1), (53, .goto 4, 3), (56, .iconst 0, 1), (57, .invokevirtual 57, 3), (60, .ireturn, 1)]
theorem dk_SW_door (i : Nat) {pc : Nat} {ins : Instr} {len : Nat} (h : dt_SW_door[i]? = some (pc, ins, len)) : decode m_SW_door.2.1 pc = .ok (ins, len) := p_dk (b := m_SW_door.2.1) (t := dt_SW_door) (by decide +kernel) i h
def B_SW_door_57  (w0 : Int) (w1 : Nat) (s0 : p_Hp) : Option (Int × p_Hp) :=
  p_gd (p_is s0 w1 10) <|
  p_bd (F_SW_done w1 w0 s0) fun r6 s2 =>
  some (r6, s2)
def F_SW_door (v0 : Nat) (v1 : Int) (v2 : Int) (s0 : p_Hp) : Option (Int × p_Hp) :=
  p_gd (p_is s0 v0 10) <|
  p_gd (p_is s0 (p_R s0 v0 1) 9) <|
  p_bd (F_Works_gearOf (p_R s0 v0 1) v1 s0) fun r7 s3 =>
  if r7 ≠ 0 then
    p_gd (p_is s3 r7 0) <|
    if (p_Z s3 r7 0) = 9 then
      p_bi ((p_Z s3 r7 7)) fun x11 =>
      p_gd (v2 = 0 ∨ v2 = 1) <|
      p_bi (p_wZ s3 r7 7 v2) fun s13 =>
      if x11 = 0 then
        B_SW_door_57 0 v0 s13
      else
        B_SW_door_57 1 v0 s13
    else
      p_bd (F_SW_refuse v0 (-12) s3) fun r20 s16 =>
      some (r20, s16)
  else
    p_bd (F_SW_refuse v0 (-1) s3) fun r25 s21 =>
    some (r25, s21)
set_option maxRecDepth 100000 in
set_option maxHeartbeats 4000000 in
theorem tB_SW_door_57 (K : p_K) (l : Launch)  (w0 : Int) (w1 : Nat) (s0 : p_Hp) (r : (Int × p_Hp)) (h : B_SW_door_57 w0 w1 s0 = some r) : p_Go K l m_SW_door 57 [] [p_i w0, p_r w1] s0 (some (p_i r.1), r.2) := by
  unfold B_SW_door_57 at h
  obtain ⟨c1, h⟩ := p_gdE h
  obtain ⟨r6, s2, q3, h⟩ := p_bdE h
  have t4 := tF_SW_done K l w1 w0 s0 _ q3
  refine g_callV (a := w1) (ci := 10) (q0 := (RX10, TX10, 9)) (As := [p_i w0]) (rest := []) [p_i r6] mt_SW_done rfl rfl tw_3_70 ts_1 tw_3_68 ⟨Nat.le_of_ble_eq_true rfl, Nat.le_of_ble_eq_true rfl⟩ rfl (Nat.le_of_ble_eq_true rfl) (dk_SW_door 31 rfl) rfl c1 rfl t4 ?_
  have hs5 : p_x s0 s2 := t4.1
  show p_Go K l m_SW_door 60 [] [p_i r6] s2 _
  cases h
  exact g_ret rfl rfl (dk_SW_door 32 rfl) (fun os => ⟨_, rfl, p_okh os⟩)
set_option maxRecDepth 100000 in
set_option maxHeartbeats 4000000 in
theorem tF_SW_door (K : p_K) (l : Launch) (v0 : Nat) (v1 : Int) (v2 : Int) (s0 : p_Hp) (r : (Int × p_Hp)) (h : F_SW_door v0 v1 v2 s0 = some r) : p_Ct K l m_SW_door [p_r v0, p_i v1, p_i v2] s0 (some (p_i r.1), r.2) := by
  refine p_Ct.of (by decide +kernel) (Nat.le_of_ble_eq_true rfl) ?_
  unfold F_SW_door at h
  show p_Go K l m_SW_door 0 [(0, p_r v0), (1, p_i v1), (2, p_i v2)] [] s0 _
  refine g_aload_n (i := 0) (j := 0) (dk_SW_door 0 rfl) rfl rfl ?_
  obtain ⟨c1, h⟩ := p_gdE h
  refine g_getR fl_SW_18 (Or.inl ⟨_, rfl⟩) (dk_SW_door 1 rfl) c1 ?_
  refine g_iload_n (i := 1) (j := 1) (dk_SW_door 2 rfl) rfl rfl ?_
  obtain ⟨c2, h⟩ := p_gdE h
  obtain ⟨r7, s3, q4, h⟩ := p_bdE h
  have t5 := tF_Works_gearOf K l (p_R s0 v0 1) v1 s0 _ q4
  refine g_callV (a := (p_R s0 v0 1)) (ci := 9) (q0 := (RX9, TX9, 15)) (As := [p_i v1]) (rest := []) [p_r r7] mt_Works_gearOf rfl rfl tw_3_104 tw_3_105 tw_3_103 ⟨Nat.le_of_ble_eq_true rfl, Nat.le_of_ble_eq_true rfl⟩ rfl (Nat.le_of_ble_eq_true rfl) (dk_SW_door 3 rfl) rfl c2 rfl t5 ?_
  have hs6 : p_x s0 s3 := t5.1
  show p_Go K l m_SW_door 8 [(0, p_r v0), (1, p_i v1), (2, p_i v2)] [p_r r7] s3 _
  refine g_astore_n (i := 3) [(3, p_r r7), (0, p_r v0), (1, p_i v1), (2, p_i v2)] (dk_SW_door 4 rfl) rfl (by decide) rfl ?_
  refine g_aload_n (i := 3) (j := 0) (dk_SW_door 5 rfl) rfl rfl ?_
  refine g_ifnonnull 19 (dk_SW_door 6 rfl) (by decide) (fun b8 => ?_) (fun b8 => ?_)
  · have h := p_ifT b8 h
    refine g_aload_n (i := 3) (j := 0) (dk_SW_door 11 rfl) rfl rfl ?_
    obtain ⟨c9, h⟩ := p_gdE h
    refine g_getI fl_SW_139 (Or.inl rfl) (dk_SW_door 12 rfl) c9 ?_
    refine g_bipush (dk_SW_door 13 rfl) (by decide +kernel) (by decide) ?_
    refine g_icmp_eq 35 (dk_SW_door 14 rfl) (by decide) (fun b10 => ?_) (fun b10 => ?_)
    · have h := p_ifT b10 h
      refine g_aload_n (i := 3) (j := 0) (dk_SW_door 19 rfl) rfl rfl ?_
      refine g_getI fl_SW_217 (Or.inr rfl) (dk_SW_door 20 rfl) c9 ?_
      refine g_istore [(4, p_i (p_Z s3 r7 7)), (3, p_r r7), (0, p_r v0), (1, p_i v1), (2, p_i v2)] (dk_SW_door 21 rfl) (by decide) rfl ?_
      refine p_ltG (P := fun q => p_Go K l m_SW_door 41 [(4, p_i q), (3, p_r r7), (0, p_r v0), (1, p_i v1), (2, p_i v2)] [] s3 _) ?_ h
      intro x11 h
      refine g_aload_n (i := 3) (j := 1) (dk_SW_door 22 rfl) rfl rfl ?_
      refine g_iload_n (i := 2) (j := 4) (dk_SW_door 23 rfl) rfl rfl ?_
      obtain ⟨c12, h⟩ := p_gdE h
      refine g_putB fl_SW_217 (Or.inl rfl) (dk_SW_door 24 rfl) c9 c12 ?_
      refine p_ltS (P := fun q => p_Go K l m_SW_door 46 [(4, p_i x11), (3, p_r r7), (0, p_r v0), (1, p_i v1), (2, p_i v2)] [] q _) (p_xZ _ _ _ _) ?_ h
      intro s13 hs14 h
      refine g_aload_n (i := 0) (j := 2) (dk_SW_door 25 rfl) rfl rfl ?_
      refine g_iload (j := 0) (dk_SW_door 26 rfl) rfl ?_
      refine g_if_eq 56 (dk_SW_door 27 rfl) (by decide) (fun b15 => ?_) (fun b15 => ?_)
      · have h := p_ifT b15 h
        refine g_iconst (dk_SW_door 30 rfl) (by decide) ?_
        refine g_sub [] [] rfl ?_
        exact tB_SW_door_57 K l 0 v0 s13 _ h
      · have h := p_ifF b15 h
        refine g_iconst (dk_SW_door 28 rfl) (by decide) ?_
        refine g_goto 57 (dk_SW_door 29 rfl) (by decide) ?_
        refine g_sub [] [] rfl ?_
        exact tB_SW_door_57 K l 1 v0 s13 _ h
    · have h := p_ifF b10 h
      refine g_aload_n (i := 0) (j := 1) (dk_SW_door 15 rfl) rfl rfl ?_
      refine g_bipush (dk_SW_door 16 rfl) (by decide +kernel) (by decide) ?_
      obtain ⟨r20, s16, q17, h⟩ := p_bdE h
      have t18 := tF_SW_refuse K l v0 (-12) s3 _ q17
      refine g_callV (a := v0) (ci := 10) (q0 := (RX10, TX10, 9)) (As := [p_i (-12)]) (rest := []) [p_i r20] mt_SW_refuse rfl rfl tw_3_66 ts_0 tw_3_64 ⟨Nat.le_of_ble_eq_true rfl, Nat.le_of_ble_eq_true rfl⟩ rfl (Nat.le_of_ble_eq_true rfl) (dk_SW_door 17 rfl) rfl (c1.up hs6) rfl t18 ?_
      have hs19 : p_x s3 s16 := t18.1
      show p_Go K l m_SW_door 34 [(3, p_r r7), (0, p_r v0), (1, p_i v1), (2, p_i v2)] [p_i r20] s16 _
      cases h
      exact g_ret rfl rfl (dk_SW_door 18 rfl) (fun os => ⟨_, rfl, p_okh os⟩)
  · have h := p_ifF b8 h
    refine g_aload_n (i := 0) (j := 1) (dk_SW_door 7 rfl) rfl rfl ?_
    refine g_iconst (dk_SW_door 8 rfl) (by decide) ?_
    obtain ⟨r25, s21, q22, h⟩ := p_bdE h
    have t23 := tF_SW_refuse K l v0 (-1) s3 _ q22
    refine g_callV (a := v0) (ci := 10) (q0 := (RX10, TX10, 9)) (As := [p_i (-1)]) (rest := []) [p_i r25] mt_SW_refuse rfl rfl tw_3_66 ts_0 tw_3_64 ⟨Nat.le_of_ble_eq_true rfl, Nat.le_of_ble_eq_true rfl⟩ rfl (Nat.le_of_ble_eq_true rfl) (dk_SW_door 9 rfl) rfl (c1.up hs6) rfl t23 ?_
    have hs24 : p_x s3 s21 := t23.1
    show p_Go K l m_SW_door 18 [(3, p_r r7), (0, p_r v0), (1, p_i v1), (2, p_i v2)] [p_i r25] s21 _
    cases h
    exact g_ret rfl rfl (dk_SW_door 10 rfl) (fun os => ⟨_, rfl, p_okh os⟩)
def m_SW_turn : p_Me := (⟨"SortWorks", "turn", "(II)I"⟩, prog_1_method_22_code, 5, (some .int), 1, 22)
theorem mt_SW_turn : p_Mt m_SW_turn 2 := ⟨p_mem (p_tb4 (List.mem_of_getElem? (i := 56) rfl)) rfl, tw_1_1, by decide +kernel, by decide +kernel, by decide +kernel⟩
def dt_SW_turn : List (Nat × Instr × Nat) := [(0, .aload_n 0, 1), (1, .getfield 18, 3), (4, .iload_n 1, 1), (5, .invokevirtual 98, 3), (8, .astore_n 3, 1), (9, .aload_n 3, 1), (10, .ifnonnull 9, 3), (13, .aload_n 0, 1), (14, .iconst (-1), 1), (15, .invokevirtual 61, 3), (18, .ireturn, 1), (19, .aload_n 3, 1), (20, .invokevirtual 114, 3), (23, .ifCond .ne 10, 3), (26, .aload_n 0, 1), (27, .bipush (-12), 2), (29, .invokevirtual 61, 3), (32, .ireturn, 1), (33, .aload_n 3, 1), (34, .iload_n 2, 1), (35, .invokevirtual 118, 3), (38, .ifCond .ne 10, 3), (41, .aload_n 0, 1), (42, .bipush (-13), 2), (44, .invokevirtual 61, 3), (47, .ireturn, 1), (48, .aload_n 3, 1), (49, .invokevirtual 135, 3), (52, .ifCond .le 10, 3), (55, .aload_n 0, 1), (56, .bipush (-3), 2), (58, .invokevirtual 61, 3), (61, .ireturn, 1), (62, .aload_n 3, 1), (63, .getfield 221, 3), (66, .istore 4, 2), (68, .aload_n 3, 1), (69, .iload_n 2, 1), (70, .putfield 221, 3), (73, .aload_n 0, 1), (74, .iload 4, 2), (76, .invokevirtual 57, 3), (79, .ireturn, 1)]
theorem dk_SW_turn (i : Nat) {pc : Nat} {ins : Instr} {len : Nat} (h : dt_SW_turn[i]? = some (pc, ins, len)) : decode m_SW_turn.2.1 pc = .ok (ins, len) := p_dk (b := m_SW_turn.2.1) (t := dt_SW_turn) (by decide +kernel) i h
def F_SW_turn (v0 : Nat) (v1 : Int) (v2 : Int) (s0 : p_Hp) : Option (Int × p_Hp) :=
  p_gd (p_is s0 v0 10) <|
  p_gd (p_is s0 (p_R s0 v0 1) 9) <|
  p_bd (F_Works_gearOf (p_R s0 v0 1) v1 s0) fun r7 s3 =>
  if r7 ≠ 0 then
    p_gd (p_is s3 r7 0) <|
    p_bd (F_Gear_isDivert r7 s3) fun r14 s10 =>
    if r14 ≠ 0 then
      p_bd (F_Gear_hasSide r7 v2 s10) fun r20 s16 =>
      if r20 ≠ 0 then
        p_bd (F_Gear_parcels r7 s16) fun r26 s22 =>
        if r26 ≤ 0 then
          p_bi ((p_Z s22 r7 6)) fun x28 =>
          p_bi (p_wZ s22 r7 6 v2) fun s29 =>
          p_bd (F_SW_done v0 x28 s29) fun r35 s31 =>
          some (r35, s31)
        else
          p_bd (F_SW_refuse v0 (-3) s22) fun r40 s36 =>
          some (r40, s36)
      else
        p_bd (F_SW_refuse v0 (-13) s16) fun r45 s41 =>
        some (r45, s41)
    else
      p_bd (F_SW_refuse v0 (-12) s10) fun r50 s46 =>
      some (r50, s46)
  else
    p_bd (F_SW_refuse v0 (-1) s3) fun r55 s51 =>
    some (r55, s51)
set_option maxRecDepth 100000 in
set_option maxHeartbeats 4000000 in
theorem tF_SW_turn (K : p_K) (l : Launch) (v0 : Nat) (v1 : Int) (v2 : Int) (s0 : p_Hp) (r : (Int × p_Hp)) (h : F_SW_turn v0 v1 v2 s0 = some r) : p_Ct K l m_SW_turn [p_r v0, p_i v1, p_i v2] s0 (some (p_i r.1), r.2) := by
  refine p_Ct.of (by decide +kernel) (Nat.le_of_ble_eq_true rfl) ?_
  unfold F_SW_turn at h
  show p_Go K l m_SW_turn 0 [(0, p_r v0), (1, p_i v1), (2, p_i v2)] [] s0 _
  refine g_aload_n (i := 0) (j := 0) (dk_SW_turn 0 rfl) rfl rfl ?_
  obtain ⟨c1, h⟩ := p_gdE h
  refine g_getR fl_SW_18 (Or.inl ⟨_, rfl⟩) (dk_SW_turn 1 rfl) c1 ?_
  refine g_iload_n (i := 1) (j := 1) (dk_SW_turn 2 rfl) rfl rfl ?_
  obtain ⟨c2, h⟩ := p_gdE h
  obtain ⟨r7, s3, q4, h⟩ := p_bdE h
  have t5 := tF_Works_gearOf K l (p_R s0 v0 1) v1 s0 _ q4
  refine g_callV (a := (p_R s0 v0 1)) (ci := 9) (q0 := (RX9, TX9, 15)) (As := [p_i v1]) (rest := []) [p_r r7] mt_Works_gearOf rfl rfl tw_3_104 tw_3_105 tw_3_103 ⟨Nat.le_of_ble_eq_true rfl, Nat.le_of_ble_eq_true rfl⟩ rfl (Nat.le_of_ble_eq_true rfl) (dk_SW_turn 3 rfl) rfl c2 rfl t5 ?_
  have hs6 : p_x s0 s3 := t5.1
  show p_Go K l m_SW_turn 8 [(0, p_r v0), (1, p_i v1), (2, p_i v2)] [p_r r7] s3 _
  refine g_astore_n (i := 3) [(3, p_r r7), (0, p_r v0), (1, p_i v1), (2, p_i v2)] (dk_SW_turn 4 rfl) rfl (by decide) rfl ?_
  refine g_aload_n (i := 3) (j := 0) (dk_SW_turn 5 rfl) rfl rfl ?_
  refine g_ifnonnull 19 (dk_SW_turn 6 rfl) (by decide) (fun b8 => ?_) (fun b8 => ?_)
  · have h := p_ifT b8 h
    refine g_aload_n (i := 3) (j := 0) (dk_SW_turn 11 rfl) rfl rfl ?_
    obtain ⟨c9, h⟩ := p_gdE h
    obtain ⟨r14, s10, q11, h⟩ := p_bdE h
    have t12 := tF_Gear_isDivert K l r7 s3 _ q11
    refine g_callV (a := r7) (ci := 0) (q0 := (RX0, TX0, 20)) (As := []) (rest := []) [p_i r14] mt_Gear_isDivert rfl rfl tw_3_119 tw_3_120 tw_3_118 ⟨Nat.le_of_ble_eq_true rfl, Nat.le_of_ble_eq_true rfl⟩ rfl (Nat.le_of_ble_eq_true rfl) (dk_SW_turn 12 rfl) rfl c9 rfl t12 ?_
    have hs13 : p_x s3 s10 := t12.1
    show p_Go K l m_SW_turn 23 [(3, p_r r7), (0, p_r v0), (1, p_i v1), (2, p_i v2)] [p_i r14] s10 _
    refine g_if_ne 33 (dk_SW_turn 13 rfl) (by decide) (fun b15 => ?_) (fun b15 => ?_)
    · have h := p_ifT b15 h
      refine g_aload_n (i := 3) (j := 0) (dk_SW_turn 18 rfl) rfl rfl ?_
      refine g_iload_n (i := 2) (j := 3) (dk_SW_turn 19 rfl) rfl rfl ?_
      obtain ⟨r20, s16, q17, h⟩ := p_bdE h
      have t18 := tF_Gear_hasSide K l r7 v2 s10 _ q17
      refine g_callV (a := r7) (ci := 0) (q0 := (RX0, TX0, 20)) (As := [p_i v2]) (rest := []) [p_i r20] mt_Gear_hasSide rfl rfl tw_3_123 tw_3_124 tw_3_122 ⟨Nat.le_of_ble_eq_true rfl, Nat.le_of_ble_eq_true rfl⟩ rfl (Nat.le_of_ble_eq_true rfl) (dk_SW_turn 20 rfl) rfl (c9.up hs13) rfl t18 ?_
      have hs19 : p_x s10 s16 := t18.1
      show p_Go K l m_SW_turn 38 [(3, p_r r7), (0, p_r v0), (1, p_i v1), (2, p_i v2)] [p_i r20] s16 _
      refine g_if_ne 48 (dk_SW_turn 21 rfl) (by decide) (fun b21 => ?_) (fun b21 => ?_)
      · have h := p_ifT b21 h
        refine g_aload_n (i := 3) (j := 0) (dk_SW_turn 26 rfl) rfl rfl ?_
        obtain ⟨r26, s22, q23, h⟩ := p_bdE h
        have t24 := tF_Gear_parcels K l r7 s16 _ q23
        refine g_callV (a := r7) (ci := 0) (q0 := (RX0, TX0, 20)) (As := []) (rest := []) [p_i r26] mt_Gear_parcels rfl rfl tw_3_151 tw_3_152 tw_3_150 ⟨Nat.le_of_ble_eq_true rfl, Nat.le_of_ble_eq_true rfl⟩ rfl (Nat.le_of_ble_eq_true rfl) (dk_SW_turn 27 rfl) rfl (c9.up (hs13.trans hs19)) rfl t24 ?_
        have hs25 : p_x s16 s22 := t24.1
        show p_Go K l m_SW_turn 52 [(3, p_r r7), (0, p_r v0), (1, p_i v1), (2, p_i v2)] [p_i r26] s22 _
        refine g_if_le 62 (dk_SW_turn 28 rfl) (by decide) (fun b27 => ?_) (fun b27 => ?_)
        · have h := p_ifT b27 h
          refine g_aload_n (i := 3) (j := 0) (dk_SW_turn 33 rfl) rfl rfl ?_
          refine g_getI fl_SW_221 (Or.inl rfl) (dk_SW_turn 34 rfl) (c9.up (hs13.trans (hs19.trans hs25))) ?_
          refine g_istore [(4, p_i (p_Z s22 r7 6)), (3, p_r r7), (0, p_r v0), (1, p_i v1), (2, p_i v2)] (dk_SW_turn 35 rfl) (by decide) rfl ?_
          refine p_ltG (P := fun q => p_Go K l m_SW_turn 68 [(4, p_i q), (3, p_r r7), (0, p_r v0), (1, p_i v1), (2, p_i v2)] [] s22 _) ?_ h
          intro x28 h
          refine g_aload_n (i := 3) (j := 1) (dk_SW_turn 36 rfl) rfl rfl ?_
          refine g_iload_n (i := 2) (j := 4) (dk_SW_turn 37 rfl) rfl rfl ?_
          refine g_putI fl_SW_221 (Or.inl rfl) (dk_SW_turn 38 rfl) (c9.up (hs13.trans (hs19.trans hs25))) ?_
          refine p_ltS (P := fun q => p_Go K l m_SW_turn 73 [(4, p_i x28), (3, p_r r7), (0, p_r v0), (1, p_i v1), (2, p_i v2)] [] q _) (p_xZ _ _ _ _) ?_ h
          intro s29 hs30 h
          refine g_aload_n (i := 0) (j := 2) (dk_SW_turn 39 rfl) rfl rfl ?_
          refine g_iload (j := 0) (dk_SW_turn 40 rfl) rfl ?_
          obtain ⟨r35, s31, q32, h⟩ := p_bdE h
          have t33 := tF_SW_done K l v0 x28 s29 _ q32
          refine g_callV (a := v0) (ci := 10) (q0 := (RX10, TX10, 9)) (As := [p_i x28]) (rest := []) [p_i r35] mt_SW_done rfl rfl tw_3_70 ts_1 tw_3_68 ⟨Nat.le_of_ble_eq_true rfl, Nat.le_of_ble_eq_true rfl⟩ rfl (Nat.le_of_ble_eq_true rfl) (dk_SW_turn 41 rfl) rfl (c1.up (hs6.trans (hs13.trans (hs19.trans (hs25.trans hs30))))) rfl t33 ?_
          have hs34 : p_x s29 s31 := t33.1
          show p_Go K l m_SW_turn 79 [(4, p_i x28), (3, p_r r7), (0, p_r v0), (1, p_i v1), (2, p_i v2)] [p_i r35] s31 _
          cases h
          exact g_ret rfl rfl (dk_SW_turn 42 rfl) (fun os => ⟨_, rfl, p_okh os⟩)
        · have h := p_ifF b27 h
          refine g_aload_n (i := 0) (j := 1) (dk_SW_turn 29 rfl) rfl rfl ?_
          refine g_bipush (dk_SW_turn 30 rfl) (by decide +kernel) (by decide) ?_
          obtain ⟨r40, s36, q37, h⟩ := p_bdE h
          have t38 := tF_SW_refuse K l v0 (-3) s22 _ q37
          refine g_callV (a := v0) (ci := 10) (q0 := (RX10, TX10, 9)) (As := [p_i (-3)]) (rest := []) [p_i r40] mt_SW_refuse rfl rfl tw_3_66 ts_0 tw_3_64 ⟨Nat.le_of_ble_eq_true rfl, Nat.le_of_ble_eq_true rfl⟩ rfl (Nat.le_of_ble_eq_true rfl) (dk_SW_turn 31 rfl) rfl (c1.up (hs6.trans (hs13.trans (hs19.trans hs25)))) rfl t38 ?_
          have hs39 : p_x s22 s36 := t38.1
          show p_Go K l m_SW_turn 61 [(3, p_r r7), (0, p_r v0), (1, p_i v1), (2, p_i v2)] [p_i r40] s36 _
          cases h
          exact g_ret rfl rfl (dk_SW_turn 32 rfl) (fun os => ⟨_, rfl, p_okh os⟩)
      · have h := p_ifF b21 h
        refine g_aload_n (i := 0) (j := 1) (dk_SW_turn 22 rfl) rfl rfl ?_
        refine g_bipush (dk_SW_turn 23 rfl) (by decide +kernel) (by decide) ?_
        obtain ⟨r45, s41, q42, h⟩ := p_bdE h
        have t43 := tF_SW_refuse K l v0 (-13) s16 _ q42
        refine g_callV (a := v0) (ci := 10) (q0 := (RX10, TX10, 9)) (As := [p_i (-13)]) (rest := []) [p_i r45] mt_SW_refuse rfl rfl tw_3_66 ts_0 tw_3_64 ⟨Nat.le_of_ble_eq_true rfl, Nat.le_of_ble_eq_true rfl⟩ rfl (Nat.le_of_ble_eq_true rfl) (dk_SW_turn 24 rfl) rfl (c1.up (hs6.trans (hs13.trans hs19))) rfl t43 ?_
        have hs44 : p_x s16 s41 := t43.1
        show p_Go K l m_SW_turn 47 [(3, p_r r7), (0, p_r v0), (1, p_i v1), (2, p_i v2)] [p_i r45] s41 _
        cases h
        exact g_ret rfl rfl (dk_SW_turn 25 rfl) (fun os => ⟨_, rfl, p_okh os⟩)
    · have h := p_ifF b15 h
      refine g_aload_n (i := 0) (j := 1) (dk_SW_turn 14 rfl) rfl rfl ?_
      refine g_bipush (dk_SW_turn 15 rfl) (by decide +kernel) (by decide) ?_
      obtain ⟨r50, s46, q47, h⟩ := p_bdE h
      have t48 := tF_SW_refuse K l v0 (-12) s10 _ q47
      refine g_callV (a := v0) (ci := 10) (q0 := (RX10, TX10, 9)) (As := [p_i (-12)]) (rest := []) [p_i r50] mt_SW_refuse rfl rfl tw_3_66 ts_0 tw_3_64 ⟨Nat.le_of_ble_eq_true rfl, Nat.le_of_ble_eq_true rfl⟩ rfl (Nat.le_of_ble_eq_true rfl) (dk_SW_turn 16 rfl) rfl (c1.up (hs6.trans hs13)) rfl t48 ?_
      have hs49 : p_x s10 s46 := t48.1
      show p_Go K l m_SW_turn 32 [(3, p_r r7), (0, p_r v0), (1, p_i v1), (2, p_i v2)] [p_i r50] s46 _
      cases h
      exact g_ret rfl rfl (dk_SW_turn 17 rfl) (fun os => ⟨_, rfl, p_okh os⟩)
  · have h := p_ifF b8 h
    refine g_aload_n (i := 0) (j := 1) (dk_SW_turn 7 rfl) rfl rfl ?_
    refine g_iconst (dk_SW_turn 8 rfl) (by decide) ?_
    obtain ⟨r55, s51, q52, h⟩ := p_bdE h
    have t53 := tF_SW_refuse K l v0 (-1) s3 _ q52
    refine g_callV (a := v0) (ci := 10) (q0 := (RX10, TX10, 9)) (As := [p_i (-1)]) (rest := []) [p_i r55] mt_SW_refuse rfl rfl tw_3_66 ts_0 tw_3_64 ⟨Nat.le_of_ble_eq_true rfl, Nat.le_of_ble_eq_true rfl⟩ rfl (Nat.le_of_ble_eq_true rfl) (dk_SW_turn 9 rfl) rfl (c1.up hs6) rfl t53 ?_
    have hs54 : p_x s3 s51 := t53.1
    show p_Go K l m_SW_turn 18 [(3, p_r r7), (0, p_r v0), (1, p_i v1), (2, p_i v2)] [p_i r55] s51 _
    cases h
    exact g_ret rfl rfl (dk_SW_turn 10 rfl) (fun os => ⟨_, rfl, p_okh os⟩)
def m_SW_release : p_Me := (⟨"SortWorks", "release", "(II)I"⟩, prog_1_method_23_code, 5, (some .int), 1, 21)
theorem mt_SW_release : p_Mt m_SW_release 2 := ⟨p_mem (p_tb4 (List.mem_of_getElem? (i := 60) rfl)) rfl, tw_1_1, by decide +kernel, by decide +kernel, by decide +kernel⟩
def dt_SW_release : List (Nat × Instr × Nat) := [(0, .aload_n 0, 1), (1, .getfield 18, 3), (4, .iload_n 1, 1), (5, .invokevirtual 98, 3), (8, .astore_n 3, 1), (9, .aload_n 3, 1), (10, .ifnonnull 9, 3), (13, .aload_n 0, 1), (14, .iconst (-1), 1), (15, .invokevirtual 61, 3), (18, .ireturn, 1), (19, .iload_n 2, 1), (20, .ifCond .lt 9, 3), (23, .iload_n 2, 1), (24, .bipush 20, 2), (26, .if_icmp .le 10, 3), (29, .aload_n 0, 1), (30, .bipush (-2), 2), (32, .invokevirtual 61, 3), (35, .ireturn, 1), (36, .aload_n 3, 1), (37, .getfield 139, 3), (40, .bipush 8, 2), (42, .if_icmp .eq 10, 3), (45, .aload_n 0, 1), (46, .bipush (-12), 2), (48, .invokevirtual 61, 3), (51, .ireturn, 1), (52, .aload_n 3, 1), (53, .getfield 224, 3), (56, .istore 4, 2), (58, .aload_n 3, 1), (59, .iload_n 2, 1), (60, .putfield 224, 3), (63, .aload_n 0, 1), (64, .iload 4, 2), (66, .invokevirtual 57, 3), (69, .ireturn, 1)]
theorem dk_SW_release (i : Nat) {pc : Nat} {ins : Instr} {len : Nat} (h : dt_SW_release[i]? = some (pc, ins, len)) : decode m_SW_release.2.1 pc = .ok (ins, len) := p_dk (b := m_SW_release.2.1) (t := dt_SW_release) (by decide +kernel) i h
def B_SW_release_29  (v0 : Nat) (s0 : p_Hp) : Option (Int × p_Hp) :=
  p_gd (p_is s0 v0 10) <|
  p_bd (F_SW_refuse v0 (-2) s0) fun r6 s2 =>
  some (r6, s2)
def F_SW_release (v0 : Nat) (v1 : Int) (v2 : Int) (s0 : p_Hp) : Option (Int × p_Hp) :=
  p_gd (p_is s0 v0 10) <|
  p_gd (p_is s0 (p_R s0 v0 1) 9) <|
  p_bd (F_Works_gearOf (p_R s0 v0 1) v1 s0) fun r7 s3 =>
  if r7 ≠ 0 then
    if v2 < 0 then
      B_SW_release_29 v0 s3
    else
      if v2 ≤ 20 then
        p_gd (p_is s3 r7 0) <|
        if (p_Z s3 r7 0) = 8 then
          p_bi ((p_Z s3 r7 14)) fun x13 =>
          p_bi (p_wZ s3 r7 14 v2) fun s14 =>
          p_bd (F_SW_done v0 x13 s14) fun r20 s16 =>
          some (r20, s16)
        else
          p_bd (F_SW_refuse v0 (-12) s3) fun r25 s21 =>
          some (r25, s21)
      else
        B_SW_release_29 v0 s3
  else
    p_bd (F_SW_refuse v0 (-1) s3) fun r30 s26 =>
    some (r30, s26)
set_option maxRecDepth 100000 in
set_option maxHeartbeats 4000000 in
theorem tB_SW_release_29 (K : p_K) (l : Launch)  (v0 : Nat) (s0 : p_Hp) (r : (Int × p_Hp)) (h : B_SW_release_29 v0 s0 = some r) : p_Go K l m_SW_release 29 [(0, p_r v0)] [] s0 (some (p_i r.1), r.2) := by
  unfold B_SW_release_29 at h
  refine g_aload_n (i := 0) (j := 0) (dk_SW_release 16 rfl) rfl rfl ?_
  refine g_bipush (dk_SW_release 17 rfl) (by decide +kernel) (by decide) ?_
  obtain ⟨c1, h⟩ := p_gdE h
  obtain ⟨r6, s2, q3, h⟩ := p_bdE h
  have t4 := tF_SW_refuse K l v0 (-2) s0 _ q3
  refine g_callV (a := v0) (ci := 10) (q0 := (RX10, TX10, 9)) (As := [p_i (-2)]) (rest := []) [p_i r6] mt_SW_refuse rfl rfl tw_3_66 ts_0 tw_3_64 ⟨Nat.le_of_ble_eq_true rfl, Nat.le_of_ble_eq_true rfl⟩ rfl (Nat.le_of_ble_eq_true rfl) (dk_SW_release 18 rfl) rfl c1 rfl t4 ?_
  have hs5 : p_x s0 s2 := t4.1
  show p_Go K l m_SW_release 35 [(0, p_r v0)] [p_i r6] s2 _
  cases h
  exact g_ret rfl rfl (dk_SW_release 19 rfl) (fun os => ⟨_, rfl, p_okh os⟩)
set_option maxRecDepth 100000 in
set_option maxHeartbeats 4000000 in
theorem tF_SW_release (K : p_K) (l : Launch) (v0 : Nat) (v1 : Int) (v2 : Int) (s0 : p_Hp) (r : (Int × p_Hp)) (h : F_SW_release v0 v1 v2 s0 = some r) : p_Ct K l m_SW_release [p_r v0, p_i v1, p_i v2] s0 (some (p_i r.1), r.2) := by
  refine p_Ct.of (by decide +kernel) (Nat.le_of_ble_eq_true rfl) ?_
  unfold F_SW_release at h
  show p_Go K l m_SW_release 0 [(0, p_r v0), (1, p_i v1), (2, p_i v2)] [] s0 _
  refine g_aload_n (i := 0) (j := 0) (dk_SW_release 0 rfl) rfl rfl ?_
  obtain ⟨c1, h⟩ := p_gdE h
  refine g_getR fl_SW_18 (Or.inl ⟨_, rfl⟩) (dk_SW_release 1 rfl) c1 ?_
  refine g_iload_n (i := 1) (j := 1) (dk_SW_release 2 rfl) rfl rfl ?_
  obtain ⟨c2, h⟩ := p_gdE h
  obtain ⟨r7, s3, q4, h⟩ := p_bdE h
  have t5 := tF_Works_gearOf K l (p_R s0 v0 1) v1 s0 _ q4
  refine g_callV (a := (p_R s0 v0 1)) (ci := 9) (q0 := (RX9, TX9, 15)) (As := [p_i v1]) (rest := []) [p_r r7] mt_Works_gearOf rfl rfl tw_3_104 tw_3_105 tw_3_103 ⟨Nat.le_of_ble_eq_true rfl, Nat.le_of_ble_eq_true rfl⟩ rfl (Nat.le_of_ble_eq_true rfl) (dk_SW_release 3 rfl) rfl c2 rfl t5 ?_
  have hs6 : p_x s0 s3 := t5.1
  show p_Go K l m_SW_release 8 [(0, p_r v0), (1, p_i v1), (2, p_i v2)] [p_r r7] s3 _
  refine g_astore_n (i := 3) [(3, p_r r7), (0, p_r v0), (1, p_i v1), (2, p_i v2)] (dk_SW_release 4 rfl) rfl (by decide) rfl ?_
  refine g_aload_n (i := 3) (j := 0) (dk_SW_release 5 rfl) rfl rfl ?_
  refine g_ifnonnull 19 (dk_SW_release 6 rfl) (by decide) (fun b8 => ?_) (fun b8 => ?_)
  · have h := p_ifT b8 h
    refine g_iload_n (i := 2) (j := 3) (dk_SW_release 11 rfl) rfl rfl ?_
    refine g_if_lt 29 (dk_SW_release 12 rfl) (by decide) (fun b9 => ?_) (fun b9 => ?_)
    · have h := p_ifT b9 h
      refine g_sub [(0, p_r v0)] [1] rfl ?_
      exact tB_SW_release_29 K l v0 s3 _ h
    · have h := p_ifF b9 h
      refine g_iload_n (i := 2) (j := 3) (dk_SW_release 13 rfl) rfl rfl ?_
      refine g_bipush (dk_SW_release 14 rfl) (by decide +kernel) (by decide) ?_
      refine g_icmp_le 36 (dk_SW_release 15 rfl) (by decide) (fun b10 => ?_) (fun b10 => ?_)
      · have h := p_ifT b10 h
        refine g_aload_n (i := 3) (j := 0) (dk_SW_release 20 rfl) rfl rfl ?_
        obtain ⟨c11, h⟩ := p_gdE h
        refine g_getI fl_SW_139 (Or.inl rfl) (dk_SW_release 21 rfl) c11 ?_
        refine g_bipush (dk_SW_release 22 rfl) (by decide +kernel) (by decide) ?_
        refine g_icmp_eq 52 (dk_SW_release 23 rfl) (by decide) (fun b12 => ?_) (fun b12 => ?_)
        · have h := p_ifT b12 h
          refine g_aload_n (i := 3) (j := 0) (dk_SW_release 28 rfl) rfl rfl ?_
          refine g_getI fl_SW_224 (Or.inl rfl) (dk_SW_release 29 rfl) c11 ?_
          refine g_istore [(4, p_i (p_Z s3 r7 14)), (3, p_r r7), (0, p_r v0), (1, p_i v1), (2, p_i v2)] (dk_SW_release 30 rfl) (by decide) rfl ?_
          refine p_ltG (P := fun q => p_Go K l m_SW_release 58 [(4, p_i q), (3, p_r r7), (0, p_r v0), (1, p_i v1), (2, p_i v2)] [] s3 _) ?_ h
          intro x13 h
          refine g_aload_n (i := 3) (j := 1) (dk_SW_release 31 rfl) rfl rfl ?_
          refine g_iload_n (i := 2) (j := 4) (dk_SW_release 32 rfl) rfl rfl ?_
          refine g_putI fl_SW_224 (Or.inl rfl) (dk_SW_release 33 rfl) c11 ?_
          refine p_ltS (P := fun q => p_Go K l m_SW_release 63 [(4, p_i x13), (3, p_r r7), (0, p_r v0), (1, p_i v1), (2, p_i v2)] [] q _) (p_xZ _ _ _ _) ?_ h
          intro s14 hs15 h
          refine g_aload_n (i := 0) (j := 2) (dk_SW_release 34 rfl) rfl rfl ?_
          refine g_iload (j := 0) (dk_SW_release 35 rfl) rfl ?_
          obtain ⟨r20, s16, q17, h⟩ := p_bdE h
          have t18 := tF_SW_done K l v0 x13 s14 _ q17
          refine g_callV (a := v0) (ci := 10) (q0 := (RX10, TX10, 9)) (As := [p_i x13]) (rest := []) [p_i r20] mt_SW_done rfl rfl tw_3_70 ts_1 tw_3_68 ⟨Nat.le_of_ble_eq_true rfl, Nat.le_of_ble_eq_true rfl⟩ rfl (Nat.le_of_ble_eq_true rfl) (dk_SW_release 36 rfl) rfl (c1.up (hs6.trans hs15)) rfl t18 ?_
          have hs19 : p_x s14 s16 := t18.1
          show p_Go K l m_SW_release 69 [(4, p_i x13), (3, p_r r7), (0, p_r v0), (1, p_i v1), (2, p_i v2)] [p_i r20] s16 _
          cases h
          exact g_ret rfl rfl (dk_SW_release 37 rfl) (fun os => ⟨_, rfl, p_okh os⟩)
        · have h := p_ifF b12 h
          refine g_aload_n (i := 0) (j := 1) (dk_SW_release 24 rfl) rfl rfl ?_
          refine g_bipush (dk_SW_release 25 rfl) (by decide +kernel) (by decide) ?_
          obtain ⟨r25, s21, q22, h⟩ := p_bdE h
          have t23 := tF_SW_refuse K l v0 (-12) s3 _ q22
          refine g_callV (a := v0) (ci := 10) (q0 := (RX10, TX10, 9)) (As := [p_i (-12)]) (rest := []) [p_i r25] mt_SW_refuse rfl rfl tw_3_66 ts_0 tw_3_64 ⟨Nat.le_of_ble_eq_true rfl, Nat.le_of_ble_eq_true rfl⟩ rfl (Nat.le_of_ble_eq_true rfl) (dk_SW_release 26 rfl) rfl (c1.up hs6) rfl t23 ?_
          have hs24 : p_x s3 s21 := t23.1
          show p_Go K l m_SW_release 51 [(3, p_r r7), (0, p_r v0), (1, p_i v1), (2, p_i v2)] [p_i r25] s21 _
          cases h
          exact g_ret rfl rfl (dk_SW_release 27 rfl) (fun os => ⟨_, rfl, p_okh os⟩)
      · have h := p_ifF b10 h
        refine g_sub [(0, p_r v0)] [1] rfl ?_
        exact tB_SW_release_29 K l v0 s3 _ h
  · have h := p_ifF b8 h
    refine g_aload_n (i := 0) (j := 1) (dk_SW_release 7 rfl) rfl rfl ?_
    refine g_iconst (dk_SW_release 8 rfl) (by decide) ?_
    obtain ⟨r30, s26, q27, h⟩ := p_bdE h
    have t28 := tF_SW_refuse K l v0 (-1) s3 _ q27
    refine g_callV (a := v0) (ci := 10) (q0 := (RX10, TX10, 9)) (As := [p_i (-1)]) (rest := []) [p_i r30] mt_SW_refuse rfl rfl tw_3_66 ts_0 tw_3_64 ⟨Nat.le_of_ble_eq_true rfl, Nat.le_of_ble_eq_true rfl⟩ rfl (Nat.le_of_ble_eq_true rfl) (dk_SW_release 9 rfl) rfl (c1.up hs6) rfl t28 ?_
    have hs29 : p_x s3 s26 := t28.1
    show p_Go K l m_SW_release 18 [(3, p_r r7), (0, p_r v0), (1, p_i v1), (2, p_i v2)] [p_i r30] s26 _
    cases h
    exact g_ret rfl rfl (dk_SW_release 10 rfl) (fun os => ⟨_, rfl, p_okh os⟩)
def m_Gear_isJammed : p_Me := (⟨"SortWorks$Gear", "isJammed", "()Z"⟩, prog_2_method_12_code, 1, (some .boolean), 2, 40)
theorem mt_Gear_isJammed : p_Mt m_Gear_isJammed 0 := ⟨p_mem (p_tb4 (List.mem_of_getElem? (i := 76) rfl)) rfl, tw_1_5, by decide +kernel, by decide +kernel, by decide +kernel⟩
def dt_Gear_isJammed : List (Nat × Instr × Nat) := [(0, .aload_n 0, 1), (1, .getfield 57, 3), (4, .bipush 8, 2), (6, .if_icmp .lt 14, 3), (9, .aload_n 0, 1), (10, .invokevirtual 111, 3), (13, .ifCond .eq 7, 3), (16, .iconst 1, 1), (17, .goto 4, 3), (20, .iconst 0, 1), (21, .ireturn, 1)]
theorem dk_Gear_isJammed (i : Nat) {pc : Nat} {ins : Instr} {len : Nat} (h : dt_Gear_isJammed[i]? = some (pc, ins, len)) : decode m_Gear_isJammed.2.1 pc = .ok (ins, len) := p_dk (b := m_Gear_isJammed.2.1) (t := dt_Gear_isJammed) (by decide +kernel) i h
def F_Gear_isJammed (v0 : Nat) (s0 : p_Hp) : Option (Int × p_Hp) :=
  p_gd (p_is s0 v0 0) <|
  if (p_Z s0 v0 8) < 8 then
    some (0, s0)
  else
    p_bd (F_Gear_isTaker v0 s0) fun r7 s3 =>
    if r7 = 0 then
      some (0, s3)
    else
      some (1, s3)
set_option maxRecDepth 100000 in
set_option maxHeartbeats 4000000 in
theorem tF_Gear_isJammed (K : p_K) (l : Launch) (v0 : Nat) (s0 : p_Hp) (r : (Int × p_Hp)) (h : F_Gear_isJammed v0 s0 = some r) : p_Ct K l m_Gear_isJammed [p_r v0] s0 (some (p_i r.1), r.2) := by
  refine p_Ct.of (by decide +kernel) (Nat.le_of_ble_eq_true rfl) ?_
  unfold F_Gear_isJammed at h
  show p_Go K l m_Gear_isJammed 0 [(0, p_r v0)] [] s0 _
  refine g_aload_n (i := 0) (j := 0) (dk_Gear_isJammed 0 rfl) rfl rfl ?_
  obtain ⟨c1, h⟩ := p_gdE h
  refine g_getI fl_Gear_57 (Or.inl rfl) (dk_Gear_isJammed 1 rfl) c1 ?_
  refine g_bipush (dk_Gear_isJammed 2 rfl) (by decide +kernel) (by decide) ?_
  refine g_icmp_lt 20 (dk_Gear_isJammed 3 rfl) (by decide) (fun b2 => ?_) (fun b2 => ?_)
  · have h := p_ifT b2 h
    refine g_iconst (dk_Gear_isJammed 9 rfl) (by decide) ?_
    cases h
    exact g_ret rfl rfl (dk_Gear_isJammed 10 rfl) (fun _ => ⟨_, rfl, Or.inl rfl⟩)
  · have h := p_ifF b2 h
    refine g_aload_n (i := 0) (j := 0) (dk_Gear_isJammed 4 rfl) rfl rfl ?_
    obtain ⟨r7, s3, q4, h⟩ := p_bdE h
    have t5 := tF_Gear_isTaker K l v0 s0 _ q4
    refine g_callV (a := v0) (ci := 0) (q0 := (RX0, TX0, 20)) (As := []) (rest := []) [p_i r7] mt_Gear_isTaker rfl rfl tw_3_142 tw_3_143 tw_4_77 ⟨Nat.le_of_ble_eq_true rfl, Nat.le_of_ble_eq_true rfl⟩ rfl (Nat.le_of_ble_eq_true rfl) (dk_Gear_isJammed 5 rfl) rfl c1 rfl t5 ?_
    have hs6 : p_x s0 s3 := t5.1
    show p_Go K l m_Gear_isJammed 13 [(0, p_r v0)] [p_i r7] s3 _
    refine g_if_eq 20 (dk_Gear_isJammed 6 rfl) (by decide) (fun b8 => ?_) (fun b8 => ?_)
    · have h := p_ifT b8 h
      refine g_iconst (dk_Gear_isJammed 9 rfl) (by decide) ?_
      cases h
      exact g_ret rfl rfl (dk_Gear_isJammed 10 rfl) (fun _ => ⟨_, rfl, Or.inl rfl⟩)
    · have h := p_ifF b8 h
      refine g_iconst (dk_Gear_isJammed 7 rfl) (by decide) ?_
      refine g_goto 21 (dk_Gear_isJammed 8 rfl) (by decide) ?_
      cases h
      exact g_ret rfl rfl (dk_Gear_isJammed 10 rfl) (fun _ => ⟨_, rfl, Or.inr rfl⟩)
def m_State_lift : p_Me := (⟨"SortWorks$State", "lift", "(LSortWorks$Parcel;)V"⟩, prog_9_method_10_code, 3, none, 0, 0)
theorem mt_State_lift : p_Mt m_State_lift 1 := ⟨p_mem (p_tb4 (List.mem_of_getElem? (i := 90) rfl)) rfl, tw_1_3, by decide +kernel, by decide +kernel, by decide +kernel⟩
def dt_State_lift : List (Nat × Instr × Nat) := [(0, .aload_n 0, 1), (1, .getfield 13, 3), (4, .aload_n 1, 1), (5, .getfield 77, 3), (8, .aaload, 1), (9, .astore_n 2, 1), (10, .aload_n 2, 1), (11, .getfield 79, 3), (14, .aload_n 1, 1), (15, .getfield 82, 3), (18, .iconst 0, 1), (19, .iastore, 1), (20, .aload_n 2, 1), (21, .dup, 1), (22, .getfield 116, 3), (25, .iconst 1, 1), (26, .iadd, 1), (27, .putfield 116, 3), (30, .return_, 1)]
theorem dk_State_lift (i : Nat) {pc : Nat} {ins : Instr} {len : Nat} (h : dt_State_lift[i]? = some (pc, ins, len)) : decode m_State_lift.2.1 pc = .ok (ins, len) := p_dk (b := m_State_lift.2.1) (t := dt_State_lift) (by decide +kernel) i h
def F_State_lift (v0 : Nat) (v1 : Nat) (s0 : p_Hp) : Option p_Hp :=
  p_gd (p_is s0 v0 7) <|
  p_gd (p_is s0 v1 4) <|
  p_gd (p_is s0 (p_R s0 v0 4) 105) <|
  p_gd ((0 : Int) ≤ (p_Z s0 v1 5) ∧ (p_Z s0 v1 5) < (p_L s0 (p_R s0 v0 4) : Int)) <|
  p_bi ((p_R s0 (p_R s0 v0 4) ((p_Z s0 v1 5) : Int).toNat)) fun x5 =>
  p_gd (p_is s0 x5 0) <|
  p_gd (p_is s0 (p_R s0 x5 17) 100) <|
  p_gd ((0 : Int) ≤ (p_Z s0 v1 6) ∧ (p_Z s0 v1 6) < (p_L s0 (p_R s0 x5 17) : Int)) <|
  p_bi (p_wZ s0 (p_R s0 x5 17) ((p_Z s0 v1 6) : Int).toNat 0) fun s9 =>
  p_bi (p_wZ s9 x5 11 (p_w ((p_Z s9 x5 11) + 1))) fun s11 =>
  some s11
set_option maxRecDepth 100000 in
set_option maxHeartbeats 4000000 in
theorem tF_State_lift (K : p_K) (l : Launch) (v0 : Nat) (v1 : Nat) (s0 : p_Hp) (r : p_Hp) (h : F_State_lift v0 v1 s0 = some r) : p_Ct K l m_State_lift [p_r v0, p_r v1] s0 (none, r) := by
  refine p_Ct.of (by decide +kernel) (Nat.le_of_ble_eq_true rfl) ?_
  unfold F_State_lift at h
  show p_Go K l m_State_lift 0 [(0, p_r v0), (1, p_r v1)] [] s0 _
  refine g_aload_n (i := 0) (j := 0) (dk_State_lift 0 rfl) rfl rfl ?_
  obtain ⟨c1, h⟩ := p_gdE h
  refine g_getR fl_State_13 (Or.inr ⟨_, rfl⟩) (dk_State_lift 1 rfl) c1 ?_
  refine g_aload_n (i := 1) (j := 1) (dk_State_lift 2 rfl) rfl rfl ?_
  obtain ⟨c2, h⟩ := p_gdE h
  refine g_getI fl_State_77 (Or.inl rfl) (dk_State_lift 3 rfl) c2 ?_
  obtain ⟨c3, h⟩ := p_gdE h
  obtain ⟨c4, h⟩ := p_gdE h
  refine g_aaload (i := 5) rfl (Or.inl ⟨_, rfl⟩) (dk_State_lift 4 rfl) c3 c4.1 c4.2 ?_
  refine g_astore_n (i := 2) [(2, p_r (p_R s0 (p_R s0 v0 4) ((p_Z s0 v1 5) : Int).toNat)), (0, p_r v0), (1, p_r v1)] (dk_State_lift 5 rfl) rfl (by decide) rfl ?_
  refine p_ltG (P := fun q => p_Go K l m_State_lift 10 [(2, p_r q), (0, p_r v0), (1, p_r v1)] [] s0 _) ?_ h
  intro x5 h
  refine g_aload_n (i := 2) (j := 0) (dk_State_lift 6 rfl) rfl rfl ?_
  obtain ⟨c6, h⟩ := p_gdE h
  refine g_getR fl_State_79 (Or.inr ⟨_, rfl⟩) (dk_State_lift 7 rfl) c6 ?_
  refine g_aload_n (i := 1) (j := 2) (dk_State_lift 8 rfl) rfl rfl ?_
  refine g_getI fl_State_82 (Or.inl rfl) (dk_State_lift 9 rfl) c2 ?_
  refine g_iconst (dk_State_lift 10 rfl) (by decide) ?_
  obtain ⟨c7, h⟩ := p_gdE h
  obtain ⟨c8, h⟩ := p_gdE h
  refine g_iastore (dk_State_lift 11 rfl) c7 c8.1 c8.2 ?_
  refine p_ltS (P := fun q => p_Go K l m_State_lift 20 [(2, p_r x5), (0, p_r v0), (1, p_r v1)] [] q _) (p_xZ _ _ _ _) ?_ h
  intro s9 hs10 h
  refine g_aload_n (i := 2) (j := 0) (dk_State_lift 12 rfl) rfl rfl ?_
  refine g_dup (dk_State_lift 13 rfl) rfl ?_
  refine g_getI fl_State_116 (Or.inl rfl) (dk_State_lift 14 rfl) (c6.up hs10) ?_
  refine g_iconst (dk_State_lift 15 rfl) (by decide) ?_
  refine g_iadd (dk_State_lift 16 rfl) ?_
  refine g_putI fl_State_116 (Or.inl rfl) (dk_State_lift 17 rfl) (c6.up hs10) ?_
  refine p_ltS (P := fun q => p_Go K l m_State_lift 30 [(2, p_r x5), (0, p_r v0), (1, p_r v1)] [] q _) (p_xZ _ _ _ _) ?_ h
  intro s11 hs12 h
  cases h
  exact g_ret rfl rfl (dk_State_lift 18 rfl) (fun _ => rfl)
def m_State_carryOver : p_Me := (⟨"SortWorks$State", "carryOver", "(LSortWorks$Parcel;I)V"⟩, prog_9_method_9_code, 3, none, 1, 23)
theorem mt_State_carryOver : p_Mt m_State_carryOver 2 := ⟨p_mem (p_tb4 (List.mem_of_getElem? (i := 86) rfl)) rfl, tw_1_3, by decide +kernel, by decide +kernel, by decide +kernel⟩
def dt_State_carryOver : List (Nat × Instr × Nat) := [(0, .aload_n 0, 1), (1, .aload_n 1, 1), (2, .invokevirtual 112, 3), (5, .aload_n 0, 1), (6, .aload_n 1, 1), (7, .iload_n 2, 1), (8, .invokevirtual 108, 3), (11, .return_, 1)]
theorem dk_State_carryOver (i : Nat) {pc : Nat} {ins : Instr} {len : Nat} (h : dt_State_carryOver[i]? = some (pc, ins, len)) : decode m_State_carryOver.2.1 pc = .ok (ins, len) := p_dk (b := m_State_carryOver.2.1) (t := dt_State_carryOver) (by decide +kernel) i h
def F_State_carryOver (v0 : Nat) (v1 : Nat) (v2 : Int) (s0 : p_Hp) : Option p_Hp :=
  p_gd (p_is s0 v0 7) <|
  p_bv (F_State_lift v0 v1 s0) fun s2 =>
  p_bv (F_State_setDown v0 v1 v2 s2) fun s6 =>
  some s6
set_option maxRecDepth 100000 in
set_option maxHeartbeats 4000000 in
theorem tF_State_carryOver (K : p_K) (l : Launch) (v0 : Nat) (v1 : Nat) (v2 : Int) (s0 : p_Hp) (r : p_Hp) (h : F_State_carryOver v0 v1 v2 s0 = some r) : p_Ct K l m_State_carryOver [p_r v0, p_r v1, p_i v2] s0 (none, r) := by
  refine p_Ct.of (by decide +kernel) (Nat.le_of_ble_eq_true rfl) ?_
  unfold F_State_carryOver at h
  show p_Go K l m_State_carryOver 0 [(0, p_r v0), (1, p_r v1), (2, p_i v2)] [] s0 _
  refine g_aload_n (i := 0) (j := 0) (dk_State_carryOver 0 rfl) rfl rfl ?_
  refine g_aload_n (i := 1) (j := 1) (dk_State_carryOver 1 rfl) rfl rfl ?_
  obtain ⟨c1, h⟩ := p_gdE h
  obtain ⟨s2, q3, h⟩ := p_bvE h
  have t4 := tF_State_lift K l v0 v1 s0 _ q3
  refine g_callV (a := v0) (ci := 7) (q0 := (RX7, TX7, 10)) (As := [p_r v1]) (rest := []) [] mt_State_lift rfl rfl tw_4_88 tw_4_89 tw_4_87 ⟨Nat.le_of_ble_eq_true rfl, Nat.le_of_ble_eq_true rfl⟩ rfl (Nat.le_of_ble_eq_true rfl) (dk_State_carryOver 2 rfl) rfl c1 rfl t4 ?_
  have hs5 : p_x s0 s2 := t4.1
  show p_Go K l m_State_carryOver 5 [(0, p_r v0), (1, p_r v1), (2, p_i v2)] [] s2 _
  refine g_aload_n (i := 0) (j := 0) (dk_State_carryOver 3 rfl) rfl rfl ?_
  refine g_aload_n (i := 1) (j := 1) (dk_State_carryOver 4 rfl) rfl rfl ?_
  refine g_iload_n (i := 2) (j := 2) (dk_State_carryOver 5 rfl) rfl rfl ?_
  obtain ⟨s6, q7, h⟩ := p_bvE h
  have t8 := tF_State_setDown K l v0 v1 v2 s2 _ q7
  refine g_callV (a := v0) (ci := 7) (q0 := (RX7, TX7, 10)) (As := [p_r v1, p_i v2]) (rest := []) [] mt_State_setDown rfl rfl tw_4_19 ts_11 tw_4_17 ⟨Nat.le_of_ble_eq_true rfl, Nat.le_of_ble_eq_true rfl⟩ rfl (Nat.le_of_ble_eq_true rfl) (dk_State_carryOver 6 rfl) rfl (c1.up hs5) rfl t8 ?_
  have hs9 : p_x s2 s6 := t8.1
  show p_Go K l m_State_carryOver 11 [(0, p_r v0), (1, p_r v1), (2, p_i v2)] [] s6 _
  cases h
  exact g_ret rfl rfl (dk_State_carryOver 7 rfl) (fun _ => rfl)
def m_State_inSlot : p_Me := (⟨"SortWorks$State", "inSlot", "(LSortWorks$Gear;I)LSortWorks$Parcel;"⟩, prog_9_method_6_code, 3, (some (.object "SortWorks$Parcel")), 0, 0)
theorem mt_State_inSlot : p_Mt m_State_inSlot 2 := ⟨p_mem (p_tb4 (List.mem_of_getElem? (i := 72) rfl)) rfl, tw_1_3, by decide +kernel, by decide +kernel, by decide +kernel⟩
def dt_State_inSlot : List (Nat × Instr × Nat) := [(0, .aload_n 1, 1), (1, .getfield 79, 3), (4, .iload_n 2, 1), (5, .iaload, 1), (6, .ifCond .ne 7, 3), (9, .aconst_null, 1), (10, .goto 14, 3), (13, .aload_n 0, 1), (14, .getfield 19, 3), (17, .aload_n 1, 1), (18, .getfield 79, 3), (21, .iload_n 2, 1), (22, .iaload, 1), (23, .aaload, 1), (24, .areturn, 1)]
theorem dk_State_inSlot (i : Nat) {pc : Nat} {ins : Instr} {len : Nat} (h : dt_State_inSlot[i]? = some (pc, ins, len)) : decode m_State_inSlot.2.1 pc = .ok (ins, len) := p_dk (b := m_State_inSlot.2.1) (t := dt_State_inSlot) (by decide +kernel) i h
def F_State_inSlot (v0 : Nat) (v1 : Nat) (v2 : Int) (s0 : p_Hp) : Option (Nat × p_Hp) :=
  p_gd (p_is s0 v1 0) <|
  p_gd (p_is s0 (p_R s0 v1 17) 100) <|
  p_gd ((0 : Int) ≤ v2 ∧ v2 < (p_L s0 (p_R s0 v1 17) : Int)) <|
  if (p_Z s0 (p_R s0 v1 17) (v2 : Int).toNat) ≠ 0 then
    p_gd (p_is s0 v0 7) <|
    p_gd ((0 : Int) ≤ v2 ∧ v2 < (p_L s0 (p_R s0 v1 17) : Int)) <|
    p_gd (p_is s0 (p_R s0 v0 5) 106) <|
    p_gd ((0 : Int) ≤ (p_Z s0 (p_R s0 v1 17) (v2 : Int).toNat) ∧ (p_Z s0 (p_R s0 v1 17) (v2 : Int).toNat) < (p_L s0 (p_R s0 v0 5) : Int)) <|
    some ((p_R s0 (p_R s0 v0 5) ((p_Z s0 (p_R s0 v1 17) (v2 : Int).toNat) : Int).toNat), s0)
  else
    some (0, s0)
set_option maxRecDepth 100000 in
set_option maxHeartbeats 4000000 in
theorem tF_State_inSlot (K : p_K) (l : Launch) (v0 : Nat) (v1 : Nat) (v2 : Int) (s0 : p_Hp) (r : (Nat × p_Hp)) (h : F_State_inSlot v0 v1 v2 s0 = some r) : p_Ct K l m_State_inSlot [p_r v0, p_r v1, p_i v2] s0 (some (p_r r.1), r.2) := by
  refine p_Ct.of (by decide +kernel) (Nat.le_of_ble_eq_true rfl) ?_
  unfold F_State_inSlot at h
  show p_Go K l m_State_inSlot 0 [(0, p_r v0), (1, p_r v1), (2, p_i v2)] [] s0 _
  refine g_aload_n (i := 1) (j := 1) (dk_State_inSlot 0 rfl) rfl rfl ?_
  obtain ⟨c1, h⟩ := p_gdE h
  refine g_getR fl_State_79 (Or.inr ⟨_, rfl⟩) (dk_State_inSlot 1 rfl) c1 ?_
  refine g_iload_n (i := 2) (j := 2) (dk_State_inSlot 2 rfl) rfl rfl ?_
  obtain ⟨c2, h⟩ := p_gdE h
  obtain ⟨c3, h⟩ := p_gdE h
  refine g_iaload (dk_State_inSlot 3 rfl) c2 c3.1 c3.2 ?_
  refine g_if_ne 13 (dk_State_inSlot 4 rfl) (by decide) (fun b4 => ?_) (fun b4 => ?_)
  · have h := p_ifT b4 h
    refine g_aload_n (i := 0) (j := 0) (dk_State_inSlot 7 rfl) rfl rfl ?_
    obtain ⟨c5, h⟩ := p_gdE h
    refine g_getR fl_State_19 (Or.inr ⟨_, rfl⟩) (dk_State_inSlot 8 rfl) c5 ?_
    refine g_aload_n (i := 1) (j := 1) (dk_State_inSlot 9 rfl) rfl rfl ?_
    refine g_getR fl_State_79 (Or.inr ⟨_, rfl⟩) (dk_State_inSlot 10 rfl) c1 ?_
    refine g_iload_n (i := 2) (j := 2) (dk_State_inSlot 11 rfl) rfl rfl ?_
    obtain ⟨c6, h⟩ := p_gdE h
    refine g_iaload (dk_State_inSlot 12 rfl) c2 c6.1 c6.2 ?_
    obtain ⟨c7, h⟩ := p_gdE h
    obtain ⟨c8, h⟩ := p_gdE h
    refine g_aaload (i := 6) rfl (Or.inl ⟨_, rfl⟩) (dk_State_inSlot 13 rfl) c7 c8.1 c8.2 ?_
    cases h
    exact g_ret rfl rfl (dk_State_inSlot 14 rfl) (fun os => ⟨_, rfl⟩)
  · have h := p_ifF b4 h
    refine g_aconst_null (dk_State_inSlot 5 rfl) ?_
    refine g_goto 24 (dk_State_inSlot 6 rfl) (by decide) ?_
    cases h
    exact g_ret rfl rfl (dk_State_inSlot 14 rfl) (fun os => ⟨_, rfl⟩)
def m_State_inLastSlot : p_Me := (⟨"SortWorks$State", "inLastSlot", "(LSortWorks$Gear;)LSortWorks$Parcel;"⟩, prog_9_method_7_code, 2, (some (.object "SortWorks$Parcel")), 1, 22)
theorem mt_State_inLastSlot : p_Mt m_State_inLastSlot 1 := ⟨p_mem (p_tb4 (List.mem_of_getElem? (i := 68) rfl)) rfl, tw_1_3, by decide +kernel, by decide +kernel, by decide +kernel⟩
def dt_State_inLastSlot : List (Nat × Instr × Nat) := [(0, .aload_n 1, 1), (1, .getfield 86, 3), (4, .ifCond .ne 7, 3), (7, .aconst_null, 1), (8, .goto 14, 3), (11, .aload_n 0, 1), (12, .aload_n 1, 1), (13, .aload_n 1, 1), (14, .getfield 86, 3), (17, .iconst 1, 1), (18, .isub, 1), (19, .invokevirtual 89, 3), (22, .areturn, 1)]
theorem dk_State_inLastSlot (i : Nat) {pc : Nat} {ins : Instr} {len : Nat} (h : dt_State_inLastSlot[i]? = some (pc, ins, len)) : decode m_State_inLastSlot.2.1 pc = .ok (ins, len) := p_dk (b := m_State_inLastSlot.2.1) (t := dt_State_inLastSlot) (by decide +kernel) i h
def F_State_inLastSlot (v0 : Nat) (v1 : Nat) (s0 : p_Hp) : Option (Nat × p_Hp) :=
  p_gd (p_is s0 v1 0) <|
  if (p_Z s0 v1 1) ≠ 0 then
    p_gd (p_is s0 v0 7) <|
    p_bd (F_State_inSlot v0 v1 (p_w ((p_Z s0 v1 1) - 1)) s0) fun r8 s4 =>
    some (r8, s4)
  else
    some (0, s0)
set_option maxRecDepth 100000 in
set_option maxHeartbeats 4000000 in
theorem tF_State_inLastSlot (K : p_K) (l : Launch) (v0 : Nat) (v1 : Nat) (s0 : p_Hp) (r : (Nat × p_Hp)) (h : F_State_inLastSlot v0 v1 s0 = some r) : p_Ct K l m_State_inLastSlot [p_r v0, p_r v1] s0 (some (p_r r.1), r.2) := by
  refine p_Ct.of (by decide +kernel) (Nat.le_of_ble_eq_true rfl) ?_
  unfold F_State_inLastSlot at h
  show p_Go K l m_State_inLastSlot 0 [(0, p_r v0), (1, p_r v1)] [] s0 _
  refine g_aload_n (i := 1) (j := 1) (dk_State_inLastSlot 0 rfl) rfl rfl ?_
  obtain ⟨c1, h⟩ := p_gdE h
  refine g_getI fl_State_86 (Or.inl rfl) (dk_State_inLastSlot 1 rfl) c1 ?_
  refine g_if_ne 11 (dk_State_inLastSlot 2 rfl) (by decide) (fun b2 => ?_) (fun b2 => ?_)
  · have h := p_ifT b2 h
    refine g_aload_n (i := 0) (j := 0) (dk_State_inLastSlot 5 rfl) rfl rfl ?_
    refine g_aload_n (i := 1) (j := 1) (dk_State_inLastSlot 6 rfl) rfl rfl ?_
    refine g_aload_n (i := 1) (j := 1) (dk_State_inLastSlot 7 rfl) rfl rfl ?_
    refine g_getI fl_State_86 (Or.inl rfl) (dk_State_inLastSlot 8 rfl) c1 ?_
    refine g_iconst (dk_State_inLastSlot 9 rfl) (by decide) ?_
    refine g_isub (dk_State_inLastSlot 10 rfl) ?_
    obtain ⟨c3, h⟩ := p_gdE h
    obtain ⟨r8, s4, q5, h⟩ := p_bdE h
    have t6 := tF_State_inSlot K l v0 v1 (p_w ((p_Z s0 v1 1) - 1)) s0 _ q5
    refine g_callV (a := v0) (ci := 7) (q0 := (RX7, TX7, 10)) (As := [p_r v1, p_i (p_w ((p_Z s0 v1 1) - 1))]) (rest := []) [p_r r8] mt_State_inSlot rfl rfl tw_4_70 tw_4_71 tw_4_69 ⟨Nat.le_of_ble_eq_true rfl, Nat.le_of_ble_eq_true rfl⟩ rfl (Nat.le_of_ble_eq_true rfl) (dk_State_inLastSlot 11 rfl) rfl c3 rfl t6 ?_
    have hs7 : p_x s0 s4 := t6.1
    show p_Go K l m_State_inLastSlot 22 [(0, p_r v0), (1, p_r v1)] [p_r r8] s4 _
    cases h
    exact g_ret rfl rfl (dk_State_inLastSlot 12 rfl) (fun os => ⟨_, rfl⟩)
  · have h := p_ifF b2 h
    refine g_aconst_null (dk_State_inLastSlot 3 rfl) ?_
    refine g_goto 22 (dk_State_inLastSlot 4 rfl) (by decide) ?_
    cases h
    exact g_ret rfl rfl (dk_State_inLastSlot 12 rfl) (fun os => ⟨_, rfl⟩)
def m_Works_freeHoldBut : p_Me := (⟨"SortWorks$Works", "freeHoldBut", "(I)I"⟩, prog_11_method_8_code, 3, (some .int), 1, 20)
theorem mt_Works_freeHoldBut : p_Mt m_Works_freeHoldBut 1 := ⟨p_mem (p_tb4 (List.mem_of_getElem? (i := 81) rfl)) rfl, tw_1_2, by decide +kernel, by decide +kernel, by decide +kernel⟩
def dt_Works_freeHoldBut : List (Nat × Instr × Nat) := [(0, .iconst 0, 1), (1, .istore_n 2, 1), (2, .iload_n 2, 1), (3, .aload_n 0, 1), (4, .getfield 53, 3), (7, .if_icmp .ge 48, 3), (10, .iload_n 2, 1), (11, .iload_n 1, 1), (12, .if_icmp .eq 37, 3), (15, .aload_n 0, 1), (16, .getfield 12, 3), (19, .getfield 56, 3), (22, .iload_n 2, 1), (23, .aaload, 1), (24, .getfield 119, 3), (27, .bipush 8, 2), (29, .if_icmp .ne 20, 3), (32, .aload_n 0, 1), (33, .getfield 12, 3), (36, .getfield 56, 3), (39, .iload_n 2, 1), (40, .aaload, 1), (41, .invokevirtual 122, 3), (44, .ifCond .eq 5, 3), (47, .iload_n 2, 1), (48, .ireturn, 1), (49, .iinc 2 1, 3), (52, .goto (-50), 3), (55, .iconst (-1), 1), (56, .ireturn, 1)]
theorem dk_Works_freeHoldBut (i : Nat) {pc : Nat} {ins : Instr} {len : Nat} (h : dt_Works_freeHoldBut[i]? = some (pc, ins, len)) : decode m_Works_freeHoldBut.2.1 pc = .ok (ins, len) := p_dk (b := m_Works_freeHoldBut.2.1) (t := dt_Works_freeHoldBut) (by decide +kernel) i h
def B_Works_freeHoldBut_49 (k2 : Nat → Int → Int → p_Hp → Option (Int × p_Hp)) (v0 : Nat) (v1 : Int) (v2 : Int) (s0 : p_Hp) : Option (Int × p_Hp) :=
  p_bi (p_w (v2 + 1)) fun x1 =>
  k2 v0 v1 x1 s0
def L_Works_freeHoldBut_2 (k2 : Nat → Int → Int → p_Hp → Option (Int × p_Hp)) (v0 : Nat) (v1 : Int) (v2 : Int) (s0 : p_Hp) : Option (Int × p_Hp) :=
  p_gd (p_is s0 v0 9) <|
  if (p_Z s0 v0 2) ≤ v2 then
    some ((-1), s0)
  else
    if v2 = v1 then
      B_Works_freeHoldBut_49 k2 v0 v1 v2 s0
    else
      p_gd (p_is s0 (p_R s0 v0 1) 7) <|
      p_gd (p_is s0 (p_R s0 (p_R s0 v0 1) 4) 105) <|
      p_gd ((0 : Int) ≤ v2 ∧ v2 < (p_L s0 (p_R s0 (p_R s0 v0 1) 4) : Int)) <|
      p_gd (p_is s0 (p_R s0 (p_R s0 (p_R s0 v0 1) 4) (v2 : Int).toNat) 0) <|
      if (p_Z s0 (p_R s0 (p_R s0 (p_R s0 v0 1) 4) (v2 : Int).toNat) 0) ≠ 8 then
        B_Works_freeHoldBut_49 k2 v0 v1 v2 s0
      else
        p_gd ((0 : Int) ≤ v2 ∧ v2 < (p_L s0 (p_R s0 (p_R s0 v0 1) 4) : Int)) <|
        p_bd (F_Gear_isFreeAtStart (p_R s0 (p_R s0 (p_R s0 v0 1) 4) (v2 : Int).toNat) s0) fun r14 s10 =>
        if r14 = 0 then
          B_Works_freeHoldBut_49 k2 v0 v1 v2 s10
        else
          some (v2, s10)
def O_Works_freeHoldBut_2  : Nat → Nat → Int → Int → p_Hp → Option (Int × p_Hp)
  | 0 => fun _ _ _ _ => none
  | n + 1 => L_Works_freeHoldBut_2 (O_Works_freeHoldBut_2 n)
def F_Works_freeHoldBut (v0 : Nat) (v1 : Int) (s0 : p_Hp) : Option (Int × p_Hp) :=
  O_Works_freeHoldBut_2 3000 v0 v1 0 s0
set_option maxRecDepth 100000 in
set_option maxHeartbeats 4000000 in
theorem tB_Works_freeHoldBut_49 (K : p_K) (l : Launch) (k2 : Nat → Int → Int → p_Hp → Option (Int × p_Hp)) (hk2 : ∀ (v0 : Nat) (v1 : Int) (v2 : Int)  (s0 : p_Hp) (r : (Int × p_Hp)), k2 v0 v1 v2 s0 = some r → p_Go K l m_Works_freeHoldBut 2 [(0, p_r v0), (1, p_i v1), (2, p_i v2)] [] s0 (some (p_i r.1), r.2)) (v0 : Nat) (v1 : Int) (v2 : Int) (s0 : p_Hp) (r : (Int × p_Hp)) (h : B_Works_freeHoldBut_49 k2 v0 v1 v2 s0 = some r) : p_Go K l m_Works_freeHoldBut 49 [(0, p_r v0), (1, p_i v1), (2, p_i v2)] [] s0 (some (p_i r.1), r.2) := by
  unfold B_Works_freeHoldBut_49 at h
  refine g_iinc (j := 2) [(2, p_i (p_w (v2 + 1))), (0, p_r v0), (1, p_i v1)] (dk_Works_freeHoldBut 26 rfl) rfl (by decide) rfl ?_
  refine p_ltG (P := fun q => p_Go K l m_Works_freeHoldBut 52 [(2, p_i q), (0, p_r v0), (1, p_i v1)] [] s0 _) ?_ h
  intro x1 h
  refine g_goto 2 (dk_Works_freeHoldBut 27 rfl) (by decide) ?_
  refine g_sub [(0, p_r v0), (1, p_i v1), (2, p_i x1)] [1, 2, 0] rfl ?_
  exact hk2 v0 v1 x1 s0 _ h
set_option maxRecDepth 100000 in
set_option maxHeartbeats 4000000 in
theorem tL_Works_freeHoldBut_2 (K : p_K) (l : Launch) (k2 : Nat → Int → Int → p_Hp → Option (Int × p_Hp)) (hk2 : ∀ (v0 : Nat) (v1 : Int) (v2 : Int)  (s0 : p_Hp) (r : (Int × p_Hp)), k2 v0 v1 v2 s0 = some r → p_Go K l m_Works_freeHoldBut 2 [(0, p_r v0), (1, p_i v1), (2, p_i v2)] [] s0 (some (p_i r.1), r.2)) (v0 : Nat) (v1 : Int) (v2 : Int) (s0 : p_Hp) (r : (Int × p_Hp)) (h : L_Works_freeHoldBut_2 k2 v0 v1 v2 s0 = some r) : p_Go K l m_Works_freeHoldBut 2 [(0, p_r v0), (1, p_i v1), (2, p_i v2)] [] s0 (some (p_i r.1), r.2) := by
  unfold L_Works_freeHoldBut_2 at h
  refine g_iload_n (i := 2) (j := 2) (dk_Works_freeHoldBut 2 rfl) rfl rfl ?_
  refine g_aload_n (i := 0) (j := 0) (dk_Works_freeHoldBut 3 rfl) rfl rfl ?_
  obtain ⟨c1, h⟩ := p_gdE h
  refine g_getI fl_Works_53 (Or.inl rfl) (dk_Works_freeHoldBut 4 rfl) c1 ?_
  refine g_icmp_ge 55 (dk_Works_freeHoldBut 5 rfl) (by decide) (fun b2 => ?_) (fun b2 => ?_)
  · have h := p_ifT b2 h
    refine g_iconst (dk_Works_freeHoldBut 28 rfl) (by decide) ?_
    cases h
    exact g_ret rfl rfl (dk_Works_freeHoldBut 29 rfl) (fun os => ⟨_, rfl, p_okh os⟩)
  · have h := p_ifF b2 h
    refine g_iload_n (i := 2) (j := 2) (dk_Works_freeHoldBut 6 rfl) rfl rfl ?_
    refine g_iload_n (i := 1) (j := 1) (dk_Works_freeHoldBut 7 rfl) rfl rfl ?_
    refine g_icmp_eq 49 (dk_Works_freeHoldBut 8 rfl) (by decide) (fun b3 => ?_) (fun b3 => ?_)
    · have h := p_ifT b3 h
      exact tB_Works_freeHoldBut_49 K l k2 hk2 v0 v1 v2 s0 _ h
    · have h := p_ifF b3 h
      refine g_aload_n (i := 0) (j := 0) (dk_Works_freeHoldBut 9 rfl) rfl rfl ?_
      refine g_getR fl_Works_12 (Or.inl ⟨_, rfl⟩) (dk_Works_freeHoldBut 10 rfl) c1 ?_
      obtain ⟨c4, h⟩ := p_gdE h
      refine g_getR fl_Works_56 (Or.inr ⟨_, rfl⟩) (dk_Works_freeHoldBut 11 rfl) c4 ?_
      refine g_iload_n (i := 2) (j := 2) (dk_Works_freeHoldBut 12 rfl) rfl rfl ?_
      obtain ⟨c5, h⟩ := p_gdE h
      obtain ⟨c6, h⟩ := p_gdE h
      refine g_aaload (i := 5) rfl (Or.inl ⟨_, rfl⟩) (dk_Works_freeHoldBut 13 rfl) c5 c6.1 c6.2 ?_
      obtain ⟨c7, h⟩ := p_gdE h
      refine g_getI fl_Works_119 (Or.inl rfl) (dk_Works_freeHoldBut 14 rfl) c7 ?_
      refine g_bipush (dk_Works_freeHoldBut 15 rfl) (by decide +kernel) (by decide) ?_
      refine g_icmp_ne 49 (dk_Works_freeHoldBut 16 rfl) (by decide) (fun b8 => ?_) (fun b8 => ?_)
      · have h := p_ifT b8 h
        exact tB_Works_freeHoldBut_49 K l k2 hk2 v0 v1 v2 s0 _ h
      · have h := p_ifF b8 h
        refine g_aload_n (i := 0) (j := 0) (dk_Works_freeHoldBut 17 rfl) rfl rfl ?_
        refine g_getR fl_Works_12 (Or.inl ⟨_, rfl⟩) (dk_Works_freeHoldBut 18 rfl) c1 ?_
        refine g_getR fl_Works_56 (Or.inr ⟨_, rfl⟩) (dk_Works_freeHoldBut 19 rfl) c4 ?_
        refine g_iload_n (i := 2) (j := 2) (dk_Works_freeHoldBut 20 rfl) rfl rfl ?_
        obtain ⟨c9, h⟩ := p_gdE h
        refine g_aaload (i := 5) rfl (Or.inl ⟨_, rfl⟩) (dk_Works_freeHoldBut 21 rfl) c5 c9.1 c9.2 ?_
        obtain ⟨r14, s10, q11, h⟩ := p_bdE h
        have t12 := tF_Gear_isFreeAtStart K l (p_R s0 (p_R s0 (p_R s0 v0 1) 4) (v2 : Int).toNat) s0 _ q11
        refine g_callV (a := (p_R s0 (p_R s0 (p_R s0 v0 1) 4) (v2 : Int).toNat)) (ci := 0) (q0 := (RX0, TX0, 20)) (As := []) (rest := []) [p_i r14] mt_Gear_isFreeAtStart rfl rfl tw_3_235 tw_3_236 tw_4_82 ⟨Nat.le_of_ble_eq_true rfl, Nat.le_of_ble_eq_true rfl⟩ rfl (Nat.le_of_ble_eq_true rfl) (dk_Works_freeHoldBut 22 rfl) rfl c7 rfl t12 ?_
        have hs13 : p_x s0 s10 := t12.1
        show p_Go K l m_Works_freeHoldBut 44 [(0, p_r v0), (1, p_i v1), (2, p_i v2)] [p_i r14] s10 _
        refine g_if_eq 49 (dk_Works_freeHoldBut 23 rfl) (by decide) (fun b15 => ?_) (fun b15 => ?_)
        · have h := p_ifT b15 h
          exact tB_Works_freeHoldBut_49 K l k2 hk2 v0 v1 v2 s10 _ h
        · have h := p_ifF b15 h
          refine g_iload_n (i := 2) (j := 2) (dk_Works_freeHoldBut 24 rfl) rfl rfl ?_
          cases h
          exact g_ret rfl rfl (dk_Works_freeHoldBut 25 rfl) (fun os => ⟨_, rfl, p_okh os⟩)
set_option maxRecDepth 100000 in
set_option maxHeartbeats 4000000 in
theorem tO_Works_freeHoldBut_2 (K : p_K) (l : Launch)  : ∀ (n : Nat) (v0 : Nat) (v1 : Int) (v2 : Int) (s0 : p_Hp) (r : (Int × p_Hp)), O_Works_freeHoldBut_2 n v0 v1 v2 s0 = some r → p_Go K l m_Works_freeHoldBut 2 [(0, p_r v0), (1, p_i v1), (2, p_i v2)] [] s0 (some (p_i r.1), r.2) := by
  intro n
  induction n with
  | zero => intro v0 v1 v2 s0 r h; cases (show (none : Option (Int × p_Hp)) = some r from h)
  | succ n ih => intro v0 v1 v2 s0 r h; exact tL_Works_freeHoldBut_2 K l _ ih v0 v1 v2 s0 r h
set_option maxRecDepth 100000 in
set_option maxHeartbeats 4000000 in
theorem tF_Works_freeHoldBut (K : p_K) (l : Launch) (v0 : Nat) (v1 : Int) (s0 : p_Hp) (r : (Int × p_Hp)) (h : F_Works_freeHoldBut v0 v1 s0 = some r) : p_Ct K l m_Works_freeHoldBut [p_r v0, p_i v1] s0 (some (p_i r.1), r.2) := by
  refine p_Ct.of (by decide +kernel) (Nat.le_of_ble_eq_true rfl) ?_
  unfold F_Works_freeHoldBut at h
  show p_Go K l m_Works_freeHoldBut 0 [(0, p_r v0), (1, p_i v1)] [] s0 _
  refine g_iconst (dk_Works_freeHoldBut 0 rfl) (by decide) ?_
  refine g_istore_n (i := 2) [(2, p_i 0), (0, p_r v0), (1, p_i v1)] (dk_Works_freeHoldBut 1 rfl) rfl (by decide) rfl ?_
  refine g_sub [(0, p_r v0), (1, p_i v1), (2, p_i 0)] [1, 2, 0] rfl ?_
  exact tO_Works_freeHoldBut_2 K l 3000 v0 v1 0 s0 _ h
def m_SW_clear : p_Me := (⟨"SortWorks", "clear", "(I)I"⟩, prog_1_method_24_code, 5, (some .int), 3, 60)
theorem mt_SW_clear : p_Mt m_SW_clear 1 := ⟨p_mem (p_tb4 (List.mem_of_getElem? (i := 64) rfl)) rfl, tw_1_1, by decide +kernel, by decide +kernel, by decide +kernel⟩
def dt_SW_clear : List (Nat × Instr × Nat) := [(0, .aload_n 0, 1), (1, .getfield 18, 3), (4, .iload_n 1, 1), (5, .invokevirtual 98, 3), (8, .astore_n 2, 1), (9, .aload_n 2, 1), (10, .ifnonnull 9, 3), (13, .aload_n 0, 1), (14, .iconst (-1), 1), (15, .invokevirtual 61, 3), (18, .ireturn, 1), (19, .aload_n 2, 1), (20, .invokevirtual 129, 3), (23, .ifCond .ne 10, 3), (26, .aload_n 0, 1), (27, .bipush (-12), 2), (29, .invokevirtual 61, 3), (32, .ireturn, 1), (33, .aload_n 0, 1), (34, .getfield 18, 3), (37, .getfield 77, 3), (40, .aload_n 2, 1), (41, .invokevirtual 227, 3), (44, .astore_n 3, 1), (45, .aload_n 2, 1), (46, .invokevirtual 231, 3), (49, .ifCond .eq 7, 3), (52, .aload_n 3, 1), (53, .ifnonnull 10, 3), (56, .aload_n 0, 1), (57, .bipush (-3), 2), (59, .invokevirtual 61, 3), (62, .ireturn, 1), (63, .aload_n 0, 1), (64, .getfield 18, 3), (67, .iload_n 1, 1), (68, .invokevirtual 234, 3), (71, .istore 4, 2), (73, .iload 4, 2), (75, .iconst (-1), 1), (76, .if_icmp .ne 10, 3), (79, .aload_n 0, 1), (80, .bipush (-4), 2), (82, .invokevirtual 61, 3), (85, .ireturn, 1), (86, .aload_n 0, 1), (87, .getfield 18, 3), (90, .getfield 77, 3), (93, .aload_n 3, 1), (94, .iload 4, 2), (96, .invokevirtual 237, 3), (99, .aload_n 3, 1), (100, .bipush (-8), 2), (102, .putfield 241, 3), (105, .aload_n 2, 1), (106, .iconst 0, 1), (107, .putfield 244, 3), (110, .aload_n 0, 1), (111, .iload 4, 2), (113, .invokevirtual 57, 3), (116, .ireturn, 1)]
theorem dk_SW_clear (i : Nat) {pc : Nat} {ins : Instr} {len : Nat} (h : dt_SW_clear[i]? = some (pc, ins, len)) : decode m_SW_clear.2.1 pc = .ok (ins, len) := p_dk (b := m_SW_clear.2.1) (t := dt_SW_clear) (by decide +kernel) i h
def B_SW_clear_56  (v0 : Nat) (s0 : p_Hp) : Option (Int × p_Hp) :=
  p_gd (p_is s0 v0 10) <|
  p_bd (F_SW_refuse v0 (-3) s0) fun r6 s2 =>
  some (r6, s2)
def F_SW_clear (v0 : Nat) (v1 : Int) (s0 : p_Hp) : Option (Int × p_Hp) :=
  p_gd (p_is s0 v0 10) <|
  p_gd (p_is s0 (p_R s0 v0 1) 9) <|
  p_bd (F_Works_gearOf (p_R s0 v0 1) v1 s0) fun r7 s3 =>
  if r7 ≠ 0 then
    p_gd (p_is s3 r7 0) <|
    p_bd (F_Gear_isTaker r7 s3) fun r14 s10 =>
    if r14 ≠ 0 then
      p_gd (p_is s10 (p_R s10 v0 1) 9) <|
      p_gd (p_is s10 (p_R s10 (p_R s10 v0 1) 1) 7) <|
      p_bd (F_State_inLastSlot (p_R s10 (p_R s10 v0 1) 1) r7 s10) fun r22 s18 =>
      p_bd (F_Gear_isJammed r7 s18) fun r27 s23 =>
      if r27 = 0 then
        B_SW_clear_56 v0 s23
      else
        if r22 ≠ 0 then
          p_gd (p_is s23 (p_R s23 v0 1) 9) <|
          p_bd (F_Works_freeHoldBut (p_R s23 v0 1) v1 s23) fun r35 s31 =>
          if r35 ≠ (-1) then
            p_gd (p_is s31 (p_R s31 v0 1) 9) <|
            p_gd (p_is s31 (p_R s31 (p_R s31 v0 1) 1) 7) <|
            p_bv (F_State_carryOver (p_R s31 (p_R s31 v0 1) 1) r22 r35 s31) fun s39 =>
            p_gd (p_is s39 r22 4) <|
            p_bi (p_wZ s39 r22 4 (-8)) fun s44 =>
            p_bi (p_wZ s44 r7 8 0) fun s46 =>
            p_bd (F_SW_done v0 r35 s46) fun r52 s48 =>
            some (r52, s48)
          else
            p_bd (F_SW_refuse v0 (-4) s31) fun r57 s53 =>
            some (r57, s53)
        else
          B_SW_clear_56 v0 s23
    else
      p_bd (F_SW_refuse v0 (-12) s10) fun r62 s58 =>
      some (r62, s58)
  else
    p_bd (F_SW_refuse v0 (-1) s3) fun r67 s63 =>
    some (r67, s63)
set_option maxRecDepth 100000 in
set_option maxHeartbeats 4000000 in
theorem tB_SW_clear_56 (K : p_K) (l : Launch)  (v0 : Nat) (s0 : p_Hp) (r : (Int × p_Hp)) (h : B_SW_clear_56 v0 s0 = some r) : p_Go K l m_SW_clear 56 [(0, p_r v0)] [] s0 (some (p_i r.1), r.2) := by
  unfold B_SW_clear_56 at h
  refine g_aload_n (i := 0) (j := 0) (dk_SW_clear 29 rfl) rfl rfl ?_
  refine g_bipush (dk_SW_clear 30 rfl) (by decide +kernel) (by decide) ?_
  obtain ⟨c1, h⟩ := p_gdE h
  obtain ⟨r6, s2, q3, h⟩ := p_bdE h
  have t4 := tF_SW_refuse K l v0 (-3) s0 _ q3
  refine g_callV (a := v0) (ci := 10) (q0 := (RX10, TX10, 9)) (As := [p_i (-3)]) (rest := []) [p_i r6] mt_SW_refuse rfl rfl tw_3_66 ts_0 tw_3_64 ⟨Nat.le_of_ble_eq_true rfl, Nat.le_of_ble_eq_true rfl⟩ rfl (Nat.le_of_ble_eq_true rfl) (dk_SW_clear 31 rfl) rfl c1 rfl t4 ?_
  have hs5 : p_x s0 s2 := t4.1
  show p_Go K l m_SW_clear 62 [(0, p_r v0)] [p_i r6] s2 _
  cases h
  exact g_ret rfl rfl (dk_SW_clear 32 rfl) (fun os => ⟨_, rfl, p_okh os⟩)
set_option maxRecDepth 100000 in
set_option maxHeartbeats 4000000 in
theorem tF_SW_clear (K : p_K) (l : Launch) (v0 : Nat) (v1 : Int) (s0 : p_Hp) (r : (Int × p_Hp)) (h : F_SW_clear v0 v1 s0 = some r) : p_Ct K l m_SW_clear [p_r v0, p_i v1] s0 (some (p_i r.1), r.2) := by
  refine p_Ct.of (by decide +kernel) (Nat.le_of_ble_eq_true rfl) ?_
  unfold F_SW_clear at h
  show p_Go K l m_SW_clear 0 [(0, p_r v0), (1, p_i v1)] [] s0 _
  refine g_aload_n (i := 0) (j := 0) (dk_SW_clear 0 rfl) rfl rfl ?_
  obtain ⟨c1, h⟩ := p_gdE h
  refine g_getR fl_SW_18 (Or.inl ⟨_, rfl⟩) (dk_SW_clear 1 rfl) c1 ?_
  refine g_iload_n (i := 1) (j := 1) (dk_SW_clear 2 rfl) rfl rfl ?_
  obtain ⟨c2, h⟩ := p_gdE h
  obtain ⟨r7, s3, q4, h⟩ := p_bdE h
  have t5 := tF_Works_gearOf K l (p_R s0 v0 1) v1 s0 _ q4
  refine g_callV (a := (p_R s0 v0 1)) (ci := 9) (q0 := (RX9, TX9, 15)) (As := [p_i v1]) (rest := []) [p_r r7] mt_Works_gearOf rfl rfl tw_3_104 tw_3_105 tw_3_103 ⟨Nat.le_of_ble_eq_true rfl, Nat.le_of_ble_eq_true rfl⟩ rfl (Nat.le_of_ble_eq_true rfl) (dk_SW_clear 3 rfl) rfl c2 rfl t5 ?_
  have hs6 : p_x s0 s3 := t5.1
  show p_Go K l m_SW_clear 8 [(0, p_r v0), (1, p_i v1)] [p_r r7] s3 _
  refine g_astore_n (i := 2) [(2, p_r r7), (0, p_r v0), (1, p_i v1)] (dk_SW_clear 4 rfl) rfl (by decide) rfl ?_
  refine g_aload_n (i := 2) (j := 0) (dk_SW_clear 5 rfl) rfl rfl ?_
  refine g_ifnonnull 19 (dk_SW_clear 6 rfl) (by decide) (fun b8 => ?_) (fun b8 => ?_)
  · have h := p_ifT b8 h
    refine g_aload_n (i := 2) (j := 0) (dk_SW_clear 11 rfl) rfl rfl ?_
    obtain ⟨c9, h⟩ := p_gdE h
    obtain ⟨r14, s10, q11, h⟩ := p_bdE h
    have t12 := tF_Gear_isTaker K l r7 s3 _ q11
    refine g_callV (a := r7) (ci := 0) (q0 := (RX0, TX0, 20)) (As := []) (rest := []) [p_i r14] mt_Gear_isTaker rfl rfl tw_3_142 tw_3_143 tw_3_141 ⟨Nat.le_of_ble_eq_true rfl, Nat.le_of_ble_eq_true rfl⟩ rfl (Nat.le_of_ble_eq_true rfl) (dk_SW_clear 12 rfl) rfl c9 rfl t12 ?_
    have hs13 : p_x s3 s10 := t12.1
    show p_Go K l m_SW_clear 23 [(2, p_r r7), (0, p_r v0), (1, p_i v1)] [p_i r14] s10 _
    refine g_if_ne 33 (dk_SW_clear 13 rfl) (by decide) (fun b15 => ?_) (fun b15 => ?_)
    · have h := p_ifT b15 h
      refine g_aload_n (i := 0) (j := 1) (dk_SW_clear 18 rfl) rfl rfl ?_
      refine g_getR fl_SW_18 (Or.inl ⟨_, rfl⟩) (dk_SW_clear 19 rfl) (c1.up (hs6.trans hs13)) ?_
      obtain ⟨c16, h⟩ := p_gdE h
      refine g_getR fl_SW_77 (Or.inl ⟨_, rfl⟩) (dk_SW_clear 20 rfl) c16 ?_
      refine g_aload_n (i := 2) (j := 0) (dk_SW_clear 21 rfl) rfl rfl ?_
      obtain ⟨c17, h⟩ := p_gdE h
      obtain ⟨r22, s18, q19, h⟩ := p_bdE h
      have t20 := tF_State_inLastSlot K l (p_R s10 (p_R s10 v0 1) 1) r7 s10 _ q19
      refine g_callV (a := (p_R s10 (p_R s10 v0 1) 1)) (ci := 7) (q0 := (RX7, TX7, 10)) (As := [p_r r7]) (rest := []) [p_r r22] mt_State_inLastSlot rfl rfl tw_4_66 tw_4_67 tw_4_65 ⟨Nat.le_of_ble_eq_true rfl, Nat.le_of_ble_eq_true rfl⟩ rfl (Nat.le_of_ble_eq_true rfl) (dk_SW_clear 22 rfl) rfl c17 rfl t20 ?_
      have hs21 : p_x s10 s18 := t20.1
      show p_Go K l m_SW_clear 44 [(2, p_r r7), (0, p_r v0), (1, p_i v1)] [p_r r22] s18 _
      refine g_astore_n (i := 3) [(3, p_r r22), (2, p_r r7), (0, p_r v0), (1, p_i v1)] (dk_SW_clear 23 rfl) rfl (by decide) rfl ?_
      refine g_aload_n (i := 2) (j := 1) (dk_SW_clear 24 rfl) rfl rfl ?_
      obtain ⟨r27, s23, q24, h⟩ := p_bdE h
      have t25 := tF_Gear_isJammed K l r7 s18 _ q24
      refine g_callV (a := r7) (ci := 0) (q0 := (RX0, TX0, 20)) (As := []) (rest := []) [p_i r27] mt_Gear_isJammed rfl rfl tw_4_74 tw_4_75 tw_4_73 ⟨Nat.le_of_ble_eq_true rfl, Nat.le_of_ble_eq_true rfl⟩ rfl (Nat.le_of_ble_eq_true rfl) (dk_SW_clear 25 rfl) rfl (c9.up (hs13.trans hs21)) rfl t25 ?_
      have hs26 : p_x s18 s23 := t25.1
      show p_Go K l m_SW_clear 49 [(3, p_r r22), (2, p_r r7), (0, p_r v0), (1, p_i v1)] [p_i r27] s23 _
      refine g_if_eq 56 (dk_SW_clear 26 rfl) (by decide) (fun b28 => ?_) (fun b28 => ?_)
      · have h := p_ifT b28 h
        refine g_sub [(0, p_r v0)] [2] rfl ?_
        exact tB_SW_clear_56 K l v0 s23 _ h
      · have h := p_ifF b28 h
        refine g_aload_n (i := 3) (j := 0) (dk_SW_clear 27 rfl) rfl rfl ?_
        refine g_ifnonnull 63 (dk_SW_clear 28 rfl) (by decide) (fun b29 => ?_) (fun b29 => ?_)
        · have h := p_ifT b29 h
          refine g_aload_n (i := 0) (j := 2) (dk_SW_clear 33 rfl) rfl rfl ?_
          refine g_getR fl_SW_18 (Or.inl ⟨_, rfl⟩) (dk_SW_clear 34 rfl) (c1.up (hs6.trans (hs13.trans (hs21.trans hs26)))) ?_
          refine g_iload_n (i := 1) (j := 3) (dk_SW_clear 35 rfl) rfl rfl ?_
          obtain ⟨c30, h⟩ := p_gdE h
          obtain ⟨r35, s31, q32, h⟩ := p_bdE h
          have t33 := tF_Works_freeHoldBut K l (p_R s23 v0 1) v1 s23 _ q32
          refine g_callV (a := (p_R s23 v0 1)) (ci := 9) (q0 := (RX9, TX9, 15)) (As := [p_i v1]) (rest := []) [p_i r35] mt_Works_freeHoldBut rfl rfl tw_4_79 tw_4_80 tw_4_78 ⟨Nat.le_of_ble_eq_true rfl, Nat.le_of_ble_eq_true rfl⟩ rfl (Nat.le_of_ble_eq_true rfl) (dk_SW_clear 36 rfl) rfl c30 rfl t33 ?_
          have hs34 : p_x s23 s31 := t33.1
          show p_Go K l m_SW_clear 71 [(3, p_r r22), (2, p_r r7), (0, p_r v0), (1, p_i v1)] [p_i r35] s31 _
          refine g_istore [(4, p_i r35), (3, p_r r22), (2, p_r r7), (0, p_r v0), (1, p_i v1)] (dk_SW_clear 37 rfl) (by decide) rfl ?_
          refine g_iload (j := 0) (dk_SW_clear 38 rfl) rfl ?_
          refine g_iconst (dk_SW_clear 39 rfl) (by decide) ?_
          refine g_icmp_ne 86 (dk_SW_clear 40 rfl) (by decide) (fun b36 => ?_) (fun b36 => ?_)
          · have h := p_ifT b36 h
            refine g_aload_n (i := 0) (j := 3) (dk_SW_clear 45 rfl) rfl rfl ?_
            refine g_getR fl_SW_18 (Or.inl ⟨_, rfl⟩) (dk_SW_clear 46 rfl) (c1.up (hs6.trans (hs13.trans (hs21.trans (hs26.trans hs34))))) ?_
            obtain ⟨c37, h⟩ := p_gdE h
            refine g_getR fl_SW_77 (Or.inl ⟨_, rfl⟩) (dk_SW_clear 47 rfl) c37 ?_
            refine g_aload_n (i := 3) (j := 1) (dk_SW_clear 48 rfl) rfl rfl ?_
            refine g_iload (j := 0) (dk_SW_clear 49 rfl) rfl ?_
            obtain ⟨c38, h⟩ := p_gdE h
            obtain ⟨s39, q40, h⟩ := p_bvE h
            have t41 := tF_State_carryOver K l (p_R s31 (p_R s31 v0 1) 1) r22 r35 s31 _ q40
            refine g_callV (a := (p_R s31 (p_R s31 v0 1) 1)) (ci := 7) (q0 := (RX7, TX7, 10)) (As := [p_r r22, p_i r35]) (rest := []) [] mt_State_carryOver rfl rfl tw_4_84 tw_4_85 tw_4_83 ⟨Nat.le_of_ble_eq_true rfl, Nat.le_of_ble_eq_true rfl⟩ rfl (Nat.le_of_ble_eq_true rfl) (dk_SW_clear 50 rfl) rfl c38 rfl t41 ?_
            have hs42 : p_x s31 s39 := t41.1
            show p_Go K l m_SW_clear 99 [(4, p_i r35), (3, p_r r22), (2, p_r r7), (0, p_r v0), (1, p_i v1)] [] s39 _
            refine g_aload_n (i := 3) (j := 1) (dk_SW_clear 51 rfl) rfl rfl ?_
            refine g_bipush (dk_SW_clear 52 rfl) (by decide +kernel) (by decide) ?_
            obtain ⟨c43, h⟩ := p_gdE h
            refine g_putI fl_SW_241 (Or.inl rfl) (dk_SW_clear 53 rfl) c43 ?_
            refine p_ltS (P := fun q => p_Go K l m_SW_clear 105 [(4, p_i r35), (3, p_r r22), (2, p_r r7), (0, p_r v0), (1, p_i v1)] [] q _) (p_xZ _ _ _ _) ?_ h
            intro s44 hs45 h
            refine g_aload_n (i := 2) (j := 2) (dk_SW_clear 54 rfl) rfl rfl ?_
            refine g_iconst (dk_SW_clear 55 rfl) (by decide) ?_
            refine g_putI fl_SW_244 (Or.inl rfl) (dk_SW_clear 56 rfl) (c9.up (hs13.trans (hs21.trans (hs26.trans (hs34.trans (hs42.trans hs45)))))) ?_
            refine p_ltS (P := fun q => p_Go K l m_SW_clear 110 [(4, p_i r35), (3, p_r r22), (2, p_r r7), (0, p_r v0), (1, p_i v1)] [] q _) (p_xZ _ _ _ _) ?_ h
            intro s46 hs47 h
            refine g_aload_n (i := 0) (j := 3) (dk_SW_clear 57 rfl) rfl rfl ?_
            refine g_iload (j := 0) (dk_SW_clear 58 rfl) rfl ?_
            obtain ⟨r52, s48, q49, h⟩ := p_bdE h
            have t50 := tF_SW_done K l v0 r35 s46 _ q49
            refine g_callV (a := v0) (ci := 10) (q0 := (RX10, TX10, 9)) (As := [p_i r35]) (rest := []) [p_i r52] mt_SW_done rfl rfl tw_3_70 ts_1 tw_3_68 ⟨Nat.le_of_ble_eq_true rfl, Nat.le_of_ble_eq_true rfl⟩ rfl (Nat.le_of_ble_eq_true rfl) (dk_SW_clear 59 rfl) rfl (c1.up (hs6.trans (hs13.trans (hs21.trans (hs26.trans (hs34.trans (hs42.trans (hs45.trans hs47)))))))) rfl t50 ?_
            have hs51 : p_x s46 s48 := t50.1
            show p_Go K l m_SW_clear 116 [(4, p_i r35), (3, p_r r22), (2, p_r r7), (0, p_r v0), (1, p_i v1)] [p_i r52] s48 _
            cases h
            exact g_ret rfl rfl (dk_SW_clear 60 rfl) (fun os => ⟨_, rfl, p_okh os⟩)
          · have h := p_ifF b36 h
            refine g_aload_n (i := 0) (j := 3) (dk_SW_clear 41 rfl) rfl rfl ?_
            refine g_bipush (dk_SW_clear 42 rfl) (by decide +kernel) (by decide) ?_
            obtain ⟨r57, s53, q54, h⟩ := p_bdE h
            have t55 := tF_SW_refuse K l v0 (-4) s31 _ q54
            refine g_callV (a := v0) (ci := 10) (q0 := (RX10, TX10, 9)) (As := [p_i (-4)]) (rest := []) [p_i r57] mt_SW_refuse rfl rfl tw_3_66 ts_0 tw_3_64 ⟨Nat.le_of_ble_eq_true rfl, Nat.le_of_ble_eq_true rfl⟩ rfl (Nat.le_of_ble_eq_true rfl) (dk_SW_clear 43 rfl) rfl (c1.up (hs6.trans (hs13.trans (hs21.trans (hs26.trans hs34))))) rfl t55 ?_
            have hs56 : p_x s31 s53 := t55.1
            show p_Go K l m_SW_clear 85 [(4, p_i r35), (3, p_r r22), (2, p_r r7), (0, p_r v0), (1, p_i v1)] [p_i r57] s53 _
            cases h
            exact g_ret rfl rfl (dk_SW_clear 44 rfl) (fun os => ⟨_, rfl, p_okh os⟩)
        · have h := p_ifF b29 h
          refine g_sub [(0, p_r v0)] [2] rfl ?_
          exact tB_SW_clear_56 K l v0 s23 _ h
    · have h := p_ifF b15 h
      refine g_aload_n (i := 0) (j := 1) (dk_SW_clear 14 rfl) rfl rfl ?_
      refine g_bipush (dk_SW_clear 15 rfl) (by decide +kernel) (by decide) ?_
      obtain ⟨r62, s58, q59, h⟩ := p_bdE h
      have t60 := tF_SW_refuse K l v0 (-12) s10 _ q59
      refine g_callV (a := v0) (ci := 10) (q0 := (RX10, TX10, 9)) (As := [p_i (-12)]) (rest := []) [p_i r62] mt_SW_refuse rfl rfl tw_3_66 ts_0 tw_3_64 ⟨Nat.le_of_ble_eq_true rfl, Nat.le_of_ble_eq_true rfl⟩ rfl (Nat.le_of_ble_eq_true rfl) (dk_SW_clear 16 rfl) rfl (c1.up (hs6.trans hs13)) rfl t60 ?_
      have hs61 : p_x s10 s58 := t60.1
      show p_Go K l m_SW_clear 32 [(2, p_r r7), (0, p_r v0), (1, p_i v1)] [p_i r62] s58 _
      cases h
      exact g_ret rfl rfl (dk_SW_clear 17 rfl) (fun os => ⟨_, rfl, p_okh os⟩)
  · have h := p_ifF b8 h
    refine g_aload_n (i := 0) (j := 1) (dk_SW_clear 7 rfl) rfl rfl ?_
    refine g_iconst (dk_SW_clear 8 rfl) (by decide) ?_
    obtain ⟨r67, s63, q64, h⟩ := p_bdE h
    have t65 := tF_SW_refuse K l v0 (-1) s3 _ q64
    refine g_callV (a := v0) (ci := 10) (q0 := (RX10, TX10, 9)) (As := [p_i (-1)]) (rest := []) [p_i r67] mt_SW_refuse rfl rfl tw_3_66 ts_0 tw_3_64 ⟨Nat.le_of_ble_eq_true rfl, Nat.le_of_ble_eq_true rfl⟩ rfl (Nat.le_of_ble_eq_true rfl) (dk_SW_clear 9 rfl) rfl (c1.up hs6) rfl t65 ?_
    have hs66 : p_x s3 s63 := t65.1
    show p_Go K l m_SW_clear 18 [(2, p_r r7), (0, p_r v0), (1, p_i v1)] [p_i r67] s63 _
    cases h
    exact g_ret rfl rfl (dk_SW_clear 10 rfl) (fun os => ⟨_, rfl, p_okh os⟩)
def m_Gear_isChuteFor : p_Me := (⟨"SortWorks$Gear", "isChuteFor", "(II)Z"⟩, prog_2_method_15_code, 3, (some .boolean), 0, 0)
theorem mt_Gear_isChuteFor : p_Mt m_Gear_isChuteFor 2 := ⟨p_mem (p_tb4 (List.mem_of_getElem? (i := 98) rfl)) rfl, tw_1_5, by decide +kernel, by decide +kernel, by decide +kernel⟩
def dt_Gear_isChuteFor : List (Nat × Instr × Nat) := [(0, .aload_n 0, 1), (1, .getfield 35, 3), (4, .bipush 7, 2), (6, .if_icmp .ne 16, 3), (9, .iload_n 1, 1), (10, .iload_n 2, 1), (11, .if_icmp .ne 7, 3), (14, .iconst 1, 1), (15, .goto 18, 3), (18, .iconst 0, 1), (19, .goto 14, 3), (22, .iload_n 1, 1), (23, .bipush (-8), 2), (25, .if_icmp .ne 7, 3), (28, .iconst 1, 1), (29, .goto 4, 3), (32, .iconst 0, 1), (33, .ireturn, 1)]
theorem dk_Gear_isChuteFor (i : Nat) {pc : Nat} {ins : Instr} {len : Nat} (h : dt_Gear_isChuteFor[i]? = some (pc, ins, len)) : decode m_Gear_isChuteFor.2.1 pc = .ok (ins, len) := p_dk (b := m_Gear_isChuteFor.2.1) (t := dt_Gear_isChuteFor) (by decide +kernel) i h
def F_Gear_isChuteFor (v0 : Nat) (v1 : Int) (v2 : Int) (s0 : p_Hp) : Option (Int × p_Hp) :=
  p_gd (p_is s0 v0 0) <|
  if (p_Z s0 v0 0) ≠ 7 then
    if v1 ≠ (-8) then
      some (0, s0)
    else
      some (1, s0)
  else
    if v1 ≠ v2 then
      some (0, s0)
    else
      some (1, s0)
set_option maxRecDepth 100000 in
set_option maxHeartbeats 4000000 in
theorem tF_Gear_isChuteFor (K : p_K) (l : Launch) (v0 : Nat) (v1 : Int) (v2 : Int) (s0 : p_Hp) (r : (Int × p_Hp)) (h : F_Gear_isChuteFor v0 v1 v2 s0 = some r) : p_Ct K l m_Gear_isChuteFor [p_r v0, p_i v1, p_i v2] s0 (some (p_i r.1), r.2) := by
  refine p_Ct.of (by decide +kernel) (Nat.le_of_ble_eq_true rfl) ?_
  unfold F_Gear_isChuteFor at h
  show p_Go K l m_Gear_isChuteFor 0 [(0, p_r v0), (1, p_i v1), (2, p_i v2)] [] s0 _
  refine g_aload_n (i := 0) (j := 0) (dk_Gear_isChuteFor 0 rfl) rfl rfl ?_
  obtain ⟨c1, h⟩ := p_gdE h
  refine g_getI fl_Gear_35 (Or.inl rfl) (dk_Gear_isChuteFor 1 rfl) c1 ?_
  refine g_bipush (dk_Gear_isChuteFor 2 rfl) (by decide +kernel) (by decide) ?_
  refine g_icmp_ne 22 (dk_Gear_isChuteFor 3 rfl) (by decide) (fun b2 => ?_) (fun b2 => ?_)
  · have h := p_ifT b2 h
    refine g_iload_n (i := 1) (j := 1) (dk_Gear_isChuteFor 11 rfl) rfl rfl ?_
    refine g_bipush (dk_Gear_isChuteFor 12 rfl) (by decide +kernel) (by decide) ?_
    refine g_icmp_ne 32 (dk_Gear_isChuteFor 13 rfl) (by decide) (fun b3 => ?_) (fun b3 => ?_)
    · have h := p_ifT b3 h
      refine g_iconst (dk_Gear_isChuteFor 16 rfl) (by decide) ?_
      cases h
      exact g_ret rfl rfl (dk_Gear_isChuteFor 17 rfl) (fun _ => ⟨_, rfl, Or.inl rfl⟩)
    · have h := p_ifF b3 h
      refine g_iconst (dk_Gear_isChuteFor 14 rfl) (by decide) ?_
      refine g_goto 33 (dk_Gear_isChuteFor 15 rfl) (by decide) ?_
      cases h
      exact g_ret rfl rfl (dk_Gear_isChuteFor 17 rfl) (fun _ => ⟨_, rfl, Or.inr rfl⟩)
  · have h := p_ifF b2 h
    refine g_iload_n (i := 1) (j := 1) (dk_Gear_isChuteFor 4 rfl) rfl rfl ?_
    refine g_iload_n (i := 2) (j := 2) (dk_Gear_isChuteFor 5 rfl) rfl rfl ?_
    refine g_icmp_ne 18 (dk_Gear_isChuteFor 6 rfl) (by decide) (fun b4 => ?_) (fun b4 => ?_)
    · have h := p_ifT b4 h
      refine g_iconst (dk_Gear_isChuteFor 9 rfl) (by decide) ?_
      refine g_goto 33 (dk_Gear_isChuteFor 10 rfl) (by decide) ?_
      cases h
      exact g_ret rfl rfl (dk_Gear_isChuteFor 17 rfl) (fun _ => ⟨_, rfl, Or.inl rfl⟩)
    · have h := p_ifF b4 h
      refine g_iconst (dk_Gear_isChuteFor 7 rfl) (by decide) ?_
      refine g_goto 33 (dk_Gear_isChuteFor 8 rfl) (by decide) ?_
      cases h
      exact g_ret rfl rfl (dk_Gear_isChuteFor 17 rfl) (fun _ => ⟨_, rfl, Or.inr rfl⟩)
def m_SW_carry : p_Me := (⟨"SortWorks", "carry", "(II)I"⟩, prog_1_method_25_code, 6, (some .int), 2, 45)
theorem mt_SW_carry : p_Mt m_SW_carry 2 := ⟨p_mem (p_tb4 (List.mem_of_getElem? (i := 94) rfl)) rfl, tw_1_1, by decide +kernel, by decide +kernel, by decide +kernel⟩
def dt_SW_carry : List (Nat × Instr × Nat) := [(0, .aload_n 0, 1), (1, .getfield 18, 3), (4, .getfield 77, 3), (7, .iload_n 1, 1), (8, .invokevirtual 203, 3), (11, .astore_n 3, 1), (12, .aload_n 0, 1), (13, .getfield 18, 3), (16, .iload_n 2, 1), (17, .invokevirtual 98, 3), (20, .astore 4, 2), (22, .aload_n 3, 1), (23, .ifnull 8, 3), (26, .aload 4, 2), (28, .ifnonnull 9, 3), (31, .aload_n 0, 1), (32, .iconst (-1), 1), (33, .invokevirtual 61, 3), (36, .ireturn, 1), (37, .aload 4, 2), (39, .invokevirtual 129, 3), (42, .ifCond .ne 10, 3), (45, .aload_n 0, 1), (46, .bipush (-12), 2), (48, .invokevirtual 61, 3), (51, .ireturn, 1), (52, .aload 4, 2), (54, .invokevirtual 180, 3), (57, .ifCond .eq 24, 3), (60, .aload 4, 2), (62, .invokevirtual 177, 3), (65, .ifCond .eq 23, 3), (68, .aload 4, 2), (70, .aload_n 3, 1), (71, .getfield 241, 3), (74, .iload_n 2, 1), (75, .invokevirtual 247, 3), (78, .ifCond .ne 10, 3), (81, .aload_n 0, 1), (82, .bipush (-3), 2), (84, .invokevirtual 61, 3), (87, .ireturn, 1), (88, .aload_n 3, 1), (89, .getfield 250, 3), (92, .istore 5, 2), (94, .aload_n 0, 1), (95, .getfield 18, 3), (98, .getfield 77, 3), (101, .aload_n 3, 1), (102, .iload_n 2, 1), (103, .invokevirtual 237, 3), (106, .aload_n 0, 1), (107, .iload 5, 2), (109, .invokevirtual 57, 3), (112, .ireturn, 1)]
theorem dk_SW_carry (i : Nat) {pc : Nat} {ins : Instr} {len : Nat} (h : dt_SW_carry[i]? = some (pc, ins, len)) : decode m_SW_carry.2.1 pc = .ok (ins, len) := p_dk (b := m_SW_carry.2.1) (t := dt_SW_carry) (by decide +kernel) i h
def B_SW_carry_31  (v0 : Nat) (s0 : p_Hp) : Option (Int × p_Hp) :=
  p_gd (p_is s0 v0 10) <|
  p_bd (F_SW_refuse v0 (-1) s0) fun r6 s2 =>
  some (r6, s2)
def B_SW_carry_81  (v0 : Nat) (s0 : p_Hp) : Option (Int × p_Hp) :=
  p_gd (p_is s0 v0 10) <|
  p_bd (F_SW_refuse v0 (-3) s0) fun r6 s2 =>
  some (r6, s2)
def B_SW_carry_88  (v0 : Nat) (v2 : Int) (v3 : Nat) (s0 : p_Hp) : Option (Int × p_Hp) :=
  p_gd (p_is s0 v3 4) <|
  p_bi ((p_Z s0 v3 5)) fun x2 =>
  p_gd (p_is s0 v0 10) <|
  p_gd (p_is s0 (p_R s0 v0 1) 9) <|
  p_gd (p_is s0 (p_R s0 (p_R s0 v0 1) 1) 7) <|
  p_bv (F_State_carryOver (p_R s0 (p_R s0 v0 1) 1) v3 v2 s0) fun s6 =>
  p_bd (F_SW_done v0 x2 s6) fun r14 s10 =>
  some (r14, s10)
def F_SW_carry (v0 : Nat) (v1 : Int) (v2 : Int) (s0 : p_Hp) : Option (Int × p_Hp) :=
  p_gd (p_is s0 v0 10) <|
  p_gd (p_is s0 (p_R s0 v0 1) 9) <|
  p_gd (p_is s0 (p_R s0 (p_R s0 v0 1) 1) 7) <|
  p_bd (F_State_find (p_R s0 (p_R s0 v0 1) 1) v1 s0) fun r8 s4 =>
  p_gd (p_is s4 (p_R s4 v0 1) 9) <|
  p_bd (F_Works_gearOf (p_R s4 v0 1) v2 s4) fun r14 s10 =>
  if r8 = 0 then
    B_SW_carry_31 v0 s10
  else
    if r14 ≠ 0 then
      p_gd (p_is s10 r14 0) <|
      p_bd (F_Gear_isTaker r14 s10) fun r22 s18 =>
      if r22 ≠ 0 then
        p_bd (F_Gear_isFreeAtStart r14 s18) fun r28 s24 =>
        if r28 = 0 then
          B_SW_carry_81 v0 s24
        else
          p_bd (F_Gear_isChute r14 s24) fun r34 s30 =>
          if r34 = 0 then
            B_SW_carry_88 v0 v2 r8 s30
          else
            p_gd (p_is s30 r8 4) <|
            p_bd (F_Gear_isChuteFor r14 (p_Z s30 r8 4) v2 s30) fun r41 s37 =>
            if r41 ≠ 0 then
              B_SW_carry_88 v0 v2 r8 s37
            else
              B_SW_carry_81 v0 s37
      else
        p_bd (F_SW_refuse v0 (-12) s18) fun r47 s43 =>
        some (r47, s43)
    else
      B_SW_carry_31 v0 s10
set_option maxRecDepth 100000 in
set_option maxHeartbeats 4000000 in
theorem tB_SW_carry_31 (K : p_K) (l : Launch)  (v0 : Nat) (s0 : p_Hp) (r : (Int × p_Hp)) (h : B_SW_carry_31 v0 s0 = some r) : p_Go K l m_SW_carry 31 [(0, p_r v0)] [] s0 (some (p_i r.1), r.2) := by
  unfold B_SW_carry_31 at h
  refine g_aload_n (i := 0) (j := 0) (dk_SW_carry 15 rfl) rfl rfl ?_
  refine g_iconst (dk_SW_carry 16 rfl) (by decide) ?_
  obtain ⟨c1, h⟩ := p_gdE h
  obtain ⟨r6, s2, q3, h⟩ := p_bdE h
  have t4 := tF_SW_refuse K l v0 (-1) s0 _ q3
  refine g_callV (a := v0) (ci := 10) (q0 := (RX10, TX10, 9)) (As := [p_i (-1)]) (rest := []) [p_i r6] mt_SW_refuse rfl rfl tw_3_66 ts_0 tw_3_64 ⟨Nat.le_of_ble_eq_true rfl, Nat.le_of_ble_eq_true rfl⟩ rfl (Nat.le_of_ble_eq_true rfl) (dk_SW_carry 17 rfl) rfl c1 rfl t4 ?_
  have hs5 : p_x s0 s2 := t4.1
  show p_Go K l m_SW_carry 36 [(0, p_r v0)] [p_i r6] s2 _
  cases h
  exact g_ret rfl rfl (dk_SW_carry 18 rfl) (fun os => ⟨_, rfl, p_okh os⟩)
set_option maxRecDepth 100000 in
set_option maxHeartbeats 4000000 in
theorem tB_SW_carry_81 (K : p_K) (l : Launch)  (v0 : Nat) (s0 : p_Hp) (r : (Int × p_Hp)) (h : B_SW_carry_81 v0 s0 = some r) : p_Go K l m_SW_carry 81 [(0, p_r v0)] [] s0 (some (p_i r.1), r.2) := by
  unfold B_SW_carry_81 at h
  refine g_aload_n (i := 0) (j := 0) (dk_SW_carry 38 rfl) rfl rfl ?_
  refine g_bipush (dk_SW_carry 39 rfl) (by decide +kernel) (by decide) ?_
  obtain ⟨c1, h⟩ := p_gdE h
  obtain ⟨r6, s2, q3, h⟩ := p_bdE h
  have t4 := tF_SW_refuse K l v0 (-3) s0 _ q3
  refine g_callV (a := v0) (ci := 10) (q0 := (RX10, TX10, 9)) (As := [p_i (-3)]) (rest := []) [p_i r6] mt_SW_refuse rfl rfl tw_3_66 ts_0 tw_3_64 ⟨Nat.le_of_ble_eq_true rfl, Nat.le_of_ble_eq_true rfl⟩ rfl (Nat.le_of_ble_eq_true rfl) (dk_SW_carry 40 rfl) rfl c1 rfl t4 ?_
  have hs5 : p_x s0 s2 := t4.1
  show p_Go K l m_SW_carry 87 [(0, p_r v0)] [p_i r6] s2 _
  cases h
  exact g_ret rfl rfl (dk_SW_carry 41 rfl) (fun os => ⟨_, rfl, p_okh os⟩)
set_option maxRecDepth 100000 in
set_option maxHeartbeats 4000000 in
theorem tB_SW_carry_88 (K : p_K) (l : Launch)  (v0 : Nat) (v2 : Int) (v3 : Nat) (s0 : p_Hp) (r : (Int × p_Hp)) (h : B_SW_carry_88 v0 v2 v3 s0 = some r) : p_Go K l m_SW_carry 88 [(0, p_r v0), (2, p_i v2), (3, p_r v3)] [] s0 (some (p_i r.1), r.2) := by
  unfold B_SW_carry_88 at h
  refine g_aload_n (i := 3) (j := 2) (dk_SW_carry 42 rfl) rfl rfl ?_
  obtain ⟨c1, h⟩ := p_gdE h
  refine g_getI fl_SW_250 (Or.inl rfl) (dk_SW_carry 43 rfl) c1 ?_
  refine g_istore [(5, p_i (p_Z s0 v3 5)), (0, p_r v0), (2, p_i v2), (3, p_r v3)] (dk_SW_carry 44 rfl) (by decide) rfl ?_
  refine p_ltG (P := fun q => p_Go K l m_SW_carry 94 [(5, p_i q), (0, p_r v0), (2, p_i v2), (3, p_r v3)] [] s0 _) ?_ h
  intro x2 h
  refine g_aload_n (i := 0) (j := 1) (dk_SW_carry 45 rfl) rfl rfl ?_
  obtain ⟨c3, h⟩ := p_gdE h
  refine g_getR fl_SW_18 (Or.inl ⟨_, rfl⟩) (dk_SW_carry 46 rfl) c3 ?_
  obtain ⟨c4, h⟩ := p_gdE h
  refine g_getR fl_SW_77 (Or.inl ⟨_, rfl⟩) (dk_SW_carry 47 rfl) c4 ?_
  refine g_aload_n (i := 3) (j := 3) (dk_SW_carry 48 rfl) rfl rfl ?_
  refine g_iload_n (i := 2) (j := 2) (dk_SW_carry 49 rfl) rfl rfl ?_
  obtain ⟨c5, h⟩ := p_gdE h
  obtain ⟨s6, q7, h⟩ := p_bvE h
  have t8 := tF_State_carryOver K l (p_R s0 (p_R s0 v0 1) 1) v3 v2 s0 _ q7
  refine g_callV (a := (p_R s0 (p_R s0 v0 1) 1)) (ci := 7) (q0 := (RX7, TX7, 10)) (As := [p_r v3, p_i v2]) (rest := []) [] mt_State_carryOver rfl rfl tw_4_84 tw_4_85 tw_4_83 ⟨Nat.le_of_ble_eq_true rfl, Nat.le_of_ble_eq_true rfl⟩ rfl (Nat.le_of_ble_eq_true rfl) (dk_SW_carry 50 rfl) rfl c5 rfl t8 ?_
  have hs9 : p_x s0 s6 := t8.1
  show p_Go K l m_SW_carry 106 [(5, p_i x2), (0, p_r v0), (2, p_i v2), (3, p_r v3)] [] s6 _
  refine g_aload_n (i := 0) (j := 1) (dk_SW_carry 51 rfl) rfl rfl ?_
  refine g_iload (j := 0) (dk_SW_carry 52 rfl) rfl ?_
  obtain ⟨r14, s10, q11, h⟩ := p_bdE h
  have t12 := tF_SW_done K l v0 x2 s6 _ q11
  refine g_callV (a := v0) (ci := 10) (q0 := (RX10, TX10, 9)) (As := [p_i x2]) (rest := []) [p_i r14] mt_SW_done rfl rfl tw_3_70 ts_1 tw_3_68 ⟨Nat.le_of_ble_eq_true rfl, Nat.le_of_ble_eq_true rfl⟩ rfl (Nat.le_of_ble_eq_true rfl) (dk_SW_carry 53 rfl) rfl (c3.up hs9) rfl t12 ?_
  have hs13 : p_x s6 s10 := t12.1
  show p_Go K l m_SW_carry 112 [(5, p_i x2), (0, p_r v0), (2, p_i v2), (3, p_r v3)] [p_i r14] s10 _
  cases h
  exact g_ret rfl rfl (dk_SW_carry 54 rfl) (fun os => ⟨_, rfl, p_okh os⟩)
set_option maxRecDepth 100000 in
set_option maxHeartbeats 4000000 in
theorem tF_SW_carry (K : p_K) (l : Launch) (v0 : Nat) (v1 : Int) (v2 : Int) (s0 : p_Hp) (r : (Int × p_Hp)) (h : F_SW_carry v0 v1 v2 s0 = some r) : p_Ct K l m_SW_carry [p_r v0, p_i v1, p_i v2] s0 (some (p_i r.1), r.2) := by
  refine p_Ct.of (by decide +kernel) (Nat.le_of_ble_eq_true rfl) ?_
  unfold F_SW_carry at h
  show p_Go K l m_SW_carry 0 [(0, p_r v0), (1, p_i v1), (2, p_i v2)] [] s0 _
  refine g_aload_n (i := 0) (j := 0) (dk_SW_carry 0 rfl) rfl rfl ?_
  obtain ⟨c1, h⟩ := p_gdE h
  refine g_getR fl_SW_18 (Or.inl ⟨_, rfl⟩) (dk_SW_carry 1 rfl) c1 ?_
  obtain ⟨c2, h⟩ := p_gdE h
  refine g_getR fl_SW_77 (Or.inl ⟨_, rfl⟩) (dk_SW_carry 2 rfl) c2 ?_
  refine g_iload_n (i := 1) (j := 1) (dk_SW_carry 3 rfl) rfl rfl ?_
  obtain ⟨c3, h⟩ := p_gdE h
  obtain ⟨r8, s4, q5, h⟩ := p_bdE h
  have t6 := tF_State_find K l (p_R s0 (p_R s0 v0 1) 1) v1 s0 _ q5
  refine g_callV (a := (p_R s0 (p_R s0 v0 1) 1)) (ci := 7) (q0 := (RX7, TX7, 10)) (As := [p_i v1]) (rest := []) [p_r r8] mt_State_find rfl rfl tw_4_26 tw_4_27 tw_4_25 ⟨Nat.le_of_ble_eq_true rfl, Nat.le_of_ble_eq_true rfl⟩ rfl (Nat.le_of_ble_eq_true rfl) (dk_SW_carry 4 rfl) rfl c3 rfl t6 ?_
  have hs7 : p_x s0 s4 := t6.1
  show p_Go K l m_SW_carry 11 [(0, p_r v0), (1, p_i v1), (2, p_i v2)] [p_r r8] s4 _
  refine g_astore_n (i := 3) [(3, p_r r8), (0, p_r v0), (1, p_i v1), (2, p_i v2)] (dk_SW_carry 5 rfl) rfl (by decide) rfl ?_
  refine g_aload_n (i := 0) (j := 1) (dk_SW_carry 6 rfl) rfl rfl ?_
  refine g_getR fl_SW_18 (Or.inl ⟨_, rfl⟩) (dk_SW_carry 7 rfl) (c1.up hs7) ?_
  refine g_iload_n (i := 2) (j := 3) (dk_SW_carry 8 rfl) rfl rfl ?_
  obtain ⟨c9, h⟩ := p_gdE h
  obtain ⟨r14, s10, q11, h⟩ := p_bdE h
  have t12 := tF_Works_gearOf K l (p_R s4 v0 1) v2 s4 _ q11
  refine g_callV (a := (p_R s4 v0 1)) (ci := 9) (q0 := (RX9, TX9, 15)) (As := [p_i v2]) (rest := []) [p_r r14] mt_Works_gearOf rfl rfl tw_3_104 tw_3_105 tw_3_103 ⟨Nat.le_of_ble_eq_true rfl, Nat.le_of_ble_eq_true rfl⟩ rfl (Nat.le_of_ble_eq_true rfl) (dk_SW_carry 9 rfl) rfl c9 rfl t12 ?_
  have hs13 : p_x s4 s10 := t12.1
  show p_Go K l m_SW_carry 20 [(3, p_r r8), (0, p_r v0), (1, p_i v1), (2, p_i v2)] [p_r r14] s10 _
  refine g_astore [(4, p_r r14), (3, p_r r8), (0, p_r v0), (1, p_i v1), (2, p_i v2)] (dk_SW_carry 10 rfl) (by decide) rfl ?_
  refine g_aload_n (i := 3) (j := 1) (dk_SW_carry 11 rfl) rfl rfl ?_
  refine g_ifnull 31 (dk_SW_carry 12 rfl) (by decide) (fun b15 => ?_) (fun b15 => ?_)
  · have h := p_ifT b15 h
    refine g_sub [(0, p_r v0)] [2] rfl ?_
    exact tB_SW_carry_31 K l v0 s10 _ h
  · have h := p_ifF b15 h
    refine g_aload (j := 0) (dk_SW_carry 13 rfl) rfl ?_
    refine g_ifnonnull 37 (dk_SW_carry 14 rfl) (by decide) (fun b16 => ?_) (fun b16 => ?_)
    · have h := p_ifT b16 h
      refine g_aload (j := 0) (dk_SW_carry 19 rfl) rfl ?_
      obtain ⟨c17, h⟩ := p_gdE h
      obtain ⟨r22, s18, q19, h⟩ := p_bdE h
      have t20 := tF_Gear_isTaker K l r14 s10 _ q19
      refine g_callV (a := r14) (ci := 0) (q0 := (RX0, TX0, 20)) (As := []) (rest := []) [p_i r22] mt_Gear_isTaker rfl rfl tw_3_142 tw_3_143 tw_3_141 ⟨Nat.le_of_ble_eq_true rfl, Nat.le_of_ble_eq_true rfl⟩ rfl (Nat.le_of_ble_eq_true rfl) (dk_SW_carry 20 rfl) rfl c17 rfl t20 ?_
      have hs21 : p_x s10 s18 := t20.1
      show p_Go K l m_SW_carry 42 [(4, p_r r14), (3, p_r r8), (0, p_r v0), (1, p_i v1), (2, p_i v2)] [p_i r22] s18 _
      refine g_if_ne 52 (dk_SW_carry 21 rfl) (by decide) (fun b23 => ?_) (fun b23 => ?_)
      · have h := p_ifT b23 h
        refine g_aload (j := 0) (dk_SW_carry 26 rfl) rfl ?_
        obtain ⟨r28, s24, q25, h⟩ := p_bdE h
        have t26 := tF_Gear_isFreeAtStart K l r14 s18 _ q25
        refine g_callV (a := r14) (ci := 0) (q0 := (RX0, TX0, 20)) (As := []) (rest := []) [p_i r28] mt_Gear_isFreeAtStart rfl rfl tw_3_235 tw_3_236 tw_3_234 ⟨Nat.le_of_ble_eq_true rfl, Nat.le_of_ble_eq_true rfl⟩ rfl (Nat.le_of_ble_eq_true rfl) (dk_SW_carry 27 rfl) rfl (c17.up hs21) rfl t26 ?_
        have hs27 : p_x s18 s24 := t26.1
        show p_Go K l m_SW_carry 57 [(4, p_r r14), (3, p_r r8), (0, p_r v0), (1, p_i v1), (2, p_i v2)] [p_i r28] s24 _
        refine g_if_eq 81 (dk_SW_carry 28 rfl) (by decide) (fun b29 => ?_) (fun b29 => ?_)
        · have h := p_ifT b29 h
          refine g_sub [(0, p_r v0)] [2] rfl ?_
          exact tB_SW_carry_81 K l v0 s24 _ h
        · have h := p_ifF b29 h
          refine g_aload (j := 0) (dk_SW_carry 29 rfl) rfl ?_
          obtain ⟨r34, s30, q31, h⟩ := p_bdE h
          have t32 := tF_Gear_isChute K l r14 s24 _ q31
          refine g_callV (a := r14) (ci := 0) (q0 := (RX0, TX0, 20)) (As := []) (rest := []) [p_i r34] mt_Gear_isChute rfl rfl tw_3_231 tw_3_232 tw_3_230 ⟨Nat.le_of_ble_eq_true rfl, Nat.le_of_ble_eq_true rfl⟩ rfl (Nat.le_of_ble_eq_true rfl) (dk_SW_carry 30 rfl) rfl (c17.up (hs21.trans hs27)) rfl t32 ?_
          have hs33 : p_x s24 s30 := t32.1
          show p_Go K l m_SW_carry 65 [(4, p_r r14), (3, p_r r8), (0, p_r v0), (1, p_i v1), (2, p_i v2)] [p_i r34] s30 _
          refine g_if_eq 88 (dk_SW_carry 31 rfl) (by decide) (fun b35 => ?_) (fun b35 => ?_)
          · have h := p_ifT b35 h
            refine g_sub [(0, p_r v0), (2, p_i v2), (3, p_r r8)] [2, 4, 1] rfl ?_
            exact tB_SW_carry_88 K l v0 v2 r8 s30 _ h
          · have h := p_ifF b35 h
            refine g_aload (j := 0) (dk_SW_carry 32 rfl) rfl ?_
            refine g_aload_n (i := 3) (j := 1) (dk_SW_carry 33 rfl) rfl rfl ?_
            obtain ⟨c36, h⟩ := p_gdE h
            refine g_getI fl_SW_241 (Or.inl rfl) (dk_SW_carry 34 rfl) c36 ?_
            refine g_iload_n (i := 2) (j := 4) (dk_SW_carry 35 rfl) rfl rfl ?_
            obtain ⟨r41, s37, q38, h⟩ := p_bdE h
            have t39 := tF_Gear_isChuteFor K l r14 (p_Z s30 r8 4) v2 s30 _ q38
            refine g_callV (a := r14) (ci := 0) (q0 := (RX0, TX0, 20)) (As := [p_i (p_Z s30 r8 4), p_i v2]) (rest := []) [p_i r41] mt_Gear_isChuteFor rfl rfl tw_4_96 tw_4_97 tw_4_95 ⟨Nat.le_of_ble_eq_true rfl, Nat.le_of_ble_eq_true rfl⟩ rfl (Nat.le_of_ble_eq_true rfl) (dk_SW_carry 36 rfl) rfl (c17.up (hs21.trans (hs27.trans hs33))) rfl t39 ?_
            have hs40 : p_x s30 s37 := t39.1
            show p_Go K l m_SW_carry 78 [(4, p_r r14), (3, p_r r8), (0, p_r v0), (1, p_i v1), (2, p_i v2)] [p_i r41] s37 _
            refine g_if_ne 88 (dk_SW_carry 37 rfl) (by decide) (fun b42 => ?_) (fun b42 => ?_)
            · have h := p_ifT b42 h
              refine g_sub [(0, p_r v0), (2, p_i v2), (3, p_r r8)] [2, 4, 1] rfl ?_
              exact tB_SW_carry_88 K l v0 v2 r8 s37 _ h
            · have h := p_ifF b42 h
              refine g_sub [(0, p_r v0)] [2] rfl ?_
              exact tB_SW_carry_81 K l v0 s37 _ h
      · have h := p_ifF b23 h
        refine g_aload_n (i := 0) (j := 2) (dk_SW_carry 22 rfl) rfl rfl ?_
        refine g_bipush (dk_SW_carry 23 rfl) (by decide +kernel) (by decide) ?_
        obtain ⟨r47, s43, q44, h⟩ := p_bdE h
        have t45 := tF_SW_refuse K l v0 (-12) s18 _ q44
        refine g_callV (a := v0) (ci := 10) (q0 := (RX10, TX10, 9)) (As := [p_i (-12)]) (rest := []) [p_i r47] mt_SW_refuse rfl rfl tw_3_66 ts_0 tw_3_64 ⟨Nat.le_of_ble_eq_true rfl, Nat.le_of_ble_eq_true rfl⟩ rfl (Nat.le_of_ble_eq_true rfl) (dk_SW_carry 24 rfl) rfl (c1.up (hs7.trans (hs13.trans hs21))) rfl t45 ?_
        have hs46 : p_x s18 s43 := t45.1
        show p_Go K l m_SW_carry 51 [(4, p_r r14), (3, p_r r8), (0, p_r v0), (1, p_i v1), (2, p_i v2)] [p_i r47] s43 _
        cases h
        exact g_ret rfl rfl (dk_SW_carry 25 rfl) (fun os => ⟨_, rfl, p_okh os⟩)
    · have h := p_ifF b16 h
      refine g_sub [(0, p_r v0)] [2] rfl ?_
      exact tB_SW_carry_31 K l v0 s10 _ h
def m_SW_isGroup : p_Me := (⟨"SortWorks", "isGroup", "(I)Z"⟩, prog_1_method_59_code, 1, (some .boolean), 0, 0)
theorem mt_SW_isGroup : p_Mt m_SW_isGroup 1 := ⟨p_mem (p_tb4 (List.mem_of_getElem? (i := 105) rfl)) rfl, tw_1_1, by decide +kernel, by decide +kernel, by decide +kernel⟩
def dt_SW_isGroup : List (Nat × Instr × Nat) := [(0, .iload_n 0, 1), (1, .ifCond .lt 12, 3), (4, .iload_n 0, 1), (5, .iconst 4, 1), (6, .if_icmp .ge 7, 3), (9, .iconst 1, 1), (10, .goto 4, 3), (13, .iconst 0, 1), (14, .ireturn, 1)]
theorem dk_SW_isGroup (i : Nat) {pc : Nat} {ins : Instr} {len : Nat} (h : dt_SW_isGroup[i]? = some (pc, ins, len)) : decode m_SW_isGroup.2.1 pc = .ok (ins, len) := p_dk (b := m_SW_isGroup.2.1) (t := dt_SW_isGroup) (by decide +kernel) i h
def F_SW_isGroup (v0 : Int) (s0 : p_Hp) : Option (Int × p_Hp) :=
  if v0 < 0 then
    some (0, s0)
  else
    if 4 ≤ v0 then
      some (0, s0)
    else
      some (1, s0)
set_option maxRecDepth 100000 in
set_option maxHeartbeats 4000000 in
theorem tF_SW_isGroup (K : p_K) (l : Launch) (v0 : Int) (s0 : p_Hp) (r : (Int × p_Hp)) (h : F_SW_isGroup v0 s0 = some r) : p_Ct K l m_SW_isGroup [p_i v0] s0 (some (p_i r.1), r.2) := by
  refine p_Ct.of (by decide +kernel) (Nat.le_of_ble_eq_true rfl) ?_
  unfold F_SW_isGroup at h
  show p_Go K l m_SW_isGroup 0 [(0, p_i v0)] [] s0 _
  refine g_iload_n (i := 0) (j := 0) (dk_SW_isGroup 0 rfl) rfl rfl ?_
  refine g_if_lt 13 (dk_SW_isGroup 1 rfl) (by decide) (fun b1 => ?_) (fun b1 => ?_)
  · have h := p_ifT b1 h
    refine g_iconst (dk_SW_isGroup 7 rfl) (by decide) ?_
    cases h
    exact g_ret rfl rfl (dk_SW_isGroup 8 rfl) (fun _ => ⟨_, rfl, Or.inl rfl⟩)
  · have h := p_ifF b1 h
    refine g_iload_n (i := 0) (j := 0) (dk_SW_isGroup 2 rfl) rfl rfl ?_
    refine g_iconst (dk_SW_isGroup 3 rfl) (by decide) ?_
    refine g_icmp_ge 13 (dk_SW_isGroup 4 rfl) (by decide) (fun b2 => ?_) (fun b2 => ?_)
    · have h := p_ifT b2 h
      refine g_iconst (dk_SW_isGroup 7 rfl) (by decide) ?_
      cases h
      exact g_ret rfl rfl (dk_SW_isGroup 8 rfl) (fun _ => ⟨_, rfl, Or.inl rfl⟩)
    · have h := p_ifF b2 h
      refine g_iconst (dk_SW_isGroup 5 rfl) (by decide) ?_
      refine g_goto 14 (dk_SW_isGroup 6 rfl) (by decide) ?_
      cases h
      exact g_ret rfl rfl (dk_SW_isGroup 8 rfl) (fun _ => ⟨_, rfl, Or.inr rfl⟩)
def m_SW_group : p_Me := (⟨"SortWorks", "group", "(III)I"⟩, prog_1_method_26_code, 4, (some .int), 1, 23)
theorem mt_SW_group : p_Mt m_SW_group 3 := ⟨p_mem (p_tb4 (List.mem_of_getElem? (i := 102) rfl)) rfl, tw_1_1, by decide +kernel, by decide +kernel, by decide +kernel⟩
def dt_SW_group : List (Nat × Instr × Nat) := [(0, .iload_n 1, 1), (1, .invokestatic 252, 3), (4, .ifCond .ne 9, 3), (7, .aload_n 0, 1), (8, .iconst (-1), 1), (9, .invokevirtual 61, 3), (12, .ireturn, 1), (13, .iload_n 2, 1), (14, .ifCond .lt 14, 3), (17, .iload_n 2, 1), (18, .iconst 3, 1), (19, .if_icmp .gt 9, 3), (22, .iload_n 3, 1), (23, .bipush 8, 2), (25, .if_icmp .le 10, 3), (28, .aload_n 0, 1), (29, .bipush (-2), 2), (31, .invokevirtual 61, 3), (34, .ireturn, 1), (35, .iload_n 3, 1), (36, .ifCond .ge 10, 3), (39, .aload_n 0, 1), (40, .bipush (-15), 2), (42, .invokevirtual 61, 3), (45, .ireturn, 1), (46, .aload_n 0, 1), (47, .getfield 18, 3), (50, .getfield 255, 3), (53, .iload_n 1, 1), (54, .iload_n 2, 1), (55, .iastore, 1), (56, .aload_n 0, 1), (57, .getfield 18, 3), (60, .getfield 258, 3), (63, .iload_n 1, 1), (64, .iload_n 3, 1), (65, .iastore, 1), (66, .aload_n 0, 1), (67, .getfield 18, 3), (70, .getfield 261, 3), (73, .iload_n 1, 1), (74, .aaload, 1), (75, .iconst (-1), 1), (76, .invokestatic 105, 3), (79, .aload_n 0, 1), (80, .iload_n 3, 1), (81, .invokevirtual 57, 3), (84, .ireturn, 1)]
theorem dk_SW_group (i : Nat) {pc : Nat} {ins : Instr} {len : Nat} (h : dt_SW_group[i]? = some (pc, ins, len)) : decode m_SW_group.2.1 pc = .ok (ins, len) := p_dk (b := m_SW_group.2.1) (t := dt_SW_group) (by decide +kernel) i h
def B_SW_group_28  (v0 : Nat) (s0 : p_Hp) : Option (Int × p_Hp) :=
  p_gd (p_is s0 v0 10) <|
  p_bd (F_SW_refuse v0 (-2) s0) fun r6 s2 =>
  some (r6, s2)
def F_SW_group (v0 : Nat) (v1 : Int) (v2 : Int) (v3 : Int) (s0 : p_Hp) : Option (Int × p_Hp) :=
  p_bd (F_SW_isGroup v1 s0) fun r5 s1 =>
  if r5 ≠ 0 then
    if v2 < 0 then
      B_SW_group_28 v0 s1
    else
      if 3 < v2 then
        B_SW_group_28 v0 s1
      else
        if v3 ≤ 8 then
          if 0 ≤ v3 then
            p_gd (p_is s1 v0 10) <|
            p_gd (p_is s1 (p_R s1 v0 1) 9) <|
            p_gd (p_is s1 (p_R s1 (p_R s1 v0 1) 8) 100) <|
            p_gd ((0 : Int) ≤ v1 ∧ v1 < (p_L s1 (p_R s1 (p_R s1 v0 1) 8) : Int)) <|
            p_bi (p_wZ s1 (p_R s1 (p_R s1 v0 1) 8) (v1 : Int).toNat v2) fun s15 =>
            p_gd (p_is s15 (p_R s15 v0 1) 9) <|
            p_gd (p_is s15 (p_R s15 (p_R s15 v0 1) 9) 100) <|
            p_gd ((0 : Int) ≤ v1 ∧ v1 < (p_L s15 (p_R s15 (p_R s15 v0 1) 9) : Int)) <|
            p_bi (p_wZ s15 (p_R s15 (p_R s15 v0 1) 9) (v1 : Int).toNat v3) fun s20 =>
            p_gd (p_is s20 (p_R s20 v0 1) 9) <|
            p_gd (p_is s20 (p_R s20 (p_R s20 v0 1) 7) 103) <|
            p_gd ((0 : Int) ≤ v1 ∧ v1 < (p_L s20 (p_R s20 (p_R s20 v0 1) 7) : Int)) <|
            p_bv (F_Ar_fill_0 (p_R s20 (p_R s20 (p_R s20 v0 1) 7) (v1 : Int).toNat) (-1) s20) fun s25 =>
            p_bd (F_SW_done v0 v3 s25) fun r33 s29 =>
            some (r33, s29)
          else
            p_gd (p_is s1 v0 10) <|
            p_bd (F_SW_refuse v0 (-15) s1) fun r39 s35 =>
            some (r39, s35)
        else
          B_SW_group_28 v0 s1
  else
    p_gd (p_is s1 v0 10) <|
    p_bd (F_SW_refuse v0 (-1) s1) fun r45 s41 =>
    some (r45, s41)
set_option maxRecDepth 100000 in
set_option maxHeartbeats 4000000 in
theorem tB_SW_group_28 (K : p_K) (l : Launch)  (v0 : Nat) (s0 : p_Hp) (r : (Int × p_Hp)) (h : B_SW_group_28 v0 s0 = some r) : p_Go K l m_SW_group 28 [(0, p_r v0)] [] s0 (some (p_i r.1), r.2) := by
  unfold B_SW_group_28 at h
  refine g_aload_n (i := 0) (j := 0) (dk_SW_group 15 rfl) rfl rfl ?_
  refine g_bipush (dk_SW_group 16 rfl) (by decide +kernel) (by decide) ?_
  obtain ⟨c1, h⟩ := p_gdE h
  obtain ⟨r6, s2, q3, h⟩ := p_bdE h
  have t4 := tF_SW_refuse K l v0 (-2) s0 _ q3
  refine g_callV (a := v0) (ci := 10) (q0 := (RX10, TX10, 9)) (As := [p_i (-2)]) (rest := []) [p_i r6] mt_SW_refuse rfl rfl tw_3_66 ts_0 tw_3_64 ⟨Nat.le_of_ble_eq_true rfl, Nat.le_of_ble_eq_true rfl⟩ rfl (Nat.le_of_ble_eq_true rfl) (dk_SW_group 17 rfl) rfl c1 rfl t4 ?_
  have hs5 : p_x s0 s2 := t4.1
  show p_Go K l m_SW_group 34 [(0, p_r v0)] [p_i r6] s2 _
  cases h
  exact g_ret rfl rfl (dk_SW_group 18 rfl) (fun os => ⟨_, rfl, p_okh os⟩)
set_option maxRecDepth 100000 in
set_option maxHeartbeats 4000000 in
theorem tF_SW_group (K : p_K) (l : Launch) (v0 : Nat) (v1 : Int) (v2 : Int) (v3 : Int) (s0 : p_Hp) (r : (Int × p_Hp)) (h : F_SW_group v0 v1 v2 v3 s0 = some r) : p_Ct K l m_SW_group [p_r v0, p_i v1, p_i v2, p_i v3] s0 (some (p_i r.1), r.2) := by
  refine p_Ct.of (by decide +kernel) (Nat.le_of_ble_eq_true rfl) ?_
  unfold F_SW_group at h
  show p_Go K l m_SW_group 0 [(0, p_r v0), (1, p_i v1), (2, p_i v2), (3, p_i v3)] [] s0 _
  refine g_iload_n (i := 1) (j := 1) (dk_SW_group 0 rfl) rfl rfl ?_
  obtain ⟨r5, s1, q2, h⟩ := p_bdE h
  have t3 := tF_SW_isGroup K l v1 s0 _ q2
  refine g_callS (av := [p_i v1]) (rest := []) [p_i r5] mt_SW_isGroup tw_4_104 tw_4_103 ⟨Nat.le_of_ble_eq_true rfl, Nat.le_of_ble_eq_true rfl⟩ rfl (Nat.le_of_ble_eq_true rfl) (dk_SW_group 1 rfl) rfl rfl t3 ?_
  have hs4 : p_x s0 s1 := t3.1
  show p_Go K l m_SW_group 4 [(0, p_r v0), (1, p_i v1), (2, p_i v2), (3, p_i v3)] [p_i r5] s1 _
  refine g_if_ne 13 (dk_SW_group 2 rfl) (by decide) (fun b6 => ?_) (fun b6 => ?_)
  · have h := p_ifT b6 h
    refine g_iload_n (i := 2) (j := 2) (dk_SW_group 7 rfl) rfl rfl ?_
    refine g_if_lt 28 (dk_SW_group 8 rfl) (by decide) (fun b7 => ?_) (fun b7 => ?_)
    · have h := p_ifT b7 h
      refine g_sub [(0, p_r v0)] [0] rfl ?_
      exact tB_SW_group_28 K l v0 s1 _ h
    · have h := p_ifF b7 h
      refine g_iload_n (i := 2) (j := 2) (dk_SW_group 9 rfl) rfl rfl ?_
      refine g_iconst (dk_SW_group 10 rfl) (by decide) ?_
      refine g_icmp_gt 28 (dk_SW_group 11 rfl) (by decide) (fun b8 => ?_) (fun b8 => ?_)
      · have h := p_ifT b8 h
        refine g_sub [(0, p_r v0)] [0] rfl ?_
        exact tB_SW_group_28 K l v0 s1 _ h
      · have h := p_ifF b8 h
        refine g_iload_n (i := 3) (j := 3) (dk_SW_group 12 rfl) rfl rfl ?_
        refine g_bipush (dk_SW_group 13 rfl) (by decide +kernel) (by decide) ?_
        refine g_icmp_le 35 (dk_SW_group 14 rfl) (by decide) (fun b9 => ?_) (fun b9 => ?_)
        · have h := p_ifT b9 h
          refine g_iload_n (i := 3) (j := 3) (dk_SW_group 19 rfl) rfl rfl ?_
          refine g_if_ge 46 (dk_SW_group 20 rfl) (by decide) (fun b10 => ?_) (fun b10 => ?_)
          · have h := p_ifT b10 h
            refine g_aload_n (i := 0) (j := 0) (dk_SW_group 25 rfl) rfl rfl ?_
            obtain ⟨c11, h⟩ := p_gdE h
            refine g_getR fl_SW_18 (Or.inl ⟨_, rfl⟩) (dk_SW_group 26 rfl) c11 ?_
            obtain ⟨c12, h⟩ := p_gdE h
            refine g_getR fl_SW_255 (Or.inr ⟨_, rfl⟩) (dk_SW_group 27 rfl) c12 ?_
            refine g_iload_n (i := 1) (j := 1) (dk_SW_group 28 rfl) rfl rfl ?_
            refine g_iload_n (i := 2) (j := 2) (dk_SW_group 29 rfl) rfl rfl ?_
            obtain ⟨c13, h⟩ := p_gdE h
            obtain ⟨c14, h⟩ := p_gdE h
            refine g_iastore (dk_SW_group 30 rfl) c13 c14.1 c14.2 ?_
            refine p_ltS (P := fun q => p_Go K l m_SW_group 56 [(0, p_r v0), (1, p_i v1), (2, p_i v2), (3, p_i v3)] [] q _) (p_xZ _ _ _ _) ?_ h
            intro s15 hs16 h
            refine g_aload_n (i := 0) (j := 0) (dk_SW_group 31 rfl) rfl rfl ?_
            refine g_getR fl_SW_18 (Or.inl ⟨_, rfl⟩) (dk_SW_group 32 rfl) (c11.up hs16) ?_
            obtain ⟨c17, h⟩ := p_gdE h
            refine g_getR fl_SW_258 (Or.inr ⟨_, rfl⟩) (dk_SW_group 33 rfl) c17 ?_
            refine g_iload_n (i := 1) (j := 1) (dk_SW_group 34 rfl) rfl rfl ?_
            refine g_iload_n (i := 3) (j := 3) (dk_SW_group 35 rfl) rfl rfl ?_
            obtain ⟨c18, h⟩ := p_gdE h
            obtain ⟨c19, h⟩ := p_gdE h
            refine g_iastore (dk_SW_group 36 rfl) c18 c19.1 c19.2 ?_
            refine p_ltS (P := fun q => p_Go K l m_SW_group 66 [(0, p_r v0), (1, p_i v1), (2, p_i v2), (3, p_i v3)] [] q _) (p_xZ _ _ _ _) ?_ h
            intro s20 hs21 h
            refine g_aload_n (i := 0) (j := 0) (dk_SW_group 37 rfl) rfl rfl ?_
            refine g_getR fl_SW_18 (Or.inl ⟨_, rfl⟩) (dk_SW_group 38 rfl) (c11.up (hs16.trans hs21)) ?_
            obtain ⟨c22, h⟩ := p_gdE h
            refine g_getR fl_SW_261 (Or.inr ⟨_, rfl⟩) (dk_SW_group 39 rfl) c22 ?_
            refine g_iload_n (i := 1) (j := 1) (dk_SW_group 40 rfl) rfl rfl ?_
            obtain ⟨c23, h⟩ := p_gdE h
            obtain ⟨c24, h⟩ := p_gdE h
            refine g_aaload (i := 3) rfl (Or.inr ⟨_, rfl⟩) (dk_SW_group 41 rfl) c23 c24.1 c24.2 ?_
            refine g_iconst (dk_SW_group 42 rfl) (by decide) ?_
            obtain ⟨s25, q26, h⟩ := p_bvE h
            have t27 := tF_Ar_fill_0 K l (p_R s20 (p_R s20 (p_R s20 v0 1) 7) (v1 : Int).toNat) (-1) s20 _ q26
            refine g_callS (av := [p_r (p_R s20 (p_R s20 (p_R s20 v0 1) 7) (v1 : Int).toNat), p_i (-1)]) (rest := []) [] mt_Ar_fill_0 tw_3_108 tw_3_107 ⟨Nat.le_of_ble_eq_true rfl, Nat.le_of_ble_eq_true rfl⟩ rfl (Nat.le_of_ble_eq_true rfl) (dk_SW_group 43 rfl) rfl rfl t27 ?_
            have hs28 : p_x s20 s25 := t27.1
            show p_Go K l m_SW_group 79 [(0, p_r v0), (1, p_i v1), (2, p_i v2), (3, p_i v3)] [] s25 _
            refine g_aload_n (i := 0) (j := 0) (dk_SW_group 44 rfl) rfl rfl ?_
            refine g_iload_n (i := 3) (j := 3) (dk_SW_group 45 rfl) rfl rfl ?_
            obtain ⟨r33, s29, q30, h⟩ := p_bdE h
            have t31 := tF_SW_done K l v0 v3 s25 _ q30
            refine g_callV (a := v0) (ci := 10) (q0 := (RX10, TX10, 9)) (As := [p_i v3]) (rest := []) [p_i r33] mt_SW_done rfl rfl tw_3_70 ts_1 tw_3_68 ⟨Nat.le_of_ble_eq_true rfl, Nat.le_of_ble_eq_true rfl⟩ rfl (Nat.le_of_ble_eq_true rfl) (dk_SW_group 46 rfl) rfl (c11.up (hs16.trans (hs21.trans hs28))) rfl t31 ?_
            have hs32 : p_x s25 s29 := t31.1
            show p_Go K l m_SW_group 84 [(0, p_r v0), (1, p_i v1), (2, p_i v2), (3, p_i v3)] [p_i r33] s29 _
            cases h
            exact g_ret rfl rfl (dk_SW_group 47 rfl) (fun os => ⟨_, rfl, p_okh os⟩)
          · have h := p_ifF b10 h
            refine g_aload_n (i := 0) (j := 0) (dk_SW_group 21 rfl) rfl rfl ?_
            refine g_bipush (dk_SW_group 22 rfl) (by decide +kernel) (by decide) ?_
            obtain ⟨c34, h⟩ := p_gdE h
            obtain ⟨r39, s35, q36, h⟩ := p_bdE h
            have t37 := tF_SW_refuse K l v0 (-15) s1 _ q36
            refine g_callV (a := v0) (ci := 10) (q0 := (RX10, TX10, 9)) (As := [p_i (-15)]) (rest := []) [p_i r39] mt_SW_refuse rfl rfl tw_3_66 ts_0 tw_3_64 ⟨Nat.le_of_ble_eq_true rfl, Nat.le_of_ble_eq_true rfl⟩ rfl (Nat.le_of_ble_eq_true rfl) (dk_SW_group 23 rfl) rfl c34 rfl t37 ?_
            have hs38 : p_x s1 s35 := t37.1
            show p_Go K l m_SW_group 45 [(0, p_r v0), (1, p_i v1), (2, p_i v2), (3, p_i v3)] [p_i r39] s35 _
            cases h
            exact g_ret rfl rfl (dk_SW_group 24 rfl) (fun os => ⟨_, rfl, p_okh os⟩)
        · have h := p_ifF b9 h
          refine g_sub [(0, p_r v0)] [0] rfl ?_
          exact tB_SW_group_28 K l v0 s1 _ h
  · have h := p_ifF b6 h
    refine g_aload_n (i := 0) (j := 0) (dk_SW_group 3 rfl) rfl rfl ?_
    refine g_iconst (dk_SW_group 4 rfl) (by decide) ?_
    obtain ⟨c40, h⟩ := p_gdE h
    obtain ⟨r45, s41, q42, h⟩ := p_bdE h
    have t43 := tF_SW_refuse K l v0 (-1) s1 _ q42
    refine g_callV (a := v0) (ci := 10) (q0 := (RX10, TX10, 9)) (As := [p_i (-1)]) (rest := []) [p_i r45] mt_SW_refuse rfl rfl tw_3_66 ts_0 tw_3_64 ⟨Nat.le_of_ble_eq_true rfl, Nat.le_of_ble_eq_true rfl⟩ rfl (Nat.le_of_ble_eq_true rfl) (dk_SW_group 5 rfl) rfl c40 rfl t43 ?_
    have hs44 : p_x s1 s41 := t43.1
    show p_Go K l m_SW_group 12 [(0, p_r v0), (1, p_i v1), (2, p_i v2), (3, p_i v3)] [p_i r45] s41 _
    cases h
    exact g_ret rfl rfl (dk_SW_group 6 rfl) (fun os => ⟨_, rfl, p_okh os⟩)
def m_Gear_isBelt : p_Me := (⟨"SortWorks$Gear", "isBelt", "()Z"⟩, prog_2_method_7_code, 1, (some .boolean), 0, 0)
theorem mt_Gear_isBelt : p_Mt m_Gear_isBelt 0 := ⟨p_mem (p_tb4 (List.mem_of_getElem? (i := 117) rfl)) rfl, tw_1_5, by decide +kernel, by decide +kernel, by decide +kernel⟩
def dt_Gear_isBelt : List (Nat × Instr × Nat) := [(0, .aload_n 0, 1), (1, .getfield 35, 3), (4, .ifCond .lt 15, 3), (7, .aload_n 0, 1), (8, .getfield 35, 3), (11, .iconst 4, 1), (12, .if_icmp .gt 7, 3), (15, .iconst 1, 1), (16, .goto 4, 3), (19, .iconst 0, 1), (20, .ireturn, 1)]
theorem dk_Gear_isBelt (i : Nat) {pc : Nat} {ins : Instr} {len : Nat} (h : dt_Gear_isBelt[i]? = some (pc, ins, len)) : decode m_Gear_isBelt.2.1 pc = .ok (ins, len) := p_dk (b := m_Gear_isBelt.2.1) (t := dt_Gear_isBelt) (by decide +kernel) i h
def F_Gear_isBelt (v0 : Nat) (s0 : p_Hp) : Option (Int × p_Hp) :=
  p_gd (p_is s0 v0 0) <|
  if (p_Z s0 v0 0) < 0 then
    some (0, s0)
  else
    if 4 < (p_Z s0 v0 0) then
      some (0, s0)
    else
      some (1, s0)
set_option maxRecDepth 100000 in
set_option maxHeartbeats 4000000 in
theorem tF_Gear_isBelt (K : p_K) (l : Launch) (v0 : Nat) (s0 : p_Hp) (r : (Int × p_Hp)) (h : F_Gear_isBelt v0 s0 = some r) : p_Ct K l m_Gear_isBelt [p_r v0] s0 (some (p_i r.1), r.2) := by
  refine p_Ct.of (by decide +kernel) (Nat.le_of_ble_eq_true rfl) ?_
  unfold F_Gear_isBelt at h
  show p_Go K l m_Gear_isBelt 0 [(0, p_r v0)] [] s0 _
  refine g_aload_n (i := 0) (j := 0) (dk_Gear_isBelt 0 rfl) rfl rfl ?_
  obtain ⟨c1, h⟩ := p_gdE h
  refine g_getI fl_Gear_35 (Or.inl rfl) (dk_Gear_isBelt 1 rfl) c1 ?_
  refine g_if_lt 19 (dk_Gear_isBelt 2 rfl) (by decide) (fun b2 => ?_) (fun b2 => ?_)
  · have h := p_ifT b2 h
    refine g_iconst (dk_Gear_isBelt 9 rfl) (by decide) ?_
    cases h
    exact g_ret rfl rfl (dk_Gear_isBelt 10 rfl) (fun _ => ⟨_, rfl, Or.inl rfl⟩)
  · have h := p_ifF b2 h
    refine g_aload_n (i := 0) (j := 0) (dk_Gear_isBelt 3 rfl) rfl rfl ?_
    refine g_getI fl_Gear_35 (Or.inl rfl) (dk_Gear_isBelt 4 rfl) c1 ?_
    refine g_iconst (dk_Gear_isBelt 5 rfl) (by decide) ?_
    refine g_icmp_gt 19 (dk_Gear_isBelt 6 rfl) (by decide) (fun b3 => ?_) (fun b3 => ?_)
    · have h := p_ifT b3 h
      refine g_iconst (dk_Gear_isBelt 9 rfl) (by decide) ?_
      cases h
      exact g_ret rfl rfl (dk_Gear_isBelt 10 rfl) (fun _ => ⟨_, rfl, Or.inl rfl⟩)
    · have h := p_ifF b3 h
      refine g_iconst (dk_Gear_isBelt 7 rfl) (by decide) ?_
      refine g_goto 20 (dk_Gear_isBelt 8 rfl) (by decide) ?_
      cases h
      exact g_ret rfl rfl (dk_Gear_isBelt 10 rfl) (fun _ => ⟨_, rfl, Or.inr rfl⟩)
def m_Gear_isScanner : p_Me := (⟨"SortWorks$Gear", "isScanner", "()Z"⟩, prog_2_method_8_code, 1, (some .boolean), 0, 0)
theorem mt_Gear_isScanner : p_Mt m_Gear_isScanner 0 := ⟨p_mem (p_tb4 (List.mem_of_getElem? (i := 121) rfl)) rfl, tw_1_5, by decide +kernel, by decide +kernel, by decide +kernel⟩
def dt_Gear_isScanner : List (Nat × Instr × Nat) := [(0, .aload_n 0, 1), (1, .getfield 35, 3), (4, .iconst 3, 1), (5, .if_icmp .eq 11, 3), (8, .aload_n 0, 1), (9, .getfield 35, 3), (12, .iconst 4, 1), (13, .if_icmp .ne 7, 3), (16, .iconst 1, 1), (17, .goto 4, 3), (20, .iconst 0, 1), (21, .ireturn, 1)]
theorem dk_Gear_isScanner (i : Nat) {pc : Nat} {ins : Instr} {len : Nat} (h : dt_Gear_isScanner[i]? = some (pc, ins, len)) : decode m_Gear_isScanner.2.1 pc = .ok (ins, len) := p_dk (b := m_Gear_isScanner.2.1) (t := dt_Gear_isScanner) (by decide +kernel) i h
def B_Gear_isScanner_16   (s0 : p_Hp) : Option (Int × p_Hp) :=
  some (1, s0)
def F_Gear_isScanner (v0 : Nat) (s0 : p_Hp) : Option (Int × p_Hp) :=
  p_gd (p_is s0 v0 0) <|
  if (p_Z s0 v0 0) = 3 then
    B_Gear_isScanner_16 s0
  else
    if (p_Z s0 v0 0) ≠ 4 then
      some (0, s0)
    else
      B_Gear_isScanner_16 s0
set_option maxRecDepth 100000 in
set_option maxHeartbeats 4000000 in
theorem tB_Gear_isScanner_16 (K : p_K) (l : Launch)   (s0 : p_Hp) (r : (Int × p_Hp)) (h : B_Gear_isScanner_16  s0 = some r) : p_Go K l m_Gear_isScanner 16 [] [] s0 (some (p_i r.1), r.2) := by
  unfold B_Gear_isScanner_16 at h
  refine g_iconst (dk_Gear_isScanner 8 rfl) (by decide) ?_
  refine g_goto 21 (dk_Gear_isScanner 9 rfl) (by decide) ?_
  cases h
  exact g_ret rfl rfl (dk_Gear_isScanner 11 rfl) (fun _ => ⟨_, rfl, Or.inr rfl⟩)
set_option maxRecDepth 100000 in
set_option maxHeartbeats 4000000 in
theorem tF_Gear_isScanner (K : p_K) (l : Launch) (v0 : Nat) (s0 : p_Hp) (r : (Int × p_Hp)) (h : F_Gear_isScanner v0 s0 = some r) : p_Ct K l m_Gear_isScanner [p_r v0] s0 (some (p_i r.1), r.2) := by
  refine p_Ct.of (by decide +kernel) (Nat.le_of_ble_eq_true rfl) ?_
  unfold F_Gear_isScanner at h
  show p_Go K l m_Gear_isScanner 0 [(0, p_r v0)] [] s0 _
  refine g_aload_n (i := 0) (j := 0) (dk_Gear_isScanner 0 rfl) rfl rfl ?_
  obtain ⟨c1, h⟩ := p_gdE h
  refine g_getI fl_Gear_35 (Or.inl rfl) (dk_Gear_isScanner 1 rfl) c1 ?_
  refine g_iconst (dk_Gear_isScanner 2 rfl) (by decide) ?_
  refine g_icmp_eq 16 (dk_Gear_isScanner 3 rfl) (by decide) (fun b2 => ?_) (fun b2 => ?_)
  · have h := p_ifT b2 h
    refine g_sub [] [] rfl ?_
    exact tB_Gear_isScanner_16 K l s0 _ h
  · have h := p_ifF b2 h
    refine g_aload_n (i := 0) (j := 0) (dk_Gear_isScanner 4 rfl) rfl rfl ?_
    refine g_getI fl_Gear_35 (Or.inl rfl) (dk_Gear_isScanner 5 rfl) c1 ?_
    refine g_iconst (dk_Gear_isScanner 6 rfl) (by decide) ?_
    refine g_icmp_ne 20 (dk_Gear_isScanner 7 rfl) (by decide) (fun b3 => ?_) (fun b3 => ?_)
    · have h := p_ifT b3 h
      refine g_iconst (dk_Gear_isScanner 10 rfl) (by decide) ?_
      cases h
      exact g_ret rfl rfl (dk_Gear_isScanner 11 rfl) (fun _ => ⟨_, rfl, Or.inl rfl⟩)
    · have h := p_ifF b3 h
      refine g_sub [] [] rfl ?_
      exact tB_Gear_isScanner_16 K l s0 _ h
def m_Gear_isOfType : p_Me := (⟨"SortWorks$Gear", "isOfType", "(I)Z"⟩, prog_2_method_11_code, 2, (some .boolean), 1, 20)
theorem mt_Gear_isOfType : p_Mt m_Gear_isOfType 1 := ⟨p_mem (p_tb4 (List.mem_of_getElem? (i := 113) rfl)) rfl, tw_1_5, by decide +kernel, by decide +kernel, by decide +kernel⟩
def dt_Gear_isOfType : List (Nat × Instr × Nat) := [(0, .iload_n 1, 1), (1, .tableswitch 39 0 2 #[27, 29, 34], 27), (28, .iconst 1, 1), (29, .ireturn, 1), (30, .aload_n 0, 1), (31, .invokevirtual 101, 3), (34, .ireturn, 1), (35, .aload_n 0, 1), (36, .invokevirtual 105, 3), (39, .ireturn, 1), (40, .aload_n 0, 1), (41, .invokevirtual 108, 3), (44, .ireturn, 1)]
theorem dk_Gear_isOfType (i : Nat) {pc : Nat} {ins : Instr} {len : Nat} (h : dt_Gear_isOfType[i]? = some (pc, ins, len)) : decode m_Gear_isOfType.2.1 pc = .ok (ins, len) := p_dk (b := m_Gear_isOfType.2.1) (t := dt_Gear_isOfType) (by decide +kernel) i h
def F_Gear_isOfType (v0 : Nat) (v1 : Int) (s0 : p_Hp) : Option (Int × p_Hp) :=
  if v1 = 0 then
    some (1, s0)
  else if v1 = 1 then
    p_gd (p_is s0 v0 0) <|
    p_bd (F_Gear_isBelt v0 s0) fun r8 s4 =>
    p_gd (r8 = 0 ∨ r8 = 1) <|
    some (r8, s4)
  else if v1 = 2 then
    p_gd (p_is s0 v0 0) <|
    p_bd (F_Gear_isScanner v0 s0) fun r16 s12 =>
    p_gd (r16 = 0 ∨ r16 = 1) <|
    some (r16, s12)
  else 
  p_gd (p_is s0 v0 0) <|
  p_bd (F_Gear_isChute v0 s0) fun r23 s19 =>
  p_gd (r23 = 0 ∨ r23 = 1) <|
  some (r23, s19)
set_option maxRecDepth 100000 in
set_option maxHeartbeats 4000000 in
theorem tF_Gear_isOfType (K : p_K) (l : Launch) (v0 : Nat) (v1 : Int) (s0 : p_Hp) (r : (Int × p_Hp)) (h : F_Gear_isOfType v0 v1 s0 = some r) : p_Ct K l m_Gear_isOfType [p_r v0, p_i v1] s0 (some (p_i r.1), r.2) := by
  refine p_Ct.of (by decide +kernel) (Nat.le_of_ble_eq_true rfl) ?_
  unfold F_Gear_isOfType at h
  show p_Go K l m_Gear_isOfType 0 [(0, p_r v0), (1, p_i v1)] [] s0 _
  refine g_iload_n (i := 1) (j := 1) (dk_Gear_isOfType 0 rfl) rfl rfl ?_
  rcases p_iteE h with ⟨b1, h⟩ | ⟨b1, h⟩
  · refine g_tableIn 28 (dk_Gear_isOfType 1 rfl) (by omega) (by omega) (by rw [b1]; rfl) (by decide) ?_
    refine g_iconst (dk_Gear_isOfType 2 rfl) (by decide) ?_
    cases h
    exact g_ret rfl rfl (dk_Gear_isOfType 3 rfl) (fun _ => ⟨_, rfl, Or.inr rfl⟩)
  rcases p_iteE h with ⟨b2, h⟩ | ⟨b2, h⟩
  · refine g_tableIn 30 (dk_Gear_isOfType 1 rfl) (by omega) (by omega) (by rw [b2]; rfl) (by decide) ?_
    refine g_aload_n (i := 0) (j := 0) (dk_Gear_isOfType 4 rfl) rfl rfl ?_
    obtain ⟨c3, h⟩ := p_gdE h
    obtain ⟨r8, s4, q5, h⟩ := p_bdE h
    have t6 := tF_Gear_isBelt K l v0 s0 _ q5
    refine g_callV (a := v0) (ci := 0) (q0 := (RX0, TX0, 20)) (As := []) (rest := []) [p_i r8] mt_Gear_isBelt rfl rfl tw_4_115 tw_4_116 tw_4_114 ⟨Nat.le_of_ble_eq_true rfl, Nat.le_of_ble_eq_true rfl⟩ rfl (Nat.le_of_ble_eq_true rfl) (dk_Gear_isOfType 5 rfl) rfl c3 rfl t6 ?_
    have hs7 : p_x s0 s4 := t6.1
    show p_Go K l m_Gear_isOfType 34 [(0, p_r v0), (1, p_i v1)] [p_i r8] s4 _
    obtain ⟨c9, h⟩ := p_gdE h
    cases h
    exact g_ret rfl rfl (dk_Gear_isOfType 6 rfl) (fun _ => ⟨_, rfl, c9⟩)
  rcases p_iteE h with ⟨b10, h⟩ | ⟨b10, h⟩
  · refine g_tableIn 35 (dk_Gear_isOfType 1 rfl) (by omega) (by omega) (by rw [b10]; rfl) (by decide) ?_
    refine g_aload_n (i := 0) (j := 0) (dk_Gear_isOfType 7 rfl) rfl rfl ?_
    obtain ⟨c11, h⟩ := p_gdE h
    obtain ⟨r16, s12, q13, h⟩ := p_bdE h
    have t14 := tF_Gear_isScanner K l v0 s0 _ q13
    refine g_callV (a := v0) (ci := 0) (q0 := (RX0, TX0, 20)) (As := []) (rest := []) [p_i r16] mt_Gear_isScanner rfl rfl tw_4_119 tw_4_120 tw_4_118 ⟨Nat.le_of_ble_eq_true rfl, Nat.le_of_ble_eq_true rfl⟩ rfl (Nat.le_of_ble_eq_true rfl) (dk_Gear_isOfType 8 rfl) rfl c11 rfl t14 ?_
    have hs15 : p_x s0 s12 := t14.1
    show p_Go K l m_Gear_isOfType 39 [(0, p_r v0), (1, p_i v1)] [p_i r16] s12 _
    obtain ⟨c17, h⟩ := p_gdE h
    cases h
    exact g_ret rfl rfl (dk_Gear_isOfType 9 rfl) (fun _ => ⟨_, rfl, c17⟩)
  refine g_tableOut 40 (dk_Gear_isOfType 1 rfl) (by omega) (by decide) ?_
  refine g_aload_n (i := 0) (j := 0) (dk_Gear_isOfType 10 rfl) rfl rfl ?_
  obtain ⟨c18, h⟩ := p_gdE h
  obtain ⟨r23, s19, q20, h⟩ := p_bdE h
  have t21 := tF_Gear_isChute K l v0 s0 _ q20
  refine g_callV (a := v0) (ci := 0) (q0 := (RX0, TX0, 20)) (As := []) (rest := []) [p_i r23] mt_Gear_isChute rfl rfl tw_3_231 tw_3_232 tw_4_122 ⟨Nat.le_of_ble_eq_true rfl, Nat.le_of_ble_eq_true rfl⟩ rfl (Nat.le_of_ble_eq_true rfl) (dk_Gear_isOfType 11 rfl) rfl c18 rfl t21 ?_
  have hs22 : p_x s0 s19 := t21.1
  show p_Go K l m_Gear_isOfType 44 [(0, p_r v0), (1, p_i v1)] [p_i r23] s19 _
  obtain ⟨c24, h⟩ := p_gdE h
  cases h
  exact g_ret rfl rfl (dk_Gear_isOfType 12 rfl) (fun _ => ⟨_, rfl, c24⟩)
def m_SW_enter : p_Me := (⟨"SortWorks", "enter", "(III)I"⟩, prog_1_method_27_code, 5, (some .int), 2, 41)
theorem mt_SW_enter : p_Mt m_SW_enter 3 := ⟨p_mem (p_tb4 (List.mem_of_getElem? (i := 109) rfl)) rfl, tw_1_1, by decide +kernel, by decide +kernel, by decide +kernel⟩
def dt_SW_enter : List (Nat × Instr × Nat) := [(0, .aload_n 0, 1), (1, .getfield 18, 3), (4, .iload_n 3, 1), (5, .invokevirtual 98, 3), (8, .astore 4, 2), (10, .iload_n 1, 1), (11, .invokestatic 252, 3), (14, .ifCond .eq 8, 3), (17, .aload 4, 2), (19, .ifnonnull 9, 3), (22, .aload_n 0, 1), (23, .iconst (-1), 1), (24, .invokevirtual 61, 3), (27, .ireturn, 1), (28, .aload_n 0, 1), (29, .getfield 18, 3), (32, .getfield 258, 3), (35, .iload_n 1, 1), (36, .iaload, 1), (37, .iconst (-1), 1), (38, .if_icmp .ne 10, 3), (41, .aload_n 0, 1), (42, .bipush (-11), 2), (44, .invokevirtual 61, 3), (47, .ireturn, 1), (48, .iload_n 2, 1), (49, .ifCond .lt 16, 3), (52, .iload_n 2, 1), (53, .aload_n 0, 1), (54, .getfield 18, 3), (57, .getfield 258, 3), (60, .iload_n 1, 1), (61, .iaload, 1), (62, .if_icmp .lt 10, 3), (65, .aload_n 0, 1), (66, .bipush (-13), 2), (68, .invokevirtual 61, 3), (71, .ireturn, 1), (72, .aload 4, 2), (74, .aload_n 0, 1), (75, .getfield 18, 3), (78, .getfield 255, 3), (81, .iload_n 1, 1), (82, .iaload, 1), (83, .invokevirtual 264, 3), (86, .ifCond .ne 10, 3), (89, .aload_n 0, 1), (90, .bipush (-14), 2), (92, .invokevirtual 61, 3), (95, .ireturn, 1), (96, .aload_n 0, 1), (97, .getfield 18, 3), (100, .getfield 261, 3), (103, .iload_n 1, 1), (104, .aaload, 1), (105, .iload_n 2, 1), (106, .iload_n 3, 1), (107, .iastore, 1), (108, .aload_n 0, 1), (109, .iconst 1, 1), (110, .invokevirtual 57, 3), (113, .ireturn, 1)]
theorem dk_SW_enter (i : Nat) {pc : Nat} {ins : Instr} {len : Nat} (h : dt_SW_enter[i]? = some (pc, ins, len)) : decode m_SW_enter.2.1 pc = .ok (ins, len) := p_dk (b := m_SW_enter.2.1) (t := dt_SW_enter) (by decide +kernel) i h
def B_SW_enter_22  (v0 : Nat) (s0 : p_Hp) : Option (Int × p_Hp) :=
  p_gd (p_is s0 v0 10) <|
  p_bd (F_SW_refuse v0 (-1) s0) fun r6 s2 =>
  some (r6, s2)
def B_SW_enter_65  (v0 : Nat) (s0 : p_Hp) : Option (Int × p_Hp) :=
  p_gd (p_is s0 v0 10) <|
  p_bd (F_SW_refuse v0 (-13) s0) fun r6 s2 =>
  some (r6, s2)
def F_SW_enter (v0 : Nat) (v1 : Int) (v2 : Int) (v3 : Int) (s0 : p_Hp) : Option (Int × p_Hp) :=
  p_gd (p_is s0 v0 10) <|
  p_gd (p_is s0 (p_R s0 v0 1) 9) <|
  p_bd (F_Works_gearOf (p_R s0 v0 1) v3 s0) fun r7 s3 =>
  p_bd (F_SW_isGroup v1 s3) fun r12 s8 =>
  if r12 = 0 then
    B_SW_enter_22 v0 s8
  else
    if r7 ≠ 0 then
      p_gd (p_is s8 (p_R s8 v0 1) 9) <|
      p_gd (p_is s8 (p_R s8 (p_R s8 v0 1) 9) 100) <|
      p_gd ((0 : Int) ≤ v1 ∧ v1 < (p_L s8 (p_R s8 (p_R s8 v0 1) 9) : Int)) <|
      if (p_Z s8 (p_R s8 (p_R s8 v0 1) 9) (v1 : Int).toNat) ≠ (-1) then
        if v2 < 0 then
          B_SW_enter_65 v0 s8
        else
          p_gd ((0 : Int) ≤ v1 ∧ v1 < (p_L s8 (p_R s8 (p_R s8 v0 1) 9) : Int)) <|
          if v2 < (p_Z s8 (p_R s8 (p_R s8 v0 1) 9) (v1 : Int).toNat) then
            p_gd (p_is s8 (p_R s8 (p_R s8 v0 1) 8) 100) <|
            p_gd ((0 : Int) ≤ v1 ∧ v1 < (p_L s8 (p_R s8 (p_R s8 v0 1) 8) : Int)) <|
            p_gd (p_is s8 r7 0) <|
            p_bd (F_Gear_isOfType r7 (p_Z s8 (p_R s8 (p_R s8 v0 1) 8) (v1 : Int).toNat) s8) fun r29 s25 =>
            if r29 ≠ 0 then
              p_gd (p_is s25 (p_R s25 v0 1) 9) <|
              p_gd (p_is s25 (p_R s25 (p_R s25 v0 1) 7) 103) <|
              p_gd ((0 : Int) ≤ v1 ∧ v1 < (p_L s25 (p_R s25 (p_R s25 v0 1) 7) : Int)) <|
              p_gd (p_is s25 (p_R s25 (p_R s25 (p_R s25 v0 1) 7) (v1 : Int).toNat) 100) <|
              p_gd ((0 : Int) ≤ v2 ∧ v2 < (p_L s25 (p_R s25 (p_R s25 (p_R s25 v0 1) 7) (v1 : Int).toNat) : Int)) <|
              p_bi (p_wZ s25 (p_R s25 (p_R s25 (p_R s25 v0 1) 7) (v1 : Int).toNat) (v2 : Int).toNat v3) fun s36 =>
              p_bd (F_SW_done v0 1 s36) fun r42 s38 =>
              some (r42, s38)
            else
              p_bd (F_SW_refuse v0 (-14) s25) fun r47 s43 =>
              some (r47, s43)
          else
            B_SW_enter_65 v0 s8
      else
        p_bd (F_SW_refuse v0 (-11) s8) fun r52 s48 =>
        some (r52, s48)
    else
      B_SW_enter_22 v0 s8
set_option maxRecDepth 100000 in
set_option maxHeartbeats 4000000 in
theorem tB_SW_enter_22 (K : p_K) (l : Launch)  (v0 : Nat) (s0 : p_Hp) (r : (Int × p_Hp)) (h : B_SW_enter_22 v0 s0 = some r) : p_Go K l m_SW_enter 22 [(0, p_r v0)] [] s0 (some (p_i r.1), r.2) := by
  unfold B_SW_enter_22 at h
  refine g_aload_n (i := 0) (j := 0) (dk_SW_enter 10 rfl) rfl rfl ?_
  refine g_iconst (dk_SW_enter 11 rfl) (by decide) ?_
  obtain ⟨c1, h⟩ := p_gdE h
  obtain ⟨r6, s2, q3, h⟩ := p_bdE h
  have t4 := tF_SW_refuse K l v0 (-1) s0 _ q3
  refine g_callV (a := v0) (ci := 10) (q0 := (RX10, TX10, 9)) (As := [p_i (-1)]) (rest := []) [p_i r6] mt_SW_refuse rfl rfl tw_3_66 ts_0 tw_3_64 ⟨Nat.le_of_ble_eq_true rfl, Nat.le_of_ble_eq_true rfl⟩ rfl (Nat.le_of_ble_eq_true rfl) (dk_SW_enter 12 rfl) rfl c1 rfl t4 ?_
  have hs5 : p_x s0 s2 := t4.1
  show p_Go K l m_SW_enter 27 [(0, p_r v0)] [p_i r6] s2 _
  cases h
  exact g_ret rfl rfl (dk_SW_enter 13 rfl) (fun os => ⟨_, rfl, p_okh os⟩)
set_option maxRecDepth 100000 in
set_option maxHeartbeats 4000000 in
theorem tB_SW_enter_65 (K : p_K) (l : Launch)  (v0 : Nat) (s0 : p_Hp) (r : (Int × p_Hp)) (h : B_SW_enter_65 v0 s0 = some r) : p_Go K l m_SW_enter 65 [(0, p_r v0)] [] s0 (some (p_i r.1), r.2) := by
  unfold B_SW_enter_65 at h
  refine g_aload_n (i := 0) (j := 0) (dk_SW_enter 34 rfl) rfl rfl ?_
  refine g_bipush (dk_SW_enter 35 rfl) (by decide +kernel) (by decide) ?_
  obtain ⟨c1, h⟩ := p_gdE h
  obtain ⟨r6, s2, q3, h⟩ := p_bdE h
  have t4 := tF_SW_refuse K l v0 (-13) s0 _ q3
  refine g_callV (a := v0) (ci := 10) (q0 := (RX10, TX10, 9)) (As := [p_i (-13)]) (rest := []) [p_i r6] mt_SW_refuse rfl rfl tw_3_66 ts_0 tw_3_64 ⟨Nat.le_of_ble_eq_true rfl, Nat.le_of_ble_eq_true rfl⟩ rfl (Nat.le_of_ble_eq_true rfl) (dk_SW_enter 36 rfl) rfl c1 rfl t4 ?_
  have hs5 : p_x s0 s2 := t4.1
  show p_Go K l m_SW_enter 71 [(0, p_r v0)] [p_i r6] s2 _
  cases h
  exact g_ret rfl rfl (dk_SW_enter 37 rfl) (fun os => ⟨_, rfl, p_okh os⟩)
set_option maxRecDepth 100000 in
set_option maxHeartbeats 4000000 in
theorem tF_SW_enter (K : p_K) (l : Launch) (v0 : Nat) (v1 : Int) (v2 : Int) (v3 : Int) (s0 : p_Hp) (r : (Int × p_Hp)) (h : F_SW_enter v0 v1 v2 v3 s0 = some r) : p_Ct K l m_SW_enter [p_r v0, p_i v1, p_i v2, p_i v3] s0 (some (p_i r.1), r.2) := by
  refine p_Ct.of (by decide +kernel) (Nat.le_of_ble_eq_true rfl) ?_
  unfold F_SW_enter at h
  show p_Go K l m_SW_enter 0 [(0, p_r v0), (1, p_i v1), (2, p_i v2), (3, p_i v3)] [] s0 _
  refine g_aload_n (i := 0) (j := 0) (dk_SW_enter 0 rfl) rfl rfl ?_
  obtain ⟨c1, h⟩ := p_gdE h
  refine g_getR fl_SW_18 (Or.inl ⟨_, rfl⟩) (dk_SW_enter 1 rfl) c1 ?_
  refine g_iload_n (i := 3) (j := 3) (dk_SW_enter 2 rfl) rfl rfl ?_
  obtain ⟨c2, h⟩ := p_gdE h
  obtain ⟨r7, s3, q4, h⟩ := p_bdE h
  have t5 := tF_Works_gearOf K l (p_R s0 v0 1) v3 s0 _ q4
  refine g_callV (a := (p_R s0 v0 1)) (ci := 9) (q0 := (RX9, TX9, 15)) (As := [p_i v3]) (rest := []) [p_r r7] mt_Works_gearOf rfl rfl tw_3_104 tw_3_105 tw_3_103 ⟨Nat.le_of_ble_eq_true rfl, Nat.le_of_ble_eq_true rfl⟩ rfl (Nat.le_of_ble_eq_true rfl) (dk_SW_enter 3 rfl) rfl c2 rfl t5 ?_
  have hs6 : p_x s0 s3 := t5.1
  show p_Go K l m_SW_enter 8 [(0, p_r v0), (1, p_i v1), (2, p_i v2), (3, p_i v3)] [p_r r7] s3 _
  refine g_astore [(4, p_r r7), (0, p_r v0), (1, p_i v1), (2, p_i v2), (3, p_i v3)] (dk_SW_enter 4 rfl) (by decide) rfl ?_
  refine g_iload_n (i := 1) (j := 2) (dk_SW_enter 5 rfl) rfl rfl ?_
  obtain ⟨r12, s8, q9, h⟩ := p_bdE h
  have t10 := tF_SW_isGroup K l v1 s3 _ q9
  refine g_callS (av := [p_i v1]) (rest := []) [p_i r12] mt_SW_isGroup tw_4_104 tw_4_103 ⟨Nat.le_of_ble_eq_true rfl, Nat.le_of_ble_eq_true rfl⟩ rfl (Nat.le_of_ble_eq_true rfl) (dk_SW_enter 6 rfl) rfl rfl t10 ?_
  have hs11 : p_x s3 s8 := t10.1
  show p_Go K l m_SW_enter 14 [(4, p_r r7), (0, p_r v0), (1, p_i v1), (2, p_i v2), (3, p_i v3)] [p_i r12] s8 _
  refine g_if_eq 22 (dk_SW_enter 7 rfl) (by decide) (fun b13 => ?_) (fun b13 => ?_)
  · have h := p_ifT b13 h
    refine g_sub [(0, p_r v0)] [1] rfl ?_
    exact tB_SW_enter_22 K l v0 s8 _ h
  · have h := p_ifF b13 h
    refine g_aload (j := 0) (dk_SW_enter 8 rfl) rfl ?_
    refine g_ifnonnull 28 (dk_SW_enter 9 rfl) (by decide) (fun b14 => ?_) (fun b14 => ?_)
    · have h := p_ifT b14 h
      refine g_aload_n (i := 0) (j := 1) (dk_SW_enter 14 rfl) rfl rfl ?_
      refine g_getR fl_SW_18 (Or.inl ⟨_, rfl⟩) (dk_SW_enter 15 rfl) (c1.up (hs6.trans hs11)) ?_
      obtain ⟨c15, h⟩ := p_gdE h
      refine g_getR fl_SW_258 (Or.inr ⟨_, rfl⟩) (dk_SW_enter 16 rfl) c15 ?_
      refine g_iload_n (i := 1) (j := 2) (dk_SW_enter 17 rfl) rfl rfl ?_
      obtain ⟨c16, h⟩ := p_gdE h
      obtain ⟨c17, h⟩ := p_gdE h
      refine g_iaload (dk_SW_enter 18 rfl) c16 c17.1 c17.2 ?_
      refine g_iconst (dk_SW_enter 19 rfl) (by decide) ?_
      refine g_icmp_ne 48 (dk_SW_enter 20 rfl) (by decide) (fun b18 => ?_) (fun b18 => ?_)
      · have h := p_ifT b18 h
        refine g_iload_n (i := 2) (j := 3) (dk_SW_enter 25 rfl) rfl rfl ?_
        refine g_if_lt 65 (dk_SW_enter 26 rfl) (by decide) (fun b19 => ?_) (fun b19 => ?_)
        · have h := p_ifT b19 h
          refine g_sub [(0, p_r v0)] [1] rfl ?_
          exact tB_SW_enter_65 K l v0 s8 _ h
        · have h := p_ifF b19 h
          refine g_iload_n (i := 2) (j := 3) (dk_SW_enter 27 rfl) rfl rfl ?_
          refine g_aload_n (i := 0) (j := 1) (dk_SW_enter 28 rfl) rfl rfl ?_
          refine g_getR fl_SW_18 (Or.inl ⟨_, rfl⟩) (dk_SW_enter 29 rfl) (c1.up (hs6.trans hs11)) ?_
          refine g_getR fl_SW_258 (Or.inr ⟨_, rfl⟩) (dk_SW_enter 30 rfl) c15 ?_
          refine g_iload_n (i := 1) (j := 2) (dk_SW_enter 31 rfl) rfl rfl ?_
          obtain ⟨c20, h⟩ := p_gdE h
          refine g_iaload (dk_SW_enter 32 rfl) c16 c20.1 c20.2 ?_
          refine g_icmp_lt 72 (dk_SW_enter 33 rfl) (by decide) (fun b21 => ?_) (fun b21 => ?_)
          · have h := p_ifT b21 h
            refine g_aload (j := 0) (dk_SW_enter 38 rfl) rfl ?_
            refine g_aload_n (i := 0) (j := 1) (dk_SW_enter 39 rfl) rfl rfl ?_
            refine g_getR fl_SW_18 (Or.inl ⟨_, rfl⟩) (dk_SW_enter 40 rfl) (c1.up (hs6.trans hs11)) ?_
            refine g_getR fl_SW_255 (Or.inr ⟨_, rfl⟩) (dk_SW_enter 41 rfl) c15 ?_
            refine g_iload_n (i := 1) (j := 2) (dk_SW_enter 42 rfl) rfl rfl ?_
            obtain ⟨c22, h⟩ := p_gdE h
            obtain ⟨c23, h⟩ := p_gdE h
            refine g_iaload (dk_SW_enter 43 rfl) c22 c23.1 c23.2 ?_
            obtain ⟨c24, h⟩ := p_gdE h
            obtain ⟨r29, s25, q26, h⟩ := p_bdE h
            have t27 := tF_Gear_isOfType K l r7 (p_Z s8 (p_R s8 (p_R s8 v0 1) 8) (v1 : Int).toNat) s8 _ q26
            refine g_callV (a := r7) (ci := 0) (q0 := (RX0, TX0, 20)) (As := [p_i (p_Z s8 (p_R s8 (p_R s8 v0 1) 8) (v1 : Int).toNat)]) (rest := []) [p_i r29] mt_Gear_isOfType rfl rfl tw_4_111 tw_4_112 tw_4_110 ⟨Nat.le_of_ble_eq_true rfl, Nat.le_of_ble_eq_true rfl⟩ rfl (Nat.le_of_ble_eq_true rfl) (dk_SW_enter 44 rfl) rfl c24 rfl t27 ?_
            have hs28 : p_x s8 s25 := t27.1
            show p_Go K l m_SW_enter 86 [(4, p_r r7), (0, p_r v0), (1, p_i v1), (2, p_i v2), (3, p_i v3)] [p_i r29] s25 _
            refine g_if_ne 96 (dk_SW_enter 45 rfl) (by decide) (fun b30 => ?_) (fun b30 => ?_)
            · have h := p_ifT b30 h
              refine g_aload_n (i := 0) (j := 1) (dk_SW_enter 50 rfl) rfl rfl ?_
              refine g_getR fl_SW_18 (Or.inl ⟨_, rfl⟩) (dk_SW_enter 51 rfl) (c1.up (hs6.trans (hs11.trans hs28))) ?_
              obtain ⟨c31, h⟩ := p_gdE h
              refine g_getR fl_SW_261 (Or.inr ⟨_, rfl⟩) (dk_SW_enter 52 rfl) c31 ?_
              refine g_iload_n (i := 1) (j := 2) (dk_SW_enter 53 rfl) rfl rfl ?_
              obtain ⟨c32, h⟩ := p_gdE h
              obtain ⟨c33, h⟩ := p_gdE h
              refine g_aaload (i := 3) rfl (Or.inr ⟨_, rfl⟩) (dk_SW_enter 54 rfl) c32 c33.1 c33.2 ?_
              refine g_iload_n (i := 2) (j := 3) (dk_SW_enter 55 rfl) rfl rfl ?_
              refine g_iload_n (i := 3) (j := 4) (dk_SW_enter 56 rfl) rfl rfl ?_
              obtain ⟨c34, h⟩ := p_gdE h
              obtain ⟨c35, h⟩ := p_gdE h
              refine g_iastore (dk_SW_enter 57 rfl) c34 c35.1 c35.2 ?_
              refine p_ltS (P := fun q => p_Go K l m_SW_enter 108 [(4, p_r r7), (0, p_r v0), (1, p_i v1), (2, p_i v2), (3, p_i v3)] [] q _) (p_xZ _ _ _ _) ?_ h
              intro s36 hs37 h
              refine g_aload_n (i := 0) (j := 1) (dk_SW_enter 58 rfl) rfl rfl ?_
              refine g_iconst (dk_SW_enter 59 rfl) (by decide) ?_
              obtain ⟨r42, s38, q39, h⟩ := p_bdE h
              have t40 := tF_SW_done K l v0 1 s36 _ q39
              refine g_callV (a := v0) (ci := 10) (q0 := (RX10, TX10, 9)) (As := [p_i 1]) (rest := []) [p_i r42] mt_SW_done rfl rfl tw_3_70 ts_1 tw_3_68 ⟨Nat.le_of_ble_eq_true rfl, Nat.le_of_ble_eq_true rfl⟩ rfl (Nat.le_of_ble_eq_true rfl) (dk_SW_enter 60 rfl) rfl (c1.up (hs6.trans (hs11.trans (hs28.trans hs37)))) rfl t40 ?_
              have hs41 : p_x s36 s38 := t40.1
              show p_Go K l m_SW_enter 113 [(4, p_r r7), (0, p_r v0), (1, p_i v1), (2, p_i v2), (3, p_i v3)] [p_i r42] s38 _
              cases h
              exact g_ret rfl rfl (dk_SW_enter 61 rfl) (fun os => ⟨_, rfl, p_okh os⟩)
            · have h := p_ifF b30 h
              refine g_aload_n (i := 0) (j := 1) (dk_SW_enter 46 rfl) rfl rfl ?_
              refine g_bipush (dk_SW_enter 47 rfl) (by decide +kernel) (by decide) ?_
              obtain ⟨r47, s43, q44, h⟩ := p_bdE h
              have t45 := tF_SW_refuse K l v0 (-14) s25 _ q44
              refine g_callV (a := v0) (ci := 10) (q0 := (RX10, TX10, 9)) (As := [p_i (-14)]) (rest := []) [p_i r47] mt_SW_refuse rfl rfl tw_3_66 ts_0 tw_3_64 ⟨Nat.le_of_ble_eq_true rfl, Nat.le_of_ble_eq_true rfl⟩ rfl (Nat.le_of_ble_eq_true rfl) (dk_SW_enter 48 rfl) rfl (c1.up (hs6.trans (hs11.trans hs28))) rfl t45 ?_
              have hs46 : p_x s25 s43 := t45.1
              show p_Go K l m_SW_enter 95 [(4, p_r r7), (0, p_r v0), (1, p_i v1), (2, p_i v2), (3, p_i v3)] [p_i r47] s43 _
              cases h
              exact g_ret rfl rfl (dk_SW_enter 49 rfl) (fun os => ⟨_, rfl, p_okh os⟩)
          · have h := p_ifF b21 h
            refine g_sub [(0, p_r v0)] [1] rfl ?_
            exact tB_SW_enter_65 K l v0 s8 _ h
      · have h := p_ifF b18 h
        refine g_aload_n (i := 0) (j := 1) (dk_SW_enter 21 rfl) rfl rfl ?_
        refine g_bipush (dk_SW_enter 22 rfl) (by decide +kernel) (by decide) ?_
        obtain ⟨r52, s48, q49, h⟩ := p_bdE h
        have t50 := tF_SW_refuse K l v0 (-11) s8 _ q49
        refine g_callV (a := v0) (ci := 10) (q0 := (RX10, TX10, 9)) (As := [p_i (-11)]) (rest := []) [p_i r52] mt_SW_refuse rfl rfl tw_3_66 ts_0 tw_3_64 ⟨Nat.le_of_ble_eq_true rfl, Nat.le_of_ble_eq_true rfl⟩ rfl (Nat.le_of_ble_eq_true rfl) (dk_SW_enter 23 rfl) rfl (c1.up (hs6.trans hs11)) rfl t50 ?_
        have hs51 : p_x s8 s48 := t50.1
        show p_Go K l m_SW_enter 47 [(4, p_r r7), (0, p_r v0), (1, p_i v1), (2, p_i v2), (3, p_i v3)] [p_i r52] s48 _
        cases h
        exact g_ret rfl rfl (dk_SW_enter 24 rfl) (fun os => ⟨_, rfl, p_okh os⟩)
    · have h := p_ifF b14 h
      refine g_sub [(0, p_r v0)] [1] rfl ?_
      exact tB_SW_enter_22 K l v0 s8 _ h
def m_SW_tally : p_Me := (⟨"SortWorks", "tally", "(II)I"⟩, prog_1_method_28_code, 6, (some .int), 1, 22)
theorem mt_SW_tally : p_Mt m_SW_tally 2 := ⟨p_mem (p_tb4 (List.mem_of_getElem? (i := 126) rfl)) rfl, tw_1_1, by decide +kernel, by decide +kernel, by decide +kernel⟩
def dt_SW_tally : List (Nat × Instr × Nat) := [(0, .iload_n 1, 1), (1, .invokestatic 252, 3), (4, .ifCond .ne 9, 3), (7, .aload_n 0, 1), (8, .iconst (-1), 1), (9, .invokevirtual 61, 3), (12, .ireturn, 1), (13, .iload_n 2, 1), (14, .ifCond .lt 8, 3), (17, .iload_n 2, 1), (18, .iconst 2, 1), (19, .if_icmp .le 10, 3), (22, .aload_n 0, 1), (23, .bipush (-2), 2), (25, .invokevirtual 61, 3), (28, .ireturn, 1), (29, .aload_n 0, 1), (30, .getfield 18, 3), (33, .getfield 258, 3), (36, .iload_n 1, 1), (37, .iaload, 1), (38, .iconst (-1), 1), (39, .if_icmp .ne 10, 3), (42, .aload_n 0, 1), (43, .bipush (-11), 2), (45, .invokevirtual 61, 3), (48, .ireturn, 1), (49, .iconst 0, 1), (50, .istore_n 3, 1), (51, .iconst 0, 1), (52, .istore 4, 2), (54, .iload 4, 2), (56, .aload_n 0, 1), (57, .getfield 18, 3), (60, .getfield 258, 3), (63, .iload_n 1, 1), (64, .iaload, 1), (65, .if_icmp .ge 75, 3), (68, .aload_n 0, 1), (69, .getfield 18, 3), (72, .aload_n 0, 1), (73, .getfield 18, 3), (76, .getfield 261, 3), (79, .iload_n 1, 1), (80, .aaload, 1), (81, .iload 4, 2), (83, .iaload, 1), (84, .invokevirtual 98, 3), (87, .astore 5, 2), (89, .aload 5, 2), (91, .ifnonnull 10, 3), (94, .aload_n 0, 1), (95, .bipush (-11), 2), (97, .invokevirtual 61, 3), (100, .ireturn, 1), (101, .iload_n 3, 1), (102, .iload_n 2, 1), (103, .ifCond .ne 11, 3), (106, .aload 5, 2), (108, .invokevirtual 135, 3), (111, .goto 21, 3), (114, .iload_n 2, 1), (115, .iconst 1, 1), (116, .if_icmp .ne 11, 3), (119, .aload 5, 2), (121, .getfield 267, 3), (124, .goto 8, 3), (127, .aload 5, 2), (129, .getfield 270, 3), (132, .iadd, 1), (133, .istore_n 3, 1), (134, .iinc 4 1, 3), (137, .goto (-83), 3), (140, .aload_n 0, 1), (141, .iload_n 3, 1), (142, .invokevirtual 57, 3), (145, .ireturn, 1)]
theorem dk_SW_tally (i : Nat) {pc : Nat} {ins : Instr} {len : Nat} (h : dt_SW_tally[i]? = some (pc, ins, len)) : decode m_SW_tally.2.1 pc = .ok (ins, len) := p_dk (b := m_SW_tally.2.1) (t := dt_SW_tally) (by decide +kernel) i h
def B_SW_tally_22  (v0 : Nat) (s0 : p_Hp) : Option (Int × p_Hp) :=
  p_gd (p_is s0 v0 10) <|
  p_bd (F_SW_refuse v0 (-2) s0) fun r6 s2 =>
  some (r6, s2)
def B_SW_tally_132 (k54 : Nat → Int → Int → Int → Int → p_Hp → Option (Int × p_Hp)) (v0 : Nat) (v1 : Int) (v2 : Int) (v4 : Int) (w0 : Int) (w1 : Int) (s0 : p_Hp) : Option (Int × p_Hp) :=
  p_bi ((p_w (w1 + w0))) fun x1 =>
  p_bi (p_w (v4 + 1)) fun x2 =>
  k54 v0 v1 v2 x1 x2 s0
def L_SW_tally_54 (k54 : Nat → Int → Int → Int → Int → p_Hp → Option (Int × p_Hp)) (v0 : Nat) (v1 : Int) (v2 : Int) (v3 : Int) (v4 : Int) (s0 : p_Hp) : Option (Int × p_Hp) :=
  p_gd (p_is s0 v0 10) <|
  p_gd (p_is s0 (p_R s0 v0 1) 9) <|
  p_gd (p_is s0 (p_R s0 (p_R s0 v0 1) 9) 100) <|
  p_gd ((0 : Int) ≤ v1 ∧ v1 < (p_L s0 (p_R s0 (p_R s0 v0 1) 9) : Int)) <|
  if (p_Z s0 (p_R s0 (p_R s0 v0 1) 9) (v1 : Int).toNat) ≤ v4 then
    p_bd (F_SW_done v0 v3 s0) fun r10 s6 =>
    some (r10, s6)
  else
    p_gd (p_is s0 (p_R s0 (p_R s0 v0 1) 7) 103) <|
    p_gd ((0 : Int) ≤ v1 ∧ v1 < (p_L s0 (p_R s0 (p_R s0 v0 1) 7) : Int)) <|
    p_gd (p_is s0 (p_R s0 (p_R s0 (p_R s0 v0 1) 7) (v1 : Int).toNat) 100) <|
    p_gd ((0 : Int) ≤ v4 ∧ v4 < (p_L s0 (p_R s0 (p_R s0 (p_R s0 v0 1) 7) (v1 : Int).toNat) : Int)) <|
    p_bd (F_Works_gearOf (p_R s0 v0 1) (p_Z s0 (p_R s0 (p_R s0 (p_R s0 v0 1) 7) (v1 : Int).toNat) (v4 : Int).toNat) s0) fun r19 s15 =>
    if r19 ≠ 0 then
      if v2 ≠ 0 then
        if v2 ≠ 1 then
          p_gd (p_is s15 r19 0) <|
          B_SW_tally_132 k54 v0 v1 v2 v4 (p_Z s15 r19 11) v3 s15
        else
          p_gd (p_is s15 r19 0) <|
          B_SW_tally_132 k54 v0 v1 v2 v4 (p_Z s15 r19 10) v3 s15
      else
        p_gd (p_is s15 r19 0) <|
        p_bd (F_Gear_parcels r19 s15) fun r30 s26 =>
        B_SW_tally_132 k54 v0 v1 v2 v4 r30 v3 s26
    else
      p_bd (F_SW_refuse v0 (-11) s15) fun r35 s31 =>
      some (r35, s31)
def O_SW_tally_54  : Nat → Nat → Int → Int → Int → Int → p_Hp → Option (Int × p_Hp)
  | 0 => fun _ _ _ _ _ _ => none
  | n + 1 => L_SW_tally_54 (O_SW_tally_54 n)
def F_SW_tally (v0 : Nat) (v1 : Int) (v2 : Int) (s0 : p_Hp) : Option (Int × p_Hp) :=
  p_bd (F_SW_isGroup v1 s0) fun r5 s1 =>
  if r5 ≠ 0 then
    if v2 < 0 then
      B_SW_tally_22 v0 s1
    else
      if v2 ≤ 2 then
        p_gd (p_is s1 v0 10) <|
        p_gd (p_is s1 (p_R s1 v0 1) 9) <|
        p_gd (p_is s1 (p_R s1 (p_R s1 v0 1) 9) 100) <|
        p_gd ((0 : Int) ≤ v1 ∧ v1 < (p_L s1 (p_R s1 (p_R s1 v0 1) 9) : Int)) <|
        if (p_Z s1 (p_R s1 (p_R s1 v0 1) 9) (v1 : Int).toNat) ≠ (-1) then
          O_SW_tally_54 3000 v0 v1 v2 0 0 s1
        else
          p_bd (F_SW_refuse v0 (-11) s1) fun r18 s14 =>
          some (r18, s14)
      else
        B_SW_tally_22 v0 s1
  else
    p_gd (p_is s1 v0 10) <|
    p_bd (F_SW_refuse v0 (-1) s1) fun r24 s20 =>
    some (r24, s20)
set_option maxRecDepth 100000 in
set_option maxHeartbeats 4000000 in
theorem tB_SW_tally_22 (K : p_K) (l : Launch)  (v0 : Nat) (s0 : p_Hp) (r : (Int × p_Hp)) (h : B_SW_tally_22 v0 s0 = some r) : p_Go K l m_SW_tally 22 [(0, p_r v0)] [] s0 (some (p_i r.1), r.2) := by
  unfold B_SW_tally_22 at h
  refine g_aload_n (i := 0) (j := 0) (dk_SW_tally 12 rfl) rfl rfl ?_
  refine g_bipush (dk_SW_tally 13 rfl) (by decide +kernel) (by decide) ?_
  obtain ⟨c1, h⟩ := p_gdE h
  obtain ⟨r6, s2, q3, h⟩ := p_bdE h
  have t4 := tF_SW_refuse K l v0 (-2) s0 _ q3
  refine g_callV (a := v0) (ci := 10) (q0 := (RX10, TX10, 9)) (As := [p_i (-2)]) (rest := []) [p_i r6] mt_SW_refuse rfl rfl tw_3_66 ts_0 tw_3_64 ⟨Nat.le_of_ble_eq_true rfl, Nat.le_of_ble_eq_true rfl⟩ rfl (Nat.le_of_ble_eq_true rfl) (dk_SW_tally 14 rfl) rfl c1 rfl t4 ?_
  have hs5 : p_x s0 s2 := t4.1
  show p_Go K l m_SW_tally 28 [(0, p_r v0)] [p_i r6] s2 _
  cases h
  exact g_ret rfl rfl (dk_SW_tally 15 rfl) (fun os => ⟨_, rfl, p_okh os⟩)
set_option maxRecDepth 100000 in
set_option maxHeartbeats 4000000 in
theorem tB_SW_tally_132 (K : p_K) (l : Launch) (k54 : Nat → Int → Int → Int → Int → p_Hp → Option (Int × p_Hp)) (hk54 : ∀ (v0 : Nat) (v1 : Int) (v2 : Int) (v3 : Int) (v4 : Int)  (s0 : p_Hp) (r : (Int × p_Hp)), k54 v0 v1 v2 v3 v4 s0 = some r → p_Go K l m_SW_tally 54 [(0, p_r v0), (1, p_i v1), (2, p_i v2), (3, p_i v3), (4, p_i v4)] [] s0 (some (p_i r.1), r.2)) (v0 : Nat) (v1 : Int) (v2 : Int) (v4 : Int) (w0 : Int) (w1 : Int) (s0 : p_Hp) (r : (Int × p_Hp)) (h : B_SW_tally_132 k54 v0 v1 v2 v4 w0 w1 s0 = some r) : p_Go K l m_SW_tally 132 [(0, p_r v0), (1, p_i v1), (2, p_i v2), (4, p_i v4)] [p_i w0, p_i w1] s0 (some (p_i r.1), r.2) := by
  unfold B_SW_tally_132 at h
  refine g_iadd (dk_SW_tally 69 rfl) ?_
  refine g_istore_n (i := 3) [(3, p_i (p_w (w1 + w0))), (0, p_r v0), (1, p_i v1), (2, p_i v2), (4, p_i v4)] (dk_SW_tally 70 rfl) rfl (by decide) rfl ?_
  refine p_ltG (P := fun q => p_Go K l m_SW_tally 134 [(3, p_i q), (0, p_r v0), (1, p_i v1), (2, p_i v2), (4, p_i v4)] [] s0 _) ?_ h
  intro x1 h
  refine g_iinc (j := 4) [(4, p_i (p_w (v4 + 1))), (3, p_i x1), (0, p_r v0), (1, p_i v1), (2, p_i v2)] (dk_SW_tally 71 rfl) rfl (by decide) rfl ?_
  refine p_ltG (P := fun q => p_Go K l m_SW_tally 137 [(4, p_i q), (3, p_i x1), (0, p_r v0), (1, p_i v1), (2, p_i v2)] [] s0 _) ?_ h
  intro x2 h
  refine g_goto 54 (dk_SW_tally 72 rfl) (by decide) ?_
  refine g_sub [(0, p_r v0), (1, p_i v1), (2, p_i v2), (3, p_i x1), (4, p_i x2)] [2, 3, 4, 1, 0] rfl ?_
  exact hk54 v0 v1 v2 x1 x2 s0 _ h
set_option maxRecDepth 100000 in
set_option maxHeartbeats 4000000 in
theorem tL_SW_tally_54 (K : p_K) (l : Launch) (k54 : Nat → Int → Int → Int → Int → p_Hp → Option (Int × p_Hp)) (hk54 : ∀ (v0 : Nat) (v1 : Int) (v2 : Int) (v3 : Int) (v4 : Int)  (s0 : p_Hp) (r : (Int × p_Hp)), k54 v0 v1 v2 v3 v4 s0 = some r → p_Go K l m_SW_tally 54 [(0, p_r v0), (1, p_i v1), (2, p_i v2), (3, p_i v3), (4, p_i v4)] [] s0 (some (p_i r.1), r.2)) (v0 : Nat) (v1 : Int) (v2 : Int) (v3 : Int) (v4 : Int) (s0 : p_Hp) (r : (Int × p_Hp)) (h : L_SW_tally_54 k54 v0 v1 v2 v3 v4 s0 = some r) : p_Go K l m_SW_tally 54 [(0, p_r v0), (1, p_i v1), (2, p_i v2), (3, p_i v3), (4, p_i v4)] [] s0 (some (p_i r.1), r.2) := by
  unfold L_SW_tally_54 at h
  refine g_iload (j := 4) (dk_SW_tally 31 rfl) rfl ?_
  refine g_aload_n (i := 0) (j := 0) (dk_SW_tally 32 rfl) rfl rfl ?_
  obtain ⟨c1, h⟩ := p_gdE h
  refine g_getR fl_SW_18 (Or.inl ⟨_, rfl⟩) (dk_SW_tally 33 rfl) c1 ?_
  obtain ⟨c2, h⟩ := p_gdE h
  refine g_getR fl_SW_258 (Or.inr ⟨_, rfl⟩) (dk_SW_tally 34 rfl) c2 ?_
  refine g_iload_n (i := 1) (j := 1) (dk_SW_tally 35 rfl) rfl rfl ?_
  obtain ⟨c3, h⟩ := p_gdE h
  obtain ⟨c4, h⟩ := p_gdE h
  refine g_iaload (dk_SW_tally 36 rfl) c3 c4.1 c4.2 ?_
  refine g_icmp_ge 140 (dk_SW_tally 37 rfl) (by decide) (fun b5 => ?_) (fun b5 => ?_)
  · have h := p_ifT b5 h
    refine g_aload_n (i := 0) (j := 0) (dk_SW_tally 73 rfl) rfl rfl ?_
    refine g_iload_n (i := 3) (j := 3) (dk_SW_tally 74 rfl) rfl rfl ?_
    obtain ⟨r10, s6, q7, h⟩ := p_bdE h
    have t8 := tF_SW_done K l v0 v3 s0 _ q7
    refine g_callV (a := v0) (ci := 10) (q0 := (RX10, TX10, 9)) (As := [p_i v3]) (rest := []) [p_i r10] mt_SW_done rfl rfl tw_3_70 ts_1 tw_3_68 ⟨Nat.le_of_ble_eq_true rfl, Nat.le_of_ble_eq_true rfl⟩ rfl (Nat.le_of_ble_eq_true rfl) (dk_SW_tally 75 rfl) rfl c1 rfl t8 ?_
    have hs9 : p_x s0 s6 := t8.1
    show p_Go K l m_SW_tally 145 [(0, p_r v0), (1, p_i v1), (2, p_i v2), (3, p_i v3), (4, p_i v4)] [p_i r10] s6 _
    cases h
    exact g_ret rfl rfl (dk_SW_tally 76 rfl) (fun os => ⟨_, rfl, p_okh os⟩)
  · have h := p_ifF b5 h
    refine g_aload_n (i := 0) (j := 0) (dk_SW_tally 38 rfl) rfl rfl ?_
    refine g_getR fl_SW_18 (Or.inl ⟨_, rfl⟩) (dk_SW_tally 39 rfl) c1 ?_
    refine g_aload_n (i := 0) (j := 0) (dk_SW_tally 40 rfl) rfl rfl ?_
    refine g_getR fl_SW_18 (Or.inl ⟨_, rfl⟩) (dk_SW_tally 41 rfl) c1 ?_
    refine g_getR fl_SW_261 (Or.inr ⟨_, rfl⟩) (dk_SW_tally 42 rfl) c2 ?_
    refine g_iload_n (i := 1) (j := 1) (dk_SW_tally 43 rfl) rfl rfl ?_
    obtain ⟨c11, h⟩ := p_gdE h
    obtain ⟨c12, h⟩ := p_gdE h
    refine g_aaload (i := 3) rfl (Or.inr ⟨_, rfl⟩) (dk_SW_tally 44 rfl) c11 c12.1 c12.2 ?_
    refine g_iload (j := 4) (dk_SW_tally 45 rfl) rfl ?_
    obtain ⟨c13, h⟩ := p_gdE h
    obtain ⟨c14, h⟩ := p_gdE h
    refine g_iaload (dk_SW_tally 46 rfl) c13 c14.1 c14.2 ?_
    obtain ⟨r19, s15, q16, h⟩ := p_bdE h
    have t17 := tF_Works_gearOf K l (p_R s0 v0 1) (p_Z s0 (p_R s0 (p_R s0 (p_R s0 v0 1) 7) (v1 : Int).toNat) (v4 : Int).toNat) s0 _ q16
    refine g_callV (a := (p_R s0 v0 1)) (ci := 9) (q0 := (RX9, TX9, 15)) (As := [p_i (p_Z s0 (p_R s0 (p_R s0 (p_R s0 v0 1) 7) (v1 : Int).toNat) (v4 : Int).toNat)]) (rest := []) [p_r r19] mt_Works_gearOf rfl rfl tw_3_104 tw_3_105 tw_3_103 ⟨Nat.le_of_ble_eq_true rfl, Nat.le_of_ble_eq_true rfl⟩ rfl (Nat.le_of_ble_eq_true rfl) (dk_SW_tally 47 rfl) rfl c2 rfl t17 ?_
    have hs18 : p_x s0 s15 := t17.1
    show p_Go K l m_SW_tally 87 [(0, p_r v0), (1, p_i v1), (2, p_i v2), (3, p_i v3), (4, p_i v4)] [p_r r19] s15 _
    refine g_astore [(5, p_r r19), (0, p_r v0), (1, p_i v1), (2, p_i v2), (3, p_i v3), (4, p_i v4)] (dk_SW_tally 48 rfl) (by decide) rfl ?_
    refine g_aload (j := 0) (dk_SW_tally 49 rfl) rfl ?_
    refine g_ifnonnull 101 (dk_SW_tally 50 rfl) (by decide) (fun b20 => ?_) (fun b20 => ?_)
    · have h := p_ifT b20 h
      refine g_iload_n (i := 3) (j := 4) (dk_SW_tally 55 rfl) rfl rfl ?_
      refine g_iload_n (i := 2) (j := 3) (dk_SW_tally 56 rfl) rfl rfl ?_
      refine g_if_ne 114 (dk_SW_tally 57 rfl) (by decide) (fun b21 => ?_) (fun b21 => ?_)
      · have h := p_ifT b21 h
        refine g_iload_n (i := 2) (j := 3) (dk_SW_tally 61 rfl) rfl rfl ?_
        refine g_iconst (dk_SW_tally 62 rfl) (by decide) ?_
        refine g_icmp_ne 127 (dk_SW_tally 63 rfl) (by decide) (fun b22 => ?_) (fun b22 => ?_)
        · have h := p_ifT b22 h
          refine g_aload (j := 0) (dk_SW_tally 67 rfl) rfl ?_
          obtain ⟨c23, h⟩ := p_gdE h
          refine g_getI fl_SW_270 (Or.inl rfl) (dk_SW_tally 68 rfl) c23 ?_
          refine g_sub [(0, p_r v0), (1, p_i v1), (2, p_i v2), (4, p_i v4)] [1, 2, 3, 5] rfl ?_
          exact tB_SW_tally_132 K l k54 hk54 v0 v1 v2 v4 (p_Z s15 r19 11) v3 s15 _ h
        · have h := p_ifF b22 h
          refine g_aload (j := 0) (dk_SW_tally 64 rfl) rfl ?_
          obtain ⟨c24, h⟩ := p_gdE h
          refine g_getI fl_SW_267 (Or.inl rfl) (dk_SW_tally 65 rfl) c24 ?_
          refine g_goto 132 (dk_SW_tally 66 rfl) (by decide) ?_
          refine g_sub [(0, p_r v0), (1, p_i v1), (2, p_i v2), (4, p_i v4)] [1, 2, 3, 5] rfl ?_
          exact tB_SW_tally_132 K l k54 hk54 v0 v1 v2 v4 (p_Z s15 r19 10) v3 s15 _ h
      · have h := p_ifF b21 h
        refine g_aload (j := 0) (dk_SW_tally 58 rfl) rfl ?_
        obtain ⟨c25, h⟩ := p_gdE h
        obtain ⟨r30, s26, q27, h⟩ := p_bdE h
        have t28 := tF_Gear_parcels K l r19 s15 _ q27
        refine g_callV (a := r19) (ci := 0) (q0 := (RX0, TX0, 20)) (As := []) (rest := [p_i v3]) [p_i r30, p_i v3] mt_Gear_parcels rfl rfl tw_3_151 tw_3_152 tw_3_150 ⟨Nat.le_of_ble_eq_true rfl, Nat.le_of_ble_eq_true rfl⟩ rfl (Nat.le_of_ble_eq_true rfl) (dk_SW_tally 59 rfl) rfl c25 rfl t28 ?_
        have hs29 : p_x s15 s26 := t28.1
        show p_Go K l m_SW_tally 111 [(5, p_r r19), (0, p_r v0), (1, p_i v1), (2, p_i v2), (3, p_i v3), (4, p_i v4)] [p_i r30, p_i v3] s26 _
        refine g_goto 132 (dk_SW_tally 60 rfl) (by decide) ?_
        refine g_sub [(0, p_r v0), (1, p_i v1), (2, p_i v2), (4, p_i v4)] [1, 2, 3, 5] rfl ?_
        exact tB_SW_tally_132 K l k54 hk54 v0 v1 v2 v4 r30 v3 s26 _ h
    · have h := p_ifF b20 h
      refine g_aload_n (i := 0) (j := 1) (dk_SW_tally 51 rfl) rfl rfl ?_
      refine g_bipush (dk_SW_tally 52 rfl) (by decide +kernel) (by decide) ?_
      obtain ⟨r35, s31, q32, h⟩ := p_bdE h
      have t33 := tF_SW_refuse K l v0 (-11) s15 _ q32
      refine g_callV (a := v0) (ci := 10) (q0 := (RX10, TX10, 9)) (As := [p_i (-11)]) (rest := []) [p_i r35] mt_SW_refuse rfl rfl tw_3_66 ts_0 tw_3_64 ⟨Nat.le_of_ble_eq_true rfl, Nat.le_of_ble_eq_true rfl⟩ rfl (Nat.le_of_ble_eq_true rfl) (dk_SW_tally 53 rfl) rfl (c1.up hs18) rfl t33 ?_
      have hs34 : p_x s15 s31 := t33.1
      show p_Go K l m_SW_tally 100 [(5, p_r r19), (0, p_r v0), (1, p_i v1), (2, p_i v2), (3, p_i v3), (4, p_i v4)] [p_i r35] s31 _
      cases h
      exact g_ret rfl rfl (dk_SW_tally 54 rfl) (fun os => ⟨_, rfl, p_okh os⟩)
set_option maxRecDepth 100000 in
set_option maxHeartbeats 4000000 in
theorem tO_SW_tally_54 (K : p_K) (l : Launch)  : ∀ (n : Nat) (v0 : Nat) (v1 : Int) (v2 : Int) (v3 : Int) (v4 : Int) (s0 : p_Hp) (r : (Int × p_Hp)), O_SW_tally_54 n v0 v1 v2 v3 v4 s0 = some r → p_Go K l m_SW_tally 54 [(0, p_r v0), (1, p_i v1), (2, p_i v2), (3, p_i v3), (4, p_i v4)] [] s0 (some (p_i r.1), r.2) := by
  intro n
  induction n with
  | zero => intro v0 v1 v2 v3 v4 s0 r h; cases (show (none : Option (Int × p_Hp)) = some r from h)
  | succ n ih => intro v0 v1 v2 v3 v4 s0 r h; exact tL_SW_tally_54 K l _ ih v0 v1 v2 v3 v4 s0 r h
set_option maxRecDepth 100000 in
set_option maxHeartbeats 4000000 in
theorem tF_SW_tally (K : p_K) (l : Launch) (v0 : Nat) (v1 : Int) (v2 : Int) (s0 : p_Hp) (r : (Int × p_Hp)) (h : F_SW_tally v0 v1 v2 s0 = some r) : p_Ct K l m_SW_tally [p_r v0, p_i v1, p_i v2] s0 (some (p_i r.1), r.2) := by
  refine p_Ct.of (by decide +kernel) (Nat.le_of_ble_eq_true rfl) ?_
  unfold F_SW_tally at h
  show p_Go K l m_SW_tally 0 [(0, p_r v0), (1, p_i v1), (2, p_i v2)] [] s0 _
  refine g_iload_n (i := 1) (j := 1) (dk_SW_tally 0 rfl) rfl rfl ?_
  obtain ⟨r5, s1, q2, h⟩ := p_bdE h
  have t3 := tF_SW_isGroup K l v1 s0 _ q2
  refine g_callS (av := [p_i v1]) (rest := []) [p_i r5] mt_SW_isGroup tw_4_104 tw_4_103 ⟨Nat.le_of_ble_eq_true rfl, Nat.le_of_ble_eq_true rfl⟩ rfl (Nat.le_of_ble_eq_true rfl) (dk_SW_tally 1 rfl) rfl rfl t3 ?_
  have hs4 : p_x s0 s1 := t3.1
  show p_Go K l m_SW_tally 4 [(0, p_r v0), (1, p_i v1), (2, p_i v2)] [p_i r5] s1 _
  refine g_if_ne 13 (dk_SW_tally 2 rfl) (by decide) (fun b6 => ?_) (fun b6 => ?_)
  · have h := p_ifT b6 h
    refine g_iload_n (i := 2) (j := 2) (dk_SW_tally 7 rfl) rfl rfl ?_
    refine g_if_lt 22 (dk_SW_tally 8 rfl) (by decide) (fun b7 => ?_) (fun b7 => ?_)
    · have h := p_ifT b7 h
      refine g_sub [(0, p_r v0)] [0] rfl ?_
      exact tB_SW_tally_22 K l v0 s1 _ h
    · have h := p_ifF b7 h
      refine g_iload_n (i := 2) (j := 2) (dk_SW_tally 9 rfl) rfl rfl ?_
      refine g_iconst (dk_SW_tally 10 rfl) (by decide) ?_
      refine g_icmp_le 29 (dk_SW_tally 11 rfl) (by decide) (fun b8 => ?_) (fun b8 => ?_)
      · have h := p_ifT b8 h
        refine g_aload_n (i := 0) (j := 0) (dk_SW_tally 16 rfl) rfl rfl ?_
        obtain ⟨c9, h⟩ := p_gdE h
        refine g_getR fl_SW_18 (Or.inl ⟨_, rfl⟩) (dk_SW_tally 17 rfl) c9 ?_
        obtain ⟨c10, h⟩ := p_gdE h
        refine g_getR fl_SW_258 (Or.inr ⟨_, rfl⟩) (dk_SW_tally 18 rfl) c10 ?_
        refine g_iload_n (i := 1) (j := 1) (dk_SW_tally 19 rfl) rfl rfl ?_
        obtain ⟨c11, h⟩ := p_gdE h
        obtain ⟨c12, h⟩ := p_gdE h
        refine g_iaload (dk_SW_tally 20 rfl) c11 c12.1 c12.2 ?_
        refine g_iconst (dk_SW_tally 21 rfl) (by decide) ?_
        refine g_icmp_ne 49 (dk_SW_tally 22 rfl) (by decide) (fun b13 => ?_) (fun b13 => ?_)
        · have h := p_ifT b13 h
          refine g_iconst (dk_SW_tally 27 rfl) (by decide) ?_
          refine g_istore_n (i := 3) [(3, p_i 0), (0, p_r v0), (1, p_i v1), (2, p_i v2)] (dk_SW_tally 28 rfl) rfl (by decide) rfl ?_
          refine g_iconst (dk_SW_tally 29 rfl) (by decide) ?_
          refine g_istore [(4, p_i 0), (3, p_i 0), (0, p_r v0), (1, p_i v1), (2, p_i v2)] (dk_SW_tally 30 rfl) (by decide) rfl ?_
          refine g_sub [(0, p_r v0), (1, p_i v1), (2, p_i v2), (3, p_i 0), (4, p_i 0)] [2, 3, 4, 1, 0] rfl ?_
          exact tO_SW_tally_54 K l 3000 v0 v1 v2 0 0 s1 _ h
        · have h := p_ifF b13 h
          refine g_aload_n (i := 0) (j := 0) (dk_SW_tally 23 rfl) rfl rfl ?_
          refine g_bipush (dk_SW_tally 24 rfl) (by decide +kernel) (by decide) ?_
          obtain ⟨r18, s14, q15, h⟩ := p_bdE h
          have t16 := tF_SW_refuse K l v0 (-11) s1 _ q15
          refine g_callV (a := v0) (ci := 10) (q0 := (RX10, TX10, 9)) (As := [p_i (-11)]) (rest := []) [p_i r18] mt_SW_refuse rfl rfl tw_3_66 ts_0 tw_3_64 ⟨Nat.le_of_ble_eq_true rfl, Nat.le_of_ble_eq_true rfl⟩ rfl (Nat.le_of_ble_eq_true rfl) (dk_SW_tally 25 rfl) rfl c9 rfl t16 ?_
          have hs17 : p_x s1 s14 := t16.1
          show p_Go K l m_SW_tally 48 [(0, p_r v0), (1, p_i v1), (2, p_i v2)] [p_i r18] s14 _
          cases h
          exact g_ret rfl rfl (dk_SW_tally 26 rfl) (fun os => ⟨_, rfl, p_okh os⟩)
      · have h := p_ifF b8 h
        refine g_sub [(0, p_r v0)] [0] rfl ?_
        exact tB_SW_tally_22 K l v0 s1 _ h
  · have h := p_ifF b6 h
    refine g_aload_n (i := 0) (j := 0) (dk_SW_tally 3 rfl) rfl rfl ?_
    refine g_iconst (dk_SW_tally 4 rfl) (by decide) ?_
    obtain ⟨c19, h⟩ := p_gdE h
    obtain ⟨r24, s20, q21, h⟩ := p_bdE h
    have t22 := tF_SW_refuse K l v0 (-1) s1 _ q21
    refine g_callV (a := v0) (ci := 10) (q0 := (RX10, TX10, 9)) (As := [p_i (-1)]) (rest := []) [p_i r24] mt_SW_refuse rfl rfl tw_3_66 ts_0 tw_3_64 ⟨Nat.le_of_ble_eq_true rfl, Nat.le_of_ble_eq_true rfl⟩ rfl (Nat.le_of_ble_eq_true rfl) (dk_SW_tally 5 rfl) rfl c19 rfl t22 ?_
    have hs23 : p_x s1 s20 := t22.1
    show p_Go K l m_SW_tally 12 [(0, p_r v0), (1, p_i v1), (2, p_i v2)] [p_i r24] s20 _
    cases h
    exact g_ret rfl rfl (dk_SW_tally 6 rfl) (fun os => ⟨_, rfl, p_okh os⟩)
def m_Step_addTrace : p_Me := (⟨"SortWorks$Step", "addTrace", "(I)V"⟩, prog_10_method_5_code, 2, none, 0, 0)
theorem mt_Step_addTrace : p_Mt m_Step_addTrace 1 := ⟨p_mem (p_tb4 (List.mem_of_getElem? (i := 229) rfl)) rfl, tw_1_9, by decide +kernel, by decide +kernel, by decide +kernel⟩
def dt_Step_addTrace : List (Nat × Instr × Nat) := [(0, .aload_n 0, 1), (1, .getfield 18, 3), (4, .getfield 57, 3), (7, .bipush 60, 2), (9, .if_icmp .ge 19, 3), (12, .aload_n 0, 1), (13, .getfield 18, 3), (16, .getfield 111, 3), (19, .aload_n 0, 1), (20, .getfield 18, 3), (23, .getfield 57, 3), (26, .iload_n 1, 1), (27, .iastore, 1), (28, .aload_n 0, 1), (29, .getfield 18, 3), (32, .dup, 1), (33, .getfield 57, 3), (36, .iconst 1, 1), (37, .iadd, 1), (38, .putfield 57, 3), (41, .return_, 1)]
theorem dk_Step_addTrace (i : Nat) {pc : Nat} {ins : Instr} {len : Nat} (h : dt_Step_addTrace[i]? = some (pc, ins, len)) : decode m_Step_addTrace.2.1 pc = .ok (ins, len) := p_dk (b := m_Step_addTrace.2.1) (t := dt_Step_addTrace) (by decide +kernel) i h
def B_Step_addTrace_28  (v0 : Nat) (s0 : p_Hp) : Option p_Hp :=
  p_gd (p_is s0 v0 8) <|
  p_gd (p_is s0 (p_R s0 v0 2) 9) <|
  p_bi (p_wZ s0 (p_R s0 v0 2) 11 (p_w ((p_Z s0 (p_R s0 v0 2) 11) + 1))) fun s3 =>
  some s3
def F_Step_addTrace (v0 : Nat) (v1 : Int) (s0 : p_Hp) : Option p_Hp :=
  p_gd (p_is s0 v0 8) <|
  p_gd (p_is s0 (p_R s0 v0 2) 9) <|
  if 60 ≤ (p_Z s0 (p_R s0 v0 2) 11) then
    B_Step_addTrace_28 v0 s0
  else
    p_gd (p_is s0 (p_R s0 (p_R s0 v0 2) 10) 100) <|
    p_gd ((0 : Int) ≤ (p_Z s0 (p_R s0 v0 2) 11) ∧ (p_Z s0 (p_R s0 v0 2) 11) < (p_L s0 (p_R s0 (p_R s0 v0 2) 10) : Int)) <|
    p_bi (p_wZ s0 (p_R s0 (p_R s0 v0 2) 10) ((p_Z s0 (p_R s0 v0 2) 11) : Int).toNat v1) fun s6 =>
    B_Step_addTrace_28 v0 s6
set_option maxRecDepth 100000 in
set_option maxHeartbeats 4000000 in
theorem tB_Step_addTrace_28 (K : p_K) (l : Launch)  (v0 : Nat) (s0 : p_Hp) (r : p_Hp) (h : B_Step_addTrace_28 v0 s0 = some r) : p_Go K l m_Step_addTrace 28 [(0, p_r v0)] [] s0 (none, r) := by
  unfold B_Step_addTrace_28 at h
  refine g_aload_n (i := 0) (j := 0) (dk_Step_addTrace 13 rfl) rfl rfl ?_
  obtain ⟨c1, h⟩ := p_gdE h
  refine g_getR fl_Step_18 (Or.inl ⟨_, rfl⟩) (dk_Step_addTrace 14 rfl) c1 ?_
  refine g_dup (dk_Step_addTrace 15 rfl) rfl ?_
  obtain ⟨c2, h⟩ := p_gdE h
  refine g_getI fl_Step_57 (Or.inl rfl) (dk_Step_addTrace 16 rfl) c2 ?_
  refine g_iconst (dk_Step_addTrace 17 rfl) (by decide) ?_
  refine g_iadd (dk_Step_addTrace 18 rfl) ?_
  refine g_putI fl_Step_57 (Or.inl rfl) (dk_Step_addTrace 19 rfl) c2 ?_
  refine p_ltS (P := fun q => p_Go K l m_Step_addTrace 41 [(0, p_r v0)] [] q _) (p_xZ _ _ _ _) ?_ h
  intro s3 hs4 h
  cases h
  exact g_ret rfl rfl (dk_Step_addTrace 20 rfl) (fun _ => rfl)
set_option maxRecDepth 100000 in
set_option maxHeartbeats 4000000 in
theorem tF_Step_addTrace (K : p_K) (l : Launch) (v0 : Nat) (v1 : Int) (s0 : p_Hp) (r : p_Hp) (h : F_Step_addTrace v0 v1 s0 = some r) : p_Ct K l m_Step_addTrace [p_r v0, p_i v1] s0 (none, r) := by
  refine p_Ct.of (by decide +kernel) (Nat.le_of_ble_eq_true rfl) ?_
  unfold F_Step_addTrace at h
  show p_Go K l m_Step_addTrace 0 [(0, p_r v0), (1, p_i v1)] [] s0 _
  refine g_aload_n (i := 0) (j := 0) (dk_Step_addTrace 0 rfl) rfl rfl ?_
  obtain ⟨c1, h⟩ := p_gdE h
  refine g_getR fl_Step_18 (Or.inl ⟨_, rfl⟩) (dk_Step_addTrace 1 rfl) c1 ?_
  obtain ⟨c2, h⟩ := p_gdE h
  refine g_getI fl_Step_57 (Or.inl rfl) (dk_Step_addTrace 2 rfl) c2 ?_
  refine g_bipush (dk_Step_addTrace 3 rfl) (by decide +kernel) (by decide) ?_
  refine g_icmp_ge 28 (dk_Step_addTrace 4 rfl) (by decide) (fun b3 => ?_) (fun b3 => ?_)
  · have h := p_ifT b3 h
    refine g_sub [(0, p_r v0)] [0] rfl ?_
    exact tB_Step_addTrace_28 K l v0 s0 _ h
  · have h := p_ifF b3 h
    refine g_aload_n (i := 0) (j := 0) (dk_Step_addTrace 5 rfl) rfl rfl ?_
    refine g_getR fl_Step_18 (Or.inl ⟨_, rfl⟩) (dk_Step_addTrace 6 rfl) c1 ?_
    refine g_getR fl_Step_111 (Or.inr ⟨_, rfl⟩) (dk_Step_addTrace 7 rfl) c2 ?_
    refine g_aload_n (i := 0) (j := 0) (dk_Step_addTrace 8 rfl) rfl rfl ?_
    refine g_getR fl_Step_18 (Or.inl ⟨_, rfl⟩) (dk_Step_addTrace 9 rfl) c1 ?_
    refine g_getI fl_Step_57 (Or.inl rfl) (dk_Step_addTrace 10 rfl) c2 ?_
    refine g_iload_n (i := 1) (j := 1) (dk_Step_addTrace 11 rfl) rfl rfl ?_
    obtain ⟨c4, h⟩ := p_gdE h
    obtain ⟨c5, h⟩ := p_gdE h
    refine g_iastore (dk_Step_addTrace 12 rfl) c4 c5.1 c5.2 ?_
    refine p_ltS (P := fun q => p_Go K l m_Step_addTrace 28 [(0, p_r v0), (1, p_i v1)] [] q _) (p_xZ _ _ _ _) ?_ h
    intro s6 hs7 h
    refine g_sub [(0, p_r v0)] [0] rfl ?_
    exact tB_Step_addTrace_28 K l v0 s6 _ h
def m_Step_lampOf : p_Me := (⟨"SortWorks$Step", "lampOf", "(LSortWorks$Gear;)I"⟩, prog_10_method_14_code, 2, (some .int), 0, 0)
theorem mt_Step_lampOf : p_Mt m_Step_lampOf 1 := ⟨p_mem (p_tb5 (List.mem_of_getElem? (i := 79) rfl)) rfl, tw_1_9, by decide +kernel, by decide +kernel, by decide +kernel⟩
def dt_Step_lampOf : List (Nat × Instr × Nat) := [(0, .aload_n 1, 1), (1, .getfield 97, 3), (4, .bipush 9, 2), (6, .if_icmp .ne 16, 3), (9, .aload_n 1, 1), (10, .getfield 145, 3), (13, .ifCond .eq 7, 3), (16, .iconst 1, 1), (17, .goto 4, 3), (20, .iconst 0, 1), (21, .ireturn, 1), (22, .aload_n 0, 1), (23, .getfield 106, 3), (26, .ifCond .eq 7, 3), (29, .iconst 3, 1), (30, .goto 15, 3), (33, .aload_n 1, 1), (34, .getfield 228, 3), (37, .ifCond .le 7, 3), (40, .iconst 2, 1), (41, .goto 4, 3), (44, .iconst 1, 1), (45, .ireturn, 1)]
theorem dk_Step_lampOf (i : Nat) {pc : Nat} {ins : Instr} {len : Nat} (h : dt_Step_lampOf[i]? = some (pc, ins, len)) : decode m_Step_lampOf.2.1 pc = .ok (ins, len) := p_dk (b := m_Step_lampOf.2.1) (t := dt_Step_lampOf) (by decide +kernel) i h
def F_Step_lampOf (v0 : Nat) (v1 : Nat) (s0 : p_Hp) : Option (Int × p_Hp) :=
  p_gd (p_is s0 v1 0) <|
  if (p_Z s0 v1 0) ≠ 9 then
    p_gd (p_is s0 v0 8) <|
    if (p_Z s0 v0 4) = 0 then
      if (p_Z s0 v1 8) ≤ 0 then
        some (1, s0)
      else
        some (2, s0)
    else
      some (3, s0)
  else
    if (p_Z s0 v1 7) = 0 then
      some (0, s0)
    else
      some (1, s0)
set_option maxRecDepth 100000 in
set_option maxHeartbeats 4000000 in
theorem tF_Step_lampOf (K : p_K) (l : Launch) (v0 : Nat) (v1 : Nat) (s0 : p_Hp) (r : (Int × p_Hp)) (h : F_Step_lampOf v0 v1 s0 = some r) : p_Ct K l m_Step_lampOf [p_r v0, p_r v1] s0 (some (p_i r.1), r.2) := by
  refine p_Ct.of (by decide +kernel) (Nat.le_of_ble_eq_true rfl) ?_
  unfold F_Step_lampOf at h
  show p_Go K l m_Step_lampOf 0 [(0, p_r v0), (1, p_r v1)] [] s0 _
  refine g_aload_n (i := 1) (j := 1) (dk_Step_lampOf 0 rfl) rfl rfl ?_
  obtain ⟨c1, h⟩ := p_gdE h
  refine g_getI fl_Step_97 (Or.inl rfl) (dk_Step_lampOf 1 rfl) c1 ?_
  refine g_bipush (dk_Step_lampOf 2 rfl) (by decide +kernel) (by decide) ?_
  refine g_icmp_ne 22 (dk_Step_lampOf 3 rfl) (by decide) (fun b2 => ?_) (fun b2 => ?_)
  · have h := p_ifT b2 h
    refine g_aload_n (i := 0) (j := 0) (dk_Step_lampOf 11 rfl) rfl rfl ?_
    obtain ⟨c3, h⟩ := p_gdE h
    refine g_getI fl_Step_106 (Or.inr rfl) (dk_Step_lampOf 12 rfl) c3 ?_
    refine g_if_eq 33 (dk_Step_lampOf 13 rfl) (by decide) (fun b4 => ?_) (fun b4 => ?_)
    · have h := p_ifT b4 h
      refine g_aload_n (i := 1) (j := 1) (dk_Step_lampOf 16 rfl) rfl rfl ?_
      refine g_getI fl_Step_228 (Or.inl rfl) (dk_Step_lampOf 17 rfl) c1 ?_
      refine g_if_le 44 (dk_Step_lampOf 18 rfl) (by decide) (fun b5 => ?_) (fun b5 => ?_)
      · have h := p_ifT b5 h
        refine g_iconst (dk_Step_lampOf 21 rfl) (by decide) ?_
        cases h
        exact g_ret rfl rfl (dk_Step_lampOf 22 rfl) (fun os => ⟨_, rfl, p_okh os⟩)
      · have h := p_ifF b5 h
        refine g_iconst (dk_Step_lampOf 19 rfl) (by decide) ?_
        refine g_goto 45 (dk_Step_lampOf 20 rfl) (by decide) ?_
        cases h
        exact g_ret rfl rfl (dk_Step_lampOf 22 rfl) (fun os => ⟨_, rfl, p_okh os⟩)
    · have h := p_ifF b4 h
      refine g_iconst (dk_Step_lampOf 14 rfl) (by decide) ?_
      refine g_goto 45 (dk_Step_lampOf 15 rfl) (by decide) ?_
      cases h
      exact g_ret rfl rfl (dk_Step_lampOf 22 rfl) (fun os => ⟨_, rfl, p_okh os⟩)
  · have h := p_ifF b2 h
    refine g_aload_n (i := 1) (j := 1) (dk_Step_lampOf 4 rfl) rfl rfl ?_
    refine g_getI fl_Step_145 (Or.inr rfl) (dk_Step_lampOf 5 rfl) c1 ?_
    refine g_if_eq 20 (dk_Step_lampOf 6 rfl) (by decide) (fun b6 => ?_) (fun b6 => ?_)
    · have h := p_ifT b6 h
      refine g_iconst (dk_Step_lampOf 9 rfl) (by decide) ?_
      cases h
      exact g_ret rfl rfl (dk_Step_lampOf 10 rfl) (fun os => ⟨_, rfl, p_okh os⟩)
    · have h := p_ifF b6 h
      refine g_iconst (dk_Step_lampOf 7 rfl) (by decide) ?_
      refine g_goto 21 (dk_Step_lampOf 8 rfl) (by decide) ?_
      cases h
      exact g_ret rfl rfl (dk_Step_lampOf 10 rfl) (fun os => ⟨_, rfl, p_okh os⟩)
def m_Step_moveUp : p_Me := (⟨"SortWorks$Step", "moveUp", "(LSortWorks$Gear;)V"⟩, prog_10_method_15_code, 4, none, 1, 22)
theorem mt_Step_moveUp : p_Mt m_Step_moveUp 1 := ⟨p_mem (p_tb5 (List.mem_of_getElem? (i := 70) rfl)) rfl, tw_1_9, by decide +kernel, by decide +kernel, by decide +kernel⟩
def dt_Step_moveUp : List (Nat × Instr × Nat) := [(0, .aload_n 1, 1), (1, .getfield 231, 3), (4, .iconst 2, 1), (5, .isub, 1), (6, .istore_n 2, 1), (7, .iload_n 2, 1), (8, .ifCond .lt 72, 3), (11, .aload_n 0, 1), (12, .getfield 28, 3), (15, .aload_n 1, 1), (16, .iload_n 2, 1), (17, .invokevirtual 234, 3), (20, .astore_n 3, 1), (21, .aload_n 3, 1), (22, .ifnull 52, 3), (25, .aload_n 3, 1), (26, .getfield 64, 3), (29, .ifCond .ne 45, 3), (32, .aload_n 1, 1), (33, .getfield 238, 3), (36, .iload_n 2, 1), (37, .iconst 1, 1), (38, .iadd, 1), (39, .iaload, 1), (40, .ifCond .ne 34, 3), (43, .aload_n 1, 1), (44, .getfield 238, 3), (47, .iload_n 2, 1), (48, .iconst 0, 1), (49, .iastore, 1), (50, .aload_n 1, 1), (51, .getfield 238, 3), (54, .iload_n 2, 1), (55, .iconst 1, 1), (56, .iadd, 1), (57, .aload_n 3, 1), (58, .getfield 241, 3), (61, .iastore, 1), (62, .aload_n 3, 1), (63, .iload_n 2, 1), (64, .iconst 1, 1), (65, .iadd, 1), (66, .putfield 244, 3), (69, .aload_n 3, 1), (70, .iconst 1, 1), (71, .putfield 64, 3), (74, .iinc 2 (-1), 3), (77, .goto (-70), 3), (80, .return_, 1)]
theorem dk_Step_moveUp (i : Nat) {pc : Nat} {ins : Instr} {len : Nat} (h : dt_Step_moveUp[i]? = some (pc, ins, len)) : decode m_Step_moveUp.2.1 pc = .ok (ins, len) := p_dk (b := m_Step_moveUp.2.1) (t := dt_Step_moveUp) (by decide +kernel) i h
def B_Step_moveUp_74 (k7 : Nat → Nat → Int → p_Hp → Option p_Hp) (v0 : Nat) (v1 : Nat) (v2 : Int) (s0 : p_Hp) : Option p_Hp :=
  p_bi (p_w (v2 + (-1))) fun x1 =>
  k7 v0 v1 x1 s0
def L_Step_moveUp_7 (k7 : Nat → Nat → Int → p_Hp → Option p_Hp) (v0 : Nat) (v1 : Nat) (v2 : Int) (s0 : p_Hp) : Option p_Hp :=
  if v2 < 0 then
    some s0
  else
    p_gd (p_is s0 v0 8) <|
    p_gd (p_is s0 (p_R s0 v0 3) 7) <|
    p_bd (F_State_inSlot (p_R s0 v0 3) v1 v2 s0) fun r8 s4 =>
    if r8 = 0 then
      B_Step_moveUp_74 k7 v0 v1 v2 s4
    else
      p_gd (p_is s4 r8 4) <|
      if (p_Z s4 r8 8) ≠ 0 then
        B_Step_moveUp_74 k7 v0 v1 v2 s4
      else
        p_gd (p_is s4 v1 0) <|
        p_gd (p_is s4 (p_R s4 v1 17) 100) <|
        p_gd ((0 : Int) ≤ (p_w (v2 + 1)) ∧ (p_w (v2 + 1)) < (p_L s4 (p_R s4 v1 17) : Int)) <|
        if (p_Z s4 (p_R s4 v1 17) ((p_w (v2 + 1)) : Int).toNat) ≠ 0 then
          B_Step_moveUp_74 k7 v0 v1 v2 s4
        else
          p_gd ((0 : Int) ≤ v2 ∧ v2 < (p_L s4 (p_R s4 v1 17) : Int)) <|
          p_bi (p_wZ s4 (p_R s4 v1 17) (v2 : Int).toNat 0) fun s17 =>
          p_gd (p_is s17 (p_R s17 v1 17) 100) <|
          p_gd ((0 : Int) ≤ (p_w (v2 + 1)) ∧ (p_w (v2 + 1)) < (p_L s17 (p_R s17 v1 17) : Int)) <|
          p_bi (p_wZ s17 (p_R s17 v1 17) ((p_w (v2 + 1)) : Int).toNat (p_Z s17 r8 0)) fun s21 =>
          p_bi (p_wZ s21 r8 6 (p_w (v2 + 1))) fun s23 =>
          p_bi (p_wZ s23 r8 8 1) fun s25 =>
          B_Step_moveUp_74 k7 v0 v1 v2 s25
def O_Step_moveUp_7  : Nat → Nat → Nat → Int → p_Hp → Option p_Hp
  | 0 => fun _ _ _ _ => none
  | n + 1 => L_Step_moveUp_7 (O_Step_moveUp_7 n)
def F_Step_moveUp (v0 : Nat) (v1 : Nat) (s0 : p_Hp) : Option p_Hp :=
  p_gd (p_is s0 v1 0) <|
  p_bi ((p_w ((p_Z s0 v1 1) - 2))) fun x2 =>
  O_Step_moveUp_7 3000 v0 v1 x2 s0
set_option maxRecDepth 100000 in
set_option maxHeartbeats 4000000 in
theorem tB_Step_moveUp_74 (K : p_K) (l : Launch) (k7 : Nat → Nat → Int → p_Hp → Option p_Hp) (hk7 : ∀ (v0 : Nat) (v1 : Nat) (v2 : Int)  (s0 : p_Hp) (r : p_Hp), k7 v0 v1 v2 s0 = some r → p_Go K l m_Step_moveUp 7 [(0, p_r v0), (1, p_r v1), (2, p_i v2)] [] s0 (none, r)) (v0 : Nat) (v1 : Nat) (v2 : Int) (s0 : p_Hp) (r : p_Hp) (h : B_Step_moveUp_74 k7 v0 v1 v2 s0 = some r) : p_Go K l m_Step_moveUp 74 [(0, p_r v0), (1, p_r v1), (2, p_i v2)] [] s0 (none, r) := by
  unfold B_Step_moveUp_74 at h
  refine g_iinc (j := 2) [(2, p_i (p_w (v2 + (-1)))), (0, p_r v0), (1, p_r v1)] (dk_Step_moveUp 46 rfl) rfl (by decide) rfl ?_
  refine p_ltG (P := fun q => p_Go K l m_Step_moveUp 77 [(2, p_i q), (0, p_r v0), (1, p_r v1)] [] s0 _) ?_ h
  intro x1 h
  refine g_goto 7 (dk_Step_moveUp 47 rfl) (by decide) ?_
  refine g_sub [(0, p_r v0), (1, p_r v1), (2, p_i x1)] [1, 2, 0] rfl ?_
  exact hk7 v0 v1 x1 s0 _ h
set_option maxRecDepth 100000 in
set_option maxHeartbeats 4000000 in
theorem tL_Step_moveUp_7 (K : p_K) (l : Launch) (k7 : Nat → Nat → Int → p_Hp → Option p_Hp) (hk7 : ∀ (v0 : Nat) (v1 : Nat) (v2 : Int)  (s0 : p_Hp) (r : p_Hp), k7 v0 v1 v2 s0 = some r → p_Go K l m_Step_moveUp 7 [(0, p_r v0), (1, p_r v1), (2, p_i v2)] [] s0 (none, r)) (v0 : Nat) (v1 : Nat) (v2 : Int) (s0 : p_Hp) (r : p_Hp) (h : L_Step_moveUp_7 k7 v0 v1 v2 s0 = some r) : p_Go K l m_Step_moveUp 7 [(0, p_r v0), (1, p_r v1), (2, p_i v2)] [] s0 (none, r) := by
  unfold L_Step_moveUp_7 at h
  refine g_iload_n (i := 2) (j := 2) (dk_Step_moveUp 5 rfl) rfl rfl ?_
  refine g_if_lt 80 (dk_Step_moveUp 6 rfl) (by decide) (fun b1 => ?_) (fun b1 => ?_)
  · have h := p_ifT b1 h
    cases h
    exact g_ret rfl rfl (dk_Step_moveUp 48 rfl) (fun _ => rfl)
  · have h := p_ifF b1 h
    refine g_aload_n (i := 0) (j := 0) (dk_Step_moveUp 7 rfl) rfl rfl ?_
    obtain ⟨c2, h⟩ := p_gdE h
    refine g_getR fl_Step_28 (Or.inl ⟨_, rfl⟩) (dk_Step_moveUp 8 rfl) c2 ?_
    refine g_aload_n (i := 1) (j := 1) (dk_Step_moveUp 9 rfl) rfl rfl ?_
    refine g_iload_n (i := 2) (j := 2) (dk_Step_moveUp 10 rfl) rfl rfl ?_
    obtain ⟨c3, h⟩ := p_gdE h
    obtain ⟨r8, s4, q5, h⟩ := p_bdE h
    have t6 := tF_State_inSlot K l (p_R s0 v0 3) v1 v2 s0 _ q5
    refine g_callV (a := (p_R s0 v0 3)) (ci := 7) (q0 := (RX7, TX7, 10)) (As := [p_r v1, p_i v2]) (rest := []) [p_r r8] mt_State_inSlot rfl rfl tw_4_70 tw_4_71 tw_5_71 ⟨Nat.le_of_ble_eq_true rfl, Nat.le_of_ble_eq_true rfl⟩ rfl (Nat.le_of_ble_eq_true rfl) (dk_Step_moveUp 11 rfl) rfl c3 rfl t6 ?_
    have hs7 : p_x s0 s4 := t6.1
    show p_Go K l m_Step_moveUp 20 [(0, p_r v0), (1, p_r v1), (2, p_i v2)] [p_r r8] s4 _
    refine g_astore_n (i := 3) [(3, p_r r8), (0, p_r v0), (1, p_r v1), (2, p_i v2)] (dk_Step_moveUp 12 rfl) rfl (by decide) rfl ?_
    refine g_aload_n (i := 3) (j := 0) (dk_Step_moveUp 13 rfl) rfl rfl ?_
    refine g_ifnull 74 (dk_Step_moveUp 14 rfl) (by decide) (fun b9 => ?_) (fun b9 => ?_)
    · have h := p_ifT b9 h
      refine g_sub [(0, p_r v0), (1, p_r v1), (2, p_i v2)] [1, 2, 3] rfl ?_
      exact tB_Step_moveUp_74 K l k7 hk7 v0 v1 v2 s4 _ h
    · have h := p_ifF b9 h
      refine g_aload_n (i := 3) (j := 0) (dk_Step_moveUp 15 rfl) rfl rfl ?_
      obtain ⟨c10, h⟩ := p_gdE h
      refine g_getI fl_Step_64 (Or.inr rfl) (dk_Step_moveUp 16 rfl) c10 ?_
      refine g_if_ne 74 (dk_Step_moveUp 17 rfl) (by decide) (fun b11 => ?_) (fun b11 => ?_)
      · have h := p_ifT b11 h
        refine g_sub [(0, p_r v0), (1, p_r v1), (2, p_i v2)] [1, 2, 3] rfl ?_
        exact tB_Step_moveUp_74 K l k7 hk7 v0 v1 v2 s4 _ h
      · have h := p_ifF b11 h
        refine g_aload_n (i := 1) (j := 2) (dk_Step_moveUp 18 rfl) rfl rfl ?_
        obtain ⟨c12, h⟩ := p_gdE h
        refine g_getR fl_Step_238 (Or.inr ⟨_, rfl⟩) (dk_Step_moveUp 19 rfl) c12 ?_
        refine g_iload_n (i := 2) (j := 3) (dk_Step_moveUp 20 rfl) rfl rfl ?_
        refine g_iconst (dk_Step_moveUp 21 rfl) (by decide) ?_
        refine g_iadd (dk_Step_moveUp 22 rfl) ?_
        obtain ⟨c13, h⟩ := p_gdE h
        obtain ⟨c14, h⟩ := p_gdE h
        refine g_iaload (dk_Step_moveUp 23 rfl) c13 c14.1 c14.2 ?_
        refine g_if_ne 74 (dk_Step_moveUp 24 rfl) (by decide) (fun b15 => ?_) (fun b15 => ?_)
        · have h := p_ifT b15 h
          refine g_sub [(0, p_r v0), (1, p_r v1), (2, p_i v2)] [1, 2, 3] rfl ?_
          exact tB_Step_moveUp_74 K l k7 hk7 v0 v1 v2 s4 _ h
        · have h := p_ifF b15 h
          refine g_aload_n (i := 1) (j := 2) (dk_Step_moveUp 25 rfl) rfl rfl ?_
          refine g_getR fl_Step_238 (Or.inr ⟨_, rfl⟩) (dk_Step_moveUp 26 rfl) c12 ?_
          refine g_iload_n (i := 2) (j := 3) (dk_Step_moveUp 27 rfl) rfl rfl ?_
          refine g_iconst (dk_Step_moveUp 28 rfl) (by decide) ?_
          obtain ⟨c16, h⟩ := p_gdE h
          refine g_iastore (dk_Step_moveUp 29 rfl) c13 c16.1 c16.2 ?_
          refine p_ltS (P := fun q => p_Go K l m_Step_moveUp 50 [(3, p_r r8), (0, p_r v0), (1, p_r v1), (2, p_i v2)] [] q _) (p_xZ _ _ _ _) ?_ h
          intro s17 hs18 h
          refine g_aload_n (i := 1) (j := 2) (dk_Step_moveUp 30 rfl) rfl rfl ?_
          refine g_getR fl_Step_238 (Or.inr ⟨_, rfl⟩) (dk_Step_moveUp 31 rfl) (c12.up hs18) ?_
          refine g_iload_n (i := 2) (j := 3) (dk_Step_moveUp 32 rfl) rfl rfl ?_
          refine g_iconst (dk_Step_moveUp 33 rfl) (by decide) ?_
          refine g_iadd (dk_Step_moveUp 34 rfl) ?_
          refine g_aload_n (i := 3) (j := 0) (dk_Step_moveUp 35 rfl) rfl rfl ?_
          refine g_getI fl_Step_241 (Or.inl rfl) (dk_Step_moveUp 36 rfl) (c10.up hs18) ?_
          obtain ⟨c19, h⟩ := p_gdE h
          obtain ⟨c20, h⟩ := p_gdE h
          refine g_iastore (dk_Step_moveUp 37 rfl) c19 c20.1 c20.2 ?_
          refine p_ltS (P := fun q => p_Go K l m_Step_moveUp 62 [(3, p_r r8), (0, p_r v0), (1, p_r v1), (2, p_i v2)] [] q _) (p_xZ _ _ _ _) ?_ h
          intro s21 hs22 h
          refine g_aload_n (i := 3) (j := 0) (dk_Step_moveUp 38 rfl) rfl rfl ?_
          refine g_iload_n (i := 2) (j := 3) (dk_Step_moveUp 39 rfl) rfl rfl ?_
          refine g_iconst (dk_Step_moveUp 40 rfl) (by decide) ?_
          refine g_iadd (dk_Step_moveUp 41 rfl) ?_
          refine g_putI fl_Step_244 (Or.inl rfl) (dk_Step_moveUp 42 rfl) (c10.up (hs18.trans hs22)) ?_
          refine p_ltS (P := fun q => p_Go K l m_Step_moveUp 69 [(3, p_r r8), (0, p_r v0), (1, p_r v1), (2, p_i v2)] [] q _) (p_xZ _ _ _ _) ?_ h
          intro s23 hs24 h
          refine g_aload_n (i := 3) (j := 0) (dk_Step_moveUp 43 rfl) rfl rfl ?_
          refine g_iconst (dk_Step_moveUp 44 rfl) (by decide) ?_
          refine g_putB fl_Step_64 (Or.inl rfl) (dk_Step_moveUp 45 rfl) (c10.up (hs18.trans (hs22.trans hs24))) (Or.inr rfl) ?_
          refine p_ltS (P := fun q => p_Go K l m_Step_moveUp 74 [(3, p_r r8), (0, p_r v0), (1, p_r v1), (2, p_i v2)] [] q _) (p_xZ _ _ _ _) ?_ h
          intro s25 hs26 h
          refine g_sub [(0, p_r v0), (1, p_r v1), (2, p_i v2)] [1, 2, 3] rfl ?_
          exact tB_Step_moveUp_74 K l k7 hk7 v0 v1 v2 s25 _ h
set_option maxRecDepth 100000 in
set_option maxHeartbeats 4000000 in
theorem tO_Step_moveUp_7 (K : p_K) (l : Launch)  : ∀ (n : Nat) (v0 : Nat) (v1 : Nat) (v2 : Int) (s0 : p_Hp) (r : p_Hp), O_Step_moveUp_7 n v0 v1 v2 s0 = some r → p_Go K l m_Step_moveUp 7 [(0, p_r v0), (1, p_r v1), (2, p_i v2)] [] s0 (none, r) := by
  intro n
  induction n with
  | zero => intro v0 v1 v2 s0 r h; cases (show (none : Option p_Hp) = some r from h)
  | succ n ih => intro v0 v1 v2 s0 r h; exact tL_Step_moveUp_7 K l _ ih v0 v1 v2 s0 r h
set_option maxRecDepth 100000 in
set_option maxHeartbeats 4000000 in
theorem tF_Step_moveUp (K : p_K) (l : Launch) (v0 : Nat) (v1 : Nat) (s0 : p_Hp) (r : p_Hp) (h : F_Step_moveUp v0 v1 s0 = some r) : p_Ct K l m_Step_moveUp [p_r v0, p_r v1] s0 (none, r) := by
  refine p_Ct.of (by decide +kernel) (Nat.le_of_ble_eq_true rfl) ?_
  unfold F_Step_moveUp at h
  show p_Go K l m_Step_moveUp 0 [(0, p_r v0), (1, p_r v1)] [] s0 _
  refine g_aload_n (i := 1) (j := 1) (dk_Step_moveUp 0 rfl) rfl rfl ?_
  obtain ⟨c1, h⟩ := p_gdE h
  refine g_getI fl_Step_231 (Or.inl rfl) (dk_Step_moveUp 1 rfl) c1 ?_
  refine g_iconst (dk_Step_moveUp 2 rfl) (by decide) ?_
  refine g_isub (dk_Step_moveUp 3 rfl) ?_
  refine g_istore_n (i := 2) [(2, p_i (p_w ((p_Z s0 v1 1) - 2))), (0, p_r v0), (1, p_r v1)] (dk_Step_moveUp 4 rfl) rfl (by decide) rfl ?_
  refine p_ltG (P := fun q => p_Go K l m_Step_moveUp 7 [(2, p_i q), (0, p_r v0), (1, p_r v1)] [] s0 _) ?_ h
  intro x2 h
  refine g_sub [(0, p_r v0), (1, p_r v1), (2, p_i x2)] [1, 2, 0] rfl ?_
  exact tO_Step_moveUp_7 K l 3000 v0 v1 x2 s0 _ h
def m_Gear_isHeld : p_Me := (⟨"SortWorks$Gear", "isHeld", "()Z"⟩, prog_2_method_13_code, 1, (some .boolean), 0, 0)
theorem mt_Gear_isHeld : p_Mt m_Gear_isHeld 0 := ⟨p_mem (p_tb4 (List.mem_of_getElem? (i := 206) rfl)) rfl, tw_1_5, by decide +kernel, by decide +kernel, by decide +kernel⟩
def dt_Gear_isHeld : List (Nat × Instr × Nat) := [(0, .aload_n 0, 1), (1, .getfield 35, 3), (4, .bipush 8, 2), (6, .if_icmp .ne 14, 3), (9, .aload_n 0, 1), (10, .getfield 75, 3), (13, .ifCond .ne 7, 3), (16, .iconst 1, 1), (17, .goto 4, 3), (20, .iconst 0, 1), (21, .ireturn, 1)]
theorem dk_Gear_isHeld (i : Nat) {pc : Nat} {ins : Instr} {len : Nat} (h : dt_Gear_isHeld[i]? = some (pc, ins, len)) : decode m_Gear_isHeld.2.1 pc = .ok (ins, len) := p_dk (b := m_Gear_isHeld.2.1) (t := dt_Gear_isHeld) (by decide +kernel) i h
def F_Gear_isHeld (v0 : Nat) (s0 : p_Hp) : Option (Int × p_Hp) :=
  p_gd (p_is s0 v0 0) <|
  if (p_Z s0 v0 0) ≠ 8 then
    some (0, s0)
  else
    if (p_Z s0 v0 14) ≠ 0 then
      some (0, s0)
    else
      some (1, s0)
set_option maxRecDepth 100000 in
set_option maxHeartbeats 4000000 in
theorem tF_Gear_isHeld (K : p_K) (l : Launch) (v0 : Nat) (s0 : p_Hp) (r : (Int × p_Hp)) (h : F_Gear_isHeld v0 s0 = some r) : p_Ct K l m_Gear_isHeld [p_r v0] s0 (some (p_i r.1), r.2) := by
  refine p_Ct.of (by decide +kernel) (Nat.le_of_ble_eq_true rfl) ?_
  unfold F_Gear_isHeld at h
  show p_Go K l m_Gear_isHeld 0 [(0, p_r v0)] [] s0 _
  refine g_aload_n (i := 0) (j := 0) (dk_Gear_isHeld 0 rfl) rfl rfl ?_
  obtain ⟨c1, h⟩ := p_gdE h
  refine g_getI fl_Gear_35 (Or.inl rfl) (dk_Gear_isHeld 1 rfl) c1 ?_
  refine g_bipush (dk_Gear_isHeld 2 rfl) (by decide +kernel) (by decide) ?_
  refine g_icmp_ne 20 (dk_Gear_isHeld 3 rfl) (by decide) (fun b2 => ?_) (fun b2 => ?_)
  · have h := p_ifT b2 h
    refine g_iconst (dk_Gear_isHeld 9 rfl) (by decide) ?_
    cases h
    exact g_ret rfl rfl (dk_Gear_isHeld 10 rfl) (fun _ => ⟨_, rfl, Or.inl rfl⟩)
  · have h := p_ifF b2 h
    refine g_aload_n (i := 0) (j := 0) (dk_Gear_isHeld 4 rfl) rfl rfl ?_
    refine g_getI fl_Gear_75 (Or.inl rfl) (dk_Gear_isHeld 5 rfl) c1 ?_
    refine g_if_ne 20 (dk_Gear_isHeld 6 rfl) (by decide) (fun b3 => ?_) (fun b3 => ?_)
    · have h := p_ifT b3 h
      refine g_iconst (dk_Gear_isHeld 9 rfl) (by decide) ?_
      cases h
      exact g_ret rfl rfl (dk_Gear_isHeld 10 rfl) (fun _ => ⟨_, rfl, Or.inl rfl⟩)
    · have h := p_ifF b3 h
      refine g_iconst (dk_Gear_isHeld 7 rfl) (by decide) ?_
      refine g_goto 21 (dk_Gear_isHeld 8 rfl) (by decide) ?_
      cases h
      exact g_ret rfl rfl (dk_Gear_isHeld 10 rfl) (fun _ => ⟨_, rfl, Or.inr rfl⟩)
def m_Gear_linkAhead : p_Me := (⟨"SortWorks$Gear", "linkAhead", "()I"⟩, prog_2_method_20_code, 1, (some .int), 1, 20)
theorem mt_Gear_linkAhead : p_Mt m_Gear_linkAhead 0 := ⟨p_mem (p_tb4 (List.mem_of_getElem? (i := 210) rfl)) rfl, tw_1_5, by decide +kernel, by decide +kernel, by decide +kernel⟩
def dt_Gear_linkAhead : List (Nat × Instr × Nat) := [(0, .aload_n 0, 1), (1, .invokevirtual 123, 3), (4, .ifCond .eq 10, 3), (7, .aload_n 0, 1), (8, .getfield 50, 3), (11, .goto 4, 3), (14, .iconst 0, 1), (15, .ireturn, 1)]
theorem dk_Gear_linkAhead (i : Nat) {pc : Nat} {ins : Instr} {len : Nat} (h : dt_Gear_linkAhead[i]? = some (pc, ins, len)) : decode m_Gear_linkAhead.2.1 pc = .ok (ins, len) := p_dk (b := m_Gear_linkAhead.2.1) (t := dt_Gear_linkAhead) (by decide +kernel) i h
def F_Gear_linkAhead (v0 : Nat) (s0 : p_Hp) : Option (Int × p_Hp) :=
  p_gd (p_is s0 v0 0) <|
  p_bd (F_Gear_isDivert v0 s0) fun r6 s2 =>
  if r6 = 0 then
    some (0, s2)
  else
    some ((p_Z s2 v0 6), s2)
set_option maxRecDepth 100000 in
set_option maxHeartbeats 4000000 in
theorem tF_Gear_linkAhead (K : p_K) (l : Launch) (v0 : Nat) (s0 : p_Hp) (r : (Int × p_Hp)) (h : F_Gear_linkAhead v0 s0 = some r) : p_Ct K l m_Gear_linkAhead [p_r v0] s0 (some (p_i r.1), r.2) := by
  refine p_Ct.of (by decide +kernel) (Nat.le_of_ble_eq_true rfl) ?_
  unfold F_Gear_linkAhead at h
  show p_Go K l m_Gear_linkAhead 0 [(0, p_r v0)] [] s0 _
  refine g_aload_n (i := 0) (j := 0) (dk_Gear_linkAhead 0 rfl) rfl rfl ?_
  obtain ⟨c1, h⟩ := p_gdE h
  obtain ⟨r6, s2, q3, h⟩ := p_bdE h
  have t4 := tF_Gear_isDivert K l v0 s0 _ q3
  refine g_callV (a := v0) (ci := 0) (q0 := (RX0, TX0, 20)) (As := []) (rest := []) [p_i r6] mt_Gear_isDivert rfl rfl tw_3_119 tw_3_120 tw_4_211 ⟨Nat.le_of_ble_eq_true rfl, Nat.le_of_ble_eq_true rfl⟩ rfl (Nat.le_of_ble_eq_true rfl) (dk_Gear_linkAhead 1 rfl) rfl c1 rfl t4 ?_
  have hs5 : p_x s0 s2 := t4.1
  show p_Go K l m_Gear_linkAhead 4 [(0, p_r v0)] [p_i r6] s2 _
  refine g_if_eq 14 (dk_Gear_linkAhead 2 rfl) (by decide) (fun b7 => ?_) (fun b7 => ?_)
  · have h := p_ifT b7 h
    refine g_iconst (dk_Gear_linkAhead 6 rfl) (by decide) ?_
    cases h
    exact g_ret rfl rfl (dk_Gear_linkAhead 7 rfl) (fun os => ⟨_, rfl, p_okh os⟩)
  · have h := p_ifF b7 h
    refine g_aload_n (i := 0) (j := 0) (dk_Gear_linkAhead 3 rfl) rfl rfl ?_
    refine g_getI fl_Gear_50 (Or.inl rfl) (dk_Gear_linkAhead 4 rfl) (c1.up hs5) ?_
    refine g_goto 15 (dk_Gear_linkAhead 5 rfl) (by decide) ?_
    cases h
    exact g_ret rfl rfl (dk_Gear_linkAhead 7 rfl) (fun os => ⟨_, rfl, p_okh os⟩)
def m_Log_add : p_Me := (⟨"SortWorks$Log", "add", "(IIIII)V"⟩, prog_4_method_2_code, 7, none, 0, 0)
theorem mt_Log_add : p_Mt m_Log_add 5 := ⟨p_mem (p_tb4 (List.mem_of_getElem? (i := 186) rfl)) rfl, tw_1_4, by decide +kernel, by decide +kernel, by decide +kernel⟩
def dt_Log_add : List (Nat × Instr × Nat) := [(0, .aload_n 0, 1), (1, .getfield 28, 3), (4, .aload_n 0, 1), (5, .getfield 15, 3), (8, .irem, 1), (9, .iconst 5, 1), (10, .imul, 1), (11, .istore 6, 2), (13, .aload_n 0, 1), (14, .getfield 22, 3), (17, .iload 6, 2), (19, .iload_n 1, 1), (20, .iastore, 1), (21, .aload_n 0, 1), (22, .getfield 22, 3), (25, .iload 6, 2), (27, .iconst 1, 1), (28, .iadd, 1), (29, .iload_n 2, 1), (30, .iastore, 1), (31, .aload_n 0, 1), (32, .getfield 22, 3), (35, .iload 6, 2), (37, .iconst 2, 1), (38, .iadd, 1), (39, .iload_n 3, 1), (40, .iastore, 1), (41, .aload_n 0, 1), (42, .getfield 22, 3), (45, .iload 6, 2), (47, .iconst 3, 1), (48, .iadd, 1), (49, .iload 4, 2), (51, .iastore, 1), (52, .aload_n 0, 1), (53, .getfield 22, 3), (56, .iload 6, 2), (58, .iconst 4, 1), (59, .iadd, 1), (60, .iload 5, 2), (62, .iastore, 1), (63, .aload_n 0, 1), (64, .dup, 1), (65, .getfield 28, 3), (68, .iconst 1, 1), (69, .iadd, 1), (70, .putfield 28, 3), (73, .return_, 1)]
theorem dk_Log_add (i : Nat) {pc : Nat} {ins : Instr} {len : Nat} (h : dt_Log_add[i]? = some (pc, ins, len)) : decode m_Log_add.2.1 pc = .ok (ins, len) := p_dk (b := m_Log_add.2.1) (t := dt_Log_add) (by decide +kernel) i h
def F_Log_add (v0 : Nat) (v1 : Int) (v2 : Int) (v3 : Int) (v4 : Int) (v5 : Int) (s0 : p_Hp) : Option p_Hp :=
  p_gd (p_is s0 v0 2) <|
  p_gd ((p_Z s0 v0 0) ≠ 0) <|
  p_bi ((p_w ((p_rem (p_Z s0 v0 3) (p_Z s0 v0 0)) * 5))) fun x3 =>
  p_gd (p_is s0 (p_R s0 v0 2) 100) <|
  p_gd ((0 : Int) ≤ x3 ∧ x3 < (p_L s0 (p_R s0 v0 2) : Int)) <|
  p_bi (p_wZ s0 (p_R s0 v0 2) (x3 : Int).toNat v1) fun s6 =>
  p_gd (p_is s6 (p_R s6 v0 2) 100) <|
  p_gd ((0 : Int) ≤ (p_w (x3 + 1)) ∧ (p_w (x3 + 1)) < (p_L s6 (p_R s6 v0 2) : Int)) <|
  p_bi (p_wZ s6 (p_R s6 v0 2) ((p_w (x3 + 1)) : Int).toNat v2) fun s10 =>
  p_gd (p_is s10 (p_R s10 v0 2) 100) <|
  p_gd ((0 : Int) ≤ (p_w (x3 + 2)) ∧ (p_w (x3 + 2)) < (p_L s10 (p_R s10 v0 2) : Int)) <|
  p_bi (p_wZ s10 (p_R s10 v0 2) ((p_w (x3 + 2)) : Int).toNat v3) fun s14 =>
  p_gd (p_is s14 (p_R s14 v0 2) 100) <|
  p_gd ((0 : Int) ≤ (p_w (x3 + 3)) ∧ (p_w (x3 + 3)) < (p_L s14 (p_R s14 v0 2) : Int)) <|
  p_bi (p_wZ s14 (p_R s14 v0 2) ((p_w (x3 + 3)) : Int).toNat v4) fun s18 =>
  p_gd (p_is s18 (p_R s18 v0 2) 100) <|
  p_gd ((0 : Int) ≤ (p_w (x3 + 4)) ∧ (p_w (x3 + 4)) < (p_L s18 (p_R s18 v0 2) : Int)) <|
  p_bi (p_wZ s18 (p_R s18 v0 2) ((p_w (x3 + 4)) : Int).toNat v5) fun s22 =>
  p_bi (p_wZ s22 v0 3 (p_w ((p_Z s22 v0 3) + 1))) fun s24 =>
  some s24
set_option maxRecDepth 100000 in
set_option maxHeartbeats 4000000 in
theorem tF_Log_add (K : p_K) (l : Launch) (v0 : Nat) (v1 : Int) (v2 : Int) (v3 : Int) (v4 : Int) (v5 : Int) (s0 : p_Hp) (r : p_Hp) (h : F_Log_add v0 v1 v2 v3 v4 v5 s0 = some r) : p_Ct K l m_Log_add [p_r v0, p_i v1, p_i v2, p_i v3, p_i v4, p_i v5] s0 (none, r) := by
  refine p_Ct.of (by decide +kernel) (Nat.le_of_ble_eq_true rfl) ?_
  unfold F_Log_add at h
  show p_Go K l m_Log_add 0 [(0, p_r v0), (1, p_i v1), (2, p_i v2), (3, p_i v3), (4, p_i v4), (5, p_i v5)] [] s0 _
  refine g_aload_n (i := 0) (j := 0) (dk_Log_add 0 rfl) rfl rfl ?_
  obtain ⟨c1, h⟩ := p_gdE h
  refine g_getI fl_Log_28 (Or.inl rfl) (dk_Log_add 1 rfl) c1 ?_
  refine g_aload_n (i := 0) (j := 0) (dk_Log_add 2 rfl) rfl rfl ?_
  refine g_getI fl_Log_15 (Or.inl rfl) (dk_Log_add 3 rfl) c1 ?_
  obtain ⟨c2, h⟩ := p_gdE h
  refine g_irem (dk_Log_add 4 rfl) c2 ?_
  refine g_iconst (dk_Log_add 5 rfl) (by decide) ?_
  refine g_imul (dk_Log_add 6 rfl) ?_
  refine g_istore [(6, p_i (p_w ((p_rem (p_Z s0 v0 3) (p_Z s0 v0 0)) * 5))), (0, p_r v0), (1, p_i v1), (2, p_i v2), (3, p_i v3), (4, p_i v4), (5, p_i v5)] (dk_Log_add 7 rfl) (by decide) rfl ?_
  refine p_ltG (P := fun q => p_Go K l m_Log_add 13 [(6, p_i q), (0, p_r v0), (1, p_i v1), (2, p_i v2), (3, p_i v3), (4, p_i v4), (5, p_i v5)] [] s0 _) ?_ h
  intro x3 h
  refine g_aload_n (i := 0) (j := 1) (dk_Log_add 8 rfl) rfl rfl ?_
  refine g_getR fl_Log_22 (Or.inr ⟨_, rfl⟩) (dk_Log_add 9 rfl) c1 ?_
  refine g_iload (j := 0) (dk_Log_add 10 rfl) rfl ?_
  refine g_iload_n (i := 1) (j := 2) (dk_Log_add 11 rfl) rfl rfl ?_
  obtain ⟨c4, h⟩ := p_gdE h
  obtain ⟨c5, h⟩ := p_gdE h
  refine g_iastore (dk_Log_add 12 rfl) c4 c5.1 c5.2 ?_
  refine p_ltS (P := fun q => p_Go K l m_Log_add 21 [(6, p_i x3), (0, p_r v0), (1, p_i v1), (2, p_i v2), (3, p_i v3), (4, p_i v4), (5, p_i v5)] [] q _) (p_xZ _ _ _ _) ?_ h
  intro s6 hs7 h
  refine g_aload_n (i := 0) (j := 1) (dk_Log_add 13 rfl) rfl rfl ?_
  refine g_getR fl_Log_22 (Or.inr ⟨_, rfl⟩) (dk_Log_add 14 rfl) (c1.up hs7) ?_
  refine g_iload (j := 0) (dk_Log_add 15 rfl) rfl ?_
  refine g_iconst (dk_Log_add 16 rfl) (by decide) ?_
  refine g_iadd (dk_Log_add 17 rfl) ?_
  refine g_iload_n (i := 2) (j := 3) (dk_Log_add 18 rfl) rfl rfl ?_
  obtain ⟨c8, h⟩ := p_gdE h
  obtain ⟨c9, h⟩ := p_gdE h
  refine g_iastore (dk_Log_add 19 rfl) c8 c9.1 c9.2 ?_
  refine p_ltS (P := fun q => p_Go K l m_Log_add 31 [(6, p_i x3), (0, p_r v0), (1, p_i v1), (2, p_i v2), (3, p_i v3), (4, p_i v4), (5, p_i v5)] [] q _) (p_xZ _ _ _ _) ?_ h
  intro s10 hs11 h
  refine g_aload_n (i := 0) (j := 1) (dk_Log_add 20 rfl) rfl rfl ?_
  refine g_getR fl_Log_22 (Or.inr ⟨_, rfl⟩) (dk_Log_add 21 rfl) (c1.up (hs7.trans hs11)) ?_
  refine g_iload (j := 0) (dk_Log_add 22 rfl) rfl ?_
  refine g_iconst (dk_Log_add 23 rfl) (by decide) ?_
  refine g_iadd (dk_Log_add 24 rfl) ?_
  refine g_iload_n (i := 3) (j := 4) (dk_Log_add 25 rfl) rfl rfl ?_
  obtain ⟨c12, h⟩ := p_gdE h
  obtain ⟨c13, h⟩ := p_gdE h
  refine g_iastore (dk_Log_add 26 rfl) c12 c13.1 c13.2 ?_
  refine p_ltS (P := fun q => p_Go K l m_Log_add 41 [(6, p_i x3), (0, p_r v0), (1, p_i v1), (2, p_i v2), (3, p_i v3), (4, p_i v4), (5, p_i v5)] [] q _) (p_xZ _ _ _ _) ?_ h
  intro s14 hs15 h
  refine g_aload_n (i := 0) (j := 1) (dk_Log_add 27 rfl) rfl rfl ?_
  refine g_getR fl_Log_22 (Or.inr ⟨_, rfl⟩) (dk_Log_add 28 rfl) (c1.up (hs7.trans (hs11.trans hs15))) ?_
  refine g_iload (j := 0) (dk_Log_add 29 rfl) rfl ?_
  refine g_iconst (dk_Log_add 30 rfl) (by decide) ?_
  refine g_iadd (dk_Log_add 31 rfl) ?_
  refine g_iload (j := 5) (dk_Log_add 32 rfl) rfl ?_
  obtain ⟨c16, h⟩ := p_gdE h
  obtain ⟨c17, h⟩ := p_gdE h
  refine g_iastore (dk_Log_add 33 rfl) c16 c17.1 c17.2 ?_
  refine p_ltS (P := fun q => p_Go K l m_Log_add 52 [(6, p_i x3), (0, p_r v0), (1, p_i v1), (2, p_i v2), (3, p_i v3), (4, p_i v4), (5, p_i v5)] [] q _) (p_xZ _ _ _ _) ?_ h
  intro s18 hs19 h
  refine g_aload_n (i := 0) (j := 1) (dk_Log_add 34 rfl) rfl rfl ?_
  refine g_getR fl_Log_22 (Or.inr ⟨_, rfl⟩) (dk_Log_add 35 rfl) (c1.up (hs7.trans (hs11.trans (hs15.trans hs19)))) ?_
  refine g_iload (j := 0) (dk_Log_add 36 rfl) rfl ?_
  refine g_iconst (dk_Log_add 37 rfl) (by decide) ?_
  refine g_iadd (dk_Log_add 38 rfl) ?_
  refine g_iload (j := 6) (dk_Log_add 39 rfl) rfl ?_
  obtain ⟨c20, h⟩ := p_gdE h
  obtain ⟨c21, h⟩ := p_gdE h
  refine g_iastore (dk_Log_add 40 rfl) c20 c21.1 c21.2 ?_
  refine p_ltS (P := fun q => p_Go K l m_Log_add 63 [(6, p_i x3), (0, p_r v0), (1, p_i v1), (2, p_i v2), (3, p_i v3), (4, p_i v4), (5, p_i v5)] [] q _) (p_xZ _ _ _ _) ?_ h
  intro s22 hs23 h
  refine g_aload_n (i := 0) (j := 1) (dk_Log_add 41 rfl) rfl rfl ?_
  refine g_dup (dk_Log_add 42 rfl) rfl ?_
  refine g_getI fl_Log_28 (Or.inl rfl) (dk_Log_add 43 rfl) (c1.up (hs7.trans (hs11.trans (hs15.trans (hs19.trans hs23))))) ?_
  refine g_iconst (dk_Log_add 44 rfl) (by decide) ?_
  refine g_iadd (dk_Log_add 45 rfl) ?_
  refine g_putI fl_Log_28 (Or.inl rfl) (dk_Log_add 46 rfl) (c1.up (hs7.trans (hs11.trans (hs15.trans (hs19.trans hs23))))) ?_
  refine p_ltS (P := fun q => p_Go K l m_Log_add 73 [(6, p_i x3), (0, p_r v0), (1, p_i v1), (2, p_i v2), (3, p_i v3), (4, p_i v4), (5, p_i v5)] [] q _) (p_xZ _ _ _ _) ?_ h
  intro s24 hs25 h
  cases h
  exact g_ret rfl rfl (dk_Log_add 47 rfl) (fun _ => rfl)
def m_Step_addFinding : p_Me := (⟨"SortWorks$Step", "addFinding", "(IIII)V"⟩, prog_10_method_4_code, 5, none, 1, 26)
theorem mt_Step_addFinding : p_Mt m_Step_addFinding 4 := ⟨p_mem (p_tb4 (List.mem_of_getElem? (i := 182) rfl)) rfl, tw_1_9, by decide +kernel, by decide +kernel, by decide +kernel⟩
def dt_Step_addFinding : List (Nat × Instr × Nat) := [(0, .aload_n 0, 1), (1, .getfield 28, 3), (4, .getfield 33, 3), (7, .aload_n 0, 1), (8, .getfield 28, 3), (11, .getfield 54, 3), (14, .iload_n 1, 1), (15, .iload_n 2, 1), (16, .bipush (-10), 2), (18, .iload_n 3, 1), (19, .isub, 1), (20, .iload 4, 2), (22, .invokevirtual 102, 3), (25, .aload_n 0, 1), (26, .iconst 1, 1), (27, .putfield 106, 3), (30, .iload_n 1, 1), (31, .bipush (-9), 2), (33, .if_icmp .eq 21, 3), (36, .aload_n 0, 1), (37, .getfield 28, 3), (40, .getfield 82, 3), (43, .iload_n 1, 1), (44, .aaload, 1), (45, .dup, 1), (46, .getfield 109, 3), (49, .iconst 1, 1), (50, .iadd, 1), (51, .putfield 109, 3), (54, .return_, 1)]
theorem dk_Step_addFinding (i : Nat) {pc : Nat} {ins : Instr} {len : Nat} (h : dt_Step_addFinding[i]? = some (pc, ins, len)) : decode m_Step_addFinding.2.1 pc = .ok (ins, len) := p_dk (b := m_Step_addFinding.2.1) (t := dt_Step_addFinding) (by decide +kernel) i h
def F_Step_addFinding (v0 : Nat) (v1 : Int) (v2 : Int) (v3 : Int) (v4 : Int) (s0 : p_Hp) : Option p_Hp :=
  p_gd (p_is s0 v0 8) <|
  p_gd (p_is s0 (p_R s0 v0 3) 7) <|
  p_gd (p_is s0 (p_R s0 (p_R s0 v0 3) 7) 2) <|
  p_bv (F_Log_add (p_R s0 (p_R s0 v0 3) 7) (p_Z s0 (p_R s0 v0 3) 0) v1 v2 (p_w ((-10) - v3)) v4 s0) fun s4 =>
  p_bi (p_wZ s4 v0 4 1) fun s8 =>
  if v1 = (-9) then
    some s8
  else
    p_gd (p_is s8 (p_R s8 v0 3) 7) <|
    p_gd (p_is s8 (p_R s8 (p_R s8 v0 3) 4) 105) <|
    p_gd ((0 : Int) ≤ v1 ∧ v1 < (p_L s8 (p_R s8 (p_R s8 v0 3) 4) : Int)) <|
    p_gd (p_is s8 (p_R s8 (p_R s8 (p_R s8 v0 3) 4) (v1 : Int).toNat) 0) <|
    p_bi (p_wZ s8 (p_R s8 (p_R s8 (p_R s8 v0 3) 4) (v1 : Int).toNat) 12 (p_w ((p_Z s8 (p_R s8 (p_R s8 (p_R s8 v0 3) 4) (v1 : Int).toNat) 12) + 1))) fun s15 =>
    some s15
set_option maxRecDepth 100000 in
set_option maxHeartbeats 4000000 in
theorem tF_Step_addFinding (K : p_K) (l : Launch) (v0 : Nat) (v1 : Int) (v2 : Int) (v3 : Int) (v4 : Int) (s0 : p_Hp) (r : p_Hp) (h : F_Step_addFinding v0 v1 v2 v3 v4 s0 = some r) : p_Ct K l m_Step_addFinding [p_r v0, p_i v1, p_i v2, p_i v3, p_i v4] s0 (none, r) := by
  refine p_Ct.of (by decide +kernel) (Nat.le_of_ble_eq_true rfl) ?_
  unfold F_Step_addFinding at h
  show p_Go K l m_Step_addFinding 0 [(0, p_r v0), (1, p_i v1), (2, p_i v2), (3, p_i v3), (4, p_i v4)] [] s0 _
  refine g_aload_n (i := 0) (j := 0) (dk_Step_addFinding 0 rfl) rfl rfl ?_
  obtain ⟨c1, h⟩ := p_gdE h
  refine g_getR fl_Step_28 (Or.inl ⟨_, rfl⟩) (dk_Step_addFinding 1 rfl) c1 ?_
  obtain ⟨c2, h⟩ := p_gdE h
  refine g_getR fl_Step_33 (Or.inl ⟨_, rfl⟩) (dk_Step_addFinding 2 rfl) c2 ?_
  refine g_aload_n (i := 0) (j := 0) (dk_Step_addFinding 3 rfl) rfl rfl ?_
  refine g_getR fl_Step_28 (Or.inl ⟨_, rfl⟩) (dk_Step_addFinding 4 rfl) c1 ?_
  refine g_getI fl_Step_54 (Or.inl rfl) (dk_Step_addFinding 5 rfl) c2 ?_
  refine g_iload_n (i := 1) (j := 1) (dk_Step_addFinding 6 rfl) rfl rfl ?_
  refine g_iload_n (i := 2) (j := 2) (dk_Step_addFinding 7 rfl) rfl rfl ?_
  refine g_bipush (dk_Step_addFinding 8 rfl) (by decide +kernel) (by decide) ?_
  refine g_iload_n (i := 3) (j := 3) (dk_Step_addFinding 9 rfl) rfl rfl ?_
  refine g_isub (dk_Step_addFinding 10 rfl) ?_
  refine g_iload (j := 4) (dk_Step_addFinding 11 rfl) rfl ?_
  obtain ⟨c3, h⟩ := p_gdE h
  obtain ⟨s4, q5, h⟩ := p_bvE h
  have t6 := tF_Log_add K l (p_R s0 (p_R s0 v0 3) 7) (p_Z s0 (p_R s0 v0 3) 0) v1 v2 (p_w ((-10) - v3)) v4 s0 _ q5
  refine g_callV (a := (p_R s0 (p_R s0 v0 3) 7)) (ci := 2) (q0 := (RX2, TX2, 6)) (As := [p_i (p_Z s0 (p_R s0 v0 3) 0), p_i v1, p_i v2, p_i (p_w ((-10) - v3)), p_i v4]) (rest := []) [] mt_Log_add rfl rfl tw_4_184 tw_4_185 tw_4_183 ⟨Nat.le_of_ble_eq_true rfl, Nat.le_of_ble_eq_true rfl⟩ rfl (Nat.le_of_ble_eq_true rfl) (dk_Step_addFinding 12 rfl) rfl c3 rfl t6 ?_
  have hs7 : p_x s0 s4 := t6.1
  show p_Go K l m_Step_addFinding 25 [(0, p_r v0), (1, p_i v1), (2, p_i v2), (3, p_i v3), (4, p_i v4)] [] s4 _
  refine g_aload_n (i := 0) (j := 0) (dk_Step_addFinding 13 rfl) rfl rfl ?_
  refine g_iconst (dk_Step_addFinding 14 rfl) (by decide) ?_
  refine g_putB fl_Step_106 (Or.inl rfl) (dk_Step_addFinding 15 rfl) (c1.up hs7) (Or.inr rfl) ?_
  refine p_ltS (P := fun q => p_Go K l m_Step_addFinding 30 [(0, p_r v0), (1, p_i v1), (2, p_i v2), (3, p_i v3), (4, p_i v4)] [] q _) (p_xZ _ _ _ _) ?_ h
  intro s8 hs9 h
  refine g_iload_n (i := 1) (j := 1) (dk_Step_addFinding 16 rfl) rfl rfl ?_
  refine g_bipush (dk_Step_addFinding 17 rfl) (by decide +kernel) (by decide) ?_
  refine g_icmp_eq 54 (dk_Step_addFinding 18 rfl) (by decide) (fun b10 => ?_) (fun b10 => ?_)
  · have h := p_ifT b10 h
    cases h
    exact g_ret rfl rfl (dk_Step_addFinding 29 rfl) (fun _ => rfl)
  · have h := p_ifF b10 h
    refine g_aload_n (i := 0) (j := 0) (dk_Step_addFinding 19 rfl) rfl rfl ?_
    refine g_getR fl_Step_28 (Or.inl ⟨_, rfl⟩) (dk_Step_addFinding 20 rfl) (c1.up (hs7.trans hs9)) ?_
    obtain ⟨c11, h⟩ := p_gdE h
    refine g_getR fl_Step_82 (Or.inr ⟨_, rfl⟩) (dk_Step_addFinding 21 rfl) c11 ?_
    refine g_iload_n (i := 1) (j := 1) (dk_Step_addFinding 22 rfl) rfl rfl ?_
    obtain ⟨c12, h⟩ := p_gdE h
    obtain ⟨c13, h⟩ := p_gdE h
    refine g_aaload (i := 5) rfl (Or.inl ⟨_, rfl⟩) (dk_Step_addFinding 23 rfl) c12 c13.1 c13.2 ?_
    refine g_dup (dk_Step_addFinding 24 rfl) rfl ?_
    obtain ⟨c14, h⟩ := p_gdE h
    refine g_getI fl_Step_109 (Or.inl rfl) (dk_Step_addFinding 25 rfl) c14 ?_
    refine g_iconst (dk_Step_addFinding 26 rfl) (by decide) ?_
    refine g_iadd (dk_Step_addFinding 27 rfl) ?_
    refine g_putI fl_Step_109 (Or.inl rfl) (dk_Step_addFinding 28 rfl) c14 ?_
    refine p_ltS (P := fun q => p_Go K l m_Step_addFinding 54 [(0, p_r v0), (1, p_i v1), (2, p_i v2), (3, p_i v3), (4, p_i v4)] [] q _) (p_xZ _ _ _ _) ?_ h
    intro s15 hs16 h
    cases h
    exact g_ret rfl rfl (dk_Step_addFinding 29 rfl) (fun _ => rfl)
def m_Gear_wantedSide : p_Me := (⟨"SortWorks$Gear", "wantedSide", "(I)I"⟩, prog_2_method_19_code, 2, (some .int), 1, 22)
theorem mt_Gear_wantedSide : p_Mt m_Gear_wantedSide 1 := ⟨p_mem (p_tb5 (List.mem_of_getElem? (i := 60) rfl)) rfl, tw_1_5, by decide +kernel, by decide +kernel, by decide +kernel⟩
def dt_Gear_wantedSide : List (Nat × Instr × Nat) := [(0, .aload_n 0, 1), (1, .iconst 1, 1), (2, .iload_n 1, 1), (3, .invokevirtual 119, 3), (6, .ifCond .eq 7, 3), (9, .iconst 1, 1), (10, .goto 17, 3), (13, .aload_n 0, 1), (14, .iconst 2, 1), (15, .iload_n 1, 1), (16, .invokevirtual 119, 3), (19, .ifCond .eq 7, 3), (22, .iconst 2, 1), (23, .goto 4, 3), (26, .iconst 0, 1), (27, .ireturn, 1)]
theorem dk_Gear_wantedSide (i : Nat) {pc : Nat} {ins : Instr} {len : Nat} (h : dt_Gear_wantedSide[i]? = some (pc, ins, len)) : decode m_Gear_wantedSide.2.1 pc = .ok (ins, len) := p_dk (b := m_Gear_wantedSide.2.1) (t := dt_Gear_wantedSide) (by decide +kernel) i h
def F_Gear_wantedSide (v0 : Nat) (v1 : Int) (s0 : p_Hp) : Option (Int × p_Hp) :=
  p_gd (p_is s0 v0 0) <|
  p_bd (F_Gear_aims v0 1 v1 s0) fun r6 s2 =>
  if r6 = 0 then
    p_bd (F_Gear_aims v0 2 v1 s2) fun r12 s8 =>
    if r12 = 0 then
      some (0, s8)
    else
      some (2, s8)
  else
    some (1, s2)
set_option maxRecDepth 100000 in
set_option maxHeartbeats 4000000 in
theorem tF_Gear_wantedSide (K : p_K) (l : Launch) (v0 : Nat) (v1 : Int) (s0 : p_Hp) (r : (Int × p_Hp)) (h : F_Gear_wantedSide v0 v1 s0 = some r) : p_Ct K l m_Gear_wantedSide [p_r v0, p_i v1] s0 (some (p_i r.1), r.2) := by
  refine p_Ct.of (by decide +kernel) (Nat.le_of_ble_eq_true rfl) ?_
  unfold F_Gear_wantedSide at h
  show p_Go K l m_Gear_wantedSide 0 [(0, p_r v0), (1, p_i v1)] [] s0 _
  refine g_aload_n (i := 0) (j := 0) (dk_Gear_wantedSide 0 rfl) rfl rfl ?_
  refine g_iconst (dk_Gear_wantedSide 1 rfl) (by decide) ?_
  refine g_iload_n (i := 1) (j := 1) (dk_Gear_wantedSide 2 rfl) rfl rfl ?_
  obtain ⟨c1, h⟩ := p_gdE h
  obtain ⟨r6, s2, q3, h⟩ := p_bdE h
  have t4 := tF_Gear_aims K l v0 1 v1 s0 _ q3
  refine g_callV (a := v0) (ci := 0) (q0 := (RX0, TX0, 20)) (As := [p_i 1, p_i v1]) (rest := []) [p_i r6] mt_Gear_aims rfl rfl tw_3_129 tw_3_130 tw_5_61 ⟨Nat.le_of_ble_eq_true rfl, Nat.le_of_ble_eq_true rfl⟩ rfl (Nat.le_of_ble_eq_true rfl) (dk_Gear_wantedSide 3 rfl) rfl c1 rfl t4 ?_
  have hs5 : p_x s0 s2 := t4.1
  show p_Go K l m_Gear_wantedSide 6 [(0, p_r v0), (1, p_i v1)] [p_i r6] s2 _
  refine g_if_eq 13 (dk_Gear_wantedSide 4 rfl) (by decide) (fun b7 => ?_) (fun b7 => ?_)
  · have h := p_ifT b7 h
    refine g_aload_n (i := 0) (j := 0) (dk_Gear_wantedSide 7 rfl) rfl rfl ?_
    refine g_iconst (dk_Gear_wantedSide 8 rfl) (by decide) ?_
    refine g_iload_n (i := 1) (j := 1) (dk_Gear_wantedSide 9 rfl) rfl rfl ?_
    obtain ⟨r12, s8, q9, h⟩ := p_bdE h
    have t10 := tF_Gear_aims K l v0 2 v1 s2 _ q9
    refine g_callV (a := v0) (ci := 0) (q0 := (RX0, TX0, 20)) (As := [p_i 2, p_i v1]) (rest := []) [p_i r12] mt_Gear_aims rfl rfl tw_3_129 tw_3_130 tw_5_61 ⟨Nat.le_of_ble_eq_true rfl, Nat.le_of_ble_eq_true rfl⟩ rfl (Nat.le_of_ble_eq_true rfl) (dk_Gear_wantedSide 10 rfl) rfl (c1.up hs5) rfl t10 ?_
    have hs11 : p_x s2 s8 := t10.1
    show p_Go K l m_Gear_wantedSide 19 [(0, p_r v0), (1, p_i v1)] [p_i r12] s8 _
    refine g_if_eq 26 (dk_Gear_wantedSide 11 rfl) (by decide) (fun b13 => ?_) (fun b13 => ?_)
    · have h := p_ifT b13 h
      refine g_iconst (dk_Gear_wantedSide 14 rfl) (by decide) ?_
      cases h
      exact g_ret rfl rfl (dk_Gear_wantedSide 15 rfl) (fun os => ⟨_, rfl, p_okh os⟩)
    · have h := p_ifF b13 h
      refine g_iconst (dk_Gear_wantedSide 12 rfl) (by decide) ?_
      refine g_goto 27 (dk_Gear_wantedSide 13 rfl) (by decide) ?_
      cases h
      exact g_ret rfl rfl (dk_Gear_wantedSide 15 rfl) (fun os => ⟨_, rfl, p_okh os⟩)
  · have h := p_ifF b7 h
    refine g_iconst (dk_Gear_wantedSide 5 rfl) (by decide) ?_
    refine g_goto 27 (dk_Gear_wantedSide 6 rfl) (by decide) ?_
    cases h
    exact g_ret rfl rfl (dk_Gear_wantedSide 15 rfl) (fun os => ⟨_, rfl, p_okh os⟩)
def m_Step_divertTakes : p_Me := (⟨"SortWorks$Step", "divertTakes", "(LSortWorks$Gear;I)Z"⟩, prog_10_method_28_code, 2, (some .boolean), 1, 22)
theorem mt_Step_divertTakes : p_Mt m_Step_divertTakes 2 := ⟨p_mem (p_tb5 (List.mem_of_getElem? (i := 64) rfl)) rfl, tw_1_9, by decide +kernel, by decide +kernel, by decide +kernel⟩
def dt_Step_divertTakes : List (Nat × Instr × Nat) := [(0, .aload_n 0, 1), (1, .getfield 155, 3), (4, .iload_n 1, 1), (5, .if_icmp .ne 8, 3), (8, .aload_n 0, 1), (9, .invokevirtual 380, 3), (12, .ireturn, 1), (13, .aload_n 0, 1), (14, .invokevirtual 148, 3), (17, .ifCond .ne 8, 3), (20, .aload_n 0, 1), (21, .iload_n 1, 1), (22, .putfield 155, 3), (25, .iconst 0, 1), (26, .ireturn, 1)]
theorem dk_Step_divertTakes (i : Nat) {pc : Nat} {ins : Instr} {len : Nat} (h : dt_Step_divertTakes[i]? = some (pc, ins, len)) : decode m_Step_divertTakes.2.1 pc = .ok (ins, len) := p_dk (b := m_Step_divertTakes.2.1) (t := dt_Step_divertTakes) (by decide +kernel) i h
def F_Step_divertTakes (v0 : Nat) (v1 : Int) (s0 : p_Hp) : Option (Int × p_Hp) :=
  p_gd (p_is s0 v0 0) <|
  if (p_Z s0 v0 6) ≠ v1 then
    p_bd (F_Gear_parcels v0 s0) fun r7 s3 =>
    if r7 ≠ 0 then
      some (0, s3)
    else
      p_bi (p_wZ s3 v0 6 v1) fun s9 =>
      some (0, s9)
  else
    p_bd (F_Gear_isFreeAtStart v0 s0) fun r15 s11 =>
    p_gd (r15 = 0 ∨ r15 = 1) <|
    some (r15, s11)
set_option maxRecDepth 100000 in
set_option maxHeartbeats 4000000 in
theorem tF_Step_divertTakes (K : p_K) (l : Launch) (v0 : Nat) (v1 : Int) (s0 : p_Hp) (r : (Int × p_Hp)) (h : F_Step_divertTakes v0 v1 s0 = some r) : p_Ct K l m_Step_divertTakes [p_r v0, p_i v1] s0 (some (p_i r.1), r.2) := by
  refine p_Ct.of (by decide +kernel) (Nat.le_of_ble_eq_true rfl) ?_
  unfold F_Step_divertTakes at h
  show p_Go K l m_Step_divertTakes 0 [(0, p_r v0), (1, p_i v1)] [] s0 _
  refine g_aload_n (i := 0) (j := 0) (dk_Step_divertTakes 0 rfl) rfl rfl ?_
  obtain ⟨c1, h⟩ := p_gdE h
  refine g_getI fl_Step_155 (Or.inl rfl) (dk_Step_divertTakes 1 rfl) c1 ?_
  refine g_iload_n (i := 1) (j := 1) (dk_Step_divertTakes 2 rfl) rfl rfl ?_
  refine g_icmp_ne 13 (dk_Step_divertTakes 3 rfl) (by decide) (fun b2 => ?_) (fun b2 => ?_)
  · have h := p_ifT b2 h
    refine g_aload_n (i := 0) (j := 0) (dk_Step_divertTakes 7 rfl) rfl rfl ?_
    obtain ⟨r7, s3, q4, h⟩ := p_bdE h
    have t5 := tF_Gear_parcels K l v0 s0 _ q4
    refine g_callV (a := v0) (ci := 0) (q0 := (RX0, TX0, 20)) (As := []) (rest := []) [p_i r7] mt_Gear_parcels rfl rfl tw_3_151 tw_3_152 tw_4_177 ⟨Nat.le_of_ble_eq_true rfl, Nat.le_of_ble_eq_true rfl⟩ rfl (Nat.le_of_ble_eq_true rfl) (dk_Step_divertTakes 8 rfl) rfl c1 rfl t5 ?_
    have hs6 : p_x s0 s3 := t5.1
    show p_Go K l m_Step_divertTakes 17 [(0, p_r v0), (1, p_i v1)] [p_i r7] s3 _
    refine g_if_ne 25 (dk_Step_divertTakes 9 rfl) (by decide) (fun b8 => ?_) (fun b8 => ?_)
    · have h := p_ifT b8 h
      refine g_iconst (dk_Step_divertTakes 13 rfl) (by decide) ?_
      cases h
      exact g_ret rfl rfl (dk_Step_divertTakes 14 rfl) (fun _ => ⟨_, rfl, Or.inl rfl⟩)
    · have h := p_ifF b8 h
      refine g_aload_n (i := 0) (j := 0) (dk_Step_divertTakes 10 rfl) rfl rfl ?_
      refine g_iload_n (i := 1) (j := 1) (dk_Step_divertTakes 11 rfl) rfl rfl ?_
      refine g_putI fl_Step_155 (Or.inl rfl) (dk_Step_divertTakes 12 rfl) (c1.up hs6) ?_
      refine p_ltS (P := fun q => p_Go K l m_Step_divertTakes 25 [(0, p_r v0), (1, p_i v1)] [] q _) (p_xZ _ _ _ _) ?_ h
      intro s9 hs10 h
      refine g_iconst (dk_Step_divertTakes 13 rfl) (by decide) ?_
      cases h
      exact g_ret rfl rfl (dk_Step_divertTakes 14 rfl) (fun _ => ⟨_, rfl, Or.inl rfl⟩)
  · have h := p_ifF b2 h
    refine g_aload_n (i := 0) (j := 0) (dk_Step_divertTakes 4 rfl) rfl rfl ?_
    obtain ⟨r15, s11, q12, h⟩ := p_bdE h
    have t13 := tF_Gear_isFreeAtStart K l v0 s0 _ q12
    refine g_callV (a := v0) (ci := 0) (q0 := (RX0, TX0, 20)) (As := []) (rest := []) [p_i r15] mt_Gear_isFreeAtStart rfl rfl tw_3_235 tw_3_236 tw_5_56 ⟨Nat.le_of_ble_eq_true rfl, Nat.le_of_ble_eq_true rfl⟩ rfl (Nat.le_of_ble_eq_true rfl) (dk_Step_divertTakes 5 rfl) rfl c1 rfl t13 ?_
    have hs14 : p_x s0 s11 := t13.1
    show p_Go K l m_Step_divertTakes 12 [(0, p_r v0), (1, p_i v1)] [p_i r15] s11 _
    obtain ⟨c16, h⟩ := p_gdE h
    cases h
    exact g_ret rfl rfl (dk_Step_divertTakes 6 rfl) (fun _ => ⟨_, rfl, c16⟩)
def m_Step_mergeTakes : p_Me := (⟨"SortWorks$Step", "mergeTakes", "(LSortWorks$Gear;I)Z"⟩, prog_10_method_27_code, 3, (some .boolean), 1, 21)
theorem mt_Step_mergeTakes : p_Mt m_Step_mergeTakes 2 := ⟨p_mem (p_tb5 (List.mem_of_getElem? (i := 55) rfl)) rfl, tw_1_9, by decide +kernel, by decide +kernel, by decide +kernel⟩
def dt_Step_mergeTakes : List (Nat × Instr × Nat) := [(0, .aload_n 0, 1), (1, .bipush 21, 2), (3, .invokevirtual 197, 3), (6, .aload_n 1, 1), (7, .getfield 161, 3), (10, .iload_n 2, 1), (11, .if_icmp .eq 5, 3), (14, .iconst 0, 1), (15, .ireturn, 1), (16, .aload_n 0, 1), (17, .bipush 20, 2), (19, .invokevirtual 197, 3), (22, .aload_n 1, 1), (23, .invokevirtual 380, 3), (26, .ifCond .ne 5, 3), (29, .iconst 0, 1), (30, .ireturn, 1), (31, .aload_n 1, 1), (32, .iload_n 2, 1), (33, .putfield 191, 3), (36, .iconst 1, 1), (37, .ireturn, 1)]
theorem dk_Step_mergeTakes (i : Nat) {pc : Nat} {ins : Instr} {len : Nat} (h : dt_Step_mergeTakes[i]? = some (pc, ins, len)) : decode m_Step_mergeTakes.2.1 pc = .ok (ins, len) := p_dk (b := m_Step_mergeTakes.2.1) (t := dt_Step_mergeTakes) (by decide +kernel) i h
def F_Step_mergeTakes (v0 : Nat) (v1 : Nat) (v2 : Int) (s0 : p_Hp) : Option (Int × p_Hp) :=
  p_gd (p_is s0 v0 8) <|
  p_bv (F_Step_addTrace v0 21 s0) fun s2 =>
  p_gd (p_is s2 v1 0) <|
  if (p_Z s2 v1 19) = v2 then
    p_bv (F_Step_addTrace v0 20 s2) fun s8 =>
    p_bd (F_Gear_isFreeAtStart v1 s8) fun r16 s12 =>
    if r16 ≠ 0 then
      p_bi (p_wZ s12 v1 15 v2) fun s18 =>
      some (1, s18)
    else
      some (0, s12)
  else
    some (0, s2)
set_option maxRecDepth 100000 in
set_option maxHeartbeats 4000000 in
theorem tF_Step_mergeTakes (K : p_K) (l : Launch) (v0 : Nat) (v1 : Nat) (v2 : Int) (s0 : p_Hp) (r : (Int × p_Hp)) (h : F_Step_mergeTakes v0 v1 v2 s0 = some r) : p_Ct K l m_Step_mergeTakes [p_r v0, p_r v1, p_i v2] s0 (some (p_i r.1), r.2) := by
  refine p_Ct.of (by decide +kernel) (Nat.le_of_ble_eq_true rfl) ?_
  unfold F_Step_mergeTakes at h
  show p_Go K l m_Step_mergeTakes 0 [(0, p_r v0), (1, p_r v1), (2, p_i v2)] [] s0 _
  refine g_aload_n (i := 0) (j := 0) (dk_Step_mergeTakes 0 rfl) rfl rfl ?_
  refine g_bipush (dk_Step_mergeTakes 1 rfl) (by decide +kernel) (by decide) ?_
  obtain ⟨c1, h⟩ := p_gdE h
  obtain ⟨s2, q3, h⟩ := p_bvE h
  have t4 := tF_Step_addTrace K l v0 21 s0 _ q3
  refine g_callV (a := v0) (ci := 8) (q0 := (RX8, TX8, 5)) (As := [p_i 21]) (rest := []) [] mt_Step_addTrace rfl rfl tw_4_228 ts_22 tw_4_226 ⟨Nat.le_of_ble_eq_true rfl, Nat.le_of_ble_eq_true rfl⟩ rfl (Nat.le_of_ble_eq_true rfl) (dk_Step_mergeTakes 2 rfl) rfl c1 rfl t4 ?_
  have hs5 : p_x s0 s2 := t4.1
  show p_Go K l m_Step_mergeTakes 6 [(0, p_r v0), (1, p_r v1), (2, p_i v2)] [] s2 _
  refine g_aload_n (i := 1) (j := 1) (dk_Step_mergeTakes 3 rfl) rfl rfl ?_
  obtain ⟨c6, h⟩ := p_gdE h
  refine g_getI fl_Step_161 (Or.inl rfl) (dk_Step_mergeTakes 4 rfl) c6 ?_
  refine g_iload_n (i := 2) (j := 2) (dk_Step_mergeTakes 5 rfl) rfl rfl ?_
  refine g_icmp_eq 16 (dk_Step_mergeTakes 6 rfl) (by decide) (fun b7 => ?_) (fun b7 => ?_)
  · have h := p_ifT b7 h
    refine g_aload_n (i := 0) (j := 0) (dk_Step_mergeTakes 9 rfl) rfl rfl ?_
    refine g_bipush (dk_Step_mergeTakes 10 rfl) (by decide +kernel) (by decide) ?_
    obtain ⟨s8, q9, h⟩ := p_bvE h
    have t10 := tF_Step_addTrace K l v0 20 s2 _ q9
    refine g_callV (a := v0) (ci := 8) (q0 := (RX8, TX8, 5)) (As := [p_i 20]) (rest := []) [] mt_Step_addTrace rfl rfl tw_4_228 ts_22 tw_4_226 ⟨Nat.le_of_ble_eq_true rfl, Nat.le_of_ble_eq_true rfl⟩ rfl (Nat.le_of_ble_eq_true rfl) (dk_Step_mergeTakes 11 rfl) rfl (c1.up hs5) rfl t10 ?_
    have hs11 : p_x s2 s8 := t10.1
    show p_Go K l m_Step_mergeTakes 22 [(0, p_r v0), (1, p_r v1), (2, p_i v2)] [] s8 _
    refine g_aload_n (i := 1) (j := 1) (dk_Step_mergeTakes 12 rfl) rfl rfl ?_
    obtain ⟨r16, s12, q13, h⟩ := p_bdE h
    have t14 := tF_Gear_isFreeAtStart K l v1 s8 _ q13
    refine g_callV (a := v1) (ci := 0) (q0 := (RX0, TX0, 20)) (As := []) (rest := []) [p_i r16] mt_Gear_isFreeAtStart rfl rfl tw_3_235 tw_3_236 tw_5_56 ⟨Nat.le_of_ble_eq_true rfl, Nat.le_of_ble_eq_true rfl⟩ rfl (Nat.le_of_ble_eq_true rfl) (dk_Step_mergeTakes 13 rfl) rfl (c6.up hs11) rfl t14 ?_
    have hs15 : p_x s8 s12 := t14.1
    show p_Go K l m_Step_mergeTakes 26 [(0, p_r v0), (1, p_r v1), (2, p_i v2)] [p_i r16] s12 _
    refine g_if_ne 31 (dk_Step_mergeTakes 14 rfl) (by decide) (fun b17 => ?_) (fun b17 => ?_)
    · have h := p_ifT b17 h
      refine g_aload_n (i := 1) (j := 1) (dk_Step_mergeTakes 17 rfl) rfl rfl ?_
      refine g_iload_n (i := 2) (j := 2) (dk_Step_mergeTakes 18 rfl) rfl rfl ?_
      refine g_putI fl_Step_191 (Or.inl rfl) (dk_Step_mergeTakes 19 rfl) (c6.up (hs11.trans hs15)) ?_
      refine p_ltS (P := fun q => p_Go K l m_Step_mergeTakes 36 [(0, p_r v0), (1, p_r v1), (2, p_i v2)] [] q _) (p_xZ _ _ _ _) ?_ h
      intro s18 hs19 h
      refine g_iconst (dk_Step_mergeTakes 20 rfl) (by decide) ?_
      cases h
      exact g_ret rfl rfl (dk_Step_mergeTakes 21 rfl) (fun _ => ⟨_, rfl, Or.inr rfl⟩)
    · have h := p_ifF b17 h
      refine g_iconst (dk_Step_mergeTakes 15 rfl) (by decide) ?_
      cases h
      exact g_ret rfl rfl (dk_Step_mergeTakes 16 rfl) (fun _ => ⟨_, rfl, Or.inl rfl⟩)
  · have h := p_ifF b7 h
    refine g_iconst (dk_Step_mergeTakes 7 rfl) (by decide) ?_
    cases h
    exact g_ret rfl rfl (dk_Step_mergeTakes 8 rfl) (fun _ => ⟨_, rfl, Or.inl rfl⟩)
def m_Step_takes : p_Me := (⟨"SortWorks$Step", "takes", "(III)Z"⟩, prog_10_method_26_code, 5, (some .boolean), 2, 43)
theorem mt_Step_takes : p_Mt m_Step_takes 3 := ⟨p_mem (p_tb5 (List.mem_of_getElem? (i := 51) rfl)) rfl, tw_1_9, by decide +kernel, by decide +kernel, by decide +kernel⟩
def dt_Step_takes : List (Nat × Instr × Nat) := [(0, .aload_n 0, 1), (1, .getfield 28, 3), (4, .getfield 82, 3), (7, .iload_n 1, 1), (8, .aaload, 1), (9, .astore 4, 2), (11, .aload 4, 2), (13, .getfield 97, 3), (16, .tableswitch 115 2 8 #[44, 115, 115, 52, 52, 70, 70], 44), (60, .aload_n 0, 1), (61, .aload 4, 2), (63, .iload_n 2, 1), (64, .invokevirtual 367, 3), (67, .ireturn, 1), (68, .aload_n 0, 1), (69, .bipush 22, 2), (71, .invokevirtual 197, 3), (74, .aload 4, 2), (76, .aload 4, 2), (78, .iload_n 3, 1), (79, .invokevirtual 370, 3), (82, .invokestatic 373, 3), (85, .ireturn, 1), (86, .aload_n 0, 1), (87, .aload 4, 2), (89, .getfield 97, 3), (92, .bipush 7, 2), (94, .if_icmp .ne 8, 3), (97, .bipush 23, 2), (99, .goto 5, 3), (102, .bipush 24, 2), (104, .invokevirtual 197, 3), (107, .aload 4, 2), (109, .iload_n 3, 1), (110, .iload_n 1, 1), (111, .invokevirtual 376, 3), (114, .ifCond .eq 15, 3), (117, .aload 4, 2), (119, .invokevirtual 380, 3), (122, .ifCond .eq 7, 3), (125, .iconst 1, 1), (126, .goto 4, 3), (129, .iconst 0, 1), (130, .ireturn, 1), (131, .aload_n 0, 1), (132, .bipush 20, 2), (134, .invokevirtual 197, 3), (137, .aload 4, 2), (139, .invokevirtual 380, 3), (142, .ireturn, 1)]
theorem dk_Step_takes (i : Nat) {pc : Nat} {ins : Instr} {len : Nat} (h : dt_Step_takes[i]? = some (pc, ins, len)) : decode m_Step_takes.2.1 pc = .ok (ins, len) := p_dk (b := m_Step_takes.2.1) (t := dt_Step_takes) (by decide +kernel) i h
def B_Step_takes_104  (v1 : Int) (v3 : Int) (v4 : Nat) (w0 : Int) (w1 : Nat) (s0 : p_Hp) : Option (Int × p_Hp) :=
  p_gd (p_is s0 w1 8) <|
  p_bv (F_Step_addTrace w1 w0 s0) fun s2 =>
  p_gd (p_is s2 v4 0) <|
  p_bd (F_Gear_isChuteFor v4 v3 v1 s2) fun r11 s7 =>
  if r11 = 0 then
    some (0, s7)
  else
    p_bd (F_Gear_isFreeAtStart v4 s7) fun r17 s13 =>
    if r17 = 0 then
      some (0, s13)
    else
      some (1, s13)
def F_Step_takes (v0 : Nat) (v1 : Int) (v2 : Int) (v3 : Int) (s0 : p_Hp) : Option (Int × p_Hp) :=
  p_gd (p_is s0 v0 8) <|
  p_gd (p_is s0 (p_R s0 v0 3) 7) <|
  p_gd (p_is s0 (p_R s0 (p_R s0 v0 3) 4) 105) <|
  p_gd ((0 : Int) ≤ v1 ∧ v1 < (p_L s0 (p_R s0 (p_R s0 v0 3) 4) : Int)) <|
  p_bi ((p_R s0 (p_R s0 (p_R s0 v0 3) 4) (v1 : Int).toNat)) fun x5 =>
  p_gd (p_is s0 x5 0) <|
  if (p_Z s0 x5 0) = 2 then
    p_bd (F_Step_mergeTakes v0 x5 v2 s0) fun r12 s8 =>
    p_gd (r12 = 0 ∨ r12 = 1) <|
    some (r12, s8)
  else if (p_Z s0 x5 0) = 5 then
    p_bv (F_Step_addTrace v0 22 s0) fun s15 =>
    p_bd (F_Gear_wantedSide x5 v3 s15) fun r23 s19 =>
    p_bd (F_Step_divertTakes x5 r23 s19) fun r28 s24 =>
    p_gd (r28 = 0 ∨ r28 = 1) <|
    some (r28, s24)
  else if (p_Z s0 x5 0) = 6 then
    p_bv (F_Step_addTrace v0 22 s0) fun s31 =>
    p_bd (F_Gear_wantedSide x5 v3 s31) fun r39 s35 =>
    p_bd (F_Step_divertTakes x5 r39 s35) fun r44 s40 =>
    p_gd (r44 = 0 ∨ r44 = 1) <|
    some (r44, s40)
  else if (p_Z s0 x5 0) = 7 then
    if (p_Z s0 x5 0) ≠ 7 then
      B_Step_takes_104 v1 v3 x5 24 v0 s0
    else
      B_Step_takes_104 v1 v3 x5 23 v0 s0
  else if (p_Z s0 x5 0) = 8 then
    if (p_Z s0 x5 0) ≠ 7 then
      B_Step_takes_104 v1 v3 x5 24 v0 s0
    else
      B_Step_takes_104 v1 v3 x5 23 v0 s0
  else 
  p_bv (F_Step_addTrace v0 20 s0) fun s50 =>
  p_bd (F_Gear_isFreeAtStart x5 s50) fun r58 s54 =>
  p_gd (r58 = 0 ∨ r58 = 1) <|
  some (r58, s54)
set_option maxRecDepth 100000 in
set_option maxHeartbeats 4000000 in
theorem tB_Step_takes_104 (K : p_K) (l : Launch)  (v1 : Int) (v3 : Int) (v4 : Nat) (w0 : Int) (w1 : Nat) (s0 : p_Hp) (r : (Int × p_Hp)) (h : B_Step_takes_104 v1 v3 v4 w0 w1 s0 = some r) : p_Go K l m_Step_takes 104 [(1, p_i v1), (3, p_i v3), (4, p_r v4)] [p_i w0, p_r w1] s0 (some (p_i r.1), r.2) := by
  unfold B_Step_takes_104 at h
  obtain ⟨c1, h⟩ := p_gdE h
  obtain ⟨s2, q3, h⟩ := p_bvE h
  have t4 := tF_Step_addTrace K l w1 w0 s0 _ q3
  refine g_callV (a := w1) (ci := 8) (q0 := (RX8, TX8, 5)) (As := [p_i w0]) (rest := []) [] mt_Step_addTrace rfl rfl tw_4_228 ts_22 tw_4_226 ⟨Nat.le_of_ble_eq_true rfl, Nat.le_of_ble_eq_true rfl⟩ rfl (Nat.le_of_ble_eq_true rfl) (dk_Step_takes 31 rfl) rfl c1 rfl t4 ?_
  have hs5 : p_x s0 s2 := t4.1
  show p_Go K l m_Step_takes 107 [(1, p_i v1), (3, p_i v3), (4, p_r v4)] [] s2 _
  refine g_aload (j := 2) (dk_Step_takes 32 rfl) rfl ?_
  refine g_iload_n (i := 3) (j := 1) (dk_Step_takes 33 rfl) rfl rfl ?_
  refine g_iload_n (i := 1) (j := 0) (dk_Step_takes 34 rfl) rfl rfl ?_
  obtain ⟨c6, h⟩ := p_gdE h
  obtain ⟨r11, s7, q8, h⟩ := p_bdE h
  have t9 := tF_Gear_isChuteFor K l v4 v3 v1 s2 _ q8
  refine g_callV (a := v4) (ci := 0) (q0 := (RX0, TX0, 20)) (As := [p_i v3, p_i v1]) (rest := []) [p_i r11] mt_Gear_isChuteFor rfl rfl tw_4_96 tw_4_97 tw_5_65 ⟨Nat.le_of_ble_eq_true rfl, Nat.le_of_ble_eq_true rfl⟩ rfl (Nat.le_of_ble_eq_true rfl) (dk_Step_takes 35 rfl) rfl c6 rfl t9 ?_
  have hs10 : p_x s2 s7 := t9.1
  show p_Go K l m_Step_takes 114 [(1, p_i v1), (3, p_i v3), (4, p_r v4)] [p_i r11] s7 _
  refine g_if_eq 129 (dk_Step_takes 36 rfl) (by decide) (fun b12 => ?_) (fun b12 => ?_)
  · have h := p_ifT b12 h
    refine g_iconst (dk_Step_takes 42 rfl) (by decide) ?_
    cases h
    exact g_ret rfl rfl (dk_Step_takes 43 rfl) (fun _ => ⟨_, rfl, Or.inl rfl⟩)
  · have h := p_ifF b12 h
    refine g_aload (j := 2) (dk_Step_takes 37 rfl) rfl ?_
    obtain ⟨r17, s13, q14, h⟩ := p_bdE h
    have t15 := tF_Gear_isFreeAtStart K l v4 s7 _ q14
    refine g_callV (a := v4) (ci := 0) (q0 := (RX0, TX0, 20)) (As := []) (rest := []) [p_i r17] mt_Gear_isFreeAtStart rfl rfl tw_3_235 tw_3_236 tw_5_56 ⟨Nat.le_of_ble_eq_true rfl, Nat.le_of_ble_eq_true rfl⟩ rfl (Nat.le_of_ble_eq_true rfl) (dk_Step_takes 38 rfl) rfl (c6.up hs10) rfl t15 ?_
    have hs16 : p_x s7 s13 := t15.1
    show p_Go K l m_Step_takes 122 [(1, p_i v1), (3, p_i v3), (4, p_r v4)] [p_i r17] s13 _
    refine g_if_eq 129 (dk_Step_takes 39 rfl) (by decide) (fun b18 => ?_) (fun b18 => ?_)
    · have h := p_ifT b18 h
      refine g_iconst (dk_Step_takes 42 rfl) (by decide) ?_
      cases h
      exact g_ret rfl rfl (dk_Step_takes 43 rfl) (fun _ => ⟨_, rfl, Or.inl rfl⟩)
    · have h := p_ifF b18 h
      refine g_iconst (dk_Step_takes 40 rfl) (by decide) ?_
      refine g_goto 130 (dk_Step_takes 41 rfl) (by decide) ?_
      cases h
      exact g_ret rfl rfl (dk_Step_takes 43 rfl) (fun _ => ⟨_, rfl, Or.inr rfl⟩)
set_option maxRecDepth 100000 in
set_option maxHeartbeats 4000000 in
theorem tF_Step_takes (K : p_K) (l : Launch) (v0 : Nat) (v1 : Int) (v2 : Int) (v3 : Int) (s0 : p_Hp) (r : (Int × p_Hp)) (h : F_Step_takes v0 v1 v2 v3 s0 = some r) : p_Ct K l m_Step_takes [p_r v0, p_i v1, p_i v2, p_i v3] s0 (some (p_i r.1), r.2) := by
  refine p_Ct.of (by decide +kernel) (Nat.le_of_ble_eq_true rfl) ?_
  unfold F_Step_takes at h
  show p_Go K l m_Step_takes 0 [(0, p_r v0), (1, p_i v1), (2, p_i v2), (3, p_i v3)] [] s0 _
  refine g_aload_n (i := 0) (j := 0) (dk_Step_takes 0 rfl) rfl rfl ?_
  obtain ⟨c1, h⟩ := p_gdE h
  refine g_getR fl_Step_28 (Or.inl ⟨_, rfl⟩) (dk_Step_takes 1 rfl) c1 ?_
  obtain ⟨c2, h⟩ := p_gdE h
  refine g_getR fl_Step_82 (Or.inr ⟨_, rfl⟩) (dk_Step_takes 2 rfl) c2 ?_
  refine g_iload_n (i := 1) (j := 1) (dk_Step_takes 3 rfl) rfl rfl ?_
  obtain ⟨c3, h⟩ := p_gdE h
  obtain ⟨c4, h⟩ := p_gdE h
  refine g_aaload (i := 5) rfl (Or.inl ⟨_, rfl⟩) (dk_Step_takes 4 rfl) c3 c4.1 c4.2 ?_
  refine g_astore [(4, p_r (p_R s0 (p_R s0 (p_R s0 v0 3) 4) (v1 : Int).toNat)), (0, p_r v0), (1, p_i v1), (2, p_i v2), (3, p_i v3)] (dk_Step_takes 5 rfl) (by decide) rfl ?_
  refine p_ltG (P := fun q => p_Go K l m_Step_takes 11 [(4, p_r q), (0, p_r v0), (1, p_i v1), (2, p_i v2), (3, p_i v3)] [] s0 _) ?_ h
  intro x5 h
  refine g_aload (j := 0) (dk_Step_takes 6 rfl) rfl ?_
  obtain ⟨c6, h⟩ := p_gdE h
  refine g_getI fl_Step_97 (Or.inl rfl) (dk_Step_takes 7 rfl) c6 ?_
  rcases p_iteE h with ⟨b7, h⟩ | ⟨b7, h⟩
  · refine g_tableIn 60 (dk_Step_takes 8 rfl) (by omega) (by omega) (by rw [b7]; rfl) (by decide) ?_
    refine g_aload_n (i := 0) (j := 1) (dk_Step_takes 9 rfl) rfl rfl ?_
    refine g_aload (j := 0) (dk_Step_takes 10 rfl) rfl ?_
    refine g_iload_n (i := 2) (j := 3) (dk_Step_takes 11 rfl) rfl rfl ?_
    obtain ⟨r12, s8, q9, h⟩ := p_bdE h
    have t10 := tF_Step_mergeTakes K l v0 x5 v2 s0 _ q9
    refine g_callV (a := v0) (ci := 8) (q0 := (RX8, TX8, 5)) (As := [p_r x5, p_i v2]) (rest := []) [p_i r12] mt_Step_mergeTakes rfl rfl tw_5_54 ts_35 tw_5_52 ⟨Nat.le_of_ble_eq_true rfl, Nat.le_of_ble_eq_true rfl⟩ rfl (Nat.le_of_ble_eq_true rfl) (dk_Step_takes 12 rfl) rfl c1 rfl t10 ?_
    have hs11 : p_x s0 s8 := t10.1
    show p_Go K l m_Step_takes 67 [(4, p_r x5), (0, p_r v0), (1, p_i v1), (2, p_i v2), (3, p_i v3)] [p_i r12] s8 _
    obtain ⟨c13, h⟩ := p_gdE h
    cases h
    exact g_ret rfl rfl (dk_Step_takes 13 rfl) (fun _ => ⟨_, rfl, c13⟩)
  rcases p_iteE h with ⟨b14, h⟩ | ⟨b14, h⟩
  · refine g_tableIn 68 (dk_Step_takes 8 rfl) (by omega) (by omega) (by rw [b14]; rfl) (by decide) ?_
    refine g_aload_n (i := 0) (j := 1) (dk_Step_takes 14 rfl) rfl rfl ?_
    refine g_bipush (dk_Step_takes 15 rfl) (by decide +kernel) (by decide) ?_
    obtain ⟨s15, q16, h⟩ := p_bvE h
    have t17 := tF_Step_addTrace K l v0 22 s0 _ q16
    refine g_callV (a := v0) (ci := 8) (q0 := (RX8, TX8, 5)) (As := [p_i 22]) (rest := []) [] mt_Step_addTrace rfl rfl tw_4_228 ts_22 tw_4_226 ⟨Nat.le_of_ble_eq_true rfl, Nat.le_of_ble_eq_true rfl⟩ rfl (Nat.le_of_ble_eq_true rfl) (dk_Step_takes 16 rfl) rfl c1 rfl t17 ?_
    have hs18 : p_x s0 s15 := t17.1
    show p_Go K l m_Step_takes 74 [(4, p_r x5), (0, p_r v0), (1, p_i v1), (2, p_i v2), (3, p_i v3)] [] s15 _
    refine g_aload (j := 0) (dk_Step_takes 17 rfl) rfl ?_
    refine g_aload (j := 0) (dk_Step_takes 18 rfl) rfl ?_
    refine g_iload_n (i := 3) (j := 4) (dk_Step_takes 19 rfl) rfl rfl ?_
    obtain ⟨r23, s19, q20, h⟩ := p_bdE h
    have t21 := tF_Gear_wantedSide K l x5 v3 s15 _ q20
    refine g_callV (a := x5) (ci := 0) (q0 := (RX0, TX0, 20)) (As := [p_i v3]) (rest := [p_r x5]) [p_i r23, p_r x5] mt_Gear_wantedSide rfl rfl tw_5_58 tw_5_59 tw_5_57 ⟨Nat.le_of_ble_eq_true rfl, Nat.le_of_ble_eq_true rfl⟩ rfl (Nat.le_of_ble_eq_true rfl) (dk_Step_takes 20 rfl) rfl (c6.up hs18) rfl t21 ?_
    have hs22 : p_x s15 s19 := t21.1
    show p_Go K l m_Step_takes 82 [(4, p_r x5), (0, p_r v0), (1, p_i v1), (2, p_i v2), (3, p_i v3)] [p_i r23, p_r x5] s19 _
    obtain ⟨r28, s24, q25, h⟩ := p_bdE h
    have t26 := tF_Step_divertTakes K l x5 r23 s19 _ q25
    refine g_callS (av := [p_r x5, p_i r23]) (rest := []) [p_i r28] mt_Step_divertTakes tw_5_63 tw_5_62 ⟨Nat.le_of_ble_eq_true rfl, Nat.le_of_ble_eq_true rfl⟩ rfl (Nat.le_of_ble_eq_true rfl) (dk_Step_takes 21 rfl) rfl rfl t26 ?_
    have hs27 : p_x s19 s24 := t26.1
    show p_Go K l m_Step_takes 85 [(4, p_r x5), (0, p_r v0), (1, p_i v1), (2, p_i v2), (3, p_i v3)] [p_i r28] s24 _
    obtain ⟨c29, h⟩ := p_gdE h
    cases h
    exact g_ret rfl rfl (dk_Step_takes 22 rfl) (fun _ => ⟨_, rfl, c29⟩)
  rcases p_iteE h with ⟨b30, h⟩ | ⟨b30, h⟩
  · refine g_tableIn 68 (dk_Step_takes 8 rfl) (by omega) (by omega) (by rw [b30]; rfl) (by decide) ?_
    refine g_aload_n (i := 0) (j := 1) (dk_Step_takes 14 rfl) rfl rfl ?_
    refine g_bipush (dk_Step_takes 15 rfl) (by decide +kernel) (by decide) ?_
    obtain ⟨s31, q32, h⟩ := p_bvE h
    have t33 := tF_Step_addTrace K l v0 22 s0 _ q32
    refine g_callV (a := v0) (ci := 8) (q0 := (RX8, TX8, 5)) (As := [p_i 22]) (rest := []) [] mt_Step_addTrace rfl rfl tw_4_228 ts_22 tw_4_226 ⟨Nat.le_of_ble_eq_true rfl, Nat.le_of_ble_eq_true rfl⟩ rfl (Nat.le_of_ble_eq_true rfl) (dk_Step_takes 16 rfl) rfl c1 rfl t33 ?_
    have hs34 : p_x s0 s31 := t33.1
    show p_Go K l m_Step_takes 74 [(4, p_r x5), (0, p_r v0), (1, p_i v1), (2, p_i v2), (3, p_i v3)] [] s31 _
    refine g_aload (j := 0) (dk_Step_takes 17 rfl) rfl ?_
    refine g_aload (j := 0) (dk_Step_takes 18 rfl) rfl ?_
    refine g_iload_n (i := 3) (j := 4) (dk_Step_takes 19 rfl) rfl rfl ?_
    obtain ⟨r39, s35, q36, h⟩ := p_bdE h
    have t37 := tF_Gear_wantedSide K l x5 v3 s31 _ q36
    refine g_callV (a := x5) (ci := 0) (q0 := (RX0, TX0, 20)) (As := [p_i v3]) (rest := [p_r x5]) [p_i r39, p_r x5] mt_Gear_wantedSide rfl rfl tw_5_58 tw_5_59 tw_5_57 ⟨Nat.le_of_ble_eq_true rfl, Nat.le_of_ble_eq_true rfl⟩ rfl (Nat.le_of_ble_eq_true rfl) (dk_Step_takes 20 rfl) rfl (c6.up hs34) rfl t37 ?_
    have hs38 : p_x s31 s35 := t37.1
    show p_Go K l m_Step_takes 82 [(4, p_r x5), (0, p_r v0), (1, p_i v1), (2, p_i v2), (3, p_i v3)] [p_i r39, p_r x5] s35 _
    obtain ⟨r44, s40, q41, h⟩ := p_bdE h
    have t42 := tF_Step_divertTakes K l x5 r39 s35 _ q41
    refine g_callS (av := [p_r x5, p_i r39]) (rest := []) [p_i r44] mt_Step_divertTakes tw_5_63 tw_5_62 ⟨Nat.le_of_ble_eq_true rfl, Nat.le_of_ble_eq_true rfl⟩ rfl (Nat.le_of_ble_eq_true rfl) (dk_Step_takes 21 rfl) rfl rfl t42 ?_
    have hs43 : p_x s35 s40 := t42.1
    show p_Go K l m_Step_takes 85 [(4, p_r x5), (0, p_r v0), (1, p_i v1), (2, p_i v2), (3, p_i v3)] [p_i r44] s40 _
    obtain ⟨c45, h⟩ := p_gdE h
    cases h
    exact g_ret rfl rfl (dk_Step_takes 22 rfl) (fun _ => ⟨_, rfl, c45⟩)
  rcases p_iteE h with ⟨b46, h⟩ | ⟨b46, h⟩
  · refine g_tableIn 86 (dk_Step_takes 8 rfl) (by omega) (by omega) (by rw [b46]; rfl) (by decide) ?_
    refine g_aload_n (i := 0) (j := 1) (dk_Step_takes 23 rfl) rfl rfl ?_
    refine g_aload (j := 0) (dk_Step_takes 24 rfl) rfl ?_
    refine g_getI fl_Step_97 (Or.inl rfl) (dk_Step_takes 25 rfl) c6 ?_
    refine g_bipush (dk_Step_takes 26 rfl) (by decide +kernel) (by decide) ?_
    refine g_icmp_ne 102 (dk_Step_takes 27 rfl) (by decide) (fun b47 => ?_) (fun b47 => ?_)
    · have h := p_ifT b47 h
      refine g_bipush (dk_Step_takes 30 rfl) (by decide +kernel) (by decide) ?_
      refine g_sub [(1, p_i v1), (3, p_i v3), (4, p_r x5)] [2, 4, 0] rfl ?_
      exact tB_Step_takes_104 K l v1 v3 x5 24 v0 s0 _ h
    · have h := p_ifF b47 h
      refine g_bipush (dk_Step_takes 28 rfl) (by decide +kernel) (by decide) ?_
      refine g_goto 104 (dk_Step_takes 29 rfl) (by decide) ?_
      refine g_sub [(1, p_i v1), (3, p_i v3), (4, p_r x5)] [2, 4, 0] rfl ?_
      exact tB_Step_takes_104 K l v1 v3 x5 23 v0 s0 _ h
  rcases p_iteE h with ⟨b48, h⟩ | ⟨b48, h⟩
  · refine g_tableIn 86 (dk_Step_takes 8 rfl) (by omega) (by omega) (by rw [b48]; rfl) (by decide) ?_
    refine g_aload_n (i := 0) (j := 1) (dk_Step_takes 23 rfl) rfl rfl ?_
    refine g_aload (j := 0) (dk_Step_takes 24 rfl) rfl ?_
    refine g_getI fl_Step_97 (Or.inl rfl) (dk_Step_takes 25 rfl) c6 ?_
    refine g_bipush (dk_Step_takes 26 rfl) (by decide +kernel) (by decide) ?_
    refine g_icmp_ne 102 (dk_Step_takes 27 rfl) (by decide) (fun b49 => ?_) (fun b49 => ?_)
    · have h := p_ifT b49 h
      refine g_bipush (dk_Step_takes 30 rfl) (by decide +kernel) (by decide) ?_
      refine g_sub [(1, p_i v1), (3, p_i v3), (4, p_r x5)] [2, 4, 0] rfl ?_
      exact tB_Step_takes_104 K l v1 v3 x5 24 v0 s0 _ h
    · have h := p_ifF b49 h
      refine g_bipush (dk_Step_takes 28 rfl) (by decide +kernel) (by decide) ?_
      refine g_goto 104 (dk_Step_takes 29 rfl) (by decide) ?_
      refine g_sub [(1, p_i v1), (3, p_i v3), (4, p_r x5)] [2, 4, 0] rfl ?_
      exact tB_Step_takes_104 K l v1 v3 x5 23 v0 s0 _ h
  by_cases b60 : (p_Z s0 x5 0) = 3
  · refine g_tableIn 131 (dk_Step_takes 8 rfl) (by omega) (by omega) (by rw [b60]; rfl) (by decide) ?_
    refine g_aload_n (i := 0) (j := 1) (dk_Step_takes 44 rfl) rfl rfl ?_
    refine g_bipush (dk_Step_takes 45 rfl) (by decide +kernel) (by decide) ?_
    obtain ⟨s50, q51, h⟩ := p_bvE h
    have t52 := tF_Step_addTrace K l v0 20 s0 _ q51
    refine g_callV (a := v0) (ci := 8) (q0 := (RX8, TX8, 5)) (As := [p_i 20]) (rest := []) [] mt_Step_addTrace rfl rfl tw_4_228 ts_22 tw_4_226 ⟨Nat.le_of_ble_eq_true rfl, Nat.le_of_ble_eq_true rfl⟩ rfl (Nat.le_of_ble_eq_true rfl) (dk_Step_takes 46 rfl) rfl c1 rfl t52 ?_
    have hs53 : p_x s0 s50 := t52.1
    show p_Go K l m_Step_takes 137 [(4, p_r x5), (0, p_r v0), (1, p_i v1), (2, p_i v2), (3, p_i v3)] [] s50 _
    refine g_aload (j := 0) (dk_Step_takes 47 rfl) rfl ?_
    obtain ⟨r58, s54, q55, h⟩ := p_bdE h
    have t56 := tF_Gear_isFreeAtStart K l x5 s50 _ q55
    refine g_callV (a := x5) (ci := 0) (q0 := (RX0, TX0, 20)) (As := []) (rest := []) [p_i r58] mt_Gear_isFreeAtStart rfl rfl tw_3_235 tw_3_236 tw_5_56 ⟨Nat.le_of_ble_eq_true rfl, Nat.le_of_ble_eq_true rfl⟩ rfl (Nat.le_of_ble_eq_true rfl) (dk_Step_takes 48 rfl) rfl (c6.up hs53) rfl t56 ?_
    have hs57 : p_x s50 s54 := t56.1
    show p_Go K l m_Step_takes 142 [(4, p_r x5), (0, p_r v0), (1, p_i v1), (2, p_i v2), (3, p_i v3)] [p_i r58] s54 _
    obtain ⟨c59, h⟩ := p_gdE h
    cases h
    exact g_ret rfl rfl (dk_Step_takes 49 rfl) (fun _ => ⟨_, rfl, c59⟩)
  by_cases b61 : (p_Z s0 x5 0) = 4
  · refine g_tableIn 131 (dk_Step_takes 8 rfl) (by omega) (by omega) (by rw [b61]; rfl) (by decide) ?_
    refine g_aload_n (i := 0) (j := 1) (dk_Step_takes 44 rfl) rfl rfl ?_
    refine g_bipush (dk_Step_takes 45 rfl) (by decide +kernel) (by decide) ?_
    obtain ⟨s50, q51, h⟩ := p_bvE h
    have t52 := tF_Step_addTrace K l v0 20 s0 _ q51
    refine g_callV (a := v0) (ci := 8) (q0 := (RX8, TX8, 5)) (As := [p_i 20]) (rest := []) [] mt_Step_addTrace rfl rfl tw_4_228 ts_22 tw_4_226 ⟨Nat.le_of_ble_eq_true rfl, Nat.le_of_ble_eq_true rfl⟩ rfl (Nat.le_of_ble_eq_true rfl) (dk_Step_takes 46 rfl) rfl c1 rfl t52 ?_
    have hs53 : p_x s0 s50 := t52.1
    show p_Go K l m_Step_takes 137 [(4, p_r x5), (0, p_r v0), (1, p_i v1), (2, p_i v2), (3, p_i v3)] [] s50 _
    refine g_aload (j := 0) (dk_Step_takes 47 rfl) rfl ?_
    obtain ⟨r58, s54, q55, h⟩ := p_bdE h
    have t56 := tF_Gear_isFreeAtStart K l x5 s50 _ q55
    refine g_callV (a := x5) (ci := 0) (q0 := (RX0, TX0, 20)) (As := []) (rest := []) [p_i r58] mt_Gear_isFreeAtStart rfl rfl tw_3_235 tw_3_236 tw_5_56 ⟨Nat.le_of_ble_eq_true rfl, Nat.le_of_ble_eq_true rfl⟩ rfl (Nat.le_of_ble_eq_true rfl) (dk_Step_takes 48 rfl) rfl (c6.up hs53) rfl t56 ?_
    have hs57 : p_x s50 s54 := t56.1
    show p_Go K l m_Step_takes 142 [(4, p_r x5), (0, p_r v0), (1, p_i v1), (2, p_i v2), (3, p_i v3)] [p_i r58] s54 _
    obtain ⟨c59, h⟩ := p_gdE h
    cases h
    exact g_ret rfl rfl (dk_Step_takes 49 rfl) (fun _ => ⟨_, rfl, c59⟩)
  refine g_tableOut 131 (dk_Step_takes 8 rfl) (by omega) (by decide) ?_
  refine g_aload_n (i := 0) (j := 1) (dk_Step_takes 44 rfl) rfl rfl ?_
  refine g_bipush (dk_Step_takes 45 rfl) (by decide +kernel) (by decide) ?_
  obtain ⟨s50, q51, h⟩ := p_bvE h
  have t52 := tF_Step_addTrace K l v0 20 s0 _ q51
  refine g_callV (a := v0) (ci := 8) (q0 := (RX8, TX8, 5)) (As := [p_i 20]) (rest := []) [] mt_Step_addTrace rfl rfl tw_4_228 ts_22 tw_4_226 ⟨Nat.le_of_ble_eq_true rfl, Nat.le_of_ble_eq_true rfl⟩ rfl (Nat.le_of_ble_eq_true rfl) (dk_Step_takes 46 rfl) rfl c1 rfl t52 ?_
  have hs53 : p_x s0 s50 := t52.1
  show p_Go K l m_Step_takes 137 [(4, p_r x5), (0, p_r v0), (1, p_i v1), (2, p_i v2), (3, p_i v3)] [] s50 _
  refine g_aload (j := 0) (dk_Step_takes 47 rfl) rfl ?_
  obtain ⟨r58, s54, q55, h⟩ := p_bdE h
  have t56 := tF_Gear_isFreeAtStart K l x5 s50 _ q55
  refine g_callV (a := x5) (ci := 0) (q0 := (RX0, TX0, 20)) (As := []) (rest := []) [p_i r58] mt_Gear_isFreeAtStart rfl rfl tw_3_235 tw_3_236 tw_5_56 ⟨Nat.le_of_ble_eq_true rfl, Nat.le_of_ble_eq_true rfl⟩ rfl (Nat.le_of_ble_eq_true rfl) (dk_Step_takes 48 rfl) rfl (c6.up hs53) rfl t56 ?_
  have hs57 : p_x s50 s54 := t56.1
  show p_Go K l m_Step_takes 142 [(4, p_r x5), (0, p_r v0), (1, p_i v1), (2, p_i v2), (3, p_i v3)] [p_i r58] s54 _
  obtain ⟨c59, h⟩ := p_gdE h
  cases h
  exact g_ret rfl rfl (dk_Step_takes 49 rfl) (fun _ => ⟨_, rfl, c59⟩)
def m_Works_follow : p_Me := (⟨"SortWorks$Works", "follow", "(LSortWorks$Gear;I)I"⟩, prog_11_method_9_code, 3, (some .int), 0, 0)
theorem mt_Works_follow : p_Mt m_Works_follow 2 := ⟨p_mem (p_tb4 (List.mem_of_getElem? (i := 215) rfl)) rfl, tw_1_2, by decide +kernel, by decide +kernel, by decide +kernel⟩
def dt_Works_follow : List (Nat × Instr × Nat) := [(0, .aload_n 1, 1), (1, .getfield 126, 3), (4, .iconst (-1), 1), (5, .if_icmp .ne 6, 3), (8, .bipush (-11), 2), (10, .ireturn, 1), (11, .iload_n 2, 1), (12, .ifCond .lt 21, 3), (15, .iload_n 2, 1), (16, .aload_n 1, 1), (17, .getfield 126, 3), (20, .if_icmp .ge 13, 3), (23, .aload_n 1, 1), (24, .getfield 129, 3), (27, .iload_n 2, 1), (28, .iaload, 1), (29, .iconst (-1), 1), (30, .if_icmp .ne 6, 3), (33, .bipush (-13), 2), (35, .ireturn, 1), (36, .aload_n 1, 1), (37, .getfield 129, 3), (40, .iload_n 2, 1), (41, .iaload, 1), (42, .aload_n 0, 1), (43, .getfield 53, 3), (46, .if_icmp .ge 12, 3), (49, .aload_n 1, 1), (50, .getfield 129, 3), (53, .iload_n 2, 1), (54, .iaload, 1), (55, .goto 5, 3), (58, .bipush (-11), 2), (60, .ireturn, 1)]
theorem dk_Works_follow (i : Nat) {pc : Nat} {ins : Instr} {len : Nat} (h : dt_Works_follow[i]? = some (pc, ins, len)) : decode m_Works_follow.2.1 pc = .ok (ins, len) := p_dk (b := m_Works_follow.2.1) (t := dt_Works_follow) (by decide +kernel) i h
def F_Works_follow (v0 : Nat) (v1 : Nat) (v2 : Int) (s0 : p_Hp) : Option (Int × p_Hp) :=
  p_gd (p_is s0 v1 0) <|
  if (p_Z s0 v1 3) ≠ (-1) then
    if v2 < 0 then
      some ((-13), s0)
    else
      if (p_Z s0 v1 3) ≤ v2 then
        some ((-13), s0)
      else
        p_gd (p_is s0 (p_R s0 v1 4) 100) <|
        p_gd ((0 : Int) ≤ v2 ∧ v2 < (p_L s0 (p_R s0 v1 4) : Int)) <|
        if (p_Z s0 (p_R s0 v1 4) (v2 : Int).toNat) ≠ (-1) then
          p_gd ((0 : Int) ≤ v2 ∧ v2 < (p_L s0 (p_R s0 v1 4) : Int)) <|
          p_gd (p_is s0 v0 9) <|
          if (p_Z s0 v0 2) ≤ (p_Z s0 (p_R s0 v1 4) (v2 : Int).toNat) then
            some ((-11), s0)
          else
            p_gd ((0 : Int) ≤ v2 ∧ v2 < (p_L s0 (p_R s0 v1 4) : Int)) <|
            some ((p_Z s0 (p_R s0 v1 4) (v2 : Int).toNat), s0)
        else
          some ((-13), s0)
  else
    some ((-11), s0)
set_option maxRecDepth 100000 in
set_option maxHeartbeats 4000000 in
theorem tF_Works_follow (K : p_K) (l : Launch) (v0 : Nat) (v1 : Nat) (v2 : Int) (s0 : p_Hp) (r : (Int × p_Hp)) (h : F_Works_follow v0 v1 v2 s0 = some r) : p_Ct K l m_Works_follow [p_r v0, p_r v1, p_i v2] s0 (some (p_i r.1), r.2) := by
  refine p_Ct.of (by decide +kernel) (Nat.le_of_ble_eq_true rfl) ?_
  unfold F_Works_follow at h
  show p_Go K l m_Works_follow 0 [(0, p_r v0), (1, p_r v1), (2, p_i v2)] [] s0 _
  refine g_aload_n (i := 1) (j := 1) (dk_Works_follow 0 rfl) rfl rfl ?_
  obtain ⟨c1, h⟩ := p_gdE h
  refine g_getI fl_Works_126 (Or.inl rfl) (dk_Works_follow 1 rfl) c1 ?_
  refine g_iconst (dk_Works_follow 2 rfl) (by decide) ?_
  refine g_icmp_ne 11 (dk_Works_follow 3 rfl) (by decide) (fun b2 => ?_) (fun b2 => ?_)
  · have h := p_ifT b2 h
    refine g_iload_n (i := 2) (j := 2) (dk_Works_follow 6 rfl) rfl rfl ?_
    refine g_if_lt 33 (dk_Works_follow 7 rfl) (by decide) (fun b3 => ?_) (fun b3 => ?_)
    · have h := p_ifT b3 h
      refine g_bipush (dk_Works_follow 18 rfl) (by decide +kernel) (by decide) ?_
      cases h
      exact g_ret rfl rfl (dk_Works_follow 19 rfl) (fun os => ⟨_, rfl, p_okh os⟩)
    · have h := p_ifF b3 h
      refine g_iload_n (i := 2) (j := 2) (dk_Works_follow 8 rfl) rfl rfl ?_
      refine g_aload_n (i := 1) (j := 1) (dk_Works_follow 9 rfl) rfl rfl ?_
      refine g_getI fl_Works_126 (Or.inl rfl) (dk_Works_follow 10 rfl) c1 ?_
      refine g_icmp_ge 33 (dk_Works_follow 11 rfl) (by decide) (fun b4 => ?_) (fun b4 => ?_)
      · have h := p_ifT b4 h
        refine g_bipush (dk_Works_follow 18 rfl) (by decide +kernel) (by decide) ?_
        cases h
        exact g_ret rfl rfl (dk_Works_follow 19 rfl) (fun os => ⟨_, rfl, p_okh os⟩)
      · have h := p_ifF b4 h
        refine g_aload_n (i := 1) (j := 1) (dk_Works_follow 12 rfl) rfl rfl ?_
        refine g_getR fl_Works_129 (Or.inr ⟨_, rfl⟩) (dk_Works_follow 13 rfl) c1 ?_
        refine g_iload_n (i := 2) (j := 2) (dk_Works_follow 14 rfl) rfl rfl ?_
        obtain ⟨c5, h⟩ := p_gdE h
        obtain ⟨c6, h⟩ := p_gdE h
        refine g_iaload (dk_Works_follow 15 rfl) c5 c6.1 c6.2 ?_
        refine g_iconst (dk_Works_follow 16 rfl) (by decide) ?_
        refine g_icmp_ne 36 (dk_Works_follow 17 rfl) (by decide) (fun b7 => ?_) (fun b7 => ?_)
        · have h := p_ifT b7 h
          refine g_aload_n (i := 1) (j := 1) (dk_Works_follow 20 rfl) rfl rfl ?_
          refine g_getR fl_Works_129 (Or.inr ⟨_, rfl⟩) (dk_Works_follow 21 rfl) c1 ?_
          refine g_iload_n (i := 2) (j := 2) (dk_Works_follow 22 rfl) rfl rfl ?_
          obtain ⟨c8, h⟩ := p_gdE h
          refine g_iaload (dk_Works_follow 23 rfl) c5 c8.1 c8.2 ?_
          refine g_aload_n (i := 0) (j := 0) (dk_Works_follow 24 rfl) rfl rfl ?_
          obtain ⟨c9, h⟩ := p_gdE h
          refine g_getI fl_Works_53 (Or.inl rfl) (dk_Works_follow 25 rfl) c9 ?_
          refine g_icmp_ge 58 (dk_Works_follow 26 rfl) (by decide) (fun b10 => ?_) (fun b10 => ?_)
          · have h := p_ifT b10 h
            refine g_bipush (dk_Works_follow 32 rfl) (by decide +kernel) (by decide) ?_
            cases h
            exact g_ret rfl rfl (dk_Works_follow 33 rfl) (fun os => ⟨_, rfl, p_okh os⟩)
          · have h := p_ifF b10 h
            refine g_aload_n (i := 1) (j := 1) (dk_Works_follow 27 rfl) rfl rfl ?_
            refine g_getR fl_Works_129 (Or.inr ⟨_, rfl⟩) (dk_Works_follow 28 rfl) c1 ?_
            refine g_iload_n (i := 2) (j := 2) (dk_Works_follow 29 rfl) rfl rfl ?_
            obtain ⟨c11, h⟩ := p_gdE h
            refine g_iaload (dk_Works_follow 30 rfl) c5 c11.1 c11.2 ?_
            refine g_goto 60 (dk_Works_follow 31 rfl) (by decide) ?_
            cases h
            exact g_ret rfl rfl (dk_Works_follow 33 rfl) (fun os => ⟨_, rfl, p_okh os⟩)
        · have h := p_ifF b7 h
          refine g_bipush (dk_Works_follow 18 rfl) (by decide +kernel) (by decide) ?_
          cases h
          exact g_ret rfl rfl (dk_Works_follow 19 rfl) (fun os => ⟨_, rfl, p_okh os⟩)
  · have h := p_ifF b2 h
    refine g_bipush (dk_Works_follow 4 rfl) (by decide +kernel) (by decide) ?_
    cases h
    exact g_ret rfl rfl (dk_Works_follow 5 rfl) (fun os => ⟨_, rfl, p_okh os⟩)
def m_Step_giveOn : p_Me := (⟨"SortWorks$Step", "giveOn", "(ILSortWorks$Gear;LSortWorks$Parcel;)Z"⟩, prog_10_method_25_code, 6, (some .boolean), 3, 67)
theorem mt_Step_giveOn : p_Mt m_Step_giveOn 3 := ⟨p_mem (p_tb5 (List.mem_of_getElem? (i := 47) rfl)) rfl, tw_1_9, by decide +kernel, by decide +kernel, by decide +kernel⟩
def dt_Step_giveOn : List (Nat × Instr × Nat) := [(0, .aload_n 0, 1), (1, .getfield 18, 3), (4, .aload_n 2, 1), (5, .aload_n 2, 1), (6, .invokevirtual 167, 3), (9, .invokevirtual 170, 3), (12, .istore 4, 2), (14, .iload 4, 2), (16, .ifCond .ge 8, 3), (19, .iload 4, 2), (21, .goto 25, 3), (24, .aload_n 0, 1), (25, .getfield 28, 3), (28, .getfield 82, 3), (31, .iload 4, 2), (33, .aaload, 1), (34, .invokevirtual 178, 3), (37, .ifCond .eq 7, 3), (40, .iconst 0, 1), (41, .goto 5, 3), (44, .bipush (-12), 2), (46, .istore 5, 2), (48, .iload 5, 2), (50, .ifCond .eq 17, 3), (53, .aload_n 0, 1), (54, .iload_n 1, 1), (55, .iconst 1, 1), (56, .iload 5, 2), (58, .aload_n 3, 1), (59, .getfield 263, 3), (62, .invokevirtual 125, 3), (65, .iconst 0, 1), (66, .ireturn, 1), (67, .aload_n 0, 1), (68, .iload 4, 2), (70, .iload_n 1, 1), (71, .aload_n 3, 1), (72, .getfield 256, 3), (75, .invokevirtual 359, 3), (78, .ifCond .ne 5, 3), (81, .iconst 0, 1), (82, .ireturn, 1), (83, .aload_n 0, 1), (84, .getfield 28, 3), (87, .aload_n 3, 1), (88, .iload 4, 2), (90, .invokevirtual 363, 3), (93, .aload_n 3, 1), (94, .iconst 1, 1), (95, .putfield 64, 3), (98, .iconst 1, 1), (99, .ireturn, 1)]
theorem dk_Step_giveOn (i : Nat) {pc : Nat} {ins : Instr} {len : Nat} (h : dt_Step_giveOn[i]? = some (pc, ins, len)) : decode m_Step_giveOn.2.1 pc = .ok (ins, len) := p_dk (b := m_Step_giveOn.2.1) (t := dt_Step_giveOn) (by decide +kernel) i h
def B_Step_giveOn_46  (v0 : Nat) (v1 : Int) (v3 : Nat) (v4 : Int) (w0 : Int) (s0 : p_Hp) : Option (Int × p_Hp) :=
  if w0 = 0 then
    p_gd (p_is s0 v3 4) <|
    p_gd (p_is s0 v0 8) <|
    p_bd (F_Step_takes v0 v4 v1 (p_Z s0 v3 4) s0) fun r8 s4 =>
    if r8 ≠ 0 then
      p_gd (p_is s4 (p_R s4 v0 3) 7) <|
      p_bv (F_State_carryOver (p_R s4 v0 3) v3 v4 s4) fun s11 =>
      p_bi (p_wZ s11 v3 8 1) fun s15 =>
      some (1, s15)
    else
      some (0, s4)
  else
    p_gd (p_is s0 v3 4) <|
    p_gd (p_is s0 v0 8) <|
    p_bv (F_Step_addFinding v0 v1 1 w0 (p_Z s0 v3 1) s0) fun s19 =>
    some (0, s19)
def F_Step_giveOn (v0 : Nat) (v1 : Int) (v2 : Nat) (v3 : Nat) (s0 : p_Hp) : Option (Int × p_Hp) :=
  p_gd (p_is s0 v0 8) <|
  p_gd (p_is s0 v2 0) <|
  p_bd (F_Gear_linkAhead v2 s0) fun r7 s3 =>
  p_gd (p_is s3 (p_R s0 v0 2) 9) <|
  p_bd (F_Works_follow (p_R s0 v0 2) v2 r7 s3) fun r13 s9 =>
  if 0 ≤ r13 then
    p_gd (p_is s9 (p_R s9 v0 3) 7) <|
    p_gd (p_is s9 (p_R s9 (p_R s9 v0 3) 4) 105) <|
    p_gd ((0 : Int) ≤ r13 ∧ r13 < (p_L s9 (p_R s9 (p_R s9 v0 3) 4) : Int)) <|
    p_gd (p_is s9 (p_R s9 (p_R s9 (p_R s9 v0 3) 4) (r13 : Int).toNat) 0) <|
    p_bd (F_Gear_isTaker (p_R s9 (p_R s9 (p_R s9 v0 3) 4) (r13 : Int).toNat) s9) fun r23 s19 =>
    if r23 = 0 then
      B_Step_giveOn_46 v0 v1 v3 r13 (-12) s19
    else
      B_Step_giveOn_46 v0 v1 v3 r13 0 s19
  else
    B_Step_giveOn_46 v0 v1 v3 r13 r13 s9
set_option maxRecDepth 100000 in
set_option maxHeartbeats 4000000 in
theorem tB_Step_giveOn_46 (K : p_K) (l : Launch)  (v0 : Nat) (v1 : Int) (v3 : Nat) (v4 : Int) (w0 : Int) (s0 : p_Hp) (r : (Int × p_Hp)) (h : B_Step_giveOn_46 v0 v1 v3 v4 w0 s0 = some r) : p_Go K l m_Step_giveOn 46 [(0, p_r v0), (1, p_i v1), (3, p_r v3), (4, p_i v4)] [p_i w0] s0 (some (p_i r.1), r.2) := by
  unfold B_Step_giveOn_46 at h
  refine g_istore [(5, p_i w0), (0, p_r v0), (1, p_i v1), (3, p_r v3), (4, p_i v4)] (dk_Step_giveOn 21 rfl) (by decide) rfl ?_
  refine g_iload (j := 0) (dk_Step_giveOn 22 rfl) rfl ?_
  refine g_if_eq 67 (dk_Step_giveOn 23 rfl) (by decide) (fun b1 => ?_) (fun b1 => ?_)
  · have h := p_ifT b1 h
    refine g_aload_n (i := 0) (j := 1) (dk_Step_giveOn 33 rfl) rfl rfl ?_
    refine g_iload (j := 4) (dk_Step_giveOn 34 rfl) rfl ?_
    refine g_iload_n (i := 1) (j := 2) (dk_Step_giveOn 35 rfl) rfl rfl ?_
    refine g_aload_n (i := 3) (j := 3) (dk_Step_giveOn 36 rfl) rfl rfl ?_
    obtain ⟨c2, h⟩ := p_gdE h
    refine g_getI fl_Step_256 (Or.inl rfl) (dk_Step_giveOn 37 rfl) c2 ?_
    obtain ⟨c3, h⟩ := p_gdE h
    obtain ⟨r8, s4, q5, h⟩ := p_bdE h
    have t6 := tF_Step_takes K l v0 v4 v1 (p_Z s0 v3 4) s0 _ q5
    refine g_callV (a := v0) (ci := 8) (q0 := (RX8, TX8, 5)) (As := [p_i v4, p_i v1, p_i (p_Z s0 v3 4)]) (rest := []) [p_i r8] mt_Step_takes rfl rfl tw_5_50 ts_34 tw_5_48 ⟨Nat.le_of_ble_eq_true rfl, Nat.le_of_ble_eq_true rfl⟩ rfl (Nat.le_of_ble_eq_true rfl) (dk_Step_giveOn 38 rfl) rfl c3 rfl t6 ?_
    have hs7 : p_x s0 s4 := t6.1
    show p_Go K l m_Step_giveOn 78 [(5, p_i w0), (0, p_r v0), (1, p_i v1), (3, p_r v3), (4, p_i v4)] [p_i r8] s4 _
    refine g_if_ne 83 (dk_Step_giveOn 39 rfl) (by decide) (fun b9 => ?_) (fun b9 => ?_)
    · have h := p_ifT b9 h
      refine g_aload_n (i := 0) (j := 1) (dk_Step_giveOn 42 rfl) rfl rfl ?_
      refine g_getR fl_Step_28 (Or.inl ⟨_, rfl⟩) (dk_Step_giveOn 43 rfl) (c3.up hs7) ?_
      refine g_aload_n (i := 3) (j := 3) (dk_Step_giveOn 44 rfl) rfl rfl ?_
      refine g_iload (j := 4) (dk_Step_giveOn 45 rfl) rfl ?_
      obtain ⟨c10, h⟩ := p_gdE h
      obtain ⟨s11, q12, h⟩ := p_bvE h
      have t13 := tF_State_carryOver K l (p_R s4 v0 3) v3 v4 s4 _ q12
      refine g_callV (a := (p_R s4 v0 3)) (ci := 7) (q0 := (RX7, TX7, 10)) (As := [p_r v3, p_i v4]) (rest := []) [] mt_State_carryOver rfl rfl tw_4_84 tw_4_85 tw_5_66 ⟨Nat.le_of_ble_eq_true rfl, Nat.le_of_ble_eq_true rfl⟩ rfl (Nat.le_of_ble_eq_true rfl) (dk_Step_giveOn 46 rfl) rfl c10 rfl t13 ?_
      have hs14 : p_x s4 s11 := t13.1
      show p_Go K l m_Step_giveOn 93 [(5, p_i w0), (0, p_r v0), (1, p_i v1), (3, p_r v3), (4, p_i v4)] [] s11 _
      refine g_aload_n (i := 3) (j := 3) (dk_Step_giveOn 47 rfl) rfl rfl ?_
      refine g_iconst (dk_Step_giveOn 48 rfl) (by decide) ?_
      refine g_putB fl_Step_64 (Or.inl rfl) (dk_Step_giveOn 49 rfl) (c2.up (hs7.trans hs14)) (Or.inr rfl) ?_
      refine p_ltS (P := fun q => p_Go K l m_Step_giveOn 98 [(5, p_i w0), (0, p_r v0), (1, p_i v1), (3, p_r v3), (4, p_i v4)] [] q _) (p_xZ _ _ _ _) ?_ h
      intro s15 hs16 h
      refine g_iconst (dk_Step_giveOn 50 rfl) (by decide) ?_
      cases h
      exact g_ret rfl rfl (dk_Step_giveOn 51 rfl) (fun _ => ⟨_, rfl, Or.inr rfl⟩)
    · have h := p_ifF b9 h
      refine g_iconst (dk_Step_giveOn 40 rfl) (by decide) ?_
      cases h
      exact g_ret rfl rfl (dk_Step_giveOn 41 rfl) (fun _ => ⟨_, rfl, Or.inl rfl⟩)
  · have h := p_ifF b1 h
    refine g_aload_n (i := 0) (j := 1) (dk_Step_giveOn 24 rfl) rfl rfl ?_
    refine g_iload_n (i := 1) (j := 2) (dk_Step_giveOn 25 rfl) rfl rfl ?_
    refine g_iconst (dk_Step_giveOn 26 rfl) (by decide) ?_
    refine g_iload (j := 0) (dk_Step_giveOn 27 rfl) rfl ?_
    refine g_aload_n (i := 3) (j := 3) (dk_Step_giveOn 28 rfl) rfl rfl ?_
    obtain ⟨c17, h⟩ := p_gdE h
    refine g_getI fl_Step_263 (Or.inl rfl) (dk_Step_giveOn 29 rfl) c17 ?_
    obtain ⟨c18, h⟩ := p_gdE h
    obtain ⟨s19, q20, h⟩ := p_bvE h
    have t21 := tF_Step_addFinding K l v0 v1 1 w0 (p_Z s0 v3 1) s0 _ q20
    refine g_callV (a := v0) (ci := 8) (q0 := (RX8, TX8, 5)) (As := [p_i v1, p_i 1, p_i w0, p_i (p_Z s0 v3 1)]) (rest := []) [] mt_Step_addFinding rfl rfl tw_4_181 ts_16 tw_4_179 ⟨Nat.le_of_ble_eq_true rfl, Nat.le_of_ble_eq_true rfl⟩ rfl (Nat.le_of_ble_eq_true rfl) (dk_Step_giveOn 30 rfl) rfl c18 rfl t21 ?_
    have hs22 : p_x s0 s19 := t21.1
    show p_Go K l m_Step_giveOn 65 [(5, p_i w0), (0, p_r v0), (1, p_i v1), (3, p_r v3), (4, p_i v4)] [] s19 _
    refine g_iconst (dk_Step_giveOn 31 rfl) (by decide) ?_
    cases h
    exact g_ret rfl rfl (dk_Step_giveOn 32 rfl) (fun _ => ⟨_, rfl, Or.inl rfl⟩)
set_option maxRecDepth 100000 in
set_option maxHeartbeats 4000000 in
theorem tF_Step_giveOn (K : p_K) (l : Launch) (v0 : Nat) (v1 : Int) (v2 : Nat) (v3 : Nat) (s0 : p_Hp) (r : (Int × p_Hp)) (h : F_Step_giveOn v0 v1 v2 v3 s0 = some r) : p_Ct K l m_Step_giveOn [p_r v0, p_i v1, p_r v2, p_r v3] s0 (some (p_i r.1), r.2) := by
  refine p_Ct.of (by decide +kernel) (Nat.le_of_ble_eq_true rfl) ?_
  unfold F_Step_giveOn at h
  show p_Go K l m_Step_giveOn 0 [(0, p_r v0), (1, p_i v1), (2, p_r v2), (3, p_r v3)] [] s0 _
  refine g_aload_n (i := 0) (j := 0) (dk_Step_giveOn 0 rfl) rfl rfl ?_
  obtain ⟨c1, h⟩ := p_gdE h
  refine g_getR fl_Step_18 (Or.inl ⟨_, rfl⟩) (dk_Step_giveOn 1 rfl) c1 ?_
  refine g_aload_n (i := 2) (j := 2) (dk_Step_giveOn 2 rfl) rfl rfl ?_
  refine g_aload_n (i := 2) (j := 2) (dk_Step_giveOn 3 rfl) rfl rfl ?_
  obtain ⟨c2, h⟩ := p_gdE h
  obtain ⟨r7, s3, q4, h⟩ := p_bdE h
  have t5 := tF_Gear_linkAhead K l v2 s0 _ q4
  refine g_callV (a := v2) (ci := 0) (q0 := (RX0, TX0, 20)) (As := []) (rest := [p_r v2, p_r (p_R s0 v0 2)]) [p_i r7, p_r v2, p_r (p_R s0 v0 2)] mt_Gear_linkAhead rfl rfl tw_4_208 tw_4_209 tw_4_207 ⟨Nat.le_of_ble_eq_true rfl, Nat.le_of_ble_eq_true rfl⟩ rfl (Nat.le_of_ble_eq_true rfl) (dk_Step_giveOn 4 rfl) rfl c2 rfl t5 ?_
  have hs6 : p_x s0 s3 := t5.1
  show p_Go K l m_Step_giveOn 9 [(0, p_r v0), (1, p_i v1), (2, p_r v2), (3, p_r v3)] [p_i r7, p_r v2, p_r (p_R s0 v0 2)] s3 _
  obtain ⟨c8, h⟩ := p_gdE h
  obtain ⟨r13, s9, q10, h⟩ := p_bdE h
  have t11 := tF_Works_follow K l (p_R s0 v0 2) v2 r7 s3 _ q10
  refine g_callV (a := (p_R s0 v0 2)) (ci := 9) (q0 := (RX9, TX9, 15)) (As := [p_r v2, p_i r7]) (rest := []) [p_i r13] mt_Works_follow rfl rfl tw_4_213 tw_4_214 tw_4_212 ⟨Nat.le_of_ble_eq_true rfl, Nat.le_of_ble_eq_true rfl⟩ rfl (Nat.le_of_ble_eq_true rfl) (dk_Step_giveOn 5 rfl) rfl c8 rfl t11 ?_
  have hs12 : p_x s3 s9 := t11.1
  show p_Go K l m_Step_giveOn 12 [(0, p_r v0), (1, p_i v1), (2, p_r v2), (3, p_r v3)] [p_i r13] s9 _
  refine g_istore [(4, p_i r13), (0, p_r v0), (1, p_i v1), (2, p_r v2), (3, p_r v3)] (dk_Step_giveOn 6 rfl) (by decide) rfl ?_
  refine g_iload (j := 0) (dk_Step_giveOn 7 rfl) rfl ?_
  refine g_if_ge 24 (dk_Step_giveOn 8 rfl) (by decide) (fun b14 => ?_) (fun b14 => ?_)
  · have h := p_ifT b14 h
    refine g_aload_n (i := 0) (j := 1) (dk_Step_giveOn 11 rfl) rfl rfl ?_
    refine g_getR fl_Step_28 (Or.inl ⟨_, rfl⟩) (dk_Step_giveOn 12 rfl) (c1.up (hs6.trans hs12)) ?_
    obtain ⟨c15, h⟩ := p_gdE h
    refine g_getR fl_Step_82 (Or.inr ⟨_, rfl⟩) (dk_Step_giveOn 13 rfl) c15 ?_
    refine g_iload (j := 0) (dk_Step_giveOn 14 rfl) rfl ?_
    obtain ⟨c16, h⟩ := p_gdE h
    obtain ⟨c17, h⟩ := p_gdE h
    refine g_aaload (i := 5) rfl (Or.inl ⟨_, rfl⟩) (dk_Step_giveOn 15 rfl) c16 c17.1 c17.2 ?_
    obtain ⟨c18, h⟩ := p_gdE h
    obtain ⟨r23, s19, q20, h⟩ := p_bdE h
    have t21 := tF_Gear_isTaker K l (p_R s9 (p_R s9 (p_R s9 v0 3) 4) (r13 : Int).toNat) s9 _ q20
    refine g_callV (a := (p_R s9 (p_R s9 (p_R s9 v0 3) 4) (r13 : Int).toNat)) (ci := 0) (q0 := (RX0, TX0, 20)) (As := []) (rest := []) [p_i r23] mt_Gear_isTaker rfl rfl tw_3_142 tw_3_143 tw_4_195 ⟨Nat.le_of_ble_eq_true rfl, Nat.le_of_ble_eq_true rfl⟩ rfl (Nat.le_of_ble_eq_true rfl) (dk_Step_giveOn 16 rfl) rfl c18 rfl t21 ?_
    have hs22 : p_x s9 s19 := t21.1
    show p_Go K l m_Step_giveOn 37 [(4, p_i r13), (0, p_r v0), (1, p_i v1), (2, p_r v2), (3, p_r v3)] [p_i r23] s19 _
    refine g_if_eq 44 (dk_Step_giveOn 17 rfl) (by decide) (fun b24 => ?_) (fun b24 => ?_)
    · have h := p_ifT b24 h
      refine g_bipush (dk_Step_giveOn 20 rfl) (by decide +kernel) (by decide) ?_
      refine g_sub [(0, p_r v0), (1, p_i v1), (3, p_r v3), (4, p_i r13)] [1, 2, 4, 0] rfl ?_
      exact tB_Step_giveOn_46 K l v0 v1 v3 r13 (-12) s19 _ h
    · have h := p_ifF b24 h
      refine g_iconst (dk_Step_giveOn 18 rfl) (by decide) ?_
      refine g_goto 46 (dk_Step_giveOn 19 rfl) (by decide) ?_
      refine g_sub [(0, p_r v0), (1, p_i v1), (3, p_r v3), (4, p_i r13)] [1, 2, 4, 0] rfl ?_
      exact tB_Step_giveOn_46 K l v0 v1 v3 r13 0 s19 _ h
  · have h := p_ifF b14 h
    refine g_iload (j := 0) (dk_Step_giveOn 9 rfl) rfl ?_
    refine g_goto 46 (dk_Step_giveOn 10 rfl) (by decide) ?_
    refine g_sub [(0, p_r v0), (1, p_i v1), (3, p_r v3), (4, p_i r13)] [1, 2, 4, 0] rfl ?_
    exact tB_Step_giveOn_46 K l v0 v1 v3 r13 r13 s9 _ h
def m_Numbers_takeOut : p_Me := (⟨"SortWorks$Numbers", "takeOut", "(III)V"⟩, prog_5_method_3_code, 4, none, 0, 0)
theorem mt_Numbers_takeOut : p_Mt m_Numbers_takeOut 3 := ⟨p_mem (p_tb5 (List.mem_of_getElem? (i := 43) rfl)) rfl, tw_1_8, by decide +kernel, by decide +kernel, by decide +kernel⟩
def dt_Numbers_takeOut : List (Nat × Instr × Nat) := [(0, .aload_n 0, 1), (1, .getfield 9, 3), (4, .iload_n 1, 1), (5, .sipush 1000, 3), (8, .iload_n 2, 1), (9, .imul, 1), (10, .iload_n 3, 1), (11, .iadd, 1), (12, .iastore, 1), (13, .return_, 1)]
theorem dk_Numbers_takeOut (i : Nat) {pc : Nat} {ins : Instr} {len : Nat} (h : dt_Numbers_takeOut[i]? = some (pc, ins, len)) : decode m_Numbers_takeOut.2.1 pc = .ok (ins, len) := p_dk (b := m_Numbers_takeOut.2.1) (t := dt_Numbers_takeOut) (by decide +kernel) i h
def F_Numbers_takeOut (v0 : Nat) (v1 : Int) (v2 : Int) (v3 : Int) (s0 : p_Hp) : Option p_Hp :=
  p_gd (p_is s0 v0 3) <|
  p_gd (p_is s0 (p_R s0 v0 0) 100) <|
  p_gd ((0 : Int) ≤ v1 ∧ v1 < (p_L s0 (p_R s0 v0 0) : Int)) <|
  p_bi (p_wZ s0 (p_R s0 v0 0) (v1 : Int).toNat (p_w ((p_w (1000 * v2)) + v3))) fun s4 =>
  some s4
set_option maxRecDepth 100000 in
set_option maxHeartbeats 4000000 in
theorem tF_Numbers_takeOut (K : p_K) (l : Launch) (v0 : Nat) (v1 : Int) (v2 : Int) (v3 : Int) (s0 : p_Hp) (r : p_Hp) (h : F_Numbers_takeOut v0 v1 v2 v3 s0 = some r) : p_Ct K l m_Numbers_takeOut [p_r v0, p_i v1, p_i v2, p_i v3] s0 (none, r) := by
  refine p_Ct.of (by decide +kernel) (Nat.le_of_ble_eq_true rfl) ?_
  unfold F_Numbers_takeOut at h
  show p_Go K l m_Numbers_takeOut 0 [(0, p_r v0), (1, p_i v1), (2, p_i v2), (3, p_i v3)] [] s0 _
  refine g_aload_n (i := 0) (j := 0) (dk_Numbers_takeOut 0 rfl) rfl rfl ?_
  obtain ⟨c1, h⟩ := p_gdE h
  refine g_getR fl_Numbers_9 (Or.inr ⟨_, rfl⟩) (dk_Numbers_takeOut 1 rfl) c1 ?_
  refine g_iload_n (i := 1) (j := 1) (dk_Numbers_takeOut 2 rfl) rfl rfl ?_
  refine g_sipush (dk_Numbers_takeOut 3 rfl) (by decide +kernel) (by decide) ?_
  refine g_iload_n (i := 2) (j := 2) (dk_Numbers_takeOut 4 rfl) rfl rfl ?_
  refine g_imul (dk_Numbers_takeOut 5 rfl) ?_
  refine g_iload_n (i := 3) (j := 3) (dk_Numbers_takeOut 6 rfl) rfl rfl ?_
  refine g_iadd (dk_Numbers_takeOut 7 rfl) ?_
  obtain ⟨c2, h⟩ := p_gdE h
  obtain ⟨c3, h⟩ := p_gdE h
  refine g_iastore (dk_Numbers_takeOut 8 rfl) c2 c3.1 c3.2 ?_
  refine p_ltS (P := fun q => p_Go K l m_Numbers_takeOut 13 [(0, p_r v0), (1, p_i v1), (2, p_i v2), (3, p_i v3)] [] q _) (p_xZ _ _ _ _) ?_ h
  intro s4 hs5 h
  cases h
  exact g_ret rfl rfl (dk_Numbers_takeOut 9 rfl) (fun _ => rfl)
