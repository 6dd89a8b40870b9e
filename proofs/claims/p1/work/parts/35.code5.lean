def m_SW_parcel : p_Me := (⟨"SortWorks", "parcel", "(II)I"⟩, prog_1_method_38_code, 4, (some .int), 1, 22)
theorem mt_SW_parcel : p_Mt m_SW_parcel 2 := ⟨p_mem (p_tb5 (List.mem_of_getElem? (i := 136) rfl)) rfl, tw_1_1, by decide +kernel, by decide +kernel, by decide +kernel⟩
def dt_SW_parcel : List (Nat × Instr × Nat) := [(0, .aload_n 0, 1), (1, .getfield 18, 3), (4, .getfield 77, 3), (7, .iload_n 1, 1), (8, .invokevirtual 200, 3), (11, .astore_n 3, 1), (12, .aload_n 3, 1), (13, .ifnonnull 5, 3), (16, .iconst (-1), 1), (17, .ireturn, 1), (18, .aload_n 3, 1), (19, .iload_n 2, 1), (20, .invokevirtual 305, 3), (23, .ireturn, 1)]
theorem dk_SW_parcel (i : Nat) {pc : Nat} {ins : Instr} {len : Nat} (h : dt_SW_parcel[i]? = some (pc, ins, len)) : decode m_SW_parcel.2.1 pc = .ok (ins, len) := p_dk (b := m_SW_parcel.2.1) (t := dt_SW_parcel) (by decide +kernel) i h
def F_SW_parcel (v0 : Nat) (v1 : Int) (v2 : Int) (s0 : p_Hp) : Option (Int × p_Hp) :=
  p_gd (p_is s0 v0 10) <|
  p_gd (p_is s0 (p_R s0 v0 1) 9) <|
  p_gd (p_is s0 (p_R s0 (p_R s0 v0 1) 1) 7) <|
  p_bd (F_State_find (p_R s0 (p_R s0 v0 1) 1) v1 s0) fun r8 s4 =>
  if r8 ≠ 0 then
    p_gd (p_is s4 r8 4) <|
    p_bd (F_Parcel_tell r8 v2 s4) fun r15 s11 =>
    some (r15, s11)
  else
    some ((-1), s4)
set_option maxRecDepth 100000 in
set_option maxHeartbeats 4000000 in
theorem tF_SW_parcel (K : p_K) (l : Launch) (v0 : Nat) (v1 : Int) (v2 : Int) (s0 : p_Hp) (r : (Int × p_Hp)) (h : F_SW_parcel v0 v1 v2 s0 = some r) : p_Ct K l m_SW_parcel [p_r v0, p_i v1, p_i v2] s0 (some (p_i r.1), r.2) := by
  refine p_Ct.of (by decide +kernel) (Nat.le_of_ble_eq_true rfl) ?_
  unfold F_SW_parcel at h
  show p_Go K l m_SW_parcel 0 [(0, p_r v0), (1, p_i v1), (2, p_i v2)] [] s0 _
  refine g_aload_n (i := 0) (j := 0) (dk_SW_parcel 0 rfl) rfl rfl ?_
  obtain ⟨c1, h⟩ := p_gdE h
  refine g_getR fl_SW_18 (Or.inl ⟨_, rfl⟩) (dk_SW_parcel 1 rfl) c1 ?_
  obtain ⟨c2, h⟩ := p_gdE h
  refine g_getR fl_SW_77 (Or.inl ⟨_, rfl⟩) (dk_SW_parcel 2 rfl) c2 ?_
  refine g_iload_n (i := 1) (j := 1) (dk_SW_parcel 3 rfl) rfl rfl ?_
  obtain ⟨c3, h⟩ := p_gdE h
  obtain ⟨r8, s4, q5, h⟩ := p_bdE h
  have t6 := tF_State_find K l (p_R s0 (p_R s0 v0 1) 1) v1 s0 _ q5
  refine g_callV (a := (p_R s0 (p_R s0 v0 1) 1)) (ci := 7) (q0 := (RX7, TX7, 9)) (As := [p_i v1]) (rest := []) [p_r r8] mt_State_find rfl rfl tw_4_22 tw_4_23 tw_4_21 ⟨Nat.le_of_ble_eq_true rfl, Nat.le_of_ble_eq_true rfl⟩ rfl (Nat.le_of_ble_eq_true rfl) (dk_SW_parcel 4 rfl) rfl c3 rfl t6 ?_
  have hs7 : p_x s0 s4 := t6.1
  show p_Go K l m_SW_parcel 11 [(0, p_r v0), (1, p_i v1), (2, p_i v2)] [p_r r8] s4 _
  refine g_astore_n (i := 3) [(3, p_r r8), (0, p_r v0), (1, p_i v1), (2, p_i v2)] (dk_SW_parcel 5 rfl) rfl (by decide) rfl ?_
  refine g_aload_n (i := 3) (j := 0) (dk_SW_parcel 6 rfl) rfl rfl ?_
  refine g_ifnonnull 18 (dk_SW_parcel 7 rfl) (by decide) (fun b9 => ?_) (fun b9 => ?_)
  · have h := p_ifT b9 h
    refine g_aload_n (i := 3) (j := 0) (dk_SW_parcel 10 rfl) rfl rfl ?_
    refine g_iload_n (i := 2) (j := 3) (dk_SW_parcel 11 rfl) rfl rfl ?_
    obtain ⟨c10, h⟩ := p_gdE h
    obtain ⟨r15, s11, q12, h⟩ := p_bdE h
    have t13 := tF_Parcel_tell K l r8 v2 s4 _ q12
    refine g_callV (a := r8) (ci := 4) (q0 := (RX4, TX4, 13)) (As := [p_i v2]) (rest := []) [p_i r15] mt_Parcel_tell rfl rfl tw_5_138 tw_5_139 tw_5_137 ⟨Nat.le_of_ble_eq_true rfl, Nat.le_of_ble_eq_true rfl⟩ rfl (Nat.le_of_ble_eq_true rfl) (dk_SW_parcel 12 rfl) rfl c10 rfl t13 ?_
    have hs14 : p_x s4 s11 := t13.1
    show p_Go K l m_SW_parcel 23 [(3, p_r r8), (0, p_r v0), (1, p_i v1), (2, p_i v2)] [p_i r15] s11 _
    cases h
    exact g_ret rfl rfl (dk_SW_parcel 13 rfl) (fun os => ⟨_, rfl, p_okh os⟩)
  · have h := p_ifF b9 h
    refine g_iconst (dk_SW_parcel 8 rfl) (by decide) ?_
    cases h
    exact g_ret rfl rfl (dk_SW_parcel 9 rfl) (fun os => ⟨_, rfl, p_okh os⟩)
def m_SW_way : p_Me := (⟨"SortWorks", "way", "(II)I"⟩, prog_1_method_39_code, 4, (some .int), 1, 22)
theorem mt_SW_way : p_Mt m_SW_way 2 := ⟨p_mem (p_tb5 (List.mem_of_getElem? (i := 144) rfl)) rfl, tw_1_1, by decide +kernel, by decide +kernel, by decide +kernel⟩
def dt_SW_way : List (Nat × Instr × Nat) := [(0, .aload_n 0, 1), (1, .getfield 18, 3), (4, .getfield 77, 3), (7, .iload_n 1, 1), (8, .invokevirtual 200, 3), (11, .astore_n 3, 1), (12, .aload_n 3, 1), (13, .ifnonnull 5, 3), (16, .iconst (-1), 1), (17, .ireturn, 1), (18, .iload_n 2, 1), (19, .ifCond .lt 17, 3), (22, .iload_n 2, 1), (23, .aload_n 3, 1), (24, .getfield 306, 3), (27, .if_icmp .ge 9, 3), (30, .iload_n 2, 1), (31, .bipush 16, 2), (33, .if_icmp .lt 8, 3), (36, .bipush (-9), 2), (38, .goto 9, 3), (41, .aload_n 3, 1), (42, .getfield 309, 3), (45, .iload_n 2, 1), (46, .iaload, 1), (47, .ireturn, 1)]
theorem dk_SW_way (i : Nat) {pc : Nat} {ins : Instr} {len : Nat} (h : dt_SW_way[i]? = some (pc, ins, len)) : decode m_SW_way.2.1 pc = .ok (ins, len) := p_dk (b := m_SW_way.2.1) (t := dt_SW_way) (by decide +kernel) i h
def B_SW_way_36   (s0 : p_Hp) : Option (Int × p_Hp) :=
  some ((-9), s0)
def F_SW_way (v0 : Nat) (v1 : Int) (v2 : Int) (s0 : p_Hp) : Option (Int × p_Hp) :=
  p_gd (p_is s0 v0 10) <|
  p_gd (p_is s0 (p_R s0 v0 1) 9) <|
  p_gd (p_is s0 (p_R s0 (p_R s0 v0 1) 1) 7) <|
  p_bd (F_State_find (p_R s0 (p_R s0 v0 1) 1) v1 s0) fun r8 s4 =>
  if r8 ≠ 0 then
    if v2 < 0 then
      B_SW_way_36 s4
    else
      p_gd (p_is s4 r8 4) <|
      if (p_Z s4 r8 9) ≤ v2 then
        B_SW_way_36 s4
      else
        if v2 < 16 then
          p_gd (p_is s4 (p_R s4 r8 10) 100) <|
          p_gd ((0 : Int) ≤ v2 ∧ v2 < (p_L s4 (p_R s4 r8 10) : Int)) <|
          some ((p_Z s4 (p_R s4 r8 10) (v2 : Int).toNat), s4)
        else
          B_SW_way_36 s4
  else
    some ((-1), s4)
set_option maxRecDepth 100000 in
set_option maxHeartbeats 4000000 in
theorem tB_SW_way_36 (K : p_K) (l : Launch)   (s0 : p_Hp) (r : (Int × p_Hp)) (h : B_SW_way_36  s0 = some r) : p_Go K l m_SW_way 36 [] [] s0 (some (p_i r.1), r.2) := by
  unfold B_SW_way_36 at h
  refine g_bipush (dk_SW_way 19 rfl) (by decide +kernel) (by decide) ?_
  refine g_goto 47 (dk_SW_way 20 rfl) (by decide) ?_
  cases h
  exact g_ret rfl rfl (dk_SW_way 25 rfl) (fun os => ⟨_, rfl, p_okh os⟩)
set_option maxRecDepth 100000 in
set_option maxHeartbeats 4000000 in
theorem tF_SW_way (K : p_K) (l : Launch) (v0 : Nat) (v1 : Int) (v2 : Int) (s0 : p_Hp) (r : (Int × p_Hp)) (h : F_SW_way v0 v1 v2 s0 = some r) : p_Ct K l m_SW_way [p_r v0, p_i v1, p_i v2] s0 (some (p_i r.1), r.2) := by
  refine p_Ct.of (by decide +kernel) (Nat.le_of_ble_eq_true rfl) ?_
  unfold F_SW_way at h
  show p_Go K l m_SW_way 0 [(0, p_r v0), (1, p_i v1), (2, p_i v2)] [] s0 _
  refine g_aload_n (i := 0) (j := 0) (dk_SW_way 0 rfl) rfl rfl ?_
  obtain ⟨c1, h⟩ := p_gdE h
  refine g_getR fl_SW_18 (Or.inl ⟨_, rfl⟩) (dk_SW_way 1 rfl) c1 ?_
  obtain ⟨c2, h⟩ := p_gdE h
  refine g_getR fl_SW_77 (Or.inl ⟨_, rfl⟩) (dk_SW_way 2 rfl) c2 ?_
  refine g_iload_n (i := 1) (j := 1) (dk_SW_way 3 rfl) rfl rfl ?_
  obtain ⟨c3, h⟩ := p_gdE h
  obtain ⟨r8, s4, q5, h⟩ := p_bdE h
  have t6 := tF_State_find K l (p_R s0 (p_R s0 v0 1) 1) v1 s0 _ q5
  refine g_callV (a := (p_R s0 (p_R s0 v0 1) 1)) (ci := 7) (q0 := (RX7, TX7, 9)) (As := [p_i v1]) (rest := []) [p_r r8] mt_State_find rfl rfl tw_4_22 tw_4_23 tw_4_21 ⟨Nat.le_of_ble_eq_true rfl, Nat.le_of_ble_eq_true rfl⟩ rfl (Nat.le_of_ble_eq_true rfl) (dk_SW_way 4 rfl) rfl c3 rfl t6 ?_
  have hs7 : p_x s0 s4 := t6.1
  show p_Go K l m_SW_way 11 [(0, p_r v0), (1, p_i v1), (2, p_i v2)] [p_r r8] s4 _
  refine g_astore_n (i := 3) [(3, p_r r8), (0, p_r v0), (1, p_i v1), (2, p_i v2)] (dk_SW_way 5 rfl) rfl (by decide) rfl ?_
  refine g_aload_n (i := 3) (j := 0) (dk_SW_way 6 rfl) rfl rfl ?_
  refine g_ifnonnull 18 (dk_SW_way 7 rfl) (by decide) (fun b9 => ?_) (fun b9 => ?_)
  · have h := p_ifT b9 h
    refine g_iload_n (i := 2) (j := 3) (dk_SW_way 10 rfl) rfl rfl ?_
    refine g_if_lt 36 (dk_SW_way 11 rfl) (by decide) (fun b10 => ?_) (fun b10 => ?_)
    · have h := p_ifT b10 h
      refine g_sub [] [] rfl ?_
      exact tB_SW_way_36 K l s4 _ h
    · have h := p_ifF b10 h
      refine g_iload_n (i := 2) (j := 3) (dk_SW_way 12 rfl) rfl rfl ?_
      refine g_aload_n (i := 3) (j := 0) (dk_SW_way 13 rfl) rfl rfl ?_
      obtain ⟨c11, h⟩ := p_gdE h
      refine g_getI fl_SW_306 (Or.inl rfl) (dk_SW_way 14 rfl) c11 ?_
      refine g_icmp_ge 36 (dk_SW_way 15 rfl) (by decide) (fun b12 => ?_) (fun b12 => ?_)
      · have h := p_ifT b12 h
        refine g_sub [] [] rfl ?_
        exact tB_SW_way_36 K l s4 _ h
      · have h := p_ifF b12 h
        refine g_iload_n (i := 2) (j := 3) (dk_SW_way 16 rfl) rfl rfl ?_
        refine g_bipush (dk_SW_way 17 rfl) (by decide +kernel) (by decide) ?_
        refine g_icmp_lt 41 (dk_SW_way 18 rfl) (by decide) (fun b13 => ?_) (fun b13 => ?_)
        · have h := p_ifT b13 h
          refine g_aload_n (i := 3) (j := 0) (dk_SW_way 21 rfl) rfl rfl ?_
          refine g_getR fl_SW_309 (Or.inr ⟨_, rfl⟩) (dk_SW_way 22 rfl) c11 ?_
          refine g_iload_n (i := 2) (j := 3) (dk_SW_way 23 rfl) rfl rfl ?_
          obtain ⟨c14, h⟩ := p_gdE h
          obtain ⟨c15, h⟩ := p_gdE h
          refine g_iaload (dk_SW_way 24 rfl) c14 c15.1 c15.2 ?_
          cases h
          exact g_ret rfl rfl (dk_SW_way 25 rfl) (fun os => ⟨_, rfl, p_okh os⟩)
        · have h := p_ifF b13 h
          refine g_sub [] [] rfl ?_
          exact tB_SW_way_36 K l s4 _ h
  · have h := p_ifF b9 h
    refine g_iconst (dk_SW_way 8 rfl) (by decide) ?_
    cases h
    exact g_ret rfl rfl (dk_SW_way 9 rfl) (fun os => ⟨_, rfl, p_okh os⟩)
def m_SW_byteOf : p_Me := (⟨"SortWorks", "byteOf", "(II)I"⟩, prog_1_method_40_code, 4, (some .int), 1, 22)
theorem mt_SW_byteOf : p_Mt m_SW_byteOf 2 := ⟨p_mem (p_tb5 (List.mem_of_getElem? (i := 148) rfl)) rfl, tw_1_1, by decide +kernel, by decide +kernel, by decide +kernel⟩
def dt_SW_byteOf : List (Nat × Instr × Nat) := [(0, .aload_n 0, 1), (1, .getfield 18, 3), (4, .getfield 77, 3), (7, .iload_n 1, 1), (8, .invokevirtual 200, 3), (11, .astore_n 3, 1), (12, .aload_n 3, 1), (13, .ifnonnull 5, 3), (16, .iconst (-1), 1), (17, .ireturn, 1), (18, .iload_n 2, 1), (19, .ifCond .lt 11, 3), (22, .iload_n 2, 1), (23, .aload_n 3, 1), (24, .getfield 207, 3), (27, .if_icmp .lt 8, 3), (30, .bipush (-9), 2), (32, .goto 9, 3), (35, .aload_n 3, 1), (36, .getfield 204, 3), (39, .iload_n 2, 1), (40, .iaload, 1), (41, .ireturn, 1)]
theorem dk_SW_byteOf (i : Nat) {pc : Nat} {ins : Instr} {len : Nat} (h : dt_SW_byteOf[i]? = some (pc, ins, len)) : decode m_SW_byteOf.2.1 pc = .ok (ins, len) := p_dk (b := m_SW_byteOf.2.1) (t := dt_SW_byteOf) (by decide +kernel) i h
def B_SW_byteOf_30   (s0 : p_Hp) : Option (Int × p_Hp) :=
  some ((-9), s0)
def F_SW_byteOf (v0 : Nat) (v1 : Int) (v2 : Int) (s0 : p_Hp) : Option (Int × p_Hp) :=
  p_gd (p_is s0 v0 10) <|
  p_gd (p_is s0 (p_R s0 v0 1) 9) <|
  p_gd (p_is s0 (p_R s0 (p_R s0 v0 1) 1) 7) <|
  p_bd (F_State_find (p_R s0 (p_R s0 v0 1) 1) v1 s0) fun r8 s4 =>
  if r8 ≠ 0 then
    if v2 < 0 then
      B_SW_byteOf_30 s4
    else
      p_gd (p_is s4 r8 4) <|
      if v2 < (p_Z s4 r8 11) then
        p_gd (p_is s4 (p_R s4 r8 12) 100) <|
        p_gd ((0 : Int) ≤ v2 ∧ v2 < (p_L s4 (p_R s4 r8 12) : Int)) <|
        some ((p_Z s4 (p_R s4 r8 12) (v2 : Int).toNat), s4)
      else
        B_SW_byteOf_30 s4
  else
    some ((-1), s4)
set_option maxRecDepth 100000 in
set_option maxHeartbeats 4000000 in
theorem tB_SW_byteOf_30 (K : p_K) (l : Launch)   (s0 : p_Hp) (r : (Int × p_Hp)) (h : B_SW_byteOf_30  s0 = some r) : p_Go K l m_SW_byteOf 30 [] [] s0 (some (p_i r.1), r.2) := by
  unfold B_SW_byteOf_30 at h
  refine g_bipush (dk_SW_byteOf 16 rfl) (by decide +kernel) (by decide) ?_
  refine g_goto 41 (dk_SW_byteOf 17 rfl) (by decide) ?_
  cases h
  exact g_ret rfl rfl (dk_SW_byteOf 22 rfl) (fun os => ⟨_, rfl, p_okh os⟩)
set_option maxRecDepth 100000 in
set_option maxHeartbeats 4000000 in
theorem tF_SW_byteOf (K : p_K) (l : Launch) (v0 : Nat) (v1 : Int) (v2 : Int) (s0 : p_Hp) (r : (Int × p_Hp)) (h : F_SW_byteOf v0 v1 v2 s0 = some r) : p_Ct K l m_SW_byteOf [p_r v0, p_i v1, p_i v2] s0 (some (p_i r.1), r.2) := by
  refine p_Ct.of (by decide +kernel) (Nat.le_of_ble_eq_true rfl) ?_
  unfold F_SW_byteOf at h
  show p_Go K l m_SW_byteOf 0 [(0, p_r v0), (1, p_i v1), (2, p_i v2)] [] s0 _
  refine g_aload_n (i := 0) (j := 0) (dk_SW_byteOf 0 rfl) rfl rfl ?_
  obtain ⟨c1, h⟩ := p_gdE h
  refine g_getR fl_SW_18 (Or.inl ⟨_, rfl⟩) (dk_SW_byteOf 1 rfl) c1 ?_
  obtain ⟨c2, h⟩ := p_gdE h
  refine g_getR fl_SW_77 (Or.inl ⟨_, rfl⟩) (dk_SW_byteOf 2 rfl) c2 ?_
  refine g_iload_n (i := 1) (j := 1) (dk_SW_byteOf 3 rfl) rfl rfl ?_
  obtain ⟨c3, h⟩ := p_gdE h
  obtain ⟨r8, s4, q5, h⟩ := p_bdE h
  have t6 := tF_State_find K l (p_R s0 (p_R s0 v0 1) 1) v1 s0 _ q5
  refine g_callV (a := (p_R s0 (p_R s0 v0 1) 1)) (ci := 7) (q0 := (RX7, TX7, 9)) (As := [p_i v1]) (rest := []) [p_r r8] mt_State_find rfl rfl tw_4_22 tw_4_23 tw_4_21 ⟨Nat.le_of_ble_eq_true rfl, Nat.le_of_ble_eq_true rfl⟩ rfl (Nat.le_of_ble_eq_true rfl) (dk_SW_byteOf 4 rfl) rfl c3 rfl t6 ?_
  have hs7 : p_x s0 s4 := t6.1
  show p_Go K l m_SW_byteOf 11 [(0, p_r v0), (1, p_i v1), (2, p_i v2)] [p_r r8] s4 _
  refine g_astore_n (i := 3) [(3, p_r r8), (0, p_r v0), (1, p_i v1), (2, p_i v2)] (dk_SW_byteOf 5 rfl) rfl (by decide) rfl ?_
  refine g_aload_n (i := 3) (j := 0) (dk_SW_byteOf 6 rfl) rfl rfl ?_
  refine g_ifnonnull 18 (dk_SW_byteOf 7 rfl) (by decide) (fun b9 => ?_) (fun b9 => ?_)
  · have h := p_ifT b9 h
    refine g_iload_n (i := 2) (j := 3) (dk_SW_byteOf 10 rfl) rfl rfl ?_
    refine g_if_lt 30 (dk_SW_byteOf 11 rfl) (by decide) (fun b10 => ?_) (fun b10 => ?_)
    · have h := p_ifT b10 h
      refine g_sub [] [] rfl ?_
      exact tB_SW_byteOf_30 K l s4 _ h
    · have h := p_ifF b10 h
      refine g_iload_n (i := 2) (j := 3) (dk_SW_byteOf 12 rfl) rfl rfl ?_
      refine g_aload_n (i := 3) (j := 0) (dk_SW_byteOf 13 rfl) rfl rfl ?_
      obtain ⟨c11, h⟩ := p_gdE h
      refine g_getI fl_SW_207 (Or.inl rfl) (dk_SW_byteOf 14 rfl) c11 ?_
      refine g_icmp_lt 35 (dk_SW_byteOf 15 rfl) (by decide) (fun b12 => ?_) (fun b12 => ?_)
      · have h := p_ifT b12 h
        refine g_aload_n (i := 3) (j := 0) (dk_SW_byteOf 18 rfl) rfl rfl ?_
        refine g_getR fl_SW_204 (Or.inr ⟨_, rfl⟩) (dk_SW_byteOf 19 rfl) c11 ?_
        refine g_iload_n (i := 2) (j := 3) (dk_SW_byteOf 20 rfl) rfl rfl ?_
        obtain ⟨c13, h⟩ := p_gdE h
        obtain ⟨c14, h⟩ := p_gdE h
        refine g_iaload (dk_SW_byteOf 21 rfl) c13 c14.1 c14.2 ?_
        cases h
        exact g_ret rfl rfl (dk_SW_byteOf 22 rfl) (fun os => ⟨_, rfl, p_okh os⟩)
      · have h := p_ifF b12 h
        refine g_sub [] [] rfl ?_
        exact tB_SW_byteOf_30 K l s4 _ h
  · have h := p_ifF b9 h
    refine g_iconst (dk_SW_byteOf 8 rfl) (by decide) ?_
    cases h
    exact g_ret rfl rfl (dk_SW_byteOf 9 rfl) (fun os => ⟨_, rfl, p_okh os⟩)
def m_SW_left : p_Me := (⟨"SortWorks", "left", "(I)I"⟩, prog_1_method_41_code, 2, (some .int), 0, 0)
theorem mt_SW_left : p_Mt m_SW_left 1 := ⟨p_mem (p_tb5 (List.mem_of_getElem? (i := 152) rfl)) rfl, tw_1_1, by decide +kernel, by decide +kernel, by decide +kernel⟩
def dt_SW_left : List (Nat × Instr × Nat) := [(0, .iload_n 1, 1), (1, .iconst 1, 1), (2, .if_icmp .lt 14, 3), (5, .iload_n 1, 1), (6, .aload_n 0, 1), (7, .getfield 25, 3), (10, .getfield 194, 3), (13, .if_icmp .le 7, 3), (16, .iconst (-1), 1), (17, .goto 12, 3), (20, .aload_n 0, 1), (21, .getfield 25, 3), (24, .getfield 312, 3), (27, .iload_n 1, 1), (28, .iaload, 1), (29, .ireturn, 1)]
theorem dk_SW_left (i : Nat) {pc : Nat} {ins : Instr} {len : Nat} (h : dt_SW_left[i]? = some (pc, ins, len)) : decode m_SW_left.2.1 pc = .ok (ins, len) := p_dk (b := m_SW_left.2.1) (t := dt_SW_left) (by decide +kernel) i h
def B_SW_left_16   (s0 : p_Hp) : Option (Int × p_Hp) :=
  some ((-1), s0)
def F_SW_left (v0 : Nat) (v1 : Int) (s0 : p_Hp) : Option (Int × p_Hp) :=
  if v1 < 1 then
    B_SW_left_16 s0
  else
    p_gd (p_is s0 v0 10) <|
    p_gd (p_is s0 (p_R s0 v0 2) 3) <|
    if v1 ≤ (p_Z s0 (p_R s0 v0 2) 1) then
      p_gd (p_is s0 (p_R s0 (p_R s0 v0 2) 0) 100) <|
      p_gd ((0 : Int) ≤ v1 ∧ v1 < (p_L s0 (p_R s0 (p_R s0 v0 2) 0) : Int)) <|
      some ((p_Z s0 (p_R s0 (p_R s0 v0 2) 0) (v1 : Int).toNat), s0)
    else
      B_SW_left_16 s0
set_option maxRecDepth 100000 in
set_option maxHeartbeats 4000000 in
theorem tB_SW_left_16 (K : p_K) (l : Launch)   (s0 : p_Hp) (r : (Int × p_Hp)) (h : B_SW_left_16  s0 = some r) : p_Go K l m_SW_left 16 [] [] s0 (some (p_i r.1), r.2) := by
  unfold B_SW_left_16 at h
  refine g_iconst (dk_SW_left 8 rfl) (by decide) ?_
  refine g_goto 29 (dk_SW_left 9 rfl) (by decide) ?_
  cases h
  exact g_ret rfl rfl (dk_SW_left 15 rfl) (fun os => ⟨_, rfl, p_okh os⟩)
set_option maxRecDepth 100000 in
set_option maxHeartbeats 4000000 in
theorem tF_SW_left (K : p_K) (l : Launch) (v0 : Nat) (v1 : Int) (s0 : p_Hp) (r : (Int × p_Hp)) (h : F_SW_left v0 v1 s0 = some r) : p_Ct K l m_SW_left [p_r v0, p_i v1] s0 (some (p_i r.1), r.2) := by
  refine p_Ct.of (by decide +kernel) (Nat.le_of_ble_eq_true rfl) ?_
  unfold F_SW_left at h
  show p_Go K l m_SW_left 0 [(0, p_r v0), (1, p_i v1)] [] s0 _
  refine g_iload_n (i := 1) (j := 1) (dk_SW_left 0 rfl) rfl rfl ?_
  refine g_iconst (dk_SW_left 1 rfl) (by decide) ?_
  refine g_icmp_lt 16 (dk_SW_left 2 rfl) (by decide) (fun b1 => ?_) (fun b1 => ?_)
  · have h := p_ifT b1 h
    refine g_sub [] [] rfl ?_
    exact tB_SW_left_16 K l s0 _ h
  · have h := p_ifF b1 h
    refine g_iload_n (i := 1) (j := 1) (dk_SW_left 3 rfl) rfl rfl ?_
    refine g_aload_n (i := 0) (j := 0) (dk_SW_left 4 rfl) rfl rfl ?_
    obtain ⟨c2, h⟩ := p_gdE h
    refine g_getR fl_SW_25 (Or.inl ⟨_, rfl⟩) (dk_SW_left 5 rfl) c2 ?_
    obtain ⟨c3, h⟩ := p_gdE h
    refine g_getI fl_SW_194 (Or.inl rfl) (dk_SW_left 6 rfl) c3 ?_
    refine g_icmp_le 20 (dk_SW_left 7 rfl) (by decide) (fun b4 => ?_) (fun b4 => ?_)
    · have h := p_ifT b4 h
      refine g_aload_n (i := 0) (j := 0) (dk_SW_left 10 rfl) rfl rfl ?_
      refine g_getR fl_SW_25 (Or.inl ⟨_, rfl⟩) (dk_SW_left 11 rfl) c2 ?_
      refine g_getR fl_SW_312 (Or.inr ⟨_, rfl⟩) (dk_SW_left 12 rfl) c3 ?_
      refine g_iload_n (i := 1) (j := 1) (dk_SW_left 13 rfl) rfl rfl ?_
      obtain ⟨c5, h⟩ := p_gdE h
      obtain ⟨c6, h⟩ := p_gdE h
      refine g_iaload (dk_SW_left 14 rfl) c5 c6.1 c6.2 ?_
      cases h
      exact g_ret rfl rfl (dk_SW_left 15 rfl) (fun os => ⟨_, rfl, p_okh os⟩)
    · have h := p_ifF b4 h
      refine g_sub [] [] rfl ?_
      exact tB_SW_left_16 K l s0 _ h
def m_Log_tell : p_Me := (⟨"SortWorks$Log", "tell", "(II)I"⟩, prog_4_method_3_code, 3, (some .int), 0, 0)
theorem mt_Log_tell : p_Mt m_Log_tell 2 := ⟨p_mem (p_tb5 (List.mem_of_getElem? (i := 160) rfl)) rfl, tw_1_4, by decide +kernel, by decide +kernel, by decide +kernel⟩
def dt_Log_tell : List (Nat × Instr × Nat) := [(0, .iload_n 1, 1), (1, .ifCond .lt 31, 3), (4, .iload_n 1, 1), (5, .aload_n 0, 1), (6, .getfield 9, 3), (9, .if_icmp .ge 23, 3), (12, .iload_n 1, 1), (13, .aload_n 0, 1), (14, .getfield 22, 3), (17, .if_icmp .ge 15, 3), (20, .iload_n 2, 1), (21, .ifCond .lt 11, 3), (24, .iload_n 2, 1), (25, .aload_n 0, 1), (26, .getfield 15, 3), (29, .if_icmp .lt 6, 3), (32, .bipush (-9), 2), (34, .ireturn, 1), (35, .aload_n 0, 1), (36, .getfield 18, 3), (39, .aload_n 0, 1), (40, .getfield 22, 3), (43, .iconst 1, 1), (44, .isub, 1), (45, .iload_n 1, 1), (46, .isub, 1), (47, .aload_n 0, 1), (48, .getfield 9, 3), (51, .irem, 1), (52, .iconst 5, 1), (53, .imul, 1), (54, .iload_n 2, 1), (55, .iadd, 1), (56, .iaload, 1), (57, .ireturn, 1)]
theorem dk_Log_tell (i : Nat) {pc : Nat} {ins : Instr} {len : Nat} (h : dt_Log_tell[i]? = some (pc, ins, len)) : decode m_Log_tell.2.1 pc = .ok (ins, len) := p_dk (b := m_Log_tell.2.1) (t := dt_Log_tell) (by decide +kernel) i h
def F_Log_tell (v0 : Nat) (v1 : Int) (v2 : Int) (s0 : p_Hp) : Option (Int × p_Hp) :=
  if v1 < 0 then
    some ((-9), s0)
  else
    p_gd (p_is s0 v0 2) <|
    if (p_Z s0 v0 0) ≤ v1 then
      some ((-9), s0)
    else
      if (p_Z s0 v0 3) ≤ v1 then
        some ((-9), s0)
      else
        if v2 < 0 then
          some ((-9), s0)
        else
          if v2 < (p_Z s0 v0 1) then
            p_gd ((p_Z s0 v0 0) ≠ 0) <|
            p_gd (p_is s0 (p_R s0 v0 2) 100) <|
            p_gd ((0 : Int) ≤ (p_w ((p_w ((p_rem (p_w ((p_w ((p_Z s0 v0 3) - 1)) - v1)) (p_Z s0 v0 0)) * 5)) + v2)) ∧ (p_w ((p_w ((p_rem (p_w ((p_w ((p_Z s0 v0 3) - 1)) - v1)) (p_Z s0 v0 0)) * 5)) + v2)) < (p_L s0 (p_R s0 v0 2) : Int)) <|
            some ((p_Z s0 (p_R s0 v0 2) ((p_w ((p_w ((p_rem (p_w ((p_w ((p_Z s0 v0 3) - 1)) - v1)) (p_Z s0 v0 0)) * 5)) + v2)) : Int).toNat), s0)
          else
            some ((-9), s0)
set_option maxRecDepth 100000 in
set_option maxHeartbeats 4000000 in
theorem tF_Log_tell (K : p_K) (l : Launch) (v0 : Nat) (v1 : Int) (v2 : Int) (s0 : p_Hp) (r : (Int × p_Hp)) (h : F_Log_tell v0 v1 v2 s0 = some r) : p_Ct K l m_Log_tell [p_r v0, p_i v1, p_i v2] s0 (some (p_i r.1), r.2) := by
  refine p_Ct.of (by decide +kernel) (Nat.le_of_ble_eq_true rfl) ?_
  unfold F_Log_tell at h
  show p_Go K l m_Log_tell 0 [(0, p_r v0), (1, p_i v1), (2, p_i v2)] [] s0 _
  refine g_iload_n (i := 1) (j := 1) (dk_Log_tell 0 rfl) rfl rfl ?_
  refine g_if_lt 32 (dk_Log_tell 1 rfl) (by decide) (fun b1 => ?_) (fun b1 => ?_)
  · have h := p_ifT b1 h
    refine g_bipush (dk_Log_tell 16 rfl) (by decide +kernel) (by decide) ?_
    cases h
    exact g_ret rfl rfl (dk_Log_tell 17 rfl) (fun os => ⟨_, rfl, p_okh os⟩)
  · have h := p_ifF b1 h
    refine g_iload_n (i := 1) (j := 1) (dk_Log_tell 2 rfl) rfl rfl ?_
    refine g_aload_n (i := 0) (j := 0) (dk_Log_tell 3 rfl) rfl rfl ?_
    obtain ⟨c2, h⟩ := p_gdE h
    refine g_getI fl_Log_9 (Or.inl rfl) (dk_Log_tell 4 rfl) c2 ?_
    refine g_icmp_ge 32 (dk_Log_tell 5 rfl) (by decide) (fun b3 => ?_) (fun b3 => ?_)
    · have h := p_ifT b3 h
      refine g_bipush (dk_Log_tell 16 rfl) (by decide +kernel) (by decide) ?_
      cases h
      exact g_ret rfl rfl (dk_Log_tell 17 rfl) (fun os => ⟨_, rfl, p_okh os⟩)
    · have h := p_ifF b3 h
      refine g_iload_n (i := 1) (j := 1) (dk_Log_tell 6 rfl) rfl rfl ?_
      refine g_aload_n (i := 0) (j := 0) (dk_Log_tell 7 rfl) rfl rfl ?_
      refine g_getI fl_Log_22 (Or.inl rfl) (dk_Log_tell 8 rfl) c2 ?_
      refine g_icmp_ge 32 (dk_Log_tell 9 rfl) (by decide) (fun b4 => ?_) (fun b4 => ?_)
      · have h := p_ifT b4 h
        refine g_bipush (dk_Log_tell 16 rfl) (by decide +kernel) (by decide) ?_
        cases h
        exact g_ret rfl rfl (dk_Log_tell 17 rfl) (fun os => ⟨_, rfl, p_okh os⟩)
      · have h := p_ifF b4 h
        refine g_iload_n (i := 2) (j := 2) (dk_Log_tell 10 rfl) rfl rfl ?_
        refine g_if_lt 32 (dk_Log_tell 11 rfl) (by decide) (fun b5 => ?_) (fun b5 => ?_)
        · have h := p_ifT b5 h
          refine g_bipush (dk_Log_tell 16 rfl) (by decide +kernel) (by decide) ?_
          cases h
          exact g_ret rfl rfl (dk_Log_tell 17 rfl) (fun os => ⟨_, rfl, p_okh os⟩)
        · have h := p_ifF b5 h
          refine g_iload_n (i := 2) (j := 2) (dk_Log_tell 12 rfl) rfl rfl ?_
          refine g_aload_n (i := 0) (j := 0) (dk_Log_tell 13 rfl) rfl rfl ?_
          refine g_getI fl_Log_15 (Or.inl rfl) (dk_Log_tell 14 rfl) c2 ?_
          refine g_icmp_lt 35 (dk_Log_tell 15 rfl) (by decide) (fun b6 => ?_) (fun b6 => ?_)
          · have h := p_ifT b6 h
            refine g_aload_n (i := 0) (j := 0) (dk_Log_tell 18 rfl) rfl rfl ?_
            refine g_getR fl_Log_18 (Or.inr ⟨_, rfl⟩) (dk_Log_tell 19 rfl) c2 ?_
            refine g_aload_n (i := 0) (j := 0) (dk_Log_tell 20 rfl) rfl rfl ?_
            refine g_getI fl_Log_22 (Or.inl rfl) (dk_Log_tell 21 rfl) c2 ?_
            refine g_iconst (dk_Log_tell 22 rfl) (by decide) ?_
            refine g_isub (dk_Log_tell 23 rfl) ?_
            refine g_iload_n (i := 1) (j := 1) (dk_Log_tell 24 rfl) rfl rfl ?_
            refine g_isub (dk_Log_tell 25 rfl) ?_
            refine g_aload_n (i := 0) (j := 0) (dk_Log_tell 26 rfl) rfl rfl ?_
            refine g_getI fl_Log_9 (Or.inl rfl) (dk_Log_tell 27 rfl) c2 ?_
            obtain ⟨c7, h⟩ := p_gdE h
            refine g_irem (dk_Log_tell 28 rfl) c7 ?_
            refine g_iconst (dk_Log_tell 29 rfl) (by decide) ?_
            refine g_imul (dk_Log_tell 30 rfl) ?_
            refine g_iload_n (i := 2) (j := 2) (dk_Log_tell 31 rfl) rfl rfl ?_
            refine g_iadd (dk_Log_tell 32 rfl) ?_
            obtain ⟨c8, h⟩ := p_gdE h
            obtain ⟨c9, h⟩ := p_gdE h
            refine g_iaload (dk_Log_tell 33 rfl) c8 c9.1 c9.2 ?_
            cases h
            exact g_ret rfl rfl (dk_Log_tell 34 rfl) (fun os => ⟨_, rfl, p_okh os⟩)
          · have h := p_ifF b6 h
            refine g_bipush (dk_Log_tell 16 rfl) (by decide +kernel) (by decide) ?_
            cases h
            exact g_ret rfl rfl (dk_Log_tell 17 rfl) (fun os => ⟨_, rfl, p_okh os⟩)
def m_SW_out : p_Me := (⟨"SortWorks", "out", "(II)I"⟩, prog_1_method_42_code, 3, (some .int), 1, 22)
theorem mt_SW_out : p_Mt m_SW_out 2 := ⟨p_mem (p_tb5 (List.mem_of_getElem? (i := 156) rfl)) rfl, tw_1_1, by decide +kernel, by decide +kernel, by decide +kernel⟩
def dt_SW_out : List (Nat × Instr × Nat) := [(0, .aload_n 0, 1), (1, .getfield 18, 3), (4, .getfield 77, 3), (7, .getfield 315, 3), (10, .iload_n 1, 1), (11, .iload_n 2, 1), (12, .invokevirtual 319, 3), (15, .ireturn, 1)]
theorem dk_SW_out (i : Nat) {pc : Nat} {ins : Instr} {len : Nat} (h : dt_SW_out[i]? = some (pc, ins, len)) : decode m_SW_out.2.1 pc = .ok (ins, len) := p_dk (b := m_SW_out.2.1) (t := dt_SW_out) (by decide +kernel) i h
def F_SW_out (v0 : Nat) (v1 : Int) (v2 : Int) (s0 : p_Hp) : Option (Int × p_Hp) :=
  p_gd (p_is s0 v0 10) <|
  p_gd (p_is s0 (p_R s0 v0 1) 9) <|
  p_gd (p_is s0 (p_R s0 (p_R s0 v0 1) 1) 7) <|
  p_gd (p_is s0 (p_R s0 (p_R s0 (p_R s0 v0 1) 1) 8) 2) <|
  p_bd (F_Log_tell (p_R s0 (p_R s0 (p_R s0 v0 1) 1) 8) v1 v2 s0) fun r9 s5 =>
  some (r9, s5)
set_option maxRecDepth 100000 in
set_option maxHeartbeats 4000000 in
theorem tF_SW_out (K : p_K) (l : Launch) (v0 : Nat) (v1 : Int) (v2 : Int) (s0 : p_Hp) (r : (Int × p_Hp)) (h : F_SW_out v0 v1 v2 s0 = some r) : p_Ct K l m_SW_out [p_r v0, p_i v1, p_i v2] s0 (some (p_i r.1), r.2) := by
  refine p_Ct.of (by decide +kernel) (Nat.le_of_ble_eq_true rfl) ?_
  unfold F_SW_out at h
  show p_Go K l m_SW_out 0 [(0, p_r v0), (1, p_i v1), (2, p_i v2)] [] s0 _
  refine g_aload_n (i := 0) (j := 0) (dk_SW_out 0 rfl) rfl rfl ?_
  obtain ⟨c1, h⟩ := p_gdE h
  refine g_getR fl_SW_18 (Or.inl ⟨_, rfl⟩) (dk_SW_out 1 rfl) c1 ?_
  obtain ⟨c2, h⟩ := p_gdE h
  refine g_getR fl_SW_77 (Or.inl ⟨_, rfl⟩) (dk_SW_out 2 rfl) c2 ?_
  obtain ⟨c3, h⟩ := p_gdE h
  refine g_getR fl_SW_315 (Or.inl ⟨_, rfl⟩) (dk_SW_out 3 rfl) c3 ?_
  refine g_iload_n (i := 1) (j := 1) (dk_SW_out 4 rfl) rfl rfl ?_
  refine g_iload_n (i := 2) (j := 2) (dk_SW_out 5 rfl) rfl rfl ?_
  obtain ⟨c4, h⟩ := p_gdE h
  obtain ⟨r9, s5, q6, h⟩ := p_bdE h
  have t7 := tF_Log_tell K l (p_R s0 (p_R s0 (p_R s0 v0 1) 1) 8) v1 v2 s0 _ q6
  refine g_callV (a := (p_R s0 (p_R s0 (p_R s0 v0 1) 1) 8)) (ci := 2) (q0 := (RX2, TX2, 4)) (As := [p_i v1, p_i v2]) (rest := []) [p_i r9] mt_Log_tell rfl rfl tw_5_158 tw_5_159 tw_5_157 ⟨Nat.le_of_ble_eq_true rfl, Nat.le_of_ble_eq_true rfl⟩ rfl (Nat.le_of_ble_eq_true rfl) (dk_SW_out 6 rfl) rfl c4 rfl t7 ?_
  have hs8 : p_x s0 s5 := t7.1
  show p_Go K l m_SW_out 15 [(0, p_r v0), (1, p_i v1), (2, p_i v2)] [p_i r9] s5 _
  cases h
  exact g_ret rfl rfl (dk_SW_out 7 rfl) (fun os => ⟨_, rfl, p_okh os⟩)
def m_SW_rule : p_Me := (⟨"SortWorks", "rule", "(II)I"⟩, prog_1_method_43_code, 3, (some .int), 0, 0)
theorem mt_SW_rule : p_Mt m_SW_rule 2 := ⟨p_mem (p_tb5 (List.mem_of_getElem? (i := 164) rfl)) rfl, tw_1_1, by decide +kernel, by decide +kernel, by decide +kernel⟩
def dt_SW_rule : List (Nat × Instr × Nat) := [(0, .iload_n 1, 1), (1, .ifCond .lt 17, 3), (4, .iload_n 1, 1), (5, .aload_n 0, 1), (6, .getfield 18, 3), (9, .getfield 158, 3), (12, .getfield 159, 3), (15, .if_icmp .lt 6, 3), (18, .bipush (-9), 2), (20, .ireturn, 1), (21, .iload_n 2, 1), (22, .tableswitch 65 0 2 #[26, 39, 52], 26), (48, .aload_n 0, 1), (49, .getfield 18, 3), (52, .getfield 158, 3), (55, .getfield 324, 3), (58, .iload_n 1, 1), (59, .iaload, 1), (60, .ireturn, 1), (61, .aload_n 0, 1), (62, .getfield 18, 3), (65, .getfield 158, 3), (68, .getfield 327, 3), (71, .iload_n 1, 1), (72, .iaload, 1), (73, .ireturn, 1), (74, .aload_n 0, 1), (75, .getfield 18, 3), (78, .getfield 77, 3), (81, .getfield 330, 3), (84, .iload_n 1, 1), (85, .iaload, 1), (86, .ireturn, 1), (87, .bipush (-9), 2), (89, .ireturn, 1)]
theorem dk_SW_rule (i : Nat) {pc : Nat} {ins : Instr} {len : Nat} (h : dt_SW_rule[i]? = some (pc, ins, len)) : decode m_SW_rule.2.1 pc = .ok (ins, len) := p_dk (b := m_SW_rule.2.1) (t := dt_SW_rule) (by decide +kernel) i h
def F_SW_rule (v0 : Nat) (v1 : Int) (v2 : Int) (s0 : p_Hp) : Option (Int × p_Hp) :=
  if v1 < 0 then
    some ((-9), s0)
  else
    p_gd (p_is s0 v0 10) <|
    p_gd (p_is s0 (p_R s0 v0 1) 9) <|
    p_gd (p_is s0 (p_R s0 (p_R s0 v0 1) 3) 6) <|
    if v1 < (p_Z s0 (p_R s0 (p_R s0 v0 1) 3) 0) then
      if v2 = 0 then
        p_gd (p_is s0 (p_R s0 (p_R s0 (p_R s0 v0 1) 3) 1) 100) <|
        p_gd ((0 : Int) ≤ v1 ∧ v1 < (p_L s0 (p_R s0 (p_R s0 (p_R s0 v0 1) 3) 1) : Int)) <|
        some ((p_Z s0 (p_R s0 (p_R s0 (p_R s0 v0 1) 3) 1) (v1 : Int).toNat), s0)
      else if v2 = 1 then
        p_gd (p_is s0 (p_R s0 (p_R s0 (p_R s0 v0 1) 3) 2) 100) <|
        p_gd ((0 : Int) ≤ v1 ∧ v1 < (p_L s0 (p_R s0 (p_R s0 (p_R s0 v0 1) 3) 2) : Int)) <|
        some ((p_Z s0 (p_R s0 (p_R s0 (p_R s0 v0 1) 3) 2) (v1 : Int).toNat), s0)
      else if v2 = 2 then
        p_gd (p_is s0 (p_R s0 (p_R s0 v0 1) 1) 7) <|
        p_gd (p_is s0 (p_R s0 (p_R s0 (p_R s0 v0 1) 1) 6) 100) <|
        p_gd ((0 : Int) ≤ v1 ∧ v1 < (p_L s0 (p_R s0 (p_R s0 (p_R s0 v0 1) 1) 6) : Int)) <|
        some ((p_Z s0 (p_R s0 (p_R s0 (p_R s0 v0 1) 1) 6) (v1 : Int).toNat), s0)
      else 
      some ((-9), s0)
    else
      some ((-9), s0)
set_option maxRecDepth 100000 in
set_option maxHeartbeats 4000000 in
theorem tF_SW_rule (K : p_K) (l : Launch) (v0 : Nat) (v1 : Int) (v2 : Int) (s0 : p_Hp) (r : (Int × p_Hp)) (h : F_SW_rule v0 v1 v2 s0 = some r) : p_Ct K l m_SW_rule [p_r v0, p_i v1, p_i v2] s0 (some (p_i r.1), r.2) := by
  refine p_Ct.of (by decide +kernel) (Nat.le_of_ble_eq_true rfl) ?_
  unfold F_SW_rule at h
  show p_Go K l m_SW_rule 0 [(0, p_r v0), (1, p_i v1), (2, p_i v2)] [] s0 _
  refine g_iload_n (i := 1) (j := 1) (dk_SW_rule 0 rfl) rfl rfl ?_
  refine g_if_lt 18 (dk_SW_rule 1 rfl) (by decide) (fun b1 => ?_) (fun b1 => ?_)
  · have h := p_ifT b1 h
    refine g_bipush (dk_SW_rule 8 rfl) (by decide +kernel) (by decide) ?_
    cases h
    exact g_ret rfl rfl (dk_SW_rule 9 rfl) (fun os => ⟨_, rfl, p_okh os⟩)
  · have h := p_ifF b1 h
    refine g_iload_n (i := 1) (j := 1) (dk_SW_rule 2 rfl) rfl rfl ?_
    refine g_aload_n (i := 0) (j := 0) (dk_SW_rule 3 rfl) rfl rfl ?_
    obtain ⟨c2, h⟩ := p_gdE h
    refine g_getR fl_SW_18 (Or.inl ⟨_, rfl⟩) (dk_SW_rule 4 rfl) c2 ?_
    obtain ⟨c3, h⟩ := p_gdE h
    refine g_getR fl_SW_158 (Or.inl ⟨_, rfl⟩) (dk_SW_rule 5 rfl) c3 ?_
    obtain ⟨c4, h⟩ := p_gdE h
    refine g_getI fl_SW_159 (Or.inl rfl) (dk_SW_rule 6 rfl) c4 ?_
    refine g_icmp_lt 21 (dk_SW_rule 7 rfl) (by decide) (fun b5 => ?_) (fun b5 => ?_)
    · have h := p_ifT b5 h
      refine g_iload_n (i := 2) (j := 2) (dk_SW_rule 10 rfl) rfl rfl ?_
      rcases p_iteE h with ⟨b6, h⟩ | ⟨b6, h⟩
      · refine g_tableIn 48 (dk_SW_rule 11 rfl) (by omega) (by omega) (by rw [b6]; rfl) (by decide) ?_
        refine g_aload_n (i := 0) (j := 0) (dk_SW_rule 12 rfl) rfl rfl ?_
        refine g_getR fl_SW_18 (Or.inl ⟨_, rfl⟩) (dk_SW_rule 13 rfl) c2 ?_
        refine g_getR fl_SW_158 (Or.inl ⟨_, rfl⟩) (dk_SW_rule 14 rfl) c3 ?_
        refine g_getR fl_SW_324 (Or.inr ⟨_, rfl⟩) (dk_SW_rule 15 rfl) c4 ?_
        refine g_iload_n (i := 1) (j := 1) (dk_SW_rule 16 rfl) rfl rfl ?_
        obtain ⟨c7, h⟩ := p_gdE h
        obtain ⟨c8, h⟩ := p_gdE h
        refine g_iaload (dk_SW_rule 17 rfl) c7 c8.1 c8.2 ?_
        cases h
        exact g_ret rfl rfl (dk_SW_rule 18 rfl) (fun os => ⟨_, rfl, p_okh os⟩)
      rcases p_iteE h with ⟨b9, h⟩ | ⟨b9, h⟩
      · refine g_tableIn 61 (dk_SW_rule 11 rfl) (by omega) (by omega) (by rw [b9]; rfl) (by decide) ?_
        refine g_aload_n (i := 0) (j := 0) (dk_SW_rule 19 rfl) rfl rfl ?_
        refine g_getR fl_SW_18 (Or.inl ⟨_, rfl⟩) (dk_SW_rule 20 rfl) c2 ?_
        refine g_getR fl_SW_158 (Or.inl ⟨_, rfl⟩) (dk_SW_rule 21 rfl) c3 ?_
        refine g_getR fl_SW_327 (Or.inr ⟨_, rfl⟩) (dk_SW_rule 22 rfl) c4 ?_
        refine g_iload_n (i := 1) (j := 1) (dk_SW_rule 23 rfl) rfl rfl ?_
        obtain ⟨c10, h⟩ := p_gdE h
        obtain ⟨c11, h⟩ := p_gdE h
        refine g_iaload (dk_SW_rule 24 rfl) c10 c11.1 c11.2 ?_
        cases h
        exact g_ret rfl rfl (dk_SW_rule 25 rfl) (fun os => ⟨_, rfl, p_okh os⟩)
      rcases p_iteE h with ⟨b12, h⟩ | ⟨b12, h⟩
      · refine g_tableIn 74 (dk_SW_rule 11 rfl) (by omega) (by omega) (by rw [b12]; rfl) (by decide) ?_
        refine g_aload_n (i := 0) (j := 0) (dk_SW_rule 26 rfl) rfl rfl ?_
        refine g_getR fl_SW_18 (Or.inl ⟨_, rfl⟩) (dk_SW_rule 27 rfl) c2 ?_
        refine g_getR fl_SW_77 (Or.inl ⟨_, rfl⟩) (dk_SW_rule 28 rfl) c3 ?_
        obtain ⟨c13, h⟩ := p_gdE h
        refine g_getR fl_SW_330 (Or.inr ⟨_, rfl⟩) (dk_SW_rule 29 rfl) c13 ?_
        refine g_iload_n (i := 1) (j := 1) (dk_SW_rule 30 rfl) rfl rfl ?_
        obtain ⟨c14, h⟩ := p_gdE h
        obtain ⟨c15, h⟩ := p_gdE h
        refine g_iaload (dk_SW_rule 31 rfl) c14 c15.1 c15.2 ?_
        cases h
        exact g_ret rfl rfl (dk_SW_rule 32 rfl) (fun os => ⟨_, rfl, p_okh os⟩)
      refine g_tableOut 87 (dk_SW_rule 11 rfl) (by omega) (by decide) ?_
      refine g_bipush (dk_SW_rule 33 rfl) (by decide +kernel) (by decide) ?_
      cases h
      exact g_ret rfl rfl (dk_SW_rule 34 rfl) (fun os => ⟨_, rfl, p_okh os⟩)
    · have h := p_ifF b5 h
      refine g_bipush (dk_SW_rule 8 rfl) (by decide +kernel) (by decide) ?_
      cases h
      exact g_ret rfl rfl (dk_SW_rule 9 rfl) (fun os => ⟨_, rfl, p_okh os⟩)
def m_SW_said : p_Me := (⟨"SortWorks", "said", "(I)I"⟩, prog_1_method_44_code, 2, (some .int), 0, 0)
theorem mt_SW_said : p_Mt m_SW_said 1 := ⟨p_mem (p_tb5 (List.mem_of_getElem? (i := 168) rfl)) rfl, tw_1_1, by decide +kernel, by decide +kernel, by decide +kernel⟩
def dt_SW_said : List (Nat × Instr × Nat) := [(0, .iload_n 1, 1), (1, .ifCond .lt 17, 3), (4, .iload_n 1, 1), (5, .aload_n 0, 1), (6, .getfield 18, 3), (9, .getfield 158, 3), (12, .getfield 333, 3), (15, .if_icmp .lt 8, 3), (18, .bipush (-9), 2), (20, .goto 15, 3), (23, .aload_n 0, 1), (24, .getfield 18, 3), (27, .getfield 158, 3), (30, .getfield 336, 3), (33, .iload_n 1, 1), (34, .iaload, 1), (35, .ireturn, 1)]
theorem dk_SW_said (i : Nat) {pc : Nat} {ins : Instr} {len : Nat} (h : dt_SW_said[i]? = some (pc, ins, len)) : decode m_SW_said.2.1 pc = .ok (ins, len) := p_dk (b := m_SW_said.2.1) (t := dt_SW_said) (by decide +kernel) i h
def B_SW_said_18   (s0 : p_Hp) : Option (Int × p_Hp) :=
  some ((-9), s0)
def F_SW_said (v0 : Nat) (v1 : Int) (s0 : p_Hp) : Option (Int × p_Hp) :=
  if v1 < 0 then
    B_SW_said_18 s0
  else
    p_gd (p_is s0 v0 10) <|
    p_gd (p_is s0 (p_R s0 v0 1) 9) <|
    p_gd (p_is s0 (p_R s0 (p_R s0 v0 1) 3) 6) <|
    if v1 < (p_Z s0 (p_R s0 (p_R s0 v0 1) 3) 8) then
      p_gd (p_is s0 (p_R s0 (p_R s0 (p_R s0 v0 1) 3) 7) 100) <|
      p_gd ((0 : Int) ≤ v1 ∧ v1 < (p_L s0 (p_R s0 (p_R s0 (p_R s0 v0 1) 3) 7) : Int)) <|
      some ((p_Z s0 (p_R s0 (p_R s0 (p_R s0 v0 1) 3) 7) (v1 : Int).toNat), s0)
    else
      B_SW_said_18 s0
set_option maxRecDepth 100000 in
set_option maxHeartbeats 4000000 in
theorem tB_SW_said_18 (K : p_K) (l : Launch)   (s0 : p_Hp) (r : (Int × p_Hp)) (h : B_SW_said_18  s0 = some r) : p_Go K l m_SW_said 18 [] [] s0 (some (p_i r.1), r.2) := by
  unfold B_SW_said_18 at h
  refine g_bipush (dk_SW_said 8 rfl) (by decide +kernel) (by decide) ?_
  refine g_goto 35 (dk_SW_said 9 rfl) (by decide) ?_
  cases h
  exact g_ret rfl rfl (dk_SW_said 16 rfl) (fun os => ⟨_, rfl, p_okh os⟩)
set_option maxRecDepth 100000 in
set_option maxHeartbeats 4000000 in
theorem tF_SW_said (K : p_K) (l : Launch) (v0 : Nat) (v1 : Int) (s0 : p_Hp) (r : (Int × p_Hp)) (h : F_SW_said v0 v1 s0 = some r) : p_Ct K l m_SW_said [p_r v0, p_i v1] s0 (some (p_i r.1), r.2) := by
  refine p_Ct.of (by decide +kernel) (Nat.le_of_ble_eq_true rfl) ?_
  unfold F_SW_said at h
  show p_Go K l m_SW_said 0 [(0, p_r v0), (1, p_i v1)] [] s0 _
  refine g_iload_n (i := 1) (j := 1) (dk_SW_said 0 rfl) rfl rfl ?_
  refine g_if_lt 18 (dk_SW_said 1 rfl) (by decide) (fun b1 => ?_) (fun b1 => ?_)
  · have h := p_ifT b1 h
    refine g_sub [] [] rfl ?_
    exact tB_SW_said_18 K l s0 _ h
  · have h := p_ifF b1 h
    refine g_iload_n (i := 1) (j := 1) (dk_SW_said 2 rfl) rfl rfl ?_
    refine g_aload_n (i := 0) (j := 0) (dk_SW_said 3 rfl) rfl rfl ?_
    obtain ⟨c2, h⟩ := p_gdE h
    refine g_getR fl_SW_18 (Or.inl ⟨_, rfl⟩) (dk_SW_said 4 rfl) c2 ?_
    obtain ⟨c3, h⟩ := p_gdE h
    refine g_getR fl_SW_158 (Or.inl ⟨_, rfl⟩) (dk_SW_said 5 rfl) c3 ?_
    obtain ⟨c4, h⟩ := p_gdE h
    refine g_getI fl_SW_333 (Or.inl rfl) (dk_SW_said 6 rfl) c4 ?_
    refine g_icmp_lt 23 (dk_SW_said 7 rfl) (by decide) (fun b5 => ?_) (fun b5 => ?_)
    · have h := p_ifT b5 h
      refine g_aload_n (i := 0) (j := 0) (dk_SW_said 10 rfl) rfl rfl ?_
      refine g_getR fl_SW_18 (Or.inl ⟨_, rfl⟩) (dk_SW_said 11 rfl) c2 ?_
      refine g_getR fl_SW_158 (Or.inl ⟨_, rfl⟩) (dk_SW_said 12 rfl) c3 ?_
      refine g_getR fl_SW_336 (Or.inr ⟨_, rfl⟩) (dk_SW_said 13 rfl) c4 ?_
      refine g_iload_n (i := 1) (j := 1) (dk_SW_said 14 rfl) rfl rfl ?_
      obtain ⟨c6, h⟩ := p_gdE h
      obtain ⟨c7, h⟩ := p_gdE h
      refine g_iaload (dk_SW_said 15 rfl) c6 c7.1 c7.2 ?_
      cases h
      exact g_ret rfl rfl (dk_SW_said 16 rfl) (fun os => ⟨_, rfl, p_okh os⟩)
    · have h := p_ifF b5 h
      refine g_sub [] [] rfl ?_
      exact tB_SW_said_18 K l s0 _ h
def m_SW_unused : p_Me := (⟨"SortWorks", "unused", "(I)I"⟩, prog_1_method_45_code, 4, (some .int), 0, 0)
theorem mt_SW_unused : p_Mt m_SW_unused 1 := ⟨p_mem (p_tb5 (List.mem_of_getElem? (i := 172) rfl)) rfl, tw_1_1, by decide +kernel, by decide +kernel, by decide +kernel⟩
def dt_SW_unused : List (Nat × Instr × Nat) := [(0, .iconst 0, 1), (1, .istore_n 2, 1), (2, .iconst 0, 1), (3, .istore_n 3, 1), (4, .iload_n 3, 1), (5, .aload_n 0, 1), (6, .getfield 18, 3), (9, .getfield 158, 3), (12, .getfield 159, 3), (15, .if_icmp .ge 34, 3), (18, .aload_n 0, 1), (19, .getfield 18, 3), (22, .getfield 77, 3), (25, .getfield 330, 3), (28, .iload_n 3, 1), (29, .iaload, 1), (30, .ifCond .ne 13, 3), (33, .iload_n 2, 1), (34, .iload_n 1, 1), (35, .if_icmp .ne 5, 3), (38, .iload_n 3, 1), (39, .ireturn, 1), (40, .iinc 2 1, 3), (43, .iinc 3 1, 3), (46, .goto (-42), 3), (49, .bipush (-9), 2), (51, .ireturn, 1)]
theorem dk_SW_unused (i : Nat) {pc : Nat} {ins : Instr} {len : Nat} (h : dt_SW_unused[i]? = some (pc, ins, len)) : decode m_SW_unused.2.1 pc = .ok (ins, len) := p_dk (b := m_SW_unused.2.1) (t := dt_SW_unused) (by decide +kernel) i h
def B_SW_unused_43 (k4 : Nat → Int → Int → Int → p_Hp → Option (Int × p_Hp)) (v0 : Nat) (v1 : Int) (v2 : Int) (v3 : Int) (s0 : p_Hp) : Option (Int × p_Hp) :=
  p_bi (p_w (v3 + 1)) fun x1 =>
  k4 v0 v1 v2 x1 s0
def L_SW_unused_4 (k4 : Nat → Int → Int → Int → p_Hp → Option (Int × p_Hp)) (v0 : Nat) (v1 : Int) (v2 : Int) (v3 : Int) (s0 : p_Hp) : Option (Int × p_Hp) :=
  p_gd (p_is s0 v0 10) <|
  p_gd (p_is s0 (p_R s0 v0 1) 9) <|
  p_gd (p_is s0 (p_R s0 (p_R s0 v0 1) 3) 6) <|
  if (p_Z s0 (p_R s0 (p_R s0 v0 1) 3) 0) ≤ v3 then
    some ((-9), s0)
  else
    p_gd (p_is s0 (p_R s0 (p_R s0 v0 1) 1) 7) <|
    p_gd (p_is s0 (p_R s0 (p_R s0 (p_R s0 v0 1) 1) 6) 100) <|
    p_gd ((0 : Int) ≤ v3 ∧ v3 < (p_L s0 (p_R s0 (p_R s0 (p_R s0 v0 1) 1) 6) : Int)) <|
    if (p_Z s0 (p_R s0 (p_R s0 (p_R s0 v0 1) 1) 6) (v3 : Int).toNat) ≠ 0 then
      B_SW_unused_43 k4 v0 v1 v2 v3 s0
    else
      if v2 ≠ v1 then
        p_bi (p_w (v2 + 1)) fun x10 =>
        B_SW_unused_43 k4 v0 v1 x10 v3 s0
      else
        some (v3, s0)
def O_SW_unused_4  : Nat → Nat → Int → Int → Int → p_Hp → Option (Int × p_Hp)
  | 0 => fun _ _ _ _ _ => none
  | n + 1 => L_SW_unused_4 (O_SW_unused_4 n)
def F_SW_unused (v0 : Nat) (v1 : Int) (s0 : p_Hp) : Option (Int × p_Hp) :=
  O_SW_unused_4 3000 v0 v1 0 0 s0
set_option maxRecDepth 100000 in
set_option maxHeartbeats 4000000 in
theorem tB_SW_unused_43 (K : p_K) (l : Launch) (k4 : Nat → Int → Int → Int → p_Hp → Option (Int × p_Hp)) (hk4 : ∀ (v0 : Nat) (v1 : Int) (v2 : Int) (v3 : Int)  (s0 : p_Hp) (r : (Int × p_Hp)), k4 v0 v1 v2 v3 s0 = some r → p_Go K l m_SW_unused 4 [(0, p_r v0), (1, p_i v1), (2, p_i v2), (3, p_i v3)] [] s0 (some (p_i r.1), r.2)) (v0 : Nat) (v1 : Int) (v2 : Int) (v3 : Int) (s0 : p_Hp) (r : (Int × p_Hp)) (h : B_SW_unused_43 k4 v0 v1 v2 v3 s0 = some r) : p_Go K l m_SW_unused 43 [(0, p_r v0), (1, p_i v1), (2, p_i v2), (3, p_i v3)] [] s0 (some (p_i r.1), r.2) := by
  unfold B_SW_unused_43 at h
  refine g_iinc (j := 3) [(3, p_i (p_w (v3 + 1))), (0, p_r v0), (1, p_i v1), (2, p_i v2)] (dk_SW_unused 23 rfl) rfl (by decide) rfl ?_
  refine p_ltG (P := fun q => p_Go K l m_SW_unused 46 [(3, p_i q), (0, p_r v0), (1, p_i v1), (2, p_i v2)] [] s0 _) ?_ h
  intro x1 h
  refine g_goto 4 (dk_SW_unused 24 rfl) (by decide) ?_
  refine g_sub [(0, p_r v0), (1, p_i v1), (2, p_i v2), (3, p_i x1)] [1, 2, 3, 0] rfl ?_
  exact hk4 v0 v1 v2 x1 s0 _ h
set_option maxRecDepth 100000 in
set_option maxHeartbeats 4000000 in
theorem tL_SW_unused_4 (K : p_K) (l : Launch) (k4 : Nat → Int → Int → Int → p_Hp → Option (Int × p_Hp)) (hk4 : ∀ (v0 : Nat) (v1 : Int) (v2 : Int) (v3 : Int)  (s0 : p_Hp) (r : (Int × p_Hp)), k4 v0 v1 v2 v3 s0 = some r → p_Go K l m_SW_unused 4 [(0, p_r v0), (1, p_i v1), (2, p_i v2), (3, p_i v3)] [] s0 (some (p_i r.1), r.2)) (v0 : Nat) (v1 : Int) (v2 : Int) (v3 : Int) (s0 : p_Hp) (r : (Int × p_Hp)) (h : L_SW_unused_4 k4 v0 v1 v2 v3 s0 = some r) : p_Go K l m_SW_unused 4 [(0, p_r v0), (1, p_i v1), (2, p_i v2), (3, p_i v3)] [] s0 (some (p_i r.1), r.2) := by
  unfold L_SW_unused_4 at h
  refine g_iload_n (i := 3) (j := 3) (dk_SW_unused 4 rfl) rfl rfl ?_
  refine g_aload_n (i := 0) (j := 0) (dk_SW_unused 5 rfl) rfl rfl ?_
  obtain ⟨c1, h⟩ := p_gdE h
  refine g_getR fl_SW_18 (Or.inl ⟨_, rfl⟩) (dk_SW_unused 6 rfl) c1 ?_
  obtain ⟨c2, h⟩ := p_gdE h
  refine g_getR fl_SW_158 (Or.inl ⟨_, rfl⟩) (dk_SW_unused 7 rfl) c2 ?_
  obtain ⟨c3, h⟩ := p_gdE h
  refine g_getI fl_SW_159 (Or.inl rfl) (dk_SW_unused 8 rfl) c3 ?_
  refine g_icmp_ge 49 (dk_SW_unused 9 rfl) (by decide) (fun b4 => ?_) (fun b4 => ?_)
  · have h := p_ifT b4 h
    refine g_bipush (dk_SW_unused 25 rfl) (by decide +kernel) (by decide) ?_
    cases h
    exact g_ret rfl rfl (dk_SW_unused 26 rfl) (fun os => ⟨_, rfl, p_okh os⟩)
  · have h := p_ifF b4 h
    refine g_aload_n (i := 0) (j := 0) (dk_SW_unused 10 rfl) rfl rfl ?_
    refine g_getR fl_SW_18 (Or.inl ⟨_, rfl⟩) (dk_SW_unused 11 rfl) c1 ?_
    refine g_getR fl_SW_77 (Or.inl ⟨_, rfl⟩) (dk_SW_unused 12 rfl) c2 ?_
    obtain ⟨c5, h⟩ := p_gdE h
    refine g_getR fl_SW_330 (Or.inr ⟨_, rfl⟩) (dk_SW_unused 13 rfl) c5 ?_
    refine g_iload_n (i := 3) (j := 3) (dk_SW_unused 14 rfl) rfl rfl ?_
    obtain ⟨c6, h⟩ := p_gdE h
    obtain ⟨c7, h⟩ := p_gdE h
    refine g_iaload (dk_SW_unused 15 rfl) c6 c7.1 c7.2 ?_
    refine g_if_ne 43 (dk_SW_unused 16 rfl) (by decide) (fun b8 => ?_) (fun b8 => ?_)
    · have h := p_ifT b8 h
      exact tB_SW_unused_43 K l k4 hk4 v0 v1 v2 v3 s0 _ h
    · have h := p_ifF b8 h
      refine g_iload_n (i := 2) (j := 2) (dk_SW_unused 17 rfl) rfl rfl ?_
      refine g_iload_n (i := 1) (j := 1) (dk_SW_unused 18 rfl) rfl rfl ?_
      refine g_icmp_ne 40 (dk_SW_unused 19 rfl) (by decide) (fun b9 => ?_) (fun b9 => ?_)
      · have h := p_ifT b9 h
        refine g_iinc (j := 2) [(2, p_i (p_w (v2 + 1))), (0, p_r v0), (1, p_i v1), (3, p_i v3)] (dk_SW_unused 22 rfl) rfl (by decide) rfl ?_
        refine p_ltG (P := fun q => p_Go K l m_SW_unused 43 [(2, p_i q), (0, p_r v0), (1, p_i v1), (3, p_i v3)] [] s0 _) ?_ h
        intro x10 h
        refine g_sub [(0, p_r v0), (1, p_i v1), (2, p_i x10), (3, p_i v3)] [1, 2, 0, 3] rfl ?_
        exact tB_SW_unused_43 K l k4 hk4 v0 v1 x10 v3 s0 _ h
      · have h := p_ifF b9 h
        refine g_iload_n (i := 3) (j := 3) (dk_SW_unused 20 rfl) rfl rfl ?_
        cases h
        exact g_ret rfl rfl (dk_SW_unused 21 rfl) (fun os => ⟨_, rfl, p_okh os⟩)
set_option maxRecDepth 100000 in
set_option maxHeartbeats 4000000 in
theorem tO_SW_unused_4 (K : p_K) (l : Launch)  : ∀ (n : Nat) (v0 : Nat) (v1 : Int) (v2 : Int) (v3 : Int) (s0 : p_Hp) (r : (Int × p_Hp)), O_SW_unused_4 n v0 v1 v2 v3 s0 = some r → p_Go K l m_SW_unused 4 [(0, p_r v0), (1, p_i v1), (2, p_i v2), (3, p_i v3)] [] s0 (some (p_i r.1), r.2) := by
  intro n
  induction n with
  | zero => intro v0 v1 v2 v3 s0 r h; cases (show (none : Option (Int × p_Hp)) = some r from h)
  | succ n ih => intro v0 v1 v2 v3 s0 r h; exact tL_SW_unused_4 K l _ ih v0 v1 v2 v3 s0 r h
set_option maxRecDepth 100000 in
set_option maxHeartbeats 4000000 in
theorem tF_SW_unused (K : p_K) (l : Launch) (v0 : Nat) (v1 : Int) (s0 : p_Hp) (r : (Int × p_Hp)) (h : F_SW_unused v0 v1 s0 = some r) : p_Ct K l m_SW_unused [p_r v0, p_i v1] s0 (some (p_i r.1), r.2) := by
  refine p_Ct.of (by decide +kernel) (Nat.le_of_ble_eq_true rfl) ?_
  unfold F_SW_unused at h
  show p_Go K l m_SW_unused 0 [(0, p_r v0), (1, p_i v1)] [] s0 _
  refine g_iconst (dk_SW_unused 0 rfl) (by decide) ?_
  refine g_istore_n (i := 2) [(2, p_i 0), (0, p_r v0), (1, p_i v1)] (dk_SW_unused 1 rfl) rfl (by decide) rfl ?_
  refine g_iconst (dk_SW_unused 2 rfl) (by decide) ?_
  refine g_istore_n (i := 3) [(3, p_i 0), (2, p_i 0), (0, p_r v0), (1, p_i v1)] (dk_SW_unused 3 rfl) rfl (by decide) rfl ?_
  refine g_sub [(0, p_r v0), (1, p_i v1), (2, p_i 0), (3, p_i 0)] [2, 3, 1, 0] rfl ?_
  exact tO_SW_unused_4 K l 3000 v0 v1 0 0 s0 _ h
def m_SW_finding : p_Me := (⟨"SortWorks", "finding", "(II)I"⟩, prog_1_method_46_code, 3, (some .int), 1, 22)
theorem mt_SW_finding : p_Mt m_SW_finding 2 := ⟨p_mem (p_tb5 (List.mem_of_getElem? (i := 176) rfl)) rfl, tw_1_1, by decide +kernel, by decide +kernel, by decide +kernel⟩
def dt_SW_finding : List (Nat × Instr × Nat) := [(0, .aload_n 0, 1), (1, .getfield 18, 3), (4, .getfield 77, 3), (7, .getfield 339, 3), (10, .iload_n 1, 1), (11, .iload_n 2, 1), (12, .invokevirtual 319, 3), (15, .ireturn, 1)]
theorem dk_SW_finding (i : Nat) {pc : Nat} {ins : Instr} {len : Nat} (h : dt_SW_finding[i]? = some (pc, ins, len)) : decode m_SW_finding.2.1 pc = .ok (ins, len) := p_dk (b := m_SW_finding.2.1) (t := dt_SW_finding) (by decide +kernel) i h
def F_SW_finding (v0 : Nat) (v1 : Int) (v2 : Int) (s0 : p_Hp) : Option (Int × p_Hp) :=
  p_gd (p_is s0 v0 10) <|
  p_gd (p_is s0 (p_R s0 v0 1) 9) <|
  p_gd (p_is s0 (p_R s0 (p_R s0 v0 1) 1) 7) <|
  p_gd (p_is s0 (p_R s0 (p_R s0 (p_R s0 v0 1) 1) 7) 2) <|
  p_bd (F_Log_tell (p_R s0 (p_R s0 (p_R s0 v0 1) 1) 7) v1 v2 s0) fun r9 s5 =>
  some (r9, s5)
set_option maxRecDepth 100000 in
set_option maxHeartbeats 4000000 in
theorem tF_SW_finding (K : p_K) (l : Launch) (v0 : Nat) (v1 : Int) (v2 : Int) (s0 : p_Hp) (r : (Int × p_Hp)) (h : F_SW_finding v0 v1 v2 s0 = some r) : p_Ct K l m_SW_finding [p_r v0, p_i v1, p_i v2] s0 (some (p_i r.1), r.2) := by
  refine p_Ct.of (by decide +kernel) (Nat.le_of_ble_eq_true rfl) ?_
  unfold F_SW_finding at h
  show p_Go K l m_SW_finding 0 [(0, p_r v0), (1, p_i v1), (2, p_i v2)] [] s0 _
  refine g_aload_n (i := 0) (j := 0) (dk_SW_finding 0 rfl) rfl rfl ?_
  obtain ⟨c1, h⟩ := p_gdE h
  refine g_getR fl_SW_18 (Or.inl ⟨_, rfl⟩) (dk_SW_finding 1 rfl) c1 ?_
  obtain ⟨c2, h⟩ := p_gdE h
  refine g_getR fl_SW_77 (Or.inl ⟨_, rfl⟩) (dk_SW_finding 2 rfl) c2 ?_
  obtain ⟨c3, h⟩ := p_gdE h
  refine g_getR fl_SW_339 (Or.inl ⟨_, rfl⟩) (dk_SW_finding 3 rfl) c3 ?_
  refine g_iload_n (i := 1) (j := 1) (dk_SW_finding 4 rfl) rfl rfl ?_
  refine g_iload_n (i := 2) (j := 2) (dk_SW_finding 5 rfl) rfl rfl ?_
  obtain ⟨c4, h⟩ := p_gdE h
  obtain ⟨r9, s5, q6, h⟩ := p_bdE h
  have t7 := tF_Log_tell K l (p_R s0 (p_R s0 (p_R s0 v0 1) 1) 7) v1 v2 s0 _ q6
  refine g_callV (a := (p_R s0 (p_R s0 (p_R s0 v0 1) 1) 7)) (ci := 2) (q0 := (RX2, TX2, 4)) (As := [p_i v1, p_i v2]) (rest := []) [p_i r9] mt_Log_tell rfl rfl tw_5_158 tw_5_159 tw_5_157 ⟨Nat.le_of_ble_eq_true rfl, Nat.le_of_ble_eq_true rfl⟩ rfl (Nat.le_of_ble_eq_true rfl) (dk_SW_finding 6 rfl) rfl c4 rfl t7 ?_
  have hs8 : p_x s0 s5 := t7.1
  show p_Go K l m_SW_finding 15 [(0, p_r v0), (1, p_i v1), (2, p_i v2)] [p_i r9] s5 _
  cases h
  exact g_ret rfl rfl (dk_SW_finding 7 rfl) (fun os => ⟨_, rfl, p_okh os⟩)
def m_SW_trace : p_Me := (⟨"SortWorks", "trace", "(I)I"⟩, prog_1_method_47_code, 2, (some .int), 0, 0)
theorem mt_SW_trace : p_Mt m_SW_trace 1 := ⟨p_mem (p_tb5 (List.mem_of_getElem? (i := 180) rfl)) rfl, tw_1_1, by decide +kernel, by decide +kernel, by decide +kernel⟩
def dt_SW_trace : List (Nat × Instr × Nat) := [(0, .iload_n 1, 1), (1, .ifCond .lt 20, 3), (4, .iload_n 1, 1), (5, .aload_n 0, 1), (6, .getfield 18, 3), (9, .getfield 342, 3), (12, .if_icmp .ge 9, 3), (15, .iload_n 1, 1), (16, .bipush 60, 2), (18, .if_icmp .lt 8, 3), (21, .bipush (-9), 2), (23, .goto 12, 3), (26, .aload_n 0, 1), (27, .getfield 18, 3), (30, .getfield 345, 3), (33, .iload_n 1, 1), (34, .iaload, 1), (35, .ireturn, 1)]
theorem dk_SW_trace (i : Nat) {pc : Nat} {ins : Instr} {len : Nat} (h : dt_SW_trace[i]? = some (pc, ins, len)) : decode m_SW_trace.2.1 pc = .ok (ins, len) := p_dk (b := m_SW_trace.2.1) (t := dt_SW_trace) (by decide +kernel) i h
def B_SW_trace_21   (s0 : p_Hp) : Option (Int × p_Hp) :=
  some ((-9), s0)
def F_SW_trace (v0 : Nat) (v1 : Int) (s0 : p_Hp) : Option (Int × p_Hp) :=
  if v1 < 0 then
    B_SW_trace_21 s0
  else
    p_gd (p_is s0 v0 10) <|
    p_gd (p_is s0 (p_R s0 v0 1) 9) <|
    if (p_Z s0 (p_R s0 v0 1) 11) ≤ v1 then
      B_SW_trace_21 s0
    else
      if v1 < 60 then
        p_gd (p_is s0 (p_R s0 (p_R s0 v0 1) 10) 100) <|
        p_gd ((0 : Int) ≤ v1 ∧ v1 < (p_L s0 (p_R s0 (p_R s0 v0 1) 10) : Int)) <|
        some ((p_Z s0 (p_R s0 (p_R s0 v0 1) 10) (v1 : Int).toNat), s0)
      else
        B_SW_trace_21 s0
set_option maxRecDepth 100000 in
set_option maxHeartbeats 4000000 in
theorem tB_SW_trace_21 (K : p_K) (l : Launch)   (s0 : p_Hp) (r : (Int × p_Hp)) (h : B_SW_trace_21  s0 = some r) : p_Go K l m_SW_trace 21 [] [] s0 (some (p_i r.1), r.2) := by
  unfold B_SW_trace_21 at h
  refine g_bipush (dk_SW_trace 10 rfl) (by decide +kernel) (by decide) ?_
  refine g_goto 35 (dk_SW_trace 11 rfl) (by decide) ?_
  cases h
  exact g_ret rfl rfl (dk_SW_trace 17 rfl) (fun os => ⟨_, rfl, p_okh os⟩)
set_option maxRecDepth 100000 in
set_option maxHeartbeats 4000000 in
theorem tF_SW_trace (K : p_K) (l : Launch) (v0 : Nat) (v1 : Int) (s0 : p_Hp) (r : (Int × p_Hp)) (h : F_SW_trace v0 v1 s0 = some r) : p_Ct K l m_SW_trace [p_r v0, p_i v1] s0 (some (p_i r.1), r.2) := by
  refine p_Ct.of (by decide +kernel) (Nat.le_of_ble_eq_true rfl) ?_
  unfold F_SW_trace at h
  show p_Go K l m_SW_trace 0 [(0, p_r v0), (1, p_i v1)] [] s0 _
  refine g_iload_n (i := 1) (j := 1) (dk_SW_trace 0 rfl) rfl rfl ?_
  refine g_if_lt 21 (dk_SW_trace 1 rfl) (by decide) (fun b1 => ?_) (fun b1 => ?_)
  · have h := p_ifT b1 h
    refine g_sub [] [] rfl ?_
    exact tB_SW_trace_21 K l s0 _ h
  · have h := p_ifF b1 h
    refine g_iload_n (i := 1) (j := 1) (dk_SW_trace 2 rfl) rfl rfl ?_
    refine g_aload_n (i := 0) (j := 0) (dk_SW_trace 3 rfl) rfl rfl ?_
    obtain ⟨c2, h⟩ := p_gdE h
    refine g_getR fl_SW_18 (Or.inl ⟨_, rfl⟩) (dk_SW_trace 4 rfl) c2 ?_
    obtain ⟨c3, h⟩ := p_gdE h
    refine g_getI fl_SW_342 (Or.inl rfl) (dk_SW_trace 5 rfl) c3 ?_
    refine g_icmp_ge 21 (dk_SW_trace 6 rfl) (by decide) (fun b4 => ?_) (fun b4 => ?_)
    · have h := p_ifT b4 h
      refine g_sub [] [] rfl ?_
      exact tB_SW_trace_21 K l s0 _ h
    · have h := p_ifF b4 h
      refine g_iload_n (i := 1) (j := 1) (dk_SW_trace 7 rfl) rfl rfl ?_
      refine g_bipush (dk_SW_trace 8 rfl) (by decide +kernel) (by decide) ?_
      refine g_icmp_lt 26 (dk_SW_trace 9 rfl) (by decide) (fun b5 => ?_) (fun b5 => ?_)
      · have h := p_ifT b5 h
        refine g_aload_n (i := 0) (j := 0) (dk_SW_trace 12 rfl) rfl rfl ?_
        refine g_getR fl_SW_18 (Or.inl ⟨_, rfl⟩) (dk_SW_trace 13 rfl) c2 ?_
        refine g_getR fl_SW_345 (Or.inr ⟨_, rfl⟩) (dk_SW_trace 14 rfl) c3 ?_
        refine g_iload_n (i := 1) (j := 1) (dk_SW_trace 15 rfl) rfl rfl ?_
        obtain ⟨c6, h⟩ := p_gdE h
        obtain ⟨c7, h⟩ := p_gdE h
        refine g_iaload (dk_SW_trace 16 rfl) c6 c7.1 c7.2 ?_
        cases h
        exact g_ret rfl rfl (dk_SW_trace 17 rfl) (fun os => ⟨_, rfl, p_okh os⟩)
      · have h := p_ifF b5 h
        refine g_sub [] [] rfl ?_
        exact tB_SW_trace_21 K l s0 _ h
def m_SW_jam : p_Me := (⟨"SortWorks", "jam", "(I)I"⟩, prog_1_method_48_code, 4, (some .int), 3, 60)
theorem mt_SW_jam : p_Mt m_SW_jam 1 := ⟨p_mem (p_tb5 (List.mem_of_getElem? (i := 184) rfl)) rfl, tw_1_1, by decide +kernel, by decide +kernel, by decide +kernel⟩
def dt_SW_jam : List (Nat × Instr × Nat) := [(0, .iconst 0, 1), (1, .istore_n 2, 1), (2, .iconst 0, 1), (3, .istore_n 3, 1), (4, .iload_n 3, 1), (5, .aload_n 0, 1), (6, .getfield 18, 3), (9, .getfield 74, 3), (12, .if_icmp .ge 37, 3), (15, .aload_n 0, 1), (16, .getfield 18, 3), (19, .getfield 77, 3), (22, .getfield 81, 3), (25, .iload_n 3, 1), (26, .aaload, 1), (27, .invokevirtual 228, 3), (30, .ifCond .eq 13, 3), (33, .iload_n 2, 1), (34, .iload_n 1, 1), (35, .if_icmp .ne 5, 3), (38, .iload_n 3, 1), (39, .ireturn, 1), (40, .iinc 2 1, 3), (43, .iinc 3 1, 3), (46, .goto (-42), 3), (49, .bipush (-9), 2), (51, .ireturn, 1)]
theorem dk_SW_jam (i : Nat) {pc : Nat} {ins : Instr} {len : Nat} (h : dt_SW_jam[i]? = some (pc, ins, len)) : decode m_SW_jam.2.1 pc = .ok (ins, len) := p_dk (b := m_SW_jam.2.1) (t := dt_SW_jam) (by decide +kernel) i h
def B_SW_jam_43 (k4 : Nat → Int → Int → Int → p_Hp → Option (Int × p_Hp)) (v0 : Nat) (v1 : Int) (v2 : Int) (v3 : Int) (s0 : p_Hp) : Option (Int × p_Hp) :=
  p_bi (p_w (v3 + 1)) fun x1 =>
  k4 v0 v1 v2 x1 s0
def L_SW_jam_4 (k4 : Nat → Int → Int → Int → p_Hp → Option (Int × p_Hp)) (v0 : Nat) (v1 : Int) (v2 : Int) (v3 : Int) (s0 : p_Hp) : Option (Int × p_Hp) :=
  p_gd (p_is s0 v0 10) <|
  p_gd (p_is s0 (p_R s0 v0 1) 9) <|
  if (p_Z s0 (p_R s0 v0 1) 2) ≤ v3 then
    some ((-9), s0)
  else
    p_gd (p_is s0 (p_R s0 (p_R s0 v0 1) 1) 7) <|
    p_gd (p_is s0 (p_R s0 (p_R s0 (p_R s0 v0 1) 1) 4) 105) <|
    p_gd ((0 : Int) ≤ v3 ∧ v3 < (p_L s0 (p_R s0 (p_R s0 (p_R s0 v0 1) 1) 4) : Int)) <|
    p_gd (p_is s0 (p_R s0 (p_R s0 (p_R s0 (p_R s0 v0 1) 1) 4) (v3 : Int).toNat) 0) <|
    p_bd (F_Gear_isJammed (p_R s0 (p_R s0 (p_R s0 (p_R s0 v0 1) 1) 4) (v3 : Int).toNat) s0) fun r12 s8 =>
    if r12 = 0 then
      B_SW_jam_43 k4 v0 v1 v2 v3 s8
    else
      if v2 ≠ v1 then
        p_bi (p_w (v2 + 1)) fun x15 =>
        B_SW_jam_43 k4 v0 v1 x15 v3 s8
      else
        some (v3, s8)
def O_SW_jam_4  : Nat → Nat → Int → Int → Int → p_Hp → Option (Int × p_Hp)
  | 0 => fun _ _ _ _ _ => none
  | n + 1 => L_SW_jam_4 (O_SW_jam_4 n)
def F_SW_jam (v0 : Nat) (v1 : Int) (s0 : p_Hp) : Option (Int × p_Hp) :=
  O_SW_jam_4 3000 v0 v1 0 0 s0
set_option maxRecDepth 100000 in
set_option maxHeartbeats 4000000 in
theorem tB_SW_jam_43 (K : p_K) (l : Launch) (k4 : Nat → Int → Int → Int → p_Hp → Option (Int × p_Hp)) (hk4 : ∀ (v0 : Nat) (v1 : Int) (v2 : Int) (v3 : Int)  (s0 : p_Hp) (r : (Int × p_Hp)), k4 v0 v1 v2 v3 s0 = some r → p_Go K l m_SW_jam 4 [(0, p_r v0), (1, p_i v1), (2, p_i v2), (3, p_i v3)] [] s0 (some (p_i r.1), r.2)) (v0 : Nat) (v1 : Int) (v2 : Int) (v3 : Int) (s0 : p_Hp) (r : (Int × p_Hp)) (h : B_SW_jam_43 k4 v0 v1 v2 v3 s0 = some r) : p_Go K l m_SW_jam 43 [(0, p_r v0), (1, p_i v1), (2, p_i v2), (3, p_i v3)] [] s0 (some (p_i r.1), r.2) := by
  unfold B_SW_jam_43 at h
  refine g_iinc (j := 3) [(3, p_i (p_w (v3 + 1))), (0, p_r v0), (1, p_i v1), (2, p_i v2)] (dk_SW_jam 23 rfl) rfl (by decide) rfl ?_
  refine p_ltG (P := fun q => p_Go K l m_SW_jam 46 [(3, p_i q), (0, p_r v0), (1, p_i v1), (2, p_i v2)] [] s0 _) ?_ h
  intro x1 h
  refine g_goto 4 (dk_SW_jam 24 rfl) (by decide) ?_
  refine g_sub [(0, p_r v0), (1, p_i v1), (2, p_i v2), (3, p_i x1)] [1, 2, 3, 0] rfl ?_
  exact hk4 v0 v1 v2 x1 s0 _ h
set_option maxRecDepth 100000 in
set_option maxHeartbeats 4000000 in
theorem tL_SW_jam_4 (K : p_K) (l : Launch) (k4 : Nat → Int → Int → Int → p_Hp → Option (Int × p_Hp)) (hk4 : ∀ (v0 : Nat) (v1 : Int) (v2 : Int) (v3 : Int)  (s0 : p_Hp) (r : (Int × p_Hp)), k4 v0 v1 v2 v3 s0 = some r → p_Go K l m_SW_jam 4 [(0, p_r v0), (1, p_i v1), (2, p_i v2), (3, p_i v3)] [] s0 (some (p_i r.1), r.2)) (v0 : Nat) (v1 : Int) (v2 : Int) (v3 : Int) (s0 : p_Hp) (r : (Int × p_Hp)) (h : L_SW_jam_4 k4 v0 v1 v2 v3 s0 = some r) : p_Go K l m_SW_jam 4 [(0, p_r v0), (1, p_i v1), (2, p_i v2), (3, p_i v3)] [] s0 (some (p_i r.1), r.2) := by
  unfold L_SW_jam_4 at h
  refine g_iload_n (i := 3) (j := 3) (dk_SW_jam 4 rfl) rfl rfl ?_
  refine g_aload_n (i := 0) (j := 0) (dk_SW_jam 5 rfl) rfl rfl ?_
  obtain ⟨c1, h⟩ := p_gdE h
  refine g_getR fl_SW_18 (Or.inl ⟨_, rfl⟩) (dk_SW_jam 6 rfl) c1 ?_
  obtain ⟨c2, h⟩ := p_gdE h
  refine g_getI fl_SW_74 (Or.inl rfl) (dk_SW_jam 7 rfl) c2 ?_
  refine g_icmp_ge 49 (dk_SW_jam 8 rfl) (by decide) (fun b3 => ?_) (fun b3 => ?_)
  · have h := p_ifT b3 h
    refine g_bipush (dk_SW_jam 25 rfl) (by decide +kernel) (by decide) ?_
    cases h
    exact g_ret rfl rfl (dk_SW_jam 26 rfl) (fun os => ⟨_, rfl, p_okh os⟩)
  · have h := p_ifF b3 h
    refine g_aload_n (i := 0) (j := 0) (dk_SW_jam 9 rfl) rfl rfl ?_
    refine g_getR fl_SW_18 (Or.inl ⟨_, rfl⟩) (dk_SW_jam 10 rfl) c1 ?_
    refine g_getR fl_SW_77 (Or.inl ⟨_, rfl⟩) (dk_SW_jam 11 rfl) c2 ?_
    obtain ⟨c4, h⟩ := p_gdE h
    refine g_getR fl_SW_81 (Or.inr ⟨_, rfl⟩) (dk_SW_jam 12 rfl) c4 ?_
    refine g_iload_n (i := 3) (j := 3) (dk_SW_jam 13 rfl) rfl rfl ?_
    obtain ⟨c5, h⟩ := p_gdE h
    obtain ⟨c6, h⟩ := p_gdE h
    refine g_aaload (i := 5) rfl (Or.inl ⟨_, rfl⟩) (dk_SW_jam 14 rfl) c5 c6.1 c6.2 ?_
    obtain ⟨c7, h⟩ := p_gdE h
    obtain ⟨r12, s8, q9, h⟩ := p_bdE h
    have t10 := tF_Gear_isJammed K l (p_R s0 (p_R s0 (p_R s0 (p_R s0 v0 1) 1) 4) (v3 : Int).toNat) s0 _ q9
    refine g_callV (a := (p_R s0 (p_R s0 (p_R s0 (p_R s0 v0 1) 1) 4) (v3 : Int).toNat)) (ci := 0) (q0 := (RX0, TX0, 19)) (As := []) (rest := []) [p_i r12] mt_Gear_isJammed rfl rfl tw_4_70 tw_4_71 tw_4_69 ⟨Nat.le_of_ble_eq_true rfl, Nat.le_of_ble_eq_true rfl⟩ rfl (Nat.le_of_ble_eq_true rfl) (dk_SW_jam 15 rfl) rfl c7 rfl t10 ?_
    have hs11 : p_x s0 s8 := t10.1
    show p_Go K l m_SW_jam 30 [(0, p_r v0), (1, p_i v1), (2, p_i v2), (3, p_i v3)] [p_i r12] s8 _
    refine g_if_eq 43 (dk_SW_jam 16 rfl) (by decide) (fun b13 => ?_) (fun b13 => ?_)
    · have h := p_ifT b13 h
      exact tB_SW_jam_43 K l k4 hk4 v0 v1 v2 v3 s8 _ h
    · have h := p_ifF b13 h
      refine g_iload_n (i := 2) (j := 2) (dk_SW_jam 17 rfl) rfl rfl ?_
      refine g_iload_n (i := 1) (j := 1) (dk_SW_jam 18 rfl) rfl rfl ?_
      refine g_icmp_ne 40 (dk_SW_jam 19 rfl) (by decide) (fun b14 => ?_) (fun b14 => ?_)
      · have h := p_ifT b14 h
        refine g_iinc (j := 2) [(2, p_i (p_w (v2 + 1))), (0, p_r v0), (1, p_i v1), (3, p_i v3)] (dk_SW_jam 22 rfl) rfl (by decide) rfl ?_
        refine p_ltG (P := fun q => p_Go K l m_SW_jam 43 [(2, p_i q), (0, p_r v0), (1, p_i v1), (3, p_i v3)] [] s8 _) ?_ h
        intro x15 h
        refine g_sub [(0, p_r v0), (1, p_i v1), (2, p_i x15), (3, p_i v3)] [1, 2, 0, 3] rfl ?_
        exact tB_SW_jam_43 K l k4 hk4 v0 v1 x15 v3 s8 _ h
      · have h := p_ifF b14 h
        refine g_iload_n (i := 3) (j := 3) (dk_SW_jam 20 rfl) rfl rfl ?_
        cases h
        exact g_ret rfl rfl (dk_SW_jam 21 rfl) (fun os => ⟨_, rfl, p_okh os⟩)
set_option maxRecDepth 100000 in
set_option maxHeartbeats 4000000 in
theorem tO_SW_jam_4 (K : p_K) (l : Launch)  : ∀ (n : Nat) (v0 : Nat) (v1 : Int) (v2 : Int) (v3 : Int) (s0 : p_Hp) (r : (Int × p_Hp)), O_SW_jam_4 n v0 v1 v2 v3 s0 = some r → p_Go K l m_SW_jam 4 [(0, p_r v0), (1, p_i v1), (2, p_i v2), (3, p_i v3)] [] s0 (some (p_i r.1), r.2) := by
  intro n
  induction n with
  | zero => intro v0 v1 v2 v3 s0 r h; cases (show (none : Option (Int × p_Hp)) = some r from h)
  | succ n ih => intro v0 v1 v2 v3 s0 r h; exact tL_SW_jam_4 K l _ ih v0 v1 v2 v3 s0 r h
set_option maxRecDepth 100000 in
set_option maxHeartbeats 4000000 in
theorem tF_SW_jam (K : p_K) (l : Launch) (v0 : Nat) (v1 : Int) (s0 : p_Hp) (r : (Int × p_Hp)) (h : F_SW_jam v0 v1 s0 = some r) : p_Ct K l m_SW_jam [p_r v0, p_i v1] s0 (some (p_i r.1), r.2) := by
  refine p_Ct.of (by decide +kernel) (Nat.le_of_ble_eq_true rfl) ?_
  unfold F_SW_jam at h
  show p_Go K l m_SW_jam 0 [(0, p_r v0), (1, p_i v1)] [] s0 _
  refine g_iconst (dk_SW_jam 0 rfl) (by decide) ?_
  refine g_istore_n (i := 2) [(2, p_i 0), (0, p_r v0), (1, p_i v1)] (dk_SW_jam 1 rfl) rfl (by decide) rfl ?_
  refine g_iconst (dk_SW_jam 2 rfl) (by decide) ?_
  refine g_istore_n (i := 3) [(3, p_i 0), (2, p_i 0), (0, p_r v0), (1, p_i v1)] (dk_SW_jam 3 rfl) rfl (by decide) rfl ?_
  refine g_sub [(0, p_r v0), (1, p_i v1), (2, p_i 0), (3, p_i 0)] [2, 3, 1, 0] rfl ?_
  exact tO_SW_jam_4 K l 3000 v0 v1 0 0 s0 _ h
def m_Works_goAhead : p_Me := (⟨"SortWorks$Works", "goAhead", "(II)Z"⟩, prog_11_method_12_code, 7, (some .boolean), 2, 40)
theorem mt_Works_goAhead : p_Mt m_Works_goAhead 2 := ⟨p_mem (p_tb5 (List.mem_of_getElem? (i := 201) rfl)) rfl, tw_1_2, by decide +kernel, by decide +kernel, by decide +kernel⟩
def dt_Works_goAhead : List (Nat × Instr × Nat) := [(0, .aload_n 0, 1), (1, .getfield 12, 3), (4, .getfield 60, 3), (7, .iload_n 1, 1), (8, .aaload, 1), (9, .astore_n 3, 1), (10, .iconst 0, 1), (11, .istore 4, 2), (13, .iconst 0, 1), (14, .istore 5, 2), (16, .iload 5, 2), (18, .getstatic 138, 3), (21, .aload_n 3, 1), (22, .getfield 119, 3), (25, .iaload, 1), (26, .if_icmp .ge 71, 3), (29, .aload_n 0, 1), (30, .aload_n 3, 1), (31, .iload 5, 2), (33, .invokevirtual 141, 3), (36, .istore 6, 2), (38, .iload 6, 2), (40, .ifCond .lt 51, 3), (43, .aload_n 0, 1), (44, .getfield 12, 3), (47, .getfield 60, 3), (50, .iload 6, 2), (52, .aaload, 1), (53, .invokevirtual 145, 3), (56, .ifCond .eq 35, 3), (59, .iload_n 2, 1), (60, .aload_n 3, 1), (61, .getfield 148, 3), (64, .iadd, 1), (65, .aload_n 0, 1), (66, .getfield 50, 3), (69, .iload 6, 2), (71, .iaload, 1), (72, .if_icmp .ge 19, 3), (75, .aload_n 0, 1), (76, .getfield 50, 3), (79, .iload 6, 2), (81, .iload_n 2, 1), (82, .aload_n 3, 1), (83, .getfield 148, 3), (86, .iadd, 1), (87, .iastore, 1), (88, .iconst 1, 1), (89, .istore 4, 2), (91, .iinc 5 1, 3), (94, .goto (-78), 3), (97, .iload 4, 2), (99, .ireturn, 1)]
theorem dk_Works_goAhead (i : Nat) {pc : Nat} {ins : Instr} {len : Nat} (h : dt_Works_goAhead[i]? = some (pc, ins, len)) : decode m_Works_goAhead.2.1 pc = .ok (ins, len) := p_dk (b := m_Works_goAhead.2.1) (t := dt_Works_goAhead) (by decide +kernel) i h
def B_Works_goAhead_91 (k16 : Nat → Int → Nat → Int → Int → p_Hp → Option (Int × p_Hp)) (v0 : Nat) (v2 : Int) (v3 : Nat) (v4 : Int) (v5 : Int) (s0 : p_Hp) : Option (Int × p_Hp) :=
  p_bi (p_w (v5 + 1)) fun x1 =>
  k16 v0 v2 v3 v4 x1 s0
def L_Works_goAhead_16 (k16 : Nat → Int → Nat → Int → Int → p_Hp → Option (Int × p_Hp)) (v0 : Nat) (v2 : Int) (v3 : Nat) (v4 : Int) (v5 : Int) (s0 : p_Hp) : Option (Int × p_Hp) :=
  p_gd (p_is s0 v3 0) <|
  p_gd ((0 : Int) ≤ (p_Z s0 v3 0) ∧ (p_Z s0 v3 0) < (sw_tl 1 : Int)) <|
  if (sw_tab 1 ((p_Z s0 v3 0) : Int).toNat) ≤ v5 then
    p_gd (v4 = 0 ∨ v4 = 1) <|
    some (v4, s0)
  else
    p_gd (p_is s0 v0 9) <|
    p_bd (F_Works_follow v0 v3 v5 s0) fun r10 s6 =>
    if r10 < 0 then
      B_Works_goAhead_91 k16 v0 v2 v3 v4 v5 s6
    else
      p_gd (p_is s6 (p_R s6 v0 1) 7) <|
      p_gd (p_is s6 (p_R s6 (p_R s6 v0 1) 4) 105) <|
      p_gd ((0 : Int) ≤ r10 ∧ r10 < (p_L s6 (p_R s6 (p_R s6 v0 1) 4) : Int)) <|
      p_gd (p_is s6 (p_R s6 (p_R s6 (p_R s6 v0 1) 4) (r10 : Int).toNat) 0) <|
      p_bd (F_Gear_isTaker (p_R s6 (p_R s6 (p_R s6 v0 1) 4) (r10 : Int).toNat) s6) fun r20 s16 =>
      if r20 = 0 then
        B_Works_goAhead_91 k16 v0 v2 v3 v4 v5 s16
      else
        p_gd (p_is s16 (p_R s16 v0 15) 100) <|
        p_gd ((0 : Int) ≤ r10 ∧ r10 < (p_L s16 (p_R s16 v0 15) : Int)) <|
        if (p_Z s16 (p_R s16 v0 15) (r10 : Int).toNat) ≤ (p_w (v2 + (p_Z s16 v3 1))) then
          B_Works_goAhead_91 k16 v0 v2 v3 v4 v5 s16
        else
          p_gd ((0 : Int) ≤ r10 ∧ r10 < (p_L s16 (p_R s16 v0 15) : Int)) <|
          p_bi (p_wZ s16 (p_R s16 v0 15) (r10 : Int).toNat (p_w (v2 + (p_Z s16 v3 1)))) fun s26 =>
          B_Works_goAhead_91 k16 v0 v2 v3 1 v5 s26
def O_Works_goAhead_16  : Nat → Nat → Int → Nat → Int → Int → p_Hp → Option (Int × p_Hp)
  | 0 => fun _ _ _ _ _ _ => none
  | n + 1 => L_Works_goAhead_16 (O_Works_goAhead_16 n)
def F_Works_goAhead (v0 : Nat) (v1 : Int) (v2 : Int) (s0 : p_Hp) : Option (Int × p_Hp) :=
  p_gd (p_is s0 v0 9) <|
  p_gd (p_is s0 (p_R s0 v0 1) 7) <|
  p_gd (p_is s0 (p_R s0 (p_R s0 v0 1) 4) 105) <|
  p_gd ((0 : Int) ≤ v1 ∧ v1 < (p_L s0 (p_R s0 (p_R s0 v0 1) 4) : Int)) <|
  p_bi ((p_R s0 (p_R s0 (p_R s0 v0 1) 4) (v1 : Int).toNat)) fun x5 =>
  O_Works_goAhead_16 3000 v0 v2 x5 0 0 s0
set_option maxRecDepth 100000 in
set_option maxHeartbeats 4000000 in
theorem tB_Works_goAhead_91 (K : p_K) (l : Launch) (k16 : Nat → Int → Nat → Int → Int → p_Hp → Option (Int × p_Hp)) (hk16 : ∀ (v0 : Nat) (v2 : Int) (v3 : Nat) (v4 : Int) (v5 : Int)  (s0 : p_Hp) (r : (Int × p_Hp)), k16 v0 v2 v3 v4 v5 s0 = some r → p_Go K l m_Works_goAhead 16 [(0, p_r v0), (2, p_i v2), (3, p_r v3), (4, p_i v4), (5, p_i v5)] [] s0 (some (p_i r.1), r.2)) (v0 : Nat) (v2 : Int) (v3 : Nat) (v4 : Int) (v5 : Int) (s0 : p_Hp) (r : (Int × p_Hp)) (h : B_Works_goAhead_91 k16 v0 v2 v3 v4 v5 s0 = some r) : p_Go K l m_Works_goAhead 91 [(0, p_r v0), (2, p_i v2), (3, p_r v3), (4, p_i v4), (5, p_i v5)] [] s0 (some (p_i r.1), r.2) := by
  unfold B_Works_goAhead_91 at h
  refine g_iinc (j := 4) [(5, p_i (p_w (v5 + 1))), (0, p_r v0), (2, p_i v2), (3, p_r v3), (4, p_i v4)] (dk_Works_goAhead 49 rfl) rfl (by decide) rfl ?_
  refine p_ltG (P := fun q => p_Go K l m_Works_goAhead 94 [(5, p_i q), (0, p_r v0), (2, p_i v2), (3, p_r v3), (4, p_i v4)] [] s0 _) ?_ h
  intro x1 h
  refine g_goto 16 (dk_Works_goAhead 50 rfl) (by decide) ?_
  refine g_sub [(0, p_r v0), (2, p_i v2), (3, p_r v3), (4, p_i v4), (5, p_i x1)] [1, 2, 3, 4, 0] rfl ?_
  exact hk16 v0 v2 v3 v4 x1 s0 _ h
set_option maxRecDepth 100000 in
set_option maxHeartbeats 4000000 in
theorem tL_Works_goAhead_16 (K : p_K) (l : Launch) (k16 : Nat → Int → Nat → Int → Int → p_Hp → Option (Int × p_Hp)) (hk16 : ∀ (v0 : Nat) (v2 : Int) (v3 : Nat) (v4 : Int) (v5 : Int)  (s0 : p_Hp) (r : (Int × p_Hp)), k16 v0 v2 v3 v4 v5 s0 = some r → p_Go K l m_Works_goAhead 16 [(0, p_r v0), (2, p_i v2), (3, p_r v3), (4, p_i v4), (5, p_i v5)] [] s0 (some (p_i r.1), r.2)) (v0 : Nat) (v2 : Int) (v3 : Nat) (v4 : Int) (v5 : Int) (s0 : p_Hp) (r : (Int × p_Hp)) (h : L_Works_goAhead_16 k16 v0 v2 v3 v4 v5 s0 = some r) : p_Go K l m_Works_goAhead 16 [(0, p_r v0), (2, p_i v2), (3, p_r v3), (4, p_i v4), (5, p_i v5)] [] s0 (some (p_i r.1), r.2) := by
  unfold L_Works_goAhead_16 at h
  refine g_iload (j := 4) (dk_Works_goAhead 10 rfl) rfl ?_
  refine g_getstatic (j := 1) rfl (by decide) (dk_Works_goAhead 11 rfl) ?_
  refine g_aload_n (i := 3) (j := 2) (dk_Works_goAhead 12 rfl) rfl rfl ?_
  obtain ⟨c1, h⟩ := p_gdE h
  refine g_getI fl_Works_119 (Or.inl rfl) (dk_Works_goAhead 13 rfl) c1 ?_
  obtain ⟨c2, h⟩ := p_gdE h
  refine g_tabS (by decide) (dk_Works_goAhead 14 rfl) c2.1 c2.2 ?_
  refine g_icmp_ge 97 (dk_Works_goAhead 15 rfl) (by decide) (fun b3 => ?_) (fun b3 => ?_)
  · have h := p_ifT b3 h
    refine g_iload (j := 3) (dk_Works_goAhead 51 rfl) rfl ?_
    obtain ⟨c4, h⟩ := p_gdE h
    cases h
    exact g_ret rfl rfl (dk_Works_goAhead 52 rfl) (fun _ => ⟨_, rfl, c4⟩)
  · have h := p_ifF b3 h
    refine g_aload_n (i := 0) (j := 0) (dk_Works_goAhead 16 rfl) rfl rfl ?_
    refine g_aload_n (i := 3) (j := 2) (dk_Works_goAhead 17 rfl) rfl rfl ?_
    refine g_iload (j := 4) (dk_Works_goAhead 18 rfl) rfl ?_
    obtain ⟨c5, h⟩ := p_gdE h
    obtain ⟨r10, s6, q7, h⟩ := p_bdE h
    have t8 := tF_Works_follow K l v0 v3 v5 s0 _ q7
    refine g_callV (a := v0) (ci := 9) (q0 := (RX9, TX9, 16)) (As := [p_r v3, p_i v5]) (rest := []) [p_i r10] mt_Works_follow rfl rfl tw_4_208 tw_4_209 tw_5_203 ⟨Nat.le_of_ble_eq_true rfl, Nat.le_of_ble_eq_true rfl⟩ rfl (Nat.le_of_ble_eq_true rfl) (dk_Works_goAhead 19 rfl) rfl c5 rfl t8 ?_
    have hs9 : p_x s0 s6 := t8.1
    show p_Go K l m_Works_goAhead 36 [(0, p_r v0), (2, p_i v2), (3, p_r v3), (4, p_i v4), (5, p_i v5)] [p_i r10] s6 _
    refine g_istore [(6, p_i r10), (0, p_r v0), (2, p_i v2), (3, p_r v3), (4, p_i v4), (5, p_i v5)] (dk_Works_goAhead 20 rfl) (by decide) rfl ?_
    refine g_iload (j := 0) (dk_Works_goAhead 21 rfl) rfl ?_
    refine g_if_lt 91 (dk_Works_goAhead 22 rfl) (by decide) (fun b11 => ?_) (fun b11 => ?_)
    · have h := p_ifT b11 h
      refine g_sub [(0, p_r v0), (2, p_i v2), (3, p_r v3), (4, p_i v4), (5, p_i v5)] [1, 2, 3, 4, 5] rfl ?_
      exact tB_Works_goAhead_91 K l k16 hk16 v0 v2 v3 v4 v5 s6 _ h
    · have h := p_ifF b11 h
      refine g_aload_n (i := 0) (j := 1) (dk_Works_goAhead 23 rfl) rfl rfl ?_
      refine g_getR fl_Works_12 (Or.inl ⟨_, rfl⟩) (dk_Works_goAhead 24 rfl) (c5.up hs9) ?_
      obtain ⟨c12, h⟩ := p_gdE h
      refine g_getR fl_Works_60 (Or.inr ⟨_, rfl⟩) (dk_Works_goAhead 25 rfl) c12 ?_
      refine g_iload (j := 0) (dk_Works_goAhead 26 rfl) rfl ?_
      obtain ⟨c13, h⟩ := p_gdE h
      obtain ⟨c14, h⟩ := p_gdE h
      refine g_aaload (i := 5) rfl (Or.inl ⟨_, rfl⟩) (dk_Works_goAhead 27 rfl) c13 c14.1 c14.2 ?_
      obtain ⟨c15, h⟩ := p_gdE h
      obtain ⟨r20, s16, q17, h⟩ := p_bdE h
      have t18 := tF_Gear_isTaker K l (p_R s6 (p_R s6 (p_R s6 v0 1) 4) (r10 : Int).toNat) s6 _ q17
      refine g_callV (a := (p_R s6 (p_R s6 (p_R s6 v0 1) 4) (r10 : Int).toNat)) (ci := 0) (q0 := (RX0, TX0, 19)) (As := []) (rest := []) [p_i r20] mt_Gear_isTaker rfl rfl tw_3_125 tw_3_126 tw_5_204 ⟨Nat.le_of_ble_eq_true rfl, Nat.le_of_ble_eq_true rfl⟩ rfl (Nat.le_of_ble_eq_true rfl) (dk_Works_goAhead 28 rfl) rfl c15 rfl t18 ?_
      have hs19 : p_x s6 s16 := t18.1
      show p_Go K l m_Works_goAhead 56 [(6, p_i r10), (0, p_r v0), (2, p_i v2), (3, p_r v3), (4, p_i v4), (5, p_i v5)] [p_i r20] s16 _
      refine g_if_eq 91 (dk_Works_goAhead 29 rfl) (by decide) (fun b21 => ?_) (fun b21 => ?_)
      · have h := p_ifT b21 h
        refine g_sub [(0, p_r v0), (2, p_i v2), (3, p_r v3), (4, p_i v4), (5, p_i v5)] [1, 2, 3, 4, 5] rfl ?_
        exact tB_Works_goAhead_91 K l k16 hk16 v0 v2 v3 v4 v5 s16 _ h
      · have h := p_ifF b21 h
        refine g_iload_n (i := 2) (j := 2) (dk_Works_goAhead 30 rfl) rfl rfl ?_
        refine g_aload_n (i := 3) (j := 3) (dk_Works_goAhead 31 rfl) rfl rfl ?_
        refine g_getI fl_Works_148 (Or.inl rfl) (dk_Works_goAhead 32 rfl) (c1.up (hs9.trans hs19)) ?_
        refine g_iadd (dk_Works_goAhead 33 rfl) ?_
        refine g_aload_n (i := 0) (j := 1) (dk_Works_goAhead 34 rfl) rfl rfl ?_
        refine g_getR fl_Works_50 (Or.inr ⟨_, rfl⟩) (dk_Works_goAhead 35 rfl) (c5.up (hs9.trans hs19)) ?_
        refine g_iload (j := 0) (dk_Works_goAhead 36 rfl) rfl ?_
        obtain ⟨c22, h⟩ := p_gdE h
        obtain ⟨c23, h⟩ := p_gdE h
        refine g_iaload (dk_Works_goAhead 37 rfl) c22 c23.1 c23.2 ?_
        refine g_icmp_ge 91 (dk_Works_goAhead 38 rfl) (by decide) (fun b24 => ?_) (fun b24 => ?_)
        · have h := p_ifT b24 h
          refine g_sub [(0, p_r v0), (2, p_i v2), (3, p_r v3), (4, p_i v4), (5, p_i v5)] [1, 2, 3, 4, 5] rfl ?_
          exact tB_Works_goAhead_91 K l k16 hk16 v0 v2 v3 v4 v5 s16 _ h
        · have h := p_ifF b24 h
          refine g_aload_n (i := 0) (j := 1) (dk_Works_goAhead 39 rfl) rfl rfl ?_
          refine g_getR fl_Works_50 (Or.inr ⟨_, rfl⟩) (dk_Works_goAhead 40 rfl) (c5.up (hs9.trans hs19)) ?_
          refine g_iload (j := 0) (dk_Works_goAhead 41 rfl) rfl ?_
          refine g_iload_n (i := 2) (j := 2) (dk_Works_goAhead 42 rfl) rfl rfl ?_
          refine g_aload_n (i := 3) (j := 3) (dk_Works_goAhead 43 rfl) rfl rfl ?_
          refine g_getI fl_Works_148 (Or.inl rfl) (dk_Works_goAhead 44 rfl) (c1.up (hs9.trans hs19)) ?_
          refine g_iadd (dk_Works_goAhead 45 rfl) ?_
          obtain ⟨c25, h⟩ := p_gdE h
          refine g_iastore (dk_Works_goAhead 46 rfl) c22 c25.1 c25.2 ?_
          refine p_ltS (P := fun q => p_Go K l m_Works_goAhead 88 [(6, p_i r10), (0, p_r v0), (2, p_i v2), (3, p_r v3), (4, p_i v4), (5, p_i v5)] [] q _) (p_xZ _ _ _ _) ?_ h
          intro s26 hs27 h
          refine g_iconst (dk_Works_goAhead 47 rfl) (by decide) ?_
          refine g_istore [(4, p_i 1), (6, p_i r10), (0, p_r v0), (2, p_i v2), (3, p_r v3), (5, p_i v5)] (dk_Works_goAhead 48 rfl) (by decide) rfl ?_
          refine g_sub [(0, p_r v0), (2, p_i v2), (3, p_r v3), (4, p_i 1), (5, p_i v5)] [2, 3, 4, 0, 5] rfl ?_
          exact tB_Works_goAhead_91 K l k16 hk16 v0 v2 v3 1 v5 s26 _ h
set_option maxRecDepth 100000 in
set_option maxHeartbeats 4000000 in
theorem tO_Works_goAhead_16 (K : p_K) (l : Launch)  : ∀ (n : Nat) (v0 : Nat) (v2 : Int) (v3 : Nat) (v4 : Int) (v5 : Int) (s0 : p_Hp) (r : (Int × p_Hp)), O_Works_goAhead_16 n v0 v2 v3 v4 v5 s0 = some r → p_Go K l m_Works_goAhead 16 [(0, p_r v0), (2, p_i v2), (3, p_r v3), (4, p_i v4), (5, p_i v5)] [] s0 (some (p_i r.1), r.2) := by
  intro n
  induction n with
  | zero => intro v0 v2 v3 v4 v5 s0 r h; cases (show (none : Option (Int × p_Hp)) = some r from h)
  | succ n ih => intro v0 v2 v3 v4 v5 s0 r h; exact tL_Works_goAhead_16 K l _ ih v0 v2 v3 v4 v5 s0 r h
set_option maxRecDepth 100000 in
set_option maxHeartbeats 4000000 in
theorem tF_Works_goAhead (K : p_K) (l : Launch) (v0 : Nat) (v1 : Int) (v2 : Int) (s0 : p_Hp) (r : (Int × p_Hp)) (h : F_Works_goAhead v0 v1 v2 s0 = some r) : p_Ct K l m_Works_goAhead [p_r v0, p_i v1, p_i v2] s0 (some (p_i r.1), r.2) := by
  refine p_Ct.of (by decide +kernel) (Nat.le_of_ble_eq_true rfl) ?_
  unfold F_Works_goAhead at h
  show p_Go K l m_Works_goAhead 0 [(0, p_r v0), (1, p_i v1), (2, p_i v2)] [] s0 _
  refine g_aload_n (i := 0) (j := 0) (dk_Works_goAhead 0 rfl) rfl rfl ?_
  obtain ⟨c1, h⟩ := p_gdE h
  refine g_getR fl_Works_12 (Or.inl ⟨_, rfl⟩) (dk_Works_goAhead 1 rfl) c1 ?_
  obtain ⟨c2, h⟩ := p_gdE h
  refine g_getR fl_Works_60 (Or.inr ⟨_, rfl⟩) (dk_Works_goAhead 2 rfl) c2 ?_
  refine g_iload_n (i := 1) (j := 1) (dk_Works_goAhead 3 rfl) rfl rfl ?_
  obtain ⟨c3, h⟩ := p_gdE h
  obtain ⟨c4, h⟩ := p_gdE h
  refine g_aaload (i := 5) rfl (Or.inl ⟨_, rfl⟩) (dk_Works_goAhead 4 rfl) c3 c4.1 c4.2 ?_
  refine g_astore_n (i := 3) [(3, p_r (p_R s0 (p_R s0 (p_R s0 v0 1) 4) (v1 : Int).toNat)), (0, p_r v0), (1, p_i v1), (2, p_i v2)] (dk_Works_goAhead 5 rfl) rfl (by decide) rfl ?_
  refine p_ltG (P := fun q => p_Go K l m_Works_goAhead 10 [(3, p_r q), (0, p_r v0), (1, p_i v1), (2, p_i v2)] [] s0 _) ?_ h
  intro x5 h
  refine g_iconst (dk_Works_goAhead 6 rfl) (by decide) ?_
  refine g_istore [(4, p_i 0), (3, p_r x5), (0, p_r v0), (1, p_i v1), (2, p_i v2)] (dk_Works_goAhead 7 rfl) (by decide) rfl ?_
  refine g_iconst (dk_Works_goAhead 8 rfl) (by decide) ?_
  refine g_istore [(5, p_i 0), (4, p_i 0), (3, p_r x5), (0, p_r v0), (1, p_i v1), (2, p_i v2)] (dk_Works_goAhead 9 rfl) (by decide) rfl ?_
  refine g_sub [(0, p_r v0), (2, p_i v2), (3, p_r x5), (4, p_i 0), (5, p_i 0)] [3, 5, 2, 1, 0] rfl ?_
  exact tO_Works_goAhead_16 K l 3000 v0 v2 x5 0 0 s0 _ h
def m_Works_measureWays : p_Me := (⟨"SortWorks$Works", "measureWays", "(I)V"⟩, prog_11_method_11_code, 5, none, 3, 66)
theorem mt_Works_measureWays : p_Mt m_Works_measureWays 1 := ⟨p_mem (p_tb5 (List.mem_of_getElem? (i := 196) rfl)) rfl, tw_1_2, by decide +kernel, by decide +kernel, by decide +kernel⟩
def dt_Works_measureWays : List (Nat × Instr × Nat) := [(0, .aload_n 0, 1), (1, .getfield 50, 3), (4, .ldc 133, 2), (6, .invokestatic 89, 3), (9, .aload_n 0, 1), (10, .iload_n 1, 1), (11, .iconst 0, 1), (12, .invokevirtual 134, 3), (15, .pop, 1), (16, .iconst 1, 1), (17, .istore_n 2, 1), (18, .iconst 0, 1), (19, .istore_n 3, 1), (20, .iload_n 3, 1), (21, .aload_n 0, 1), (22, .getfield 57, 3), (25, .if_icmp .ge 63, 3), (28, .iload_n 2, 1), (29, .ifCond .eq 59, 3), (32, .iconst 0, 1), (33, .istore_n 2, 1), (34, .iconst 0, 1), (35, .istore 4, 2), (37, .iload 4, 2), (39, .aload_n 0, 1), (40, .getfield 57, 3), (43, .if_icmp .ge 39, 3), (46, .aload_n 0, 1), (47, .getfield 50, 3), (50, .iload 4, 2), (52, .iaload, 1), (53, .ldc 133, 2), (55, .if_icmp .eq 21, 3), (58, .aload_n 0, 1), (59, .iload 4, 2), (61, .aload_n 0, 1), (62, .getfield 50, 3), (65, .iload 4, 2), (67, .iaload, 1), (68, .invokevirtual 134, 3), (71, .ifCond .eq 5, 3), (74, .iconst 1, 1), (75, .istore_n 2, 1), (76, .iinc 4 1, 3), (79, .goto (-42), 3), (82, .iinc 3 1, 3), (85, .goto (-65), 3), (88, .return_, 1)]
theorem dk_Works_measureWays (i : Nat) {pc : Nat} {ins : Instr} {len : Nat} (h : dt_Works_measureWays[i]? = some (pc, ins, len)) : decode m_Works_measureWays.2.1 pc = .ok (ins, len) := p_dk (b := m_Works_measureWays.2.1) (t := dt_Works_measureWays) (by decide +kernel) i h
def B_Works_measureWays_76 (k20 : Nat → Int → Int → p_Hp → Option p_Hp) (k37 : Nat → Int → Int → Int → p_Hp → Option p_Hp) (v0 : Nat) (v2 : Int) (v3 : Int) (v4 : Int) (s0 : p_Hp) : Option p_Hp :=
  p_bi (p_w (v4 + 1)) fun x1 =>
  k37 v0 v2 v3 x1 s0
def L_Works_measureWays_37 (k20 : Nat → Int → Int → p_Hp → Option p_Hp) (k37 : Nat → Int → Int → Int → p_Hp → Option p_Hp) (v0 : Nat) (v2 : Int) (v3 : Int) (v4 : Int) (s0 : p_Hp) : Option p_Hp :=
  p_gd (p_is s0 v0 9) <|
  if (p_Z s0 v0 2) ≤ v4 then
    p_bi (p_w (v3 + 1)) fun x3 =>
    k20 v0 v2 x3 s0
  else
    p_gd (p_is s0 (p_R s0 v0 15) 100) <|
    p_gd ((0 : Int) ≤ v4 ∧ v4 < (p_L s0 (p_R s0 v0 15) : Int)) <|
    if (p_Z s0 (p_R s0 v0 15) (v4 : Int).toNat) = 1000000 then
      B_Works_measureWays_76 k20 k37 v0 v2 v3 v4 s0
    else
      p_gd ((0 : Int) ≤ v4 ∧ v4 < (p_L s0 (p_R s0 v0 15) : Int)) <|
      p_bd (F_Works_goAhead v0 v4 (p_Z s0 (p_R s0 v0 15) (v4 : Int).toNat) s0) fun r12 s8 =>
      if r12 = 0 then
        B_Works_measureWays_76 k20 k37 v0 v2 v3 v4 s8
      else
        B_Works_measureWays_76 k20 k37 v0 1 v3 v4 s8
def O_Works_measureWays_37 (k20 : Nat → Int → Int → p_Hp → Option p_Hp) : Nat → Nat → Int → Int → Int → p_Hp → Option p_Hp
  | 0 => fun _ _ _ _ _ => none
  | n + 1 => L_Works_measureWays_37 k20 (O_Works_measureWays_37 k20 n)
def L_Works_measureWays_20 (k20 : Nat → Int → Int → p_Hp → Option p_Hp) (v0 : Nat) (v2 : Int) (v3 : Int) (s0 : p_Hp) : Option p_Hp :=
  p_gd (p_is s0 v0 9) <|
  if (p_Z s0 v0 2) ≤ v3 then
    some s0
  else
    if v2 = 0 then
      some s0
    else
      O_Works_measureWays_37 k20 3000 v0 0 v3 0 s0
def O_Works_measureWays_20  : Nat → Nat → Int → Int → p_Hp → Option p_Hp
  | 0 => fun _ _ _ _ => none
  | n + 1 => L_Works_measureWays_20 (O_Works_measureWays_20 n)
def F_Works_measureWays (v0 : Nat) (v1 : Int) (s0 : p_Hp) : Option p_Hp :=
  p_gd (p_is s0 v0 9) <|
  p_bv (F_Ar_fill (p_R s0 v0 15) 1000000 s0) fun s2 =>
  p_bd (F_Works_goAhead v0 v1 0 s2) fun r10 s6 =>
  O_Works_measureWays_20 3000 v0 1 0 s6
set_option maxRecDepth 100000 in
set_option maxHeartbeats 4000000 in
theorem tB_Works_measureWays_76 (K : p_K) (l : Launch) (k20 : Nat → Int → Int → p_Hp → Option p_Hp) (hk20 : ∀ (v0 : Nat) (v2 : Int) (v3 : Int)  (s0 : p_Hp) (r : p_Hp), k20 v0 v2 v3 s0 = some r → p_Go K l m_Works_measureWays 20 [(0, p_r v0), (2, p_i v2), (3, p_i v3)] [] s0 (none, r)) (k37 : Nat → Int → Int → Int → p_Hp → Option p_Hp) (hk37 : ∀ (v0 : Nat) (v2 : Int) (v3 : Int) (v4 : Int)  (s0 : p_Hp) (r : p_Hp), k37 v0 v2 v3 v4 s0 = some r → p_Go K l m_Works_measureWays 37 [(0, p_r v0), (2, p_i v2), (3, p_i v3), (4, p_i v4)] [] s0 (none, r)) (v0 : Nat) (v2 : Int) (v3 : Int) (v4 : Int) (s0 : p_Hp) (r : p_Hp) (h : B_Works_measureWays_76 k20 k37 v0 v2 v3 v4 s0 = some r) : p_Go K l m_Works_measureWays 76 [(0, p_r v0), (2, p_i v2), (3, p_i v3), (4, p_i v4)] [] s0 (none, r) := by
  unfold B_Works_measureWays_76 at h
  refine g_iinc (j := 3) [(4, p_i (p_w (v4 + 1))), (0, p_r v0), (2, p_i v2), (3, p_i v3)] (dk_Works_measureWays 43 rfl) rfl (by decide) rfl ?_
  refine p_ltG (P := fun q => p_Go K l m_Works_measureWays 79 [(4, p_i q), (0, p_r v0), (2, p_i v2), (3, p_i v3)] [] s0 _) ?_ h
  intro x1 h
  refine g_goto 37 (dk_Works_measureWays 44 rfl) (by decide) ?_
  refine g_sub [(0, p_r v0), (2, p_i v2), (3, p_i v3), (4, p_i x1)] [1, 2, 3, 0] rfl ?_
  exact hk37 v0 v2 v3 x1 s0 _ h
set_option maxRecDepth 100000 in
set_option maxHeartbeats 4000000 in
theorem tL_Works_measureWays_37 (K : p_K) (l : Launch) (k20 : Nat → Int → Int → p_Hp → Option p_Hp) (hk20 : ∀ (v0 : Nat) (v2 : Int) (v3 : Int)  (s0 : p_Hp) (r : p_Hp), k20 v0 v2 v3 s0 = some r → p_Go K l m_Works_measureWays 20 [(0, p_r v0), (2, p_i v2), (3, p_i v3)] [] s0 (none, r)) (k37 : Nat → Int → Int → Int → p_Hp → Option p_Hp) (hk37 : ∀ (v0 : Nat) (v2 : Int) (v3 : Int) (v4 : Int)  (s0 : p_Hp) (r : p_Hp), k37 v0 v2 v3 v4 s0 = some r → p_Go K l m_Works_measureWays 37 [(0, p_r v0), (2, p_i v2), (3, p_i v3), (4, p_i v4)] [] s0 (none, r)) (v0 : Nat) (v2 : Int) (v3 : Int) (v4 : Int) (s0 : p_Hp) (r : p_Hp) (h : L_Works_measureWays_37 k20 k37 v0 v2 v3 v4 s0 = some r) : p_Go K l m_Works_measureWays 37 [(0, p_r v0), (2, p_i v2), (3, p_i v3), (4, p_i v4)] [] s0 (none, r) := by
  unfold L_Works_measureWays_37 at h
  refine g_iload (j := 3) (dk_Works_measureWays 23 rfl) rfl ?_
  refine g_aload_n (i := 0) (j := 0) (dk_Works_measureWays 24 rfl) rfl rfl ?_
  obtain ⟨c1, h⟩ := p_gdE h
  refine g_getI fl_Works_57 (Or.inl rfl) (dk_Works_measureWays 25 rfl) c1 ?_
  refine g_icmp_ge 82 (dk_Works_measureWays 26 rfl) (by decide) (fun b2 => ?_) (fun b2 => ?_)
  · have h := p_ifT b2 h
    refine g_iinc (j := 2) [(3, p_i (p_w (v3 + 1))), (0, p_r v0), (2, p_i v2), (4, p_i v4)] (dk_Works_measureWays 45 rfl) rfl (by decide) rfl ?_
    refine p_ltG (P := fun q => p_Go K l m_Works_measureWays 85 [(3, p_i q), (0, p_r v0), (2, p_i v2), (4, p_i v4)] [] s0 _) ?_ h
    intro x3 h
    refine g_goto 20 (dk_Works_measureWays 46 rfl) (by decide) ?_
    refine g_sub [(0, p_r v0), (2, p_i v2), (3, p_i x3)] [1, 2, 0] rfl ?_
    exact hk20 v0 v2 x3 s0 _ h
  · have h := p_ifF b2 h
    refine g_aload_n (i := 0) (j := 0) (dk_Works_measureWays 27 rfl) rfl rfl ?_
    refine g_getR fl_Works_50 (Or.inr ⟨_, rfl⟩) (dk_Works_measureWays 28 rfl) c1 ?_
    refine g_iload (j := 3) (dk_Works_measureWays 29 rfl) rfl ?_
    obtain ⟨c4, h⟩ := p_gdE h
    obtain ⟨c5, h⟩ := p_gdE h
    refine g_iaload (dk_Works_measureWays 30 rfl) c4 c5.1 c5.2 ?_
    refine g_ldc (x := 1000000) (dk_Works_measureWays 31 rfl) tw_5_197 (by decide) (by decide) ?_
    refine g_icmp_eq 76 (dk_Works_measureWays 32 rfl) (by decide) (fun b6 => ?_) (fun b6 => ?_)
    · have h := p_ifT b6 h
      exact tB_Works_measureWays_76 K l k20 hk20 k37 hk37 v0 v2 v3 v4 s0 _ h
    · have h := p_ifF b6 h
      refine g_aload_n (i := 0) (j := 0) (dk_Works_measureWays 33 rfl) rfl rfl ?_
      refine g_iload (j := 3) (dk_Works_measureWays 34 rfl) rfl ?_
      refine g_aload_n (i := 0) (j := 0) (dk_Works_measureWays 35 rfl) rfl rfl ?_
      refine g_getR fl_Works_50 (Or.inr ⟨_, rfl⟩) (dk_Works_measureWays 36 rfl) c1 ?_
      refine g_iload (j := 3) (dk_Works_measureWays 37 rfl) rfl ?_
      obtain ⟨c7, h⟩ := p_gdE h
      refine g_iaload (dk_Works_measureWays 38 rfl) c4 c7.1 c7.2 ?_
      obtain ⟨r12, s8, q9, h⟩ := p_bdE h
      have t10 := tF_Works_goAhead K l v0 v4 (p_Z s0 (p_R s0 v0 15) (v4 : Int).toNat) s0 _ q9
      refine g_callV (a := v0) (ci := 9) (q0 := (RX9, TX9, 16)) (As := [p_i v4, p_i (p_Z s0 (p_R s0 v0 15) (v4 : Int).toNat)]) (rest := []) [p_i r12] mt_Works_goAhead rfl rfl tw_5_200 ts_41 tw_5_198 ⟨Nat.le_of_ble_eq_true rfl, Nat.le_of_ble_eq_true rfl⟩ rfl (Nat.le_of_ble_eq_true rfl) (dk_Works_measureWays 39 rfl) rfl c1 rfl t10 ?_
      have hs11 : p_x s0 s8 := t10.1
      show p_Go K l m_Works_measureWays 71 [(0, p_r v0), (2, p_i v2), (3, p_i v3), (4, p_i v4)] [p_i r12] s8 _
      refine g_if_eq 76 (dk_Works_measureWays 40 rfl) (by decide) (fun b13 => ?_) (fun b13 => ?_)
      · have h := p_ifT b13 h
        exact tB_Works_measureWays_76 K l k20 hk20 k37 hk37 v0 v2 v3 v4 s8 _ h
      · have h := p_ifF b13 h
        refine g_iconst (dk_Works_measureWays 41 rfl) (by decide) ?_
        refine g_istore_n (i := 2) [(2, p_i 1), (0, p_r v0), (3, p_i v3), (4, p_i v4)] (dk_Works_measureWays 42 rfl) rfl (by decide) rfl ?_
        refine g_sub [(0, p_r v0), (2, p_i 1), (3, p_i v3), (4, p_i v4)] [1, 0, 2, 3] rfl ?_
        exact tB_Works_measureWays_76 K l k20 hk20 k37 hk37 v0 1 v3 v4 s8 _ h
set_option maxRecDepth 100000 in
set_option maxHeartbeats 4000000 in
theorem tO_Works_measureWays_37 (K : p_K) (l : Launch) (k20 : Nat → Int → Int → p_Hp → Option p_Hp) (hk20 : ∀ (v0 : Nat) (v2 : Int) (v3 : Int)  (s0 : p_Hp) (r : p_Hp), k20 v0 v2 v3 s0 = some r → p_Go K l m_Works_measureWays 20 [(0, p_r v0), (2, p_i v2), (3, p_i v3)] [] s0 (none, r)) : ∀ (n : Nat) (v0 : Nat) (v2 : Int) (v3 : Int) (v4 : Int) (s0 : p_Hp) (r : p_Hp), O_Works_measureWays_37 k20 n v0 v2 v3 v4 s0 = some r → p_Go K l m_Works_measureWays 37 [(0, p_r v0), (2, p_i v2), (3, p_i v3), (4, p_i v4)] [] s0 (none, r) := by
  intro n
  induction n with
  | zero => intro v0 v2 v3 v4 s0 r h; cases (show (none : Option p_Hp) = some r from h)
  | succ n ih => intro v0 v2 v3 v4 s0 r h; exact tL_Works_measureWays_37 K l k20 hk20 _ ih v0 v2 v3 v4 s0 r h
set_option maxRecDepth 100000 in
set_option maxHeartbeats 4000000 in
theorem tL_Works_measureWays_20 (K : p_K) (l : Launch) (k20 : Nat → Int → Int → p_Hp → Option p_Hp) (hk20 : ∀ (v0 : Nat) (v2 : Int) (v3 : Int)  (s0 : p_Hp) (r : p_Hp), k20 v0 v2 v3 s0 = some r → p_Go K l m_Works_measureWays 20 [(0, p_r v0), (2, p_i v2), (3, p_i v3)] [] s0 (none, r)) (v0 : Nat) (v2 : Int) (v3 : Int) (s0 : p_Hp) (r : p_Hp) (h : L_Works_measureWays_20 k20 v0 v2 v3 s0 = some r) : p_Go K l m_Works_measureWays 20 [(0, p_r v0), (2, p_i v2), (3, p_i v3)] [] s0 (none, r) := by
  unfold L_Works_measureWays_20 at h
  refine g_iload_n (i := 3) (j := 2) (dk_Works_measureWays 13 rfl) rfl rfl ?_
  refine g_aload_n (i := 0) (j := 0) (dk_Works_measureWays 14 rfl) rfl rfl ?_
  obtain ⟨c1, h⟩ := p_gdE h
  refine g_getI fl_Works_57 (Or.inl rfl) (dk_Works_measureWays 15 rfl) c1 ?_
  refine g_icmp_ge 88 (dk_Works_measureWays 16 rfl) (by decide) (fun b2 => ?_) (fun b2 => ?_)
  · have h := p_ifT b2 h
    cases h
    exact g_ret rfl rfl (dk_Works_measureWays 47 rfl) (fun _ => rfl)
  · have h := p_ifF b2 h
    refine g_iload_n (i := 2) (j := 1) (dk_Works_measureWays 17 rfl) rfl rfl ?_
    refine g_if_eq 88 (dk_Works_measureWays 18 rfl) (by decide) (fun b3 => ?_) (fun b3 => ?_)
    · have h := p_ifT b3 h
      cases h
      exact g_ret rfl rfl (dk_Works_measureWays 47 rfl) (fun _ => rfl)
    · have h := p_ifF b3 h
      refine g_iconst (dk_Works_measureWays 19 rfl) (by decide) ?_
      refine g_istore_n (i := 2) [(2, p_i 0), (0, p_r v0), (3, p_i v3)] (dk_Works_measureWays 20 rfl) rfl (by decide) rfl ?_
      refine g_iconst (dk_Works_measureWays 21 rfl) (by decide) ?_
      refine g_istore [(4, p_i 0), (2, p_i 0), (0, p_r v0), (3, p_i v3)] (dk_Works_measureWays 22 rfl) (by decide) rfl ?_
      refine g_sub [(0, p_r v0), (2, p_i 0), (3, p_i v3), (4, p_i 0)] [2, 1, 3, 0] rfl ?_
      exact tO_Works_measureWays_37 K l k20 hk20 3000 v0 0 v3 0 s0 _ h
set_option maxRecDepth 100000 in
set_option maxHeartbeats 4000000 in
theorem tO_Works_measureWays_20 (K : p_K) (l : Launch)  : ∀ (n : Nat) (v0 : Nat) (v2 : Int) (v3 : Int) (s0 : p_Hp) (r : p_Hp), O_Works_measureWays_20 n v0 v2 v3 s0 = some r → p_Go K l m_Works_measureWays 20 [(0, p_r v0), (2, p_i v2), (3, p_i v3)] [] s0 (none, r) := by
  intro n
  induction n with
  | zero => intro v0 v2 v3 s0 r h; cases (show (none : Option p_Hp) = some r from h)
  | succ n ih => intro v0 v2 v3 s0 r h; exact tL_Works_measureWays_20 K l _ ih v0 v2 v3 s0 r h
set_option maxRecDepth 100000 in
set_option maxHeartbeats 4000000 in
theorem tF_Works_measureWays (K : p_K) (l : Launch) (v0 : Nat) (v1 : Int) (s0 : p_Hp) (r : p_Hp) (h : F_Works_measureWays v0 v1 s0 = some r) : p_Ct K l m_Works_measureWays [p_r v0, p_i v1] s0 (none, r) := by
  refine p_Ct.of (by decide +kernel) (Nat.le_of_ble_eq_true rfl) ?_
  unfold F_Works_measureWays at h
  show p_Go K l m_Works_measureWays 0 [(0, p_r v0), (1, p_i v1)] [] s0 _
  refine g_aload_n (i := 0) (j := 0) (dk_Works_measureWays 0 rfl) rfl rfl ?_
  obtain ⟨c1, h⟩ := p_gdE h
  refine g_getR fl_Works_50 (Or.inr ⟨_, rfl⟩) (dk_Works_measureWays 1 rfl) c1 ?_
  refine g_ldc (x := 1000000) (dk_Works_measureWays 2 rfl) tw_5_197 (by decide) (by decide) ?_
  obtain ⟨s2, q3, h⟩ := p_bvE h
  have t4 := tF_Ar_fill K l (p_R s0 v0 15) 1000000 s0 _ q3
  refine g_callS (av := [p_r (p_R s0 v0 15), p_i 1000000]) (rest := []) [] mt_Ar_fill tw_3_91 tw_3_175 ⟨Nat.le_of_ble_eq_true rfl, Nat.le_of_ble_eq_true rfl⟩ rfl (Nat.le_of_ble_eq_true rfl) (dk_Works_measureWays 3 rfl) rfl rfl t4 ?_
  have hs5 : p_x s0 s2 := t4.1
  show p_Go K l m_Works_measureWays 9 [(0, p_r v0), (1, p_i v1)] [] s2 _
  refine g_aload_n (i := 0) (j := 0) (dk_Works_measureWays 4 rfl) rfl rfl ?_
  refine g_iload_n (i := 1) (j := 1) (dk_Works_measureWays 5 rfl) rfl rfl ?_
  refine g_iconst (dk_Works_measureWays 6 rfl) (by decide) ?_
  obtain ⟨r10, s6, q7, h⟩ := p_bdE h
  have t8 := tF_Works_goAhead K l v0 v1 0 s2 _ q7
  refine g_callV (a := v0) (ci := 9) (q0 := (RX9, TX9, 16)) (As := [p_i v1, p_i 0]) (rest := []) [p_i r10] mt_Works_goAhead rfl rfl tw_5_200 ts_41 tw_5_198 ⟨Nat.le_of_ble_eq_true rfl, Nat.le_of_ble_eq_true rfl⟩ rfl (Nat.le_of_ble_eq_true rfl) (dk_Works_measureWays 7 rfl) rfl (c1.up hs5) rfl t8 ?_
  have hs9 : p_x s2 s6 := t8.1
  show p_Go K l m_Works_measureWays 15 [(0, p_r v0), (1, p_i v1)] [p_i r10] s6 _
  refine g_pop (dk_Works_measureWays 8 rfl) rfl ?_
  refine g_iconst (dk_Works_measureWays 9 rfl) (by decide) ?_
  refine g_istore_n (i := 2) [(2, p_i 1), (0, p_r v0), (1, p_i v1)] (dk_Works_measureWays 10 rfl) rfl (by decide) rfl ?_
  refine g_iconst (dk_Works_measureWays 11 rfl) (by decide) ?_
  refine g_istore_n (i := 3) [(3, p_i 0), (2, p_i 1), (0, p_r v0), (1, p_i v1)] (dk_Works_measureWays 12 rfl) rfl (by decide) rfl ?_
  refine g_sub [(0, p_r v0), (2, p_i 1), (3, p_i 0)] [2, 1, 0] rfl ?_
  exact tO_Works_measureWays_20 K l 3000 v0 1 0 s6 _ h
def m_Works_fewestSlots : p_Me := (⟨"SortWorks$Works", "fewestSlots", "(II)I"⟩, prog_11_method_10_code, 3, (some .int), 4, 90)
theorem mt_Works_fewestSlots : p_Mt m_Works_fewestSlots 2 := ⟨p_mem (p_tb5 (List.mem_of_getElem? (i := 192) rfl)) rfl, tw_1_2, by decide +kernel, by decide +kernel, by decide +kernel⟩
def dt_Works_fewestSlots : List (Nat × Instr × Nat) := [(0, .aload_n 0, 1), (1, .iload_n 1, 1), (2, .invokevirtual 129, 3), (5, .aload_n 0, 1), (6, .getfield 50, 3), (9, .iload_n 2, 1), (10, .iaload, 1), (11, .ldc 133, 2), (13, .if_icmp .ne 8, 3), (16, .bipush (-9), 2), (18, .goto 9, 3), (21, .aload_n 0, 1), (22, .getfield 50, 3), (25, .iload_n 2, 1), (26, .iaload, 1), (27, .ireturn, 1)]
theorem dk_Works_fewestSlots (i : Nat) {pc : Nat} {ins : Instr} {len : Nat} (h : dt_Works_fewestSlots[i]? = some (pc, ins, len)) : decode m_Works_fewestSlots.2.1 pc = .ok (ins, len) := p_dk (b := m_Works_fewestSlots.2.1) (t := dt_Works_fewestSlots) (by decide +kernel) i h
def F_Works_fewestSlots (v0 : Nat) (v1 : Int) (v2 : Int) (s0 : p_Hp) : Option (Int × p_Hp) :=
  p_gd (p_is s0 v0 9) <|
  p_bv (F_Works_measureWays v0 v1 s0) fun s2 =>
  p_gd (p_is s2 (p_R s2 v0 15) 100) <|
  p_gd ((0 : Int) ≤ v2 ∧ v2 < (p_L s2 (p_R s2 v0 15) : Int)) <|
  if (p_Z s2 (p_R s2 v0 15) (v2 : Int).toNat) ≠ 1000000 then
    p_gd ((0 : Int) ≤ v2 ∧ v2 < (p_L s2 (p_R s2 v0 15) : Int)) <|
    some ((p_Z s2 (p_R s2 v0 15) (v2 : Int).toNat), s2)
  else
    some ((-9), s2)
set_option maxRecDepth 100000 in
set_option maxHeartbeats 4000000 in
theorem tF_Works_fewestSlots (K : p_K) (l : Launch) (v0 : Nat) (v1 : Int) (v2 : Int) (s0 : p_Hp) (r : (Int × p_Hp)) (h : F_Works_fewestSlots v0 v1 v2 s0 = some r) : p_Ct K l m_Works_fewestSlots [p_r v0, p_i v1, p_i v2] s0 (some (p_i r.1), r.2) := by
  refine p_Ct.of (by decide +kernel) (Nat.le_of_ble_eq_true rfl) ?_
  unfold F_Works_fewestSlots at h
  show p_Go K l m_Works_fewestSlots 0 [(0, p_r v0), (1, p_i v1), (2, p_i v2)] [] s0 _
  refine g_aload_n (i := 0) (j := 0) (dk_Works_fewestSlots 0 rfl) rfl rfl ?_
  refine g_iload_n (i := 1) (j := 1) (dk_Works_fewestSlots 1 rfl) rfl rfl ?_
  obtain ⟨c1, h⟩ := p_gdE h
  obtain ⟨s2, q3, h⟩ := p_bvE h
  have t4 := tF_Works_measureWays K l v0 v1 s0 _ q3
  refine g_callV (a := v0) (ci := 9) (q0 := (RX9, TX9, 16)) (As := [p_i v1]) (rest := []) [] mt_Works_measureWays rfl rfl tw_5_194 tw_5_195 tw_5_193 ⟨Nat.le_of_ble_eq_true rfl, Nat.le_of_ble_eq_true rfl⟩ rfl (Nat.le_of_ble_eq_true rfl) (dk_Works_fewestSlots 2 rfl) rfl c1 rfl t4 ?_
  have hs5 : p_x s0 s2 := t4.1
  show p_Go K l m_Works_fewestSlots 5 [(0, p_r v0), (1, p_i v1), (2, p_i v2)] [] s2 _
  refine g_aload_n (i := 0) (j := 0) (dk_Works_fewestSlots 3 rfl) rfl rfl ?_
  refine g_getR fl_Works_50 (Or.inr ⟨_, rfl⟩) (dk_Works_fewestSlots 4 rfl) (c1.up hs5) ?_
  refine g_iload_n (i := 2) (j := 2) (dk_Works_fewestSlots 5 rfl) rfl rfl ?_
  obtain ⟨c6, h⟩ := p_gdE h
  obtain ⟨c7, h⟩ := p_gdE h
  refine g_iaload (dk_Works_fewestSlots 6 rfl) c6 c7.1 c7.2 ?_
  refine g_ldc (x := 1000000) (dk_Works_fewestSlots 7 rfl) tw_5_197 (by decide) (by decide) ?_
  refine g_icmp_ne 21 (dk_Works_fewestSlots 8 rfl) (by decide) (fun b8 => ?_) (fun b8 => ?_)
  · have h := p_ifT b8 h
    refine g_aload_n (i := 0) (j := 0) (dk_Works_fewestSlots 11 rfl) rfl rfl ?_
    refine g_getR fl_Works_50 (Or.inr ⟨_, rfl⟩) (dk_Works_fewestSlots 12 rfl) (c1.up hs5) ?_
    refine g_iload_n (i := 2) (j := 2) (dk_Works_fewestSlots 13 rfl) rfl rfl ?_
    obtain ⟨c9, h⟩ := p_gdE h
    refine g_iaload (dk_Works_fewestSlots 14 rfl) c6 c9.1 c9.2 ?_
    cases h
    exact g_ret rfl rfl (dk_Works_fewestSlots 15 rfl) (fun os => ⟨_, rfl, p_okh os⟩)
  · have h := p_ifF b8 h
    refine g_bipush (dk_Works_fewestSlots 9 rfl) (by decide +kernel) (by decide) ?_
    refine g_goto 27 (dk_Works_fewestSlots 10 rfl) (by decide) ?_
    cases h
    exact g_ret rfl rfl (dk_Works_fewestSlots 15 rfl) (fun os => ⟨_, rfl, p_okh os⟩)
def m_SW_far : p_Me := (⟨"SortWorks", "far", "(II)I"⟩, prog_1_method_49_code, 3, (some .int), 5, 112)
theorem mt_SW_far : p_Mt m_SW_far 2 := ⟨p_mem (p_tb5 (List.mem_of_getElem? (i := 188) rfl)) rfl, tw_1_1, by decide +kernel, by decide +kernel, by decide +kernel⟩
def dt_SW_far : List (Nat × Instr × Nat) := [(0, .aload_n 0, 1), (1, .getfield 18, 3), (4, .iload_n 1, 1), (5, .invokevirtual 98, 3), (8, .ifnull 14, 3), (11, .aload_n 0, 1), (12, .getfield 18, 3), (15, .iload_n 2, 1), (16, .invokevirtual 98, 3), (19, .ifnonnull 5, 3), (22, .iconst (-1), 1), (23, .ireturn, 1), (24, .iload_n 1, 1), (25, .iload_n 2, 1), (26, .if_icmp .ne 7, 3), (29, .iconst 0, 1), (30, .goto 12, 3), (33, .aload_n 0, 1), (34, .getfield 18, 3), (37, .iload_n 1, 1), (38, .iload_n 2, 1), (39, .invokevirtual 348, 3), (42, .ireturn, 1)]
theorem dk_SW_far (i : Nat) {pc : Nat} {ins : Instr} {len : Nat} (h : dt_SW_far[i]? = some (pc, ins, len)) : decode m_SW_far.2.1 pc = .ok (ins, len) := p_dk (b := m_SW_far.2.1) (t := dt_SW_far) (by decide +kernel) i h
def F_SW_far (v0 : Nat) (v1 : Int) (v2 : Int) (s0 : p_Hp) : Option (Int × p_Hp) :=
  p_gd (p_is s0 v0 10) <|
  p_gd (p_is s0 (p_R s0 v0 1) 9) <|
  p_bd (F_Works_gearOf (p_R s0 v0 1) v1 s0) fun r7 s3 =>
  if r7 = 0 then
    some ((-1), s3)
  else
    p_gd (p_is s3 (p_R s3 v0 1) 9) <|
    p_bd (F_Works_gearOf (p_R s3 v0 1) v2 s3) fun r14 s10 =>
    if r14 ≠ 0 then
      if v1 ≠ v2 then
        p_gd (p_is s10 (p_R s10 v0 1) 9) <|
        p_bd (F_Works_fewestSlots (p_R s10 v0 1) v1 v2 s10) fun r22 s18 =>
        some (r22, s18)
      else
        some (0, s10)
    else
      some ((-1), s10)
set_option maxRecDepth 100000 in
set_option maxHeartbeats 4000000 in
theorem tF_SW_far (K : p_K) (l : Launch) (v0 : Nat) (v1 : Int) (v2 : Int) (s0 : p_Hp) (r : (Int × p_Hp)) (h : F_SW_far v0 v1 v2 s0 = some r) : p_Ct K l m_SW_far [p_r v0, p_i v1, p_i v2] s0 (some (p_i r.1), r.2) := by
  refine p_Ct.of (by decide +kernel) (Nat.le_of_ble_eq_true rfl) ?_
  unfold F_SW_far at h
  show p_Go K l m_SW_far 0 [(0, p_r v0), (1, p_i v1), (2, p_i v2)] [] s0 _
  refine g_aload_n (i := 0) (j := 0) (dk_SW_far 0 rfl) rfl rfl ?_
  obtain ⟨c1, h⟩ := p_gdE h
  refine g_getR fl_SW_18 (Or.inl ⟨_, rfl⟩) (dk_SW_far 1 rfl) c1 ?_
  refine g_iload_n (i := 1) (j := 1) (dk_SW_far 2 rfl) rfl rfl ?_
  obtain ⟨c2, h⟩ := p_gdE h
  obtain ⟨r7, s3, q4, h⟩ := p_bdE h
  have t5 := tF_Works_gearOf K l (p_R s0 v0 1) v1 s0 _ q4
  refine g_callV (a := (p_R s0 v0 1)) (ci := 9) (q0 := (RX9, TX9, 16)) (As := [p_i v1]) (rest := []) [p_r r7] mt_Works_gearOf rfl rfl tw_3_87 tw_3_88 tw_3_86 ⟨Nat.le_of_ble_eq_true rfl, Nat.le_of_ble_eq_true rfl⟩ rfl (Nat.le_of_ble_eq_true rfl) (dk_SW_far 3 rfl) rfl c2 rfl t5 ?_
  have hs6 : p_x s0 s3 := t5.1
  show p_Go K l m_SW_far 8 [(0, p_r v0), (1, p_i v1), (2, p_i v2)] [p_r r7] s3 _
  refine g_ifnull 22 (dk_SW_far 4 rfl) (by decide) (fun b8 => ?_) (fun b8 => ?_)
  · have h := p_ifT b8 h
    refine g_iconst (dk_SW_far 10 rfl) (by decide) ?_
    cases h
    exact g_ret rfl rfl (dk_SW_far 11 rfl) (fun os => ⟨_, rfl, p_okh os⟩)
  · have h := p_ifF b8 h
    refine g_aload_n (i := 0) (j := 0) (dk_SW_far 5 rfl) rfl rfl ?_
    refine g_getR fl_SW_18 (Or.inl ⟨_, rfl⟩) (dk_SW_far 6 rfl) (c1.up hs6) ?_
    refine g_iload_n (i := 2) (j := 2) (dk_SW_far 7 rfl) rfl rfl ?_
    obtain ⟨c9, h⟩ := p_gdE h
    obtain ⟨r14, s10, q11, h⟩ := p_bdE h
    have t12 := tF_Works_gearOf K l (p_R s3 v0 1) v2 s3 _ q11
    refine g_callV (a := (p_R s3 v0 1)) (ci := 9) (q0 := (RX9, TX9, 16)) (As := [p_i v2]) (rest := []) [p_r r14] mt_Works_gearOf rfl rfl tw_3_87 tw_3_88 tw_3_86 ⟨Nat.le_of_ble_eq_true rfl, Nat.le_of_ble_eq_true rfl⟩ rfl (Nat.le_of_ble_eq_true rfl) (dk_SW_far 8 rfl) rfl c9 rfl t12 ?_
    have hs13 : p_x s3 s10 := t12.1
    show p_Go K l m_SW_far 19 [(0, p_r v0), (1, p_i v1), (2, p_i v2)] [p_r r14] s10 _
    refine g_ifnonnull 24 (dk_SW_far 9 rfl) (by decide) (fun b15 => ?_) (fun b15 => ?_)
    · have h := p_ifT b15 h
      refine g_iload_n (i := 1) (j := 1) (dk_SW_far 12 rfl) rfl rfl ?_
      refine g_iload_n (i := 2) (j := 2) (dk_SW_far 13 rfl) rfl rfl ?_
      refine g_icmp_ne 33 (dk_SW_far 14 rfl) (by decide) (fun b16 => ?_) (fun b16 => ?_)
      · have h := p_ifT b16 h
        refine g_aload_n (i := 0) (j := 0) (dk_SW_far 17 rfl) rfl rfl ?_
        refine g_getR fl_SW_18 (Or.inl ⟨_, rfl⟩) (dk_SW_far 18 rfl) (c1.up (hs6.trans hs13)) ?_
        refine g_iload_n (i := 1) (j := 1) (dk_SW_far 19 rfl) rfl rfl ?_
        refine g_iload_n (i := 2) (j := 2) (dk_SW_far 20 rfl) rfl rfl ?_
        obtain ⟨c17, h⟩ := p_gdE h
        obtain ⟨r22, s18, q19, h⟩ := p_bdE h
        have t20 := tF_Works_fewestSlots K l (p_R s10 v0 1) v1 v2 s10 _ q19
        refine g_callV (a := (p_R s10 v0 1)) (ci := 9) (q0 := (RX9, TX9, 16)) (As := [p_i v1, p_i v2]) (rest := []) [p_i r22] mt_Works_fewestSlots rfl rfl tw_5_190 tw_5_191 tw_5_189 ⟨Nat.le_of_ble_eq_true rfl, Nat.le_of_ble_eq_true rfl⟩ rfl (Nat.le_of_ble_eq_true rfl) (dk_SW_far 21 rfl) rfl c17 rfl t20 ?_
        have hs21 : p_x s10 s18 := t20.1
        show p_Go K l m_SW_far 42 [(0, p_r v0), (1, p_i v1), (2, p_i v2)] [p_i r22] s18 _
        cases h
        exact g_ret rfl rfl (dk_SW_far 22 rfl) (fun os => ⟨_, rfl, p_okh os⟩)
      · have h := p_ifF b16 h
        refine g_iconst (dk_SW_far 15 rfl) (by decide) ?_
        refine g_goto 42 (dk_SW_far 16 rfl) (by decide) ?_
        cases h
        exact g_ret rfl rfl (dk_SW_far 22 rfl) (fun os => ⟨_, rfl, p_okh os⟩)
    · have h := p_ifF b15 h
      refine g_iconst (dk_SW_far 10 rfl) (by decide) ?_
      cases h
      exact g_ret rfl rfl (dk_SW_far 11 rfl) (fun os => ⟨_, rfl, p_okh os⟩)
def m_SW_reach : p_Me := (⟨"SortWorks", "reach", "(I)J"⟩, prog_1_method_50_code, 5, (some .long), 4, 90)
theorem mt_SW_reach : p_Mt m_SW_reach 1 := ⟨p_mem (p_tb5 (List.mem_of_getElem? (i := 208) rfl)) rfl, tw_1_1, by decide +kernel, by decide +kernel, by decide +kernel⟩
def dt_SW_reach : List (Nat × Instr × Nat) := [(0, .aload_n 0, 1), (1, .getfield 18, 3), (4, .iload_n 1, 1), (5, .invokevirtual 98, 3), (8, .ifnonnull 5, 3), (11, .lconst 0, 1), (12, .lreturn, 1), (13, .lconst 0, 1), (14, .lstore_n 2, 1), (15, .aload_n 0, 1), (16, .getfield 18, 3), (19, .iload_n 1, 1), (20, .invokevirtual 351, 3), (23, .iconst 0, 1), (24, .istore 4, 2), (26, .iload 4, 2), (28, .aload_n 0, 1), (29, .getfield 18, 3), (32, .getfield 74, 3), (35, .if_icmp .ge 32, 3), (38, .aload_n 0, 1), (39, .getfield 18, 3), (42, .getfield 354, 3), (45, .iload 4, 2), (47, .iaload, 1), (48, .ldc_w 357, 3), (51, .if_icmp .eq 10, 3), (54, .lload_n 2, 1), (55, .lconst 1, 1), (56, .iload 4, 2), (58, .lshl, 1), (59, .lor, 1), (60, .lstore_n 2, 1), (61, .iinc 4 1, 3), (64, .goto (-38), 3), (67, .lload_n 2, 1), (68, .lreturn, 1)]
theorem dk_SW_reach (i : Nat) {pc : Nat} {ins : Instr} {len : Nat} (h : dt_SW_reach[i]? = some (pc, ins, len)) : decode m_SW_reach.2.1 pc = .ok (ins, len) := p_dk (b := m_SW_reach.2.1) (t := dt_SW_reach) (by decide +kernel) i h
def B_SW_reach_61 (k26 : Nat → Int → Int → p_Hp → Option (Int × p_Hp)) (v0 : Nat) (v2 : Int) (v4 : Int) (s0 : p_Hp) : Option (Int × p_Hp) :=
  p_bi (p_w (v4 + 1)) fun x1 =>
  k26 v0 v2 x1 s0
def L_SW_reach_26 (k26 : Nat → Int → Int → p_Hp → Option (Int × p_Hp)) (v0 : Nat) (v2 : Int) (v4 : Int) (s0 : p_Hp) : Option (Int × p_Hp) :=
  p_gd (p_is s0 v0 10) <|
  p_gd (p_is s0 (p_R s0 v0 1) 9) <|
  if (p_Z s0 (p_R s0 v0 1) 2) ≤ v4 then
    some (v2, s0)
  else
    p_gd (p_is s0 (p_R s0 (p_R s0 v0 1) 15) 100) <|
    p_gd ((0 : Int) ≤ v4 ∧ v4 < (p_L s0 (p_R s0 (p_R s0 v0 1) 15) : Int)) <|
    if (p_Z s0 (p_R s0 (p_R s0 v0 1) 15) (v4 : Int).toNat) = 1000000 then
      B_SW_reach_61 k26 v0 v2 v4 s0
    else
      p_bi ((p_or6 v2 (p_shl6 1 v4))) fun x7 =>
      B_SW_reach_61 k26 v0 x7 v4 s0
def O_SW_reach_26  : Nat → Nat → Int → Int → p_Hp → Option (Int × p_Hp)
  | 0 => fun _ _ _ _ => none
  | n + 1 => L_SW_reach_26 (O_SW_reach_26 n)
def F_SW_reach (v0 : Nat) (v1 : Int) (s0 : p_Hp) : Option (Int × p_Hp) :=
  p_gd (p_is s0 v0 10) <|
  p_gd (p_is s0 (p_R s0 v0 1) 9) <|
  p_bd (F_Works_gearOf (p_R s0 v0 1) v1 s0) fun r7 s3 =>
  if r7 ≠ 0 then
    p_gd (p_is s3 (p_R s3 v0 1) 9) <|
    p_bv (F_Works_measureWays (p_R s3 v0 1) v1 s3) fun s10 =>
    O_SW_reach_26 3000 v0 0 0 s10
  else
    some (0, s3)
set_option maxRecDepth 100000 in
set_option maxHeartbeats 4000000 in
theorem tB_SW_reach_61 (K : p_K) (l : Launch) (k26 : Nat → Int → Int → p_Hp → Option (Int × p_Hp)) (hk26 : ∀ (v0 : Nat) (v2 : Int) (v4 : Int)  (s0 : p_Hp) (r : (Int × p_Hp)), k26 v0 v2 v4 s0 = some r → p_Go K l m_SW_reach 26 [(0, p_r v0), (2, p_j v2), (4, p_i v4)] [] s0 (some (p_j r.1), r.2)) (v0 : Nat) (v2 : Int) (v4 : Int) (s0 : p_Hp) (r : (Int × p_Hp)) (h : B_SW_reach_61 k26 v0 v2 v4 s0 = some r) : p_Go K l m_SW_reach 61 [(0, p_r v0), (2, p_j v2), (4, p_i v4)] [] s0 (some (p_j r.1), r.2) := by
  unfold B_SW_reach_61 at h
  refine g_iinc (j := 2) [(4, p_i (p_w (v4 + 1))), (0, p_r v0), (2, p_j v2)] (dk_SW_reach 33 rfl) rfl (by decide) rfl ?_
  refine p_ltG (P := fun q => p_Go K l m_SW_reach 64 [(4, p_i q), (0, p_r v0), (2, p_j v2)] [] s0 _) ?_ h
  intro x1 h
  refine g_goto 26 (dk_SW_reach 34 rfl) (by decide) ?_
  refine g_sub [(0, p_r v0), (2, p_j v2), (4, p_i x1)] [1, 2, 0] rfl ?_
  exact hk26 v0 v2 x1 s0 _ h
set_option maxRecDepth 100000 in
set_option maxHeartbeats 4000000 in
theorem tL_SW_reach_26 (K : p_K) (l : Launch) (k26 : Nat → Int → Int → p_Hp → Option (Int × p_Hp)) (hk26 : ∀ (v0 : Nat) (v2 : Int) (v4 : Int)  (s0 : p_Hp) (r : (Int × p_Hp)), k26 v0 v2 v4 s0 = some r → p_Go K l m_SW_reach 26 [(0, p_r v0), (2, p_j v2), (4, p_i v4)] [] s0 (some (p_j r.1), r.2)) (v0 : Nat) (v2 : Int) (v4 : Int) (s0 : p_Hp) (r : (Int × p_Hp)) (h : L_SW_reach_26 k26 v0 v2 v4 s0 = some r) : p_Go K l m_SW_reach 26 [(0, p_r v0), (2, p_j v2), (4, p_i v4)] [] s0 (some (p_j r.1), r.2) := by
  unfold L_SW_reach_26 at h
  refine g_iload (j := 2) (dk_SW_reach 15 rfl) rfl ?_
  refine g_aload_n (i := 0) (j := 0) (dk_SW_reach 16 rfl) rfl rfl ?_
  obtain ⟨c1, h⟩ := p_gdE h
  refine g_getR fl_SW_18 (Or.inl ⟨_, rfl⟩) (dk_SW_reach 17 rfl) c1 ?_
  obtain ⟨c2, h⟩ := p_gdE h
  refine g_getI fl_SW_74 (Or.inl rfl) (dk_SW_reach 18 rfl) c2 ?_
  refine g_icmp_ge 67 (dk_SW_reach 19 rfl) (by decide) (fun b3 => ?_) (fun b3 => ?_)
  · have h := p_ifT b3 h
    refine g_lload_n (i := 2) (j := 1) (dk_SW_reach 35 rfl) rfl rfl ?_
    cases h
    exact g_ret rfl rfl (dk_SW_reach 36 rfl) (fun os => ⟨_, rfl, p_okh os⟩)
  · have h := p_ifF b3 h
    refine g_aload_n (i := 0) (j := 0) (dk_SW_reach 20 rfl) rfl rfl ?_
    refine g_getR fl_SW_18 (Or.inl ⟨_, rfl⟩) (dk_SW_reach 21 rfl) c1 ?_
    refine g_getR fl_SW_354 (Or.inr ⟨_, rfl⟩) (dk_SW_reach 22 rfl) c2 ?_
    refine g_iload (j := 2) (dk_SW_reach 23 rfl) rfl ?_
    obtain ⟨c4, h⟩ := p_gdE h
    obtain ⟨c5, h⟩ := p_gdE h
    refine g_iaload (dk_SW_reach 24 rfl) c4 c5.1 c5.2 ?_
    refine g_ldc_w (x := 1000000) (dk_SW_reach 25 rfl) tw_5_210 (by decide) (by decide) ?_
    refine g_icmp_eq 61 (dk_SW_reach 26 rfl) (by decide) (fun b6 => ?_) (fun b6 => ?_)
    · have h := p_ifT b6 h
      exact tB_SW_reach_61 K l k26 hk26 v0 v2 v4 s0 _ h
    · have h := p_ifF b6 h
      refine g_lload_n (i := 2) (j := 1) (dk_SW_reach 27 rfl) rfl rfl ?_
      refine g_lconst (x := 1) (dk_SW_reach 28 rfl) rfl (by decide) ?_
      refine g_iload (j := 2) (dk_SW_reach 29 rfl) rfl ?_
      refine g_lshl (dk_SW_reach 30 rfl) ?_
      refine g_lor (dk_SW_reach 31 rfl) ?_
      refine g_lstore_n (i := 2) [(2, p_j (p_or6 v2 (p_shl6 1 v4))), (0, p_r v0), (4, p_i v4)] (dk_SW_reach 32 rfl) rfl (by decide) rfl ?_
      refine p_ltG (P := fun q => p_Go K l m_SW_reach 61 [(2, p_j q), (0, p_r v0), (4, p_i v4)] [] s0 _) ?_ h
      intro x7 h
      refine g_sub [(0, p_r v0), (2, p_j x7), (4, p_i v4)] [1, 0, 2] rfl ?_
      exact tB_SW_reach_61 K l k26 hk26 v0 x7 v4 s0 _ h
set_option maxRecDepth 100000 in
set_option maxHeartbeats 4000000 in
theorem tO_SW_reach_26 (K : p_K) (l : Launch)  : ∀ (n : Nat) (v0 : Nat) (v2 : Int) (v4 : Int) (s0 : p_Hp) (r : (Int × p_Hp)), O_SW_reach_26 n v0 v2 v4 s0 = some r → p_Go K l m_SW_reach 26 [(0, p_r v0), (2, p_j v2), (4, p_i v4)] [] s0 (some (p_j r.1), r.2) := by
  intro n
  induction n with
  | zero => intro v0 v2 v4 s0 r h; cases (show (none : Option (Int × p_Hp)) = some r from h)
  | succ n ih => intro v0 v2 v4 s0 r h; exact tL_SW_reach_26 K l _ ih v0 v2 v4 s0 r h
set_option maxRecDepth 100000 in
set_option maxHeartbeats 4000000 in
theorem tF_SW_reach (K : p_K) (l : Launch) (v0 : Nat) (v1 : Int) (s0 : p_Hp) (r : (Int × p_Hp)) (h : F_SW_reach v0 v1 s0 = some r) : p_Ct K l m_SW_reach [p_r v0, p_i v1] s0 (some (p_j r.1), r.2) := by
  refine p_Ct.of (by decide +kernel) (Nat.le_of_ble_eq_true rfl) ?_
  unfold F_SW_reach at h
  show p_Go K l m_SW_reach 0 [(0, p_r v0), (1, p_i v1)] [] s0 _
  refine g_aload_n (i := 0) (j := 0) (dk_SW_reach 0 rfl) rfl rfl ?_
  obtain ⟨c1, h⟩ := p_gdE h
  refine g_getR fl_SW_18 (Or.inl ⟨_, rfl⟩) (dk_SW_reach 1 rfl) c1 ?_
  refine g_iload_n (i := 1) (j := 1) (dk_SW_reach 2 rfl) rfl rfl ?_
  obtain ⟨c2, h⟩ := p_gdE h
  obtain ⟨r7, s3, q4, h⟩ := p_bdE h
  have t5 := tF_Works_gearOf K l (p_R s0 v0 1) v1 s0 _ q4
  refine g_callV (a := (p_R s0 v0 1)) (ci := 9) (q0 := (RX9, TX9, 16)) (As := [p_i v1]) (rest := []) [p_r r7] mt_Works_gearOf rfl rfl tw_3_87 tw_3_88 tw_3_86 ⟨Nat.le_of_ble_eq_true rfl, Nat.le_of_ble_eq_true rfl⟩ rfl (Nat.le_of_ble_eq_true rfl) (dk_SW_reach 3 rfl) rfl c2 rfl t5 ?_
  have hs6 : p_x s0 s3 := t5.1
  show p_Go K l m_SW_reach 8 [(0, p_r v0), (1, p_i v1)] [p_r r7] s3 _
  refine g_ifnonnull 13 (dk_SW_reach 4 rfl) (by decide) (fun b8 => ?_) (fun b8 => ?_)
  · have h := p_ifT b8 h
    refine g_lconst (x := 0) (dk_SW_reach 7 rfl) rfl (by decide) ?_
    refine g_lstore_n (i := 2) [(2, p_j 0), (0, p_r v0), (1, p_i v1)] (dk_SW_reach 8 rfl) rfl (by decide) rfl ?_
    refine g_aload_n (i := 0) (j := 1) (dk_SW_reach 9 rfl) rfl rfl ?_
    refine g_getR fl_SW_18 (Or.inl ⟨_, rfl⟩) (dk_SW_reach 10 rfl) (c1.up hs6) ?_
    refine g_iload_n (i := 1) (j := 2) (dk_SW_reach 11 rfl) rfl rfl ?_
    obtain ⟨c9, h⟩ := p_gdE h
    obtain ⟨s10, q11, h⟩ := p_bvE h
    have t12 := tF_Works_measureWays K l (p_R s3 v0 1) v1 s3 _ q11
    refine g_callV (a := (p_R s3 v0 1)) (ci := 9) (q0 := (RX9, TX9, 16)) (As := [p_i v1]) (rest := []) [] mt_Works_measureWays rfl rfl tw_5_194 tw_5_195 tw_5_209 ⟨Nat.le_of_ble_eq_true rfl, Nat.le_of_ble_eq_true rfl⟩ rfl (Nat.le_of_ble_eq_true rfl) (dk_SW_reach 12 rfl) rfl c9 rfl t12 ?_
    have hs13 : p_x s3 s10 := t12.1
    show p_Go K l m_SW_reach 23 [(2, p_j 0), (0, p_r v0), (1, p_i v1)] [] s10 _
    refine g_iconst (dk_SW_reach 13 rfl) (by decide) ?_
    refine g_istore [(4, p_i 0), (2, p_j 0), (0, p_r v0), (1, p_i v1)] (dk_SW_reach 14 rfl) (by decide) rfl ?_
    refine g_sub [(0, p_r v0), (2, p_j 0), (4, p_i 0)] [2, 1, 0] rfl ?_
    exact tO_SW_reach_26 K l 3000 v0 0 0 s10 _ h
  · have h := p_ifF b8 h
    refine g_lconst (x := 0) (dk_SW_reach 5 rfl) rfl (by decide) ?_
    cases h
    exact g_ret rfl rfl (dk_SW_reach 6 rfl) (fun os => ⟨_, rfl, p_okh os⟩)
def m_SW_ring : p_Me := (⟨"SortWorks", "ring", "(I)I"⟩, prog_1_method_51_code, 2, (some .int), 5, 112)
theorem mt_SW_ring : p_Mt m_SW_ring 1 := ⟨p_mem (p_tb5 (List.mem_of_getElem? (i := 214) rfl)) rfl, tw_1_1, by decide +kernel, by decide +kernel, by decide +kernel⟩
def dt_SW_ring : List (Nat × Instr × Nat) := [(0, .aload_n 0, 1), (1, .getfield 18, 3), (4, .iload_n 1, 1), (5, .invokevirtual 98, 3), (8, .ifnonnull 5, 3), (11, .iconst (-1), 1), (12, .ireturn, 1), (13, .aload_n 0, 1), (14, .getfield 18, 3), (17, .iload_n 1, 1), (18, .iload_n 1, 1), (19, .invokevirtual 348, 3), (22, .ireturn, 1)]
theorem dk_SW_ring (i : Nat) {pc : Nat} {ins : Instr} {len : Nat} (h : dt_SW_ring[i]? = some (pc, ins, len)) : decode m_SW_ring.2.1 pc = .ok (ins, len) := p_dk (b := m_SW_ring.2.1) (t := dt_SW_ring) (by decide +kernel) i h
def F_SW_ring (v0 : Nat) (v1 : Int) (s0 : p_Hp) : Option (Int × p_Hp) :=
  p_gd (p_is s0 v0 10) <|
  p_gd (p_is s0 (p_R s0 v0 1) 9) <|
  p_bd (F_Works_gearOf (p_R s0 v0 1) v1 s0) fun r7 s3 =>
  if r7 ≠ 0 then
    p_gd (p_is s3 (p_R s3 v0 1) 9) <|
    p_bd (F_Works_fewestSlots (p_R s3 v0 1) v1 v1 s3) fun r14 s10 =>
    some (r14, s10)
  else
    some ((-1), s3)
set_option maxRecDepth 100000 in
set_option maxHeartbeats 4000000 in
theorem tF_SW_ring (K : p_K) (l : Launch) (v0 : Nat) (v1 : Int) (s0 : p_Hp) (r : (Int × p_Hp)) (h : F_SW_ring v0 v1 s0 = some r) : p_Ct K l m_SW_ring [p_r v0, p_i v1] s0 (some (p_i r.1), r.2) := by
  refine p_Ct.of (by decide +kernel) (Nat.le_of_ble_eq_true rfl) ?_
  unfold F_SW_ring at h
  show p_Go K l m_SW_ring 0 [(0, p_r v0), (1, p_i v1)] [] s0 _
  refine g_aload_n (i := 0) (j := 0) (dk_SW_ring 0 rfl) rfl rfl ?_
  obtain ⟨c1, h⟩ := p_gdE h
  refine g_getR fl_SW_18 (Or.inl ⟨_, rfl⟩) (dk_SW_ring 1 rfl) c1 ?_
  refine g_iload_n (i := 1) (j := 1) (dk_SW_ring 2 rfl) rfl rfl ?_
  obtain ⟨c2, h⟩ := p_gdE h
  obtain ⟨r7, s3, q4, h⟩ := p_bdE h
  have t5 := tF_Works_gearOf K l (p_R s0 v0 1) v1 s0 _ q4
  refine g_callV (a := (p_R s0 v0 1)) (ci := 9) (q0 := (RX9, TX9, 16)) (As := [p_i v1]) (rest := []) [p_r r7] mt_Works_gearOf rfl rfl tw_3_87 tw_3_88 tw_3_86 ⟨Nat.le_of_ble_eq_true rfl, Nat.le_of_ble_eq_true rfl⟩ rfl (Nat.le_of_ble_eq_true rfl) (dk_SW_ring 3 rfl) rfl c2 rfl t5 ?_
  have hs6 : p_x s0 s3 := t5.1
  show p_Go K l m_SW_ring 8 [(0, p_r v0), (1, p_i v1)] [p_r r7] s3 _
  refine g_ifnonnull 13 (dk_SW_ring 4 rfl) (by decide) (fun b8 => ?_) (fun b8 => ?_)
  · have h := p_ifT b8 h
    refine g_aload_n (i := 0) (j := 0) (dk_SW_ring 7 rfl) rfl rfl ?_
    refine g_getR fl_SW_18 (Or.inl ⟨_, rfl⟩) (dk_SW_ring 8 rfl) (c1.up hs6) ?_
    refine g_iload_n (i := 1) (j := 1) (dk_SW_ring 9 rfl) rfl rfl ?_
    refine g_iload_n (i := 1) (j := 1) (dk_SW_ring 10 rfl) rfl rfl ?_
    obtain ⟨c9, h⟩ := p_gdE h
    obtain ⟨r14, s10, q11, h⟩ := p_bdE h
    have t12 := tF_Works_fewestSlots K l (p_R s3 v0 1) v1 v1 s3 _ q11
    refine g_callV (a := (p_R s3 v0 1)) (ci := 9) (q0 := (RX9, TX9, 16)) (As := [p_i v1, p_i v1]) (rest := []) [p_i r14] mt_Works_fewestSlots rfl rfl tw_5_190 tw_5_191 tw_5_189 ⟨Nat.le_of_ble_eq_true rfl, Nat.le_of_ble_eq_true rfl⟩ rfl (Nat.le_of_ble_eq_true rfl) (dk_SW_ring 11 rfl) rfl c9 rfl t12 ?_
    have hs13 : p_x s3 s10 := t12.1
    show p_Go K l m_SW_ring 22 [(0, p_r v0), (1, p_i v1)] [p_i r14] s10 _
    cases h
    exact g_ret rfl rfl (dk_SW_ring 12 rfl) (fun os => ⟨_, rfl, p_okh os⟩)
  · have h := p_ifF b8 h
    refine g_iconst (dk_SW_ring 5 rfl) (by decide) ?_
    cases h
    exact g_ret rfl rfl (dk_SW_ring 6 rfl) (fun os => ⟨_, rfl, p_okh os⟩)
def m_SW_audit : p_Me := (⟨"SortWorks", "audit", "()I"⟩, prog_1_method_52_code, 3, (some .int), 1, 22)
theorem mt_SW_audit : p_Mt m_SW_audit 0 := ⟨p_mem (p_tb5 (List.mem_of_getElem? (i := 218) rfl)) rfl, tw_1_1, by decide +kernel, by decide +kernel, by decide +kernel⟩
def dt_SW_audit : List (Nat × Instr × Nat) := [(0, .iconst 0, 1), (1, .istore_n 1, 1), (2, .iload_n 1, 1), (3, .aload_n 0, 1), (4, .getfield 18, 3), (7, .getfield 74, 3), (10, .if_icmp .ge 40, 3), (13, .aload_n 0, 1), (14, .getfield 18, 3), (17, .getfield 77, 3), (20, .getfield 81, 3), (23, .iload_n 1, 1), (24, .aaload, 1), (25, .astore_n 2, 1), (26, .aload_n 2, 1), (27, .getfield 264, 3), (30, .aload_n 2, 1), (31, .getfield 267, 3), (34, .isub, 1), (35, .aload_n 2, 1), (36, .invokevirtual 132, 3), (39, .if_icmp .eq 5, 3), (42, .iload_n 1, 1), (43, .ireturn, 1), (44, .iinc 1 1, 3), (47, .goto (-45), 3), (50, .bipush (-9), 2), (52, .ireturn, 1)]
theorem dk_SW_audit (i : Nat) {pc : Nat} {ins : Instr} {len : Nat} (h : dt_SW_audit[i]? = some (pc, ins, len)) : decode m_SW_audit.2.1 pc = .ok (ins, len) := p_dk (b := m_SW_audit.2.1) (t := dt_SW_audit) (by decide +kernel) i h
def L_SW_audit_2 (k2 : Nat → Int → p_Hp → Option (Int × p_Hp)) (v0 : Nat) (v1 : Int) (s0 : p_Hp) : Option (Int × p_Hp) :=
  p_gd (p_is s0 v0 10) <|
  p_gd (p_is s0 (p_R s0 v0 1) 9) <|
  if (p_Z s0 (p_R s0 v0 1) 2) ≤ v1 then
    some ((-9), s0)
  else
    p_gd (p_is s0 (p_R s0 (p_R s0 v0 1) 1) 7) <|
    p_gd (p_is s0 (p_R s0 (p_R s0 (p_R s0 v0 1) 1) 4) 105) <|
    p_gd ((0 : Int) ≤ v1 ∧ v1 < (p_L s0 (p_R s0 (p_R s0 (p_R s0 v0 1) 1) 4) : Int)) <|
    p_bi ((p_R s0 (p_R s0 (p_R s0 (p_R s0 v0 1) 1) 4) (v1 : Int).toNat)) fun x7 =>
    p_gd (p_is s0 x7 0) <|
    p_bd (F_Gear_parcels x7 s0) fun r13 s9 =>
    if (p_w ((p_Z s0 x7 10) - (p_Z s0 x7 11))) = r13 then
      p_bi (p_w (v1 + 1)) fun x15 =>
      k2 v0 x15 s9
    else
      some (v1, s9)
def O_SW_audit_2  : Nat → Nat → Int → p_Hp → Option (Int × p_Hp)
  | 0 => fun _ _ _ => none
  | n + 1 => L_SW_audit_2 (O_SW_audit_2 n)
def F_SW_audit (v0 : Nat) (s0 : p_Hp) : Option (Int × p_Hp) :=
  O_SW_audit_2 3000 v0 0 s0
set_option maxRecDepth 100000 in
set_option maxHeartbeats 4000000 in
theorem tL_SW_audit_2 (K : p_K) (l : Launch) (k2 : Nat → Int → p_Hp → Option (Int × p_Hp)) (hk2 : ∀ (v0 : Nat) (v1 : Int)  (s0 : p_Hp) (r : (Int × p_Hp)), k2 v0 v1 s0 = some r → p_Go K l m_SW_audit 2 [(0, p_r v0), (1, p_i v1)] [] s0 (some (p_i r.1), r.2)) (v0 : Nat) (v1 : Int) (s0 : p_Hp) (r : (Int × p_Hp)) (h : L_SW_audit_2 k2 v0 v1 s0 = some r) : p_Go K l m_SW_audit 2 [(0, p_r v0), (1, p_i v1)] [] s0 (some (p_i r.1), r.2) := by
  unfold L_SW_audit_2 at h
  refine g_iload_n (i := 1) (j := 1) (dk_SW_audit 2 rfl) rfl rfl ?_
  refine g_aload_n (i := 0) (j := 0) (dk_SW_audit 3 rfl) rfl rfl ?_
  obtain ⟨c1, h⟩ := p_gdE h
  refine g_getR fl_SW_18 (Or.inl ⟨_, rfl⟩) (dk_SW_audit 4 rfl) c1 ?_
  obtain ⟨c2, h⟩ := p_gdE h
  refine g_getI fl_SW_74 (Or.inl rfl) (dk_SW_audit 5 rfl) c2 ?_
  refine g_icmp_ge 50 (dk_SW_audit 6 rfl) (by decide) (fun b3 => ?_) (fun b3 => ?_)
  · have h := p_ifT b3 h
    refine g_bipush (dk_SW_audit 26 rfl) (by decide +kernel) (by decide) ?_
    cases h
    exact g_ret rfl rfl (dk_SW_audit 27 rfl) (fun os => ⟨_, rfl, p_okh os⟩)
  · have h := p_ifF b3 h
    refine g_aload_n (i := 0) (j := 0) (dk_SW_audit 7 rfl) rfl rfl ?_
    refine g_getR fl_SW_18 (Or.inl ⟨_, rfl⟩) (dk_SW_audit 8 rfl) c1 ?_
    refine g_getR fl_SW_77 (Or.inl ⟨_, rfl⟩) (dk_SW_audit 9 rfl) c2 ?_
    obtain ⟨c4, h⟩ := p_gdE h
    refine g_getR fl_SW_81 (Or.inr ⟨_, rfl⟩) (dk_SW_audit 10 rfl) c4 ?_
    refine g_iload_n (i := 1) (j := 1) (dk_SW_audit 11 rfl) rfl rfl ?_
    obtain ⟨c5, h⟩ := p_gdE h
    obtain ⟨c6, h⟩ := p_gdE h
    refine g_aaload (i := 5) rfl (Or.inl ⟨_, rfl⟩) (dk_SW_audit 12 rfl) c5 c6.1 c6.2 ?_
    refine g_astore_n (i := 2) [(2, p_r (p_R s0 (p_R s0 (p_R s0 (p_R s0 v0 1) 1) 4) (v1 : Int).toNat)), (0, p_r v0), (1, p_i v1)] (dk_SW_audit 13 rfl) rfl (by decide) rfl ?_
    refine p_ltG (P := fun q => p_Go K l m_SW_audit 26 [(2, p_r q), (0, p_r v0), (1, p_i v1)] [] s0 _) ?_ h
    intro x7 h
    refine g_aload_n (i := 2) (j := 0) (dk_SW_audit 14 rfl) rfl rfl ?_
    obtain ⟨c8, h⟩ := p_gdE h
    refine g_getI fl_SW_264 (Or.inl rfl) (dk_SW_audit 15 rfl) c8 ?_
    refine g_aload_n (i := 2) (j := 0) (dk_SW_audit 16 rfl) rfl rfl ?_
    refine g_getI fl_SW_267 (Or.inl rfl) (dk_SW_audit 17 rfl) c8 ?_
    refine g_isub (dk_SW_audit 18 rfl) ?_
    refine g_aload_n (i := 2) (j := 0) (dk_SW_audit 19 rfl) rfl rfl ?_
    obtain ⟨r13, s9, q10, h⟩ := p_bdE h
    have t11 := tF_Gear_parcels K l x7 s0 _ q10
    refine g_callV (a := x7) (ci := 0) (q0 := (RX0, TX0, 19)) (As := []) (rest := [p_i (p_w ((p_Z s0 x7 10) - (p_Z s0 x7 11)))]) [p_i r13, p_i (p_w ((p_Z s0 x7 10) - (p_Z s0 x7 11)))] mt_Gear_parcels rfl rfl tw_3_134 tw_3_135 tw_3_133 ⟨Nat.le_of_ble_eq_true rfl, Nat.le_of_ble_eq_true rfl⟩ rfl (Nat.le_of_ble_eq_true rfl) (dk_SW_audit 20 rfl) rfl c8 rfl t11 ?_
    have hs12 : p_x s0 s9 := t11.1
    show p_Go K l m_SW_audit 39 [(2, p_r x7), (0, p_r v0), (1, p_i v1)] [p_i r13, p_i (p_w ((p_Z s0 x7 10) - (p_Z s0 x7 11)))] s9 _
    refine g_icmp_eq 44 (dk_SW_audit 21 rfl) (by decide) (fun b14 => ?_) (fun b14 => ?_)
    · have h := p_ifT b14 h
      refine g_iinc (j := 2) [(1, p_i (p_w (v1 + 1))), (2, p_r x7), (0, p_r v0)] (dk_SW_audit 24 rfl) rfl (by decide) rfl ?_
      refine p_ltG (P := fun q => p_Go K l m_SW_audit 47 [(1, p_i q), (2, p_r x7), (0, p_r v0)] [] s9 _) ?_ h
      intro x15 h
      refine g_goto 2 (dk_SW_audit 25 rfl) (by decide) ?_
      refine g_sub [(0, p_r v0), (1, p_i x15)] [2, 0] rfl ?_
      exact hk2 v0 x15 s9 _ h
    · have h := p_ifF b14 h
      refine g_iload_n (i := 1) (j := 2) (dk_SW_audit 22 rfl) rfl rfl ?_
      cases h
      exact g_ret rfl rfl (dk_SW_audit 23 rfl) (fun os => ⟨_, rfl, p_okh os⟩)
set_option maxRecDepth 100000 in
set_option maxHeartbeats 4000000 in
theorem tO_SW_audit_2 (K : p_K) (l : Launch)  : ∀ (n : Nat) (v0 : Nat) (v1 : Int) (s0 : p_Hp) (r : (Int × p_Hp)), O_SW_audit_2 n v0 v1 s0 = some r → p_Go K l m_SW_audit 2 [(0, p_r v0), (1, p_i v1)] [] s0 (some (p_i r.1), r.2) := by
  intro n
  induction n with
  | zero => intro v0 v1 s0 r h; cases (show (none : Option (Int × p_Hp)) = some r from h)
  | succ n ih => intro v0 v1 s0 r h; exact tL_SW_audit_2 K l _ ih v0 v1 s0 r h
set_option maxRecDepth 100000 in
set_option maxHeartbeats 4000000 in
theorem tF_SW_audit (K : p_K) (l : Launch) (v0 : Nat) (s0 : p_Hp) (r : (Int × p_Hp)) (h : F_SW_audit v0 s0 = some r) : p_Ct K l m_SW_audit [p_r v0] s0 (some (p_i r.1), r.2) := by
  refine p_Ct.of (by decide +kernel) (Nat.le_of_ble_eq_true rfl) ?_
  unfold F_SW_audit at h
  show p_Go K l m_SW_audit 0 [(0, p_r v0)] [] s0 _
  refine g_iconst (dk_SW_audit 0 rfl) (by decide) ?_
  refine g_istore_n (i := 1) [(1, p_i 0), (0, p_r v0)] (dk_SW_audit 1 rfl) rfl (by decide) rfl ?_
  refine g_sub [(0, p_r v0), (1, p_i 0)] [1, 0] rfl ?_
  exact tO_SW_audit_2 K l 3000 v0 0 s0 _ h
def m_SW_count : p_Me := (⟨"SortWorks", "count", "(I)I"⟩, prog_1_method_53_code, 2, (some .int), 0, 0)
theorem mt_SW_count : p_Mt m_SW_count 1 := ⟨p_mem (p_tb5 (List.mem_of_getElem? (i := 222) rfl)) rfl, tw_1_1, by decide +kernel, by decide +kernel, by decide +kernel⟩
def dt_SW_count : List (Nat × Instr × Nat) := [(0, .iload_n 1, 1), (1, .tableswitch 201 0 13 #[71, 79, 90, 101, 115, 126, 137, 151, 156, 164, 172, 177, 185, 193], 71), (72, .aload_n 0, 1), (73, .getfield 18, 3), (76, .getfield 74, 3), (79, .ireturn, 1), (80, .aload_n 0, 1), (81, .getfield 18, 3), (84, .getfield 77, 3), (87, .getfield 358, 3), (90, .ireturn, 1), (91, .aload_n 0, 1), (92, .getfield 18, 3), (95, .getfield 77, 3), (98, .getfield 361, 3), (101, .ireturn, 1), (102, .aload_n 0, 1), (103, .getfield 18, 3), (106, .getfield 77, 3), (109, .getfield 315, 3), (112, .getfield 362, 3), (115, .ireturn, 1), (116, .aload_n 0, 1), (117, .getfield 18, 3), (120, .getfield 158, 3), (123, .getfield 159, 3), (126, .ireturn, 1), (127, .aload_n 0, 1), (128, .getfield 18, 3), (131, .getfield 77, 3), (134, .getfield 274, 3), (137, .ireturn, 1), (138, .aload_n 0, 1), (139, .getfield 18, 3), (142, .getfield 77, 3), (145, .getfield 339, 3), (148, .getfield 362, 3), (151, .ireturn, 1), (152, .aload_n 0, 1), (153, .getfield 47, 3), (156, .ireturn, 1), (157, .aload_n 0, 1), (158, .getfield 18, 3), (161, .getfield 288, 3), (164, .ireturn, 1), (165, .aload_n 0, 1), (166, .getfield 18, 3), (169, .getfield 342, 3), (172, .ireturn, 1), (173, .aload_n 0, 1), (174, .getfield 143, 3), (177, .ireturn, 1), (178, .aload_n 0, 1), (179, .getfield 18, 3), (182, .getfield 164, 3), (185, .ireturn, 1), (186, .aload_n 0, 1), (187, .getfield 18, 3), (190, .getfield 64, 3), (193, .ireturn, 1), (194, .aload_n 0, 1), (195, .getfield 25, 3), (198, .getfield 194, 3), (201, .ireturn, 1), (202, .bipush (-9), 2), (204, .ireturn, 1)]
theorem dk_SW_count (i : Nat) {pc : Nat} {ins : Instr} {len : Nat} (h : dt_SW_count[i]? = some (pc, ins, len)) : decode m_SW_count.2.1 pc = .ok (ins, len) := p_dk (b := m_SW_count.2.1) (t := dt_SW_count) (by decide +kernel) i h
def F_SW_count (v0 : Nat) (v1 : Int) (s0 : p_Hp) : Option (Int × p_Hp) :=
  if v1 = 0 then
    p_gd (p_is s0 v0 10) <|
    p_gd (p_is s0 (p_R s0 v0 1) 9) <|
    some ((p_Z s0 (p_R s0 v0 1) 2), s0)
  else if v1 = 1 then
    p_gd (p_is s0 v0 10) <|
    p_gd (p_is s0 (p_R s0 v0 1) 9) <|
    p_gd (p_is s0 (p_R s0 (p_R s0 v0 1) 1) 7) <|
    some ((p_Z s0 (p_R s0 (p_R s0 v0 1) 1) 2), s0)
  else if v1 = 2 then
    p_gd (p_is s0 v0 10) <|
    p_gd (p_is s0 (p_R s0 v0 1) 9) <|
    p_gd (p_is s0 (p_R s0 (p_R s0 v0 1) 1) 7) <|
    some ((p_Z s0 (p_R s0 (p_R s0 v0 1) 1) 1), s0)
  else if v1 = 3 then
    p_gd (p_is s0 v0 10) <|
    p_gd (p_is s0 (p_R s0 v0 1) 9) <|
    p_gd (p_is s0 (p_R s0 (p_R s0 v0 1) 1) 7) <|
    p_gd (p_is s0 (p_R s0 (p_R s0 (p_R s0 v0 1) 1) 8) 2) <|
    some ((p_Z s0 (p_R s0 (p_R s0 (p_R s0 v0 1) 1) 8) 3), s0)
  else if v1 = 4 then
    p_gd (p_is s0 v0 10) <|
    p_gd (p_is s0 (p_R s0 v0 1) 9) <|
    p_gd (p_is s0 (p_R s0 (p_R s0 v0 1) 3) 6) <|
    some ((p_Z s0 (p_R s0 (p_R s0 v0 1) 3) 0), s0)
  else if v1 = 5 then
    p_gd (p_is s0 v0 10) <|
    p_gd (p_is s0 (p_R s0 v0 1) 9) <|
    p_gd (p_is s0 (p_R s0 (p_R s0 v0 1) 1) 7) <|
    some ((p_Z s0 (p_R s0 (p_R s0 v0 1) 1) 0), s0)
  else if v1 = 6 then
    p_gd (p_is s0 v0 10) <|
    p_gd (p_is s0 (p_R s0 v0 1) 9) <|
    p_gd (p_is s0 (p_R s0 (p_R s0 v0 1) 1) 7) <|
    p_gd (p_is s0 (p_R s0 (p_R s0 (p_R s0 v0 1) 1) 7) 2) <|
    some ((p_Z s0 (p_R s0 (p_R s0 (p_R s0 v0 1) 1) 7) 3), s0)
  else if v1 = 7 then
    p_gd (p_is s0 v0 10) <|
    some ((p_Z s0 v0 7), s0)
  else if v1 = 8 then
    p_gd (p_is s0 v0 10) <|
    p_gd (p_is s0 (p_R s0 v0 1) 9) <|
    some ((p_Z s0 (p_R s0 v0 1) 14), s0)
  else if v1 = 9 then
    p_gd (p_is s0 v0 10) <|
    p_gd (p_is s0 (p_R s0 v0 1) 9) <|
    some ((p_Z s0 (p_R s0 v0 1) 11), s0)
  else if v1 = 10 then
    p_gd (p_is s0 v0 10) <|
    some ((p_Z s0 v0 6), s0)
  else if v1 = 11 then
    p_gd (p_is s0 v0 10) <|
    p_gd (p_is s0 (p_R s0 v0 1) 9) <|
    some ((p_Z s0 (p_R s0 v0 1) 6), s0)
  else if v1 = 12 then
    p_gd (p_is s0 v0 10) <|
    p_gd (p_is s0 (p_R s0 v0 1) 9) <|
    some ((p_Z s0 (p_R s0 v0 1) 0), s0)
  else if v1 = 13 then
    p_gd (p_is s0 v0 10) <|
    p_gd (p_is s0 (p_R s0 v0 2) 3) <|
    some ((p_Z s0 (p_R s0 v0 2) 1), s0)
  else 
  some ((-9), s0)
set_option maxRecDepth 100000 in
set_option maxHeartbeats 4000000 in
theorem tF_SW_count (K : p_K) (l : Launch) (v0 : Nat) (v1 : Int) (s0 : p_Hp) (r : (Int × p_Hp)) (h : F_SW_count v0 v1 s0 = some r) : p_Ct K l m_SW_count [p_r v0, p_i v1] s0 (some (p_i r.1), r.2) := by
  refine p_Ct.of (by decide +kernel) (Nat.le_of_ble_eq_true rfl) ?_
  unfold F_SW_count at h
  show p_Go K l m_SW_count 0 [(0, p_r v0), (1, p_i v1)] [] s0 _
  refine g_iload_n (i := 1) (j := 1) (dk_SW_count 0 rfl) rfl rfl ?_
  rcases p_iteE h with ⟨b1, h⟩ | ⟨b1, h⟩
  · refine g_tableIn 72 (dk_SW_count 1 rfl) (by omega) (by omega) (by rw [b1]; rfl) (by decide) ?_
    refine g_aload_n (i := 0) (j := 0) (dk_SW_count 2 rfl) rfl rfl ?_
    obtain ⟨c2, h⟩ := p_gdE h
    refine g_getR fl_SW_18 (Or.inl ⟨_, rfl⟩) (dk_SW_count 3 rfl) c2 ?_
    obtain ⟨c3, h⟩ := p_gdE h
    refine g_getI fl_SW_74 (Or.inl rfl) (dk_SW_count 4 rfl) c3 ?_
    cases h
    exact g_ret rfl rfl (dk_SW_count 5 rfl) (fun os => ⟨_, rfl, p_okh os⟩)
  rcases p_iteE h with ⟨b4, h⟩ | ⟨b4, h⟩
  · refine g_tableIn 80 (dk_SW_count 1 rfl) (by omega) (by omega) (by rw [b4]; rfl) (by decide) ?_
    refine g_aload_n (i := 0) (j := 0) (dk_SW_count 6 rfl) rfl rfl ?_
    obtain ⟨c5, h⟩ := p_gdE h
    refine g_getR fl_SW_18 (Or.inl ⟨_, rfl⟩) (dk_SW_count 7 rfl) c5 ?_
    obtain ⟨c6, h⟩ := p_gdE h
    refine g_getR fl_SW_77 (Or.inl ⟨_, rfl⟩) (dk_SW_count 8 rfl) c6 ?_
    obtain ⟨c7, h⟩ := p_gdE h
    refine g_getI fl_SW_358 (Or.inl rfl) (dk_SW_count 9 rfl) c7 ?_
    cases h
    exact g_ret rfl rfl (dk_SW_count 10 rfl) (fun os => ⟨_, rfl, p_okh os⟩)
  rcases p_iteE h with ⟨b8, h⟩ | ⟨b8, h⟩
  · refine g_tableIn 91 (dk_SW_count 1 rfl) (by omega) (by omega) (by rw [b8]; rfl) (by decide) ?_
    refine g_aload_n (i := 0) (j := 0) (dk_SW_count 11 rfl) rfl rfl ?_
    obtain ⟨c9, h⟩ := p_gdE h
    refine g_getR fl_SW_18 (Or.inl ⟨_, rfl⟩) (dk_SW_count 12 rfl) c9 ?_
    obtain ⟨c10, h⟩ := p_gdE h
    refine g_getR fl_SW_77 (Or.inl ⟨_, rfl⟩) (dk_SW_count 13 rfl) c10 ?_
    obtain ⟨c11, h⟩ := p_gdE h
    refine g_getI fl_SW_361 (Or.inl rfl) (dk_SW_count 14 rfl) c11 ?_
    cases h
    exact g_ret rfl rfl (dk_SW_count 15 rfl) (fun os => ⟨_, rfl, p_okh os⟩)
  rcases p_iteE h with ⟨b12, h⟩ | ⟨b12, h⟩
  · refine g_tableIn 102 (dk_SW_count 1 rfl) (by omega) (by omega) (by rw [b12]; rfl) (by decide) ?_
    refine g_aload_n (i := 0) (j := 0) (dk_SW_count 16 rfl) rfl rfl ?_
    obtain ⟨c13, h⟩ := p_gdE h
    refine g_getR fl_SW_18 (Or.inl ⟨_, rfl⟩) (dk_SW_count 17 rfl) c13 ?_
    obtain ⟨c14, h⟩ := p_gdE h
    refine g_getR fl_SW_77 (Or.inl ⟨_, rfl⟩) (dk_SW_count 18 rfl) c14 ?_
    obtain ⟨c15, h⟩ := p_gdE h
    refine g_getR fl_SW_315 (Or.inl ⟨_, rfl⟩) (dk_SW_count 19 rfl) c15 ?_
    obtain ⟨c16, h⟩ := p_gdE h
    refine g_getI fl_SW_362 (Or.inl rfl) (dk_SW_count 20 rfl) c16 ?_
    cases h
    exact g_ret rfl rfl (dk_SW_count 21 rfl) (fun os => ⟨_, rfl, p_okh os⟩)
  rcases p_iteE h with ⟨b17, h⟩ | ⟨b17, h⟩
  · refine g_tableIn 116 (dk_SW_count 1 rfl) (by omega) (by omega) (by rw [b17]; rfl) (by decide) ?_
    refine g_aload_n (i := 0) (j := 0) (dk_SW_count 22 rfl) rfl rfl ?_
    obtain ⟨c18, h⟩ := p_gdE h
    refine g_getR fl_SW_18 (Or.inl ⟨_, rfl⟩) (dk_SW_count 23 rfl) c18 ?_
    obtain ⟨c19, h⟩ := p_gdE h
    refine g_getR fl_SW_158 (Or.inl ⟨_, rfl⟩) (dk_SW_count 24 rfl) c19 ?_
    obtain ⟨c20, h⟩ := p_gdE h
    refine g_getI fl_SW_159 (Or.inl rfl) (dk_SW_count 25 rfl) c20 ?_
    cases h
    exact g_ret rfl rfl (dk_SW_count 26 rfl) (fun os => ⟨_, rfl, p_okh os⟩)
  rcases p_iteE h with ⟨b21, h⟩ | ⟨b21, h⟩
  · refine g_tableIn 127 (dk_SW_count 1 rfl) (by omega) (by omega) (by rw [b21]; rfl) (by decide) ?_
    refine g_aload_n (i := 0) (j := 0) (dk_SW_count 27 rfl) rfl rfl ?_
    obtain ⟨c22, h⟩ := p_gdE h
    refine g_getR fl_SW_18 (Or.inl ⟨_, rfl⟩) (dk_SW_count 28 rfl) c22 ?_
    obtain ⟨c23, h⟩ := p_gdE h
    refine g_getR fl_SW_77 (Or.inl ⟨_, rfl⟩) (dk_SW_count 29 rfl) c23 ?_
    obtain ⟨c24, h⟩ := p_gdE h
    refine g_getI fl_SW_274 (Or.inl rfl) (dk_SW_count 30 rfl) c24 ?_
    cases h
    exact g_ret rfl rfl (dk_SW_count 31 rfl) (fun os => ⟨_, rfl, p_okh os⟩)
  rcases p_iteE h with ⟨b25, h⟩ | ⟨b25, h⟩
  · refine g_tableIn 138 (dk_SW_count 1 rfl) (by omega) (by omega) (by rw [b25]; rfl) (by decide) ?_
    refine g_aload_n (i := 0) (j := 0) (dk_SW_count 32 rfl) rfl rfl ?_
    obtain ⟨c26, h⟩ := p_gdE h
    refine g_getR fl_SW_18 (Or.inl ⟨_, rfl⟩) (dk_SW_count 33 rfl) c26 ?_
    obtain ⟨c27, h⟩ := p_gdE h
    refine g_getR fl_SW_77 (Or.inl ⟨_, rfl⟩) (dk_SW_count 34 rfl) c27 ?_
    obtain ⟨c28, h⟩ := p_gdE h
    refine g_getR fl_SW_339 (Or.inl ⟨_, rfl⟩) (dk_SW_count 35 rfl) c28 ?_
    obtain ⟨c29, h⟩ := p_gdE h
    refine g_getI fl_SW_362 (Or.inl rfl) (dk_SW_count 36 rfl) c29 ?_
    cases h
    exact g_ret rfl rfl (dk_SW_count 37 rfl) (fun os => ⟨_, rfl, p_okh os⟩)
  rcases p_iteE h with ⟨b30, h⟩ | ⟨b30, h⟩
  · refine g_tableIn 152 (dk_SW_count 1 rfl) (by omega) (by omega) (by rw [b30]; rfl) (by decide) ?_
    refine g_aload_n (i := 0) (j := 0) (dk_SW_count 38 rfl) rfl rfl ?_
    obtain ⟨c31, h⟩ := p_gdE h
    refine g_getI fl_SW_47 (Or.inl rfl) (dk_SW_count 39 rfl) c31 ?_
    cases h
    exact g_ret rfl rfl (dk_SW_count 40 rfl) (fun os => ⟨_, rfl, p_okh os⟩)
  rcases p_iteE h with ⟨b32, h⟩ | ⟨b32, h⟩
  · refine g_tableIn 157 (dk_SW_count 1 rfl) (by omega) (by omega) (by rw [b32]; rfl) (by decide) ?_
    refine g_aload_n (i := 0) (j := 0) (dk_SW_count 41 rfl) rfl rfl ?_
    obtain ⟨c33, h⟩ := p_gdE h
    refine g_getR fl_SW_18 (Or.inl ⟨_, rfl⟩) (dk_SW_count 42 rfl) c33 ?_
    obtain ⟨c34, h⟩ := p_gdE h
    refine g_getI fl_SW_288 (Or.inl rfl) (dk_SW_count 43 rfl) c34 ?_
    cases h
    exact g_ret rfl rfl (dk_SW_count 44 rfl) (fun os => ⟨_, rfl, p_okh os⟩)
  rcases p_iteE h with ⟨b35, h⟩ | ⟨b35, h⟩
  · refine g_tableIn 165 (dk_SW_count 1 rfl) (by omega) (by omega) (by rw [b35]; rfl) (by decide) ?_
    refine g_aload_n (i := 0) (j := 0) (dk_SW_count 45 rfl) rfl rfl ?_
    obtain ⟨c36, h⟩ := p_gdE h
    refine g_getR fl_SW_18 (Or.inl ⟨_, rfl⟩) (dk_SW_count 46 rfl) c36 ?_
    obtain ⟨c37, h⟩ := p_gdE h
    refine g_getI fl_SW_342 (Or.inl rfl) (dk_SW_count 47 rfl) c37 ?_
    cases h
    exact g_ret rfl rfl (dk_SW_count 48 rfl) (fun os => ⟨_, rfl, p_okh os⟩)
  rcases p_iteE h with ⟨b38, h⟩ | ⟨b38, h⟩
  · refine g_tableIn 173 (dk_SW_count 1 rfl) (by omega) (by omega) (by rw [b38]; rfl) (by decide) ?_
    refine g_aload_n (i := 0) (j := 0) (dk_SW_count 49 rfl) rfl rfl ?_
    obtain ⟨c39, h⟩ := p_gdE h
    refine g_getI fl_SW_143 (Or.inl rfl) (dk_SW_count 50 rfl) c39 ?_
    cases h
    exact g_ret rfl rfl (dk_SW_count 51 rfl) (fun os => ⟨_, rfl, p_okh os⟩)
  rcases p_iteE h with ⟨b40, h⟩ | ⟨b40, h⟩
  · refine g_tableIn 178 (dk_SW_count 1 rfl) (by omega) (by omega) (by rw [b40]; rfl) (by decide) ?_
    refine g_aload_n (i := 0) (j := 0) (dk_SW_count 52 rfl) rfl rfl ?_
    obtain ⟨c41, h⟩ := p_gdE h
    refine g_getR fl_SW_18 (Or.inl ⟨_, rfl⟩) (dk_SW_count 53 rfl) c41 ?_
    obtain ⟨c42, h⟩ := p_gdE h
    refine g_getI fl_SW_164 (Or.inl rfl) (dk_SW_count 54 rfl) c42 ?_
    cases h
    exact g_ret rfl rfl (dk_SW_count 55 rfl) (fun os => ⟨_, rfl, p_okh os⟩)
  rcases p_iteE h with ⟨b43, h⟩ | ⟨b43, h⟩
  · refine g_tableIn 186 (dk_SW_count 1 rfl) (by omega) (by omega) (by rw [b43]; rfl) (by decide) ?_
    refine g_aload_n (i := 0) (j := 0) (dk_SW_count 56 rfl) rfl rfl ?_
    obtain ⟨c44, h⟩ := p_gdE h
    refine g_getR fl_SW_18 (Or.inl ⟨_, rfl⟩) (dk_SW_count 57 rfl) c44 ?_
    obtain ⟨c45, h⟩ := p_gdE h
    refine g_getI fl_SW_64 (Or.inl rfl) (dk_SW_count 58 rfl) c45 ?_
    cases h
    exact g_ret rfl rfl (dk_SW_count 59 rfl) (fun os => ⟨_, rfl, p_okh os⟩)
  rcases p_iteE h with ⟨b46, h⟩ | ⟨b46, h⟩
  · refine g_tableIn 194 (dk_SW_count 1 rfl) (by omega) (by omega) (by rw [b46]; rfl) (by decide) ?_
    refine g_aload_n (i := 0) (j := 0) (dk_SW_count 60 rfl) rfl rfl ?_
    obtain ⟨c47, h⟩ := p_gdE h
    refine g_getR fl_SW_25 (Or.inl ⟨_, rfl⟩) (dk_SW_count 61 rfl) c47 ?_
    obtain ⟨c48, h⟩ := p_gdE h
    refine g_getI fl_SW_194 (Or.inl rfl) (dk_SW_count 62 rfl) c48 ?_
    cases h
    exact g_ret rfl rfl (dk_SW_count 63 rfl) (fun os => ⟨_, rfl, p_okh os⟩)
  refine g_tableOut 202 (dk_SW_count 1 rfl) (by omega) (by decide) ?_
  refine g_bipush (dk_SW_count 64 rfl) (by decide +kernel) (by decide) ?_
  cases h
  exact g_ret rfl rfl (dk_SW_count 65 rfl) (fun os => ⟨_, rfl, p_okh os⟩)
def m_SW_mixed : p_Me := (⟨"SortWorks", "mixed", "(JI)J"⟩, prog_1_method_55_code, 3, (some .long), 0, 0)
theorem mt_SW_mixed : p_Mt m_SW_mixed 2 := ⟨p_mem (p_tb5 (List.mem_of_getElem? (i := 230) rfl)) rfl, tw_1_1, by decide +kernel, by decide +kernel, by decide +kernel⟩
def dt_SW_mixed : List (Nat × Instr × Nat) := [(0, .ldc2_w 373, 3), (3, .lload_n 0, 1), (4, .lmul, 1), (5, .iload_n 2, 1), (6, .i2l, 1), (7, .ladd, 1), (8, .lreturn, 1)]
theorem dk_SW_mixed (i : Nat) {pc : Nat} {ins : Instr} {len : Nat} (h : dt_SW_mixed[i]? = some (pc, ins, len)) : decode m_SW_mixed.2.1 pc = .ok (ins, len) := p_dk (b := m_SW_mixed.2.1) (t := dt_SW_mixed) (by decide +kernel) i h
def F_SW_mixed (v0 : Int) (v2 : Int) (s0 : p_Hp) : Option (Int × p_Hp) :=
  some ((p_w6 ((p_w6 (31 * v0)) + v2)), s0)
set_option maxRecDepth 100000 in
set_option maxHeartbeats 4000000 in
theorem tF_SW_mixed (K : p_K) (l : Launch) (v0 : Int) (v2 : Int) (s0 : p_Hp) (r : (Int × p_Hp)) (h : F_SW_mixed v0 v2 s0 = some r) : p_Ct K l m_SW_mixed [p_j v0, p_i v2] s0 (some (p_j r.1), r.2) := by
  refine p_Ct.of (by decide +kernel) (Nat.le_of_ble_eq_true rfl) ?_
  unfold F_SW_mixed at h
  show p_Go K l m_SW_mixed 0 [(0, p_j v0), (2, p_i v2)] [] s0 _
  refine g_ldc2_w (x := 31) (dk_SW_mixed 0 rfl) tw_5_231 (by decide) (by decide) ?_
  refine g_lload_n (i := 0) (j := 0) (dk_SW_mixed 1 rfl) rfl rfl ?_
  refine g_lmul (dk_SW_mixed 2 rfl) ?_
  refine g_iload_n (i := 2) (j := 1) (dk_SW_mixed 3 rfl) rfl rfl ?_
  refine g_i2l (dk_SW_mixed 4 rfl) ?_
  refine g_ladd (dk_SW_mixed 5 rfl) ?_
  cases h
  exact g_ret rfl rfl (dk_SW_mixed 6 rfl) (fun os => ⟨_, rfl, p_okh os⟩)
def m_SW_mixedGear : p_Me := (⟨"SortWorks", "mixedGear", "(JLSortWorks$Gear;)J"⟩, prog_1_method_56_code, 8, (some .long), 2, 43)
theorem mt_SW_mixedGear : p_Mt m_SW_mixedGear 2 := ⟨p_mem (p_tb5 (List.mem_of_getElem? (i := 235) rfl)) rfl, tw_1_1, by decide +kernel, by decide +kernel, by decide +kernel⟩
def dt_SW_mixedGear : List (Nat × Instr × Nat) := [(0, .lload_n 1, 1), (1, .aload_n 3, 1), (2, .getfield 136, 3), (5, .invokestatic 365, 3), (8, .lstore 4, 2), (10, .iconst 2, 1), (11, .istore 6, 2), (13, .iload 6, 2), (15, .bipush 14, 2), (17, .if_icmp .gt 22, 3), (20, .lload 4, 2), (22, .aload_n 3, 1), (23, .iload 6, 2), (25, .invokevirtual 298, 3), (28, .invokestatic 365, 3), (31, .lstore 4, 2), (33, .iinc 6 1, 3), (36, .goto (-23), 3), (39, .iconst 0, 1), (40, .istore 6, 2), (42, .iload 6, 2), (44, .aload_n 3, 1), (45, .getfield 92, 3), (48, .if_icmp .ge 67, 3), (51, .aload_n 0, 1), (52, .getfield 18, 3), (55, .getfield 77, 3), (58, .aload_n 3, 1), (59, .iload 6, 2), (61, .invokevirtual 301, 3), (64, .astore 7, 2), (66, .aload 7, 2), (68, .ifnonnull 12, 3), (71, .lload 4, 2), (73, .iconst 0, 1), (74, .invokestatic 365, 3), (77, .goto 30, 3), (80, .lload 4, 2), (82, .bipush 16, 2), (84, .aload 7, 2), (86, .getfield 375, 3), (89, .imul, 1), (90, .aload 7, 2), (92, .getfield 378, 3), (95, .iadd, 1), (96, .invokestatic 365, 3), (99, .aload 7, 2), (101, .getfield 238, 3), (104, .invokestatic 365, 3), (107, .lstore 4, 2), (109, .iinc 6 1, 3), (112, .goto (-70), 3), (115, .lload 4, 2), (117, .lreturn, 1)]
theorem dk_SW_mixedGear (i : Nat) {pc : Nat} {ins : Instr} {len : Nat} (h : dt_SW_mixedGear[i]? = some (pc, ins, len)) : decode m_SW_mixedGear.2.1 pc = .ok (ins, len) := p_dk (b := m_SW_mixedGear.2.1) (t := dt_SW_mixedGear) (by decide +kernel) i h
def B_SW_mixedGear_107 (k42 : Nat → Nat → Int → Int → p_Hp → Option (Int × p_Hp)) (v0 : Nat) (v3 : Nat) (v6 : Int) (w0 : Int) (s0 : p_Hp) : Option (Int × p_Hp) :=
  p_bi (p_w (v6 + 1)) fun x1 =>
  k42 v0 v3 w0 x1 s0
def L_SW_mixedGear_42 (k42 : Nat → Nat → Int → Int → p_Hp → Option (Int × p_Hp)) (v0 : Nat) (v3 : Nat) (v4 : Int) (v6 : Int) (s0 : p_Hp) : Option (Int × p_Hp) :=
  p_gd (p_is s0 v3 0) <|
  if (p_Z s0 v3 1) ≤ v6 then
    some (v4, s0)
  else
    p_gd (p_is s0 v0 10) <|
    p_gd (p_is s0 (p_R s0 v0 1) 9) <|
    p_gd (p_is s0 (p_R s0 (p_R s0 v0 1) 1) 7) <|
    p_bd (F_State_inSlot (p_R s0 (p_R s0 v0 1) 1) v3 v6 s0) fun r10 s6 =>
    if r10 ≠ 0 then
      p_gd (p_is s6 r10 4) <|
      p_bd (F_SW_mixed v4 (p_w ((p_w (16 * (p_Z s6 r10 2))) + (p_Z s6 r10 3))) s6) fun r17 s13 =>
      p_bd (F_SW_mixed r17 (p_Z s13 r10 4) s13) fun r22 s18 =>
      B_SW_mixedGear_107 k42 v0 v3 v6 r22 s18
    else
      p_bd (F_SW_mixed v4 0 s6) fun r27 s23 =>
      B_SW_mixedGear_107 k42 v0 v3 v6 r27 s23
def O_SW_mixedGear_42  : Nat → Nat → Nat → Int → Int → p_Hp → Option (Int × p_Hp)
  | 0 => fun _ _ _ _ _ => none
  | n + 1 => L_SW_mixedGear_42 (O_SW_mixedGear_42 n)
def L_SW_mixedGear_13 (k13 : Nat → Nat → Int → Int → p_Hp → Option (Int × p_Hp)) (v0 : Nat) (v3 : Nat) (v4 : Int) (v6 : Int) (s0 : p_Hp) : Option (Int × p_Hp) :=
  if 14 < v6 then
    O_SW_mixedGear_42 3000 v0 v3 v4 0 s0
  else
    p_gd (p_is s0 v3 0) <|
    p_bd (F_Gear_tell v3 v6 s0) fun r7 s3 =>
    p_bd (F_SW_mixed v4 r7 s3) fun r12 s8 =>
    p_bi (p_w (v6 + 1)) fun x13 =>
    k13 v0 v3 r12 x13 s8
def O_SW_mixedGear_13  : Nat → Nat → Nat → Int → Int → p_Hp → Option (Int × p_Hp)
  | 0 => fun _ _ _ _ _ => none
  | n + 1 => L_SW_mixedGear_13 (O_SW_mixedGear_13 n)
def F_SW_mixedGear (v0 : Nat) (v1 : Int) (v3 : Nat) (s0 : p_Hp) : Option (Int × p_Hp) :=
  p_gd (p_is s0 v3 0) <|
  p_bd (F_SW_mixed v1 (p_Z s0 v3 0) s0) fun r6 s2 =>
  O_SW_mixedGear_13 3000 v0 v3 r6 2 s2
set_option maxRecDepth 100000 in
set_option maxHeartbeats 4000000 in
theorem tB_SW_mixedGear_107 (K : p_K) (l : Launch) (k42 : Nat → Nat → Int → Int → p_Hp → Option (Int × p_Hp)) (hk42 : ∀ (v0 : Nat) (v3 : Nat) (v4 : Int) (v6 : Int)  (s0 : p_Hp) (r : (Int × p_Hp)), k42 v0 v3 v4 v6 s0 = some r → p_Go K l m_SW_mixedGear 42 [(0, p_r v0), (3, p_r v3), (4, p_j v4), (6, p_i v6)] [] s0 (some (p_j r.1), r.2)) (v0 : Nat) (v3 : Nat) (v6 : Int) (w0 : Int) (s0 : p_Hp) (r : (Int × p_Hp)) (h : B_SW_mixedGear_107 k42 v0 v3 v6 w0 s0 = some r) : p_Go K l m_SW_mixedGear 107 [(0, p_r v0), (3, p_r v3), (6, p_i v6)] [p_j w0] s0 (some (p_j r.1), r.2) := by
  unfold B_SW_mixedGear_107 at h
  refine g_lstore [(4, p_j w0), (0, p_r v0), (3, p_r v3), (6, p_i v6)] (dk_SW_mixedGear 49 rfl) (by decide) rfl ?_
  refine g_iinc (j := 3) [(6, p_i (p_w (v6 + 1))), (4, p_j w0), (0, p_r v0), (3, p_r v3)] (dk_SW_mixedGear 50 rfl) rfl (by decide) rfl ?_
  refine p_ltG (P := fun q => p_Go K l m_SW_mixedGear 112 [(6, p_i q), (4, p_j w0), (0, p_r v0), (3, p_r v3)] [] s0 _) ?_ h
  intro x1 h
  refine g_goto 42 (dk_SW_mixedGear 51 rfl) (by decide) ?_
  refine g_sub [(0, p_r v0), (3, p_r v3), (4, p_j w0), (6, p_i x1)] [2, 3, 1, 0] rfl ?_
  exact hk42 v0 v3 w0 x1 s0 _ h
set_option maxRecDepth 100000 in
set_option maxHeartbeats 4000000 in
theorem tL_SW_mixedGear_42 (K : p_K) (l : Launch) (k42 : Nat → Nat → Int → Int → p_Hp → Option (Int × p_Hp)) (hk42 : ∀ (v0 : Nat) (v3 : Nat) (v4 : Int) (v6 : Int)  (s0 : p_Hp) (r : (Int × p_Hp)), k42 v0 v3 v4 v6 s0 = some r → p_Go K l m_SW_mixedGear 42 [(0, p_r v0), (3, p_r v3), (4, p_j v4), (6, p_i v6)] [] s0 (some (p_j r.1), r.2)) (v0 : Nat) (v3 : Nat) (v4 : Int) (v6 : Int) (s0 : p_Hp) (r : (Int × p_Hp)) (h : L_SW_mixedGear_42 k42 v0 v3 v4 v6 s0 = some r) : p_Go K l m_SW_mixedGear 42 [(0, p_r v0), (3, p_r v3), (4, p_j v4), (6, p_i v6)] [] s0 (some (p_j r.1), r.2) := by
  unfold L_SW_mixedGear_42 at h
  refine g_iload (j := 3) (dk_SW_mixedGear 20 rfl) rfl ?_
  refine g_aload_n (i := 3) (j := 1) (dk_SW_mixedGear 21 rfl) rfl rfl ?_
  obtain ⟨c1, h⟩ := p_gdE h
  refine g_getI fl_SW_92 (Or.inl rfl) (dk_SW_mixedGear 22 rfl) c1 ?_
  refine g_icmp_ge 115 (dk_SW_mixedGear 23 rfl) (by decide) (fun b2 => ?_) (fun b2 => ?_)
  · have h := p_ifT b2 h
    refine g_lload (j := 2) (dk_SW_mixedGear 52 rfl) rfl ?_
    cases h
    exact g_ret rfl rfl (dk_SW_mixedGear 53 rfl) (fun os => ⟨_, rfl, p_okh os⟩)
  · have h := p_ifF b2 h
    refine g_aload_n (i := 0) (j := 0) (dk_SW_mixedGear 24 rfl) rfl rfl ?_
    obtain ⟨c3, h⟩ := p_gdE h
    refine g_getR fl_SW_18 (Or.inl ⟨_, rfl⟩) (dk_SW_mixedGear 25 rfl) c3 ?_
    obtain ⟨c4, h⟩ := p_gdE h
    refine g_getR fl_SW_77 (Or.inl ⟨_, rfl⟩) (dk_SW_mixedGear 26 rfl) c4 ?_
    refine g_aload_n (i := 3) (j := 1) (dk_SW_mixedGear 27 rfl) rfl rfl ?_
    refine g_iload (j := 3) (dk_SW_mixedGear 28 rfl) rfl ?_
    obtain ⟨c5, h⟩ := p_gdE h
    obtain ⟨r10, s6, q7, h⟩ := p_bdE h
    have t8 := tF_State_inSlot K l (p_R s0 (p_R s0 v0 1) 1) v3 v6 s0 _ q7
    refine g_callV (a := (p_R s0 (p_R s0 v0 1) 1)) (ci := 7) (q0 := (RX7, TX7, 9)) (As := [p_r v3, p_i v6]) (rest := []) [p_r r10] mt_State_inSlot rfl rfl tw_4_66 tw_4_67 tw_5_128 ⟨Nat.le_of_ble_eq_true rfl, Nat.le_of_ble_eq_true rfl⟩ rfl (Nat.le_of_ble_eq_true rfl) (dk_SW_mixedGear 29 rfl) rfl c5 rfl t8 ?_
    have hs9 : p_x s0 s6 := t8.1
    show p_Go K l m_SW_mixedGear 64 [(0, p_r v0), (3, p_r v3), (4, p_j v4), (6, p_i v6)] [p_r r10] s6 _
    refine g_astore [(7, p_r r10), (0, p_r v0), (3, p_r v3), (4, p_j v4), (6, p_i v6)] (dk_SW_mixedGear 30 rfl) (by decide) rfl ?_
    refine g_aload (j := 0) (dk_SW_mixedGear 31 rfl) rfl ?_
    refine g_ifnonnull 80 (dk_SW_mixedGear 32 rfl) (by decide) (fun b11 => ?_) (fun b11 => ?_)
    · have h := p_ifT b11 h
      refine g_lload (j := 3) (dk_SW_mixedGear 37 rfl) rfl ?_
      refine g_bipush (dk_SW_mixedGear 38 rfl) (by decide +kernel) (by decide) ?_
      refine g_aload (j := 0) (dk_SW_mixedGear 39 rfl) rfl ?_
      obtain ⟨c12, h⟩ := p_gdE h
      refine g_getI fl_SW_375 (Or.inl rfl) (dk_SW_mixedGear 40 rfl) c12 ?_
      refine g_imul (dk_SW_mixedGear 41 rfl) ?_
      refine g_aload (j := 0) (dk_SW_mixedGear 42 rfl) rfl ?_
      refine g_getI fl_SW_378 (Or.inl rfl) (dk_SW_mixedGear 43 rfl) c12 ?_
      refine g_iadd (dk_SW_mixedGear 44 rfl) ?_
      obtain ⟨r17, s13, q14, h⟩ := p_bdE h
      have t15 := tF_SW_mixed K l v4 (p_w ((p_w (16 * (p_Z s6 r10 2))) + (p_Z s6 r10 3))) s6 _ q14
      refine g_callS (av := [p_j v4, p_i (p_w ((p_w (16 * (p_Z s6 r10 2))) + (p_Z s6 r10 3)))]) (rest := []) [p_j r17] mt_SW_mixed tw_5_229 tw_5_228 ⟨Nat.le_of_ble_eq_true rfl, Nat.le_of_ble_eq_true rfl⟩ rfl (Nat.le_of_ble_eq_true rfl) (dk_SW_mixedGear 45 rfl) rfl rfl t15 ?_
      have hs16 : p_x s6 s13 := t15.1
      show p_Go K l m_SW_mixedGear 99 [(7, p_r r10), (0, p_r v0), (3, p_r v3), (4, p_j v4), (6, p_i v6)] [p_j r17] s13 _
      refine g_aload (j := 0) (dk_SW_mixedGear 46 rfl) rfl ?_
      refine g_getI fl_SW_238 (Or.inl rfl) (dk_SW_mixedGear 47 rfl) (c12.up hs16) ?_
      obtain ⟨r22, s18, q19, h⟩ := p_bdE h
      have t20 := tF_SW_mixed K l r17 (p_Z s13 r10 4) s13 _ q19
      refine g_callS (av := [p_j r17, p_i (p_Z s13 r10 4)]) (rest := []) [p_j r22] mt_SW_mixed tw_5_229 tw_5_228 ⟨Nat.le_of_ble_eq_true rfl, Nat.le_of_ble_eq_true rfl⟩ rfl (Nat.le_of_ble_eq_true rfl) (dk_SW_mixedGear 48 rfl) rfl rfl t20 ?_
      have hs21 : p_x s13 s18 := t20.1
      show p_Go K l m_SW_mixedGear 107 [(7, p_r r10), (0, p_r v0), (3, p_r v3), (4, p_j v4), (6, p_i v6)] [p_j r22] s18 _
      refine g_sub [(0, p_r v0), (3, p_r v3), (6, p_i v6)] [1, 2, 4] rfl ?_
      exact tB_SW_mixedGear_107 K l k42 hk42 v0 v3 v6 r22 s18 _ h
    · have h := p_ifF b11 h
      refine g_lload (j := 3) (dk_SW_mixedGear 33 rfl) rfl ?_
      refine g_iconst (dk_SW_mixedGear 34 rfl) (by decide) ?_
      obtain ⟨r27, s23, q24, h⟩ := p_bdE h
      have t25 := tF_SW_mixed K l v4 0 s6 _ q24
      refine g_callS (av := [p_j v4, p_i 0]) (rest := []) [p_j r27] mt_SW_mixed tw_5_229 tw_5_228 ⟨Nat.le_of_ble_eq_true rfl, Nat.le_of_ble_eq_true rfl⟩ rfl (Nat.le_of_ble_eq_true rfl) (dk_SW_mixedGear 35 rfl) rfl rfl t25 ?_
      have hs26 : p_x s6 s23 := t25.1
      show p_Go K l m_SW_mixedGear 77 [(7, p_r r10), (0, p_r v0), (3, p_r v3), (4, p_j v4), (6, p_i v6)] [p_j r27] s23 _
      refine g_goto 107 (dk_SW_mixedGear 36 rfl) (by decide) ?_
      refine g_sub [(0, p_r v0), (3, p_r v3), (6, p_i v6)] [1, 2, 4] rfl ?_
      exact tB_SW_mixedGear_107 K l k42 hk42 v0 v3 v6 r27 s23 _ h
set_option maxRecDepth 100000 in
set_option maxHeartbeats 4000000 in
theorem tO_SW_mixedGear_42 (K : p_K) (l : Launch)  : ∀ (n : Nat) (v0 : Nat) (v3 : Nat) (v4 : Int) (v6 : Int) (s0 : p_Hp) (r : (Int × p_Hp)), O_SW_mixedGear_42 n v0 v3 v4 v6 s0 = some r → p_Go K l m_SW_mixedGear 42 [(0, p_r v0), (3, p_r v3), (4, p_j v4), (6, p_i v6)] [] s0 (some (p_j r.1), r.2) := by
  intro n
  induction n with
  | zero => intro v0 v3 v4 v6 s0 r h; cases (show (none : Option (Int × p_Hp)) = some r from h)
  | succ n ih => intro v0 v3 v4 v6 s0 r h; exact tL_SW_mixedGear_42 K l _ ih v0 v3 v4 v6 s0 r h
set_option maxRecDepth 100000 in
set_option maxHeartbeats 4000000 in
theorem tL_SW_mixedGear_13 (K : p_K) (l : Launch) (k13 : Nat → Nat → Int → Int → p_Hp → Option (Int × p_Hp)) (hk13 : ∀ (v0 : Nat) (v3 : Nat) (v4 : Int) (v6 : Int)  (s0 : p_Hp) (r : (Int × p_Hp)), k13 v0 v3 v4 v6 s0 = some r → p_Go K l m_SW_mixedGear 13 [(0, p_r v0), (3, p_r v3), (4, p_j v4), (6, p_i v6)] [] s0 (some (p_j r.1), r.2)) (v0 : Nat) (v3 : Nat) (v4 : Int) (v6 : Int) (s0 : p_Hp) (r : (Int × p_Hp)) (h : L_SW_mixedGear_13 k13 v0 v3 v4 v6 s0 = some r) : p_Go K l m_SW_mixedGear 13 [(0, p_r v0), (3, p_r v3), (4, p_j v4), (6, p_i v6)] [] s0 (some (p_j r.1), r.2) := by
  unfold L_SW_mixedGear_13 at h
  refine g_iload (j := 3) (dk_SW_mixedGear 7 rfl) rfl ?_
  refine g_bipush (dk_SW_mixedGear 8 rfl) (by decide +kernel) (by decide) ?_
  refine g_icmp_gt 39 (dk_SW_mixedGear 9 rfl) (by decide) (fun b1 => ?_) (fun b1 => ?_)
  · have h := p_ifT b1 h
    refine g_iconst (dk_SW_mixedGear 18 rfl) (by decide) ?_
    refine g_istore [(6, p_i 0), (0, p_r v0), (3, p_r v3), (4, p_j v4)] (dk_SW_mixedGear 19 rfl) (by decide) rfl ?_
    refine g_sub [(0, p_r v0), (3, p_r v3), (4, p_j v4), (6, p_i 0)] [1, 2, 3, 0] rfl ?_
    exact tO_SW_mixedGear_42 K l 3000 v0 v3 v4 0 s0 _ h
  · have h := p_ifF b1 h
    refine g_lload (j := 2) (dk_SW_mixedGear 10 rfl) rfl ?_
    refine g_aload_n (i := 3) (j := 1) (dk_SW_mixedGear 11 rfl) rfl rfl ?_
    refine g_iload (j := 3) (dk_SW_mixedGear 12 rfl) rfl ?_
    obtain ⟨c2, h⟩ := p_gdE h
    obtain ⟨r7, s3, q4, h⟩ := p_bdE h
    have t5 := tF_Gear_tell K l v3 v6 s0 _ q4
    refine g_callV (a := v3) (ci := 0) (q0 := (RX0, TX0, 19)) (As := [p_i v6]) (rest := [p_j v4]) [p_i r7, p_j v4] mt_Gear_tell rfl rfl tw_5_119 tw_5_120 tw_5_118 ⟨Nat.le_of_ble_eq_true rfl, Nat.le_of_ble_eq_true rfl⟩ rfl (Nat.le_of_ble_eq_true rfl) (dk_SW_mixedGear 13 rfl) rfl c2 rfl t5 ?_
    have hs6 : p_x s0 s3 := t5.1
    show p_Go K l m_SW_mixedGear 28 [(0, p_r v0), (3, p_r v3), (4, p_j v4), (6, p_i v6)] [p_i r7, p_j v4] s3 _
    obtain ⟨r12, s8, q9, h⟩ := p_bdE h
    have t10 := tF_SW_mixed K l v4 r7 s3 _ q9
    refine g_callS (av := [p_j v4, p_i r7]) (rest := []) [p_j r12] mt_SW_mixed tw_5_229 tw_5_228 ⟨Nat.le_of_ble_eq_true rfl, Nat.le_of_ble_eq_true rfl⟩ rfl (Nat.le_of_ble_eq_true rfl) (dk_SW_mixedGear 14 rfl) rfl rfl t10 ?_
    have hs11 : p_x s3 s8 := t10.1
    show p_Go K l m_SW_mixedGear 31 [(0, p_r v0), (3, p_r v3), (4, p_j v4), (6, p_i v6)] [p_j r12] s8 _
    refine g_lstore [(4, p_j r12), (0, p_r v0), (3, p_r v3), (6, p_i v6)] (dk_SW_mixedGear 15 rfl) (by decide) rfl ?_
    refine g_iinc (j := 3) [(6, p_i (p_w (v6 + 1))), (4, p_j r12), (0, p_r v0), (3, p_r v3)] (dk_SW_mixedGear 16 rfl) rfl (by decide) rfl ?_
    refine p_ltG (P := fun q => p_Go K l m_SW_mixedGear 36 [(6, p_i q), (4, p_j r12), (0, p_r v0), (3, p_r v3)] [] s8 _) ?_ h
    intro x13 h
    refine g_goto 13 (dk_SW_mixedGear 17 rfl) (by decide) ?_
    refine g_sub [(0, p_r v0), (3, p_r v3), (4, p_j r12), (6, p_i x13)] [2, 3, 1, 0] rfl ?_
    exact hk13 v0 v3 r12 x13 s8 _ h
set_option maxRecDepth 100000 in
set_option maxHeartbeats 4000000 in
theorem tO_SW_mixedGear_13 (K : p_K) (l : Launch)  : ∀ (n : Nat) (v0 : Nat) (v3 : Nat) (v4 : Int) (v6 : Int) (s0 : p_Hp) (r : (Int × p_Hp)), O_SW_mixedGear_13 n v0 v3 v4 v6 s0 = some r → p_Go K l m_SW_mixedGear 13 [(0, p_r v0), (3, p_r v3), (4, p_j v4), (6, p_i v6)] [] s0 (some (p_j r.1), r.2) := by
  intro n
  induction n with
  | zero => intro v0 v3 v4 v6 s0 r h; cases (show (none : Option (Int × p_Hp)) = some r from h)
  | succ n ih => intro v0 v3 v4 v6 s0 r h; exact tL_SW_mixedGear_13 K l _ ih v0 v3 v4 v6 s0 r h
set_option maxRecDepth 100000 in
set_option maxHeartbeats 4000000 in
theorem tF_SW_mixedGear (K : p_K) (l : Launch) (v0 : Nat) (v1 : Int) (v3 : Nat) (s0 : p_Hp) (r : (Int × p_Hp)) (h : F_SW_mixedGear v0 v1 v3 s0 = some r) : p_Ct K l m_SW_mixedGear [p_r v0, p_j v1, p_r v3] s0 (some (p_j r.1), r.2) := by
  refine p_Ct.of (by decide +kernel) (Nat.le_of_ble_eq_true rfl) ?_
  unfold F_SW_mixedGear at h
  show p_Go K l m_SW_mixedGear 0 [(0, p_r v0), (1, p_j v1), (3, p_r v3)] [] s0 _
  refine g_lload_n (i := 1) (j := 1) (dk_SW_mixedGear 0 rfl) rfl rfl ?_
  refine g_aload_n (i := 3) (j := 2) (dk_SW_mixedGear 1 rfl) rfl rfl ?_
  obtain ⟨c1, h⟩ := p_gdE h
  refine g_getI fl_SW_136 (Or.inl rfl) (dk_SW_mixedGear 2 rfl) c1 ?_
  obtain ⟨r6, s2, q3, h⟩ := p_bdE h
  have t4 := tF_SW_mixed K l v1 (p_Z s0 v3 0) s0 _ q3
  refine g_callS (av := [p_j v1, p_i (p_Z s0 v3 0)]) (rest := []) [p_j r6] mt_SW_mixed tw_5_229 tw_5_228 ⟨Nat.le_of_ble_eq_true rfl, Nat.le_of_ble_eq_true rfl⟩ rfl (Nat.le_of_ble_eq_true rfl) (dk_SW_mixedGear 3 rfl) rfl rfl t4 ?_
  have hs5 : p_x s0 s2 := t4.1
  show p_Go K l m_SW_mixedGear 8 [(0, p_r v0), (1, p_j v1), (3, p_r v3)] [p_j r6] s2 _
  refine g_lstore [(4, p_j r6), (0, p_r v0), (1, p_j v1), (3, p_r v3)] (dk_SW_mixedGear 4 rfl) (by decide) rfl ?_
  refine g_iconst (dk_SW_mixedGear 5 rfl) (by decide) ?_
  refine g_istore [(6, p_i 2), (4, p_j r6), (0, p_r v0), (1, p_j v1), (3, p_r v3)] (dk_SW_mixedGear 6 rfl) (by decide) rfl ?_
  refine g_sub [(0, p_r v0), (3, p_r v3), (4, p_j r6), (6, p_i 2)] [2, 4, 1, 0] rfl ?_
  exact tO_SW_mixedGear_13 K l 3000 v0 v3 r6 2 s2 _ h
def m_SW_digest : p_Me := (⟨"SortWorks", "digest", "()J"⟩, prog_1_method_54_code, 5, (some .long), 3, 70)
theorem mt_SW_digest : p_Mt m_SW_digest 0 := ⟨p_mem (p_tb5 (List.mem_of_getElem? (i := 226) rfl)) rfl, tw_1_1, by decide +kernel, by decide +kernel, by decide +kernel⟩
def dt_SW_digest : List (Nat × Instr × Nat) := [(0, .aload_n 0, 1), (1, .getfield 18, 3), (4, .getfield 77, 3), (7, .astore_n 1, 1), (8, .ldc2_w 363, 3), (11, .aload_n 1, 1), (12, .getfield 274, 3), (15, .invokestatic 365, 3), (18, .aload_n 0, 1), (19, .getfield 18, 3), (22, .getfield 74, 3), (25, .invokestatic 365, 3), (28, .lstore_n 2, 1), (29, .iconst 0, 1), (30, .istore 4, 2), (32, .iload 4, 2), (34, .aload_n 0, 1), (35, .getfield 18, 3), (38, .getfield 74, 3), (41, .if_icmp .ge 22, 3), (44, .aload_n 0, 1), (45, .lload_n 2, 1), (46, .aload_n 1, 1), (47, .getfield 81, 3), (50, .iload 4, 2), (52, .aaload, 1), (53, .invokevirtual 369, 3), (56, .lstore_n 2, 1), (57, .iinc 4 1, 3), (60, .goto (-28), 3), (63, .lload_n 2, 1), (64, .aload_n 1, 1), (65, .getfield 358, 3), (68, .invokestatic 365, 3), (71, .aload_n 1, 1), (72, .getfield 361, 3), (75, .invokestatic 365, 3), (78, .aload_n 1, 1), (79, .getfield 315, 3), (82, .getfield 362, 3), (85, .invokestatic 365, 3), (88, .lstore_n 2, 1), (89, .lload_n 2, 1), (90, .aload_n 1, 1), (91, .getfield 339, 3), (94, .getfield 362, 3), (97, .invokestatic 365, 3), (100, .lreturn, 1)]
theorem dk_SW_digest (i : Nat) {pc : Nat} {ins : Instr} {len : Nat} (h : dt_SW_digest[i]? = some (pc, ins, len)) : decode m_SW_digest.2.1 pc = .ok (ins, len) := p_dk (b := m_SW_digest.2.1) (t := dt_SW_digest) (by decide +kernel) i h
def L_SW_digest_32 (k32 : Nat → Nat → Int → Int → p_Hp → Option (Int × p_Hp)) (v0 : Nat) (v1 : Nat) (v2 : Int) (v4 : Int) (s0 : p_Hp) : Option (Int × p_Hp) :=
  p_gd (p_is s0 v0 10) <|
  p_gd (p_is s0 (p_R s0 v0 1) 9) <|
  if (p_Z s0 (p_R s0 v0 1) 2) ≤ v4 then
    p_gd (p_is s0 v1 7) <|
    p_bd (F_SW_mixed v2 (p_Z s0 v1 2) s0) fun r9 s5 =>
    p_bd (F_SW_mixed r9 (p_Z s5 v1 1) s5) fun r14 s10 =>
    p_gd (p_is s10 (p_R s10 v1 8) 2) <|
    p_bd (F_SW_mixed r14 (p_Z s10 (p_R s10 v1 8) 3) s10) fun r20 s16 =>
    p_gd (p_is s16 (p_R s16 v1 7) 2) <|
    p_bd (F_SW_mixed r20 (p_Z s16 (p_R s16 v1 7) 3) s16) fun r26 s22 =>
    some (r26, s22)
  else
    p_gd (p_is s0 v1 7) <|
    p_gd (p_is s0 (p_R s0 v1 4) 105) <|
    p_gd ((0 : Int) ≤ v4 ∧ v4 < (p_L s0 (p_R s0 v1 4) : Int)) <|
    p_bd (F_SW_mixedGear v0 v2 (p_R s0 (p_R s0 v1 4) (v4 : Int).toNat) s0) fun r34 s30 =>
    p_bi (p_w (v4 + 1)) fun x35 =>
    k32 v0 v1 r34 x35 s30
def O_SW_digest_32  : Nat → Nat → Nat → Int → Int → p_Hp → Option (Int × p_Hp)
  | 0 => fun _ _ _ _ _ => none
  | n + 1 => L_SW_digest_32 (O_SW_digest_32 n)
def F_SW_digest (v0 : Nat) (s0 : p_Hp) : Option (Int × p_Hp) :=
  p_gd (p_is s0 v0 10) <|
  p_gd (p_is s0 (p_R s0 v0 1) 9) <|
  p_bi ((p_R s0 (p_R s0 v0 1) 1)) fun x3 =>
  p_gd (p_is s0 x3 7) <|
  p_bd (F_SW_mixed 17 (p_Z s0 x3 0) s0) fun r9 s5 =>
  p_gd (p_is s5 (p_R s5 v0 1) 9) <|
  p_bd (F_SW_mixed r9 (p_Z s5 (p_R s5 v0 1) 2) s5) fun r15 s11 =>
  O_SW_digest_32 3000 v0 x3 r15 0 s11
set_option maxRecDepth 100000 in
set_option maxHeartbeats 4000000 in
theorem tL_SW_digest_32 (K : p_K) (l : Launch) (k32 : Nat → Nat → Int → Int → p_Hp → Option (Int × p_Hp)) (hk32 : ∀ (v0 : Nat) (v1 : Nat) (v2 : Int) (v4 : Int)  (s0 : p_Hp) (r : (Int × p_Hp)), k32 v0 v1 v2 v4 s0 = some r → p_Go K l m_SW_digest 32 [(0, p_r v0), (1, p_r v1), (2, p_j v2), (4, p_i v4)] [] s0 (some (p_j r.1), r.2)) (v0 : Nat) (v1 : Nat) (v2 : Int) (v4 : Int) (s0 : p_Hp) (r : (Int × p_Hp)) (h : L_SW_digest_32 k32 v0 v1 v2 v4 s0 = some r) : p_Go K l m_SW_digest 32 [(0, p_r v0), (1, p_r v1), (2, p_j v2), (4, p_i v4)] [] s0 (some (p_j r.1), r.2) := by
  unfold L_SW_digest_32 at h
  refine g_iload (j := 3) (dk_SW_digest 15 rfl) rfl ?_
  refine g_aload_n (i := 0) (j := 0) (dk_SW_digest 16 rfl) rfl rfl ?_
  obtain ⟨c1, h⟩ := p_gdE h
  refine g_getR fl_SW_18 (Or.inl ⟨_, rfl⟩) (dk_SW_digest 17 rfl) c1 ?_
  obtain ⟨c2, h⟩ := p_gdE h
  refine g_getI fl_SW_74 (Or.inl rfl) (dk_SW_digest 18 rfl) c2 ?_
  refine g_icmp_ge 63 (dk_SW_digest 19 rfl) (by decide) (fun b3 => ?_) (fun b3 => ?_)
  · have h := p_ifT b3 h
    refine g_lload_n (i := 2) (j := 2) (dk_SW_digest 30 rfl) rfl rfl ?_
    refine g_aload_n (i := 1) (j := 1) (dk_SW_digest 31 rfl) rfl rfl ?_
    obtain ⟨c4, h⟩ := p_gdE h
    refine g_getI fl_SW_358 (Or.inl rfl) (dk_SW_digest 32 rfl) c4 ?_
    obtain ⟨r9, s5, q6, h⟩ := p_bdE h
    have t7 := tF_SW_mixed K l v2 (p_Z s0 v1 2) s0 _ q6
    refine g_callS (av := [p_j v2, p_i (p_Z s0 v1 2)]) (rest := []) [p_j r9] mt_SW_mixed tw_5_229 tw_5_228 ⟨Nat.le_of_ble_eq_true rfl, Nat.le_of_ble_eq_true rfl⟩ rfl (Nat.le_of_ble_eq_true rfl) (dk_SW_digest 33 rfl) rfl rfl t7 ?_
    have hs8 : p_x s0 s5 := t7.1
    show p_Go K l m_SW_digest 71 [(0, p_r v0), (1, p_r v1), (2, p_j v2), (4, p_i v4)] [p_j r9] s5 _
    refine g_aload_n (i := 1) (j := 1) (dk_SW_digest 34 rfl) rfl rfl ?_
    refine g_getI fl_SW_361 (Or.inl rfl) (dk_SW_digest 35 rfl) (c4.up hs8) ?_
    obtain ⟨r14, s10, q11, h⟩ := p_bdE h
    have t12 := tF_SW_mixed K l r9 (p_Z s5 v1 1) s5 _ q11
    refine g_callS (av := [p_j r9, p_i (p_Z s5 v1 1)]) (rest := []) [p_j r14] mt_SW_mixed tw_5_229 tw_5_228 ⟨Nat.le_of_ble_eq_true rfl, Nat.le_of_ble_eq_true rfl⟩ rfl (Nat.le_of_ble_eq_true rfl) (dk_SW_digest 36 rfl) rfl rfl t12 ?_
    have hs13 : p_x s5 s10 := t12.1
    show p_Go K l m_SW_digest 78 [(0, p_r v0), (1, p_r v1), (2, p_j v2), (4, p_i v4)] [p_j r14] s10 _
    refine g_aload_n (i := 1) (j := 1) (dk_SW_digest 37 rfl) rfl rfl ?_
    refine g_getR fl_SW_315 (Or.inl ⟨_, rfl⟩) (dk_SW_digest 38 rfl) (c4.up (hs8.trans hs13)) ?_
    obtain ⟨c15, h⟩ := p_gdE h
    refine g_getI fl_SW_362 (Or.inl rfl) (dk_SW_digest 39 rfl) c15 ?_
    obtain ⟨r20, s16, q17, h⟩ := p_bdE h
    have t18 := tF_SW_mixed K l r14 (p_Z s10 (p_R s10 v1 8) 3) s10 _ q17
    refine g_callS (av := [p_j r14, p_i (p_Z s10 (p_R s10 v1 8) 3)]) (rest := []) [p_j r20] mt_SW_mixed tw_5_229 tw_5_228 ⟨Nat.le_of_ble_eq_true rfl, Nat.le_of_ble_eq_true rfl⟩ rfl (Nat.le_of_ble_eq_true rfl) (dk_SW_digest 40 rfl) rfl rfl t18 ?_
    have hs19 : p_x s10 s16 := t18.1
    show p_Go K l m_SW_digest 88 [(0, p_r v0), (1, p_r v1), (2, p_j v2), (4, p_i v4)] [p_j r20] s16 _
    refine g_lstore_n (i := 2) [(2, p_j r20), (0, p_r v0), (1, p_r v1), (4, p_i v4)] (dk_SW_digest 41 rfl) rfl (by decide) rfl ?_
    refine g_lload_n (i := 2) (j := 0) (dk_SW_digest 42 rfl) rfl rfl ?_
    refine g_aload_n (i := 1) (j := 2) (dk_SW_digest 43 rfl) rfl rfl ?_
    refine g_getR fl_SW_339 (Or.inl ⟨_, rfl⟩) (dk_SW_digest 44 rfl) (c4.up (hs8.trans (hs13.trans hs19))) ?_
    obtain ⟨c21, h⟩ := p_gdE h
    refine g_getI fl_SW_362 (Or.inl rfl) (dk_SW_digest 45 rfl) c21 ?_
    obtain ⟨r26, s22, q23, h⟩ := p_bdE h
    have t24 := tF_SW_mixed K l r20 (p_Z s16 (p_R s16 v1 7) 3) s16 _ q23
    refine g_callS (av := [p_j r20, p_i (p_Z s16 (p_R s16 v1 7) 3)]) (rest := []) [p_j r26] mt_SW_mixed tw_5_229 tw_5_228 ⟨Nat.le_of_ble_eq_true rfl, Nat.le_of_ble_eq_true rfl⟩ rfl (Nat.le_of_ble_eq_true rfl) (dk_SW_digest 46 rfl) rfl rfl t24 ?_
    have hs25 : p_x s16 s22 := t24.1
    show p_Go K l m_SW_digest 100 [(2, p_j r20), (0, p_r v0), (1, p_r v1), (4, p_i v4)] [p_j r26] s22 _
    cases h
    exact g_ret rfl rfl (dk_SW_digest 47 rfl) (fun os => ⟨_, rfl, p_okh os⟩)
  · have h := p_ifF b3 h
    refine g_aload_n (i := 0) (j := 0) (dk_SW_digest 20 rfl) rfl rfl ?_
    refine g_lload_n (i := 2) (j := 2) (dk_SW_digest 21 rfl) rfl rfl ?_
    refine g_aload_n (i := 1) (j := 1) (dk_SW_digest 22 rfl) rfl rfl ?_
    obtain ⟨c27, h⟩ := p_gdE h
    refine g_getR fl_SW_81 (Or.inr ⟨_, rfl⟩) (dk_SW_digest 23 rfl) c27 ?_
    refine g_iload (j := 3) (dk_SW_digest 24 rfl) rfl ?_
    obtain ⟨c28, h⟩ := p_gdE h
    obtain ⟨c29, h⟩ := p_gdE h
    refine g_aaload (i := 5) rfl (Or.inl ⟨_, rfl⟩) (dk_SW_digest 25 rfl) c28 c29.1 c29.2 ?_
    obtain ⟨r34, s30, q31, h⟩ := p_bdE h
    have t32 := tF_SW_mixedGear K l v0 v2 (p_R s0 (p_R s0 v1 4) (v4 : Int).toNat) s0 _ q31
    refine g_callV (a := v0) (ci := 10) (q0 := (RX10, TX10, 9)) (As := [p_j v2, p_r (p_R s0 (p_R s0 v1 4) (v4 : Int).toNat)]) (rest := []) [p_j r34] mt_SW_mixedGear rfl rfl tw_5_234 ts_42 tw_5_232 ⟨Nat.le_of_ble_eq_true rfl, Nat.le_of_ble_eq_true rfl⟩ rfl (Nat.le_of_ble_eq_true rfl) (dk_SW_digest 26 rfl) rfl c1 rfl t32 ?_
    have hs33 : p_x s0 s30 := t32.1
    show p_Go K l m_SW_digest 56 [(0, p_r v0), (1, p_r v1), (2, p_j v2), (4, p_i v4)] [p_j r34] s30 _
    refine g_lstore_n (i := 2) [(2, p_j r34), (0, p_r v0), (1, p_r v1), (4, p_i v4)] (dk_SW_digest 27 rfl) rfl (by decide) rfl ?_
    refine g_iinc (j := 3) [(4, p_i (p_w (v4 + 1))), (2, p_j r34), (0, p_r v0), (1, p_r v1)] (dk_SW_digest 28 rfl) rfl (by decide) rfl ?_
    refine p_ltG (P := fun q => p_Go K l m_SW_digest 60 [(4, p_i q), (2, p_j r34), (0, p_r v0), (1, p_r v1)] [] s30 _) ?_ h
    intro x35 h
    refine g_goto 32 (dk_SW_digest 29 rfl) (by decide) ?_
    refine g_sub [(0, p_r v0), (1, p_r v1), (2, p_j r34), (4, p_i x35)] [2, 3, 1, 0] rfl ?_
    exact hk32 v0 v1 r34 x35 s30 _ h
set_option maxRecDepth 100000 in
set_option maxHeartbeats 4000000 in
theorem tO_SW_digest_32 (K : p_K) (l : Launch)  : ∀ (n : Nat) (v0 : Nat) (v1 : Nat) (v2 : Int) (v4 : Int) (s0 : p_Hp) (r : (Int × p_Hp)), O_SW_digest_32 n v0 v1 v2 v4 s0 = some r → p_Go K l m_SW_digest 32 [(0, p_r v0), (1, p_r v1), (2, p_j v2), (4, p_i v4)] [] s0 (some (p_j r.1), r.2) := by
  intro n
  induction n with
  | zero => intro v0 v1 v2 v4 s0 r h; cases (show (none : Option (Int × p_Hp)) = some r from h)
  | succ n ih => intro v0 v1 v2 v4 s0 r h; exact tL_SW_digest_32 K l _ ih v0 v1 v2 v4 s0 r h
set_option maxRecDepth 100000 in
set_option maxHeartbeats 4000000 in
theorem tF_SW_digest (K : p_K) (l : Launch) (v0 : Nat) (s0 : p_Hp) (r : (Int × p_Hp)) (h : F_SW_digest v0 s0 = some r) : p_Ct K l m_SW_digest [p_r v0] s0 (some (p_j r.1), r.2) := by
  refine p_Ct.of (by decide +kernel) (Nat.le_of_ble_eq_true rfl) ?_
  unfold F_SW_digest at h
  show p_Go K l m_SW_digest 0 [(0, p_r v0)] [] s0 _
  refine g_aload_n (i := 0) (j := 0) (dk_SW_digest 0 rfl) rfl rfl ?_
  obtain ⟨c1, h⟩ := p_gdE h
  refine g_getR fl_SW_18 (Or.inl ⟨_, rfl⟩) (dk_SW_digest 1 rfl) c1 ?_
  obtain ⟨c2, h⟩ := p_gdE h
  refine g_getR fl_SW_77 (Or.inl ⟨_, rfl⟩) (dk_SW_digest 2 rfl) c2 ?_
  refine g_astore_n (i := 1) [(1, p_r (p_R s0 (p_R s0 v0 1) 1)), (0, p_r v0)] (dk_SW_digest 3 rfl) rfl (by decide) rfl ?_
  refine p_ltG (P := fun q => p_Go K l m_SW_digest 8 [(1, p_r q), (0, p_r v0)] [] s0 _) ?_ h
  intro x3 h
  refine g_ldc2_w (x := 17) (dk_SW_digest 4 rfl) tw_5_227 (by decide) (by decide) ?_
  refine g_aload_n (i := 1) (j := 0) (dk_SW_digest 5 rfl) rfl rfl ?_
  obtain ⟨c4, h⟩ := p_gdE h
  refine g_getI fl_SW_274 (Or.inl rfl) (dk_SW_digest 6 rfl) c4 ?_
  obtain ⟨r9, s5, q6, h⟩ := p_bdE h
  have t7 := tF_SW_mixed K l 17 (p_Z s0 x3 0) s0 _ q6
  refine g_callS (av := [p_j 17, p_i (p_Z s0 x3 0)]) (rest := []) [p_j r9] mt_SW_mixed tw_5_229 tw_5_228 ⟨Nat.le_of_ble_eq_true rfl, Nat.le_of_ble_eq_true rfl⟩ rfl (Nat.le_of_ble_eq_true rfl) (dk_SW_digest 7 rfl) rfl rfl t7 ?_
  have hs8 : p_x s0 s5 := t7.1
  show p_Go K l m_SW_digest 18 [(1, p_r x3), (0, p_r v0)] [p_j r9] s5 _
  refine g_aload_n (i := 0) (j := 1) (dk_SW_digest 8 rfl) rfl rfl ?_
  refine g_getR fl_SW_18 (Or.inl ⟨_, rfl⟩) (dk_SW_digest 9 rfl) (c1.up hs8) ?_
  obtain ⟨c10, h⟩ := p_gdE h
  refine g_getI fl_SW_74 (Or.inl rfl) (dk_SW_digest 10 rfl) c10 ?_
  obtain ⟨r15, s11, q12, h⟩ := p_bdE h
  have t13 := tF_SW_mixed K l r9 (p_Z s5 (p_R s5 v0 1) 2) s5 _ q12
  refine g_callS (av := [p_j r9, p_i (p_Z s5 (p_R s5 v0 1) 2)]) (rest := []) [p_j r15] mt_SW_mixed tw_5_229 tw_5_228 ⟨Nat.le_of_ble_eq_true rfl, Nat.le_of_ble_eq_true rfl⟩ rfl (Nat.le_of_ble_eq_true rfl) (dk_SW_digest 11 rfl) rfl rfl t13 ?_
  have hs14 : p_x s5 s11 := t13.1
  show p_Go K l m_SW_digest 28 [(1, p_r x3), (0, p_r v0)] [p_j r15] s11 _
  refine g_lstore_n (i := 2) [(2, p_j r15), (1, p_r x3), (0, p_r v0)] (dk_SW_digest 12 rfl) rfl (by decide) rfl ?_
  refine g_iconst (dk_SW_digest 13 rfl) (by decide) ?_
  refine g_istore [(4, p_i 0), (2, p_j r15), (1, p_r x3), (0, p_r v0)] (dk_SW_digest 14 rfl) (by decide) rfl ?_
  refine g_sub [(0, p_r v0), (1, p_r x3), (2, p_j r15), (4, p_i 0)] [3, 2, 1, 0] rfl ?_
  exact tO_SW_digest_32 K l 3000 v0 x3 r15 0 s11 _ h
def m_Mo_init : p_Me := (⟨"SortWorksModel", "<init>", "()V"⟩, prog_13_method_1_code, 2, none, 1, 20)
theorem mt_Mo_init : p_Mt m_Mo_init 0 := ⟨p_mem (p_tb6 (List.mem_of_getElem? (i := 0) rfl)) rfl, tw_1_12, by decide +kernel, by decide +kernel, by decide +kernel⟩
def dt_Mo_init : List (Nat × Instr × Nat) := [(0, .aload_n 0, 1), (1, .invokespecial 1, 3), (4, .aload_n 0, 1), (5, .iconst 3, 1), (6, .newarray .int, 2), (8, .putfield 7, 3), (11, .aload_n 0, 1), (12, .iconst 3, 1), (13, .newarray .int, 2), (15, .putfield 13, 3), (18, .aload_n 0, 1), (19, .bipush 120, 2), (21, .newarray .int, 2), (23, .putfield 16, 3), (26, .aload_n 0, 1), (27, .bipush 120, 2), (29, .newarray .int, 2), (31, .putfield 19, 3), (34, .aload_n 0, 1), (35, .bipush 120, 2), (37, .newarray .int, 2), (39, .putfield 22, 3), (42, .aload_n 0, 1), (43, .sipush 360, 3), (46, .newarray .int, 2), (48, .putfield 25, 3), (51, .aload_n 0, 1), (52, .bipush 120, 2), (54, .newarray .int, 2), (56, .putfield 28, 3), (59, .aload_n 0, 1), (60, .bipush 120, 2), (62, .newarray .int, 2), (64, .putfield 31, 3), (67, .aload_n 0, 1), (68, .sipush 240, 3), (71, .newarray .long, 2), (73, .putfield 34, 3), (76, .aload_n 0, 1), (77, .bipush 120, 2), (79, .newarray .int, 2), (81, .putfield 38, 3), (84, .aload_n 0, 1), (85, .bipush 120, 2), (87, .newarray .int, 2), (89, .putfield 41, 3), (92, .aload_n 0, 1), (93, .bipush 120, 2), (95, .newarray .boolean, 2), (97, .putfield 44, 3), (100, .aload_n 0, 1), (101, .bipush 120, 2), (103, .newarray .int, 2), (105, .putfield 48, 3), (108, .aload_n 0, 1), (109, .bipush 120, 2), (111, .newarray .int, 2), (113, .putfield 51, 3), (116, .aload_n 0, 1), (117, .bipush 120, 2), (119, .newarray .int, 2), (121, .putfield 54, 3), (124, .aload_n 0, 1), (125, .bipush 120, 2), (127, .newarray .int, 2), (129, .putfield 57, 3), (132, .aload_n 0, 1), (133, .bipush 120, 2), (135, .newarray .int, 2), (137, .putfield 60, 3), (140, .aload_n 0, 1), (141, .bipush 120, 2), (143, .newarray .int, 2), (145, .putfield 63, 3), (148, .aload_n 0, 1), (149, .bipush 120, 2), (151, .newarray .int, 2), (153, .putfield 66, 3), (156, .aload_n 0, 1), (157, .sipush 960, 3), (160, .newarray .int, 2), (162, .putfield 69, 3), (165, .aload_n 0, 1), (166, .sipush 2001, 3), (169, .newarray .int, 2), (171, .putfield 72, 3), (174, .aload_n 0, 1), (175, .sipush 2001, 3), (178, .newarray .int, 2), (180, .putfield 75, 3), (183, .aload_n 0, 1), (184, .sipush 2001, 3), (187, .newarray .int, 2), (189, .putfield 78, 3), (192, .aload_n 0, 1), (193, .sipush 2001, 3), (196, .newarray .int, 2), (198, .putfield 81, 3), (201, .aload_n 0, 1), (202, .sipush 2001, 3), (205, .newarray .int, 2), (207, .putfield 84, 3), (210, .aload_n 0, 1), (211, .sipush 2001, 3), (214, .newarray .int, 2), (216, .putfield 87, 3), (219, .aload_n 0, 1), (220, .sipush 2001, 3), (223, .newarray .int, 2), (225, .putfield 90, 3), (228, .aload_n 0, 1), (229, .sipush 2001, 3), (232, .newarray .int, 2), (234, .putfield 93, 3), (237, .aload_n 0, 1), (238, .sipush 24012, 3), (241, .newarray .int, 2), (243, .putfield 96, 3), (246, .aload_n 0, 1), (247, .sipush 2001, 3), (250, .newarray .int, 2), (252, .putfield 99, 3), (255, .aload_n 0, 1), (256, .sipush 32016, 3), (259, .newarray .int, 2), (261, .putfield 102, 3), (264, .aload_n 0, 1), (265, .sipush 2001, 3), (268, .newarray .boolean, 2), (270, .putfield 105, 3), (273, .aload_n 0, 1), (274, .sipush 2001, 3), (277, .newarray .boolean, 2), (279, .putfield 108, 3), (282, .aload_n 0, 1), (283, .sipush 2001, 3), (286, .newarray .int, 2), (288, .putfield 111, 3), (291, .aload_n 0, 1), (292, .iconst 3, 1), (293, .newarray .int, 2), (295, .putfield 114, 3), (298, .aload_n 0, 1), (299, .iconst 3, 1), (300, .newarray .int, 2), (302, .putfield 117, 3), (305, .aload_n 0, 1), (306, .iconst 3, 1), (307, .newarray .int, 2), (309, .putfield 120, 3), (312, .aload_n 0, 1), (313, .sipush 360, 3), (316, .newarray .int, 2), (318, .putfield 123, 3), (321, .aload_n 0, 1), (322, .iconst 3, 1), (323, .newarray .int, 2), (325, .putfield 126, 3), (328, .aload_n 0, 1), (329, .sipush 600, 3), (332, .newarray .int, 2), (334, .putfield 129, 3), (337, .aload_n 0, 1), (338, .iconst 3, 1), (339, .newarray .int, 2), (341, .putfield 132, 3), (344, .aload_n 0, 1), (345, .sipush 180, 3), (348, .newarray .int, 2), (350, .putfield 135, 3), (353, .aload_n 0, 1), (354, .sipush 200, 3), (357, .newarray .int, 2), (359, .putfield 138, 3), (362, .aload_n 0, 1), (363, .iconst 3, 1), (364, .newarray .int, 2), (366, .putfield 141, 3), (369, .aload_n 0, 1), (370, .bipush 36, 2), (372, .newarray .int, 2), (374, .putfield 144, 3), (377, .aload_n 0, 1), (378, .bipush 36, 2), (380, .newarray .int, 2), (382, .putfield 147, 3), (385, .aload_n 0, 1), (386, .bipush 36, 2), (388, .newarray .int, 2), (390, .putfield 150, 3), (393, .aload_n 0, 1), (394, .sipush 144, 3), (397, .newarray .int, 2), (399, .putfield 153, 3), (402, .aload_n 0, 1), (403, .sipush 144, 3), (406, .newarray .int, 2), (408, .putfield 156, 3), (411, .aload_n 0, 1), (412, .sipush 144, 3), (415, .newarray .int, 2), (417, .putfield 159, 3), (420, .aload_n 0, 1), (421, .sipush 144, 3), (424, .newarray .int, 2), (426, .putfield 162, 3), (429, .aload_n 0, 1), (430, .iconst 3, 1), (431, .newarray .int, 2), (433, .putfield 165, 3), (436, .aload_n 0, 1), (437, .bipush 48, 2), (439, .newarray .int, 2), (441, .putfield 168, 3), (444, .aload_n 0, 1), (445, .sipush 192, 3), (448, .newarray .int, 2), (450, .putfield 171, 3), (453, .aload_n 0, 1), (454, .bipush 12, 2), (456, .newarray .int, 2), (458, .putfield 174, 3), (461, .aload_n 0, 1), (462, .bipush 12, 2), (464, .newarray .int, 2), (466, .putfield 177, 3), (469, .aload_n 0, 1), (470, .bipush 96, 2), (472, .newarray .int, 2), (474, .putfield 180, 3), (477, .aload_n 0, 1), (478, .bipush 12, 2), (480, .newarray .int, 2), (482, .putfield 183, 3), (485, .aload_n 0, 1), (486, .bipush 12, 2), (488, .newarray .int, 2), (490, .putfield 186, 3), (493, .aload_n 0, 1), (494, .bipush 48, 2), (496, .newarray .int, 2), (498, .putfield 189, 3), (501, .aload_n 0, 1), (502, .bipush 48, 2), (504, .newarray .int, 2), (506, .putfield 192, 3), (509, .aload_n 0, 1), (510, .bipush 48, 2), (512, .newarray .int, 2), (514, .putfield 195, 3), (517, .aload_n 0, 1), (518, .bipush 48, 2), (520, .newarray .int, 2), (522, .putfield 198, 3), (525, .aload_n 0, 1), (526, .bipush 40, 2), (528, .newarray .int, 2), (530, .putfield 201, 3), (533, .aload_n 0, 1), (534, .bipush 8, 2), (536, .newarray .int, 2), (538, .putfield 204, 3), (541, .aload_n 0, 1), (542, .iconst 3, 1), (543, .newarray .int, 2), (545, .putfield 207, 3), (548, .aload_n 0, 1), (549, .iconst 3, 1), (550, .newarray .int, 2), (552, .putfield 210, 3), (555, .aload_n 0, 1), (556, .ldc 213, 2), (558, .newarray .int, 2), (560, .putfield 214, 3), (563, .aload_n 0, 1), (564, .bipush 40, 2), (566, .newarray .int, 2), (568, .putfield 217, 3), (571, .iconst 0, 1), (572, .istore_n 1, 1), (573, .iload_n 1, 1), (574, .bipush 12, 2), (576, .if_icmp .ge 16, 3), (579, .aload_n 0, 1), (580, .getfield 174, 3), (583, .iload_n 1, 1), (584, .iconst (-1), 1), (585, .iastore, 1), (586, .iinc 1 1, 3), (589, .goto (-16), 3), (592, .return_, 1)]
theorem dk_Mo_init (i : Nat) {pc : Nat} {ins : Instr} {len : Nat} (h : dt_Mo_init[i]? = some (pc, ins, len)) : decode m_Mo_init.2.1 pc = .ok (ins, len) := p_dk (b := m_Mo_init.2.1) (t := dt_Mo_init) (by decide +kernel) i h
def L_Mo_init_573 (k573 : Nat → Int → p_Hp → Option p_Hp) (v0 : Nat) (v1 : Int) (s0 : p_Hp) : Option p_Hp :=
  if 12 ≤ v1 then
    some s0
  else
    p_gd (p_is s0 v0 11) <|
    p_gd (p_is s0 (p_R s0 v0 59) 100) <|
    p_gd ((0 : Int) ≤ v1 ∧ v1 < (p_L s0 (p_R s0 v0 59) : Int)) <|
    p_bi (p_wZ s0 (p_R s0 v0 59) (v1 : Int).toNat (-1)) fun s5 =>
    p_bi (p_w (v1 + 1)) fun x7 =>
    k573 v0 x7 s5
def O_Mo_init_573  : Nat → Nat → Int → p_Hp → Option p_Hp
  | 0 => fun _ _ _ => none
  | n + 1 => L_Mo_init_573 (O_Mo_init_573 n)
def B_Mo_init_420  (v0 : Nat) (s0 : p_Hp) : Option p_Hp :=
  p_bi (p_nw s0 100 144) fun s1 =>
  p_gd (p_is s1 v0 11) <|
  p_bi (p_wR s1 v0 55 (p_N s0 + 1)) fun s4 =>
  p_bi (p_nw s4 100 3) fun s6 =>
  p_bi (p_wR s6 v0 56 (p_N s4 + 1)) fun s8 =>
  p_bi (p_nw s8 100 48) fun s10 =>
  p_bi (p_wR s10 v0 57 (p_N s8 + 1)) fun s12 =>
  p_bi (p_nw s12 100 192) fun s14 =>
  p_bi (p_wR s14 v0 58 (p_N s12 + 1)) fun s16 =>
  p_bi (p_nw s16 100 12) fun s18 =>
  p_bi (p_wR s18 v0 59 (p_N s16 + 1)) fun s20 =>
  p_bi (p_nw s20 100 12) fun s22 =>
  p_bi (p_wR s22 v0 60 (p_N s20 + 1)) fun s24 =>
  p_bi (p_nw s24 100 96) fun s26 =>
  p_bi (p_wR s26 v0 61 (p_N s24 + 1)) fun s28 =>
  p_bi (p_nw s28 100 12) fun s30 =>
  p_bi (p_wR s30 v0 62 (p_N s28 + 1)) fun s32 =>
  p_bi (p_nw s32 100 12) fun s34 =>
  p_bi (p_wR s34 v0 63 (p_N s32 + 1)) fun s36 =>
  p_bi (p_nw s36 100 48) fun s38 =>
  p_bi (p_wR s38 v0 64 (p_N s36 + 1)) fun s40 =>
  p_bi (p_nw s40 100 48) fun s42 =>
  p_bi (p_wR s42 v0 65 (p_N s40 + 1)) fun s44 =>
  p_bi (p_nw s44 100 48) fun s46 =>
  p_bi (p_wR s46 v0 66 (p_N s44 + 1)) fun s48 =>
  p_bi (p_nw s48 100 48) fun s50 =>
  p_bi (p_wR s50 v0 67 (p_N s48 + 1)) fun s52 =>
  p_bi (p_nw s52 100 40) fun s54 =>
  p_bi (p_wR s54 v0 74 (p_N s52 + 1)) fun s56 =>
  p_bi (p_nw s56 100 8) fun s58 =>
  p_bi (p_wR s58 v0 79 (p_N s56 + 1)) fun s60 =>
  p_bi (p_nw s60 100 3) fun s62 =>
  p_bi (p_wR s62 v0 81 (p_N s60 + 1)) fun s64 =>
  p_bi (p_nw s64 100 3) fun s66 =>
  p_bi (p_wR s66 v0 82 (p_N s64 + 1)) fun s68 =>
  p_bi (p_nw s68 100 234000) fun s70 =>
  p_bi (p_wR s70 v0 83 (p_N s68 + 1)) fun s72 =>
  p_bi (p_nw s72 100 40) fun s74 =>
  p_bi (p_wR s74 v0 88 (p_N s72 + 1)) fun s76 =>
  O_Mo_init_573 3000 v0 0 s76
def B_Mo_init_210  (v0 : Nat) (s0 : p_Hp) : Option p_Hp :=
  p_bi (p_nw s0 100 2001) fun s1 =>
  p_gd (p_is s1 v0 11) <|
  p_bi (p_wR s1 v0 29 (p_N s0 + 1)) fun s4 =>
  p_bi (p_nw s4 100 2001) fun s6 =>
  p_bi (p_wR s6 v0 30 (p_N s4 + 1)) fun s8 =>
  p_bi (p_nw s8 100 2001) fun s10 =>
  p_bi (p_wR s10 v0 31 (p_N s8 + 1)) fun s12 =>
  p_bi (p_nw s12 100 24012) fun s14 =>
  p_bi (p_wR s14 v0 32 (p_N s12 + 1)) fun s16 =>
  p_bi (p_nw s16 100 2001) fun s18 =>
  p_bi (p_wR s18 v0 33 (p_N s16 + 1)) fun s20 =>
  p_bi (p_nw s20 100 32016) fun s22 =>
  p_bi (p_wR s22 v0 34 (p_N s20 + 1)) fun s24 =>
  p_bi (p_nw s24 102 2001) fun s26 =>
  p_bi (p_wR s26 v0 35 (p_N s24 + 1)) fun s28 =>
  p_bi (p_nw s28 102 2001) fun s30 =>
  p_bi (p_wR s30 v0 36 (p_N s28 + 1)) fun s32 =>
  p_bi (p_nw s32 100 2001) fun s34 =>
  p_bi (p_wR s34 v0 37 (p_N s32 + 1)) fun s36 =>
  p_bi (p_nw s36 100 3) fun s38 =>
  p_bi (p_wR s38 v0 38 (p_N s36 + 1)) fun s40 =>
  p_bi (p_nw s40 100 3) fun s42 =>
  p_bi (p_wR s42 v0 39 (p_N s40 + 1)) fun s44 =>
  p_bi (p_nw s44 100 3) fun s46 =>
  p_bi (p_wR s46 v0 40 (p_N s44 + 1)) fun s48 =>
  p_bi (p_nw s48 100 360) fun s50 =>
  p_bi (p_wR s50 v0 41 (p_N s48 + 1)) fun s52 =>
  p_bi (p_nw s52 100 3) fun s54 =>
  p_bi (p_wR s54 v0 42 (p_N s52 + 1)) fun s56 =>
  p_bi (p_nw s56 100 600) fun s58 =>
  p_bi (p_wR s58 v0 43 (p_N s56 + 1)) fun s60 =>
  p_bi (p_nw s60 100 3) fun s62 =>
  p_bi (p_wR s62 v0 44 (p_N s60 + 1)) fun s64 =>
  p_bi (p_nw s64 100 180) fun s66 =>
  p_bi (p_wR s66 v0 45 (p_N s64 + 1)) fun s68 =>
  p_bi (p_nw s68 100 200) fun s70 =>
  p_bi (p_wR s70 v0 46 (p_N s68 + 1)) fun s72 =>
  p_bi (p_nw s72 100 3) fun s74 =>
  p_bi (p_wR s74 v0 48 (p_N s72 + 1)) fun s76 =>
  p_bi (p_nw s76 100 36) fun s78 =>
  p_bi (p_wR s78 v0 49 (p_N s76 + 1)) fun s80 =>
  p_bi (p_nw s80 100 36) fun s82 =>
  p_bi (p_wR s82 v0 50 (p_N s80 + 1)) fun s84 =>
  p_bi (p_nw s84 100 36) fun s86 =>
  p_bi (p_wR s86 v0 51 (p_N s84 + 1)) fun s88 =>
  p_bi (p_nw s88 100 144) fun s90 =>
  p_bi (p_wR s90 v0 52 (p_N s88 + 1)) fun s92 =>
  p_bi (p_nw s92 100 144) fun s94 =>
  p_bi (p_wR s94 v0 53 (p_N s92 + 1)) fun s96 =>
  p_bi (p_nw s96 100 144) fun s98 =>
  p_bi (p_wR s98 v0 54 (p_N s96 + 1)) fun s100 =>
  B_Mo_init_420 v0 s100
def F_Mo_init (v0 : Nat) (s0 : p_Hp) : Option p_Hp :=
  p_gd (1 ≤ v0) <|
  p_bi (p_nw s0 100 3) fun s2 =>
  p_gd (p_is s2 v0 11) <|
  p_bi (p_wR s2 v0 3 (p_N s0 + 1)) fun s5 =>
  p_bi (p_nw s5 100 3) fun s7 =>
  p_bi (p_wR s7 v0 4 (p_N s5 + 1)) fun s9 =>
  p_bi (p_nw s9 100 120) fun s11 =>
  p_bi (p_wR s11 v0 5 (p_N s9 + 1)) fun s13 =>
  p_bi (p_nw s13 100 120) fun s15 =>
  p_bi (p_wR s15 v0 6 (p_N s13 + 1)) fun s17 =>
  p_bi (p_nw s17 100 120) fun s19 =>
  p_bi (p_wR s19 v0 7 (p_N s17 + 1)) fun s21 =>
  p_bi (p_nw s21 100 360) fun s23 =>
  p_bi (p_wR s23 v0 8 (p_N s21 + 1)) fun s25 =>
  p_bi (p_nw s25 100 120) fun s27 =>
  p_bi (p_wR s27 v0 9 (p_N s25 + 1)) fun s29 =>
  p_bi (p_nw s29 100 120) fun s31 =>
  p_bi (p_wR s31 v0 10 (p_N s29 + 1)) fun s33 =>
  p_bi (p_nw s33 101 240) fun s35 =>
  p_bi (p_wR s35 v0 11 (p_N s33 + 1)) fun s37 =>
  p_bi (p_nw s37 100 120) fun s39 =>
  p_bi (p_wR s39 v0 12 (p_N s37 + 1)) fun s41 =>
  p_bi (p_nw s41 100 120) fun s43 =>
  p_bi (p_wR s43 v0 13 (p_N s41 + 1)) fun s45 =>
  p_bi (p_nw s45 102 120) fun s47 =>
  p_bi (p_wR s47 v0 14 (p_N s45 + 1)) fun s49 =>
  p_bi (p_nw s49 100 120) fun s51 =>
  p_bi (p_wR s51 v0 15 (p_N s49 + 1)) fun s53 =>
  p_bi (p_nw s53 100 120) fun s55 =>
  p_bi (p_wR s55 v0 16 (p_N s53 + 1)) fun s57 =>
  p_bi (p_nw s57 100 120) fun s59 =>
  p_bi (p_wR s59 v0 17 (p_N s57 + 1)) fun s61 =>
  p_bi (p_nw s61 100 120) fun s63 =>
  p_bi (p_wR s63 v0 18 (p_N s61 + 1)) fun s65 =>
  p_bi (p_nw s65 100 120) fun s67 =>
  p_bi (p_wR s67 v0 19 (p_N s65 + 1)) fun s69 =>
  p_bi (p_nw s69 100 120) fun s71 =>
  p_bi (p_wR s71 v0 20 (p_N s69 + 1)) fun s73 =>
  p_bi (p_nw s73 100 120) fun s75 =>
  p_bi (p_wR s75 v0 21 (p_N s73 + 1)) fun s77 =>
  p_bi (p_nw s77 100 960) fun s79 =>
  p_bi (p_wR s79 v0 22 (p_N s77 + 1)) fun s81 =>
  p_bi (p_nw s81 100 2001) fun s83 =>
  p_bi (p_wR s83 v0 24 (p_N s81 + 1)) fun s85 =>
  p_bi (p_nw s85 100 2001) fun s87 =>
  p_bi (p_wR s87 v0 25 (p_N s85 + 1)) fun s89 =>
  p_bi (p_nw s89 100 2001) fun s91 =>
  p_bi (p_wR s91 v0 26 (p_N s89 + 1)) fun s93 =>
  p_bi (p_nw s93 100 2001) fun s95 =>
  p_bi (p_wR s95 v0 27 (p_N s93 + 1)) fun s97 =>
  p_bi (p_nw s97 100 2001) fun s99 =>
  p_bi (p_wR s99 v0 28 (p_N s97 + 1)) fun s101 =>
  B_Mo_init_210 v0 s101
set_option maxRecDepth 100000 in
set_option maxHeartbeats 4000000 in
theorem tL_Mo_init_573 (K : p_K) (l : Launch) (k573 : Nat → Int → p_Hp → Option p_Hp) (hk573 : ∀ (v0 : Nat) (v1 : Int)  (s0 : p_Hp) (r : p_Hp), k573 v0 v1 s0 = some r → p_Go K l m_Mo_init 573 [(0, p_r v0), (1, p_i v1)] [] s0 (none, r)) (v0 : Nat) (v1 : Int) (s0 : p_Hp) (r : p_Hp) (h : L_Mo_init_573 k573 v0 v1 s0 = some r) : p_Go K l m_Mo_init 573 [(0, p_r v0), (1, p_i v1)] [] s0 (none, r) := by
  unfold L_Mo_init_573 at h
  refine g_iload_n (i := 1) (j := 1) (dk_Mo_init 280 rfl) rfl rfl ?_
  refine g_bipush (dk_Mo_init 281 rfl) (by decide +kernel) (by decide) ?_
  refine g_icmp_ge 592 (dk_Mo_init 282 rfl) (by decide) (fun b1 => ?_) (fun b1 => ?_)
  · have h := p_ifT b1 h
    cases h
    exact g_ret rfl rfl (dk_Mo_init 290 rfl) (fun _ => rfl)
  · have h := p_ifF b1 h
    refine g_aload_n (i := 0) (j := 0) (dk_Mo_init 283 rfl) rfl rfl ?_
    obtain ⟨c2, h⟩ := p_gdE h
    refine g_getR fl_Mo_174 (Or.inr ⟨_, rfl⟩) (dk_Mo_init 284 rfl) c2 ?_
    refine g_iload_n (i := 1) (j := 1) (dk_Mo_init 285 rfl) rfl rfl ?_
    refine g_iconst (dk_Mo_init 286 rfl) (by decide) ?_
    obtain ⟨c3, h⟩ := p_gdE h
    obtain ⟨c4, h⟩ := p_gdE h
    refine g_iastore (dk_Mo_init 287 rfl) c3 c4.1 c4.2 ?_
    refine p_ltS (P := fun q => p_Go K l m_Mo_init 586 [(0, p_r v0), (1, p_i v1)] [] q _) (p_xZ _ _ _ _) ?_ h
    intro s5 hs6 h
    refine g_iinc (j := 1) [(1, p_i (p_w (v1 + 1))), (0, p_r v0)] (dk_Mo_init 288 rfl) rfl (by decide) rfl ?_
    refine p_ltG (P := fun q => p_Go K l m_Mo_init 589 [(1, p_i q), (0, p_r v0)] [] s5 _) ?_ h
    intro x7 h
    refine g_goto 573 (dk_Mo_init 289 rfl) (by decide) ?_
    refine g_sub [(0, p_r v0), (1, p_i x7)] [1, 0] rfl ?_
    exact hk573 v0 x7 s5 _ h
set_option maxRecDepth 100000 in
set_option maxHeartbeats 4000000 in
theorem tO_Mo_init_573 (K : p_K) (l : Launch)  : ∀ (n : Nat) (v0 : Nat) (v1 : Int) (s0 : p_Hp) (r : p_Hp), O_Mo_init_573 n v0 v1 s0 = some r → p_Go K l m_Mo_init 573 [(0, p_r v0), (1, p_i v1)] [] s0 (none, r) := by
  intro n
  induction n with
  | zero => intro v0 v1 s0 r h; cases (show (none : Option p_Hp) = some r from h)
  | succ n ih => intro v0 v1 s0 r h; exact tL_Mo_init_573 K l _ ih v0 v1 s0 r h
set_option maxRecDepth 100000 in
set_option maxHeartbeats 4000000 in
theorem tB_Mo_init_420 (K : p_K) (l : Launch)  (v0 : Nat) (s0 : p_Hp) (r : p_Hp) (h : B_Mo_init_420 v0 s0 = some r) : p_Go K l m_Mo_init 420 [(0, p_r v0)] [] s0 (none, r) := by
  unfold B_Mo_init_420 at h
  refine g_aload_n (i := 0) (j := 0) (dk_Mo_init 202 rfl) rfl rfl ?_
  refine g_sipush (dk_Mo_init 203 rfl) (by decide +kernel) (by decide) ?_
  refine g_newarray (i := 0) (t := 100) (n := 144) rfl (by decide +kernel) rfl rfl tw_1_63 (dk_Mo_init 204 rfl) (by decide) (by decide) ?_
  refine p_ltS (P := fun q => p_Go K l m_Mo_init 426 [(0, p_r v0)] [p_r (p_N s0 + 1), p_r v0] q _) (p_x_nw _ _ _) ?_ h
  intro s1 hs2 h
  obtain ⟨c3, h⟩ := p_gdE h
  refine g_putR fl_Mo_162 (Or.inr ⟨_, rfl⟩) (Or.inr ⟨rfl, rfl⟩) (dk_Mo_init 205 rfl) c3 ?_
  refine p_ltS (P := fun q => p_Go K l m_Mo_init 429 [(0, p_r v0)] [] q _) (p_xR _ _ _ _) ?_ h
  intro s4 hs5 h
  refine g_aload_n (i := 0) (j := 0) (dk_Mo_init 206 rfl) rfl rfl ?_
  refine g_iconst (dk_Mo_init 207 rfl) (by decide) ?_
  refine g_newarray (i := 0) (t := 100) (n := 3) rfl (by decide +kernel) rfl rfl tw_1_63 (dk_Mo_init 208 rfl) (by decide) (by decide) ?_
  refine p_ltS (P := fun q => p_Go K l m_Mo_init 433 [(0, p_r v0)] [p_r (p_N s4 + 1), p_r v0] q _) (p_x_nw _ _ _) ?_ h
  intro s6 hs7 h
  refine g_putR fl_Mo_165 (Or.inr ⟨_, rfl⟩) (Or.inr ⟨rfl, rfl⟩) (dk_Mo_init 209 rfl) (c3.up (hs5.trans hs7)) ?_
  refine p_ltS (P := fun q => p_Go K l m_Mo_init 436 [(0, p_r v0)] [] q _) (p_xR _ _ _ _) ?_ h
  intro s8 hs9 h
  refine g_aload_n (i := 0) (j := 0) (dk_Mo_init 210 rfl) rfl rfl ?_
  refine g_bipush (dk_Mo_init 211 rfl) (by decide +kernel) (by decide) ?_
  refine g_newarray (i := 0) (t := 100) (n := 48) rfl (by decide +kernel) rfl rfl tw_1_63 (dk_Mo_init 212 rfl) (by decide) (by decide) ?_
  refine p_ltS (P := fun q => p_Go K l m_Mo_init 441 [(0, p_r v0)] [p_r (p_N s8 + 1), p_r v0] q _) (p_x_nw _ _ _) ?_ h
  intro s10 hs11 h
  refine g_putR fl_Mo_168 (Or.inr ⟨_, rfl⟩) (Or.inr ⟨rfl, rfl⟩) (dk_Mo_init 213 rfl) (c3.up (hs5.trans (hs7.trans (hs9.trans hs11)))) ?_
  refine p_ltS (P := fun q => p_Go K l m_Mo_init 444 [(0, p_r v0)] [] q _) (p_xR _ _ _ _) ?_ h
  intro s12 hs13 h
  refine g_aload_n (i := 0) (j := 0) (dk_Mo_init 214 rfl) rfl rfl ?_
  refine g_sipush (dk_Mo_init 215 rfl) (by decide +kernel) (by decide) ?_
  refine g_newarray (i := 0) (t := 100) (n := 192) rfl (by decide +kernel) rfl rfl tw_1_63 (dk_Mo_init 216 rfl) (by decide) (by decide) ?_
  refine p_ltS (P := fun q => p_Go K l m_Mo_init 450 [(0, p_r v0)] [p_r (p_N s12 + 1), p_r v0] q _) (p_x_nw _ _ _) ?_ h
  intro s14 hs15 h
  refine g_putR fl_Mo_171 (Or.inr ⟨_, rfl⟩) (Or.inr ⟨rfl, rfl⟩) (dk_Mo_init 217 rfl) (c3.up (hs5.trans (hs7.trans (hs9.trans (hs11.trans (hs13.trans hs15)))))) ?_
  refine p_ltS (P := fun q => p_Go K l m_Mo_init 453 [(0, p_r v0)] [] q _) (p_xR _ _ _ _) ?_ h
  intro s16 hs17 h
  refine g_aload_n (i := 0) (j := 0) (dk_Mo_init 218 rfl) rfl rfl ?_
  refine g_bipush (dk_Mo_init 219 rfl) (by decide +kernel) (by decide) ?_
  refine g_newarray (i := 0) (t := 100) (n := 12) rfl (by decide +kernel) rfl rfl tw_1_63 (dk_Mo_init 220 rfl) (by decide) (by decide) ?_
  refine p_ltS (P := fun q => p_Go K l m_Mo_init 458 [(0, p_r v0)] [p_r (p_N s16 + 1), p_r v0] q _) (p_x_nw _ _ _) ?_ h
  intro s18 hs19 h
  refine g_putR fl_Mo_174 (Or.inr ⟨_, rfl⟩) (Or.inr ⟨rfl, rfl⟩) (dk_Mo_init 221 rfl) (c3.up (hs5.trans (hs7.trans (hs9.trans (hs11.trans (hs13.trans (hs15.trans (hs17.trans hs19)))))))) ?_
  refine p_ltS (P := fun q => p_Go K l m_Mo_init 461 [(0, p_r v0)] [] q _) (p_xR _ _ _ _) ?_ h
  intro s20 hs21 h
  refine g_aload_n (i := 0) (j := 0) (dk_Mo_init 222 rfl) rfl rfl ?_
  refine g_bipush (dk_Mo_init 223 rfl) (by decide +kernel) (by decide) ?_
  refine g_newarray (i := 0) (t := 100) (n := 12) rfl (by decide +kernel) rfl rfl tw_1_63 (dk_Mo_init 224 rfl) (by decide) (by decide) ?_
  refine p_ltS (P := fun q => p_Go K l m_Mo_init 466 [(0, p_r v0)] [p_r (p_N s20 + 1), p_r v0] q _) (p_x_nw _ _ _) ?_ h
  intro s22 hs23 h
  refine g_putR fl_Mo_177 (Or.inr ⟨_, rfl⟩) (Or.inr ⟨rfl, rfl⟩) (dk_Mo_init 225 rfl) (c3.up (hs5.trans (hs7.trans (hs9.trans (hs11.trans (hs13.trans (hs15.trans (hs17.trans (hs19.trans (hs21.trans hs23)))))))))) ?_
  refine p_ltS (P := fun q => p_Go K l m_Mo_init 469 [(0, p_r v0)] [] q _) (p_xR _ _ _ _) ?_ h
  intro s24 hs25 h
  refine g_aload_n (i := 0) (j := 0) (dk_Mo_init 226 rfl) rfl rfl ?_
  refine g_bipush (dk_Mo_init 227 rfl) (by decide +kernel) (by decide) ?_
  refine g_newarray (i := 0) (t := 100) (n := 96) rfl (by decide +kernel) rfl rfl tw_1_63 (dk_Mo_init 228 rfl) (by decide) (by decide) ?_
  refine p_ltS (P := fun q => p_Go K l m_Mo_init 474 [(0, p_r v0)] [p_r (p_N s24 + 1), p_r v0] q _) (p_x_nw _ _ _) ?_ h
  intro s26 hs27 h
  refine g_putR fl_Mo_180 (Or.inr ⟨_, rfl⟩) (Or.inr ⟨rfl, rfl⟩) (dk_Mo_init 229 rfl) (c3.up (hs5.trans (hs7.trans (hs9.trans (hs11.trans (hs13.trans (hs15.trans (hs17.trans (hs19.trans (hs21.trans (hs23.trans (hs25.trans hs27)))))))))))) ?_
  refine p_ltS (P := fun q => p_Go K l m_Mo_init 477 [(0, p_r v0)] [] q _) (p_xR _ _ _ _) ?_ h
  intro s28 hs29 h
  refine g_aload_n (i := 0) (j := 0) (dk_Mo_init 230 rfl) rfl rfl ?_
  refine g_bipush (dk_Mo_init 231 rfl) (by decide +kernel) (by decide) ?_
  refine g_newarray (i := 0) (t := 100) (n := 12) rfl (by decide +kernel) rfl rfl tw_1_63 (dk_Mo_init 232 rfl) (by decide) (by decide) ?_
  refine p_ltS (P := fun q => p_Go K l m_Mo_init 482 [(0, p_r v0)] [p_r (p_N s28 + 1), p_r v0] q _) (p_x_nw _ _ _) ?_ h
  intro s30 hs31 h
  refine g_putR fl_Mo_183 (Or.inr ⟨_, rfl⟩) (Or.inr ⟨rfl, rfl⟩) (dk_Mo_init 233 rfl) (c3.up (hs5.trans (hs7.trans (hs9.trans (hs11.trans (hs13.trans (hs15.trans (hs17.trans (hs19.trans (hs21.trans (hs23.trans (hs25.trans (hs27.trans (hs29.trans hs31)))))))))))))) ?_
  refine p_ltS (P := fun q => p_Go K l m_Mo_init 485 [(0, p_r v0)] [] q _) (p_xR _ _ _ _) ?_ h
  intro s32 hs33 h
  refine g_aload_n (i := 0) (j := 0) (dk_Mo_init 234 rfl) rfl rfl ?_
  refine g_bipush (dk_Mo_init 235 rfl) (by decide +kernel) (by decide) ?_
  refine g_newarray (i := 0) (t := 100) (n := 12) rfl (by decide +kernel) rfl rfl tw_1_63 (dk_Mo_init 236 rfl) (by decide) (by decide) ?_
  refine p_ltS (P := fun q => p_Go K l m_Mo_init 490 [(0, p_r v0)] [p_r (p_N s32 + 1), p_r v0] q _) (p_x_nw _ _ _) ?_ h
  intro s34 hs35 h
  refine g_putR fl_Mo_186 (Or.inr ⟨_, rfl⟩) (Or.inr ⟨rfl, rfl⟩) (dk_Mo_init 237 rfl) (c3.up (hs5.trans (hs7.trans (hs9.trans (hs11.trans (hs13.trans (hs15.trans (hs17.trans (hs19.trans (hs21.trans (hs23.trans (hs25.trans (hs27.trans (hs29.trans (hs31.trans (hs33.trans hs35)))))))))))))))) ?_
  refine p_ltS (P := fun q => p_Go K l m_Mo_init 493 [(0, p_r v0)] [] q _) (p_xR _ _ _ _) ?_ h
  intro s36 hs37 h
  refine g_aload_n (i := 0) (j := 0) (dk_Mo_init 238 rfl) rfl rfl ?_
  refine g_bipush (dk_Mo_init 239 rfl) (by decide +kernel) (by decide) ?_
  refine g_newarray (i := 0) (t := 100) (n := 48) rfl (by decide +kernel) rfl rfl tw_1_63 (dk_Mo_init 240 rfl) (by decide) (by decide) ?_
  refine p_ltS (P := fun q => p_Go K l m_Mo_init 498 [(0, p_r v0)] [p_r (p_N s36 + 1), p_r v0] q _) (p_x_nw _ _ _) ?_ h
  intro s38 hs39 h
  refine g_putR fl_Mo_189 (Or.inr ⟨_, rfl⟩) (Or.inr ⟨rfl, rfl⟩) (dk_Mo_init 241 rfl) (c3.up (hs5.trans (hs7.trans (hs9.trans (hs11.trans (hs13.trans (hs15.trans (hs17.trans (hs19.trans (hs21.trans (hs23.trans (hs25.trans (hs27.trans (hs29.trans (hs31.trans (hs33.trans (hs35.trans (hs37.trans hs39)))))))))))))))))) ?_
  refine p_ltS (P := fun q => p_Go K l m_Mo_init 501 [(0, p_r v0)] [] q _) (p_xR _ _ _ _) ?_ h
  intro s40 hs41 h
  refine g_aload_n (i := 0) (j := 0) (dk_Mo_init 242 rfl) rfl rfl ?_
  refine g_bipush (dk_Mo_init 243 rfl) (by decide +kernel) (by decide) ?_
  refine g_newarray (i := 0) (t := 100) (n := 48) rfl (by decide +kernel) rfl rfl tw_1_63 (dk_Mo_init 244 rfl) (by decide) (by decide) ?_
  refine p_ltS (P := fun q => p_Go K l m_Mo_init 506 [(0, p_r v0)] [p_r (p_N s40 + 1), p_r v0] q _) (p_x_nw _ _ _) ?_ h
  intro s42 hs43 h
  refine g_putR fl_Mo_192 (Or.inr ⟨_, rfl⟩) (Or.inr ⟨rfl, rfl⟩) (dk_Mo_init 245 rfl) (c3.up (hs5.trans (hs7.trans (hs9.trans (hs11.trans (hs13.trans (hs15.trans (hs17.trans (hs19.trans (hs21.trans (hs23.trans (hs25.trans (hs27.trans (hs29.trans (hs31.trans (hs33.trans (hs35.trans (hs37.trans (hs39.trans (hs41.trans hs43)))))))))))))))))))) ?_
  refine p_ltS (P := fun q => p_Go K l m_Mo_init 509 [(0, p_r v0)] [] q _) (p_xR _ _ _ _) ?_ h
  intro s44 hs45 h
  refine g_aload_n (i := 0) (j := 0) (dk_Mo_init 246 rfl) rfl rfl ?_
  refine g_bipush (dk_Mo_init 247 rfl) (by decide +kernel) (by decide) ?_
  refine g_newarray (i := 0) (t := 100) (n := 48) rfl (by decide +kernel) rfl rfl tw_1_63 (dk_Mo_init 248 rfl) (by decide) (by decide) ?_
  refine p_ltS (P := fun q => p_Go K l m_Mo_init 514 [(0, p_r v0)] [p_r (p_N s44 + 1), p_r v0] q _) (p_x_nw _ _ _) ?_ h
  intro s46 hs47 h
  refine g_putR fl_Mo_195 (Or.inr ⟨_, rfl⟩) (Or.inr ⟨rfl, rfl⟩) (dk_Mo_init 249 rfl) (c3.up (hs5.trans (hs7.trans (hs9.trans (hs11.trans (hs13.trans (hs15.trans (hs17.trans (hs19.trans (hs21.trans (hs23.trans (hs25.trans (hs27.trans (hs29.trans (hs31.trans (hs33.trans (hs35.trans (hs37.trans (hs39.trans (hs41.trans (hs43.trans (hs45.trans hs47)))))))))))))))))))))) ?_
  refine p_ltS (P := fun q => p_Go K l m_Mo_init 517 [(0, p_r v0)] [] q _) (p_xR _ _ _ _) ?_ h
  intro s48 hs49 h
  refine g_aload_n (i := 0) (j := 0) (dk_Mo_init 250 rfl) rfl rfl ?_
  refine g_bipush (dk_Mo_init 251 rfl) (by decide +kernel) (by decide) ?_
  refine g_newarray (i := 0) (t := 100) (n := 48) rfl (by decide +kernel) rfl rfl tw_1_63 (dk_Mo_init 252 rfl) (by decide) (by decide) ?_
  refine p_ltS (P := fun q => p_Go K l m_Mo_init 522 [(0, p_r v0)] [p_r (p_N s48 + 1), p_r v0] q _) (p_x_nw _ _ _) ?_ h
  intro s50 hs51 h
  refine g_putR fl_Mo_198 (Or.inr ⟨_, rfl⟩) (Or.inr ⟨rfl, rfl⟩) (dk_Mo_init 253 rfl) (c3.up (hs5.trans (hs7.trans (hs9.trans (hs11.trans (hs13.trans (hs15.trans (hs17.trans (hs19.trans (hs21.trans (hs23.trans (hs25.trans (hs27.trans (hs29.trans (hs31.trans (hs33.trans (hs35.trans (hs37.trans (hs39.trans (hs41.trans (hs43.trans (hs45.trans (hs47.trans (hs49.trans hs51)))))))))))))))))))))))) ?_
  refine p_ltS (P := fun q => p_Go K l m_Mo_init 525 [(0, p_r v0)] [] q _) (p_xR _ _ _ _) ?_ h
  intro s52 hs53 h
  refine g_aload_n (i := 0) (j := 0) (dk_Mo_init 254 rfl) rfl rfl ?_
  refine g_bipush (dk_Mo_init 255 rfl) (by decide +kernel) (by decide) ?_
  refine g_newarray (i := 0) (t := 100) (n := 40) rfl (by decide +kernel) rfl rfl tw_1_63 (dk_Mo_init 256 rfl) (by decide) (by decide) ?_
  refine p_ltS (P := fun q => p_Go K l m_Mo_init 530 [(0, p_r v0)] [p_r (p_N s52 + 1), p_r v0] q _) (p_x_nw _ _ _) ?_ h
  intro s54 hs55 h
  refine g_putR fl_Mo_201 (Or.inr ⟨_, rfl⟩) (Or.inr ⟨rfl, rfl⟩) (dk_Mo_init 257 rfl) (c3.up (hs5.trans (hs7.trans (hs9.trans (hs11.trans (hs13.trans (hs15.trans (hs17.trans (hs19.trans (hs21.trans (hs23.trans (hs25.trans (hs27.trans (hs29.trans (hs31.trans (hs33.trans (hs35.trans (hs37.trans (hs39.trans (hs41.trans (hs43.trans (hs45.trans (hs47.trans (hs49.trans (hs51.trans (hs53.trans hs55)))))))))))))))))))))))))) ?_
  refine p_ltS (P := fun q => p_Go K l m_Mo_init 533 [(0, p_r v0)] [] q _) (p_xR _ _ _ _) ?_ h
  intro s56 hs57 h
  refine g_aload_n (i := 0) (j := 0) (dk_Mo_init 258 rfl) rfl rfl ?_
  refine g_bipush (dk_Mo_init 259 rfl) (by decide +kernel) (by decide) ?_
  refine g_newarray (i := 0) (t := 100) (n := 8) rfl (by decide +kernel) rfl rfl tw_1_63 (dk_Mo_init 260 rfl) (by decide) (by decide) ?_
  refine p_ltS (P := fun q => p_Go K l m_Mo_init 538 [(0, p_r v0)] [p_r (p_N s56 + 1), p_r v0] q _) (p_x_nw _ _ _) ?_ h
  intro s58 hs59 h
  refine g_putR fl_Mo_204 (Or.inr ⟨_, rfl⟩) (Or.inr ⟨rfl, rfl⟩) (dk_Mo_init 261 rfl) (c3.up (hs5.trans (hs7.trans (hs9.trans (hs11.trans (hs13.trans (hs15.trans (hs17.trans (hs19.trans (hs21.trans (hs23.trans (hs25.trans (hs27.trans (hs29.trans (hs31.trans (hs33.trans (hs35.trans (hs37.trans (hs39.trans (hs41.trans (hs43.trans (hs45.trans (hs47.trans (hs49.trans (hs51.trans (hs53.trans (hs55.trans (hs57.trans hs59)))))))))))))))))))))))))))) ?_
  refine p_ltS (P := fun q => p_Go K l m_Mo_init 541 [(0, p_r v0)] [] q _) (p_xR _ _ _ _) ?_ h
  intro s60 hs61 h
  refine g_aload_n (i := 0) (j := 0) (dk_Mo_init 262 rfl) rfl rfl ?_
  refine g_iconst (dk_Mo_init 263 rfl) (by decide) ?_
  refine g_newarray (i := 0) (t := 100) (n := 3) rfl (by decide +kernel) rfl rfl tw_1_63 (dk_Mo_init 264 rfl) (by decide) (by decide) ?_
  refine p_ltS (P := fun q => p_Go K l m_Mo_init 545 [(0, p_r v0)] [p_r (p_N s60 + 1), p_r v0] q _) (p_x_nw _ _ _) ?_ h
  intro s62 hs63 h
  refine g_putR fl_Mo_207 (Or.inr ⟨_, rfl⟩) (Or.inr ⟨rfl, rfl⟩) (dk_Mo_init 265 rfl) (c3.up (hs5.trans (hs7.trans (hs9.trans (hs11.trans (hs13.trans (hs15.trans (hs17.trans (hs19.trans (hs21.trans (hs23.trans (hs25.trans (hs27.trans (hs29.trans (hs31.trans (hs33.trans (hs35.trans (hs37.trans (hs39.trans (hs41.trans (hs43.trans (hs45.trans (hs47.trans (hs49.trans (hs51.trans (hs53.trans (hs55.trans (hs57.trans (hs59.trans (hs61.trans hs63)))))))))))))))))))))))))))))) ?_
  refine p_ltS (P := fun q => p_Go K l m_Mo_init 548 [(0, p_r v0)] [] q _) (p_xR _ _ _ _) ?_ h
  intro s64 hs65 h
  refine g_aload_n (i := 0) (j := 0) (dk_Mo_init 266 rfl) rfl rfl ?_
  refine g_iconst (dk_Mo_init 267 rfl) (by decide) ?_
  refine g_newarray (i := 0) (t := 100) (n := 3) rfl (by decide +kernel) rfl rfl tw_1_63 (dk_Mo_init 268 rfl) (by decide) (by decide) ?_
  refine p_ltS (P := fun q => p_Go K l m_Mo_init 552 [(0, p_r v0)] [p_r (p_N s64 + 1), p_r v0] q _) (p_x_nw _ _ _) ?_ h
  intro s66 hs67 h
  refine g_putR fl_Mo_210 (Or.inr ⟨_, rfl⟩) (Or.inr ⟨rfl, rfl⟩) (dk_Mo_init 269 rfl) (c3.up (hs5.trans (hs7.trans (hs9.trans (hs11.trans (hs13.trans (hs15.trans (hs17.trans (hs19.trans (hs21.trans (hs23.trans (hs25.trans (hs27.trans (hs29.trans (hs31.trans (hs33.trans (hs35.trans (hs37.trans (hs39.trans (hs41.trans (hs43.trans (hs45.trans (hs47.trans (hs49.trans (hs51.trans (hs53.trans (hs55.trans (hs57.trans (hs59.trans (hs61.trans (hs63.trans (hs65.trans hs67)))))))))))))))))))))))))))))))) ?_
  refine p_ltS (P := fun q => p_Go K l m_Mo_init 555 [(0, p_r v0)] [] q _) (p_xR _ _ _ _) ?_ h
  intro s68 hs69 h
  refine g_aload_n (i := 0) (j := 0) (dk_Mo_init 270 rfl) rfl rfl ?_
  refine g_ldc (x := 234000) (dk_Mo_init 271 rfl) tw_6_2 (by decide) (by decide) ?_
  refine g_newarray (i := 0) (t := 100) (n := 234000) rfl (by decide +kernel) rfl rfl tw_1_63 (dk_Mo_init 272 rfl) (by decide) (by decide) ?_
  refine p_ltS (P := fun q => p_Go K l m_Mo_init 560 [(0, p_r v0)] [p_r (p_N s68 + 1), p_r v0] q _) (p_x_nw _ _ _) ?_ h
  intro s70 hs71 h
  refine g_putR fl_Mo_214 (Or.inr ⟨_, rfl⟩) (Or.inr ⟨rfl, rfl⟩) (dk_Mo_init 273 rfl) (c3.up (hs5.trans (hs7.trans (hs9.trans (hs11.trans (hs13.trans (hs15.trans (hs17.trans (hs19.trans (hs21.trans (hs23.trans (hs25.trans (hs27.trans (hs29.trans (hs31.trans (hs33.trans (hs35.trans (hs37.trans (hs39.trans (hs41.trans (hs43.trans (hs45.trans (hs47.trans (hs49.trans (hs51.trans (hs53.trans (hs55.trans (hs57.trans (hs59.trans (hs61.trans (hs63.trans (hs65.trans (hs67.trans (hs69.trans hs71)))))))))))))))))))))))))))))))))) ?_
  refine p_ltS (P := fun q => p_Go K l m_Mo_init 563 [(0, p_r v0)] [] q _) (p_xR _ _ _ _) ?_ h
  intro s72 hs73 h
  refine g_aload_n (i := 0) (j := 0) (dk_Mo_init 274 rfl) rfl rfl ?_
  refine g_bipush (dk_Mo_init 275 rfl) (by decide +kernel) (by decide) ?_
  refine g_newarray (i := 0) (t := 100) (n := 40) rfl (by decide +kernel) rfl rfl tw_1_63 (dk_Mo_init 276 rfl) (by decide) (by decide) ?_
  refine p_ltS (P := fun q => p_Go K l m_Mo_init 568 [(0, p_r v0)] [p_r (p_N s72 + 1), p_r v0] q _) (p_x_nw _ _ _) ?_ h
  intro s74 hs75 h
  refine g_putR fl_Mo_217 (Or.inr ⟨_, rfl⟩) (Or.inr ⟨rfl, rfl⟩) (dk_Mo_init 277 rfl) (c3.up (hs5.trans (hs7.trans (hs9.trans (hs11.trans (hs13.trans (hs15.trans (hs17.trans (hs19.trans (hs21.trans (hs23.trans (hs25.trans (hs27.trans (hs29.trans (hs31.trans (hs33.trans (hs35.trans (hs37.trans (hs39.trans (hs41.trans (hs43.trans (hs45.trans (hs47.trans (hs49.trans (hs51.trans (hs53.trans (hs55.trans (hs57.trans (hs59.trans (hs61.trans (hs63.trans (hs65.trans (hs67.trans (hs69.trans (hs71.trans (hs73.trans hs75)))))))))))))))))))))))))))))))))))) ?_
  refine p_ltS (P := fun q => p_Go K l m_Mo_init 571 [(0, p_r v0)] [] q _) (p_xR _ _ _ _) ?_ h
  intro s76 hs77 h
  refine g_iconst (dk_Mo_init 278 rfl) (by decide) ?_
  refine g_istore_n (i := 1) [(1, p_i 0), (0, p_r v0)] (dk_Mo_init 279 rfl) rfl (by decide) rfl ?_
  refine g_sub [(0, p_r v0), (1, p_i 0)] [1, 0] rfl ?_
  exact tO_Mo_init_573 K l 3000 v0 0 s76 _ h
set_option maxRecDepth 100000 in
set_option maxHeartbeats 4000000 in
theorem tB_Mo_init_210 (K : p_K) (l : Launch)  (v0 : Nat) (s0 : p_Hp) (r : p_Hp) (h : B_Mo_init_210 v0 s0 = some r) : p_Go K l m_Mo_init 210 [(0, p_r v0)] [] s0 (none, r) := by
  unfold B_Mo_init_210 at h
  refine g_aload_n (i := 0) (j := 0) (dk_Mo_init 102 rfl) rfl rfl ?_
  refine g_sipush (dk_Mo_init 103 rfl) (by decide +kernel) (by decide) ?_
  refine g_newarray (i := 0) (t := 100) (n := 2001) rfl (by decide +kernel) rfl rfl tw_1_63 (dk_Mo_init 104 rfl) (by decide) (by decide) ?_
  refine p_ltS (P := fun q => p_Go K l m_Mo_init 216 [(0, p_r v0)] [p_r (p_N s0 + 1), p_r v0] q _) (p_x_nw _ _ _) ?_ h
  intro s1 hs2 h
  obtain ⟨c3, h⟩ := p_gdE h
  refine g_putR fl_Mo_87 (Or.inr ⟨_, rfl⟩) (Or.inr ⟨rfl, rfl⟩) (dk_Mo_init 105 rfl) c3 ?_
  refine p_ltS (P := fun q => p_Go K l m_Mo_init 219 [(0, p_r v0)] [] q _) (p_xR _ _ _ _) ?_ h
  intro s4 hs5 h
  refine g_aload_n (i := 0) (j := 0) (dk_Mo_init 106 rfl) rfl rfl ?_
  refine g_sipush (dk_Mo_init 107 rfl) (by decide +kernel) (by decide) ?_
  refine g_newarray (i := 0) (t := 100) (n := 2001) rfl (by decide +kernel) rfl rfl tw_1_63 (dk_Mo_init 108 rfl) (by decide) (by decide) ?_
  refine p_ltS (P := fun q => p_Go K l m_Mo_init 225 [(0, p_r v0)] [p_r (p_N s4 + 1), p_r v0] q _) (p_x_nw _ _ _) ?_ h
  intro s6 hs7 h
  refine g_putR fl_Mo_90 (Or.inr ⟨_, rfl⟩) (Or.inr ⟨rfl, rfl⟩) (dk_Mo_init 109 rfl) (c3.up (hs5.trans hs7)) ?_
  refine p_ltS (P := fun q => p_Go K l m_Mo_init 228 [(0, p_r v0)] [] q _) (p_xR _ _ _ _) ?_ h
  intro s8 hs9 h
  refine g_aload_n (i := 0) (j := 0) (dk_Mo_init 110 rfl) rfl rfl ?_
  refine g_sipush (dk_Mo_init 111 rfl) (by decide +kernel) (by decide) ?_
  refine g_newarray (i := 0) (t := 100) (n := 2001) rfl (by decide +kernel) rfl rfl tw_1_63 (dk_Mo_init 112 rfl) (by decide) (by decide) ?_
  refine p_ltS (P := fun q => p_Go K l m_Mo_init 234 [(0, p_r v0)] [p_r (p_N s8 + 1), p_r v0] q _) (p_x_nw _ _ _) ?_ h
  intro s10 hs11 h
  refine g_putR fl_Mo_93 (Or.inr ⟨_, rfl⟩) (Or.inr ⟨rfl, rfl⟩) (dk_Mo_init 113 rfl) (c3.up (hs5.trans (hs7.trans (hs9.trans hs11)))) ?_
  refine p_ltS (P := fun q => p_Go K l m_Mo_init 237 [(0, p_r v0)] [] q _) (p_xR _ _ _ _) ?_ h
  intro s12 hs13 h
  refine g_aload_n (i := 0) (j := 0) (dk_Mo_init 114 rfl) rfl rfl ?_
  refine g_sipush (dk_Mo_init 115 rfl) (by decide +kernel) (by decide) ?_
  refine g_newarray (i := 0) (t := 100) (n := 24012) rfl (by decide +kernel) rfl rfl tw_1_63 (dk_Mo_init 116 rfl) (by decide) (by decide) ?_
  refine p_ltS (P := fun q => p_Go K l m_Mo_init 243 [(0, p_r v0)] [p_r (p_N s12 + 1), p_r v0] q _) (p_x_nw _ _ _) ?_ h
  intro s14 hs15 h
  refine g_putR fl_Mo_96 (Or.inr ⟨_, rfl⟩) (Or.inr ⟨rfl, rfl⟩) (dk_Mo_init 117 rfl) (c3.up (hs5.trans (hs7.trans (hs9.trans (hs11.trans (hs13.trans hs15)))))) ?_
  refine p_ltS (P := fun q => p_Go K l m_Mo_init 246 [(0, p_r v0)] [] q _) (p_xR _ _ _ _) ?_ h
  intro s16 hs17 h
  refine g_aload_n (i := 0) (j := 0) (dk_Mo_init 118 rfl) rfl rfl ?_
  refine g_sipush (dk_Mo_init 119 rfl) (by decide +kernel) (by decide) ?_
  refine g_newarray (i := 0) (t := 100) (n := 2001) rfl (by decide +kernel) rfl rfl tw_1_63 (dk_Mo_init 120 rfl) (by decide) (by decide) ?_
  refine p_ltS (P := fun q => p_Go K l m_Mo_init 252 [(0, p_r v0)] [p_r (p_N s16 + 1), p_r v0] q _) (p_x_nw _ _ _) ?_ h
  intro s18 hs19 h
  refine g_putR fl_Mo_99 (Or.inr ⟨_, rfl⟩) (Or.inr ⟨rfl, rfl⟩) (dk_Mo_init 121 rfl) (c3.up (hs5.trans (hs7.trans (hs9.trans (hs11.trans (hs13.trans (hs15.trans (hs17.trans hs19)))))))) ?_
  refine p_ltS (P := fun q => p_Go K l m_Mo_init 255 [(0, p_r v0)] [] q _) (p_xR _ _ _ _) ?_ h
  intro s20 hs21 h
  refine g_aload_n (i := 0) (j := 0) (dk_Mo_init 122 rfl) rfl rfl ?_
  refine g_sipush (dk_Mo_init 123 rfl) (by decide +kernel) (by decide) ?_
  refine g_newarray (i := 0) (t := 100) (n := 32016) rfl (by decide +kernel) rfl rfl tw_1_63 (dk_Mo_init 124 rfl) (by decide) (by decide) ?_
  refine p_ltS (P := fun q => p_Go K l m_Mo_init 261 [(0, p_r v0)] [p_r (p_N s20 + 1), p_r v0] q _) (p_x_nw _ _ _) ?_ h
  intro s22 hs23 h
  refine g_putR fl_Mo_102 (Or.inr ⟨_, rfl⟩) (Or.inr ⟨rfl, rfl⟩) (dk_Mo_init 125 rfl) (c3.up (hs5.trans (hs7.trans (hs9.trans (hs11.trans (hs13.trans (hs15.trans (hs17.trans (hs19.trans (hs21.trans hs23)))))))))) ?_
  refine p_ltS (P := fun q => p_Go K l m_Mo_init 264 [(0, p_r v0)] [] q _) (p_xR _ _ _ _) ?_ h
  intro s24 hs25 h
  refine g_aload_n (i := 0) (j := 0) (dk_Mo_init 126 rfl) rfl rfl ?_
  refine g_sipush (dk_Mo_init 127 rfl) (by decide +kernel) (by decide) ?_
  refine g_newarray (i := 2) (t := 102) (n := 2001) rfl (by decide +kernel) rfl rfl tw_7_35 (dk_Mo_init 128 rfl) (by decide) (by decide) ?_
  refine p_ltS (P := fun q => p_Go K l m_Mo_init 270 [(0, p_r v0)] [p_r (p_N s24 + 1), p_r v0] q _) (p_x_nw _ _ _) ?_ h
  intro s26 hs27 h
  refine g_putR fl_Mo_105 (Or.inr ⟨_, rfl⟩) (Or.inr ⟨rfl, rfl⟩) (dk_Mo_init 129 rfl) (c3.up (hs5.trans (hs7.trans (hs9.trans (hs11.trans (hs13.trans (hs15.trans (hs17.trans (hs19.trans (hs21.trans (hs23.trans (hs25.trans hs27)))))))))))) ?_
  refine p_ltS (P := fun q => p_Go K l m_Mo_init 273 [(0, p_r v0)] [] q _) (p_xR _ _ _ _) ?_ h
  intro s28 hs29 h
  refine g_aload_n (i := 0) (j := 0) (dk_Mo_init 130 rfl) rfl rfl ?_
  refine g_sipush (dk_Mo_init 131 rfl) (by decide +kernel) (by decide) ?_
  refine g_newarray (i := 2) (t := 102) (n := 2001) rfl (by decide +kernel) rfl rfl tw_7_35 (dk_Mo_init 132 rfl) (by decide) (by decide) ?_
  refine p_ltS (P := fun q => p_Go K l m_Mo_init 279 [(0, p_r v0)] [p_r (p_N s28 + 1), p_r v0] q _) (p_x_nw _ _ _) ?_ h
  intro s30 hs31 h
  refine g_putR fl_Mo_108 (Or.inr ⟨_, rfl⟩) (Or.inr ⟨rfl, rfl⟩) (dk_Mo_init 133 rfl) (c3.up (hs5.trans (hs7.trans (hs9.trans (hs11.trans (hs13.trans (hs15.trans (hs17.trans (hs19.trans (hs21.trans (hs23.trans (hs25.trans (hs27.trans (hs29.trans hs31)))))))))))))) ?_
  refine p_ltS (P := fun q => p_Go K l m_Mo_init 282 [(0, p_r v0)] [] q _) (p_xR _ _ _ _) ?_ h
  intro s32 hs33 h
  refine g_aload_n (i := 0) (j := 0) (dk_Mo_init 134 rfl) rfl rfl ?_
  refine g_sipush (dk_Mo_init 135 rfl) (by decide +kernel) (by decide) ?_
  refine g_newarray (i := 0) (t := 100) (n := 2001) rfl (by decide +kernel) rfl rfl tw_1_63 (dk_Mo_init 136 rfl) (by decide) (by decide) ?_
  refine p_ltS (P := fun q => p_Go K l m_Mo_init 288 [(0, p_r v0)] [p_r (p_N s32 + 1), p_r v0] q _) (p_x_nw _ _ _) ?_ h
  intro s34 hs35 h
  refine g_putR fl_Mo_111 (Or.inr ⟨_, rfl⟩) (Or.inr ⟨rfl, rfl⟩) (dk_Mo_init 137 rfl) (c3.up (hs5.trans (hs7.trans (hs9.trans (hs11.trans (hs13.trans (hs15.trans (hs17.trans (hs19.trans (hs21.trans (hs23.trans (hs25.trans (hs27.trans (hs29.trans (hs31.trans (hs33.trans hs35)))))))))))))))) ?_
  refine p_ltS (P := fun q => p_Go K l m_Mo_init 291 [(0, p_r v0)] [] q _) (p_xR _ _ _ _) ?_ h
  intro s36 hs37 h
  refine g_aload_n (i := 0) (j := 0) (dk_Mo_init 138 rfl) rfl rfl ?_
  refine g_iconst (dk_Mo_init 139 rfl) (by decide) ?_
  refine g_newarray (i := 0) (t := 100) (n := 3) rfl (by decide +kernel) rfl rfl tw_1_63 (dk_Mo_init 140 rfl) (by decide) (by decide) ?_
  refine p_ltS (P := fun q => p_Go K l m_Mo_init 295 [(0, p_r v0)] [p_r (p_N s36 + 1), p_r v0] q _) (p_x_nw _ _ _) ?_ h
  intro s38 hs39 h
  refine g_putR fl_Mo_114 (Or.inr ⟨_, rfl⟩) (Or.inr ⟨rfl, rfl⟩) (dk_Mo_init 141 rfl) (c3.up (hs5.trans (hs7.trans (hs9.trans (hs11.trans (hs13.trans (hs15.trans (hs17.trans (hs19.trans (hs21.trans (hs23.trans (hs25.trans (hs27.trans (hs29.trans (hs31.trans (hs33.trans (hs35.trans (hs37.trans hs39)))))))))))))))))) ?_
  refine p_ltS (P := fun q => p_Go K l m_Mo_init 298 [(0, p_r v0)] [] q _) (p_xR _ _ _ _) ?_ h
  intro s40 hs41 h
  refine g_aload_n (i := 0) (j := 0) (dk_Mo_init 142 rfl) rfl rfl ?_
  refine g_iconst (dk_Mo_init 143 rfl) (by decide) ?_
  refine g_newarray (i := 0) (t := 100) (n := 3) rfl (by decide +kernel) rfl rfl tw_1_63 (dk_Mo_init 144 rfl) (by decide) (by decide) ?_
  refine p_ltS (P := fun q => p_Go K l m_Mo_init 302 [(0, p_r v0)] [p_r (p_N s40 + 1), p_r v0] q _) (p_x_nw _ _ _) ?_ h
  intro s42 hs43 h
  refine g_putR fl_Mo_117 (Or.inr ⟨_, rfl⟩) (Or.inr ⟨rfl, rfl⟩) (dk_Mo_init 145 rfl) (c3.up (hs5.trans (hs7.trans (hs9.trans (hs11.trans (hs13.trans (hs15.trans (hs17.trans (hs19.trans (hs21.trans (hs23.trans (hs25.trans (hs27.trans (hs29.trans (hs31.trans (hs33.trans (hs35.trans (hs37.trans (hs39.trans (hs41.trans hs43)))))))))))))))))))) ?_
  refine p_ltS (P := fun q => p_Go K l m_Mo_init 305 [(0, p_r v0)] [] q _) (p_xR _ _ _ _) ?_ h
  intro s44 hs45 h
  refine g_aload_n (i := 0) (j := 0) (dk_Mo_init 146 rfl) rfl rfl ?_
  refine g_iconst (dk_Mo_init 147 rfl) (by decide) ?_
  refine g_newarray (i := 0) (t := 100) (n := 3) rfl (by decide +kernel) rfl rfl tw_1_63 (dk_Mo_init 148 rfl) (by decide) (by decide) ?_
  refine p_ltS (P := fun q => p_Go K l m_Mo_init 309 [(0, p_r v0)] [p_r (p_N s44 + 1), p_r v0] q _) (p_x_nw _ _ _) ?_ h
  intro s46 hs47 h
  refine g_putR fl_Mo_120 (Or.inr ⟨_, rfl⟩) (Or.inr ⟨rfl, rfl⟩) (dk_Mo_init 149 rfl) (c3.up (hs5.trans (hs7.trans (hs9.trans (hs11.trans (hs13.trans (hs15.trans (hs17.trans (hs19.trans (hs21.trans (hs23.trans (hs25.trans (hs27.trans (hs29.trans (hs31.trans (hs33.trans (hs35.trans (hs37.trans (hs39.trans (hs41.trans (hs43.trans (hs45.trans hs47)))))))))))))))))))))) ?_
  refine p_ltS (P := fun q => p_Go K l m_Mo_init 312 [(0, p_r v0)] [] q _) (p_xR _ _ _ _) ?_ h
  intro s48 hs49 h
  refine g_aload_n (i := 0) (j := 0) (dk_Mo_init 150 rfl) rfl rfl ?_
  refine g_sipush (dk_Mo_init 151 rfl) (by decide +kernel) (by decide) ?_
  refine g_newarray (i := 0) (t := 100) (n := 360) rfl (by decide +kernel) rfl rfl tw_1_63 (dk_Mo_init 152 rfl) (by decide) (by decide) ?_
  refine p_ltS (P := fun q => p_Go K l m_Mo_init 318 [(0, p_r v0)] [p_r (p_N s48 + 1), p_r v0] q _) (p_x_nw _ _ _) ?_ h
  intro s50 hs51 h
  refine g_putR fl_Mo_123 (Or.inr ⟨_, rfl⟩) (Or.inr ⟨rfl, rfl⟩) (dk_Mo_init 153 rfl) (c3.up (hs5.trans (hs7.trans (hs9.trans (hs11.trans (hs13.trans (hs15.trans (hs17.trans (hs19.trans (hs21.trans (hs23.trans (hs25.trans (hs27.trans (hs29.trans (hs31.trans (hs33.trans (hs35.trans (hs37.trans (hs39.trans (hs41.trans (hs43.trans (hs45.trans (hs47.trans (hs49.trans hs51)))))))))))))))))))))))) ?_
  refine p_ltS (P := fun q => p_Go K l m_Mo_init 321 [(0, p_r v0)] [] q _) (p_xR _ _ _ _) ?_ h
  intro s52 hs53 h
  refine g_aload_n (i := 0) (j := 0) (dk_Mo_init 154 rfl) rfl rfl ?_
  refine g_iconst (dk_Mo_init 155 rfl) (by decide) ?_
  refine g_newarray (i := 0) (t := 100) (n := 3) rfl (by decide +kernel) rfl rfl tw_1_63 (dk_Mo_init 156 rfl) (by decide) (by decide) ?_
  refine p_ltS (P := fun q => p_Go K l m_Mo_init 325 [(0, p_r v0)] [p_r (p_N s52 + 1), p_r v0] q _) (p_x_nw _ _ _) ?_ h
  intro s54 hs55 h
  refine g_putR fl_Mo_126 (Or.inr ⟨_, rfl⟩) (Or.inr ⟨rfl, rfl⟩) (dk_Mo_init 157 rfl) (c3.up (hs5.trans (hs7.trans (hs9.trans (hs11.trans (hs13.trans (hs15.trans (hs17.trans (hs19.trans (hs21.trans (hs23.trans (hs25.trans (hs27.trans (hs29.trans (hs31.trans (hs33.trans (hs35.trans (hs37.trans (hs39.trans (hs41.trans (hs43.trans (hs45.trans (hs47.trans (hs49.trans (hs51.trans (hs53.trans hs55)))))))))))))))))))))))))) ?_
  refine p_ltS (P := fun q => p_Go K l m_Mo_init 328 [(0, p_r v0)] [] q _) (p_xR _ _ _ _) ?_ h
  intro s56 hs57 h
  refine g_aload_n (i := 0) (j := 0) (dk_Mo_init 158 rfl) rfl rfl ?_
  refine g_sipush (dk_Mo_init 159 rfl) (by decide +kernel) (by decide) ?_
  refine g_newarray (i := 0) (t := 100) (n := 600) rfl (by decide +kernel) rfl rfl tw_1_63 (dk_Mo_init 160 rfl) (by decide) (by decide) ?_
  refine p_ltS (P := fun q => p_Go K l m_Mo_init 334 [(0, p_r v0)] [p_r (p_N s56 + 1), p_r v0] q _) (p_x_nw _ _ _) ?_ h
  intro s58 hs59 h
  refine g_putR fl_Mo_129 (Or.inr ⟨_, rfl⟩) (Or.inr ⟨rfl, rfl⟩) (dk_Mo_init 161 rfl) (c3.up (hs5.trans (hs7.trans (hs9.trans (hs11.trans (hs13.trans (hs15.trans (hs17.trans (hs19.trans (hs21.trans (hs23.trans (hs25.trans (hs27.trans (hs29.trans (hs31.trans (hs33.trans (hs35.trans (hs37.trans (hs39.trans (hs41.trans (hs43.trans (hs45.trans (hs47.trans (hs49.trans (hs51.trans (hs53.trans (hs55.trans (hs57.trans hs59)))))))))))))))))))))))))))) ?_
  refine p_ltS (P := fun q => p_Go K l m_Mo_init 337 [(0, p_r v0)] [] q _) (p_xR _ _ _ _) ?_ h
  intro s60 hs61 h
  refine g_aload_n (i := 0) (j := 0) (dk_Mo_init 162 rfl) rfl rfl ?_
  refine g_iconst (dk_Mo_init 163 rfl) (by decide) ?_
  refine g_newarray (i := 0) (t := 100) (n := 3) rfl (by decide +kernel) rfl rfl tw_1_63 (dk_Mo_init 164 rfl) (by decide) (by decide) ?_
  refine p_ltS (P := fun q => p_Go K l m_Mo_init 341 [(0, p_r v0)] [p_r (p_N s60 + 1), p_r v0] q _) (p_x_nw _ _ _) ?_ h
  intro s62 hs63 h
  refine g_putR fl_Mo_132 (Or.inr ⟨_, rfl⟩) (Or.inr ⟨rfl, rfl⟩) (dk_Mo_init 165 rfl) (c3.up (hs5.trans (hs7.trans (hs9.trans (hs11.trans (hs13.trans (hs15.trans (hs17.trans (hs19.trans (hs21.trans (hs23.trans (hs25.trans (hs27.trans (hs29.trans (hs31.trans (hs33.trans (hs35.trans (hs37.trans (hs39.trans (hs41.trans (hs43.trans (hs45.trans (hs47.trans (hs49.trans (hs51.trans (hs53.trans (hs55.trans (hs57.trans (hs59.trans (hs61.trans hs63)))))))))))))))))))))))))))))) ?_
  refine p_ltS (P := fun q => p_Go K l m_Mo_init 344 [(0, p_r v0)] [] q _) (p_xR _ _ _ _) ?_ h
  intro s64 hs65 h
  refine g_aload_n (i := 0) (j := 0) (dk_Mo_init 166 rfl) rfl rfl ?_
  refine g_sipush (dk_Mo_init 167 rfl) (by decide +kernel) (by decide) ?_
  refine g_newarray (i := 0) (t := 100) (n := 180) rfl (by decide +kernel) rfl rfl tw_1_63 (dk_Mo_init 168 rfl) (by decide) (by decide) ?_
  refine p_ltS (P := fun q => p_Go K l m_Mo_init 350 [(0, p_r v0)] [p_r (p_N s64 + 1), p_r v0] q _) (p_x_nw _ _ _) ?_ h
  intro s66 hs67 h
  refine g_putR fl_Mo_135 (Or.inr ⟨_, rfl⟩) (Or.inr ⟨rfl, rfl⟩) (dk_Mo_init 169 rfl) (c3.up (hs5.trans (hs7.trans (hs9.trans (hs11.trans (hs13.trans (hs15.trans (hs17.trans (hs19.trans (hs21.trans (hs23.trans (hs25.trans (hs27.trans (hs29.trans (hs31.trans (hs33.trans (hs35.trans (hs37.trans (hs39.trans (hs41.trans (hs43.trans (hs45.trans (hs47.trans (hs49.trans (hs51.trans (hs53.trans (hs55.trans (hs57.trans (hs59.trans (hs61.trans (hs63.trans (hs65.trans hs67)))))))))))))))))))))))))))))))) ?_
  refine p_ltS (P := fun q => p_Go K l m_Mo_init 353 [(0, p_r v0)] [] q _) (p_xR _ _ _ _) ?_ h
  intro s68 hs69 h
  refine g_aload_n (i := 0) (j := 0) (dk_Mo_init 170 rfl) rfl rfl ?_
  refine g_sipush (dk_Mo_init 171 rfl) (by decide +kernel) (by decide) ?_
  refine g_newarray (i := 0) (t := 100) (n := 200) rfl (by decide +kernel) rfl rfl tw_1_63 (dk_Mo_init 172 rfl) (by decide) (by decide) ?_
  refine p_ltS (P := fun q => p_Go K l m_Mo_init 359 [(0, p_r v0)] [p_r (p_N s68 + 1), p_r v0] q _) (p_x_nw _ _ _) ?_ h
  intro s70 hs71 h
  refine g_putR fl_Mo_138 (Or.inr ⟨_, rfl⟩) (Or.inr ⟨rfl, rfl⟩) (dk_Mo_init 173 rfl) (c3.up (hs5.trans (hs7.trans (hs9.trans (hs11.trans (hs13.trans (hs15.trans (hs17.trans (hs19.trans (hs21.trans (hs23.trans (hs25.trans (hs27.trans (hs29.trans (hs31.trans (hs33.trans (hs35.trans (hs37.trans (hs39.trans (hs41.trans (hs43.trans (hs45.trans (hs47.trans (hs49.trans (hs51.trans (hs53.trans (hs55.trans (hs57.trans (hs59.trans (hs61.trans (hs63.trans (hs65.trans (hs67.trans (hs69.trans hs71)))))))))))))))))))))))))))))))))) ?_
  refine p_ltS (P := fun q => p_Go K l m_Mo_init 362 [(0, p_r v0)] [] q _) (p_xR _ _ _ _) ?_ h
  intro s72 hs73 h
  refine g_aload_n (i := 0) (j := 0) (dk_Mo_init 174 rfl) rfl rfl ?_
  refine g_iconst (dk_Mo_init 175 rfl) (by decide) ?_
  refine g_newarray (i := 0) (t := 100) (n := 3) rfl (by decide +kernel) rfl rfl tw_1_63 (dk_Mo_init 176 rfl) (by decide) (by decide) ?_
  refine p_ltS (P := fun q => p_Go K l m_Mo_init 366 [(0, p_r v0)] [p_r (p_N s72 + 1), p_r v0] q _) (p_x_nw _ _ _) ?_ h
  intro s74 hs75 h
  refine g_putR fl_Mo_141 (Or.inr ⟨_, rfl⟩) (Or.inr ⟨rfl, rfl⟩) (dk_Mo_init 177 rfl) (c3.up (hs5.trans (hs7.trans (hs9.trans (hs11.trans (hs13.trans (hs15.trans (hs17.trans (hs19.trans (hs21.trans (hs23.trans (hs25.trans (hs27.trans (hs29.trans (hs31.trans (hs33.trans (hs35.trans (hs37.trans (hs39.trans (hs41.trans (hs43.trans (hs45.trans (hs47.trans (hs49.trans (hs51.trans (hs53.trans (hs55.trans (hs57.trans (hs59.trans (hs61.trans (hs63.trans (hs65.trans (hs67.trans (hs69.trans (hs71.trans (hs73.trans hs75)))))))))))))))))))))))))))))))))))) ?_
  refine p_ltS (P := fun q => p_Go K l m_Mo_init 369 [(0, p_r v0)] [] q _) (p_xR _ _ _ _) ?_ h
  intro s76 hs77 h
  refine g_aload_n (i := 0) (j := 0) (dk_Mo_init 178 rfl) rfl rfl ?_
  refine g_bipush (dk_Mo_init 179 rfl) (by decide +kernel) (by decide) ?_
  refine g_newarray (i := 0) (t := 100) (n := 36) rfl (by decide +kernel) rfl rfl tw_1_63 (dk_Mo_init 180 rfl) (by decide) (by decide) ?_
  refine p_ltS (P := fun q => p_Go K l m_Mo_init 374 [(0, p_r v0)] [p_r (p_N s76 + 1), p_r v0] q _) (p_x_nw _ _ _) ?_ h
  intro s78 hs79 h
  refine g_putR fl_Mo_144 (Or.inr ⟨_, rfl⟩) (Or.inr ⟨rfl, rfl⟩) (dk_Mo_init 181 rfl) (c3.up (hs5.trans (hs7.trans (hs9.trans (hs11.trans (hs13.trans (hs15.trans (hs17.trans (hs19.trans (hs21.trans (hs23.trans (hs25.trans (hs27.trans (hs29.trans (hs31.trans (hs33.trans (hs35.trans (hs37.trans (hs39.trans (hs41.trans (hs43.trans (hs45.trans (hs47.trans (hs49.trans (hs51.trans (hs53.trans (hs55.trans (hs57.trans (hs59.trans (hs61.trans (hs63.trans (hs65.trans (hs67.trans (hs69.trans (hs71.trans (hs73.trans (hs75.trans (hs77.trans hs79)))))))))))))))))))))))))))))))))))))) ?_
  refine p_ltS (P := fun q => p_Go K l m_Mo_init 377 [(0, p_r v0)] [] q _) (p_xR _ _ _ _) ?_ h
  intro s80 hs81 h
  refine g_aload_n (i := 0) (j := 0) (dk_Mo_init 182 rfl) rfl rfl ?_
  refine g_bipush (dk_Mo_init 183 rfl) (by decide +kernel) (by decide) ?_
  refine g_newarray (i := 0) (t := 100) (n := 36) rfl (by decide +kernel) rfl rfl tw_1_63 (dk_Mo_init 184 rfl) (by decide) (by decide) ?_
  refine p_ltS (P := fun q => p_Go K l m_Mo_init 382 [(0, p_r v0)] [p_r (p_N s80 + 1), p_r v0] q _) (p_x_nw _ _ _) ?_ h
  intro s82 hs83 h
  refine g_putR fl_Mo_147 (Or.inr ⟨_, rfl⟩) (Or.inr ⟨rfl, rfl⟩) (dk_Mo_init 185 rfl) (c3.up (hs5.trans (hs7.trans (hs9.trans (hs11.trans (hs13.trans (hs15.trans (hs17.trans (hs19.trans (hs21.trans (hs23.trans (hs25.trans (hs27.trans (hs29.trans (hs31.trans (hs33.trans (hs35.trans (hs37.trans (hs39.trans (hs41.trans (hs43.trans (hs45.trans (hs47.trans (hs49.trans (hs51.trans (hs53.trans (hs55.trans (hs57.trans (hs59.trans (hs61.trans (hs63.trans (hs65.trans (hs67.trans (hs69.trans (hs71.trans (hs73.trans (hs75.trans (hs77.trans (hs79.trans (hs81.trans hs83)))))))))))))))))))))))))))))))))))))))) ?_
  refine p_ltS (P := fun q => p_Go K l m_Mo_init 385 [(0, p_r v0)] [] q _) (p_xR _ _ _ _) ?_ h
  intro s84 hs85 h
  refine g_aload_n (i := 0) (j := 0) (dk_Mo_init 186 rfl) rfl rfl ?_
  refine g_bipush (dk_Mo_init 187 rfl) (by decide +kernel) (by decide) ?_
  refine g_newarray (i := 0) (t := 100) (n := 36) rfl (by decide +kernel) rfl rfl tw_1_63 (dk_Mo_init 188 rfl) (by decide) (by decide) ?_
  refine p_ltS (P := fun q => p_Go K l m_Mo_init 390 [(0, p_r v0)] [p_r (p_N s84 + 1), p_r v0] q _) (p_x_nw _ _ _) ?_ h
  intro s86 hs87 h
  refine g_putR fl_Mo_150 (Or.inr ⟨_, rfl⟩) (Or.inr ⟨rfl, rfl⟩) (dk_Mo_init 189 rfl) (c3.up (hs5.trans (hs7.trans (hs9.trans (hs11.trans (hs13.trans (hs15.trans (hs17.trans (hs19.trans (hs21.trans (hs23.trans (hs25.trans (hs27.trans (hs29.trans (hs31.trans (hs33.trans (hs35.trans (hs37.trans (hs39.trans (hs41.trans (hs43.trans (hs45.trans (hs47.trans (hs49.trans (hs51.trans (hs53.trans (hs55.trans (hs57.trans (hs59.trans (hs61.trans (hs63.trans (hs65.trans (hs67.trans (hs69.trans (hs71.trans (hs73.trans (hs75.trans (hs77.trans (hs79.trans (hs81.trans (hs83.trans (hs85.trans hs87)))))))))))))))))))))))))))))))))))))))))) ?_
  refine p_ltS (P := fun q => p_Go K l m_Mo_init 393 [(0, p_r v0)] [] q _) (p_xR _ _ _ _) ?_ h
  intro s88 hs89 h
  refine g_aload_n (i := 0) (j := 0) (dk_Mo_init 190 rfl) rfl rfl ?_
  refine g_sipush (dk_Mo_init 191 rfl) (by decide +kernel) (by decide) ?_
  refine g_newarray (i := 0) (t := 100) (n := 144) rfl (by decide +kernel) rfl rfl tw_1_63 (dk_Mo_init 192 rfl) (by decide) (by decide) ?_
  refine p_ltS (P := fun q => p_Go K l m_Mo_init 399 [(0, p_r v0)] [p_r (p_N s88 + 1), p_r v0] q _) (p_x_nw _ _ _) ?_ h
  intro s90 hs91 h
  refine g_putR fl_Mo_153 (Or.inr ⟨_, rfl⟩) (Or.inr ⟨rfl, rfl⟩) (dk_Mo_init 193 rfl) (c3.up (hs5.trans (hs7.trans (hs9.trans (hs11.trans (hs13.trans (hs15.trans (hs17.trans (hs19.trans (hs21.trans (hs23.trans (hs25.trans (hs27.trans (hs29.trans (hs31.trans (hs33.trans (hs35.trans (hs37.trans (hs39.trans (hs41.trans (hs43.trans (hs45.trans (hs47.trans (hs49.trans (hs51.trans (hs53.trans (hs55.trans (hs57.trans (hs59.trans (hs61.trans (hs63.trans (hs65.trans (hs67.trans (hs69.trans (hs71.trans (hs73.trans (hs75.trans (hs77.trans (hs79.trans (hs81.trans (hs83.trans (hs85.trans (hs87.trans (hs89.trans hs91)))))))))))))))))))))))))))))))))))))))))))) ?_
  refine p_ltS (P := fun q => p_Go K l m_Mo_init 402 [(0, p_r v0)] [] q _) (p_xR _ _ _ _) ?_ h
  intro s92 hs93 h
  refine g_aload_n (i := 0) (j := 0) (dk_Mo_init 194 rfl) rfl rfl ?_
  refine g_sipush (dk_Mo_init 195 rfl) (by decide +kernel) (by decide) ?_
  refine g_newarray (i := 0) (t := 100) (n := 144) rfl (by decide +kernel) rfl rfl tw_1_63 (dk_Mo_init 196 rfl) (by decide) (by decide) ?_
  refine p_ltS (P := fun q => p_Go K l m_Mo_init 408 [(0, p_r v0)] [p_r (p_N s92 + 1), p_r v0] q _) (p_x_nw _ _ _) ?_ h
  intro s94 hs95 h
  refine g_putR fl_Mo_156 (Or.inr ⟨_, rfl⟩) (Or.inr ⟨rfl, rfl⟩) (dk_Mo_init 197 rfl) (c3.up (hs5.trans (hs7.trans (hs9.trans (hs11.trans (hs13.trans (hs15.trans (hs17.trans (hs19.trans (hs21.trans (hs23.trans (hs25.trans (hs27.trans (hs29.trans (hs31.trans (hs33.trans (hs35.trans (hs37.trans (hs39.trans (hs41.trans (hs43.trans (hs45.trans (hs47.trans (hs49.trans (hs51.trans (hs53.trans (hs55.trans (hs57.trans (hs59.trans (hs61.trans (hs63.trans (hs65.trans (hs67.trans (hs69.trans (hs71.trans (hs73.trans (hs75.trans (hs77.trans (hs79.trans (hs81.trans (hs83.trans (hs85.trans (hs87.trans (hs89.trans (hs91.trans (hs93.trans hs95)))))))))))))))))))))))))))))))))))))))))))))) ?_
  refine p_ltS (P := fun q => p_Go K l m_Mo_init 411 [(0, p_r v0)] [] q _) (p_xR _ _ _ _) ?_ h
  intro s96 hs97 h
  refine g_aload_n (i := 0) (j := 0) (dk_Mo_init 198 rfl) rfl rfl ?_
  refine g_sipush (dk_Mo_init 199 rfl) (by decide +kernel) (by decide) ?_
  refine g_newarray (i := 0) (t := 100) (n := 144) rfl (by decide +kernel) rfl rfl tw_1_63 (dk_Mo_init 200 rfl) (by decide) (by decide) ?_
  refine p_ltS (P := fun q => p_Go K l m_Mo_init 417 [(0, p_r v0)] [p_r (p_N s96 + 1), p_r v0] q _) (p_x_nw _ _ _) ?_ h
  intro s98 hs99 h
  refine g_putR fl_Mo_159 (Or.inr ⟨_, rfl⟩) (Or.inr ⟨rfl, rfl⟩) (dk_Mo_init 201 rfl) (c3.up (hs5.trans (hs7.trans (hs9.trans (hs11.trans (hs13.trans (hs15.trans (hs17.trans (hs19.trans (hs21.trans (hs23.trans (hs25.trans (hs27.trans (hs29.trans (hs31.trans (hs33.trans (hs35.trans (hs37.trans (hs39.trans (hs41.trans (hs43.trans (hs45.trans (hs47.trans (hs49.trans (hs51.trans (hs53.trans (hs55.trans (hs57.trans (hs59.trans (hs61.trans (hs63.trans (hs65.trans (hs67.trans (hs69.trans (hs71.trans (hs73.trans (hs75.trans (hs77.trans (hs79.trans (hs81.trans (hs83.trans (hs85.trans (hs87.trans (hs89.trans (hs91.trans (hs93.trans (hs95.trans (hs97.trans hs99)))))))))))))))))))))))))))))))))))))))))))))))) ?_
  refine p_ltS (P := fun q => p_Go K l m_Mo_init 420 [(0, p_r v0)] [] q _) (p_xR _ _ _ _) ?_ h
  intro s100 hs101 h
  exact tB_Mo_init_420 K l v0 s100 _ h
set_option maxRecDepth 100000 in
set_option maxHeartbeats 4000000 in
theorem tF_Mo_init (K : p_K) (l : Launch) (v0 : Nat) (s0 : p_Hp) (r : p_Hp) (h : F_Mo_init v0 s0 = some r) : p_Ct K l m_Mo_init [p_r v0] s0 (none, r) := by
  refine p_Ct.of (by decide +kernel) (Nat.le_of_ble_eq_true rfl) ?_
  unfold F_Mo_init at h
  show p_Go K l m_Mo_init 0 [(0, p_r v0)] [] s0 _
  refine g_aload_n (i := 0) (j := 0) (dk_Mo_init 0 rfl) rfl rfl ?_
  obtain ⟨c1, h⟩ := p_gdE h
  refine g_objInit tw_6_1 tw_1_23 tw_objInit (dk_Mo_init 1 rfl) (Nat.le_of_ble_eq_true rfl) (Nat.le_of_ble_eq_true rfl) c1 ?_
  refine g_aload_n (i := 0) (j := 0) (dk_Mo_init 2 rfl) rfl rfl ?_
  refine g_iconst (dk_Mo_init 3 rfl) (by decide) ?_
  refine g_newarray (i := 0) (t := 100) (n := 3) rfl (by decide +kernel) rfl rfl tw_1_63 (dk_Mo_init 4 rfl) (by decide) (by decide) ?_
  refine p_ltS (P := fun q => p_Go K l m_Mo_init 8 [(0, p_r v0)] [p_r (p_N s0 + 1), p_r v0] q _) (p_x_nw _ _ _) ?_ h
  intro s2 hs3 h
  obtain ⟨c4, h⟩ := p_gdE h
  refine g_putR fl_Mo_7 (Or.inr ⟨_, rfl⟩) (Or.inr ⟨rfl, rfl⟩) (dk_Mo_init 5 rfl) c4 ?_
  refine p_ltS (P := fun q => p_Go K l m_Mo_init 11 [(0, p_r v0)] [] q _) (p_xR _ _ _ _) ?_ h
  intro s5 hs6 h
  refine g_aload_n (i := 0) (j := 0) (dk_Mo_init 6 rfl) rfl rfl ?_
  refine g_iconst (dk_Mo_init 7 rfl) (by decide) ?_
  refine g_newarray (i := 0) (t := 100) (n := 3) rfl (by decide +kernel) rfl rfl tw_1_63 (dk_Mo_init 8 rfl) (by decide) (by decide) ?_
  refine p_ltS (P := fun q => p_Go K l m_Mo_init 15 [(0, p_r v0)] [p_r (p_N s5 + 1), p_r v0] q _) (p_x_nw _ _ _) ?_ h
  intro s7 hs8 h
  refine g_putR fl_Mo_13 (Or.inr ⟨_, rfl⟩) (Or.inr ⟨rfl, rfl⟩) (dk_Mo_init 9 rfl) (c4.up (hs6.trans hs8)) ?_
  refine p_ltS (P := fun q => p_Go K l m_Mo_init 18 [(0, p_r v0)] [] q _) (p_xR _ _ _ _) ?_ h
  intro s9 hs10 h
  refine g_aload_n (i := 0) (j := 0) (dk_Mo_init 10 rfl) rfl rfl ?_
  refine g_bipush (dk_Mo_init 11 rfl) (by decide +kernel) (by decide) ?_
  refine g_newarray (i := 0) (t := 100) (n := 120) rfl (by decide +kernel) rfl rfl tw_1_63 (dk_Mo_init 12 rfl) (by decide) (by decide) ?_
  refine p_ltS (P := fun q => p_Go K l m_Mo_init 23 [(0, p_r v0)] [p_r (p_N s9 + 1), p_r v0] q _) (p_x_nw _ _ _) ?_ h
  intro s11 hs12 h
  refine g_putR fl_Mo_16 (Or.inr ⟨_, rfl⟩) (Or.inr ⟨rfl, rfl⟩) (dk_Mo_init 13 rfl) (c4.up (hs6.trans (hs8.trans (hs10.trans hs12)))) ?_
  refine p_ltS (P := fun q => p_Go K l m_Mo_init 26 [(0, p_r v0)] [] q _) (p_xR _ _ _ _) ?_ h
  intro s13 hs14 h
  refine g_aload_n (i := 0) (j := 0) (dk_Mo_init 14 rfl) rfl rfl ?_
  refine g_bipush (dk_Mo_init 15 rfl) (by decide +kernel) (by decide) ?_
  refine g_newarray (i := 0) (t := 100) (n := 120) rfl (by decide +kernel) rfl rfl tw_1_63 (dk_Mo_init 16 rfl) (by decide) (by decide) ?_
  refine p_ltS (P := fun q => p_Go K l m_Mo_init 31 [(0, p_r v0)] [p_r (p_N s13 + 1), p_r v0] q _) (p_x_nw _ _ _) ?_ h
  intro s15 hs16 h
  refine g_putR fl_Mo_19 (Or.inr ⟨_, rfl⟩) (Or.inr ⟨rfl, rfl⟩) (dk_Mo_init 17 rfl) (c4.up (hs6.trans (hs8.trans (hs10.trans (hs12.trans (hs14.trans hs16)))))) ?_
  refine p_ltS (P := fun q => p_Go K l m_Mo_init 34 [(0, p_r v0)] [] q _) (p_xR _ _ _ _) ?_ h
  intro s17 hs18 h
  refine g_aload_n (i := 0) (j := 0) (dk_Mo_init 18 rfl) rfl rfl ?_
  refine g_bipush (dk_Mo_init 19 rfl) (by decide +kernel) (by decide) ?_
  refine g_newarray (i := 0) (t := 100) (n := 120) rfl (by decide +kernel) rfl rfl tw_1_63 (dk_Mo_init 20 rfl) (by decide) (by decide) ?_
  refine p_ltS (P := fun q => p_Go K l m_Mo_init 39 [(0, p_r v0)] [p_r (p_N s17 + 1), p_r v0] q _) (p_x_nw _ _ _) ?_ h
  intro s19 hs20 h
  refine g_putR fl_Mo_22 (Or.inr ⟨_, rfl⟩) (Or.inr ⟨rfl, rfl⟩) (dk_Mo_init 21 rfl) (c4.up (hs6.trans (hs8.trans (hs10.trans (hs12.trans (hs14.trans (hs16.trans (hs18.trans hs20)))))))) ?_
  refine p_ltS (P := fun q => p_Go K l m_Mo_init 42 [(0, p_r v0)] [] q _) (p_xR _ _ _ _) ?_ h
  intro s21 hs22 h
  refine g_aload_n (i := 0) (j := 0) (dk_Mo_init 22 rfl) rfl rfl ?_
  refine g_sipush (dk_Mo_init 23 rfl) (by decide +kernel) (by decide) ?_
  refine g_newarray (i := 0) (t := 100) (n := 360) rfl (by decide +kernel) rfl rfl tw_1_63 (dk_Mo_init 24 rfl) (by decide) (by decide) ?_
  refine p_ltS (P := fun q => p_Go K l m_Mo_init 48 [(0, p_r v0)] [p_r (p_N s21 + 1), p_r v0] q _) (p_x_nw _ _ _) ?_ h
  intro s23 hs24 h
  refine g_putR fl_Mo_25 (Or.inr ⟨_, rfl⟩) (Or.inr ⟨rfl, rfl⟩) (dk_Mo_init 25 rfl) (c4.up (hs6.trans (hs8.trans (hs10.trans (hs12.trans (hs14.trans (hs16.trans (hs18.trans (hs20.trans (hs22.trans hs24)))))))))) ?_
  refine p_ltS (P := fun q => p_Go K l m_Mo_init 51 [(0, p_r v0)] [] q _) (p_xR _ _ _ _) ?_ h
  intro s25 hs26 h
  refine g_aload_n (i := 0) (j := 0) (dk_Mo_init 26 rfl) rfl rfl ?_
  refine g_bipush (dk_Mo_init 27 rfl) (by decide +kernel) (by decide) ?_
  refine g_newarray (i := 0) (t := 100) (n := 120) rfl (by decide +kernel) rfl rfl tw_1_63 (dk_Mo_init 28 rfl) (by decide) (by decide) ?_
  refine p_ltS (P := fun q => p_Go K l m_Mo_init 56 [(0, p_r v0)] [p_r (p_N s25 + 1), p_r v0] q _) (p_x_nw _ _ _) ?_ h
  intro s27 hs28 h
  refine g_putR fl_Mo_28 (Or.inr ⟨_, rfl⟩) (Or.inr ⟨rfl, rfl⟩) (dk_Mo_init 29 rfl) (c4.up (hs6.trans (hs8.trans (hs10.trans (hs12.trans (hs14.trans (hs16.trans (hs18.trans (hs20.trans (hs22.trans (hs24.trans (hs26.trans hs28)))))))))))) ?_
  refine p_ltS (P := fun q => p_Go K l m_Mo_init 59 [(0, p_r v0)] [] q _) (p_xR _ _ _ _) ?_ h
  intro s29 hs30 h
  refine g_aload_n (i := 0) (j := 0) (dk_Mo_init 30 rfl) rfl rfl ?_
  refine g_bipush (dk_Mo_init 31 rfl) (by decide +kernel) (by decide) ?_
  refine g_newarray (i := 0) (t := 100) (n := 120) rfl (by decide +kernel) rfl rfl tw_1_63 (dk_Mo_init 32 rfl) (by decide) (by decide) ?_
  refine p_ltS (P := fun q => p_Go K l m_Mo_init 64 [(0, p_r v0)] [p_r (p_N s29 + 1), p_r v0] q _) (p_x_nw _ _ _) ?_ h
  intro s31 hs32 h
  refine g_putR fl_Mo_31 (Or.inr ⟨_, rfl⟩) (Or.inr ⟨rfl, rfl⟩) (dk_Mo_init 33 rfl) (c4.up (hs6.trans (hs8.trans (hs10.trans (hs12.trans (hs14.trans (hs16.trans (hs18.trans (hs20.trans (hs22.trans (hs24.trans (hs26.trans (hs28.trans (hs30.trans hs32)))))))))))))) ?_
  refine p_ltS (P := fun q => p_Go K l m_Mo_init 67 [(0, p_r v0)] [] q _) (p_xR _ _ _ _) ?_ h
  intro s33 hs34 h
  refine g_aload_n (i := 0) (j := 0) (dk_Mo_init 34 rfl) rfl rfl ?_
  refine g_sipush (dk_Mo_init 35 rfl) (by decide +kernel) (by decide) ?_
  refine g_newarray (i := 1) (t := 101) (n := 240) rfl (by decide +kernel) rfl rfl tw_7_34 (dk_Mo_init 36 rfl) (by decide) (by decide) ?_
  refine p_ltS (P := fun q => p_Go K l m_Mo_init 73 [(0, p_r v0)] [p_r (p_N s33 + 1), p_r v0] q _) (p_x_nw _ _ _) ?_ h
  intro s35 hs36 h
  refine g_putR fl_Mo_34 (Or.inr ⟨_, rfl⟩) (Or.inr ⟨rfl, rfl⟩) (dk_Mo_init 37 rfl) (c4.up (hs6.trans (hs8.trans (hs10.trans (hs12.trans (hs14.trans (hs16.trans (hs18.trans (hs20.trans (hs22.trans (hs24.trans (hs26.trans (hs28.trans (hs30.trans (hs32.trans (hs34.trans hs36)))))))))))))))) ?_
  refine p_ltS (P := fun q => p_Go K l m_Mo_init 76 [(0, p_r v0)] [] q _) (p_xR _ _ _ _) ?_ h
  intro s37 hs38 h
  refine g_aload_n (i := 0) (j := 0) (dk_Mo_init 38 rfl) rfl rfl ?_
  refine g_bipush (dk_Mo_init 39 rfl) (by decide +kernel) (by decide) ?_
  refine g_newarray (i := 0) (t := 100) (n := 120) rfl (by decide +kernel) rfl rfl tw_1_63 (dk_Mo_init 40 rfl) (by decide) (by decide) ?_
  refine p_ltS (P := fun q => p_Go K l m_Mo_init 81 [(0, p_r v0)] [p_r (p_N s37 + 1), p_r v0] q _) (p_x_nw _ _ _) ?_ h
  intro s39 hs40 h
  refine g_putR fl_Mo_38 (Or.inr ⟨_, rfl⟩) (Or.inr ⟨rfl, rfl⟩) (dk_Mo_init 41 rfl) (c4.up (hs6.trans (hs8.trans (hs10.trans (hs12.trans (hs14.trans (hs16.trans (hs18.trans (hs20.trans (hs22.trans (hs24.trans (hs26.trans (hs28.trans (hs30.trans (hs32.trans (hs34.trans (hs36.trans (hs38.trans hs40)))))))))))))))))) ?_
  refine p_ltS (P := fun q => p_Go K l m_Mo_init 84 [(0, p_r v0)] [] q _) (p_xR _ _ _ _) ?_ h
  intro s41 hs42 h
  refine g_aload_n (i := 0) (j := 0) (dk_Mo_init 42 rfl) rfl rfl ?_
  refine g_bipush (dk_Mo_init 43 rfl) (by decide +kernel) (by decide) ?_
  refine g_newarray (i := 0) (t := 100) (n := 120) rfl (by decide +kernel) rfl rfl tw_1_63 (dk_Mo_init 44 rfl) (by decide) (by decide) ?_
  refine p_ltS (P := fun q => p_Go K l m_Mo_init 89 [(0, p_r v0)] [p_r (p_N s41 + 1), p_r v0] q _) (p_x_nw _ _ _) ?_ h
  intro s43 hs44 h
  refine g_putR fl_Mo_41 (Or.inr ⟨_, rfl⟩) (Or.inr ⟨rfl, rfl⟩) (dk_Mo_init 45 rfl) (c4.up (hs6.trans (hs8.trans (hs10.trans (hs12.trans (hs14.trans (hs16.trans (hs18.trans (hs20.trans (hs22.trans (hs24.trans (hs26.trans (hs28.trans (hs30.trans (hs32.trans (hs34.trans (hs36.trans (hs38.trans (hs40.trans (hs42.trans hs44)))))))))))))))))))) ?_
  refine p_ltS (P := fun q => p_Go K l m_Mo_init 92 [(0, p_r v0)] [] q _) (p_xR _ _ _ _) ?_ h
  intro s45 hs46 h
  refine g_aload_n (i := 0) (j := 0) (dk_Mo_init 46 rfl) rfl rfl ?_
  refine g_bipush (dk_Mo_init 47 rfl) (by decide +kernel) (by decide) ?_
  refine g_newarray (i := 2) (t := 102) (n := 120) rfl (by decide +kernel) rfl rfl tw_7_35 (dk_Mo_init 48 rfl) (by decide) (by decide) ?_
  refine p_ltS (P := fun q => p_Go K l m_Mo_init 97 [(0, p_r v0)] [p_r (p_N s45 + 1), p_r v0] q _) (p_x_nw _ _ _) ?_ h
  intro s47 hs48 h
  refine g_putR fl_Mo_44 (Or.inr ⟨_, rfl⟩) (Or.inr ⟨rfl, rfl⟩) (dk_Mo_init 49 rfl) (c4.up (hs6.trans (hs8.trans (hs10.trans (hs12.trans (hs14.trans (hs16.trans (hs18.trans (hs20.trans (hs22.trans (hs24.trans (hs26.trans (hs28.trans (hs30.trans (hs32.trans (hs34.trans (hs36.trans (hs38.trans (hs40.trans (hs42.trans (hs44.trans (hs46.trans hs48)))))))))))))))))))))) ?_
  refine p_ltS (P := fun q => p_Go K l m_Mo_init 100 [(0, p_r v0)] [] q _) (p_xR _ _ _ _) ?_ h
  intro s49 hs50 h
  refine g_aload_n (i := 0) (j := 0) (dk_Mo_init 50 rfl) rfl rfl ?_
  refine g_bipush (dk_Mo_init 51 rfl) (by decide +kernel) (by decide) ?_
  refine g_newarray (i := 0) (t := 100) (n := 120) rfl (by decide +kernel) rfl rfl tw_1_63 (dk_Mo_init 52 rfl) (by decide) (by decide) ?_
  refine p_ltS (P := fun q => p_Go K l m_Mo_init 105 [(0, p_r v0)] [p_r (p_N s49 + 1), p_r v0] q _) (p_x_nw _ _ _) ?_ h
  intro s51 hs52 h
  refine g_putR fl_Mo_48 (Or.inr ⟨_, rfl⟩) (Or.inr ⟨rfl, rfl⟩) (dk_Mo_init 53 rfl) (c4.up (hs6.trans (hs8.trans (hs10.trans (hs12.trans (hs14.trans (hs16.trans (hs18.trans (hs20.trans (hs22.trans (hs24.trans (hs26.trans (hs28.trans (hs30.trans (hs32.trans (hs34.trans (hs36.trans (hs38.trans (hs40.trans (hs42.trans (hs44.trans (hs46.trans (hs48.trans (hs50.trans hs52)))))))))))))))))))))))) ?_
  refine p_ltS (P := fun q => p_Go K l m_Mo_init 108 [(0, p_r v0)] [] q _) (p_xR _ _ _ _) ?_ h
  intro s53 hs54 h
  refine g_aload_n (i := 0) (j := 0) (dk_Mo_init 54 rfl) rfl rfl ?_
  refine g_bipush (dk_Mo_init 55 rfl) (by decide +kernel) (by decide) ?_
  refine g_newarray (i := 0) (t := 100) (n := 120) rfl (by decide +kernel) rfl rfl tw_1_63 (dk_Mo_init 56 rfl) (by decide) (by decide) ?_
  refine p_ltS (P := fun q => p_Go K l m_Mo_init 113 [(0, p_r v0)] [p_r (p_N s53 + 1), p_r v0] q _) (p_x_nw _ _ _) ?_ h
  intro s55 hs56 h
  refine g_putR fl_Mo_51 (Or.inr ⟨_, rfl⟩) (Or.inr ⟨rfl, rfl⟩) (dk_Mo_init 57 rfl) (c4.up (hs6.trans (hs8.trans (hs10.trans (hs12.trans (hs14.trans (hs16.trans (hs18.trans (hs20.trans (hs22.trans (hs24.trans (hs26.trans (hs28.trans (hs30.trans (hs32.trans (hs34.trans (hs36.trans (hs38.trans (hs40.trans (hs42.trans (hs44.trans (hs46.trans (hs48.trans (hs50.trans (hs52.trans (hs54.trans hs56)))))))))))))))))))))))))) ?_
  refine p_ltS (P := fun q => p_Go K l m_Mo_init 116 [(0, p_r v0)] [] q _) (p_xR _ _ _ _) ?_ h
  intro s57 hs58 h
  refine g_aload_n (i := 0) (j := 0) (dk_Mo_init 58 rfl) rfl rfl ?_
  refine g_bipush (dk_Mo_init 59 rfl) (by decide +kernel) (by decide) ?_
  refine g_newarray (i := 0) (t := 100) (n := 120) rfl (by decide +kernel) rfl rfl tw_1_63 (dk_Mo_init 60 rfl) (by decide) (by decide) ?_
  refine p_ltS (P := fun q => p_Go K l m_Mo_init 121 [(0, p_r v0)] [p_r (p_N s57 + 1), p_r v0] q _) (p_x_nw _ _ _) ?_ h
  intro s59 hs60 h
  refine g_putR fl_Mo_54 (Or.inr ⟨_, rfl⟩) (Or.inr ⟨rfl, rfl⟩) (dk_Mo_init 61 rfl) (c4.up (hs6.trans (hs8.trans (hs10.trans (hs12.trans (hs14.trans (hs16.trans (hs18.trans (hs20.trans (hs22.trans (hs24.trans (hs26.trans (hs28.trans (hs30.trans (hs32.trans (hs34.trans (hs36.trans (hs38.trans (hs40.trans (hs42.trans (hs44.trans (hs46.trans (hs48.trans (hs50.trans (hs52.trans (hs54.trans (hs56.trans (hs58.trans hs60)))))))))))))))))))))))))))) ?_
  refine p_ltS (P := fun q => p_Go K l m_Mo_init 124 [(0, p_r v0)] [] q _) (p_xR _ _ _ _) ?_ h
  intro s61 hs62 h
  refine g_aload_n (i := 0) (j := 0) (dk_Mo_init 62 rfl) rfl rfl ?_
  refine g_bipush (dk_Mo_init 63 rfl) (by decide +kernel) (by decide) ?_
  refine g_newarray (i := 0) (t := 100) (n := 120) rfl (by decide +kernel) rfl rfl tw_1_63 (dk_Mo_init 64 rfl) (by decide) (by decide) ?_
  refine p_ltS (P := fun q => p_Go K l m_Mo_init 129 [(0, p_r v0)] [p_r (p_N s61 + 1), p_r v0] q _) (p_x_nw _ _ _) ?_ h
  intro s63 hs64 h
  refine g_putR fl_Mo_57 (Or.inr ⟨_, rfl⟩) (Or.inr ⟨rfl, rfl⟩) (dk_Mo_init 65 rfl) (c4.up (hs6.trans (hs8.trans (hs10.trans (hs12.trans (hs14.trans (hs16.trans (hs18.trans (hs20.trans (hs22.trans (hs24.trans (hs26.trans (hs28.trans (hs30.trans (hs32.trans (hs34.trans (hs36.trans (hs38.trans (hs40.trans (hs42.trans (hs44.trans (hs46.trans (hs48.trans (hs50.trans (hs52.trans (hs54.trans (hs56.trans (hs58.trans (hs60.trans (hs62.trans hs64)))))))))))))))))))))))))))))) ?_
  refine p_ltS (P := fun q => p_Go K l m_Mo_init 132 [(0, p_r v0)] [] q _) (p_xR _ _ _ _) ?_ h
  intro s65 hs66 h
  refine g_aload_n (i := 0) (j := 0) (dk_Mo_init 66 rfl) rfl rfl ?_
  refine g_bipush (dk_Mo_init 67 rfl) (by decide +kernel) (by decide) ?_
  refine g_newarray (i := 0) (t := 100) (n := 120) rfl (by decide +kernel) rfl rfl tw_1_63 (dk_Mo_init 68 rfl) (by decide) (by decide) ?_
  refine p_ltS (P := fun q => p_Go K l m_Mo_init 137 [(0, p_r v0)] [p_r (p_N s65 + 1), p_r v0] q _) (p_x_nw _ _ _) ?_ h
  intro s67 hs68 h
  refine g_putR fl_Mo_60 (Or.inr ⟨_, rfl⟩) (Or.inr ⟨rfl, rfl⟩) (dk_Mo_init 69 rfl) (c4.up (hs6.trans (hs8.trans (hs10.trans (hs12.trans (hs14.trans (hs16.trans (hs18.trans (hs20.trans (hs22.trans (hs24.trans (hs26.trans (hs28.trans (hs30.trans (hs32.trans (hs34.trans (hs36.trans (hs38.trans (hs40.trans (hs42.trans (hs44.trans (hs46.trans (hs48.trans (hs50.trans (hs52.trans (hs54.trans (hs56.trans (hs58.trans (hs60.trans (hs62.trans (hs64.trans (hs66.trans hs68)))))))))))))))))))))))))))))))) ?_
  refine p_ltS (P := fun q => p_Go K l m_Mo_init 140 [(0, p_r v0)] [] q _) (p_xR _ _ _ _) ?_ h
  intro s69 hs70 h
  refine g_aload_n (i := 0) (j := 0) (dk_Mo_init 70 rfl) rfl rfl ?_
  refine g_bipush (dk_Mo_init 71 rfl) (by decide +kernel) (by decide) ?_
  refine g_newarray (i := 0) (t := 100) (n := 120) rfl (by decide +kernel) rfl rfl tw_1_63 (dk_Mo_init 72 rfl) (by decide) (by decide) ?_
  refine p_ltS (P := fun q => p_Go K l m_Mo_init 145 [(0, p_r v0)] [p_r (p_N s69 + 1), p_r v0] q _) (p_x_nw _ _ _) ?_ h
  intro s71 hs72 h
  refine g_putR fl_Mo_63 (Or.inr ⟨_, rfl⟩) (Or.inr ⟨rfl, rfl⟩) (dk_Mo_init 73 rfl) (c4.up (hs6.trans (hs8.trans (hs10.trans (hs12.trans (hs14.trans (hs16.trans (hs18.trans (hs20.trans (hs22.trans (hs24.trans (hs26.trans (hs28.trans (hs30.trans (hs32.trans (hs34.trans (hs36.trans (hs38.trans (hs40.trans (hs42.trans (hs44.trans (hs46.trans (hs48.trans (hs50.trans (hs52.trans (hs54.trans (hs56.trans (hs58.trans (hs60.trans (hs62.trans (hs64.trans (hs66.trans (hs68.trans (hs70.trans hs72)))))))))))))))))))))))))))))))))) ?_
  refine p_ltS (P := fun q => p_Go K l m_Mo_init 148 [(0, p_r v0)] [] q _) (p_xR _ _ _ _) ?_ h
  intro s73 hs74 h
  refine g_aload_n (i := 0) (j := 0) (dk_Mo_init 74 rfl) rfl rfl ?_
  refine g_bipush (dk_Mo_init 75 rfl) (by decide +kernel) (by decide) ?_
  refine g_newarray (i := 0) (t := 100) (n := 120) rfl (by decide +kernel) rfl rfl tw_1_63 (dk_Mo_init 76 rfl) (by decide) (by decide) ?_
  refine p_ltS (P := fun q => p_Go K l m_Mo_init 153 [(0, p_r v0)] [p_r (p_N s73 + 1), p_r v0] q _) (p_x_nw _ _ _) ?_ h
  intro s75 hs76 h
  refine g_putR fl_Mo_66 (Or.inr ⟨_, rfl⟩) (Or.inr ⟨rfl, rfl⟩) (dk_Mo_init 77 rfl) (c4.up (hs6.trans (hs8.trans (hs10.trans (hs12.trans (hs14.trans (hs16.trans (hs18.trans (hs20.trans (hs22.trans (hs24.trans (hs26.trans (hs28.trans (hs30.trans (hs32.trans (hs34.trans (hs36.trans (hs38.trans (hs40.trans (hs42.trans (hs44.trans (hs46.trans (hs48.trans (hs50.trans (hs52.trans (hs54.trans (hs56.trans (hs58.trans (hs60.trans (hs62.trans (hs64.trans (hs66.trans (hs68.trans (hs70.trans (hs72.trans (hs74.trans hs76)))))))))))))))))))))))))))))))))))) ?_
  refine p_ltS (P := fun q => p_Go K l m_Mo_init 156 [(0, p_r v0)] [] q _) (p_xR _ _ _ _) ?_ h
  intro s77 hs78 h
  refine g_aload_n (i := 0) (j := 0) (dk_Mo_init 78 rfl) rfl rfl ?_
  refine g_sipush (dk_Mo_init 79 rfl) (by decide +kernel) (by decide) ?_
  refine g_newarray (i := 0) (t := 100) (n := 960) rfl (by decide +kernel) rfl rfl tw_1_63 (dk_Mo_init 80 rfl) (by decide) (by decide) ?_
  refine p_ltS (P := fun q => p_Go K l m_Mo_init 162 [(0, p_r v0)] [p_r (p_N s77 + 1), p_r v0] q _) (p_x_nw _ _ _) ?_ h
  intro s79 hs80 h
  refine g_putR fl_Mo_69 (Or.inr ⟨_, rfl⟩) (Or.inr ⟨rfl, rfl⟩) (dk_Mo_init 81 rfl) (c4.up (hs6.trans (hs8.trans (hs10.trans (hs12.trans (hs14.trans (hs16.trans (hs18.trans (hs20.trans (hs22.trans (hs24.trans (hs26.trans (hs28.trans (hs30.trans (hs32.trans (hs34.trans (hs36.trans (hs38.trans (hs40.trans (hs42.trans (hs44.trans (hs46.trans (hs48.trans (hs50.trans (hs52.trans (hs54.trans (hs56.trans (hs58.trans (hs60.trans (hs62.trans (hs64.trans (hs66.trans (hs68.trans (hs70.trans (hs72.trans (hs74.trans (hs76.trans (hs78.trans hs80)))))))))))))))))))))))))))))))))))))) ?_
  refine p_ltS (P := fun q => p_Go K l m_Mo_init 165 [(0, p_r v0)] [] q _) (p_xR _ _ _ _) ?_ h
  intro s81 hs82 h
  refine g_aload_n (i := 0) (j := 0) (dk_Mo_init 82 rfl) rfl rfl ?_
  refine g_sipush (dk_Mo_init 83 rfl) (by decide +kernel) (by decide) ?_
  refine g_newarray (i := 0) (t := 100) (n := 2001) rfl (by decide +kernel) rfl rfl tw_1_63 (dk_Mo_init 84 rfl) (by decide) (by decide) ?_
  refine p_ltS (P := fun q => p_Go K l m_Mo_init 171 [(0, p_r v0)] [p_r (p_N s81 + 1), p_r v0] q _) (p_x_nw _ _ _) ?_ h
  intro s83 hs84 h
  refine g_putR fl_Mo_72 (Or.inr ⟨_, rfl⟩) (Or.inr ⟨rfl, rfl⟩) (dk_Mo_init 85 rfl) (c4.up (hs6.trans (hs8.trans (hs10.trans (hs12.trans (hs14.trans (hs16.trans (hs18.trans (hs20.trans (hs22.trans (hs24.trans (hs26.trans (hs28.trans (hs30.trans (hs32.trans (hs34.trans (hs36.trans (hs38.trans (hs40.trans (hs42.trans (hs44.trans (hs46.trans (hs48.trans (hs50.trans (hs52.trans (hs54.trans (hs56.trans (hs58.trans (hs60.trans (hs62.trans (hs64.trans (hs66.trans (hs68.trans (hs70.trans (hs72.trans (hs74.trans (hs76.trans (hs78.trans (hs80.trans (hs82.trans hs84)))))))))))))))))))))))))))))))))))))))) ?_
  refine p_ltS (P := fun q => p_Go K l m_Mo_init 174 [(0, p_r v0)] [] q _) (p_xR _ _ _ _) ?_ h
  intro s85 hs86 h
  refine g_aload_n (i := 0) (j := 0) (dk_Mo_init 86 rfl) rfl rfl ?_
  refine g_sipush (dk_Mo_init 87 rfl) (by decide +kernel) (by decide) ?_
  refine g_newarray (i := 0) (t := 100) (n := 2001) rfl (by decide +kernel) rfl rfl tw_1_63 (dk_Mo_init 88 rfl) (by decide) (by decide) ?_
  refine p_ltS (P := fun q => p_Go K l m_Mo_init 180 [(0, p_r v0)] [p_r (p_N s85 + 1), p_r v0] q _) (p_x_nw _ _ _) ?_ h
  intro s87 hs88 h
  refine g_putR fl_Mo_75 (Or.inr ⟨_, rfl⟩) (Or.inr ⟨rfl, rfl⟩) (dk_Mo_init 89 rfl) (c4.up (hs6.trans (hs8.trans (hs10.trans (hs12.trans (hs14.trans (hs16.trans (hs18.trans (hs20.trans (hs22.trans (hs24.trans (hs26.trans (hs28.trans (hs30.trans (hs32.trans (hs34.trans (hs36.trans (hs38.trans (hs40.trans (hs42.trans (hs44.trans (hs46.trans (hs48.trans (hs50.trans (hs52.trans (hs54.trans (hs56.trans (hs58.trans (hs60.trans (hs62.trans (hs64.trans (hs66.trans (hs68.trans (hs70.trans (hs72.trans (hs74.trans (hs76.trans (hs78.trans (hs80.trans (hs82.trans (hs84.trans (hs86.trans hs88)))))))))))))))))))))))))))))))))))))))))) ?_
  refine p_ltS (P := fun q => p_Go K l m_Mo_init 183 [(0, p_r v0)] [] q _) (p_xR _ _ _ _) ?_ h
  intro s89 hs90 h
  refine g_aload_n (i := 0) (j := 0) (dk_Mo_init 90 rfl) rfl rfl ?_
  refine g_sipush (dk_Mo_init 91 rfl) (by decide +kernel) (by decide) ?_
  refine g_newarray (i := 0) (t := 100) (n := 2001) rfl (by decide +kernel) rfl rfl tw_1_63 (dk_Mo_init 92 rfl) (by decide) (by decide) ?_
  refine p_ltS (P := fun q => p_Go K l m_Mo_init 189 [(0, p_r v0)] [p_r (p_N s89 + 1), p_r v0] q _) (p_x_nw _ _ _) ?_ h
  intro s91 hs92 h
  refine g_putR fl_Mo_78 (Or.inr ⟨_, rfl⟩) (Or.inr ⟨rfl, rfl⟩) (dk_Mo_init 93 rfl) (c4.up (hs6.trans (hs8.trans (hs10.trans (hs12.trans (hs14.trans (hs16.trans (hs18.trans (hs20.trans (hs22.trans (hs24.trans (hs26.trans (hs28.trans (hs30.trans (hs32.trans (hs34.trans (hs36.trans (hs38.trans (hs40.trans (hs42.trans (hs44.trans (hs46.trans (hs48.trans (hs50.trans (hs52.trans (hs54.trans (hs56.trans (hs58.trans (hs60.trans (hs62.trans (hs64.trans (hs66.trans (hs68.trans (hs70.trans (hs72.trans (hs74.trans (hs76.trans (hs78.trans (hs80.trans (hs82.trans (hs84.trans (hs86.trans (hs88.trans (hs90.trans hs92)))))))))))))))))))))))))))))))))))))))))))) ?_
  refine p_ltS (P := fun q => p_Go K l m_Mo_init 192 [(0, p_r v0)] [] q _) (p_xR _ _ _ _) ?_ h
  intro s93 hs94 h
  refine g_aload_n (i := 0) (j := 0) (dk_Mo_init 94 rfl) rfl rfl ?_
  refine g_sipush (dk_Mo_init 95 rfl) (by decide +kernel) (by decide) ?_
  refine g_newarray (i := 0) (t := 100) (n := 2001) rfl (by decide +kernel) rfl rfl tw_1_63 (dk_Mo_init 96 rfl) (by decide) (by decide) ?_
  refine p_ltS (P := fun q => p_Go K l m_Mo_init 198 [(0, p_r v0)] [p_r (p_N s93 + 1), p_r v0] q _) (p_x_nw _ _ _) ?_ h
  intro s95 hs96 h
  refine g_putR fl_Mo_81 (Or.inr ⟨_, rfl⟩) (Or.inr ⟨rfl, rfl⟩) (dk_Mo_init 97 rfl) (c4.up (hs6.trans (hs8.trans (hs10.trans (hs12.trans (hs14.trans (hs16.trans (hs18.trans (hs20.trans (hs22.trans (hs24.trans (hs26.trans (hs28.trans (hs30.trans (hs32.trans (hs34.trans (hs36.trans (hs38.trans (hs40.trans (hs42.trans (hs44.trans (hs46.trans (hs48.trans (hs50.trans (hs52.trans (hs54.trans (hs56.trans (hs58.trans (hs60.trans (hs62.trans (hs64.trans (hs66.trans (hs68.trans (hs70.trans (hs72.trans (hs74.trans (hs76.trans (hs78.trans (hs80.trans (hs82.trans (hs84.trans (hs86.trans (hs88.trans (hs90.trans (hs92.trans (hs94.trans hs96)))))))))))))))))))))))))))))))))))))))))))))) ?_
  refine p_ltS (P := fun q => p_Go K l m_Mo_init 201 [(0, p_r v0)] [] q _) (p_xR _ _ _ _) ?_ h
  intro s97 hs98 h
  refine g_aload_n (i := 0) (j := 0) (dk_Mo_init 98 rfl) rfl rfl ?_
  refine g_sipush (dk_Mo_init 99 rfl) (by decide +kernel) (by decide) ?_
  refine g_newarray (i := 0) (t := 100) (n := 2001) rfl (by decide +kernel) rfl rfl tw_1_63 (dk_Mo_init 100 rfl) (by decide) (by decide) ?_
  refine p_ltS (P := fun q => p_Go K l m_Mo_init 207 [(0, p_r v0)] [p_r (p_N s97 + 1), p_r v0] q _) (p_x_nw _ _ _) ?_ h
  intro s99 hs100 h
  refine g_putR fl_Mo_84 (Or.inr ⟨_, rfl⟩) (Or.inr ⟨rfl, rfl⟩) (dk_Mo_init 101 rfl) (c4.up (hs6.trans (hs8.trans (hs10.trans (hs12.trans (hs14.trans (hs16.trans (hs18.trans (hs20.trans (hs22.trans (hs24.trans (hs26.trans (hs28.trans (hs30.trans (hs32.trans (hs34.trans (hs36.trans (hs38.trans (hs40.trans (hs42.trans (hs44.trans (hs46.trans (hs48.trans (hs50.trans (hs52.trans (hs54.trans (hs56.trans (hs58.trans (hs60.trans (hs62.trans (hs64.trans (hs66.trans (hs68.trans (hs70.trans (hs72.trans (hs74.trans (hs76.trans (hs78.trans (hs80.trans (hs82.trans (hs84.trans (hs86.trans (hs88.trans (hs90.trans (hs92.trans (hs94.trans (hs96.trans (hs98.trans hs100)))))))))))))))))))))))))))))))))))))))))))))))) ?_
  refine p_ltS (P := fun q => p_Go K l m_Mo_init 210 [(0, p_r v0)] [] q _) (p_xR _ _ _ _) ?_ h
  intro s101 hs102 h
  exact tB_Mo_init_210 K l v0 s101 _ h
def m_Mo_beyond : p_Me := (⟨"SortWorksModel", "beyond", "(JJJ)Z"⟩, prog_13_method_2_code, 6, (some .boolean), 0, 0)
theorem mt_Mo_beyond : p_Mt m_Mo_beyond 3 := ⟨p_mem (p_tb7 (List.mem_of_getElem? (i := 43) rfl)) rfl, tw_1_12, by decide +kernel, by decide +kernel, by decide +kernel⟩
def dt_Mo_beyond : List (Nat × Instr × Nat) := [(0, .lload_n 0, 1), (1, .lload_n 2, 1), (2, .lcmp, 1), (3, .ifCond .lt 10, 3), (6, .lload_n 0, 1), (7, .lload 4, 2), (9, .lcmp, 1), (10, .ifCond .le 7, 3), (13, .iconst 1, 1), (14, .goto 4, 3), (17, .iconst 0, 1), (18, .ireturn, 1)]
theorem dk_Mo_beyond (i : Nat) {pc : Nat} {ins : Instr} {len : Nat} (h : dt_Mo_beyond[i]? = some (pc, ins, len)) : decode m_Mo_beyond.2.1 pc = .ok (ins, len) := p_dk (b := m_Mo_beyond.2.1) (t := dt_Mo_beyond) (by decide +kernel) i h
def B_Mo_beyond_13   (s0 : p_Hp) : Option (Int × p_Hp) :=
  some (1, s0)
def F_Mo_beyond (v0 : Int) (v2 : Int) (v4 : Int) (s0 : p_Hp) : Option (Int × p_Hp) :=
  if (p_cmp v0 v2) < 0 then
    B_Mo_beyond_13 s0
  else
    if (p_cmp v0 v4) ≤ 0 then
      some (0, s0)
    else
      B_Mo_beyond_13 s0
set_option maxRecDepth 100000 in
set_option maxHeartbeats 4000000 in
theorem tB_Mo_beyond_13 (K : p_K) (l : Launch)   (s0 : p_Hp) (r : (Int × p_Hp)) (h : B_Mo_beyond_13  s0 = some r) : p_Go K l m_Mo_beyond 13 [] [] s0 (some (p_i r.1), r.2) := by
  unfold B_Mo_beyond_13 at h
  refine g_iconst (dk_Mo_beyond 8 rfl) (by decide) ?_
  refine g_goto 18 (dk_Mo_beyond 9 rfl) (by decide) ?_
  cases h
  exact g_ret rfl rfl (dk_Mo_beyond 11 rfl) (fun _ => ⟨_, rfl, Or.inr rfl⟩)
set_option maxRecDepth 100000 in
set_option maxHeartbeats 4000000 in
theorem tF_Mo_beyond (K : p_K) (l : Launch) (v0 : Int) (v2 : Int) (v4 : Int) (s0 : p_Hp) (r : (Int × p_Hp)) (h : F_Mo_beyond v0 v2 v4 s0 = some r) : p_Ct K l m_Mo_beyond [p_j v0, p_j v2, p_j v4] s0 (some (p_i r.1), r.2) := by
  refine p_Ct.of (by decide +kernel) (Nat.le_of_ble_eq_true rfl) ?_
  unfold F_Mo_beyond at h
  show p_Go K l m_Mo_beyond 0 [(0, p_j v0), (2, p_j v2), (4, p_j v4)] [] s0 _
  refine g_lload_n (i := 0) (j := 0) (dk_Mo_beyond 0 rfl) rfl rfl ?_
  refine g_lload_n (i := 2) (j := 1) (dk_Mo_beyond 1 rfl) rfl rfl ?_
  refine g_lcmp (dk_Mo_beyond 2 rfl) ?_
  refine g_if_lt 13 (dk_Mo_beyond 3 rfl) (by decide) (fun b1 => ?_) (fun b1 => ?_)
  · have h := p_ifT b1 h
    refine g_sub [] [] rfl ?_
    exact tB_Mo_beyond_13 K l s0 _ h
  · have h := p_ifF b1 h
    refine g_lload_n (i := 0) (j := 0) (dk_Mo_beyond 4 rfl) rfl rfl ?_
    refine g_lload (j := 2) (dk_Mo_beyond 5 rfl) rfl ?_
    refine g_lcmp (dk_Mo_beyond 6 rfl) ?_
    refine g_if_le 17 (dk_Mo_beyond 7 rfl) (by decide) (fun b2 => ?_) (fun b2 => ?_)
    · have h := p_ifT b2 h
      refine g_iconst (dk_Mo_beyond 10 rfl) (by decide) ?_
      cases h
      exact g_ret rfl rfl (dk_Mo_beyond 11 rfl) (fun _ => ⟨_, rfl, Or.inl rfl⟩)
    · have h := p_ifF b2 h
      refine g_sub [] [] rfl ?_
      exact tB_Mo_beyond_13 K l s0 _ h
def m_Mo_refused : p_Me := (⟨"SortWorksModel", "refused", "(I)I"⟩, prog_13_method_3_code, 2, (some .int), 0, 0)
theorem mt_Mo_refused : p_Mt m_Mo_refused 1 := ⟨p_mem (p_tb7 (List.mem_of_getElem? (i := 47) rfl)) rfl, tw_1_12, by decide +kernel, by decide +kernel, by decide +kernel⟩
def dt_Mo_refused : List (Nat × Instr × Nat) := [(0, .aload_n 0, 1), (1, .iload_n 1, 1), (2, .putfield 220, 3), (5, .iload_n 1, 1), (6, .ireturn, 1)]
theorem dk_Mo_refused (i : Nat) {pc : Nat} {ins : Instr} {len : Nat} (h : dt_Mo_refused[i]? = some (pc, ins, len)) : decode m_Mo_refused.2.1 pc = .ok (ins, len) := p_dk (b := m_Mo_refused.2.1) (t := dt_Mo_refused) (by decide +kernel) i h
def F_Mo_refused (v0 : Nat) (v1 : Int) (s0 : p_Hp) : Option (Int × p_Hp) :=
  p_gd (p_is s0 v0 11) <|
  p_bi (p_wZ s0 v0 1 v1) fun s2 =>
  some (v1, s2)
set_option maxRecDepth 100000 in
set_option maxHeartbeats 4000000 in
theorem tF_Mo_refused (K : p_K) (l : Launch) (v0 : Nat) (v1 : Int) (s0 : p_Hp) (r : (Int × p_Hp)) (h : F_Mo_refused v0 v1 s0 = some r) : p_Ct K l m_Mo_refused [p_r v0, p_i v1] s0 (some (p_i r.1), r.2) := by
  refine p_Ct.of (by decide +kernel) (Nat.le_of_ble_eq_true rfl) ?_
  unfold F_Mo_refused at h
  show p_Go K l m_Mo_refused 0 [(0, p_r v0), (1, p_i v1)] [] s0 _
  refine g_aload_n (i := 0) (j := 0) (dk_Mo_refused 0 rfl) rfl rfl ?_
  refine g_iload_n (i := 1) (j := 1) (dk_Mo_refused 1 rfl) rfl rfl ?_
  obtain ⟨c1, h⟩ := p_gdE h
  refine g_putI fl_Mo_220 (Or.inl rfl) (dk_Mo_refused 2 rfl) c1 ?_
  refine p_ltS (P := fun q => p_Go K l m_Mo_refused 5 [(0, p_r v0), (1, p_i v1)] [] q _) (p_xZ _ _ _ _) ?_ h
  intro s2 hs3 h
  refine g_iload_n (i := 1) (j := 1) (dk_Mo_refused 3 rfl) rfl rfl ?_
  cases h
  exact g_ret rfl rfl (dk_Mo_refused 4 rfl) (fun os => ⟨_, rfl, p_okh os⟩)
def m_Mo_well : p_Me := (⟨"SortWorksModel", "well", "(I)I"⟩, prog_13_method_5_code, 2, (some .int), 0, 0)
theorem mt_Mo_well : p_Mt m_Mo_well 1 := ⟨p_mem (p_tb7 (List.mem_of_getElem? (i := 51) rfl)) rfl, tw_1_12, by decide +kernel, by decide +kernel, by decide +kernel⟩
def dt_Mo_well : List (Nat × Instr × Nat) := [(0, .aload_n 0, 1), (1, .iconst 0, 1), (2, .putfield 220, 3), (5, .iload_n 1, 1), (6, .ireturn, 1)]
theorem dk_Mo_well (i : Nat) {pc : Nat} {ins : Instr} {len : Nat} (h : dt_Mo_well[i]? = some (pc, ins, len)) : decode m_Mo_well.2.1 pc = .ok (ins, len) := p_dk (b := m_Mo_well.2.1) (t := dt_Mo_well) (by decide +kernel) i h
def F_Mo_well (v0 : Nat) (v1 : Int) (s0 : p_Hp) : Option (Int × p_Hp) :=
  p_gd (p_is s0 v0 11) <|
  p_bi (p_wZ s0 v0 1 0) fun s2 =>
  some (v1, s2)
set_option maxRecDepth 100000 in
set_option maxHeartbeats 4000000 in
theorem tF_Mo_well (K : p_K) (l : Launch) (v0 : Nat) (v1 : Int) (s0 : p_Hp) (r : (Int × p_Hp)) (h : F_Mo_well v0 v1 s0 = some r) : p_Ct K l m_Mo_well [p_r v0, p_i v1] s0 (some (p_i r.1), r.2) := by
  refine p_Ct.of (by decide +kernel) (Nat.le_of_ble_eq_true rfl) ?_
  unfold F_Mo_well at h
  show p_Go K l m_Mo_well 0 [(0, p_r v0), (1, p_i v1)] [] s0 _
  refine g_aload_n (i := 0) (j := 0) (dk_Mo_well 0 rfl) rfl rfl ?_
  refine g_iconst (dk_Mo_well 1 rfl) (by decide) ?_
  obtain ⟨c1, h⟩ := p_gdE h
  refine g_putI fl_Mo_220 (Or.inl rfl) (dk_Mo_well 2 rfl) c1 ?_
  refine p_ltS (P := fun q => p_Go K l m_Mo_well 5 [(0, p_r v0), (1, p_i v1)] [] q _) (p_xZ _ _ _ _) ?_ h
  intro s2 hs3 h
  refine g_iload_n (i := 1) (j := 1) (dk_Mo_well 3 rfl) rfl rfl ?_
  cases h
  exact g_ret rfl rfl (dk_Mo_well 4 rfl) (fun os => ⟨_, rfl, p_okh os⟩)
def m_Mo_works : p_Me := (⟨"SortWorksModel", "works", "(I)I"⟩, prog_13_method_15_code, 3, (some .int), 1, 25)
theorem mt_Mo_works : p_Mt m_Mo_works 1 := ⟨p_mem (p_tb7 (List.mem_of_getElem? (i := 39) rfl)) rfl, tw_1_12, by decide +kernel, by decide +kernel, by decide +kernel⟩
def dt_Mo_works : List (Nat × Instr × Nat) := [(0, .iload_n 1, 1), (1, .i2l, 1), (2, .lconst 0, 1), (3, .ldc2_w 238, 3), (6, .invokestatic 230, 3), (9, .ifCond .eq 9, 3), (12, .aload_n 0, 1), (13, .iconst (-1), 1), (14, .invokevirtual 240, 3), (17, .ireturn, 1), (18, .aload_n 0, 1), (19, .getfield 227, 3), (22, .istore_n 2, 1), (23, .aload_n 0, 1), (24, .iload_n 1, 1), (25, .putfield 227, 3), (28, .aload_n 0, 1), (29, .iload_n 2, 1), (30, .invokevirtual 244, 3), (33, .ireturn, 1)]
theorem dk_Mo_works (i : Nat) {pc : Nat} {ins : Instr} {len : Nat} (h : dt_Mo_works[i]? = some (pc, ins, len)) : decode m_Mo_works.2.1 pc = .ok (ins, len) := p_dk (b := m_Mo_works.2.1) (t := dt_Mo_works) (by decide +kernel) i h
def F_Mo_works (v0 : Nat) (v1 : Int) (s0 : p_Hp) : Option (Int × p_Hp) :=
  p_bd (F_Mo_beyond v1 0 2 s0) fun r5 s1 =>
  if r5 = 0 then
    p_gd (p_is s1 v0 11) <|
    p_bi ((p_Z s1 v0 0)) fun x8 =>
    p_bi (p_wZ s1 v0 0 v1) fun s9 =>
    p_bd (F_Mo_well v0 x8 s9) fun r15 s11 =>
    some (r15, s11)
  else
    p_gd (p_is s1 v0 11) <|
    p_bd (F_Mo_refused v0 (-1) s1) fun r21 s17 =>
    some (r21, s17)
set_option maxRecDepth 100000 in
set_option maxHeartbeats 4000000 in
theorem tF_Mo_works (K : p_K) (l : Launch) (v0 : Nat) (v1 : Int) (s0 : p_Hp) (r : (Int × p_Hp)) (h : F_Mo_works v0 v1 s0 = some r) : p_Ct K l m_Mo_works [p_r v0, p_i v1] s0 (some (p_i r.1), r.2) := by
  refine p_Ct.of (by decide +kernel) (Nat.le_of_ble_eq_true rfl) ?_
  unfold F_Mo_works at h
  show p_Go K l m_Mo_works 0 [(0, p_r v0), (1, p_i v1)] [] s0 _
  refine g_iload_n (i := 1) (j := 1) (dk_Mo_works 0 rfl) rfl rfl ?_
  refine g_i2l (dk_Mo_works 1 rfl) ?_
  refine g_lconst (x := 0) (dk_Mo_works 2 rfl) rfl (by decide) ?_
  refine g_ldc2_w (x := 2) (dk_Mo_works 3 rfl) tw_7_40 (by decide) (by decide) ?_
  obtain ⟨r5, s1, q2, h⟩ := p_bdE h
  have t3 := tF_Mo_beyond K l v1 0 2 s0 _ q2
  refine g_callS (av := [p_j v1, p_j 0, p_j 2]) (rest := []) [p_i r5] mt_Mo_beyond tw_7_42 tw_7_41 ⟨Nat.le_of_ble_eq_true rfl, Nat.le_of_ble_eq_true rfl⟩ rfl (Nat.le_of_ble_eq_true rfl) (dk_Mo_works 4 rfl) rfl rfl t3 ?_
  have hs4 : p_x s0 s1 := t3.1
  show p_Go K l m_Mo_works 9 [(0, p_r v0), (1, p_i v1)] [p_i r5] s1 _
  refine g_if_eq 18 (dk_Mo_works 5 rfl) (by decide) (fun b6 => ?_) (fun b6 => ?_)
  · have h := p_ifT b6 h
    refine g_aload_n (i := 0) (j := 0) (dk_Mo_works 10 rfl) rfl rfl ?_
    obtain ⟨c7, h⟩ := p_gdE h
    refine g_getI fl_Mo_227 (Or.inl rfl) (dk_Mo_works 11 rfl) c7 ?_
    refine g_istore_n (i := 2) [(2, p_i (p_Z s1 v0 0)), (0, p_r v0), (1, p_i v1)] (dk_Mo_works 12 rfl) rfl (by decide) rfl ?_
    refine p_ltG (P := fun q => p_Go K l m_Mo_works 23 [(2, p_i q), (0, p_r v0), (1, p_i v1)] [] s1 _) ?_ h
    intro x8 h
    refine g_aload_n (i := 0) (j := 1) (dk_Mo_works 13 rfl) rfl rfl ?_
    refine g_iload_n (i := 1) (j := 2) (dk_Mo_works 14 rfl) rfl rfl ?_
    refine g_putI fl_Mo_227 (Or.inl rfl) (dk_Mo_works 15 rfl) c7 ?_
    refine p_ltS (P := fun q => p_Go K l m_Mo_works 28 [(2, p_i x8), (0, p_r v0), (1, p_i v1)] [] q _) (p_xZ _ _ _ _) ?_ h
    intro s9 hs10 h
    refine g_aload_n (i := 0) (j := 1) (dk_Mo_works 16 rfl) rfl rfl ?_
    refine g_iload_n (i := 2) (j := 0) (dk_Mo_works 17 rfl) rfl rfl ?_
    obtain ⟨r15, s11, q12, h⟩ := p_bdE h
    have t13 := tF_Mo_well K l v0 x8 s9 _ q12
    refine g_callV (a := v0) (ci := 11) (q0 := (RX11, TX11, 90)) (As := [p_i x8]) (rest := []) [p_i r15] mt_Mo_well rfl rfl tw_7_50 ts_44 tw_7_48 ⟨Nat.le_of_ble_eq_true rfl, Nat.le_of_ble_eq_true rfl⟩ rfl (Nat.le_of_ble_eq_true rfl) (dk_Mo_works 18 rfl) rfl (c7.up hs10) rfl t13 ?_
    have hs14 : p_x s9 s11 := t13.1
    show p_Go K l m_Mo_works 33 [(2, p_i x8), (0, p_r v0), (1, p_i v1)] [p_i r15] s11 _
    cases h
    exact g_ret rfl rfl (dk_Mo_works 19 rfl) (fun os => ⟨_, rfl, p_okh os⟩)
  · have h := p_ifF b6 h
    refine g_aload_n (i := 0) (j := 0) (dk_Mo_works 6 rfl) rfl rfl ?_
    refine g_iconst (dk_Mo_works 7 rfl) (by decide) ?_
    obtain ⟨c16, h⟩ := p_gdE h
    obtain ⟨r21, s17, q18, h⟩ := p_bdE h
    have t19 := tF_Mo_refused K l v0 (-1) s1 _ q18
    refine g_callV (a := v0) (ci := 11) (q0 := (RX11, TX11, 90)) (As := [p_i (-1)]) (rest := []) [p_i r21] mt_Mo_refused rfl rfl tw_7_46 ts_43 tw_7_44 ⟨Nat.le_of_ble_eq_true rfl, Nat.le_of_ble_eq_true rfl⟩ rfl (Nat.le_of_ble_eq_true rfl) (dk_Mo_works 8 rfl) rfl c16 rfl t19 ?_
    have hs20 : p_x s1 s17 := t19.1
    show p_Go K l m_Mo_works 17 [(0, p_r v0), (1, p_i v1)] [p_i r21] s17 _
    cases h
    exact g_ret rfl rfl (dk_Mo_works 9 rfl) (fun os => ⟨_, rfl, p_okh os⟩)
def m_Mo_built : p_Me := (⟨"SortWorksModel", "built", "(I)I"⟩, prog_13_method_17_code, 2, (some .int), 1, 21)
theorem mt_Mo_built : p_Mt m_Mo_built 1 := ⟨p_mem (p_tb7 (List.mem_of_getElem? (i := 78) rfl)) rfl, tw_1_12, by decide +kernel, by decide +kernel, by decide +kernel⟩
def dt_Mo_built : List (Nat × Instr × Nat) := [(0, .aload_n 0, 1), (1, .getfield 207, 3), (4, .aload_n 0, 1), (5, .getfield 227, 3), (8, .iconst 0, 1), (9, .iastore, 1), (10, .aload_n 0, 1), (11, .iload_n 1, 1), (12, .invokevirtual 244, 3), (15, .ireturn, 1)]
theorem dk_Mo_built (i : Nat) {pc : Nat} {ins : Instr} {len : Nat} (h : dt_Mo_built[i]? = some (pc, ins, len)) : decode m_Mo_built.2.1 pc = .ok (ins, len) := p_dk (b := m_Mo_built.2.1) (t := dt_Mo_built) (by decide +kernel) i h
def F_Mo_built (v0 : Nat) (v1 : Int) (s0 : p_Hp) : Option (Int × p_Hp) :=
  p_gd (p_is s0 v0 11) <|
  p_gd (p_is s0 (p_R s0 v0 81) 100) <|
  p_gd ((0 : Int) ≤ (p_Z s0 v0 0) ∧ (p_Z s0 v0 0) < (p_L s0 (p_R s0 v0 81) : Int)) <|
  p_bi (p_wZ s0 (p_R s0 v0 81) ((p_Z s0 v0 0) : Int).toNat 0) fun s4 =>
  p_bd (F_Mo_well v0 v1 s4) fun r10 s6 =>
  some (r10, s6)
set_option maxRecDepth 100000 in
set_option maxHeartbeats 4000000 in
theorem tF_Mo_built (K : p_K) (l : Launch) (v0 : Nat) (v1 : Int) (s0 : p_Hp) (r : (Int × p_Hp)) (h : F_Mo_built v0 v1 s0 = some r) : p_Ct K l m_Mo_built [p_r v0, p_i v1] s0 (some (p_i r.1), r.2) := by
  refine p_Ct.of (by decide +kernel) (Nat.le_of_ble_eq_true rfl) ?_
  unfold F_Mo_built at h
  show p_Go K l m_Mo_built 0 [(0, p_r v0), (1, p_i v1)] [] s0 _
  refine g_aload_n (i := 0) (j := 0) (dk_Mo_built 0 rfl) rfl rfl ?_
  obtain ⟨c1, h⟩ := p_gdE h
  refine g_getR fl_Mo_207 (Or.inr ⟨_, rfl⟩) (dk_Mo_built 1 rfl) c1 ?_
  refine g_aload_n (i := 0) (j := 0) (dk_Mo_built 2 rfl) rfl rfl ?_
  refine g_getI fl_Mo_227 (Or.inl rfl) (dk_Mo_built 3 rfl) c1 ?_
  refine g_iconst (dk_Mo_built 4 rfl) (by decide) ?_
  obtain ⟨c2, h⟩ := p_gdE h
  obtain ⟨c3, h⟩ := p_gdE h
  refine g_iastore (dk_Mo_built 5 rfl) c2 c3.1 c3.2 ?_
  refine p_ltS (P := fun q => p_Go K l m_Mo_built 10 [(0, p_r v0), (1, p_i v1)] [] q _) (p_xZ _ _ _ _) ?_ h
  intro s4 hs5 h
  refine g_aload_n (i := 0) (j := 0) (dk_Mo_built 6 rfl) rfl rfl ?_
  refine g_iload_n (i := 1) (j := 1) (dk_Mo_built 7 rfl) rfl rfl ?_
  obtain ⟨r10, s6, q7, h⟩ := p_bdE h
  have t8 := tF_Mo_well K l v0 v1 s4 _ q7
  refine g_callV (a := v0) (ci := 11) (q0 := (RX11, TX11, 90)) (As := [p_i v1]) (rest := []) [p_i r10] mt_Mo_well rfl rfl tw_7_50 ts_44 tw_7_48 ⟨Nat.le_of_ble_eq_true rfl, Nat.le_of_ble_eq_true rfl⟩ rfl (Nat.le_of_ble_eq_true rfl) (dk_Mo_built 8 rfl) rfl (c1.up hs5) rfl t8 ?_
  have hs9 : p_x s4 s6 := t8.1
  show p_Go K l m_Mo_built 15 [(0, p_r v0), (1, p_i v1)] [p_i r10] s6 _
  cases h
  exact g_ret rfl rfl (dk_Mo_built 9 rfl) (fun os => ⟨_, rfl, p_okh os⟩)
def m_Mo_isDivert : p_Me := (⟨"SortWorksModel", "isDivert", "(I)Z"⟩, prog_13_method_9_code, 1, (some .boolean), 0, 0)
theorem mt_Mo_isDivert : p_Mt m_Mo_isDivert 1 := ⟨p_mem (p_tb7 (List.mem_of_getElem? (i := 74) rfl)) rfl, tw_1_12, by decide +kernel, by decide +kernel, by decide +kernel⟩
def dt_Mo_isDivert : List (Nat × Instr × Nat) := [(0, .iload_n 0, 1), (1, .iconst 5, 1), (2, .if_icmp .eq 9, 3), (5, .iload_n 0, 1), (6, .bipush 6, 2), (8, .if_icmp .ne 7, 3), (11, .iconst 1, 1), (12, .goto 4, 3), (15, .iconst 0, 1), (16, .ireturn, 1)]
theorem dk_Mo_isDivert (i : Nat) {pc : Nat} {ins : Instr} {len : Nat} (h : dt_Mo_isDivert[i]? = some (pc, ins, len)) : decode m_Mo_isDivert.2.1 pc = .ok (ins, len) := p_dk (b := m_Mo_isDivert.2.1) (t := dt_Mo_isDivert) (by decide +kernel) i h
def B_Mo_isDivert_11   (s0 : p_Hp) : Option (Int × p_Hp) :=
  some (1, s0)
def F_Mo_isDivert (v0 : Int) (s0 : p_Hp) : Option (Int × p_Hp) :=
  if v0 = 5 then
    B_Mo_isDivert_11 s0
  else
    if v0 ≠ 6 then
      some (0, s0)
    else
      B_Mo_isDivert_11 s0
set_option maxRecDepth 100000 in
set_option maxHeartbeats 4000000 in
theorem tB_Mo_isDivert_11 (K : p_K) (l : Launch)   (s0 : p_Hp) (r : (Int × p_Hp)) (h : B_Mo_isDivert_11  s0 = some r) : p_Go K l m_Mo_isDivert 11 [] [] s0 (some (p_i r.1), r.2) := by
  unfold B_Mo_isDivert_11 at h
  refine g_iconst (dk_Mo_isDivert 6 rfl) (by decide) ?_
  refine g_goto 16 (dk_Mo_isDivert 7 rfl) (by decide) ?_
  cases h
  exact g_ret rfl rfl (dk_Mo_isDivert 9 rfl) (fun _ => ⟨_, rfl, Or.inr rfl⟩)
set_option maxRecDepth 100000 in
set_option maxHeartbeats 4000000 in
theorem tF_Mo_isDivert (K : p_K) (l : Launch) (v0 : Int) (s0 : p_Hp) (r : (Int × p_Hp)) (h : F_Mo_isDivert v0 s0 = some r) : p_Ct K l m_Mo_isDivert [p_i v0] s0 (some (p_i r.1), r.2) := by
  refine p_Ct.of (by decide +kernel) (Nat.le_of_ble_eq_true rfl) ?_
  unfold F_Mo_isDivert at h
  show p_Go K l m_Mo_isDivert 0 [(0, p_i v0)] [] s0 _
  refine g_iload_n (i := 0) (j := 0) (dk_Mo_isDivert 0 rfl) rfl rfl ?_
  refine g_iconst (dk_Mo_isDivert 1 rfl) (by decide) ?_
  refine g_icmp_eq 11 (dk_Mo_isDivert 2 rfl) (by decide) (fun b1 => ?_) (fun b1 => ?_)
  · have h := p_ifT b1 h
    refine g_sub [] [] rfl ?_
    exact tB_Mo_isDivert_11 K l s0 _ h
  · have h := p_ifF b1 h
    refine g_iload_n (i := 0) (j := 0) (dk_Mo_isDivert 3 rfl) rfl rfl ?_
    refine g_bipush (dk_Mo_isDivert 4 rfl) (by decide +kernel) (by decide) ?_
    refine g_icmp_ne 15 (dk_Mo_isDivert 5 rfl) (by decide) (fun b2 => ?_) (fun b2 => ?_)
    · have h := p_ifT b2 h
      refine g_iconst (dk_Mo_isDivert 8 rfl) (by decide) ?_
      cases h
      exact g_ret rfl rfl (dk_Mo_isDivert 9 rfl) (fun _ => ⟨_, rfl, Or.inl rfl⟩)
    · have h := p_ifF b2 h
      refine g_sub [] [] rfl ?_
      exact tB_Mo_isDivert_11 K l s0 _ h
def m_Mo_rankOf : p_Me := (⟨"SortWorksModel", "rankOf", "(I)I"⟩, prog_13_method_12_code, 1, (some .int), 1, 20)
theorem mt_Mo_rankOf : p_Mt m_Mo_rankOf 1 := ⟨p_mem (p_tb7 (List.mem_of_getElem? (i := 71) rfl)) rfl, tw_1_12, by decide +kernel, by decide +kernel, by decide +kernel⟩
def dt_Mo_rankOf : List (Nat × Instr × Nat) := [(0, .iload_n 0, 1), (1, .iconst 1, 1), (2, .if_icmp .ne 7, 3), (5, .iconst 2, 1), (6, .goto 24, 3), (9, .iload_n 0, 1), (10, .iconst 4, 1), (11, .if_icmp .ne 7, 3), (14, .iconst 4, 1), (15, .goto 15, 3), (18, .iload_n 0, 1), (19, .invokestatic 234, 3), (22, .ifCond .eq 7, 3), (25, .iconst 3, 1), (26, .goto 4, 3), (29, .iconst 1, 1), (30, .ireturn, 1)]
theorem dk_Mo_rankOf (i : Nat) {pc : Nat} {ins : Instr} {len : Nat} (h : dt_Mo_rankOf[i]? = some (pc, ins, len)) : decode m_Mo_rankOf.2.1 pc = .ok (ins, len) := p_dk (b := m_Mo_rankOf.2.1) (t := dt_Mo_rankOf) (by decide +kernel) i h
def F_Mo_rankOf (v0 : Int) (s0 : p_Hp) : Option (Int × p_Hp) :=
  if v0 ≠ 1 then
    if v0 ≠ 4 then
      p_bd (F_Mo_isDivert v0 s0) fun r7 s3 =>
      if r7 = 0 then
        some (1, s3)
      else
        some (3, s3)
    else
      some (4, s0)
  else
    some (2, s0)
set_option maxRecDepth 100000 in
set_option maxHeartbeats 4000000 in
theorem tF_Mo_rankOf (K : p_K) (l : Launch) (v0 : Int) (s0 : p_Hp) (r : (Int × p_Hp)) (h : F_Mo_rankOf v0 s0 = some r) : p_Ct K l m_Mo_rankOf [p_i v0] s0 (some (p_i r.1), r.2) := by
  refine p_Ct.of (by decide +kernel) (Nat.le_of_ble_eq_true rfl) ?_
  unfold F_Mo_rankOf at h
  show p_Go K l m_Mo_rankOf 0 [(0, p_i v0)] [] s0 _
  refine g_iload_n (i := 0) (j := 0) (dk_Mo_rankOf 0 rfl) rfl rfl ?_
  refine g_iconst (dk_Mo_rankOf 1 rfl) (by decide) ?_
  refine g_icmp_ne 9 (dk_Mo_rankOf 2 rfl) (by decide) (fun b1 => ?_) (fun b1 => ?_)
  · have h := p_ifT b1 h
    refine g_iload_n (i := 0) (j := 0) (dk_Mo_rankOf 5 rfl) rfl rfl ?_
    refine g_iconst (dk_Mo_rankOf 6 rfl) (by decide) ?_
    refine g_icmp_ne 18 (dk_Mo_rankOf 7 rfl) (by decide) (fun b2 => ?_) (fun b2 => ?_)
    · have h := p_ifT b2 h
      refine g_iload_n (i := 0) (j := 0) (dk_Mo_rankOf 10 rfl) rfl rfl ?_
      obtain ⟨r7, s3, q4, h⟩ := p_bdE h
      have t5 := tF_Mo_isDivert K l v0 s0 _ q4
      refine g_callS (av := [p_i v0]) (rest := []) [p_i r7] mt_Mo_isDivert tw_7_73 tw_7_72 ⟨Nat.le_of_ble_eq_true rfl, Nat.le_of_ble_eq_true rfl⟩ rfl (Nat.le_of_ble_eq_true rfl) (dk_Mo_rankOf 11 rfl) rfl rfl t5 ?_
      have hs6 : p_x s0 s3 := t5.1
      show p_Go K l m_Mo_rankOf 22 [(0, p_i v0)] [p_i r7] s3 _
      refine g_if_eq 29 (dk_Mo_rankOf 12 rfl) (by decide) (fun b8 => ?_) (fun b8 => ?_)
      · have h := p_ifT b8 h
        refine g_iconst (dk_Mo_rankOf 15 rfl) (by decide) ?_
        cases h
        exact g_ret rfl rfl (dk_Mo_rankOf 16 rfl) (fun os => ⟨_, rfl, p_okh os⟩)
      · have h := p_ifF b8 h
        refine g_iconst (dk_Mo_rankOf 13 rfl) (by decide) ?_
        refine g_goto 30 (dk_Mo_rankOf 14 rfl) (by decide) ?_
        cases h
        exact g_ret rfl rfl (dk_Mo_rankOf 16 rfl) (fun os => ⟨_, rfl, p_okh os⟩)
    · have h := p_ifF b2 h
      refine g_iconst (dk_Mo_rankOf 8 rfl) (by decide) ?_
      refine g_goto 30 (dk_Mo_rankOf 9 rfl) (by decide) ?_
      cases h
      exact g_ret rfl rfl (dk_Mo_rankOf 16 rfl) (fun os => ⟨_, rfl, p_okh os⟩)
  · have h := p_ifF b1 h
    refine g_iconst (dk_Mo_rankOf 3 rfl) (by decide) ?_
    refine g_goto 30 (dk_Mo_rankOf 4 rfl) (by decide) ?_
    cases h
    exact g_ret rfl rfl (dk_Mo_rankOf 16 rfl) (fun os => ⟨_, rfl, p_okh os⟩)
