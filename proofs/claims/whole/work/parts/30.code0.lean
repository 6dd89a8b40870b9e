def m_Rules_init : p_Me := (⟨"SortWorks$Rules", "<init>", "()V"⟩, prog_8_method_1_code, 1, none, 1, 20)
theorem mt_Rules_init : p_Mt m_Rules_init 0 := ⟨p_mem (p_tb2 (List.mem_of_getElem? (i := 64) rfl)) rfl, tw_1_7, by decide +kernel, by decide +kernel, by decide +kernel⟩
def dt_Rules_init : List (Nat × Instr × Nat) := [(0, .aload_n 0, 1), (1, .invokespecial 3, 3), (4, .aload_n 0, 1), (5, .bipush 12, 2), (7, .newarray .int, 2), (9, .putfield 9, 3), (12, .aload_n 0, 1), (13, .bipush 12, 2), (15, .newarray .int, 2), (17, .putfield 15, 3), (20, .aload_n 0, 1), (21, .bipush 48, 2), (23, .newarray .int, 2), (25, .putfield 18, 3), (28, .aload_n 0, 1), (29, .bipush 48, 2), (31, .newarray .int, 2), (33, .putfield 21, 3), (36, .aload_n 0, 1), (37, .bipush 48, 2), (39, .newarray .int, 2), (41, .putfield 24, 3), (44, .aload_n 0, 1), (45, .bipush 48, 2), (47, .newarray .int, 2), (49, .putfield 27, 3), (52, .aload_n 0, 1), (53, .sipush 200, 3), (56, .newarray .int, 2), (58, .putfield 30, 3), (61, .return_, 1)]
theorem dk_Rules_init (i : Nat) {pc : Nat} {ins : Instr} {len : Nat} (h : dt_Rules_init[i]? = some (pc, ins, len)) : decode m_Rules_init.2.1 pc = .ok (ins, len) := p_dk (b := m_Rules_init.2.1) (t := dt_Rules_init) (by decide +kernel) i h
def F_Rules_init (v0 : Nat) (s0 : p_Hp) : Option p_Hp :=
  p_gd (1 ≤ v0) <|
  p_bi (p_nw s0 100 12) fun s2 =>
  p_gd (p_is s2 v0 6) <|
  p_bi (p_wR s2 v0 1 (p_N s0 + 1)) fun s5 =>
  p_bi (p_nw s5 100 12) fun s7 =>
  p_bi (p_wR s7 v0 2 (p_N s5 + 1)) fun s9 =>
  p_bi (p_nw s9 100 48) fun s11 =>
  p_bi (p_wR s11 v0 3 (p_N s9 + 1)) fun s13 =>
  p_bi (p_nw s13 100 48) fun s15 =>
  p_bi (p_wR s15 v0 4 (p_N s13 + 1)) fun s17 =>
  p_bi (p_nw s17 100 48) fun s19 =>
  p_bi (p_wR s19 v0 5 (p_N s17 + 1)) fun s21 =>
  p_bi (p_nw s21 100 48) fun s23 =>
  p_bi (p_wR s23 v0 6 (p_N s21 + 1)) fun s25 =>
  p_bi (p_nw s25 100 200) fun s27 =>
  p_bi (p_wR s27 v0 7 (p_N s25 + 1)) fun s29 =>
  some s29
set_option maxRecDepth 100000 in
set_option maxHeartbeats 4000000 in
theorem tF_Rules_init (K : p_K) (l : Launch) (v0 : Nat) (s0 : p_Hp) (r : p_Hp) (h : F_Rules_init v0 s0 = some r) : p_Ct K l m_Rules_init [p_r v0] s0 (none, r) := by
  refine p_Ct.of (by decide +kernel) (Nat.le_of_ble_eq_true rfl) ?_
  unfold F_Rules_init at h
  show p_Go K l m_Rules_init 0 [(0, p_r v0)] [] s0 _
  refine g_aload_n (i := 0) (j := 0) (dk_Rules_init 0 rfl) rfl rfl ?_
  obtain ⟨c1, h⟩ := p_gdE h
  refine g_objInit tw_2_65 tw_1_23 tw_objInit (dk_Rules_init 1 rfl) (Nat.le_of_ble_eq_true rfl) (Nat.le_of_ble_eq_true rfl) c1 ?_
  refine g_aload_n (i := 0) (j := 0) (dk_Rules_init 2 rfl) rfl rfl ?_
  refine g_bipush (dk_Rules_init 3 rfl) (by decide +kernel) (by decide) ?_
  refine g_newarray (i := 0) (t := 100) (n := 12) rfl (by decide +kernel) rfl rfl tw_1_69 (dk_Rules_init 4 rfl) (by decide) (by decide) ?_
  refine p_ltS (P := fun q => p_Go K l m_Rules_init 9 [(0, p_r v0)] [p_r (p_N s0 + 1), p_r v0] q _) (p_x_nw _ _ _) ?_ h
  intro s2 hs3 h
  obtain ⟨c4, h⟩ := p_gdE h
  refine g_putR fl_Rules_9 (Or.inr ⟨_, rfl⟩) (Or.inr ⟨rfl, rfl⟩) (dk_Rules_init 5 rfl) c4 ?_
  refine p_ltS (P := fun q => p_Go K l m_Rules_init 12 [(0, p_r v0)] [] q _) (p_xR _ _ _ _) ?_ h
  intro s5 hs6 h
  refine g_aload_n (i := 0) (j := 0) (dk_Rules_init 6 rfl) rfl rfl ?_
  refine g_bipush (dk_Rules_init 7 rfl) (by decide +kernel) (by decide) ?_
  refine g_newarray (i := 0) (t := 100) (n := 12) rfl (by decide +kernel) rfl rfl tw_1_69 (dk_Rules_init 8 rfl) (by decide) (by decide) ?_
  refine p_ltS (P := fun q => p_Go K l m_Rules_init 17 [(0, p_r v0)] [p_r (p_N s5 + 1), p_r v0] q _) (p_x_nw _ _ _) ?_ h
  intro s7 hs8 h
  refine g_putR fl_Rules_15 (Or.inr ⟨_, rfl⟩) (Or.inr ⟨rfl, rfl⟩) (dk_Rules_init 9 rfl) (c4.up (hs6.trans hs8)) ?_
  refine p_ltS (P := fun q => p_Go K l m_Rules_init 20 [(0, p_r v0)] [] q _) (p_xR _ _ _ _) ?_ h
  intro s9 hs10 h
  refine g_aload_n (i := 0) (j := 0) (dk_Rules_init 10 rfl) rfl rfl ?_
  refine g_bipush (dk_Rules_init 11 rfl) (by decide +kernel) (by decide) ?_
  refine g_newarray (i := 0) (t := 100) (n := 48) rfl (by decide +kernel) rfl rfl tw_1_69 (dk_Rules_init 12 rfl) (by decide) (by decide) ?_
  refine p_ltS (P := fun q => p_Go K l m_Rules_init 25 [(0, p_r v0)] [p_r (p_N s9 + 1), p_r v0] q _) (p_x_nw _ _ _) ?_ h
  intro s11 hs12 h
  refine g_putR fl_Rules_18 (Or.inr ⟨_, rfl⟩) (Or.inr ⟨rfl, rfl⟩) (dk_Rules_init 13 rfl) (c4.up (hs6.trans (hs8.trans (hs10.trans hs12)))) ?_
  refine p_ltS (P := fun q => p_Go K l m_Rules_init 28 [(0, p_r v0)] [] q _) (p_xR _ _ _ _) ?_ h
  intro s13 hs14 h
  refine g_aload_n (i := 0) (j := 0) (dk_Rules_init 14 rfl) rfl rfl ?_
  refine g_bipush (dk_Rules_init 15 rfl) (by decide +kernel) (by decide) ?_
  refine g_newarray (i := 0) (t := 100) (n := 48) rfl (by decide +kernel) rfl rfl tw_1_69 (dk_Rules_init 16 rfl) (by decide) (by decide) ?_
  refine p_ltS (P := fun q => p_Go K l m_Rules_init 33 [(0, p_r v0)] [p_r (p_N s13 + 1), p_r v0] q _) (p_x_nw _ _ _) ?_ h
  intro s15 hs16 h
  refine g_putR fl_Rules_21 (Or.inr ⟨_, rfl⟩) (Or.inr ⟨rfl, rfl⟩) (dk_Rules_init 17 rfl) (c4.up (hs6.trans (hs8.trans (hs10.trans (hs12.trans (hs14.trans hs16)))))) ?_
  refine p_ltS (P := fun q => p_Go K l m_Rules_init 36 [(0, p_r v0)] [] q _) (p_xR _ _ _ _) ?_ h
  intro s17 hs18 h
  refine g_aload_n (i := 0) (j := 0) (dk_Rules_init 18 rfl) rfl rfl ?_
  refine g_bipush (dk_Rules_init 19 rfl) (by decide +kernel) (by decide) ?_
  refine g_newarray (i := 0) (t := 100) (n := 48) rfl (by decide +kernel) rfl rfl tw_1_69 (dk_Rules_init 20 rfl) (by decide) (by decide) ?_
  refine p_ltS (P := fun q => p_Go K l m_Rules_init 41 [(0, p_r v0)] [p_r (p_N s17 + 1), p_r v0] q _) (p_x_nw _ _ _) ?_ h
  intro s19 hs20 h
  refine g_putR fl_Rules_24 (Or.inr ⟨_, rfl⟩) (Or.inr ⟨rfl, rfl⟩) (dk_Rules_init 21 rfl) (c4.up (hs6.trans (hs8.trans (hs10.trans (hs12.trans (hs14.trans (hs16.trans (hs18.trans hs20)))))))) ?_
  refine p_ltS (P := fun q => p_Go K l m_Rules_init 44 [(0, p_r v0)] [] q _) (p_xR _ _ _ _) ?_ h
  intro s21 hs22 h
  refine g_aload_n (i := 0) (j := 0) (dk_Rules_init 22 rfl) rfl rfl ?_
  refine g_bipush (dk_Rules_init 23 rfl) (by decide +kernel) (by decide) ?_
  refine g_newarray (i := 0) (t := 100) (n := 48) rfl (by decide +kernel) rfl rfl tw_1_69 (dk_Rules_init 24 rfl) (by decide) (by decide) ?_
  refine p_ltS (P := fun q => p_Go K l m_Rules_init 49 [(0, p_r v0)] [p_r (p_N s21 + 1), p_r v0] q _) (p_x_nw _ _ _) ?_ h
  intro s23 hs24 h
  refine g_putR fl_Rules_27 (Or.inr ⟨_, rfl⟩) (Or.inr ⟨rfl, rfl⟩) (dk_Rules_init 25 rfl) (c4.up (hs6.trans (hs8.trans (hs10.trans (hs12.trans (hs14.trans (hs16.trans (hs18.trans (hs20.trans (hs22.trans hs24)))))))))) ?_
  refine p_ltS (P := fun q => p_Go K l m_Rules_init 52 [(0, p_r v0)] [] q _) (p_xR _ _ _ _) ?_ h
  intro s25 hs26 h
  refine g_aload_n (i := 0) (j := 0) (dk_Rules_init 26 rfl) rfl rfl ?_
  refine g_sipush (dk_Rules_init 27 rfl) (by decide +kernel) (by decide) ?_
  refine g_newarray (i := 0) (t := 100) (n := 200) rfl (by decide +kernel) rfl rfl tw_1_69 (dk_Rules_init 28 rfl) (by decide) (by decide) ?_
  refine p_ltS (P := fun q => p_Go K l m_Rules_init 58 [(0, p_r v0)] [p_r (p_N s25 + 1), p_r v0] q _) (p_x_nw _ _ _) ?_ h
  intro s27 hs28 h
  refine g_putR fl_Rules_30 (Or.inr ⟨_, rfl⟩) (Or.inr ⟨rfl, rfl⟩) (dk_Rules_init 29 rfl) (c4.up (hs6.trans (hs8.trans (hs10.trans (hs12.trans (hs14.trans (hs16.trans (hs18.trans (hs20.trans (hs22.trans (hs24.trans (hs26.trans hs28)))))))))))) ?_
  refine p_ltS (P := fun q => p_Go K l m_Rules_init 61 [(0, p_r v0)] [] q _) (p_xR _ _ _ _) ?_ h
  intro s29 hs30 h
  cases h
  exact g_ret rfl rfl (dk_Rules_init 30 rfl) (fun _ => rfl)
def m_Judge_init : p_Me := (⟨"SortWorks$Judge", "<init>", "()V"⟩, prog_3_method_1_code, 1, none, 2, 40)
theorem mt_Judge_init : p_Mt m_Judge_init 0 := ⟨p_mem (p_tb3 (List.mem_of_getElem? (i := 14) rfl)) rfl, tw_1_11, by decide +kernel, by decide +kernel, by decide +kernel⟩
def dt_Judge_init : List (Nat × Instr × Nat) := [(0, .aload_n 0, 1), (1, .invokespecial 3, 3), (4, .aload_n 0, 1), (5, .new 9, 3), (8, .dup, 1), (9, .invokespecial 11, 3), (12, .putfield 12, 3), (15, .return_, 1)]
theorem dk_Judge_init (i : Nat) {pc : Nat} {ins : Instr} {len : Nat} (h : dt_Judge_init[i]? = some (pc, ins, len)) : decode m_Judge_init.2.1 pc = .ok (ins, len) := p_dk (b := m_Judge_init.2.1) (t := dt_Judge_init) (by decide +kernel) i h
def F_Judge_init (v0 : Nat) (s0 : p_Hp) : Option p_Hp :=
  p_gd (1 ≤ v0) <|
  p_bi (p_nw s0 6 9) fun s2 =>
  p_bv (F_Rules_init (p_N s0 + 1) s2) fun s4 =>
  p_gd (p_is s4 v0 1) <|
  p_bi (p_wR s4 v0 0 (p_N s0 + 1)) fun s9 =>
  some s9
set_option maxRecDepth 100000 in
set_option maxHeartbeats 4000000 in
theorem tF_Judge_init (K : p_K) (l : Launch) (v0 : Nat) (s0 : p_Hp) (r : p_Hp) (h : F_Judge_init v0 s0 = some r) : p_Ct K l m_Judge_init [p_r v0] s0 (none, r) := by
  refine p_Ct.of (by decide +kernel) (Nat.le_of_ble_eq_true rfl) ?_
  unfold F_Judge_init at h
  show p_Go K l m_Judge_init 0 [(0, p_r v0)] [] s0 _
  refine g_aload_n (i := 0) (j := 0) (dk_Judge_init 0 rfl) rfl rfl ?_
  obtain ⟨c1, h⟩ := p_gdE h
  refine g_objInit tw_3_15 tw_1_23 tw_objInit (dk_Judge_init 1 rfl) (Nat.le_of_ble_eq_true rfl) (Nat.le_of_ble_eq_true rfl) c1 ?_
  refine g_aload_n (i := 0) (j := 0) (dk_Judge_init 2 rfl) rfl rfl ?_
  refine g_new cl_6 tw_3_16 (dk_Judge_init 3 rfl) ?_
  refine p_ltS (P := fun q => p_Go K l m_Judge_init 8 [(0, p_r v0)] [p_r (p_N s0 + 1), p_r v0] q _) (p_x_nw _ _ _) ?_ h
  intro s2 hs3 h
  refine g_dup (dk_Judge_init 4 rfl) rfl ?_
  obtain ⟨s4, q5, h⟩ := p_bvE h
  have t6 := tF_Rules_init K l (p_N s0 + 1) s2 _ q5
  refine g_callIN (a := (p_N s0 + 1)) (As := []) (rest := [p_r (p_N s0 + 1), p_r v0]) (host := "SortWorks") [p_r (p_N s0 + 1), p_r v0] mt_Rules_init tw_2_63 (by decide) rfl rfl ⟨Nat.le_of_ble_eq_true rfl, Nat.le_of_ble_eq_true rfl⟩ rfl (Nat.le_of_ble_eq_true rfl) (dk_Judge_init 5 rfl) rfl (Nat.le_add_left _ _) rfl t6 ?_
  have hs7 : p_x s2 s4 := t6.1
  show p_Go K l m_Judge_init 12 [(0, p_r v0)] [p_r (p_N s0 + 1), p_r v0] s4 _
  obtain ⟨c8, h⟩ := p_gdE h
  refine g_putR fl_Judge_12 (Or.inl ⟨_, rfl⟩) (Or.inr ⟨rfl, rfl⟩) (dk_Judge_init 6 rfl) c8 ?_
  refine p_ltS (P := fun q => p_Go K l m_Judge_init 15 [(0, p_r v0)] [] q _) (p_xR _ _ _ _) ?_ h
  intro s9 hs10 h
  cases h
  exact g_ret rfl rfl (dk_Judge_init 7 rfl) (fun _ => rfl)
def m_Numbers_init : p_Me := (⟨"SortWorks$Numbers", "<init>", "()V"⟩, prog_5_method_1_code, 1, none, 1, 20)
theorem mt_Numbers_init : p_Mt m_Numbers_init 0 := ⟨p_mem (p_tb2 (List.mem_of_getElem? (i := 190) rfl)) rfl, tw_1_8, by decide +kernel, by decide +kernel, by decide +kernel⟩
def dt_Numbers_init : List (Nat × Instr × Nat) := [(0, .aload_n 0, 1), (1, .invokespecial 3, 3), (4, .aload_n 0, 1), (5, .sipush 2001, 3), (8, .newarray .int, 2), (10, .putfield 9, 3), (13, .return_, 1)]
theorem dk_Numbers_init (i : Nat) {pc : Nat} {ins : Instr} {len : Nat} (h : dt_Numbers_init[i]? = some (pc, ins, len)) : decode m_Numbers_init.2.1 pc = .ok (ins, len) := p_dk (b := m_Numbers_init.2.1) (t := dt_Numbers_init) (by decide +kernel) i h
def F_Numbers_init (v0 : Nat) (s0 : p_Hp) : Option p_Hp :=
  p_gd (1 ≤ v0) <|
  p_bi (p_nw s0 100 2001) fun s2 =>
  p_gd (p_is s2 v0 3) <|
  p_bi (p_wR s2 v0 0 (p_N s0 + 1)) fun s5 =>
  some s5
set_option maxRecDepth 100000 in
set_option maxHeartbeats 4000000 in
theorem tF_Numbers_init (K : p_K) (l : Launch) (v0 : Nat) (s0 : p_Hp) (r : p_Hp) (h : F_Numbers_init v0 s0 = some r) : p_Ct K l m_Numbers_init [p_r v0] s0 (none, r) := by
  refine p_Ct.of (by decide +kernel) (Nat.le_of_ble_eq_true rfl) ?_
  unfold F_Numbers_init at h
  show p_Go K l m_Numbers_init 0 [(0, p_r v0)] [] s0 _
  refine g_aload_n (i := 0) (j := 0) (dk_Numbers_init 0 rfl) rfl rfl ?_
  obtain ⟨c1, h⟩ := p_gdE h
  refine g_objInit tw_2_191 tw_1_23 tw_objInit (dk_Numbers_init 1 rfl) (Nat.le_of_ble_eq_true rfl) (Nat.le_of_ble_eq_true rfl) c1 ?_
  refine g_aload_n (i := 0) (j := 0) (dk_Numbers_init 2 rfl) rfl rfl ?_
  refine g_sipush (dk_Numbers_init 3 rfl) (by decide +kernel) (by decide) ?_
  refine g_newarray (i := 0) (t := 100) (n := 2001) rfl (by decide +kernel) rfl rfl tw_1_69 (dk_Numbers_init 4 rfl) (by decide) (by decide) ?_
  refine p_ltS (P := fun q => p_Go K l m_Numbers_init 10 [(0, p_r v0)] [p_r (p_N s0 + 1), p_r v0] q _) (p_x_nw _ _ _) ?_ h
  intro s2 hs3 h
  obtain ⟨c4, h⟩ := p_gdE h
  refine g_putR fl_Numbers_9 (Or.inr ⟨_, rfl⟩) (Or.inr ⟨rfl, rfl⟩) (dk_Numbers_init 5 rfl) c4 ?_
  refine p_ltS (P := fun q => p_Go K l m_Numbers_init 13 [(0, p_r v0)] [] q _) (p_xR _ _ _ _) ?_ h
  intro s5 hs6 h
  cases h
  exact g_ret rfl rfl (dk_Numbers_init 6 rfl) (fun _ => rfl)
def m_Reading_init : p_Me := (⟨"SortWorks$Reading", "<init>", "()V"⟩, prog_7_method_1_code, 1, none, 1, 20)
theorem mt_Reading_init : p_Mt m_Reading_init 0 := ⟨p_mem (p_tb2 (List.mem_of_getElem? (i := 212) rfl)) rfl, tw_1_10, by decide +kernel, by decide +kernel, by decide +kernel⟩
def dt_Reading_init : List (Nat × Instr × Nat) := [(0, .aload_n 0, 1), (1, .invokespecial 3, 3), (4, .aload_n 0, 1), (5, .bipush 8, 2), (7, .newarray .int, 2), (9, .putfield 9, 3), (12, .return_, 1)]
theorem dk_Reading_init (i : Nat) {pc : Nat} {ins : Instr} {len : Nat} (h : dt_Reading_init[i]? = some (pc, ins, len)) : decode m_Reading_init.2.1 pc = .ok (ins, len) := p_dk (b := m_Reading_init.2.1) (t := dt_Reading_init) (by decide +kernel) i h
def F_Reading_init (v0 : Nat) (s0 : p_Hp) : Option p_Hp :=
  p_gd (1 ≤ v0) <|
  p_bi (p_nw s0 100 8) fun s2 =>
  p_gd (p_is s2 v0 5) <|
  p_bi (p_wR s2 v0 4 (p_N s0 + 1)) fun s5 =>
  some s5
set_option maxRecDepth 100000 in
set_option maxHeartbeats 4000000 in
theorem tF_Reading_init (K : p_K) (l : Launch) (v0 : Nat) (s0 : p_Hp) (r : p_Hp) (h : F_Reading_init v0 s0 = some r) : p_Ct K l m_Reading_init [p_r v0] s0 (none, r) := by
  refine p_Ct.of (by decide +kernel) (Nat.le_of_ble_eq_true rfl) ?_
  unfold F_Reading_init at h
  show p_Go K l m_Reading_init 0 [(0, p_r v0)] [] s0 _
  refine g_aload_n (i := 0) (j := 0) (dk_Reading_init 0 rfl) rfl rfl ?_
  obtain ⟨c1, h⟩ := p_gdE h
  refine g_objInit tw_2_213 tw_1_23 tw_objInit (dk_Reading_init 1 rfl) (Nat.le_of_ble_eq_true rfl) (Nat.le_of_ble_eq_true rfl) c1 ?_
  refine g_aload_n (i := 0) (j := 0) (dk_Reading_init 2 rfl) rfl rfl ?_
  refine g_bipush (dk_Reading_init 3 rfl) (by decide +kernel) (by decide) ?_
  refine g_newarray (i := 0) (t := 100) (n := 8) rfl (by decide +kernel) rfl rfl tw_1_69 (dk_Reading_init 4 rfl) (by decide) (by decide) ?_
  refine p_ltS (P := fun q => p_Go K l m_Reading_init 9 [(0, p_r v0)] [p_r (p_N s0 + 1), p_r v0] q _) (p_x_nw _ _ _) ?_ h
  intro s2 hs3 h
  obtain ⟨c4, h⟩ := p_gdE h
  refine g_putR fl_Reading_9 (Or.inr ⟨_, rfl⟩) (Or.inr ⟨rfl, rfl⟩) (dk_Reading_init 5 rfl) c4 ?_
  refine p_ltS (P := fun q => p_Go K l m_Reading_init 12 [(0, p_r v0)] [] q _) (p_xR _ _ _ _) ?_ h
  intro s5 hs6 h
  cases h
  exact g_ret rfl rfl (dk_Reading_init 6 rfl) (fun _ => rfl)
def m_Step_init : p_Me := (⟨"SortWorks$Step", "<init>", "()V"⟩, prog_10_method_1_code, 1, none, 2, 40)
theorem mt_Step_init : p_Mt m_Step_init 0 := ⟨p_mem (p_tb2 (List.mem_of_getElem? (i := 206) rfl)) rfl, tw_1_9, by decide +kernel, by decide +kernel, by decide +kernel⟩
def dt_Step_init : List (Nat × Instr × Nat) := [(0, .aload_n 0, 1), (1, .invokespecial 3, 3), (4, .aload_n 0, 1), (5, .new 9, 3), (8, .dup, 1), (9, .invokespecial 11, 3), (12, .putfield 12, 3), (15, .return_, 1)]
theorem dk_Step_init (i : Nat) {pc : Nat} {ins : Instr} {len : Nat} (h : dt_Step_init[i]? = some (pc, ins, len)) : decode m_Step_init.2.1 pc = .ok (ins, len) := p_dk (b := m_Step_init.2.1) (t := dt_Step_init) (by decide +kernel) i h
def F_Step_init (v0 : Nat) (s0 : p_Hp) : Option p_Hp :=
  p_gd (1 ≤ v0) <|
  p_bi (p_nw s0 5 5) fun s2 =>
  p_bv (F_Reading_init (p_N s0 + 1) s2) fun s4 =>
  p_gd (p_is s4 v0 8) <|
  p_bi (p_wR s4 v0 0 (p_N s0 + 1)) fun s9 =>
  some s9
set_option maxRecDepth 100000 in
set_option maxHeartbeats 4000000 in
theorem tF_Step_init (K : p_K) (l : Launch) (v0 : Nat) (s0 : p_Hp) (r : p_Hp) (h : F_Step_init v0 s0 = some r) : p_Ct K l m_Step_init [p_r v0] s0 (none, r) := by
  refine p_Ct.of (by decide +kernel) (Nat.le_of_ble_eq_true rfl) ?_
  unfold F_Step_init at h
  show p_Go K l m_Step_init 0 [(0, p_r v0)] [] s0 _
  refine g_aload_n (i := 0) (j := 0) (dk_Step_init 0 rfl) rfl rfl ?_
  obtain ⟨c1, h⟩ := p_gdE h
  refine g_objInit tw_2_207 tw_1_23 tw_objInit (dk_Step_init 1 rfl) (Nat.le_of_ble_eq_true rfl) (Nat.le_of_ble_eq_true rfl) c1 ?_
  refine g_aload_n (i := 0) (j := 0) (dk_Step_init 2 rfl) rfl rfl ?_
  refine g_new cl_5 tw_2_208 (dk_Step_init 3 rfl) ?_
  refine p_ltS (P := fun q => p_Go K l m_Step_init 8 [(0, p_r v0)] [p_r (p_N s0 + 1), p_r v0] q _) (p_x_nw _ _ _) ?_ h
  intro s2 hs3 h
  refine g_dup (dk_Step_init 4 rfl) rfl ?_
  obtain ⟨s4, q5, h⟩ := p_bvE h
  have t6 := tF_Reading_init K l (p_N s0 + 1) s2 _ q5
  refine g_callIN (a := (p_N s0 + 1)) (As := []) (rest := [p_r (p_N s0 + 1), p_r v0]) (host := "SortWorks") [p_r (p_N s0 + 1), p_r v0] mt_Reading_init tw_2_211 (by decide) rfl rfl ⟨Nat.le_of_ble_eq_true rfl, Nat.le_of_ble_eq_true rfl⟩ rfl (Nat.le_of_ble_eq_true rfl) (dk_Step_init 5 rfl) rfl (Nat.le_add_left _ _) rfl t6 ?_
  have hs7 : p_x s2 s4 := t6.1
  show p_Go K l m_Step_init 12 [(0, p_r v0)] [p_r (p_N s0 + 1), p_r v0] s4 _
  obtain ⟨c8, h⟩ := p_gdE h
  refine g_putR fl_Step_12 (Or.inl ⟨_, rfl⟩) (Or.inr ⟨rfl, rfl⟩) (dk_Step_init 6 rfl) c8 ?_
  refine p_ltS (P := fun q => p_Go K l m_Step_init 15 [(0, p_r v0)] [] q _) (p_xR _ _ _ _) ?_ h
  intro s9 hs10 h
  cases h
  exact g_ret rfl rfl (dk_Step_init 7 rfl) (fun _ => rfl)
def m_Gear_init : p_Me := (⟨"SortWorks$Gear", "<init>", "()V"⟩, prog_2_method_1_code, 1, none, 1, 20)
theorem mt_Gear_init : p_Mt m_Gear_init 0 := ⟨p_mem (p_tb1 (List.mem_of_getElem? (i := 73) rfl)) rfl, tw_1_5, by decide +kernel, by decide +kernel, by decide +kernel⟩
def dt_Gear_init : List (Nat × Instr × Nat) := [(0, .aload_n 0, 1), (1, .invokespecial 3, 3), (4, .aload_n 0, 1), (5, .iconst (-1), 1), (6, .putfield 9, 3), (9, .aload_n 0, 1), (10, .iconst 3, 1), (11, .newarray .int, 2), (13, .putfield 15, 3), (16, .aload_n 0, 1), (17, .iconst 3, 1), (18, .newarray .long, 2), (20, .putfield 19, 3), (23, .aload_n 0, 1), (24, .iconst (-1), 1), (25, .putfield 23, 3), (28, .aload_n 0, 1), (29, .bipush 8, 2), (31, .newarray .int, 2), (33, .putfield 26, 3), (36, .aload_n 0, 1), (37, .sipush 330, 3), (40, .newarray .int, 2), (42, .putfield 29, 3), (45, .aload_n 0, 1), (46, .iconst (-1), 1), (47, .putfield 32, 3), (50, .return_, 1)]
theorem dk_Gear_init (i : Nat) {pc : Nat} {ins : Instr} {len : Nat} (h : dt_Gear_init[i]? = some (pc, ins, len)) : decode m_Gear_init.2.1 pc = .ok (ins, len) := p_dk (b := m_Gear_init.2.1) (t := dt_Gear_init) (by decide +kernel) i h
def F_Gear_init (v0 : Nat) (s0 : p_Hp) : Option p_Hp :=
  p_gd (1 ≤ v0) <|
  p_gd (p_is s0 v0 0) <|
  p_bi (p_wZ s0 v0 3 (-1)) fun s3 =>
  p_bi (p_nw s3 100 3) fun s5 =>
  p_bi (p_wR s5 v0 4 (p_N s3 + 1)) fun s7 =>
  p_bi (p_nw s7 101 3) fun s9 =>
  p_bi (p_wR s9 v0 5 (p_N s7 + 1)) fun s11 =>
  p_bi (p_wZ s11 v0 15 (-1)) fun s13 =>
  p_bi (p_nw s13 100 8) fun s15 =>
  p_bi (p_wR s15 v0 17 (p_N s13 + 1)) fun s17 =>
  p_bi (p_nw s17 100 330) fun s19 =>
  p_bi (p_wR s19 v0 18 (p_N s17 + 1)) fun s21 =>
  p_bi (p_wZ s21 v0 19 (-1)) fun s23 =>
  some s23
set_option maxRecDepth 100000 in
set_option maxHeartbeats 4000000 in
theorem tF_Gear_init (K : p_K) (l : Launch) (v0 : Nat) (s0 : p_Hp) (r : p_Hp) (h : F_Gear_init v0 s0 = some r) : p_Ct K l m_Gear_init [p_r v0] s0 (none, r) := by
  refine p_Ct.of (by decide +kernel) (Nat.le_of_ble_eq_true rfl) ?_
  unfold F_Gear_init at h
  show p_Go K l m_Gear_init 0 [(0, p_r v0)] [] s0 _
  refine g_aload_n (i := 0) (j := 0) (dk_Gear_init 0 rfl) rfl rfl ?_
  obtain ⟨c1, h⟩ := p_gdE h
  refine g_objInit tw_1_74 tw_1_23 tw_objInit (dk_Gear_init 1 rfl) (Nat.le_of_ble_eq_true rfl) (Nat.le_of_ble_eq_true rfl) c1 ?_
  refine g_aload_n (i := 0) (j := 0) (dk_Gear_init 2 rfl) rfl rfl ?_
  refine g_iconst (dk_Gear_init 3 rfl) (by decide) ?_
  obtain ⟨c2, h⟩ := p_gdE h
  refine g_putI fl_Gear_9 (Or.inl rfl) (dk_Gear_init 4 rfl) c2 ?_
  refine p_ltS (P := fun q => p_Go K l m_Gear_init 9 [(0, p_r v0)] [] q _) (p_xZ _ _ _ _) ?_ h
  intro s3 hs4 h
  refine g_aload_n (i := 0) (j := 0) (dk_Gear_init 5 rfl) rfl rfl ?_
  refine g_iconst (dk_Gear_init 6 rfl) (by decide) ?_
  refine g_newarray (i := 0) (t := 100) (n := 3) rfl (by decide +kernel) rfl rfl tw_1_69 (dk_Gear_init 7 rfl) (by decide) (by decide) ?_
  refine p_ltS (P := fun q => p_Go K l m_Gear_init 13 [(0, p_r v0)] [p_r (p_N s3 + 1), p_r v0] q _) (p_x_nw _ _ _) ?_ h
  intro s5 hs6 h
  refine g_putR fl_Gear_15 (Or.inr ⟨_, rfl⟩) (Or.inr ⟨rfl, rfl⟩) (dk_Gear_init 8 rfl) (c2.up (hs4.trans hs6)) ?_
  refine p_ltS (P := fun q => p_Go K l m_Gear_init 16 [(0, p_r v0)] [] q _) (p_xR _ _ _ _) ?_ h
  intro s7 hs8 h
  refine g_aload_n (i := 0) (j := 0) (dk_Gear_init 9 rfl) rfl rfl ?_
  refine g_iconst (dk_Gear_init 10 rfl) (by decide) ?_
  refine g_newarray (i := 1) (t := 101) (n := 3) rfl (by decide +kernel) rfl rfl tw_1_172 (dk_Gear_init 11 rfl) (by decide) (by decide) ?_
  refine p_ltS (P := fun q => p_Go K l m_Gear_init 20 [(0, p_r v0)] [p_r (p_N s7 + 1), p_r v0] q _) (p_x_nw _ _ _) ?_ h
  intro s9 hs10 h
  refine g_putR fl_Gear_19 (Or.inr ⟨_, rfl⟩) (Or.inr ⟨rfl, rfl⟩) (dk_Gear_init 12 rfl) (c2.up (hs4.trans (hs6.trans (hs8.trans hs10)))) ?_
  refine p_ltS (P := fun q => p_Go K l m_Gear_init 23 [(0, p_r v0)] [] q _) (p_xR _ _ _ _) ?_ h
  intro s11 hs12 h
  refine g_aload_n (i := 0) (j := 0) (dk_Gear_init 13 rfl) rfl rfl ?_
  refine g_iconst (dk_Gear_init 14 rfl) (by decide) ?_
  refine g_putI fl_Gear_23 (Or.inl rfl) (dk_Gear_init 15 rfl) (c2.up (hs4.trans (hs6.trans (hs8.trans (hs10.trans hs12))))) ?_
  refine p_ltS (P := fun q => p_Go K l m_Gear_init 28 [(0, p_r v0)] [] q _) (p_xZ _ _ _ _) ?_ h
  intro s13 hs14 h
  refine g_aload_n (i := 0) (j := 0) (dk_Gear_init 16 rfl) rfl rfl ?_
  refine g_bipush (dk_Gear_init 17 rfl) (by decide +kernel) (by decide) ?_
  refine g_newarray (i := 0) (t := 100) (n := 8) rfl (by decide +kernel) rfl rfl tw_1_69 (dk_Gear_init 18 rfl) (by decide) (by decide) ?_
  refine p_ltS (P := fun q => p_Go K l m_Gear_init 33 [(0, p_r v0)] [p_r (p_N s13 + 1), p_r v0] q _) (p_x_nw _ _ _) ?_ h
  intro s15 hs16 h
  refine g_putR fl_Gear_26 (Or.inr ⟨_, rfl⟩) (Or.inr ⟨rfl, rfl⟩) (dk_Gear_init 19 rfl) (c2.up (hs4.trans (hs6.trans (hs8.trans (hs10.trans (hs12.trans (hs14.trans hs16))))))) ?_
  refine p_ltS (P := fun q => p_Go K l m_Gear_init 36 [(0, p_r v0)] [] q _) (p_xR _ _ _ _) ?_ h
  intro s17 hs18 h
  refine g_aload_n (i := 0) (j := 0) (dk_Gear_init 20 rfl) rfl rfl ?_
  refine g_sipush (dk_Gear_init 21 rfl) (by decide +kernel) (by decide) ?_
  refine g_newarray (i := 0) (t := 100) (n := 330) rfl (by decide +kernel) rfl rfl tw_1_69 (dk_Gear_init 22 rfl) (by decide) (by decide) ?_
  refine p_ltS (P := fun q => p_Go K l m_Gear_init 42 [(0, p_r v0)] [p_r (p_N s17 + 1), p_r v0] q _) (p_x_nw _ _ _) ?_ h
  intro s19 hs20 h
  refine g_putR fl_Gear_29 (Or.inr ⟨_, rfl⟩) (Or.inr ⟨rfl, rfl⟩) (dk_Gear_init 23 rfl) (c2.up (hs4.trans (hs6.trans (hs8.trans (hs10.trans (hs12.trans (hs14.trans (hs16.trans (hs18.trans hs20))))))))) ?_
  refine p_ltS (P := fun q => p_Go K l m_Gear_init 45 [(0, p_r v0)] [] q _) (p_xR _ _ _ _) ?_ h
  intro s21 hs22 h
  refine g_aload_n (i := 0) (j := 0) (dk_Gear_init 24 rfl) rfl rfl ?_
  refine g_iconst (dk_Gear_init 25 rfl) (by decide) ?_
  refine g_putI fl_Gear_32 (Or.inl rfl) (dk_Gear_init 26 rfl) (c2.up (hs4.trans (hs6.trans (hs8.trans (hs10.trans (hs12.trans (hs14.trans (hs16.trans (hs18.trans (hs20.trans hs22)))))))))) ?_
  refine p_ltS (P := fun q => p_Go K l m_Gear_init 50 [(0, p_r v0)] [] q _) (p_xZ _ _ _ _) ?_ h
  intro s23 hs24 h
  cases h
  exact g_ret rfl rfl (dk_Gear_init 27 rfl) (fun _ => rfl)
def m_Log_init : p_Me := (⟨"SortWorks$Log", "<init>", "(II)V"⟩, prog_4_method_1_code, 3, none, 1, 20)
theorem mt_Log_init : p_Mt m_Log_init 2 := ⟨p_mem (p_tb1 (List.mem_of_getElem? (i := 46) rfl)) rfl, tw_1_4, by decide +kernel, by decide +kernel, by decide +kernel⟩
def dt_Log_init : List (Nat × Instr × Nat) := [(0, .aload_n 0, 1), (1, .invokespecial 3, 3), (4, .aload_n 0, 1), (5, .bipush 30, 2), (7, .newarray .int, 2), (9, .putfield 9, 3), (12, .aload_n 0, 1), (13, .iload_n 1, 1), (14, .putfield 15, 3), (17, .aload_n 0, 1), (18, .iload_n 2, 1), (19, .putfield 19, 3), (22, .aload_n 0, 1), (23, .iload_n 1, 1), (24, .iconst 5, 1), (25, .imul, 1), (26, .newarray .int, 2), (28, .putfield 22, 3), (31, .aload_n 0, 1), (32, .bipush 30, 2), (34, .iload_n 1, 1), (35, .imul, 1), (36, .iconst 5, 1), (37, .imul, 1), (38, .newarray .int, 2), (40, .putfield 25, 3), (43, .return_, 1)]
theorem dk_Log_init (i : Nat) {pc : Nat} {ins : Instr} {len : Nat} (h : dt_Log_init[i]? = some (pc, ins, len)) : decode m_Log_init.2.1 pc = .ok (ins, len) := p_dk (b := m_Log_init.2.1) (t := dt_Log_init) (by decide +kernel) i h
def F_Log_init (v0 : Nat) (v1 : Int) (v2 : Int) (s0 : p_Hp) : Option p_Hp :=
  p_gd (1 ≤ v0) <|
  p_bi (p_nw s0 100 30) fun s2 =>
  p_gd (p_is s2 v0 2) <|
  p_bi (p_wR s2 v0 5 (p_N s0 + 1)) fun s5 =>
  p_bi (p_wZ s5 v0 0 v1) fun s7 =>
  p_bi (p_wZ s7 v0 1 v2) fun s9 =>
  p_gd ((0 : Int) ≤ (p_w (v1 * 5)) ∧ (p_w (v1 * 5)) ≤ 1000000) <|
  p_bi (p_nw s9 100 ((p_w (v1 * 5)) : Int).toNat) fun s12 =>
  p_bi (p_wR s12 v0 2 (p_N s9 + 1)) fun s14 =>
  p_gd ((0 : Int) ≤ (p_w ((p_w (30 * v1)) * 5)) ∧ (p_w ((p_w (30 * v1)) * 5)) ≤ 1000000) <|
  p_bi (p_nw s14 100 ((p_w ((p_w (30 * v1)) * 5)) : Int).toNat) fun s17 =>
  p_bi (p_wR s17 v0 4 (p_N s14 + 1)) fun s19 =>
  some s19
set_option maxRecDepth 100000 in
set_option maxHeartbeats 4000000 in
theorem tF_Log_init (K : p_K) (l : Launch) (v0 : Nat) (v1 : Int) (v2 : Int) (s0 : p_Hp) (r : p_Hp) (h : F_Log_init v0 v1 v2 s0 = some r) : p_Ct K l m_Log_init [p_r v0, p_i v1, p_i v2] s0 (none, r) := by
  refine p_Ct.of (by decide +kernel) (Nat.le_of_ble_eq_true rfl) ?_
  unfold F_Log_init at h
  show p_Go K l m_Log_init 0 [(0, p_r v0), (1, p_i v1), (2, p_i v2)] [] s0 _
  refine g_aload_n (i := 0) (j := 0) (dk_Log_init 0 rfl) rfl rfl ?_
  obtain ⟨c1, h⟩ := p_gdE h
  refine g_objInit tw_1_47 tw_1_23 tw_objInit (dk_Log_init 1 rfl) (Nat.le_of_ble_eq_true rfl) (Nat.le_of_ble_eq_true rfl) c1 ?_
  refine g_aload_n (i := 0) (j := 0) (dk_Log_init 2 rfl) rfl rfl ?_
  refine g_bipush (dk_Log_init 3 rfl) (by decide +kernel) (by decide) ?_
  refine g_newarray (i := 0) (t := 100) (n := 30) rfl (by decide +kernel) rfl rfl tw_1_69 (dk_Log_init 4 rfl) (by decide) (by decide) ?_
  refine p_ltS (P := fun q => p_Go K l m_Log_init 9 [(0, p_r v0), (1, p_i v1), (2, p_i v2)] [p_r (p_N s0 + 1), p_r v0] q _) (p_x_nw _ _ _) ?_ h
  intro s2 hs3 h
  obtain ⟨c4, h⟩ := p_gdE h
  refine g_putR fl_Log_9 (Or.inr ⟨_, rfl⟩) (Or.inr ⟨rfl, rfl⟩) (dk_Log_init 5 rfl) c4 ?_
  refine p_ltS (P := fun q => p_Go K l m_Log_init 12 [(0, p_r v0), (1, p_i v1), (2, p_i v2)] [] q _) (p_xR _ _ _ _) ?_ h
  intro s5 hs6 h
  refine g_aload_n (i := 0) (j := 0) (dk_Log_init 6 rfl) rfl rfl ?_
  refine g_iload_n (i := 1) (j := 1) (dk_Log_init 7 rfl) rfl rfl ?_
  refine g_putI fl_Log_15 (Or.inr ⟨rfl, rfl⟩) (dk_Log_init 8 rfl) (c4.up hs6) ?_
  refine p_ltS (P := fun q => p_Go K l m_Log_init 17 [(0, p_r v0), (1, p_i v1), (2, p_i v2)] [] q _) (p_xZ _ _ _ _) ?_ h
  intro s7 hs8 h
  refine g_aload_n (i := 0) (j := 0) (dk_Log_init 9 rfl) rfl rfl ?_
  refine g_iload_n (i := 2) (j := 2) (dk_Log_init 10 rfl) rfl rfl ?_
  refine g_putI fl_Log_19 (Or.inr ⟨rfl, rfl⟩) (dk_Log_init 11 rfl) (c4.up (hs6.trans hs8)) ?_
  refine p_ltS (P := fun q => p_Go K l m_Log_init 22 [(0, p_r v0), (1, p_i v1), (2, p_i v2)] [] q _) (p_xZ _ _ _ _) ?_ h
  intro s9 hs10 h
  refine g_aload_n (i := 0) (j := 0) (dk_Log_init 12 rfl) rfl rfl ?_
  refine g_iload_n (i := 1) (j := 1) (dk_Log_init 13 rfl) rfl rfl ?_
  refine g_iconst (dk_Log_init 14 rfl) (by decide) ?_
  refine g_imul (dk_Log_init 15 rfl) ?_
  obtain ⟨c11, h⟩ := p_gdE h
  refine g_newarray (i := 0) (t := 100) (n := ((p_w (v1 * 5)) : Int).toNat) rfl rfl rfl rfl tw_1_69 (dk_Log_init 16 rfl) c11.1 c11.2 ?_
  refine p_ltS (P := fun q => p_Go K l m_Log_init 28 [(0, p_r v0), (1, p_i v1), (2, p_i v2)] [p_r (p_N s9 + 1), p_r v0] q _) (p_x_nw _ _ _) ?_ h
  intro s12 hs13 h
  refine g_putR fl_Log_22 (Or.inr ⟨_, rfl⟩) (Or.inr ⟨rfl, rfl⟩) (dk_Log_init 17 rfl) (c4.up (hs6.trans (hs8.trans (hs10.trans hs13)))) ?_
  refine p_ltS (P := fun q => p_Go K l m_Log_init 31 [(0, p_r v0), (1, p_i v1), (2, p_i v2)] [] q _) (p_xR _ _ _ _) ?_ h
  intro s14 hs15 h
  refine g_aload_n (i := 0) (j := 0) (dk_Log_init 18 rfl) rfl rfl ?_
  refine g_bipush (dk_Log_init 19 rfl) (by decide +kernel) (by decide) ?_
  refine g_iload_n (i := 1) (j := 1) (dk_Log_init 20 rfl) rfl rfl ?_
  refine g_imul (dk_Log_init 21 rfl) ?_
  refine g_iconst (dk_Log_init 22 rfl) (by decide) ?_
  refine g_imul (dk_Log_init 23 rfl) ?_
  obtain ⟨c16, h⟩ := p_gdE h
  refine g_newarray (i := 0) (t := 100) (n := ((p_w ((p_w (30 * v1)) * 5)) : Int).toNat) rfl rfl rfl rfl tw_1_69 (dk_Log_init 24 rfl) c16.1 c16.2 ?_
  refine p_ltS (P := fun q => p_Go K l m_Log_init 40 [(0, p_r v0), (1, p_i v1), (2, p_i v2)] [p_r (p_N s14 + 1), p_r v0] q _) (p_x_nw _ _ _) ?_ h
  intro s17 hs18 h
  refine g_putR fl_Log_25 (Or.inr ⟨_, rfl⟩) (Or.inr ⟨rfl, rfl⟩) (dk_Log_init 25 rfl) (c4.up (hs6.trans (hs8.trans (hs10.trans (hs13.trans (hs15.trans hs18)))))) ?_
  refine p_ltS (P := fun q => p_Go K l m_Log_init 43 [(0, p_r v0), (1, p_i v1), (2, p_i v2)] [] q _) (p_xR _ _ _ _) ?_ h
  intro s19 hs20 h
  cases h
  exact g_ret rfl rfl (dk_Log_init 26 rfl) (fun _ => rfl)
def m_Parcel_init : p_Me := (⟨"SortWorks$Parcel", "<init>", "(I)V"⟩, prog_6_method_1_code, 2, none, 1, 20)
theorem mt_Parcel_init : p_Mt m_Parcel_init 1 := ⟨p_mem (p_tb1 (List.mem_of_getElem? (i := 176) rfl)) rfl, tw_1_6, by decide +kernel, by decide +kernel, by decide +kernel⟩
def dt_Parcel_init : List (Nat × Instr × Nat) := [(0, .aload_n 0, 1), (1, .invokespecial 5, 3), (4, .aload_n 0, 1), (5, .bipush 16, 2), (7, .newarray .int, 2), (9, .putfield 11, 3), (12, .aload_n 0, 1), (13, .bipush 12, 2), (15, .newarray .int, 2), (17, .putfield 15, 3), (20, .aload_n 0, 1), (21, .sipush 1110, 3), (24, .newarray .int, 2), (26, .putfield 18, 3), (29, .aload_n 0, 1), (30, .iload_n 1, 1), (31, .putfield 21, 3), (34, .return_, 1)]
theorem dk_Parcel_init (i : Nat) {pc : Nat} {ins : Instr} {len : Nat} (h : dt_Parcel_init[i]? = some (pc, ins, len)) : decode m_Parcel_init.2.1 pc = .ok (ins, len) := p_dk (b := m_Parcel_init.2.1) (t := dt_Parcel_init) (by decide +kernel) i h
def F_Parcel_init (v0 : Nat) (v1 : Int) (s0 : p_Hp) : Option p_Hp :=
  p_gd (1 ≤ v0) <|
  p_bi (p_nw s0 100 16) fun s2 =>
  p_gd (p_is s2 v0 4) <|
  p_bi (p_wR s2 v0 10 (p_N s0 + 1)) fun s5 =>
  p_bi (p_nw s5 100 12) fun s7 =>
  p_bi (p_wR s7 v0 12 (p_N s5 + 1)) fun s9 =>
  p_bi (p_nw s9 100 1110) fun s11 =>
  p_bi (p_wR s11 v0 13 (p_N s9 + 1)) fun s13 =>
  p_bi (p_wZ s13 v0 0 v1) fun s15 =>
  some s15
set_option maxRecDepth 100000 in
set_option maxHeartbeats 4000000 in
theorem tF_Parcel_init (K : p_K) (l : Launch) (v0 : Nat) (v1 : Int) (s0 : p_Hp) (r : p_Hp) (h : F_Parcel_init v0 v1 s0 = some r) : p_Ct K l m_Parcel_init [p_r v0, p_i v1] s0 (none, r) := by
  refine p_Ct.of (by decide +kernel) (Nat.le_of_ble_eq_true rfl) ?_
  unfold F_Parcel_init at h
  show p_Go K l m_Parcel_init 0 [(0, p_r v0), (1, p_i v1)] [] s0 _
  refine g_aload_n (i := 0) (j := 0) (dk_Parcel_init 0 rfl) rfl rfl ?_
  obtain ⟨c1, h⟩ := p_gdE h
  refine g_objInit tw_1_177 tw_1_23 tw_objInit (dk_Parcel_init 1 rfl) (Nat.le_of_ble_eq_true rfl) (Nat.le_of_ble_eq_true rfl) c1 ?_
  refine g_aload_n (i := 0) (j := 0) (dk_Parcel_init 2 rfl) rfl rfl ?_
  refine g_bipush (dk_Parcel_init 3 rfl) (by decide +kernel) (by decide) ?_
  refine g_newarray (i := 0) (t := 100) (n := 16) rfl (by decide +kernel) rfl rfl tw_1_69 (dk_Parcel_init 4 rfl) (by decide) (by decide) ?_
  refine p_ltS (P := fun q => p_Go K l m_Parcel_init 9 [(0, p_r v0), (1, p_i v1)] [p_r (p_N s0 + 1), p_r v0] q _) (p_x_nw _ _ _) ?_ h
  intro s2 hs3 h
  obtain ⟨c4, h⟩ := p_gdE h
  refine g_putR fl_Parcel_11 (Or.inr ⟨_, rfl⟩) (Or.inr ⟨rfl, rfl⟩) (dk_Parcel_init 5 rfl) c4 ?_
  refine p_ltS (P := fun q => p_Go K l m_Parcel_init 12 [(0, p_r v0), (1, p_i v1)] [] q _) (p_xR _ _ _ _) ?_ h
  intro s5 hs6 h
  refine g_aload_n (i := 0) (j := 0) (dk_Parcel_init 6 rfl) rfl rfl ?_
  refine g_bipush (dk_Parcel_init 7 rfl) (by decide +kernel) (by decide) ?_
  refine g_newarray (i := 0) (t := 100) (n := 12) rfl (by decide +kernel) rfl rfl tw_1_69 (dk_Parcel_init 8 rfl) (by decide) (by decide) ?_
  refine p_ltS (P := fun q => p_Go K l m_Parcel_init 17 [(0, p_r v0), (1, p_i v1)] [p_r (p_N s5 + 1), p_r v0] q _) (p_x_nw _ _ _) ?_ h
  intro s7 hs8 h
  refine g_putR fl_Parcel_15 (Or.inr ⟨_, rfl⟩) (Or.inr ⟨rfl, rfl⟩) (dk_Parcel_init 9 rfl) (c4.up (hs6.trans hs8)) ?_
  refine p_ltS (P := fun q => p_Go K l m_Parcel_init 20 [(0, p_r v0), (1, p_i v1)] [] q _) (p_xR _ _ _ _) ?_ h
  intro s9 hs10 h
  refine g_aload_n (i := 0) (j := 0) (dk_Parcel_init 10 rfl) rfl rfl ?_
  refine g_sipush (dk_Parcel_init 11 rfl) (by decide +kernel) (by decide) ?_
  refine g_newarray (i := 0) (t := 100) (n := 1110) rfl (by decide +kernel) rfl rfl tw_1_69 (dk_Parcel_init 12 rfl) (by decide) (by decide) ?_
  refine p_ltS (P := fun q => p_Go K l m_Parcel_init 26 [(0, p_r v0), (1, p_i v1)] [p_r (p_N s9 + 1), p_r v0] q _) (p_x_nw _ _ _) ?_ h
  intro s11 hs12 h
  refine g_putR fl_Parcel_18 (Or.inr ⟨_, rfl⟩) (Or.inr ⟨rfl, rfl⟩) (dk_Parcel_init 13 rfl) (c4.up (hs6.trans (hs8.trans (hs10.trans hs12)))) ?_
  refine p_ltS (P := fun q => p_Go K l m_Parcel_init 29 [(0, p_r v0), (1, p_i v1)] [] q _) (p_xR _ _ _ _) ?_ h
  intro s13 hs14 h
  refine g_aload_n (i := 0) (j := 0) (dk_Parcel_init 14 rfl) rfl rfl ?_
  refine g_iload_n (i := 1) (j := 1) (dk_Parcel_init 15 rfl) rfl rfl ?_
  refine g_putI fl_Parcel_21 (Or.inr ⟨rfl, rfl⟩) (dk_Parcel_init 16 rfl) (c4.up (hs6.trans (hs8.trans (hs10.trans (hs12.trans hs14))))) ?_
  refine p_ltS (P := fun q => p_Go K l m_Parcel_init 34 [(0, p_r v0), (1, p_i v1)] [] q _) (p_xZ _ _ _ _) ?_ h
  intro s15 hs16 h
  cases h
  exact g_ret rfl rfl (dk_Parcel_init 17 rfl) (fun _ => rfl)
def m_State_init : p_Me := (⟨"SortWorks$State", "<init>", "()V"⟩, prog_9_method_1_code, 2, none, 2, 42)
theorem mt_State_init : p_Mt m_State_init 0 := ⟨p_mem (p_tb1 (List.mem_of_getElem? (i := 36) rfl)) rfl, tw_1_3, by decide +kernel, by decide +kernel, by decide +kernel⟩
def dt_State_init : List (Nat × Instr × Nat) := [(0, .aload_n 0, 1), (1, .invokespecial 5, 3), (4, .aload_n 0, 1), (5, .bipush 40, 2), (7, .anewarray 11, 3), (10, .putfield 13, 3), (13, .aload_n 0, 1), (14, .bipush 31, 2), (16, .anewarray 17, 3), (19, .putfield 19, 3), (22, .aload_n 0, 1), (23, .bipush 12, 2), (25, .newarray .int, 2), (27, .putfield 23, 3), (30, .aload_n 0, 1), (31, .new 27, 3), (34, .dup, 1), (35, .bipush 40, 2), (37, .iconst 5, 1), (38, .invokespecial 29, 3), (41, .putfield 32, 3), (44, .aload_n 0, 1), (45, .new 27, 3), (48, .dup, 1), (49, .bipush 30, 2), (51, .iconst 4, 1), (52, .invokespecial 29, 3), (55, .putfield 36, 3), (58, .aload_n 0, 1), (59, .sipush 480, 3), (62, .newarray .int, 2), (64, .putfield 39, 3), (67, .iconst 0, 1), (68, .istore_n 1, 1), (69, .iload_n 1, 1), (70, .bipush 40, 2), (72, .if_icmp .ge 22, 3), (75, .aload_n 0, 1), (76, .getfield 13, 3), (79, .iload_n 1, 1), (80, .new 11, 3), (83, .dup, 1), (84, .invokespecial 42, 3), (87, .aastore, 1), (88, .iinc 1 1, 3), (91, .goto (-22), 3), (94, .iconst 1, 1), (95, .istore_n 1, 1), (96, .iload_n 1, 1), (97, .bipush 30, 2), (99, .if_icmp .gt 23, 3), (102, .aload_n 0, 1), (103, .getfield 19, 3), (106, .iload_n 1, 1), (107, .new 17, 3), (110, .dup, 1), (111, .iload_n 1, 1), (112, .invokespecial 43, 3), (115, .aastore, 1), (116, .iinc 1 1, 3), (119, .goto (-23), 3), (122, .return_, 1)]
theorem dk_State_init (i : Nat) {pc : Nat} {ins : Instr} {len : Nat} (h : dt_State_init[i]? = some (pc, ins, len)) : decode m_State_init.2.1 pc = .ok (ins, len) := p_dk (b := m_State_init.2.1) (t := dt_State_init) (by decide +kernel) i h
def L_State_init_96 (k96 : Nat → Int → p_Hp → Option p_Hp) (v0 : Nat) (v1 : Int) (s0 : p_Hp) : Option p_Hp :=
  if 30 < v1 then
    some s0
  else
    p_gd (p_is s0 v0 7) <|
    p_bi (p_nw s0 4 14) fun s3 =>
    p_bv (F_Parcel_init (p_N s0 + 1) v1 s3) fun s5 =>
    p_gd (p_is s5 (p_R s0 v0 5) 106) <|
    p_gd (p_is s5 (p_N s0 + 1) 4) <|
    p_gd ((0 : Int) ≤ v1 ∧ v1 < (p_L s5 (p_R s0 v0 5) : Int)) <|
    p_bi (p_wR s5 (p_R s0 v0 5) (v1 : Int).toNat (p_N s0 + 1)) fun s12 =>
    p_bi (p_w (v1 + 1)) fun x14 =>
    k96 v0 x14 s12
def O_State_init_96  : Nat → Nat → Int → p_Hp → Option p_Hp
  | 0 => fun _ _ _ => none
  | n + 1 => L_State_init_96 (O_State_init_96 n)
def L_State_init_69 (k69 : Nat → Int → p_Hp → Option p_Hp) (v0 : Nat) (v1 : Int) (s0 : p_Hp) : Option p_Hp :=
  if 40 ≤ v1 then
    O_State_init_96 3000 v0 1 s0
  else
    p_gd (p_is s0 v0 7) <|
    p_bi (p_nw s0 0 20) fun s3 =>
    p_bv (F_Gear_init (p_N s0 + 1) s3) fun s5 =>
    p_gd (p_is s5 (p_R s0 v0 4) 105) <|
    p_gd (p_is s5 (p_N s0 + 1) 0) <|
    p_gd ((0 : Int) ≤ v1 ∧ v1 < (p_L s5 (p_R s0 v0 4) : Int)) <|
    p_bi (p_wR s5 (p_R s0 v0 4) (v1 : Int).toNat (p_N s0 + 1)) fun s12 =>
    p_bi (p_w (v1 + 1)) fun x14 =>
    k69 v0 x14 s12
def O_State_init_69  : Nat → Nat → Int → p_Hp → Option p_Hp
  | 0 => fun _ _ _ => none
  | n + 1 => L_State_init_69 (O_State_init_69 n)
def F_State_init (v0 : Nat) (s0 : p_Hp) : Option p_Hp :=
  p_gd (1 ≤ v0) <|
  p_bi (p_nw s0 105 40) fun s2 =>
  p_gd (p_is s2 v0 7) <|
  p_bi (p_wR s2 v0 4 (p_N s0 + 1)) fun s5 =>
  p_bi (p_nw s5 106 31) fun s7 =>
  p_bi (p_wR s7 v0 5 (p_N s5 + 1)) fun s9 =>
  p_bi (p_nw s9 100 12) fun s11 =>
  p_bi (p_wR s11 v0 6 (p_N s9 + 1)) fun s13 =>
  p_bi (p_nw s13 2 6) fun s15 =>
  p_bv (F_Log_init (p_N s13 + 1) 40 5 s15) fun s17 =>
  p_bi (p_wR s17 v0 7 (p_N s13 + 1)) fun s21 =>
  p_bi (p_nw s21 2 6) fun s23 =>
  p_bv (F_Log_init (p_N s21 + 1) 30 4 s23) fun s25 =>
  p_bi (p_wR s25 v0 8 (p_N s21 + 1)) fun s29 =>
  p_bi (p_nw s29 100 480) fun s31 =>
  p_bi (p_wR s31 v0 9 (p_N s29 + 1)) fun s33 =>
  O_State_init_69 3000 v0 0 s33
set_option maxRecDepth 100000 in
set_option maxHeartbeats 4000000 in
theorem tL_State_init_96 (K : p_K) (l : Launch) (k96 : Nat → Int → p_Hp → Option p_Hp) (hk96 : ∀ (v0 : Nat) (v1 : Int)  (s0 : p_Hp) (r : p_Hp), k96 v0 v1 s0 = some r → p_Go K l m_State_init 96 [(0, p_r v0), (1, p_i v1)] [] s0 (none, r)) (v0 : Nat) (v1 : Int) (s0 : p_Hp) (r : p_Hp) (h : L_State_init_96 k96 v0 v1 s0 = some r) : p_Go K l m_State_init 96 [(0, p_r v0), (1, p_i v1)] [] s0 (none, r) := by
  unfold L_State_init_96 at h
  refine g_iload_n (i := 1) (j := 1) (dk_State_init 48 rfl) rfl rfl ?_
  refine g_bipush (dk_State_init 49 rfl) (by decide +kernel) (by decide) ?_
  refine g_icmp_gt 122 (dk_State_init 50 rfl) (by decide) (fun b1 => ?_) (fun b1 => ?_)
  · have h := p_ifT b1 h
    cases h
    exact g_ret rfl rfl (dk_State_init 61 rfl) (fun _ => rfl)
  · have h := p_ifF b1 h
    refine g_aload_n (i := 0) (j := 0) (dk_State_init 51 rfl) rfl rfl ?_
    obtain ⟨c2, h⟩ := p_gdE h
    refine g_getR fl_State_19 (Or.inr ⟨_, rfl⟩) (dk_State_init 52 rfl) c2 ?_
    refine g_iload_n (i := 1) (j := 1) (dk_State_init 53 rfl) rfl rfl ?_
    refine g_new cl_4 tw_1_40 (dk_State_init 54 rfl) ?_
    refine p_ltS (P := fun q => p_Go K l m_State_init 110 [(0, p_r v0), (1, p_i v1)] [p_r (p_N s0 + 1), p_i v1, p_r (p_R s0 v0 5)] q _) (p_x_nw _ _ _) ?_ h
    intro s3 hs4 h
    refine g_dup (dk_State_init 55 rfl) rfl ?_
    refine g_iload_n (i := 1) (j := 1) (dk_State_init 56 rfl) rfl rfl ?_
    obtain ⟨s5, q6, h⟩ := p_bvE h
    have t7 := tF_Parcel_init K l (p_N s0 + 1) v1 s3 _ q6
    refine g_callI (a := (p_N s0 + 1)) (As := [p_i v1]) (rest := [p_r (p_N s0 + 1), p_i v1, p_r (p_R s0 v0 5)]) [p_r (p_N s0 + 1), p_i v1, p_r (p_R s0 v0 5)] mt_Parcel_init tw_1_175 tw_1_174 rfl rfl ⟨Nat.le_of_ble_eq_true rfl, Nat.le_of_ble_eq_true rfl⟩ rfl (Nat.le_of_ble_eq_true rfl) (dk_State_init 57 rfl) rfl (Nat.le_add_left _ _) rfl t7 ?_
    have hs8 : p_x s3 s5 := t7.1
    show p_Go K l m_State_init 115 [(0, p_r v0), (1, p_i v1)] [p_r (p_N s0 + 1), p_i v1, p_r (p_R s0 v0 5)] s5 _
    obtain ⟨c9, h⟩ := p_gdE h
    obtain ⟨c10, h⟩ := p_gdE h
    obtain ⟨c11, h⟩ := p_gdE h
    refine g_aastore (i := 6) (ci := 4) (q := (RX4, TX4, 14)) rfl rfl (dk_State_init 58 rfl) c9 c10 c11.1 c11.2 ?_
    refine p_ltS (P := fun q => p_Go K l m_State_init 116 [(0, p_r v0), (1, p_i v1)] [] q _) (p_xR _ _ _ _) ?_ h
    intro s12 hs13 h
    refine g_iinc (j := 1) [(1, p_i (p_w (v1 + 1))), (0, p_r v0)] (dk_State_init 59 rfl) rfl (by decide) rfl ?_
    refine p_ltG (P := fun q => p_Go K l m_State_init 119 [(1, p_i q), (0, p_r v0)] [] s12 _) ?_ h
    intro x14 h
    refine g_goto 96 (dk_State_init 60 rfl) (by decide) ?_
    refine g_sub [(0, p_r v0), (1, p_i x14)] [1, 0] rfl ?_
    exact hk96 v0 x14 s12 _ h
set_option maxRecDepth 100000 in
set_option maxHeartbeats 4000000 in
theorem tO_State_init_96 (K : p_K) (l : Launch)  : ∀ (n : Nat) (v0 : Nat) (v1 : Int) (s0 : p_Hp) (r : p_Hp), O_State_init_96 n v0 v1 s0 = some r → p_Go K l m_State_init 96 [(0, p_r v0), (1, p_i v1)] [] s0 (none, r) := by
  intro n
  induction n with
  | zero => intro v0 v1 s0 r h; cases (show (none : Option p_Hp) = some r from h)
  | succ n ih => intro v0 v1 s0 r h; exact tL_State_init_96 K l _ ih v0 v1 s0 r h
set_option maxRecDepth 100000 in
set_option maxHeartbeats 4000000 in
theorem tL_State_init_69 (K : p_K) (l : Launch) (k69 : Nat → Int → p_Hp → Option p_Hp) (hk69 : ∀ (v0 : Nat) (v1 : Int)  (s0 : p_Hp) (r : p_Hp), k69 v0 v1 s0 = some r → p_Go K l m_State_init 69 [(0, p_r v0), (1, p_i v1)] [] s0 (none, r)) (v0 : Nat) (v1 : Int) (s0 : p_Hp) (r : p_Hp) (h : L_State_init_69 k69 v0 v1 s0 = some r) : p_Go K l m_State_init 69 [(0, p_r v0), (1, p_i v1)] [] s0 (none, r) := by
  unfold L_State_init_69 at h
  refine g_iload_n (i := 1) (j := 1) (dk_State_init 34 rfl) rfl rfl ?_
  refine g_bipush (dk_State_init 35 rfl) (by decide +kernel) (by decide) ?_
  refine g_icmp_ge 94 (dk_State_init 36 rfl) (by decide) (fun b1 => ?_) (fun b1 => ?_)
  · have h := p_ifT b1 h
    refine g_iconst (dk_State_init 46 rfl) (by decide) ?_
    refine g_istore_n (i := 1) [(1, p_i 1), (0, p_r v0)] (dk_State_init 47 rfl) rfl (by decide) rfl ?_
    refine g_sub [(0, p_r v0), (1, p_i 1)] [1, 0] rfl ?_
    exact tO_State_init_96 K l 3000 v0 1 s0 _ h
  · have h := p_ifF b1 h
    refine g_aload_n (i := 0) (j := 0) (dk_State_init 37 rfl) rfl rfl ?_
    obtain ⟨c2, h⟩ := p_gdE h
    refine g_getR fl_State_13 (Or.inr ⟨_, rfl⟩) (dk_State_init 38 rfl) c2 ?_
    refine g_iload_n (i := 1) (j := 1) (dk_State_init 39 rfl) rfl rfl ?_
    refine g_new cl_0 tw_1_38 (dk_State_init 40 rfl) ?_
    refine p_ltS (P := fun q => p_Go K l m_State_init 83 [(0, p_r v0), (1, p_i v1)] [p_r (p_N s0 + 1), p_i v1, p_r (p_R s0 v0 4)] q _) (p_x_nw _ _ _) ?_ h
    intro s3 hs4 h
    refine g_dup (dk_State_init 41 rfl) rfl ?_
    obtain ⟨s5, q6, h⟩ := p_bvE h
    have t7 := tF_Gear_init K l (p_N s0 + 1) s3 _ q6
    refine g_callIN (a := (p_N s0 + 1)) (As := []) (rest := [p_r (p_N s0 + 1), p_i v1, p_r (p_R s0 v0 4)]) (host := "SortWorks") [p_r (p_N s0 + 1), p_i v1, p_r (p_R s0 v0 4)] mt_Gear_init tw_1_72 (by decide) rfl rfl ⟨Nat.le_of_ble_eq_true rfl, Nat.le_of_ble_eq_true rfl⟩ rfl (Nat.le_of_ble_eq_true rfl) (dk_State_init 42 rfl) rfl (Nat.le_add_left _ _) rfl t7 ?_
    have hs8 : p_x s3 s5 := t7.1
    show p_Go K l m_State_init 87 [(0, p_r v0), (1, p_i v1)] [p_r (p_N s0 + 1), p_i v1, p_r (p_R s0 v0 4)] s5 _
    obtain ⟨c9, h⟩ := p_gdE h
    obtain ⟨c10, h⟩ := p_gdE h
    obtain ⟨c11, h⟩ := p_gdE h
    refine g_aastore (i := 5) (ci := 0) (q := (RX0, TX0, 20)) rfl rfl (dk_State_init 43 rfl) c9 c10 c11.1 c11.2 ?_
    refine p_ltS (P := fun q => p_Go K l m_State_init 88 [(0, p_r v0), (1, p_i v1)] [] q _) (p_xR _ _ _ _) ?_ h
    intro s12 hs13 h
    refine g_iinc (j := 1) [(1, p_i (p_w (v1 + 1))), (0, p_r v0)] (dk_State_init 44 rfl) rfl (by decide) rfl ?_
    refine p_ltG (P := fun q => p_Go K l m_State_init 91 [(1, p_i q), (0, p_r v0)] [] s12 _) ?_ h
    intro x14 h
    refine g_goto 69 (dk_State_init 45 rfl) (by decide) ?_
    refine g_sub [(0, p_r v0), (1, p_i x14)] [1, 0] rfl ?_
    exact hk69 v0 x14 s12 _ h
set_option maxRecDepth 100000 in
set_option maxHeartbeats 4000000 in
theorem tO_State_init_69 (K : p_K) (l : Launch)  : ∀ (n : Nat) (v0 : Nat) (v1 : Int) (s0 : p_Hp) (r : p_Hp), O_State_init_69 n v0 v1 s0 = some r → p_Go K l m_State_init 69 [(0, p_r v0), (1, p_i v1)] [] s0 (none, r) := by
  intro n
  induction n with
  | zero => intro v0 v1 s0 r h; cases (show (none : Option p_Hp) = some r from h)
  | succ n ih => intro v0 v1 s0 r h; exact tL_State_init_69 K l _ ih v0 v1 s0 r h
set_option maxRecDepth 100000 in
set_option maxHeartbeats 4000000 in
theorem tF_State_init (K : p_K) (l : Launch) (v0 : Nat) (s0 : p_Hp) (r : p_Hp) (h : F_State_init v0 s0 = some r) : p_Ct K l m_State_init [p_r v0] s0 (none, r) := by
  refine p_Ct.of (by decide +kernel) (Nat.le_of_ble_eq_true rfl) ?_
  unfold F_State_init at h
  show p_Go K l m_State_init 0 [(0, p_r v0)] [] s0 _
  refine g_aload_n (i := 0) (j := 0) (dk_State_init 0 rfl) rfl rfl ?_
  obtain ⟨c1, h⟩ := p_gdE h
  refine g_objInit tw_1_37 tw_1_23 tw_objInit (dk_State_init 1 rfl) (Nat.le_of_ble_eq_true rfl) (Nat.le_of_ble_eq_true rfl) c1 ?_
  refine g_aload_n (i := 0) (j := 0) (dk_State_init 2 rfl) rfl rfl ?_
  refine g_bipush (dk_State_init 3 rfl) (by decide +kernel) (by decide) ?_
  refine g_anewarray (i := 5) (t := 105) (n := 40) rfl (by decide +kernel) rfl (by decide) tw_1_38 (dk_State_init 4 rfl) (by decide) (by decide) ?_
  refine p_ltS (P := fun q => p_Go K l m_State_init 10 [(0, p_r v0)] [p_r (p_N s0 + 1), p_r v0] q _) (p_x_nw _ _ _) ?_ h
  intro s2 hs3 h
  obtain ⟨c4, h⟩ := p_gdE h
  refine g_putR fl_State_13 (Or.inr ⟨_, rfl⟩) (Or.inr ⟨rfl, rfl⟩) (dk_State_init 5 rfl) c4 ?_
  refine p_ltS (P := fun q => p_Go K l m_State_init 13 [(0, p_r v0)] [] q _) (p_xR _ _ _ _) ?_ h
  intro s5 hs6 h
  refine g_aload_n (i := 0) (j := 0) (dk_State_init 6 rfl) rfl rfl ?_
  refine g_bipush (dk_State_init 7 rfl) (by decide +kernel) (by decide) ?_
  refine g_anewarray (i := 6) (t := 106) (n := 31) rfl (by decide +kernel) rfl (by decide) tw_1_40 (dk_State_init 8 rfl) (by decide) (by decide) ?_
  refine p_ltS (P := fun q => p_Go K l m_State_init 19 [(0, p_r v0)] [p_r (p_N s5 + 1), p_r v0] q _) (p_x_nw _ _ _) ?_ h
  intro s7 hs8 h
  refine g_putR fl_State_19 (Or.inr ⟨_, rfl⟩) (Or.inr ⟨rfl, rfl⟩) (dk_State_init 9 rfl) (c4.up (hs6.trans hs8)) ?_
  refine p_ltS (P := fun q => p_Go K l m_State_init 22 [(0, p_r v0)] [] q _) (p_xR _ _ _ _) ?_ h
  intro s9 hs10 h
  refine g_aload_n (i := 0) (j := 0) (dk_State_init 10 rfl) rfl rfl ?_
  refine g_bipush (dk_State_init 11 rfl) (by decide +kernel) (by decide) ?_
  refine g_newarray (i := 0) (t := 100) (n := 12) rfl (by decide +kernel) rfl rfl tw_1_69 (dk_State_init 12 rfl) (by decide) (by decide) ?_
  refine p_ltS (P := fun q => p_Go K l m_State_init 27 [(0, p_r v0)] [p_r (p_N s9 + 1), p_r v0] q _) (p_x_nw _ _ _) ?_ h
  intro s11 hs12 h
  refine g_putR fl_State_23 (Or.inr ⟨_, rfl⟩) (Or.inr ⟨rfl, rfl⟩) (dk_State_init 13 rfl) (c4.up (hs6.trans (hs8.trans (hs10.trans hs12)))) ?_
  refine p_ltS (P := fun q => p_Go K l m_State_init 30 [(0, p_r v0)] [] q _) (p_xR _ _ _ _) ?_ h
  intro s13 hs14 h
  refine g_aload_n (i := 0) (j := 0) (dk_State_init 14 rfl) rfl rfl ?_
  refine g_new cl_2 tw_1_42 (dk_State_init 15 rfl) ?_
  refine p_ltS (P := fun q => p_Go K l m_State_init 34 [(0, p_r v0)] [p_r (p_N s13 + 1), p_r v0] q _) (p_x_nw _ _ _) ?_ h
  intro s15 hs16 h
  refine g_dup (dk_State_init 16 rfl) rfl ?_
  refine g_bipush (dk_State_init 17 rfl) (by decide +kernel) (by decide) ?_
  refine g_iconst (dk_State_init 18 rfl) (by decide) ?_
  obtain ⟨s17, q18, h⟩ := p_bvE h
  have t19 := tF_Log_init K l (p_N s13 + 1) 40 5 s15 _ q18
  refine g_callI (a := (p_N s13 + 1)) (As := [p_i 40, p_i 5]) (rest := [p_r (p_N s13 + 1), p_r v0]) [p_r (p_N s13 + 1), p_r v0] mt_Log_init tw_1_45 tw_1_44 rfl rfl ⟨Nat.le_of_ble_eq_true rfl, Nat.le_of_ble_eq_true rfl⟩ rfl (Nat.le_of_ble_eq_true rfl) (dk_State_init 19 rfl) rfl (Nat.le_add_left _ _) rfl t19 ?_
  have hs20 : p_x s15 s17 := t19.1
  show p_Go K l m_State_init 41 [(0, p_r v0)] [p_r (p_N s13 + 1), p_r v0] s17 _
  refine g_putR fl_State_32 (Or.inl ⟨_, rfl⟩) (Or.inr ⟨rfl, rfl⟩) (dk_State_init 20 rfl) (c4.up (hs6.trans (hs8.trans (hs10.trans (hs12.trans (hs14.trans (hs16.trans hs20))))))) ?_
  refine p_ltS (P := fun q => p_Go K l m_State_init 44 [(0, p_r v0)] [] q _) (p_xR _ _ _ _) ?_ h
  intro s21 hs22 h
  refine g_aload_n (i := 0) (j := 0) (dk_State_init 21 rfl) rfl rfl ?_
  refine g_new cl_2 tw_1_42 (dk_State_init 22 rfl) ?_
  refine p_ltS (P := fun q => p_Go K l m_State_init 48 [(0, p_r v0)] [p_r (p_N s21 + 1), p_r v0] q _) (p_x_nw _ _ _) ?_ h
  intro s23 hs24 h
  refine g_dup (dk_State_init 23 rfl) rfl ?_
  refine g_bipush (dk_State_init 24 rfl) (by decide +kernel) (by decide) ?_
  refine g_iconst (dk_State_init 25 rfl) (by decide) ?_
  obtain ⟨s25, q26, h⟩ := p_bvE h
  have t27 := tF_Log_init K l (p_N s21 + 1) 30 4 s23 _ q26
  refine g_callI (a := (p_N s21 + 1)) (As := [p_i 30, p_i 4]) (rest := [p_r (p_N s21 + 1), p_r v0]) [p_r (p_N s21 + 1), p_r v0] mt_Log_init tw_1_45 tw_1_44 rfl rfl ⟨Nat.le_of_ble_eq_true rfl, Nat.le_of_ble_eq_true rfl⟩ rfl (Nat.le_of_ble_eq_true rfl) (dk_State_init 26 rfl) rfl (Nat.le_add_left _ _) rfl t27 ?_
  have hs28 : p_x s23 s25 := t27.1
  show p_Go K l m_State_init 55 [(0, p_r v0)] [p_r (p_N s21 + 1), p_r v0] s25 _
  refine g_putR fl_State_36 (Or.inl ⟨_, rfl⟩) (Or.inr ⟨rfl, rfl⟩) (dk_State_init 27 rfl) (c4.up (hs6.trans (hs8.trans (hs10.trans (hs12.trans (hs14.trans (hs16.trans (hs20.trans (hs22.trans (hs24.trans hs28)))))))))) ?_
  refine p_ltS (P := fun q => p_Go K l m_State_init 58 [(0, p_r v0)] [] q _) (p_xR _ _ _ _) ?_ h
  intro s29 hs30 h
  refine g_aload_n (i := 0) (j := 0) (dk_State_init 28 rfl) rfl rfl ?_
  refine g_sipush (dk_State_init 29 rfl) (by decide +kernel) (by decide) ?_
  refine g_newarray (i := 0) (t := 100) (n := 480) rfl (by decide +kernel) rfl rfl tw_1_69 (dk_State_init 30 rfl) (by decide) (by decide) ?_
  refine p_ltS (P := fun q => p_Go K l m_State_init 64 [(0, p_r v0)] [p_r (p_N s29 + 1), p_r v0] q _) (p_x_nw _ _ _) ?_ h
  intro s31 hs32 h
  refine g_putR fl_State_39 (Or.inr ⟨_, rfl⟩) (Or.inr ⟨rfl, rfl⟩) (dk_State_init 31 rfl) (c4.up (hs6.trans (hs8.trans (hs10.trans (hs12.trans (hs14.trans (hs16.trans (hs20.trans (hs22.trans (hs24.trans (hs28.trans (hs30.trans hs32)))))))))))) ?_
  refine p_ltS (P := fun q => p_Go K l m_State_init 67 [(0, p_r v0)] [] q _) (p_xR _ _ _ _) ?_ h
  intro s33 hs34 h
  refine g_iconst (dk_State_init 32 rfl) (by decide) ?_
  refine g_istore_n (i := 1) [(1, p_i 0), (0, p_r v0)] (dk_State_init 33 rfl) rfl (by decide) rfl ?_
  refine g_sub [(0, p_r v0), (1, p_i 0)] [1, 0] rfl ?_
  exact tO_State_init_69 K l 3000 v0 0 s33 _ h
def m_Works_init : p_Me := (⟨"SortWorks$Works", "<init>", "(I)V"⟩, prog_11_method_1_code, 2, none, 3, 63)
theorem mt_Works_init : p_Mt m_Works_init 1 := ⟨p_mem (p_tb1 (List.mem_of_getElem? (i := 30) rfl)) rfl, tw_1_2, by decide +kernel, by decide +kernel, by decide +kernel⟩
def dt_Works_init : List (Nat × Instr × Nat) := [(0, .aload_n 0, 1), (1, .invokespecial 3, 3), (4, .aload_n 0, 1), (5, .new 9, 3), (8, .dup, 1), (9, .invokespecial 11, 3), (12, .putfield 12, 3), (15, .aload_n 0, 1), (16, .new 18, 3), (19, .dup, 1), (20, .invokespecial 20, 3), (23, .putfield 21, 3), (26, .aload_n 0, 1), (27, .bipush 16, 2), (29, .iconst 4, 1), (30, .multianewarray 25 2, 4), (34, .putfield 27, 3), (37, .aload_n 0, 1), (38, .bipush 16, 2), (40, .newarray .int, 2), (42, .putfield 30, 3), (45, .aload_n 0, 1), (46, .iconst 4, 1), (47, .bipush 8, 2), (49, .multianewarray 25 2, 4), (53, .putfield 34, 3), (56, .aload_n 0, 1), (57, .iconst 4, 1), (58, .newarray .int, 2), (60, .putfield 37, 3), (63, .aload_n 0, 1), (64, .iconst 4, 1), (65, .newarray .int, 2), (67, .dup, 1), (68, .iconst 0, 1), (69, .iconst (-1), 1), (70, .iastore, 1), (71, .dup, 1), (72, .iconst 1, 1), (73, .iconst (-1), 1), (74, .iastore, 1), (75, .dup, 1), (76, .iconst 2, 1), (77, .iconst (-1), 1), (78, .iastore, 1), (79, .dup, 1), (80, .iconst 3, 1), (81, .iconst (-1), 1), (82, .iastore, 1), (83, .putfield 40, 3), (86, .aload_n 0, 1), (87, .bipush 60, 2), (89, .newarray .int, 2), (91, .putfield 43, 3), (94, .aload_n 0, 1), (95, .bipush 40, 2), (97, .newarray .int, 2), (99, .putfield 46, 3), (102, .aload_n 0, 1), (103, .iload_n 1, 1), (104, .putfield 49, 3), (107, .return_, 1)]
theorem dk_Works_init (i : Nat) {pc : Nat} {ins : Instr} {len : Nat} (h : dt_Works_init[i]? = some (pc, ins, len)) : decode m_Works_init.2.1 pc = .ok (ins, len) := p_dk (b := m_Works_init.2.1) (t := dt_Works_init) (by decide +kernel) i h
def F_Works_init (v0 : Nat) (v1 : Int) (s0 : p_Hp) : Option p_Hp :=
  p_gd (1 ≤ v0) <|
  p_bi (p_nw s0 7 10) fun s2 =>
  p_bv (F_State_init (p_N s0 + 1) s2) fun s4 =>
  p_gd (p_is s4 v0 9) <|
  p_bi (p_wR s4 v0 1 (p_N s0 + 1)) fun s9 =>
  p_bi (p_nw s9 6 9) fun s11 =>
  p_bv (F_Rules_init (p_N s9 + 1) s11) fun s13 =>
  p_bi (p_wR s13 v0 3 (p_N s9 + 1)) fun s17 =>
  p_bi (p_nw2 s17 (16 : Int).toNat (4 : Int).toNat) fun s19 =>
  p_bi (p_wR s19 v0 4 (p_N s17 + 1)) fun s21 =>
  p_bi (p_nw s21 100 16) fun s23 =>
  p_bi (p_wR s23 v0 5 (p_N s21 + 1)) fun s25 =>
  p_bi (p_nw2 s25 (4 : Int).toNat (8 : Int).toNat) fun s27 =>
  p_bi (p_wR s27 v0 7 (p_N s25 + 1)) fun s29 =>
  p_bi (p_nw s29 100 4) fun s31 =>
  p_bi (p_wR s31 v0 8 (p_N s29 + 1)) fun s33 =>
  p_bi (p_nw s33 100 4) fun s35 =>
  p_gd (p_is s35 (p_N s33 + 1) 100) <|
  p_gd ((0 : Int) ≤ 0 ∧ 0 < (p_L s35 (p_N s33 + 1) : Int)) <|
  p_bi (p_wZ s35 (p_N s33 + 1) (0 : Int).toNat (-1)) fun s39 =>
  p_gd ((0 : Int) ≤ 1 ∧ 1 < (p_L s39 (p_N s33 + 1) : Int)) <|
  p_bi (p_wZ s39 (p_N s33 + 1) (1 : Int).toNat (-1)) fun s42 =>
  p_gd ((0 : Int) ≤ 2 ∧ 2 < (p_L s42 (p_N s33 + 1) : Int)) <|
  p_bi (p_wZ s42 (p_N s33 + 1) (2 : Int).toNat (-1)) fun s45 =>
  p_gd ((0 : Int) ≤ 3 ∧ 3 < (p_L s45 (p_N s33 + 1) : Int)) <|
  p_bi (p_wZ s45 (p_N s33 + 1) (3 : Int).toNat (-1)) fun s48 =>
  p_bi (p_wR s48 v0 9 (p_N s33 + 1)) fun s50 =>
  p_bi (p_nw s50 100 60) fun s52 =>
  p_bi (p_wR s52 v0 10 (p_N s50 + 1)) fun s54 =>
  p_bi (p_nw s54 100 40) fun s56 =>
  p_bi (p_wR s56 v0 14 (p_N s54 + 1)) fun s58 =>
  p_bi (p_wZ s58 v0 0 v1) fun s60 =>
  some s60
set_option maxRecDepth 100000 in
set_option maxHeartbeats 4000000 in
theorem tF_Works_init (K : p_K) (l : Launch) (v0 : Nat) (v1 : Int) (s0 : p_Hp) (r : p_Hp) (h : F_Works_init v0 v1 s0 = some r) : p_Ct K l m_Works_init [p_r v0, p_i v1] s0 (none, r) := by
  refine p_Ct.of (by decide +kernel) (Nat.le_of_ble_eq_true rfl) ?_
  unfold F_Works_init at h
  show p_Go K l m_Works_init 0 [(0, p_r v0), (1, p_i v1)] [] s0 _
  refine g_aload_n (i := 0) (j := 0) (dk_Works_init 0 rfl) rfl rfl ?_
  obtain ⟨c1, h⟩ := p_gdE h
  refine g_objInit tw_1_31 tw_1_23 tw_objInit (dk_Works_init 1 rfl) (Nat.le_of_ble_eq_true rfl) (Nat.le_of_ble_eq_true rfl) c1 ?_
  refine g_aload_n (i := 0) (j := 0) (dk_Works_init 2 rfl) rfl rfl ?_
  refine g_new cl_7 tw_1_32 (dk_Works_init 3 rfl) ?_
  refine p_ltS (P := fun q => p_Go K l m_Works_init 8 [(0, p_r v0), (1, p_i v1)] [p_r (p_N s0 + 1), p_r v0] q _) (p_x_nw _ _ _) ?_ h
  intro s2 hs3 h
  refine g_dup (dk_Works_init 4 rfl) rfl ?_
  obtain ⟨s4, q5, h⟩ := p_bvE h
  have t6 := tF_State_init K l (p_N s0 + 1) s2 _ q5
  refine g_callI (a := (p_N s0 + 1)) (As := []) (rest := [p_r (p_N s0 + 1), p_r v0]) [p_r (p_N s0 + 1), p_r v0] mt_State_init tw_1_35 tw_1_34 rfl rfl ⟨Nat.le_of_ble_eq_true rfl, Nat.le_of_ble_eq_true rfl⟩ rfl (Nat.le_of_ble_eq_true rfl) (dk_Works_init 5 rfl) rfl (Nat.le_add_left _ _) rfl t6 ?_
  have hs7 : p_x s2 s4 := t6.1
  show p_Go K l m_Works_init 12 [(0, p_r v0), (1, p_i v1)] [p_r (p_N s0 + 1), p_r v0] s4 _
  obtain ⟨c8, h⟩ := p_gdE h
  refine g_putR fl_Works_12 (Or.inl ⟨_, rfl⟩) (Or.inr ⟨rfl, rfl⟩) (dk_Works_init 6 rfl) c8 ?_
  refine p_ltS (P := fun q => p_Go K l m_Works_init 15 [(0, p_r v0), (1, p_i v1)] [] q _) (p_xR _ _ _ _) ?_ h
  intro s9 hs10 h
  refine g_aload_n (i := 0) (j := 0) (dk_Works_init 7 rfl) rfl rfl ?_
  refine g_new cl_6 tw_2_60 (dk_Works_init 8 rfl) ?_
  refine p_ltS (P := fun q => p_Go K l m_Works_init 19 [(0, p_r v0), (1, p_i v1)] [p_r (p_N s9 + 1), p_r v0] q _) (p_x_nw _ _ _) ?_ h
  intro s11 hs12 h
  refine g_dup (dk_Works_init 9 rfl) rfl ?_
  obtain ⟨s13, q14, h⟩ := p_bvE h
  have t15 := tF_Rules_init K l (p_N s9 + 1) s11 _ q14
  refine g_callIN (a := (p_N s9 + 1)) (As := []) (rest := [p_r (p_N s9 + 1), p_r v0]) (host := "SortWorks") [p_r (p_N s9 + 1), p_r v0] mt_Rules_init tw_2_63 (by decide) rfl rfl ⟨Nat.le_of_ble_eq_true rfl, Nat.le_of_ble_eq_true rfl⟩ rfl (Nat.le_of_ble_eq_true rfl) (dk_Works_init 10 rfl) rfl (Nat.le_add_left _ _) rfl t15 ?_
  have hs16 : p_x s11 s13 := t15.1
  show p_Go K l m_Works_init 23 [(0, p_r v0), (1, p_i v1)] [p_r (p_N s9 + 1), p_r v0] s13 _
  refine g_putR fl_Works_21 (Or.inl ⟨_, rfl⟩) (Or.inr ⟨rfl, rfl⟩) (dk_Works_init 11 rfl) (c8.up (hs10.trans (hs12.trans hs16))) ?_
  refine p_ltS (P := fun q => p_Go K l m_Works_init 26 [(0, p_r v0), (1, p_i v1)] [] q _) (p_xR _ _ _ _) ?_ h
  intro s17 hs18 h
  refine g_aload_n (i := 0) (j := 0) (dk_Works_init 12 rfl) rfl rfl ?_
  refine g_bipush (dk_Works_init 13 rfl) (by decide +kernel) (by decide) ?_
  refine g_iconst (dk_Works_init 14 rfl) (by decide) ?_
  refine g_multi tw_2_115 tw_1_69 (dk_Works_init 15 rfl) (by decide) (by decide) (by decide) (by decide) ?_
  refine p_ltS (P := fun q => p_Go K l m_Works_init 34 [(0, p_r v0), (1, p_i v1)] [p_r (p_N s17 + 1), p_r v0] q _) (p_x_nw2 _ _ _) ?_ h
  intro s19 hs20 h
  refine g_putR fl_Works_27 (Or.inr ⟨_, rfl⟩) (Or.inr ⟨rfl, rfl⟩) (dk_Works_init 16 rfl) (c8.up (hs10.trans (hs12.trans (hs16.trans (hs18.trans hs20))))) ?_
  refine p_ltS (P := fun q => p_Go K l m_Works_init 37 [(0, p_r v0), (1, p_i v1)] [] q _) (p_xR _ _ _ _) ?_ h
  intro s21 hs22 h
  refine g_aload_n (i := 0) (j := 0) (dk_Works_init 17 rfl) rfl rfl ?_
  refine g_bipush (dk_Works_init 18 rfl) (by decide +kernel) (by decide) ?_
  refine g_newarray (i := 0) (t := 100) (n := 16) rfl (by decide +kernel) rfl rfl tw_1_69 (dk_Works_init 19 rfl) (by decide) (by decide) ?_
  refine p_ltS (P := fun q => p_Go K l m_Works_init 42 [(0, p_r v0), (1, p_i v1)] [p_r (p_N s21 + 1), p_r v0] q _) (p_x_nw _ _ _) ?_ h
  intro s23 hs24 h
  refine g_putR fl_Works_30 (Or.inr ⟨_, rfl⟩) (Or.inr ⟨rfl, rfl⟩) (dk_Works_init 20 rfl) (c8.up (hs10.trans (hs12.trans (hs16.trans (hs18.trans (hs20.trans (hs22.trans hs24))))))) ?_
  refine p_ltS (P := fun q => p_Go K l m_Works_init 45 [(0, p_r v0), (1, p_i v1)] [] q _) (p_xR _ _ _ _) ?_ h
  intro s25 hs26 h
  refine g_aload_n (i := 0) (j := 0) (dk_Works_init 21 rfl) rfl rfl ?_
  refine g_iconst (dk_Works_init 22 rfl) (by decide) ?_
  refine g_bipush (dk_Works_init 23 rfl) (by decide +kernel) (by decide) ?_
  refine g_multi tw_2_115 tw_1_69 (dk_Works_init 24 rfl) (by decide) (by decide) (by decide) (by decide) ?_
  refine p_ltS (P := fun q => p_Go K l m_Works_init 53 [(0, p_r v0), (1, p_i v1)] [p_r (p_N s25 + 1), p_r v0] q _) (p_x_nw2 _ _ _) ?_ h
  intro s27 hs28 h
  refine g_putR fl_Works_34 (Or.inr ⟨_, rfl⟩) (Or.inr ⟨rfl, rfl⟩) (dk_Works_init 25 rfl) (c8.up (hs10.trans (hs12.trans (hs16.trans (hs18.trans (hs20.trans (hs22.trans (hs24.trans (hs26.trans hs28))))))))) ?_
  refine p_ltS (P := fun q => p_Go K l m_Works_init 56 [(0, p_r v0), (1, p_i v1)] [] q _) (p_xR _ _ _ _) ?_ h
  intro s29 hs30 h
  refine g_aload_n (i := 0) (j := 0) (dk_Works_init 26 rfl) rfl rfl ?_
  refine g_iconst (dk_Works_init 27 rfl) (by decide) ?_
  refine g_newarray (i := 0) (t := 100) (n := 4) rfl (by decide +kernel) rfl rfl tw_1_69 (dk_Works_init 28 rfl) (by decide) (by decide) ?_
  refine p_ltS (P := fun q => p_Go K l m_Works_init 60 [(0, p_r v0), (1, p_i v1)] [p_r (p_N s29 + 1), p_r v0] q _) (p_x_nw _ _ _) ?_ h
  intro s31 hs32 h
  refine g_putR fl_Works_37 (Or.inr ⟨_, rfl⟩) (Or.inr ⟨rfl, rfl⟩) (dk_Works_init 29 rfl) (c8.up (hs10.trans (hs12.trans (hs16.trans (hs18.trans (hs20.trans (hs22.trans (hs24.trans (hs26.trans (hs28.trans (hs30.trans hs32))))))))))) ?_
  refine p_ltS (P := fun q => p_Go K l m_Works_init 63 [(0, p_r v0), (1, p_i v1)] [] q _) (p_xR _ _ _ _) ?_ h
  intro s33 hs34 h
  refine g_aload_n (i := 0) (j := 0) (dk_Works_init 30 rfl) rfl rfl ?_
  refine g_iconst (dk_Works_init 31 rfl) (by decide) ?_
  refine g_newarray (i := 0) (t := 100) (n := 4) rfl (by decide +kernel) rfl rfl tw_1_69 (dk_Works_init 32 rfl) (by decide) (by decide) ?_
  refine p_ltS (P := fun q => p_Go K l m_Works_init 67 [(0, p_r v0), (1, p_i v1)] [p_r (p_N s33 + 1), p_r v0] q _) (p_x_nw _ _ _) ?_ h
  intro s35 hs36 h
  refine g_dup (dk_Works_init 33 rfl) rfl ?_
  refine g_iconst (dk_Works_init 34 rfl) (by decide) ?_
  refine g_iconst (dk_Works_init 35 rfl) (by decide) ?_
  obtain ⟨c37, h⟩ := p_gdE h
  obtain ⟨c38, h⟩ := p_gdE h
  refine g_iastore (dk_Works_init 36 rfl) c37 c38.1 c38.2 ?_
  refine p_ltS (P := fun q => p_Go K l m_Works_init 71 [(0, p_r v0), (1, p_i v1)] [p_r (p_N s33 + 1), p_r v0] q _) (p_xZ _ _ _ _) ?_ h
  intro s39 hs40 h
  refine g_dup (dk_Works_init 37 rfl) rfl ?_
  refine g_iconst (dk_Works_init 38 rfl) (by decide) ?_
  refine g_iconst (dk_Works_init 39 rfl) (by decide) ?_
  obtain ⟨c41, h⟩ := p_gdE h
  refine g_iastore (dk_Works_init 40 rfl) (c37.up hs40) c41.1 c41.2 ?_
  refine p_ltS (P := fun q => p_Go K l m_Works_init 75 [(0, p_r v0), (1, p_i v1)] [p_r (p_N s33 + 1), p_r v0] q _) (p_xZ _ _ _ _) ?_ h
  intro s42 hs43 h
  refine g_dup (dk_Works_init 41 rfl) rfl ?_
  refine g_iconst (dk_Works_init 42 rfl) (by decide) ?_
  refine g_iconst (dk_Works_init 43 rfl) (by decide) ?_
  obtain ⟨c44, h⟩ := p_gdE h
  refine g_iastore (dk_Works_init 44 rfl) (c37.up (hs40.trans hs43)) c44.1 c44.2 ?_
  refine p_ltS (P := fun q => p_Go K l m_Works_init 79 [(0, p_r v0), (1, p_i v1)] [p_r (p_N s33 + 1), p_r v0] q _) (p_xZ _ _ _ _) ?_ h
  intro s45 hs46 h
  refine g_dup (dk_Works_init 45 rfl) rfl ?_
  refine g_iconst (dk_Works_init 46 rfl) (by decide) ?_
  refine g_iconst (dk_Works_init 47 rfl) (by decide) ?_
  obtain ⟨c47, h⟩ := p_gdE h
  refine g_iastore (dk_Works_init 48 rfl) (c37.up (hs40.trans (hs43.trans hs46))) c47.1 c47.2 ?_
  refine p_ltS (P := fun q => p_Go K l m_Works_init 83 [(0, p_r v0), (1, p_i v1)] [p_r (p_N s33 + 1), p_r v0] q _) (p_xZ _ _ _ _) ?_ h
  intro s48 hs49 h
  refine g_putR fl_Works_40 (Or.inr ⟨_, rfl⟩) (Or.inr ⟨rfl, rfl⟩) (dk_Works_init 49 rfl) (c8.up (hs10.trans (hs12.trans (hs16.trans (hs18.trans (hs20.trans (hs22.trans (hs24.trans (hs26.trans (hs28.trans (hs30.trans (hs32.trans (hs34.trans (hs36.trans (hs40.trans (hs43.trans (hs46.trans hs49))))))))))))))))) ?_
  refine p_ltS (P := fun q => p_Go K l m_Works_init 86 [(0, p_r v0), (1, p_i v1)] [] q _) (p_xR _ _ _ _) ?_ h
  intro s50 hs51 h
  refine g_aload_n (i := 0) (j := 0) (dk_Works_init 50 rfl) rfl rfl ?_
  refine g_bipush (dk_Works_init 51 rfl) (by decide +kernel) (by decide) ?_
  refine g_newarray (i := 0) (t := 100) (n := 60) rfl (by decide +kernel) rfl rfl tw_1_69 (dk_Works_init 52 rfl) (by decide) (by decide) ?_
  refine p_ltS (P := fun q => p_Go K l m_Works_init 91 [(0, p_r v0), (1, p_i v1)] [p_r (p_N s50 + 1), p_r v0] q _) (p_x_nw _ _ _) ?_ h
  intro s52 hs53 h
  refine g_putR fl_Works_43 (Or.inr ⟨_, rfl⟩) (Or.inr ⟨rfl, rfl⟩) (dk_Works_init 53 rfl) (c8.up (hs10.trans (hs12.trans (hs16.trans (hs18.trans (hs20.trans (hs22.trans (hs24.trans (hs26.trans (hs28.trans (hs30.trans (hs32.trans (hs34.trans (hs36.trans (hs40.trans (hs43.trans (hs46.trans (hs49.trans (hs51.trans hs53))))))))))))))))))) ?_
  refine p_ltS (P := fun q => p_Go K l m_Works_init 94 [(0, p_r v0), (1, p_i v1)] [] q _) (p_xR _ _ _ _) ?_ h
  intro s54 hs55 h
  refine g_aload_n (i := 0) (j := 0) (dk_Works_init 54 rfl) rfl rfl ?_
  refine g_bipush (dk_Works_init 55 rfl) (by decide +kernel) (by decide) ?_
  refine g_newarray (i := 0) (t := 100) (n := 40) rfl (by decide +kernel) rfl rfl tw_1_69 (dk_Works_init 56 rfl) (by decide) (by decide) ?_
  refine p_ltS (P := fun q => p_Go K l m_Works_init 99 [(0, p_r v0), (1, p_i v1)] [p_r (p_N s54 + 1), p_r v0] q _) (p_x_nw _ _ _) ?_ h
  intro s56 hs57 h
  refine g_putR fl_Works_46 (Or.inr ⟨_, rfl⟩) (Or.inr ⟨rfl, rfl⟩) (dk_Works_init 57 rfl) (c8.up (hs10.trans (hs12.trans (hs16.trans (hs18.trans (hs20.trans (hs22.trans (hs24.trans (hs26.trans (hs28.trans (hs30.trans (hs32.trans (hs34.trans (hs36.trans (hs40.trans (hs43.trans (hs46.trans (hs49.trans (hs51.trans (hs53.trans (hs55.trans hs57))))))))))))))))))))) ?_
  refine p_ltS (P := fun q => p_Go K l m_Works_init 102 [(0, p_r v0), (1, p_i v1)] [] q _) (p_xR _ _ _ _) ?_ h
  intro s58 hs59 h
  refine g_aload_n (i := 0) (j := 0) (dk_Works_init 58 rfl) rfl rfl ?_
  refine g_iload_n (i := 1) (j := 1) (dk_Works_init 59 rfl) rfl rfl ?_
  refine g_putI fl_Works_49 (Or.inr ⟨rfl, rfl⟩) (dk_Works_init 60 rfl) (c8.up (hs10.trans (hs12.trans (hs16.trans (hs18.trans (hs20.trans (hs22.trans (hs24.trans (hs26.trans (hs28.trans (hs30.trans (hs32.trans (hs34.trans (hs36.trans (hs40.trans (hs43.trans (hs46.trans (hs49.trans (hs51.trans (hs53.trans (hs55.trans (hs57.trans hs59)))))))))))))))))))))) ?_
  refine p_ltS (P := fun q => p_Go K l m_Works_init 107 [(0, p_r v0), (1, p_i v1)] [] q _) (p_xZ _ _ _ _) ?_ h
  intro s60 hs61 h
  cases h
  exact g_ret rfl rfl (dk_Works_init 61 rfl) (fun _ => rfl)
def m_SW_init : p_Me := (⟨"SortWorks", "<init>", "()V"⟩, prog_1_method_1_code, 1, none, 4, 84)
theorem mt_SW_init : p_Mt m_SW_init 0 := ⟨p_mem (p_tb1 (List.mem_of_getElem? (i := 21) rfl)) rfl, tw_1_1, by decide +kernel, by decide +kernel, by decide +kernel⟩
def dt_SW_init : List (Nat × Instr × Nat) := [(0, .aload_n 0, 1), (1, .invokespecial 1, 3), (4, .aload_n 0, 1), (5, .iconst 3, 1), (6, .anewarray 7, 3), (9, .dup, 1), (10, .iconst 0, 1), (11, .new 7, 3), (14, .dup, 1), (15, .iconst 0, 1), (16, .invokespecial 9, 3), (19, .aastore, 1), (20, .dup, 1), (21, .iconst 1, 1), (22, .new 7, 3), (25, .dup, 1), (26, .iconst 1, 1), (27, .invokespecial 9, 3), (30, .aastore, 1), (31, .dup, 1), (32, .iconst 2, 1), (33, .new 7, 3), (36, .dup, 1), (37, .iconst 2, 1), (38, .invokespecial 9, 3), (41, .aastore, 1), (42, .putfield 12, 3), (45, .aload_n 0, 1), (46, .aload_n 0, 1), (47, .getfield 12, 3), (50, .iconst 0, 1), (51, .aaload, 1), (52, .putfield 18, 3), (55, .aload_n 0, 1), (56, .new 22, 3), (59, .dup, 1), (60, .invokespecial 24, 3), (63, .putfield 25, 3), (66, .aload_n 0, 1), (67, .new 29, 3), (70, .dup, 1), (71, .invokespecial 31, 3), (74, .putfield 32, 3), (77, .aload_n 0, 1), (78, .new 36, 3), (81, .dup, 1), (82, .invokespecial 38, 3), (85, .putfield 39, 3), (88, .aload_n 0, 1), (89, .sipush 200, 3), (92, .newarray .int, 2), (94, .putfield 43, 3), (97, .return_, 1)]
theorem dk_SW_init (i : Nat) {pc : Nat} {ins : Instr} {len : Nat} (h : dt_SW_init[i]? = some (pc, ins, len)) : decode m_SW_init.2.1 pc = .ok (ins, len) := p_dk (b := m_SW_init.2.1) (t := dt_SW_init) (by decide +kernel) i h
def F_SW_init (v0 : Nat) (s0 : p_Hp) : Option p_Hp :=
  p_gd (1 ≤ v0) <|
  p_bi (p_nw s0 104 3) fun s2 =>
  p_bi (p_nw s2 9 15) fun s4 =>
  p_bv (F_Works_init (p_N s2 + 1) 0 s4) fun s6 =>
  p_gd (p_is s6 (p_N s0 + 1) 104) <|
  p_gd (p_is s6 (p_N s2 + 1) 9) <|
  p_gd ((0 : Int) ≤ 0 ∧ 0 < (p_L s6 (p_N s0 + 1) : Int)) <|
  p_bi (p_wR s6 (p_N s0 + 1) (0 : Int).toNat (p_N s2 + 1)) fun s13 =>
  p_bi (p_nw s13 9 15) fun s15 =>
  p_bv (F_Works_init (p_N s13 + 1) 1 s15) fun s17 =>
  p_gd (p_is s17 (p_N s13 + 1) 9) <|
  p_gd ((0 : Int) ≤ 1 ∧ 1 < (p_L s17 (p_N s0 + 1) : Int)) <|
  p_bi (p_wR s17 (p_N s0 + 1) (1 : Int).toNat (p_N s13 + 1)) fun s23 =>
  p_bi (p_nw s23 9 15) fun s25 =>
  p_bv (F_Works_init (p_N s23 + 1) 2 s25) fun s27 =>
  p_gd (p_is s27 (p_N s23 + 1) 9) <|
  p_gd ((0 : Int) ≤ 2 ∧ 2 < (p_L s27 (p_N s0 + 1) : Int)) <|
  p_bi (p_wR s27 (p_N s0 + 1) (2 : Int).toNat (p_N s23 + 1)) fun s33 =>
  p_gd (p_is s33 v0 10) <|
  p_bi (p_wR s33 v0 0 (p_N s0 + 1)) fun s36 =>
  p_gd (p_is s36 (p_R s36 v0 0) 104) <|
  p_gd ((0 : Int) ≤ 0 ∧ 0 < (p_L s36 (p_R s36 v0 0) : Int)) <|
  p_bi (p_wR s36 v0 1 (p_R s36 (p_R s36 v0 0) (0 : Int).toNat)) fun s40 =>
  p_bi (p_nw s40 3 2) fun s42 =>
  p_bv (F_Numbers_init (p_N s40 + 1) s42) fun s44 =>
  p_bi (p_wR s44 v0 2 (p_N s40 + 1)) fun s48 =>
  p_bi (p_nw s48 8 5) fun s50 =>
  p_bv (F_Step_init (p_N s48 + 1) s50) fun s52 =>
  p_bi (p_wR s52 v0 3 (p_N s48 + 1)) fun s56 =>
  p_bi (p_nw s56 1 4) fun s58 =>
  p_bv (F_Judge_init (p_N s56 + 1) s58) fun s60 =>
  p_bi (p_wR s60 v0 4 (p_N s56 + 1)) fun s64 =>
  p_bi (p_nw s64 100 200) fun s66 =>
  p_bi (p_wR s66 v0 5 (p_N s64 + 1)) fun s68 =>
  some s68
set_option maxRecDepth 100000 in
set_option maxHeartbeats 4000000 in
theorem tF_SW_init (K : p_K) (l : Launch) (v0 : Nat) (s0 : p_Hp) (r : p_Hp) (h : F_SW_init v0 s0 = some r) : p_Ct K l m_SW_init [p_r v0] s0 (none, r) := by
  refine p_Ct.of (by decide +kernel) (Nat.le_of_ble_eq_true rfl) ?_
  unfold F_SW_init at h
  show p_Go K l m_SW_init 0 [(0, p_r v0)] [] s0 _
  refine g_aload_n (i := 0) (j := 0) (dk_SW_init 0 rfl) rfl rfl ?_
  obtain ⟨c1, h⟩ := p_gdE h
  refine g_objInit tw_1_22 tw_1_23 tw_objInit (dk_SW_init 1 rfl) (Nat.le_of_ble_eq_true rfl) (Nat.le_of_ble_eq_true rfl) c1 ?_
  refine g_aload_n (i := 0) (j := 0) (dk_SW_init 2 rfl) rfl rfl ?_
  refine g_iconst (dk_SW_init 3 rfl) (by decide) ?_
  refine g_anewarray (i := 4) (t := 104) (n := 3) rfl (by decide +kernel) rfl (by decide) tw_1_25 (dk_SW_init 4 rfl) (by decide) (by decide) ?_
  refine p_ltS (P := fun q => p_Go K l m_SW_init 9 [(0, p_r v0)] [p_r (p_N s0 + 1), p_r v0] q _) (p_x_nw _ _ _) ?_ h
  intro s2 hs3 h
  refine g_dup (dk_SW_init 5 rfl) rfl ?_
  refine g_iconst (dk_SW_init 6 rfl) (by decide) ?_
  refine g_new cl_9 tw_1_25 (dk_SW_init 7 rfl) ?_
  refine p_ltS (P := fun q => p_Go K l m_SW_init 14 [(0, p_r v0)] [p_r (p_N s2 + 1), p_i 0, p_r (p_N s0 + 1), p_r (p_N s0 + 1), p_r v0] q _) (p_x_nw _ _ _) ?_ h
  intro s4 hs5 h
  refine g_dup (dk_SW_init 8 rfl) rfl ?_
  refine g_iconst (dk_SW_init 9 rfl) (by decide) ?_
  obtain ⟨s6, q7, h⟩ := p_bvE h
  have t8 := tF_Works_init K l (p_N s2 + 1) 0 s4 _ q7
  refine g_callI (a := (p_N s2 + 1)) (As := [p_i 0]) (rest := [p_r (p_N s2 + 1), p_i 0, p_r (p_N s0 + 1), p_r (p_N s0 + 1), p_r v0]) [p_r (p_N s2 + 1), p_i 0, p_r (p_N s0 + 1), p_r (p_N s0 + 1), p_r v0] mt_Works_init tw_1_29 tw_1_28 rfl rfl ⟨Nat.le_of_ble_eq_true rfl, Nat.le_of_ble_eq_true rfl⟩ rfl (Nat.le_of_ble_eq_true rfl) (dk_SW_init 10 rfl) rfl (Nat.le_add_left _ _) rfl t8 ?_
  have hs9 : p_x s4 s6 := t8.1
  show p_Go K l m_SW_init 19 [(0, p_r v0)] [p_r (p_N s2 + 1), p_i 0, p_r (p_N s0 + 1), p_r (p_N s0 + 1), p_r v0] s6 _
  obtain ⟨c10, h⟩ := p_gdE h
  obtain ⟨c11, h⟩ := p_gdE h
  obtain ⟨c12, h⟩ := p_gdE h
  refine g_aastore (i := 4) (ci := 9) (q := (RX9, TX9, 15)) rfl rfl (dk_SW_init 11 rfl) c10 c11 c12.1 c12.2 ?_
  refine p_ltS (P := fun q => p_Go K l m_SW_init 20 [(0, p_r v0)] [p_r (p_N s0 + 1), p_r v0] q _) (p_xR _ _ _ _) ?_ h
  intro s13 hs14 h
  refine g_dup (dk_SW_init 12 rfl) rfl ?_
  refine g_iconst (dk_SW_init 13 rfl) (by decide) ?_
  refine g_new cl_9 tw_1_25 (dk_SW_init 14 rfl) ?_
  refine p_ltS (P := fun q => p_Go K l m_SW_init 25 [(0, p_r v0)] [p_r (p_N s13 + 1), p_i 1, p_r (p_N s0 + 1), p_r (p_N s0 + 1), p_r v0] q _) (p_x_nw _ _ _) ?_ h
  intro s15 hs16 h
  refine g_dup (dk_SW_init 15 rfl) rfl ?_
  refine g_iconst (dk_SW_init 16 rfl) (by decide) ?_
  obtain ⟨s17, q18, h⟩ := p_bvE h
  have t19 := tF_Works_init K l (p_N s13 + 1) 1 s15 _ q18
  refine g_callI (a := (p_N s13 + 1)) (As := [p_i 1]) (rest := [p_r (p_N s13 + 1), p_i 1, p_r (p_N s0 + 1), p_r (p_N s0 + 1), p_r v0]) [p_r (p_N s13 + 1), p_i 1, p_r (p_N s0 + 1), p_r (p_N s0 + 1), p_r v0] mt_Works_init tw_1_29 tw_1_28 rfl rfl ⟨Nat.le_of_ble_eq_true rfl, Nat.le_of_ble_eq_true rfl⟩ rfl (Nat.le_of_ble_eq_true rfl) (dk_SW_init 17 rfl) rfl (Nat.le_add_left _ _) rfl t19 ?_
  have hs20 : p_x s15 s17 := t19.1
  show p_Go K l m_SW_init 30 [(0, p_r v0)] [p_r (p_N s13 + 1), p_i 1, p_r (p_N s0 + 1), p_r (p_N s0 + 1), p_r v0] s17 _
  obtain ⟨c21, h⟩ := p_gdE h
  obtain ⟨c22, h⟩ := p_gdE h
  refine g_aastore (i := 4) (ci := 9) (q := (RX9, TX9, 15)) rfl rfl (dk_SW_init 18 rfl) (c10.up (hs14.trans (hs16.trans hs20))) c21 c22.1 c22.2 ?_
  refine p_ltS (P := fun q => p_Go K l m_SW_init 31 [(0, p_r v0)] [p_r (p_N s0 + 1), p_r v0] q _) (p_xR _ _ _ _) ?_ h
  intro s23 hs24 h
  refine g_dup (dk_SW_init 19 rfl) rfl ?_
  refine g_iconst (dk_SW_init 20 rfl) (by decide) ?_
  refine g_new cl_9 tw_1_25 (dk_SW_init 21 rfl) ?_
  refine p_ltS (P := fun q => p_Go K l m_SW_init 36 [(0, p_r v0)] [p_r (p_N s23 + 1), p_i 2, p_r (p_N s0 + 1), p_r (p_N s0 + 1), p_r v0] q _) (p_x_nw _ _ _) ?_ h
  intro s25 hs26 h
  refine g_dup (dk_SW_init 22 rfl) rfl ?_
  refine g_iconst (dk_SW_init 23 rfl) (by decide) ?_
  obtain ⟨s27, q28, h⟩ := p_bvE h
  have t29 := tF_Works_init K l (p_N s23 + 1) 2 s25 _ q28
  refine g_callI (a := (p_N s23 + 1)) (As := [p_i 2]) (rest := [p_r (p_N s23 + 1), p_i 2, p_r (p_N s0 + 1), p_r (p_N s0 + 1), p_r v0]) [p_r (p_N s23 + 1), p_i 2, p_r (p_N s0 + 1), p_r (p_N s0 + 1), p_r v0] mt_Works_init tw_1_29 tw_1_28 rfl rfl ⟨Nat.le_of_ble_eq_true rfl, Nat.le_of_ble_eq_true rfl⟩ rfl (Nat.le_of_ble_eq_true rfl) (dk_SW_init 24 rfl) rfl (Nat.le_add_left _ _) rfl t29 ?_
  have hs30 : p_x s25 s27 := t29.1
  show p_Go K l m_SW_init 41 [(0, p_r v0)] [p_r (p_N s23 + 1), p_i 2, p_r (p_N s0 + 1), p_r (p_N s0 + 1), p_r v0] s27 _
  obtain ⟨c31, h⟩ := p_gdE h
  obtain ⟨c32, h⟩ := p_gdE h
  refine g_aastore (i := 4) (ci := 9) (q := (RX9, TX9, 15)) rfl rfl (dk_SW_init 25 rfl) (c10.up (hs14.trans (hs16.trans (hs20.trans (hs24.trans (hs26.trans hs30)))))) c31 c32.1 c32.2 ?_
  refine p_ltS (P := fun q => p_Go K l m_SW_init 42 [(0, p_r v0)] [p_r (p_N s0 + 1), p_r v0] q _) (p_xR _ _ _ _) ?_ h
  intro s33 hs34 h
  obtain ⟨c35, h⟩ := p_gdE h
  refine g_putR fl_SW_12 (Or.inr ⟨_, rfl⟩) (Or.inr ⟨rfl, rfl⟩) (dk_SW_init 26 rfl) c35 ?_
  refine p_ltS (P := fun q => p_Go K l m_SW_init 45 [(0, p_r v0)] [] q _) (p_xR _ _ _ _) ?_ h
  intro s36 hs37 h
  refine g_aload_n (i := 0) (j := 0) (dk_SW_init 27 rfl) rfl rfl ?_
  refine g_aload_n (i := 0) (j := 0) (dk_SW_init 28 rfl) rfl rfl ?_
  refine g_getR fl_SW_12 (Or.inr ⟨_, rfl⟩) (dk_SW_init 29 rfl) (c35.up hs37) ?_
  refine g_iconst (dk_SW_init 30 rfl) (by decide) ?_
  obtain ⟨c38, h⟩ := p_gdE h
  obtain ⟨c39, h⟩ := p_gdE h
  refine g_aaload (i := 4) rfl (Or.inl ⟨_, rfl⟩) (dk_SW_init 31 rfl) c38 c39.1 c39.2 ?_
  refine g_putR fl_SW_18 (Or.inl ⟨_, rfl⟩) (Or.inl rfl) (dk_SW_init 32 rfl) (c35.up hs37) ?_
  refine p_ltS (P := fun q => p_Go K l m_SW_init 55 [(0, p_r v0)] [] q _) (p_xR _ _ _ _) ?_ h
  intro s40 hs41 h
  refine g_aload_n (i := 0) (j := 0) (dk_SW_init 33 rfl) rfl rfl ?_
  refine g_new cl_3 tw_2_186 (dk_SW_init 34 rfl) ?_
  refine p_ltS (P := fun q => p_Go K l m_SW_init 59 [(0, p_r v0)] [p_r (p_N s40 + 1), p_r v0] q _) (p_x_nw _ _ _) ?_ h
  intro s42 hs43 h
  refine g_dup (dk_SW_init 35 rfl) rfl ?_
  obtain ⟨s44, q45, h⟩ := p_bvE h
  have t46 := tF_Numbers_init K l (p_N s40 + 1) s42 _ q45
  refine g_callIN (a := (p_N s40 + 1)) (As := []) (rest := [p_r (p_N s40 + 1), p_r v0]) (host := "SortWorks") [p_r (p_N s40 + 1), p_r v0] mt_Numbers_init tw_2_189 (by decide) rfl rfl ⟨Nat.le_of_ble_eq_true rfl, Nat.le_of_ble_eq_true rfl⟩ rfl (Nat.le_of_ble_eq_true rfl) (dk_SW_init 36 rfl) rfl (Nat.le_add_left _ _) rfl t46 ?_
  have hs47 : p_x s42 s44 := t46.1
  show p_Go K l m_SW_init 63 [(0, p_r v0)] [p_r (p_N s40 + 1), p_r v0] s44 _
  refine g_putR fl_SW_25 (Or.inl ⟨_, rfl⟩) (Or.inr ⟨rfl, rfl⟩) (dk_SW_init 37 rfl) (c35.up (hs37.trans (hs41.trans (hs43.trans hs47)))) ?_
  refine p_ltS (P := fun q => p_Go K l m_SW_init 66 [(0, p_r v0)] [] q _) (p_xR _ _ _ _) ?_ h
  intro s48 hs49 h
  refine g_aload_n (i := 0) (j := 0) (dk_SW_init 38 rfl) rfl rfl ?_
  refine g_new cl_8 tw_2_202 (dk_SW_init 39 rfl) ?_
  refine p_ltS (P := fun q => p_Go K l m_SW_init 70 [(0, p_r v0)] [p_r (p_N s48 + 1), p_r v0] q _) (p_x_nw _ _ _) ?_ h
  intro s50 hs51 h
  refine g_dup (dk_SW_init 40 rfl) rfl ?_
  obtain ⟨s52, q53, h⟩ := p_bvE h
  have t54 := tF_Step_init K l (p_N s48 + 1) s50 _ q53
  refine g_callIN (a := (p_N s48 + 1)) (As := []) (rest := [p_r (p_N s48 + 1), p_r v0]) (host := "SortWorks") [p_r (p_N s48 + 1), p_r v0] mt_Step_init tw_2_205 (by decide) rfl rfl ⟨Nat.le_of_ble_eq_true rfl, Nat.le_of_ble_eq_true rfl⟩ rfl (Nat.le_of_ble_eq_true rfl) (dk_SW_init 41 rfl) rfl (Nat.le_add_left _ _) rfl t54 ?_
  have hs55 : p_x s50 s52 := t54.1
  show p_Go K l m_SW_init 74 [(0, p_r v0)] [p_r (p_N s48 + 1), p_r v0] s52 _
  refine g_putR fl_SW_32 (Or.inl ⟨_, rfl⟩) (Or.inr ⟨rfl, rfl⟩) (dk_SW_init 42 rfl) (c35.up (hs37.trans (hs41.trans (hs43.trans (hs47.trans (hs49.trans (hs51.trans hs55))))))) ?_
  refine p_ltS (P := fun q => p_Go K l m_SW_init 77 [(0, p_r v0)] [] q _) (p_xR _ _ _ _) ?_ h
  intro s56 hs57 h
  refine g_aload_n (i := 0) (j := 0) (dk_SW_init 43 rfl) rfl rfl ?_
  refine g_new cl_1 tw_3_10 (dk_SW_init 44 rfl) ?_
  refine p_ltS (P := fun q => p_Go K l m_SW_init 81 [(0, p_r v0)] [p_r (p_N s56 + 1), p_r v0] q _) (p_x_nw _ _ _) ?_ h
  intro s58 hs59 h
  refine g_dup (dk_SW_init 45 rfl) rfl ?_
  obtain ⟨s60, q61, h⟩ := p_bvE h
  have t62 := tF_Judge_init K l (p_N s56 + 1) s58 _ q61
  refine g_callIN (a := (p_N s56 + 1)) (As := []) (rest := [p_r (p_N s56 + 1), p_r v0]) (host := "SortWorks") [p_r (p_N s56 + 1), p_r v0] mt_Judge_init tw_3_13 (by decide) rfl rfl ⟨Nat.le_of_ble_eq_true rfl, Nat.le_of_ble_eq_true rfl⟩ rfl (Nat.le_of_ble_eq_true rfl) (dk_SW_init 46 rfl) rfl (Nat.le_add_left _ _) rfl t62 ?_
  have hs63 : p_x s58 s60 := t62.1
  show p_Go K l m_SW_init 85 [(0, p_r v0)] [p_r (p_N s56 + 1), p_r v0] s60 _
  refine g_putR fl_SW_39 (Or.inl ⟨_, rfl⟩) (Or.inr ⟨rfl, rfl⟩) (dk_SW_init 47 rfl) (c35.up (hs37.trans (hs41.trans (hs43.trans (hs47.trans (hs49.trans (hs51.trans (hs55.trans (hs57.trans (hs59.trans hs63)))))))))) ?_
  refine p_ltS (P := fun q => p_Go K l m_SW_init 88 [(0, p_r v0)] [] q _) (p_xR _ _ _ _) ?_ h
  intro s64 hs65 h
  refine g_aload_n (i := 0) (j := 0) (dk_SW_init 48 rfl) rfl rfl ?_
  refine g_sipush (dk_SW_init 49 rfl) (by decide +kernel) (by decide) ?_
  refine g_newarray (i := 0) (t := 100) (n := 200) rfl (by decide +kernel) rfl rfl tw_1_69 (dk_SW_init 50 rfl) (by decide) (by decide) ?_
  refine p_ltS (P := fun q => p_Go K l m_SW_init 94 [(0, p_r v0)] [p_r (p_N s64 + 1), p_r v0] q _) (p_x_nw _ _ _) ?_ h
  intro s66 hs67 h
  refine g_putR fl_SW_43 (Or.inr ⟨_, rfl⟩) (Or.inr ⟨rfl, rfl⟩) (dk_SW_init 51 rfl) (c35.up (hs37.trans (hs41.trans (hs43.trans (hs47.trans (hs49.trans (hs51.trans (hs55.trans (hs57.trans (hs59.trans (hs63.trans (hs65.trans hs67)))))))))))) ?_
  refine p_ltS (P := fun q => p_Go K l m_SW_init 97 [(0, p_r v0)] [] q _) (p_xR _ _ _ _) ?_ h
  intro s68 hs69 h
  cases h
  exact g_ret rfl rfl (dk_SW_init 52 rfl) (fun _ => rfl)
def m_SW_done : p_Me := (⟨"SortWorks", "done", "(I)I"⟩, prog_1_method_3_code, 2, (some .int), 0, 0)
theorem mt_SW_done : p_Mt m_SW_done 1 := ⟨p_mem (p_tb3 (List.mem_of_getElem? (i := 71) rfl)) rfl, tw_1_1, by decide +kernel, by decide +kernel, by decide +kernel⟩
def dt_SW_done : List (Nat × Instr × Nat) := [(0, .aload_n 0, 1), (1, .iconst 0, 1), (2, .putfield 51, 3), (5, .iload_n 1, 1), (6, .ireturn, 1)]
theorem dk_SW_done (i : Nat) {pc : Nat} {ins : Instr} {len : Nat} (h : dt_SW_done[i]? = some (pc, ins, len)) : decode m_SW_done.2.1 pc = .ok (ins, len) := p_dk (b := m_SW_done.2.1) (t := dt_SW_done) (by decide +kernel) i h
def F_SW_done (v0 : Nat) (v1 : Int) (s0 : p_Hp) : Option (Int × p_Hp) :=
  p_gd (p_is s0 v0 10) <|
  p_bi (p_wZ s0 v0 8 0) fun s2 =>
  some (v1, s2)
set_option maxRecDepth 100000 in
set_option maxHeartbeats 4000000 in
theorem tF_SW_done (K : p_K) (l : Launch) (v0 : Nat) (v1 : Int) (s0 : p_Hp) (r : (Int × p_Hp)) (h : F_SW_done v0 v1 s0 = some r) : p_Ct K l m_SW_done [p_r v0, p_i v1] s0 (some (p_i r.1), r.2) := by
  refine p_Ct.of (by decide +kernel) (Nat.le_of_ble_eq_true rfl) ?_
  unfold F_SW_done at h
  show p_Go K l m_SW_done 0 [(0, p_r v0), (1, p_i v1)] [] s0 _
  refine g_aload_n (i := 0) (j := 0) (dk_SW_done 0 rfl) rfl rfl ?_
  refine g_iconst (dk_SW_done 1 rfl) (by decide) ?_
  obtain ⟨c1, h⟩ := p_gdE h
  refine g_putI fl_SW_51 (Or.inl rfl) (dk_SW_done 2 rfl) c1 ?_
  refine p_ltS (P := fun q => p_Go K l m_SW_done 5 [(0, p_r v0), (1, p_i v1)] [] q _) (p_xZ _ _ _ _) ?_ h
  intro s2 hs3 h
  refine g_iload_n (i := 1) (j := 1) (dk_SW_done 3 rfl) rfl rfl ?_
  cases h
  exact g_ret rfl rfl (dk_SW_done 4 rfl) (fun os => ⟨_, rfl, p_okh os⟩)
def m_SW_refuse : p_Me := (⟨"SortWorks", "refuse", "(I)I"⟩, prog_1_method_2_code, 2, (some .int), 0, 0)
theorem mt_SW_refuse : p_Mt m_SW_refuse 1 := ⟨p_mem (p_tb3 (List.mem_of_getElem? (i := 67) rfl)) rfl, tw_1_1, by decide +kernel, by decide +kernel, by decide +kernel⟩
def dt_SW_refuse : List (Nat × Instr × Nat) := [(0, .iload_n 1, 1), (1, .bipush (-11), 2), (3, .if_icmp .gt 19, 3), (6, .iload_n 1, 1), (7, .bipush (-16), 2), (9, .if_icmp .lt 13, 3), (12, .aload_n 0, 1), (13, .dup, 1), (14, .getfield 47, 3), (17, .iconst 1, 1), (18, .iadd, 1), (19, .putfield 47, 3), (22, .aload_n 0, 1), (23, .iload_n 1, 1), (24, .putfield 51, 3), (27, .iload_n 1, 1), (28, .ireturn, 1)]
theorem dk_SW_refuse (i : Nat) {pc : Nat} {ins : Instr} {len : Nat} (h : dt_SW_refuse[i]? = some (pc, ins, len)) : decode m_SW_refuse.2.1 pc = .ok (ins, len) := p_dk (b := m_SW_refuse.2.1) (t := dt_SW_refuse) (by decide +kernel) i h
def B_SW_refuse_22  (v0 : Nat) (v1 : Int) (s0 : p_Hp) : Option (Int × p_Hp) :=
  p_gd (p_is s0 v0 10) <|
  p_bi (p_wZ s0 v0 8 v1) fun s2 =>
  some (v1, s2)
def F_SW_refuse (v0 : Nat) (v1 : Int) (s0 : p_Hp) : Option (Int × p_Hp) :=
  if (-11) < v1 then
    B_SW_refuse_22 v0 v1 s0
  else
    if v1 < (-16) then
      B_SW_refuse_22 v0 v1 s0
    else
      p_gd (p_is s0 v0 10) <|
      p_bi (p_wZ s0 v0 7 (p_w ((p_Z s0 v0 7) + 1))) fun s4 =>
      B_SW_refuse_22 v0 v1 s4
set_option maxRecDepth 100000 in
set_option maxHeartbeats 4000000 in
theorem tB_SW_refuse_22 (K : p_K) (l : Launch)  (v0 : Nat) (v1 : Int) (s0 : p_Hp) (r : (Int × p_Hp)) (h : B_SW_refuse_22 v0 v1 s0 = some r) : p_Go K l m_SW_refuse 22 [(0, p_r v0), (1, p_i v1)] [] s0 (some (p_i r.1), r.2) := by
  unfold B_SW_refuse_22 at h
  refine g_aload_n (i := 0) (j := 0) (dk_SW_refuse 12 rfl) rfl rfl ?_
  refine g_iload_n (i := 1) (j := 1) (dk_SW_refuse 13 rfl) rfl rfl ?_
  obtain ⟨c1, h⟩ := p_gdE h
  refine g_putI fl_SW_51 (Or.inl rfl) (dk_SW_refuse 14 rfl) c1 ?_
  refine p_ltS (P := fun q => p_Go K l m_SW_refuse 27 [(0, p_r v0), (1, p_i v1)] [] q _) (p_xZ _ _ _ _) ?_ h
  intro s2 hs3 h
  refine g_iload_n (i := 1) (j := 1) (dk_SW_refuse 15 rfl) rfl rfl ?_
  cases h
  exact g_ret rfl rfl (dk_SW_refuse 16 rfl) (fun os => ⟨_, rfl, p_okh os⟩)
set_option maxRecDepth 100000 in
set_option maxHeartbeats 4000000 in
theorem tF_SW_refuse (K : p_K) (l : Launch) (v0 : Nat) (v1 : Int) (s0 : p_Hp) (r : (Int × p_Hp)) (h : F_SW_refuse v0 v1 s0 = some r) : p_Ct K l m_SW_refuse [p_r v0, p_i v1] s0 (some (p_i r.1), r.2) := by
  refine p_Ct.of (by decide +kernel) (Nat.le_of_ble_eq_true rfl) ?_
  unfold F_SW_refuse at h
  show p_Go K l m_SW_refuse 0 [(0, p_r v0), (1, p_i v1)] [] s0 _
  refine g_iload_n (i := 1) (j := 1) (dk_SW_refuse 0 rfl) rfl rfl ?_
  refine g_bipush (dk_SW_refuse 1 rfl) (by decide +kernel) (by decide) ?_
  refine g_icmp_gt 22 (dk_SW_refuse 2 rfl) (by decide) (fun b1 => ?_) (fun b1 => ?_)
  · have h := p_ifT b1 h
    exact tB_SW_refuse_22 K l v0 v1 s0 _ h
  · have h := p_ifF b1 h
    refine g_iload_n (i := 1) (j := 1) (dk_SW_refuse 3 rfl) rfl rfl ?_
    refine g_bipush (dk_SW_refuse 4 rfl) (by decide +kernel) (by decide) ?_
    refine g_icmp_lt 22 (dk_SW_refuse 5 rfl) (by decide) (fun b2 => ?_) (fun b2 => ?_)
    · have h := p_ifT b2 h
      exact tB_SW_refuse_22 K l v0 v1 s0 _ h
    · have h := p_ifF b2 h
      refine g_aload_n (i := 0) (j := 0) (dk_SW_refuse 6 rfl) rfl rfl ?_
      refine g_dup (dk_SW_refuse 7 rfl) rfl ?_
      obtain ⟨c3, h⟩ := p_gdE h
      refine g_getI fl_SW_47 (Or.inl rfl) (dk_SW_refuse 8 rfl) c3 ?_
      refine g_iconst (dk_SW_refuse 9 rfl) (by decide) ?_
      refine g_iadd (dk_SW_refuse 10 rfl) ?_
      refine g_putI fl_SW_47 (Or.inl rfl) (dk_SW_refuse 11 rfl) c3 ?_
      refine p_ltS (P := fun q => p_Go K l m_SW_refuse 22 [(0, p_r v0), (1, p_i v1)] [] q _) (p_xZ _ _ _ _) ?_ h
      intro s4 hs5 h
      exact tB_SW_refuse_22 K l v0 v1 s4 _ h
def m_SW_works : p_Me := (⟨"SortWorks", "works", "(I)I"⟩, prog_1_method_5_code, 3, (some .int), 1, 21)
theorem mt_SW_works : p_Mt m_SW_works 1 := ⟨p_mem (p_tb3 (List.mem_of_getElem? (i := 63) rfl)) rfl, tw_1_1, by decide +kernel, by decide +kernel, by decide +kernel⟩
def dt_SW_works : List (Nat × Instr × Nat) := [(0, .iload_n 1, 1), (1, .ifCond .lt 8, 3), (4, .iload_n 1, 1), (5, .iconst 3, 1), (6, .if_icmp .lt 9, 3), (9, .aload_n 0, 1), (10, .iconst (-1), 1), (11, .invokevirtual 61, 3), (14, .ireturn, 1), (15, .aload_n 0, 1), (16, .getfield 18, 3), (19, .getfield 64, 3), (22, .istore_n 2, 1), (23, .aload_n 0, 1), (24, .aload_n 0, 1), (25, .getfield 12, 3), (28, .iload_n 1, 1), (29, .aaload, 1), (30, .putfield 18, 3), (33, .aload_n 0, 1), (34, .iload_n 2, 1), (35, .invokevirtual 57, 3), (38, .ireturn, 1)]
theorem dk_SW_works (i : Nat) {pc : Nat} {ins : Instr} {len : Nat} (h : dt_SW_works[i]? = some (pc, ins, len)) : decode m_SW_works.2.1 pc = .ok (ins, len) := p_dk (b := m_SW_works.2.1) (t := dt_SW_works) (by decide +kernel) i h
def B_SW_works_9  (v0 : Nat) (s0 : p_Hp) : Option (Int × p_Hp) :=
  p_gd (p_is s0 v0 10) <|
  p_bd (F_SW_refuse v0 (-1) s0) fun r6 s2 =>
  some (r6, s2)
def F_SW_works (v0 : Nat) (v1 : Int) (s0 : p_Hp) : Option (Int × p_Hp) :=
  if v1 < 0 then
    B_SW_works_9 v0 s0
  else
    if v1 < 3 then
      p_gd (p_is s0 v0 10) <|
      p_gd (p_is s0 (p_R s0 v0 1) 9) <|
      p_bi ((p_Z s0 (p_R s0 v0 1) 0)) fun x5 =>
      p_gd (p_is s0 (p_R s0 v0 0) 104) <|
      p_gd ((0 : Int) ≤ v1 ∧ v1 < (p_L s0 (p_R s0 v0 0) : Int)) <|
      p_bi (p_wR s0 v0 1 (p_R s0 (p_R s0 v0 0) (v1 : Int).toNat)) fun s8 =>
      p_bd (F_SW_done v0 x5 s8) fun r14 s10 =>
      some (r14, s10)
    else
      B_SW_works_9 v0 s0
set_option maxRecDepth 100000 in
set_option maxHeartbeats 4000000 in
theorem tB_SW_works_9 (K : p_K) (l : Launch)  (v0 : Nat) (s0 : p_Hp) (r : (Int × p_Hp)) (h : B_SW_works_9 v0 s0 = some r) : p_Go K l m_SW_works 9 [(0, p_r v0)] [] s0 (some (p_i r.1), r.2) := by
  unfold B_SW_works_9 at h
  refine g_aload_n (i := 0) (j := 0) (dk_SW_works 5 rfl) rfl rfl ?_
  refine g_iconst (dk_SW_works 6 rfl) (by decide) ?_
  obtain ⟨c1, h⟩ := p_gdE h
  obtain ⟨r6, s2, q3, h⟩ := p_bdE h
  have t4 := tF_SW_refuse K l v0 (-1) s0 _ q3
  refine g_callV (a := v0) (ci := 10) (q0 := (RX10, TX10, 9)) (As := [p_i (-1)]) (rest := []) [p_i r6] mt_SW_refuse rfl rfl tw_3_66 ts_0 tw_3_64 ⟨Nat.le_of_ble_eq_true rfl, Nat.le_of_ble_eq_true rfl⟩ rfl (Nat.le_of_ble_eq_true rfl) (dk_SW_works 7 rfl) rfl c1 rfl t4 ?_
  have hs5 : p_x s0 s2 := t4.1
  show p_Go K l m_SW_works 14 [(0, p_r v0)] [p_i r6] s2 _
  cases h
  exact g_ret rfl rfl (dk_SW_works 8 rfl) (fun os => ⟨_, rfl, p_okh os⟩)
set_option maxRecDepth 100000 in
set_option maxHeartbeats 4000000 in
theorem tF_SW_works (K : p_K) (l : Launch) (v0 : Nat) (v1 : Int) (s0 : p_Hp) (r : (Int × p_Hp)) (h : F_SW_works v0 v1 s0 = some r) : p_Ct K l m_SW_works [p_r v0, p_i v1] s0 (some (p_i r.1), r.2) := by
  refine p_Ct.of (by decide +kernel) (Nat.le_of_ble_eq_true rfl) ?_
  unfold F_SW_works at h
  show p_Go K l m_SW_works 0 [(0, p_r v0), (1, p_i v1)] [] s0 _
  refine g_iload_n (i := 1) (j := 1) (dk_SW_works 0 rfl) rfl rfl ?_
  refine g_if_lt 9 (dk_SW_works 1 rfl) (by decide) (fun b1 => ?_) (fun b1 => ?_)
  · have h := p_ifT b1 h
    refine g_sub [(0, p_r v0)] [0] rfl ?_
    exact tB_SW_works_9 K l v0 s0 _ h
  · have h := p_ifF b1 h
    refine g_iload_n (i := 1) (j := 1) (dk_SW_works 2 rfl) rfl rfl ?_
    refine g_iconst (dk_SW_works 3 rfl) (by decide) ?_
    refine g_icmp_lt 15 (dk_SW_works 4 rfl) (by decide) (fun b2 => ?_) (fun b2 => ?_)
    · have h := p_ifT b2 h
      refine g_aload_n (i := 0) (j := 0) (dk_SW_works 9 rfl) rfl rfl ?_
      obtain ⟨c3, h⟩ := p_gdE h
      refine g_getR fl_SW_18 (Or.inl ⟨_, rfl⟩) (dk_SW_works 10 rfl) c3 ?_
      obtain ⟨c4, h⟩ := p_gdE h
      refine g_getI fl_SW_64 (Or.inl rfl) (dk_SW_works 11 rfl) c4 ?_
      refine g_istore_n (i := 2) [(2, p_i (p_Z s0 (p_R s0 v0 1) 0)), (0, p_r v0), (1, p_i v1)] (dk_SW_works 12 rfl) rfl (by decide) rfl ?_
      refine p_ltG (P := fun q => p_Go K l m_SW_works 23 [(2, p_i q), (0, p_r v0), (1, p_i v1)] [] s0 _) ?_ h
      intro x5 h
      refine g_aload_n (i := 0) (j := 1) (dk_SW_works 13 rfl) rfl rfl ?_
      refine g_aload_n (i := 0) (j := 1) (dk_SW_works 14 rfl) rfl rfl ?_
      refine g_getR fl_SW_12 (Or.inr ⟨_, rfl⟩) (dk_SW_works 15 rfl) c3 ?_
      refine g_iload_n (i := 1) (j := 2) (dk_SW_works 16 rfl) rfl rfl ?_
      obtain ⟨c6, h⟩ := p_gdE h
      obtain ⟨c7, h⟩ := p_gdE h
      refine g_aaload (i := 4) rfl (Or.inl ⟨_, rfl⟩) (dk_SW_works 17 rfl) c6 c7.1 c7.2 ?_
      refine g_putR fl_SW_18 (Or.inl ⟨_, rfl⟩) (Or.inl rfl) (dk_SW_works 18 rfl) c3 ?_
      refine p_ltS (P := fun q => p_Go K l m_SW_works 33 [(2, p_i x5), (0, p_r v0), (1, p_i v1)] [] q _) (p_xR _ _ _ _) ?_ h
      intro s8 hs9 h
      refine g_aload_n (i := 0) (j := 1) (dk_SW_works 19 rfl) rfl rfl ?_
      refine g_iload_n (i := 2) (j := 0) (dk_SW_works 20 rfl) rfl rfl ?_
      obtain ⟨r14, s10, q11, h⟩ := p_bdE h
      have t12 := tF_SW_done K l v0 x5 s8 _ q11
      refine g_callV (a := v0) (ci := 10) (q0 := (RX10, TX10, 9)) (As := [p_i x5]) (rest := []) [p_i r14] mt_SW_done rfl rfl tw_3_70 ts_1 tw_3_68 ⟨Nat.le_of_ble_eq_true rfl, Nat.le_of_ble_eq_true rfl⟩ rfl (Nat.le_of_ble_eq_true rfl) (dk_SW_works 21 rfl) rfl (c3.up hs9) rfl t12 ?_
      have hs13 : p_x s8 s10 := t12.1
      show p_Go K l m_SW_works 38 [(2, p_i x5), (0, p_r v0), (1, p_i v1)] [p_i r14] s10 _
      cases h
      exact g_ret rfl rfl (dk_SW_works 22 rfl) (fun os => ⟨_, rfl, p_okh os⟩)
    · have h := p_ifF b2 h
      refine g_sub [(0, p_r v0)] [0] rfl ?_
      exact tB_SW_works_9 K l v0 s0 _ h
def m_Works_forget : p_Me := (⟨"SortWorks$Works", "forget", "()V"⟩, prog_11_method_6_code, 1, none, 0, 0)
theorem mt_Works_forget : p_Mt m_Works_forget 0 := ⟨p_mem (p_tb3 (List.mem_of_getElem? (i := 98) rfl)) rfl, tw_1_2, by decide +kernel, by decide +kernel, by decide +kernel⟩
def dt_Works_forget : List (Nat × Instr × Nat) := [(0, .aload_n 0, 1), (1, .iconst 0, 1), (2, .putfield 101, 3), (5, .return_, 1)]
theorem dk_Works_forget (i : Nat) {pc : Nat} {ins : Instr} {len : Nat} (h : dt_Works_forget[i]? = some (pc, ins, len)) : decode m_Works_forget.2.1 pc = .ok (ins, len) := p_dk (b := m_Works_forget.2.1) (t := dt_Works_forget) (by decide +kernel) i h
def F_Works_forget (v0 : Nat) (s0 : p_Hp) : Option p_Hp :=
  p_gd (p_is s0 v0 9) <|
  p_bi (p_wZ s0 v0 13 0) fun s2 =>
  some s2
set_option maxRecDepth 100000 in
set_option maxHeartbeats 4000000 in
theorem tF_Works_forget (K : p_K) (l : Launch) (v0 : Nat) (s0 : p_Hp) (r : p_Hp) (h : F_Works_forget v0 s0 = some r) : p_Ct K l m_Works_forget [p_r v0] s0 (none, r) := by
  refine p_Ct.of (by decide +kernel) (Nat.le_of_ble_eq_true rfl) ?_
  unfold F_Works_forget at h
  show p_Go K l m_Works_forget 0 [(0, p_r v0)] [] s0 _
  refine g_aload_n (i := 0) (j := 0) (dk_Works_forget 0 rfl) rfl rfl ?_
  refine g_iconst (dk_Works_forget 1 rfl) (by decide) ?_
  obtain ⟨c1, h⟩ := p_gdE h
  refine g_putI fl_Works_101 (Or.inl rfl) (dk_Works_forget 2 rfl) c1 ?_
  refine p_ltS (P := fun q => p_Go K l m_Works_forget 5 [(0, p_r v0)] [] q _) (p_xZ _ _ _ _) ?_ h
  intro s2 hs3 h
  cases h
  exact g_ret rfl rfl (dk_Works_forget 3 rfl) (fun _ => rfl)
def m_SW_built : p_Me := (⟨"SortWorks", "built", "(I)I"⟩, prog_1_method_4_code, 2, (some .int), 1, 21)
theorem mt_SW_built : p_Mt m_SW_built 1 := ⟨p_mem (p_tb3 (List.mem_of_getElem? (i := 94) rfl)) rfl, tw_1_1, by decide +kernel, by decide +kernel, by decide +kernel⟩
def dt_SW_built : List (Nat × Instr × Nat) := [(0, .aload_n 0, 1), (1, .getfield 18, 3), (4, .invokevirtual 54, 3), (7, .aload_n 0, 1), (8, .iload_n 1, 1), (9, .invokevirtual 57, 3), (12, .ireturn, 1)]
theorem dk_SW_built (i : Nat) {pc : Nat} {ins : Instr} {len : Nat} (h : dt_SW_built[i]? = some (pc, ins, len)) : decode m_SW_built.2.1 pc = .ok (ins, len) := p_dk (b := m_SW_built.2.1) (t := dt_SW_built) (by decide +kernel) i h
def F_SW_built (v0 : Nat) (v1 : Int) (s0 : p_Hp) : Option (Int × p_Hp) :=
  p_gd (p_is s0 v0 10) <|
  p_gd (p_is s0 (p_R s0 v0 1) 9) <|
  p_bv (F_Works_forget (p_R s0 v0 1) s0) fun s3 =>
  p_bd (F_SW_done v0 v1 s3) fun r11 s7 =>
  some (r11, s7)
set_option maxRecDepth 100000 in
set_option maxHeartbeats 4000000 in
theorem tF_SW_built (K : p_K) (l : Launch) (v0 : Nat) (v1 : Int) (s0 : p_Hp) (r : (Int × p_Hp)) (h : F_SW_built v0 v1 s0 = some r) : p_Ct K l m_SW_built [p_r v0, p_i v1] s0 (some (p_i r.1), r.2) := by
  refine p_Ct.of (by decide +kernel) (Nat.le_of_ble_eq_true rfl) ?_
  unfold F_SW_built at h
  show p_Go K l m_SW_built 0 [(0, p_r v0), (1, p_i v1)] [] s0 _
  refine g_aload_n (i := 0) (j := 0) (dk_SW_built 0 rfl) rfl rfl ?_
  obtain ⟨c1, h⟩ := p_gdE h
  refine g_getR fl_SW_18 (Or.inl ⟨_, rfl⟩) (dk_SW_built 1 rfl) c1 ?_
  obtain ⟨c2, h⟩ := p_gdE h
  obtain ⟨s3, q4, h⟩ := p_bvE h
  have t5 := tF_Works_forget K l (p_R s0 v0 1) s0 _ q4
  refine g_callV (a := (p_R s0 v0 1)) (ci := 9) (q0 := (RX9, TX9, 15)) (As := []) (rest := []) [] mt_Works_forget rfl rfl tw_3_96 tw_3_97 tw_3_95 ⟨Nat.le_of_ble_eq_true rfl, Nat.le_of_ble_eq_true rfl⟩ rfl (Nat.le_of_ble_eq_true rfl) (dk_SW_built 2 rfl) rfl c2 rfl t5 ?_
  have hs6 : p_x s0 s3 := t5.1
  show p_Go K l m_SW_built 7 [(0, p_r v0), (1, p_i v1)] [] s3 _
  refine g_aload_n (i := 0) (j := 0) (dk_SW_built 3 rfl) rfl rfl ?_
  refine g_iload_n (i := 1) (j := 1) (dk_SW_built 4 rfl) rfl rfl ?_
  obtain ⟨r11, s7, q8, h⟩ := p_bdE h
  have t9 := tF_SW_done K l v0 v1 s3 _ q8
  refine g_callV (a := v0) (ci := 10) (q0 := (RX10, TX10, 9)) (As := [p_i v1]) (rest := []) [p_i r11] mt_SW_done rfl rfl tw_3_70 ts_1 tw_3_68 ⟨Nat.le_of_ble_eq_true rfl, Nat.le_of_ble_eq_true rfl⟩ rfl (Nat.le_of_ble_eq_true rfl) (dk_SW_built 5 rfl) rfl (c1.up hs6) rfl t9 ?_
  have hs10 : p_x s3 s7 := t9.1
  show p_Go K l m_SW_built 12 [(0, p_r v0), (1, p_i v1)] [p_i r11] s7 _
  cases h
  exact g_ret rfl rfl (dk_SW_built 6 rfl) (fun os => ⟨_, rfl, p_okh os⟩)
def m_SW_isKind : p_Me := (⟨"SortWorks", "isKind", "(I)Z"⟩, prog_1_method_57_code, 1, (some .boolean), 0, 0)
theorem mt_SW_isKind : p_Mt m_SW_isKind 1 := ⟨p_mem (p_tb3 (List.mem_of_getElem? (i := 78) rfl)) rfl, tw_1_1, by decide +kernel, by decide +kernel, by decide +kernel⟩
def dt_SW_isKind : List (Nat × Instr × Nat) := [(0, .iload_n 0, 1), (1, .ifCond .lt 13, 3), (4, .iload_n 0, 1), (5, .bipush 11, 2), (7, .if_icmp .ge 7, 3), (10, .iconst 1, 1), (11, .goto 4, 3), (14, .iconst 0, 1), (15, .ireturn, 1)]
theorem dk_SW_isKind (i : Nat) {pc : Nat} {ins : Instr} {len : Nat} (h : dt_SW_isKind[i]? = some (pc, ins, len)) : decode m_SW_isKind.2.1 pc = .ok (ins, len) := p_dk (b := m_SW_isKind.2.1) (t := dt_SW_isKind) (by decide +kernel) i h
def F_SW_isKind (v0 : Int) (s0 : p_Hp) : Option (Int × p_Hp) :=
  if v0 < 0 then
    some (0, s0)
  else
    if 11 ≤ v0 then
      some (0, s0)
    else
      some (1, s0)
set_option maxRecDepth 100000 in
set_option maxHeartbeats 4000000 in
theorem tF_SW_isKind (K : p_K) (l : Launch) (v0 : Int) (s0 : p_Hp) (r : (Int × p_Hp)) (h : F_SW_isKind v0 s0 = some r) : p_Ct K l m_SW_isKind [p_i v0] s0 (some (p_i r.1), r.2) := by
  refine p_Ct.of (by decide +kernel) (Nat.le_of_ble_eq_true rfl) ?_
  unfold F_SW_isKind at h
  show p_Go K l m_SW_isKind 0 [(0, p_i v0)] [] s0 _
  refine g_iload_n (i := 0) (j := 0) (dk_SW_isKind 0 rfl) rfl rfl ?_
  refine g_if_lt 14 (dk_SW_isKind 1 rfl) (by decide) (fun b1 => ?_) (fun b1 => ?_)
  · have h := p_ifT b1 h
    refine g_iconst (dk_SW_isKind 7 rfl) (by decide) ?_
    cases h
    exact g_ret rfl rfl (dk_SW_isKind 8 rfl) (fun _ => ⟨_, rfl, Or.inl rfl⟩)
  · have h := p_ifF b1 h
    refine g_iload_n (i := 0) (j := 0) (dk_SW_isKind 2 rfl) rfl rfl ?_
    refine g_bipush (dk_SW_isKind 3 rfl) (by decide +kernel) (by decide) ?_
    refine g_icmp_ge 14 (dk_SW_isKind 4 rfl) (by decide) (fun b2 => ?_) (fun b2 => ?_)
    · have h := p_ifT b2 h
      refine g_iconst (dk_SW_isKind 7 rfl) (by decide) ?_
      cases h
      exact g_ret rfl rfl (dk_SW_isKind 8 rfl) (fun _ => ⟨_, rfl, Or.inl rfl⟩)
    · have h := p_ifF b2 h
      refine g_iconst (dk_SW_isKind 5 rfl) (by decide) ?_
      refine g_goto 15 (dk_SW_isKind 6 rfl) (by decide) ?_
      cases h
      exact g_ret rfl rfl (dk_SW_isKind 8 rfl) (fun _ => ⟨_, rfl, Or.inr rfl⟩)
def m_SW_isTakerKind : p_Me := (⟨"SortWorks", "isTakerKind", "(I)Z"⟩, prog_1_method_58_code, 1, (some .boolean), 0, 0)
theorem mt_SW_isTakerKind : p_Mt m_SW_isTakerKind 1 := ⟨p_mem (p_tb3 (List.mem_of_getElem? (i := 81) rfl)) rfl, tw_1_1, by decide +kernel, by decide +kernel, by decide +kernel⟩
def dt_SW_isTakerKind : List (Nat × Instr × Nat) := [(0, .iload_n 0, 1), (1, .ifCond .lt 13, 3), (4, .iload_n 0, 1), (5, .bipush 8, 2), (7, .if_icmp .gt 7, 3), (10, .iconst 1, 1), (11, .goto 4, 3), (14, .iconst 0, 1), (15, .ireturn, 1)]
theorem dk_SW_isTakerKind (i : Nat) {pc : Nat} {ins : Instr} {len : Nat} (h : dt_SW_isTakerKind[i]? = some (pc, ins, len)) : decode m_SW_isTakerKind.2.1 pc = .ok (ins, len) := p_dk (b := m_SW_isTakerKind.2.1) (t := dt_SW_isTakerKind) (by decide +kernel) i h
def F_SW_isTakerKind (v0 : Int) (s0 : p_Hp) : Option (Int × p_Hp) :=
  if v0 < 0 then
    some (0, s0)
  else
    if 8 < v0 then
      some (0, s0)
    else
      some (1, s0)
set_option maxRecDepth 100000 in
set_option maxHeartbeats 4000000 in
theorem tF_SW_isTakerKind (K : p_K) (l : Launch) (v0 : Int) (s0 : p_Hp) (r : (Int × p_Hp)) (h : F_SW_isTakerKind v0 s0 = some r) : p_Ct K l m_SW_isTakerKind [p_i v0] s0 (some (p_i r.1), r.2) := by
  refine p_Ct.of (by decide +kernel) (Nat.le_of_ble_eq_true rfl) ?_
  unfold F_SW_isTakerKind at h
  show p_Go K l m_SW_isTakerKind 0 [(0, p_i v0)] [] s0 _
  refine g_iload_n (i := 0) (j := 0) (dk_SW_isTakerKind 0 rfl) rfl rfl ?_
  refine g_if_lt 14 (dk_SW_isTakerKind 1 rfl) (by decide) (fun b1 => ?_) (fun b1 => ?_)
  · have h := p_ifT b1 h
    refine g_iconst (dk_SW_isTakerKind 7 rfl) (by decide) ?_
    cases h
    exact g_ret rfl rfl (dk_SW_isTakerKind 8 rfl) (fun _ => ⟨_, rfl, Or.inl rfl⟩)
  · have h := p_ifF b1 h
    refine g_iload_n (i := 0) (j := 0) (dk_SW_isTakerKind 2 rfl) rfl rfl ?_
    refine g_bipush (dk_SW_isTakerKind 3 rfl) (by decide +kernel) (by decide) ?_
    refine g_icmp_gt 14 (dk_SW_isTakerKind 4 rfl) (by decide) (fun b2 => ?_) (fun b2 => ?_)
    · have h := p_ifT b2 h
      refine g_iconst (dk_SW_isTakerKind 7 rfl) (by decide) ?_
      cases h
      exact g_ret rfl rfl (dk_SW_isTakerKind 8 rfl) (fun _ => ⟨_, rfl, Or.inl rfl⟩)
    · have h := p_ifF b2 h
      refine g_iconst (dk_SW_isTakerKind 5 rfl) (by decide) ?_
      refine g_goto 15 (dk_SW_isTakerKind 6 rfl) (by decide) ?_
      cases h
      exact g_ret rfl rfl (dk_SW_isTakerKind 8 rfl) (fun _ => ⟨_, rfl, Or.inr rfl⟩)
def m_Ar_fill_1 : p_Me := (⟨"java/util/Arrays", "fill", "([JJ)V"⟩, prog_17_method_101_code, 5, none, 0, 0)
theorem mt_Ar_fill_1 : p_Mt m_Ar_fill_1 2 := ⟨p_mem (p_tb3 (List.mem_of_getElem? (i := 90) rfl)) rfl, tw_1_13, by decide +kernel, by decide +kernel, by decide +kernel⟩
def dt_Ar_fill_1 : List (Nat × Instr × Nat) := [(0, .iconst 0, 1), (1, .istore_n 3, 1), (2, .aload_n 0, 1), (3, .arraylength, 1), (4, .istore 4, 2), (6, .iload_n 3, 1), (7, .iload 4, 2), (9, .if_icmp .ge 13, 3), (12, .aload_n 0, 1), (13, .iload_n 3, 1), (14, .lload_n 1, 1), (15, .lastore, 1), (16, .iinc 3 1, 3), (19, .goto (-13), 3), (22, .return_, 1)]
theorem dk_Ar_fill_1 (i : Nat) {pc : Nat} {ins : Instr} {len : Nat} (h : dt_Ar_fill_1[i]? = some (pc, ins, len)) : decode m_Ar_fill_1.2.1 pc = .ok (ins, len) := p_dk (b := m_Ar_fill_1.2.1) (t := dt_Ar_fill_1) (by decide +kernel) i h
def L_Ar_fill_1_6 (k6 : Nat → Int → Int → Int → p_Hp → Option p_Hp) (v0 : Nat) (v1 : Int) (v3 : Int) (v4 : Int) (s0 : p_Hp) : Option p_Hp :=
  if v4 ≤ v3 then
    some s0
  else
    p_gd (p_is s0 v0 101) <|
    p_gd ((0 : Int) ≤ v3 ∧ v3 < (p_L s0 v0 : Int)) <|
    p_bi (p_wZ s0 v0 (v3 : Int).toNat v1) fun s4 =>
    p_bi (p_w (v3 + 1)) fun x6 =>
    k6 v0 v1 x6 v4 s4
def O_Ar_fill_1_6  : Nat → Nat → Int → Int → Int → p_Hp → Option p_Hp
  | 0 => fun _ _ _ _ _ => none
  | n + 1 => L_Ar_fill_1_6 (O_Ar_fill_1_6 n)
def F_Ar_fill_1 (v0 : Nat) (v1 : Int) (s0 : p_Hp) : Option p_Hp :=
  p_gd (p_is s0 v0 101) <|
  p_bi ((p_L s0 v0 : Int)) fun x2 =>
  O_Ar_fill_1_6 3000 v0 v1 0 x2 s0
set_option maxRecDepth 100000 in
set_option maxHeartbeats 4000000 in
theorem tL_Ar_fill_1_6 (K : p_K) (l : Launch) (k6 : Nat → Int → Int → Int → p_Hp → Option p_Hp) (hk6 : ∀ (v0 : Nat) (v1 : Int) (v3 : Int) (v4 : Int)  (s0 : p_Hp) (r : p_Hp), k6 v0 v1 v3 v4 s0 = some r → p_Go K l m_Ar_fill_1 6 [(0, p_r v0), (1, p_j v1), (3, p_i v3), (4, p_i v4)] [] s0 (none, r)) (v0 : Nat) (v1 : Int) (v3 : Int) (v4 : Int) (s0 : p_Hp) (r : p_Hp) (h : L_Ar_fill_1_6 k6 v0 v1 v3 v4 s0 = some r) : p_Go K l m_Ar_fill_1 6 [(0, p_r v0), (1, p_j v1), (3, p_i v3), (4, p_i v4)] [] s0 (none, r) := by
  unfold L_Ar_fill_1_6 at h
  refine g_iload_n (i := 3) (j := 2) (dk_Ar_fill_1 5 rfl) rfl rfl ?_
  refine g_iload (j := 3) (dk_Ar_fill_1 6 rfl) rfl ?_
  refine g_icmp_ge 22 (dk_Ar_fill_1 7 rfl) (by decide) (fun b1 => ?_) (fun b1 => ?_)
  · have h := p_ifT b1 h
    cases h
    exact g_ret rfl rfl (dk_Ar_fill_1 14 rfl) (fun _ => rfl)
  · have h := p_ifF b1 h
    refine g_aload_n (i := 0) (j := 0) (dk_Ar_fill_1 8 rfl) rfl rfl ?_
    refine g_iload_n (i := 3) (j := 2) (dk_Ar_fill_1 9 rfl) rfl rfl ?_
    refine g_lload_n (i := 1) (j := 1) (dk_Ar_fill_1 10 rfl) rfl rfl ?_
    obtain ⟨c2, h⟩ := p_gdE h
    obtain ⟨c3, h⟩ := p_gdE h
    refine g_lastore (dk_Ar_fill_1 11 rfl) c2 c3.1 c3.2 ?_
    refine p_ltS (P := fun q => p_Go K l m_Ar_fill_1 16 [(0, p_r v0), (1, p_j v1), (3, p_i v3), (4, p_i v4)] [] q _) (p_xZ _ _ _ _) ?_ h
    intro s4 hs5 h
    refine g_iinc (j := 2) [(3, p_i (p_w (v3 + 1))), (0, p_r v0), (1, p_j v1), (4, p_i v4)] (dk_Ar_fill_1 12 rfl) rfl (by decide) rfl ?_
    refine p_ltG (P := fun q => p_Go K l m_Ar_fill_1 19 [(3, p_i q), (0, p_r v0), (1, p_j v1), (4, p_i v4)] [] s4 _) ?_ h
    intro x6 h
    refine g_goto 6 (dk_Ar_fill_1 13 rfl) (by decide) ?_
    refine g_sub [(0, p_r v0), (1, p_j v1), (3, p_i x6), (4, p_i v4)] [1, 2, 0, 3] rfl ?_
    exact hk6 v0 v1 x6 v4 s4 _ h
set_option maxRecDepth 100000 in
set_option maxHeartbeats 4000000 in
theorem tO_Ar_fill_1_6 (K : p_K) (l : Launch)  : ∀ (n : Nat) (v0 : Nat) (v1 : Int) (v3 : Int) (v4 : Int) (s0 : p_Hp) (r : p_Hp), O_Ar_fill_1_6 n v0 v1 v3 v4 s0 = some r → p_Go K l m_Ar_fill_1 6 [(0, p_r v0), (1, p_j v1), (3, p_i v3), (4, p_i v4)] [] s0 (none, r) := by
  intro n
  induction n with
  | zero => intro v0 v1 v3 v4 s0 r h; cases (show (none : Option p_Hp) = some r from h)
  | succ n ih => intro v0 v1 v3 v4 s0 r h; exact tL_Ar_fill_1_6 K l _ ih v0 v1 v3 v4 s0 r h
set_option maxRecDepth 100000 in
set_option maxHeartbeats 4000000 in
theorem tF_Ar_fill_1 (K : p_K) (l : Launch) (v0 : Nat) (v1 : Int) (s0 : p_Hp) (r : p_Hp) (h : F_Ar_fill_1 v0 v1 s0 = some r) : p_Ct K l m_Ar_fill_1 [p_r v0, p_j v1] s0 (none, r) := by
  refine p_Ct.of (by decide +kernel) (Nat.le_of_ble_eq_true rfl) ?_
  unfold F_Ar_fill_1 at h
  show p_Go K l m_Ar_fill_1 0 [(0, p_r v0), (1, p_j v1)] [] s0 _
  refine g_iconst (dk_Ar_fill_1 0 rfl) (by decide) ?_
  refine g_istore_n (i := 3) [(3, p_i 0), (0, p_r v0), (1, p_j v1)] (dk_Ar_fill_1 1 rfl) rfl (by decide) rfl ?_
  refine g_aload_n (i := 0) (j := 1) (dk_Ar_fill_1 2 rfl) rfl rfl ?_
  obtain ⟨c1, h⟩ := p_gdE h
  refine g_alen (i := 1) rfl (dk_Ar_fill_1 3 rfl) c1 ?_
  refine g_istore [(4, p_i (p_L s0 v0 : Int)), (3, p_i 0), (0, p_r v0), (1, p_j v1)] (dk_Ar_fill_1 4 rfl) (by decide) rfl ?_
  refine p_ltG (P := fun q => p_Go K l m_Ar_fill_1 6 [(4, p_i q), (3, p_i 0), (0, p_r v0), (1, p_j v1)] [] s0 _) ?_ h
  intro x2 h
  refine g_sub [(0, p_r v0), (1, p_j v1), (3, p_i 0), (4, p_i x2)] [2, 3, 1, 0] rfl ?_
  exact tO_Ar_fill_1_6 K l 3000 v0 v1 0 x2 s0 _ h
def m_Gear_begin : p_Me := (⟨"SortWorks$Gear", "begin", "(I)V"⟩, prog_2_method_2_code, 2, none, 1, 24)
theorem mt_Gear_begin : p_Mt m_Gear_begin 1 := ⟨p_mem (p_tb3 (List.mem_of_getElem? (i := 85) rfl)) rfl, tw_1_5, by decide +kernel, by decide +kernel, by decide +kernel⟩
def dt_Gear_begin : List (Nat × Instr × Nat) := [(0, .aload_n 0, 1), (1, .iload_n 1, 1), (2, .putfield 35, 3), (5, .aload_n 0, 1), (6, .getstatic 38, 3), (9, .iload_n 1, 1), (10, .iaload, 1), (11, .putfield 41, 3), (14, .aload_n 0, 1), (15, .getfield 19, 3), (18, .lconst 0, 1), (19, .invokestatic 44, 3), (22, .aload_n 0, 1), (23, .iconst 0, 1), (24, .putfield 50, 3), (27, .aload_n 0, 1), (28, .iconst 0, 1), (29, .putfield 53, 3), (32, .aload_n 0, 1), (33, .iconst 0, 1), (34, .putfield 57, 3), (37, .aload_n 0, 1), (38, .iconst 0, 1), (39, .putfield 60, 3), (42, .aload_n 0, 1), (43, .iconst 0, 1), (44, .putfield 63, 3), (47, .aload_n 0, 1), (48, .iconst 0, 1), (49, .putfield 66, 3), (52, .aload_n 0, 1), (53, .iconst 0, 1), (54, .putfield 69, 3), (57, .aload_n 0, 1), (58, .iconst 0, 1), (59, .putfield 72, 3), (62, .aload_n 0, 1), (63, .iconst 0, 1), (64, .putfield 75, 3), (67, .aload_n 0, 1), (68, .iconst (-1), 1), (69, .putfield 23, 3), (72, .aload_n 0, 1), (73, .iconst 0, 1), (74, .putfield 78, 3), (77, .return_, 1)]
theorem dk_Gear_begin (i : Nat) {pc : Nat} {ins : Instr} {len : Nat} (h : dt_Gear_begin[i]? = some (pc, ins, len)) : decode m_Gear_begin.2.1 pc = .ok (ins, len) := p_dk (b := m_Gear_begin.2.1) (t := dt_Gear_begin) (by decide +kernel) i h
def F_Gear_begin (v0 : Nat) (v1 : Int) (s0 : p_Hp) : Option p_Hp :=
  p_gd (p_is s0 v0 0) <|
  p_bi (p_wZ s0 v0 0 v1) fun s2 =>
  p_gd ((0 : Int) ≤ v1 ∧ v1 < (sw_tl 0 : Int)) <|
  p_bi (p_wZ s2 v0 2 (sw_tab 0 (v1 : Int).toNat)) fun s5 =>
  p_bv (F_Ar_fill_1 (p_R s5 v0 5) 0 s5) fun s7 =>
  p_bi (p_wZ s7 v0 6 0) fun s11 =>
  p_bi (p_wZ s11 v0 7 0) fun s13 =>
  p_bi (p_wZ s13 v0 8 0) fun s15 =>
  p_bi (p_wZ s15 v0 9 0) fun s17 =>
  p_bi (p_wZ s17 v0 10 0) fun s19 =>
  p_bi (p_wZ s19 v0 11 0) fun s21 =>
  p_bi (p_wZ s21 v0 12 0) fun s23 =>
  p_bi (p_wZ s23 v0 13 0) fun s25 =>
  p_bi (p_wZ s25 v0 14 0) fun s27 =>
  p_bi (p_wZ s27 v0 15 (-1)) fun s29 =>
  p_bi (p_wZ s29 v0 16 0) fun s31 =>
  some s31
set_option maxRecDepth 100000 in
set_option maxHeartbeats 4000000 in
theorem tF_Gear_begin (K : p_K) (l : Launch) (v0 : Nat) (v1 : Int) (s0 : p_Hp) (r : p_Hp) (h : F_Gear_begin v0 v1 s0 = some r) : p_Ct K l m_Gear_begin [p_r v0, p_i v1] s0 (none, r) := by
  refine p_Ct.of (by decide +kernel) (Nat.le_of_ble_eq_true rfl) ?_
  unfold F_Gear_begin at h
  show p_Go K l m_Gear_begin 0 [(0, p_r v0), (1, p_i v1)] [] s0 _
  refine g_aload_n (i := 0) (j := 0) (dk_Gear_begin 0 rfl) rfl rfl ?_
  refine g_iload_n (i := 1) (j := 1) (dk_Gear_begin 1 rfl) rfl rfl ?_
  obtain ⟨c1, h⟩ := p_gdE h
  refine g_putI fl_Gear_35 (Or.inl rfl) (dk_Gear_begin 2 rfl) c1 ?_
  refine p_ltS (P := fun q => p_Go K l m_Gear_begin 5 [(0, p_r v0), (1, p_i v1)] [] q _) (p_xZ _ _ _ _) ?_ h
  intro s2 hs3 h
  refine g_aload_n (i := 0) (j := 0) (dk_Gear_begin 3 rfl) rfl rfl ?_
  refine g_getstatic (j := 0) rfl (by decide) (dk_Gear_begin 4 rfl) ?_
  refine g_iload_n (i := 1) (j := 1) (dk_Gear_begin 5 rfl) rfl rfl ?_
  obtain ⟨c4, h⟩ := p_gdE h
  refine g_tabS (by decide) (dk_Gear_begin 6 rfl) c4.1 c4.2 ?_
  refine g_putI fl_Gear_41 (Or.inl rfl) (dk_Gear_begin 7 rfl) (c1.up hs3) ?_
  refine p_ltS (P := fun q => p_Go K l m_Gear_begin 14 [(0, p_r v0), (1, p_i v1)] [] q _) (p_xZ _ _ _ _) ?_ h
  intro s5 hs6 h
  refine g_aload_n (i := 0) (j := 0) (dk_Gear_begin 8 rfl) rfl rfl ?_
  refine g_getR fl_Gear_19 (Or.inr ⟨_, rfl⟩) (dk_Gear_begin 9 rfl) (c1.up (hs3.trans hs6)) ?_
  refine g_lconst (x := 0) (dk_Gear_begin 10 rfl) rfl (by decide) ?_
  obtain ⟨s7, q8, h⟩ := p_bvE h
  have t9 := tF_Ar_fill_1 K l (p_R s5 v0 5) 0 s5 _ q8
  refine g_callS (av := [p_r (p_R s5 v0 5), p_j 0]) (rest := []) [] mt_Ar_fill_1 tw_3_89 tw_3_88 ⟨Nat.le_of_ble_eq_true rfl, Nat.le_of_ble_eq_true rfl⟩ rfl (Nat.le_of_ble_eq_true rfl) (dk_Gear_begin 11 rfl) rfl rfl t9 ?_
  have hs10 : p_x s5 s7 := t9.1
  show p_Go K l m_Gear_begin 22 [(0, p_r v0), (1, p_i v1)] [] s7 _
  refine g_aload_n (i := 0) (j := 0) (dk_Gear_begin 12 rfl) rfl rfl ?_
  refine g_iconst (dk_Gear_begin 13 rfl) (by decide) ?_
  refine g_putI fl_Gear_50 (Or.inl rfl) (dk_Gear_begin 14 rfl) (c1.up (hs3.trans (hs6.trans hs10))) ?_
  refine p_ltS (P := fun q => p_Go K l m_Gear_begin 27 [(0, p_r v0), (1, p_i v1)] [] q _) (p_xZ _ _ _ _) ?_ h
  intro s11 hs12 h
  refine g_aload_n (i := 0) (j := 0) (dk_Gear_begin 15 rfl) rfl rfl ?_
  refine g_iconst (dk_Gear_begin 16 rfl) (by decide) ?_
  refine g_putB fl_Gear_53 (Or.inl rfl) (dk_Gear_begin 17 rfl) (c1.up (hs3.trans (hs6.trans (hs10.trans hs12)))) (Or.inl rfl) ?_
  refine p_ltS (P := fun q => p_Go K l m_Gear_begin 32 [(0, p_r v0), (1, p_i v1)] [] q _) (p_xZ _ _ _ _) ?_ h
  intro s13 hs14 h
  refine g_aload_n (i := 0) (j := 0) (dk_Gear_begin 18 rfl) rfl rfl ?_
  refine g_iconst (dk_Gear_begin 19 rfl) (by decide) ?_
  refine g_putI fl_Gear_57 (Or.inl rfl) (dk_Gear_begin 20 rfl) (c1.up (hs3.trans (hs6.trans (hs10.trans (hs12.trans hs14))))) ?_
  refine p_ltS (P := fun q => p_Go K l m_Gear_begin 37 [(0, p_r v0), (1, p_i v1)] [] q _) (p_xZ _ _ _ _) ?_ h
  intro s15 hs16 h
  refine g_aload_n (i := 0) (j := 0) (dk_Gear_begin 21 rfl) rfl rfl ?_
  refine g_iconst (dk_Gear_begin 22 rfl) (by decide) ?_
  refine g_putI fl_Gear_60 (Or.inl rfl) (dk_Gear_begin 23 rfl) (c1.up (hs3.trans (hs6.trans (hs10.trans (hs12.trans (hs14.trans hs16)))))) ?_
  refine p_ltS (P := fun q => p_Go K l m_Gear_begin 42 [(0, p_r v0), (1, p_i v1)] [] q _) (p_xZ _ _ _ _) ?_ h
  intro s17 hs18 h
  refine g_aload_n (i := 0) (j := 0) (dk_Gear_begin 24 rfl) rfl rfl ?_
  refine g_iconst (dk_Gear_begin 25 rfl) (by decide) ?_
  refine g_putI fl_Gear_63 (Or.inl rfl) (dk_Gear_begin 26 rfl) (c1.up (hs3.trans (hs6.trans (hs10.trans (hs12.trans (hs14.trans (hs16.trans hs18))))))) ?_
  refine p_ltS (P := fun q => p_Go K l m_Gear_begin 47 [(0, p_r v0), (1, p_i v1)] [] q _) (p_xZ _ _ _ _) ?_ h
  intro s19 hs20 h
  refine g_aload_n (i := 0) (j := 0) (dk_Gear_begin 27 rfl) rfl rfl ?_
  refine g_iconst (dk_Gear_begin 28 rfl) (by decide) ?_
  refine g_putI fl_Gear_66 (Or.inl rfl) (dk_Gear_begin 29 rfl) (c1.up (hs3.trans (hs6.trans (hs10.trans (hs12.trans (hs14.trans (hs16.trans (hs18.trans hs20)))))))) ?_
  refine p_ltS (P := fun q => p_Go K l m_Gear_begin 52 [(0, p_r v0), (1, p_i v1)] [] q _) (p_xZ _ _ _ _) ?_ h
  intro s21 hs22 h
  refine g_aload_n (i := 0) (j := 0) (dk_Gear_begin 30 rfl) rfl rfl ?_
  refine g_iconst (dk_Gear_begin 31 rfl) (by decide) ?_
  refine g_putI fl_Gear_69 (Or.inl rfl) (dk_Gear_begin 32 rfl) (c1.up (hs3.trans (hs6.trans (hs10.trans (hs12.trans (hs14.trans (hs16.trans (hs18.trans (hs20.trans hs22))))))))) ?_
  refine p_ltS (P := fun q => p_Go K l m_Gear_begin 57 [(0, p_r v0), (1, p_i v1)] [] q _) (p_xZ _ _ _ _) ?_ h
  intro s23 hs24 h
  refine g_aload_n (i := 0) (j := 0) (dk_Gear_begin 33 rfl) rfl rfl ?_
  refine g_iconst (dk_Gear_begin 34 rfl) (by decide) ?_
  refine g_putI fl_Gear_72 (Or.inl rfl) (dk_Gear_begin 35 rfl) (c1.up (hs3.trans (hs6.trans (hs10.trans (hs12.trans (hs14.trans (hs16.trans (hs18.trans (hs20.trans (hs22.trans hs24)))))))))) ?_
  refine p_ltS (P := fun q => p_Go K l m_Gear_begin 62 [(0, p_r v0), (1, p_i v1)] [] q _) (p_xZ _ _ _ _) ?_ h
  intro s25 hs26 h
  refine g_aload_n (i := 0) (j := 0) (dk_Gear_begin 36 rfl) rfl rfl ?_
  refine g_iconst (dk_Gear_begin 37 rfl) (by decide) ?_
  refine g_putI fl_Gear_75 (Or.inl rfl) (dk_Gear_begin 38 rfl) (c1.up (hs3.trans (hs6.trans (hs10.trans (hs12.trans (hs14.trans (hs16.trans (hs18.trans (hs20.trans (hs22.trans (hs24.trans hs26))))))))))) ?_
  refine p_ltS (P := fun q => p_Go K l m_Gear_begin 67 [(0, p_r v0), (1, p_i v1)] [] q _) (p_xZ _ _ _ _) ?_ h
  intro s27 hs28 h
  refine g_aload_n (i := 0) (j := 0) (dk_Gear_begin 39 rfl) rfl rfl ?_
  refine g_iconst (dk_Gear_begin 40 rfl) (by decide) ?_
  refine g_putI fl_Gear_23 (Or.inl rfl) (dk_Gear_begin 41 rfl) (c1.up (hs3.trans (hs6.trans (hs10.trans (hs12.trans (hs14.trans (hs16.trans (hs18.trans (hs20.trans (hs22.trans (hs24.trans (hs26.trans hs28)))))))))))) ?_
  refine p_ltS (P := fun q => p_Go K l m_Gear_begin 72 [(0, p_r v0), (1, p_i v1)] [] q _) (p_xZ _ _ _ _) ?_ h
  intro s29 hs30 h
  refine g_aload_n (i := 0) (j := 0) (dk_Gear_begin 42 rfl) rfl rfl ?_
  refine g_iconst (dk_Gear_begin 43 rfl) (by decide) ?_
  refine g_putI fl_Gear_78 (Or.inl rfl) (dk_Gear_begin 44 rfl) (c1.up (hs3.trans (hs6.trans (hs10.trans (hs12.trans (hs14.trans (hs16.trans (hs18.trans (hs20.trans (hs22.trans (hs24.trans (hs26.trans (hs28.trans hs30))))))))))))) ?_
  refine p_ltS (P := fun q => p_Go K l m_Gear_begin 77 [(0, p_r v0), (1, p_i v1)] [] q _) (p_xZ _ _ _ _) ?_ h
  intro s31 hs32 h
  cases h
  exact g_ret rfl rfl (dk_Gear_begin 45 rfl) (fun _ => rfl)
def m_SW_gear : p_Me := (⟨"SortWorks", "gear", "(II)I"⟩, prog_1_method_6_code, 5, (some .int), 2, 45)
theorem mt_SW_gear : p_Mt m_SW_gear 2 := ⟨p_mem (p_tb3 (List.mem_of_getElem? (i := 75) rfl)) rfl, tw_1_1, by decide +kernel, by decide +kernel, by decide +kernel⟩
def dt_SW_gear : List (Nat × Instr × Nat) := [(0, .iload_n 1, 1), (1, .invokestatic 67, 3), (4, .ifCond .eq 21, 3), (7, .iload_n 1, 1), (8, .invokestatic 71, 3), (11, .ifCond .eq 21, 3), (14, .iload_n 2, 1), (15, .iconst 1, 1), (16, .if_icmp .lt 9, 3), (19, .iload_n 2, 1), (20, .bipush 8, 2), (22, .if_icmp .le 10, 3), (25, .aload_n 0, 1), (26, .bipush (-2), 2), (28, .invokevirtual 61, 3), (31, .ireturn, 1), (32, .aload_n 0, 1), (33, .getfield 18, 3), (36, .getfield 74, 3), (39, .bipush 40, 2), (41, .if_icmp .lt 10, 3), (44, .aload_n 0, 1), (45, .bipush (-4), 2), (47, .invokevirtual 61, 3), (50, .ireturn, 1), (51, .aload_n 0, 1), (52, .getfield 18, 3), (55, .dup, 1), (56, .getfield 74, 3), (59, .dup_x1, 1), (60, .iconst 1, 1), (61, .iadd, 1), (62, .putfield 74, 3), (65, .istore_n 3, 1), (66, .aload_n 0, 1), (67, .getfield 18, 3), (70, .getfield 77, 3), (73, .getfield 81, 3), (76, .iload_n 3, 1), (77, .aaload, 1), (78, .astore 4, 2), (80, .aload 4, 2), (82, .iload_n 1, 1), (83, .invokevirtual 87, 3), (86, .aload 4, 2), (88, .iload_n 1, 1), (89, .invokestatic 71, 3), (92, .ifCond .eq 7, 3), (95, .iload_n 2, 1), (96, .goto 4, 3), (99, .iconst 0, 1), (100, .putfield 92, 3), (103, .aload_n 0, 1), (104, .iload_n 3, 1), (105, .invokevirtual 95, 3), (108, .ireturn, 1)]
theorem dk_SW_gear (i : Nat) {pc : Nat} {ins : Instr} {len : Nat} (h : dt_SW_gear[i]? = some (pc, ins, len)) : decode m_SW_gear.2.1 pc = .ok (ins, len) := p_dk (b := m_SW_gear.2.1) (t := dt_SW_gear) (by decide +kernel) i h
def B_SW_gear_25  (v0 : Nat) (s0 : p_Hp) : Option (Int × p_Hp) :=
  p_gd (p_is s0 v0 10) <|
  p_bd (F_SW_refuse v0 (-2) s0) fun r6 s2 =>
  some (r6, s2)
def B_SW_gear_100  (v0 : Nat) (v3 : Int) (w0 : Int) (w1 : Nat) (s0 : p_Hp) : Option (Int × p_Hp) :=
  p_gd (p_is s0 w1 0) <|
  p_bi (p_wZ s0 w1 1 w0) fun s2 =>
  p_gd (p_is s2 v0 10) <|
  p_bd (F_SW_built v0 v3 s2) fun r9 s5 =>
  some (r9, s5)
def B_SW_gear_32  (v0 : Nat) (v1 : Int) (v2 : Int) (s0 : p_Hp) : Option (Int × p_Hp) :=
  p_gd (p_is s0 v0 10) <|
  p_gd (p_is s0 (p_R s0 v0 1) 9) <|
  if (p_Z s0 (p_R s0 v0 1) 2) < 40 then
    p_bi (p_wZ s0 (p_R s0 v0 1) 2 (p_w ((p_Z s0 (p_R s0 v0 1) 2) + 1))) fun s4 =>
    p_bi ((p_Z s0 (p_R s0 v0 1) 2)) fun x6 =>
    p_gd (p_is s4 (p_R s4 v0 1) 9) <|
    p_gd (p_is s4 (p_R s4 (p_R s4 v0 1) 1) 7) <|
    p_gd (p_is s4 (p_R s4 (p_R s4 (p_R s4 v0 1) 1) 4) 105) <|
    p_gd ((0 : Int) ≤ x6 ∧ x6 < (p_L s4 (p_R s4 (p_R s4 (p_R s4 v0 1) 1) 4) : Int)) <|
    p_bi ((p_R s4 (p_R s4 (p_R s4 (p_R s4 v0 1) 1) 4) (x6 : Int).toNat)) fun x11 =>
    p_gd (p_is s4 x11 0) <|
    p_bv (F_Gear_begin x11 v1 s4) fun s13 =>
    p_bd (F_SW_isTakerKind v1 s13) fun r21 s17 =>
    if r21 = 0 then
      B_SW_gear_100 v0 x6 0 x11 s17
    else
      B_SW_gear_100 v0 x6 v2 x11 s17
  else
    p_bd (F_SW_refuse v0 (-4) s0) fun r27 s23 =>
    some (r27, s23)
def F_SW_gear (v0 : Nat) (v1 : Int) (v2 : Int) (s0 : p_Hp) : Option (Int × p_Hp) :=
  p_bd (F_SW_isKind v1 s0) fun r5 s1 =>
  if r5 = 0 then
    B_SW_gear_25 v0 s1
  else
    p_bd (F_SW_isTakerKind v1 s1) fun r11 s7 =>
    if r11 = 0 then
      B_SW_gear_32 v0 v1 v2 s7
    else
      if v2 < 1 then
        B_SW_gear_25 v0 s7
      else
        if v2 ≤ 8 then
          B_SW_gear_32 v0 v1 v2 s7
        else
          B_SW_gear_25 v0 s7
set_option maxRecDepth 100000 in
set_option maxHeartbeats 4000000 in
theorem tB_SW_gear_25 (K : p_K) (l : Launch)  (v0 : Nat) (s0 : p_Hp) (r : (Int × p_Hp)) (h : B_SW_gear_25 v0 s0 = some r) : p_Go K l m_SW_gear 25 [(0, p_r v0)] [] s0 (some (p_i r.1), r.2) := by
  unfold B_SW_gear_25 at h
  refine g_aload_n (i := 0) (j := 0) (dk_SW_gear 12 rfl) rfl rfl ?_
  refine g_bipush (dk_SW_gear 13 rfl) (by decide +kernel) (by decide) ?_
  obtain ⟨c1, h⟩ := p_gdE h
  obtain ⟨r6, s2, q3, h⟩ := p_bdE h
  have t4 := tF_SW_refuse K l v0 (-2) s0 _ q3
  refine g_callV (a := v0) (ci := 10) (q0 := (RX10, TX10, 9)) (As := [p_i (-2)]) (rest := []) [p_i r6] mt_SW_refuse rfl rfl tw_3_66 ts_0 tw_3_64 ⟨Nat.le_of_ble_eq_true rfl, Nat.le_of_ble_eq_true rfl⟩ rfl (Nat.le_of_ble_eq_true rfl) (dk_SW_gear 14 rfl) rfl c1 rfl t4 ?_
  have hs5 : p_x s0 s2 := t4.1
  show p_Go K l m_SW_gear 31 [(0, p_r v0)] [p_i r6] s2 _
  cases h
  exact g_ret rfl rfl (dk_SW_gear 15 rfl) (fun os => ⟨_, rfl, p_okh os⟩)
set_option maxRecDepth 100000 in
set_option maxHeartbeats 4000000 in
theorem tB_SW_gear_100 (K : p_K) (l : Launch)  (v0 : Nat) (v3 : Int) (w0 : Int) (w1 : Nat) (s0 : p_Hp) (r : (Int × p_Hp)) (h : B_SW_gear_100 v0 v3 w0 w1 s0 = some r) : p_Go K l m_SW_gear 100 [(0, p_r v0), (3, p_i v3)] [p_i w0, p_r w1] s0 (some (p_i r.1), r.2) := by
  unfold B_SW_gear_100 at h
  obtain ⟨c1, h⟩ := p_gdE h
  refine g_putI fl_SW_92 (Or.inl rfl) (dk_SW_gear 51 rfl) c1 ?_
  refine p_ltS (P := fun q => p_Go K l m_SW_gear 103 [(0, p_r v0), (3, p_i v3)] [] q _) (p_xZ _ _ _ _) ?_ h
  intro s2 hs3 h
  refine g_aload_n (i := 0) (j := 0) (dk_SW_gear 52 rfl) rfl rfl ?_
  refine g_iload_n (i := 3) (j := 1) (dk_SW_gear 53 rfl) rfl rfl ?_
  obtain ⟨c4, h⟩ := p_gdE h
  obtain ⟨r9, s5, q6, h⟩ := p_bdE h
  have t7 := tF_SW_built K l v0 v3 s2 _ q6
  refine g_callV (a := v0) (ci := 10) (q0 := (RX10, TX10, 9)) (As := [p_i v3]) (rest := []) [p_i r9] mt_SW_built rfl rfl tw_3_93 ts_2 tw_3_91 ⟨Nat.le_of_ble_eq_true rfl, Nat.le_of_ble_eq_true rfl⟩ rfl (Nat.le_of_ble_eq_true rfl) (dk_SW_gear 54 rfl) rfl c4 rfl t7 ?_
  have hs8 : p_x s2 s5 := t7.1
  show p_Go K l m_SW_gear 108 [(0, p_r v0), (3, p_i v3)] [p_i r9] s5 _
  cases h
  exact g_ret rfl rfl (dk_SW_gear 55 rfl) (fun os => ⟨_, rfl, p_okh os⟩)
set_option maxRecDepth 100000 in
set_option maxHeartbeats 4000000 in
theorem tB_SW_gear_32 (K : p_K) (l : Launch)  (v0 : Nat) (v1 : Int) (v2 : Int) (s0 : p_Hp) (r : (Int × p_Hp)) (h : B_SW_gear_32 v0 v1 v2 s0 = some r) : p_Go K l m_SW_gear 32 [(0, p_r v0), (1, p_i v1), (2, p_i v2)] [] s0 (some (p_i r.1), r.2) := by
  unfold B_SW_gear_32 at h
  refine g_aload_n (i := 0) (j := 0) (dk_SW_gear 16 rfl) rfl rfl ?_
  obtain ⟨c1, h⟩ := p_gdE h
  refine g_getR fl_SW_18 (Or.inl ⟨_, rfl⟩) (dk_SW_gear 17 rfl) c1 ?_
  obtain ⟨c2, h⟩ := p_gdE h
  refine g_getI fl_SW_74 (Or.inl rfl) (dk_SW_gear 18 rfl) c2 ?_
  refine g_bipush (dk_SW_gear 19 rfl) (by decide +kernel) (by decide) ?_
  refine g_icmp_lt 51 (dk_SW_gear 20 rfl) (by decide) (fun b3 => ?_) (fun b3 => ?_)
  · have h := p_ifT b3 h
    refine g_aload_n (i := 0) (j := 0) (dk_SW_gear 25 rfl) rfl rfl ?_
    refine g_getR fl_SW_18 (Or.inl ⟨_, rfl⟩) (dk_SW_gear 26 rfl) c1 ?_
    refine g_dup (dk_SW_gear 27 rfl) rfl ?_
    refine g_getI fl_SW_74 (Or.inl rfl) (dk_SW_gear 28 rfl) c2 ?_
    refine g_dup_x1 (dk_SW_gear 29 rfl) rfl rfl ?_
    refine g_iconst (dk_SW_gear 30 rfl) (by decide) ?_
    refine g_iadd (dk_SW_gear 31 rfl) ?_
    refine g_putI fl_SW_74 (Or.inl rfl) (dk_SW_gear 32 rfl) c2 ?_
    refine p_ltS (P := fun q => p_Go K l m_SW_gear 65 [(0, p_r v0), (1, p_i v1), (2, p_i v2)] [p_i (p_Z s0 (p_R s0 v0 1) 2)] q _) (p_xZ _ _ _ _) ?_ h
    intro s4 hs5 h
    refine g_istore_n (i := 3) [(3, p_i (p_Z s0 (p_R s0 v0 1) 2)), (0, p_r v0), (1, p_i v1), (2, p_i v2)] (dk_SW_gear 33 rfl) rfl (by decide) rfl ?_
    refine p_ltG (P := fun q => p_Go K l m_SW_gear 66 [(3, p_i q), (0, p_r v0), (1, p_i v1), (2, p_i v2)] [] s4 _) ?_ h
    intro x6 h
    refine g_aload_n (i := 0) (j := 1) (dk_SW_gear 34 rfl) rfl rfl ?_
    refine g_getR fl_SW_18 (Or.inl ⟨_, rfl⟩) (dk_SW_gear 35 rfl) (c1.up hs5) ?_
    obtain ⟨c7, h⟩ := p_gdE h
    refine g_getR fl_SW_77 (Or.inl ⟨_, rfl⟩) (dk_SW_gear 36 rfl) c7 ?_
    obtain ⟨c8, h⟩ := p_gdE h
    refine g_getR fl_SW_81 (Or.inr ⟨_, rfl⟩) (dk_SW_gear 37 rfl) c8 ?_
    refine g_iload_n (i := 3) (j := 0) (dk_SW_gear 38 rfl) rfl rfl ?_
    obtain ⟨c9, h⟩ := p_gdE h
    obtain ⟨c10, h⟩ := p_gdE h
    refine g_aaload (i := 5) rfl (Or.inl ⟨_, rfl⟩) (dk_SW_gear 39 rfl) c9 c10.1 c10.2 ?_
    refine g_astore [(4, p_r (p_R s4 (p_R s4 (p_R s4 (p_R s4 v0 1) 1) 4) (x6 : Int).toNat)), (3, p_i x6), (0, p_r v0), (1, p_i v1), (2, p_i v2)] (dk_SW_gear 40 rfl) (by decide) rfl ?_
    refine p_ltG (P := fun q => p_Go K l m_SW_gear 80 [(4, p_r q), (3, p_i x6), (0, p_r v0), (1, p_i v1), (2, p_i v2)] [] s4 _) ?_ h
    intro x11 h
    refine g_aload (j := 0) (dk_SW_gear 41 rfl) rfl ?_
    refine g_iload_n (i := 1) (j := 3) (dk_SW_gear 42 rfl) rfl rfl ?_
    obtain ⟨c12, h⟩ := p_gdE h
    obtain ⟨s13, q14, h⟩ := p_bvE h
    have t15 := tF_Gear_begin K l x11 v1 s4 _ q14
    refine g_callV (a := x11) (ci := 0) (q0 := (RX0, TX0, 20)) (As := [p_i v1]) (rest := []) [] mt_Gear_begin rfl rfl tw_3_83 tw_3_84 tw_3_82 ⟨Nat.le_of_ble_eq_true rfl, Nat.le_of_ble_eq_true rfl⟩ rfl (Nat.le_of_ble_eq_true rfl) (dk_SW_gear 43 rfl) rfl c12 rfl t15 ?_
    have hs16 : p_x s4 s13 := t15.1
    show p_Go K l m_SW_gear 86 [(4, p_r x11), (3, p_i x6), (0, p_r v0), (1, p_i v1), (2, p_i v2)] [] s13 _
    refine g_aload (j := 0) (dk_SW_gear 44 rfl) rfl ?_
    refine g_iload_n (i := 1) (j := 3) (dk_SW_gear 45 rfl) rfl rfl ?_
    obtain ⟨r21, s17, q18, h⟩ := p_bdE h
    have t19 := tF_SW_isTakerKind K l v1 s13 _ q18
    refine g_callS (av := [p_i v1]) (rest := [p_r x11]) [p_i r21, p_r x11] mt_SW_isTakerKind tw_3_80 tw_3_79 ⟨Nat.le_of_ble_eq_true rfl, Nat.le_of_ble_eq_true rfl⟩ rfl (Nat.le_of_ble_eq_true rfl) (dk_SW_gear 46 rfl) rfl rfl t19 ?_
    have hs20 : p_x s13 s17 := t19.1
    show p_Go K l m_SW_gear 92 [(4, p_r x11), (3, p_i x6), (0, p_r v0), (1, p_i v1), (2, p_i v2)] [p_i r21, p_r x11] s17 _
    refine g_if_eq 99 (dk_SW_gear 47 rfl) (by decide) (fun b22 => ?_) (fun b22 => ?_)
    · have h := p_ifT b22 h
      refine g_iconst (dk_SW_gear 50 rfl) (by decide) ?_
      refine g_sub [(0, p_r v0), (3, p_i x6)] [2, 1] rfl ?_
      exact tB_SW_gear_100 K l v0 x6 0 x11 s17 _ h
    · have h := p_ifF b22 h
      refine g_iload_n (i := 2) (j := 4) (dk_SW_gear 48 rfl) rfl rfl ?_
      refine g_goto 100 (dk_SW_gear 49 rfl) (by decide) ?_
      refine g_sub [(0, p_r v0), (3, p_i x6)] [2, 1] rfl ?_
      exact tB_SW_gear_100 K l v0 x6 v2 x11 s17 _ h
  · have h := p_ifF b3 h
    refine g_aload_n (i := 0) (j := 0) (dk_SW_gear 21 rfl) rfl rfl ?_
    refine g_bipush (dk_SW_gear 22 rfl) (by decide +kernel) (by decide) ?_
    obtain ⟨r27, s23, q24, h⟩ := p_bdE h
    have t25 := tF_SW_refuse K l v0 (-4) s0 _ q24
    refine g_callV (a := v0) (ci := 10) (q0 := (RX10, TX10, 9)) (As := [p_i (-4)]) (rest := []) [p_i r27] mt_SW_refuse rfl rfl tw_3_66 ts_0 tw_3_64 ⟨Nat.le_of_ble_eq_true rfl, Nat.le_of_ble_eq_true rfl⟩ rfl (Nat.le_of_ble_eq_true rfl) (dk_SW_gear 23 rfl) rfl c1 rfl t25 ?_
    have hs26 : p_x s0 s23 := t25.1
    show p_Go K l m_SW_gear 50 [(0, p_r v0), (1, p_i v1), (2, p_i v2)] [p_i r27] s23 _
    cases h
    exact g_ret rfl rfl (dk_SW_gear 24 rfl) (fun os => ⟨_, rfl, p_okh os⟩)
set_option maxRecDepth 100000 in
set_option maxHeartbeats 4000000 in
theorem tF_SW_gear (K : p_K) (l : Launch) (v0 : Nat) (v1 : Int) (v2 : Int) (s0 : p_Hp) (r : (Int × p_Hp)) (h : F_SW_gear v0 v1 v2 s0 = some r) : p_Ct K l m_SW_gear [p_r v0, p_i v1, p_i v2] s0 (some (p_i r.1), r.2) := by
  refine p_Ct.of (by decide +kernel) (Nat.le_of_ble_eq_true rfl) ?_
  unfold F_SW_gear at h
  show p_Go K l m_SW_gear 0 [(0, p_r v0), (1, p_i v1), (2, p_i v2)] [] s0 _
  refine g_iload_n (i := 1) (j := 1) (dk_SW_gear 0 rfl) rfl rfl ?_
  obtain ⟨r5, s1, q2, h⟩ := p_bdE h
  have t3 := tF_SW_isKind K l v1 s0 _ q2
  refine g_callS (av := [p_i v1]) (rest := []) [p_i r5] mt_SW_isKind tw_3_77 tw_3_76 ⟨Nat.le_of_ble_eq_true rfl, Nat.le_of_ble_eq_true rfl⟩ rfl (Nat.le_of_ble_eq_true rfl) (dk_SW_gear 1 rfl) rfl rfl t3 ?_
  have hs4 : p_x s0 s1 := t3.1
  show p_Go K l m_SW_gear 4 [(0, p_r v0), (1, p_i v1), (2, p_i v2)] [p_i r5] s1 _
  refine g_if_eq 25 (dk_SW_gear 2 rfl) (by decide) (fun b6 => ?_) (fun b6 => ?_)
  · have h := p_ifT b6 h
    refine g_sub [(0, p_r v0)] [0] rfl ?_
    exact tB_SW_gear_25 K l v0 s1 _ h
  · have h := p_ifF b6 h
    refine g_iload_n (i := 1) (j := 1) (dk_SW_gear 3 rfl) rfl rfl ?_
    obtain ⟨r11, s7, q8, h⟩ := p_bdE h
    have t9 := tF_SW_isTakerKind K l v1 s1 _ q8
    refine g_callS (av := [p_i v1]) (rest := []) [p_i r11] mt_SW_isTakerKind tw_3_80 tw_3_79 ⟨Nat.le_of_ble_eq_true rfl, Nat.le_of_ble_eq_true rfl⟩ rfl (Nat.le_of_ble_eq_true rfl) (dk_SW_gear 4 rfl) rfl rfl t9 ?_
    have hs10 : p_x s1 s7 := t9.1
    show p_Go K l m_SW_gear 11 [(0, p_r v0), (1, p_i v1), (2, p_i v2)] [p_i r11] s7 _
    refine g_if_eq 32 (dk_SW_gear 5 rfl) (by decide) (fun b12 => ?_) (fun b12 => ?_)
    · have h := p_ifT b12 h
      exact tB_SW_gear_32 K l v0 v1 v2 s7 _ h
    · have h := p_ifF b12 h
      refine g_iload_n (i := 2) (j := 2) (dk_SW_gear 6 rfl) rfl rfl ?_
      refine g_iconst (dk_SW_gear 7 rfl) (by decide) ?_
      refine g_icmp_lt 25 (dk_SW_gear 8 rfl) (by decide) (fun b13 => ?_) (fun b13 => ?_)
      · have h := p_ifT b13 h
        refine g_sub [(0, p_r v0)] [0] rfl ?_
        exact tB_SW_gear_25 K l v0 s7 _ h
      · have h := p_ifF b13 h
        refine g_iload_n (i := 2) (j := 2) (dk_SW_gear 9 rfl) rfl rfl ?_
        refine g_bipush (dk_SW_gear 10 rfl) (by decide +kernel) (by decide) ?_
        refine g_icmp_le 32 (dk_SW_gear 11 rfl) (by decide) (fun b14 => ?_) (fun b14 => ?_)
        · have h := p_ifT b14 h
          exact tB_SW_gear_32 K l v0 v1 v2 s7 _ h
        · have h := p_ifF b14 h
          refine g_sub [(0, p_r v0)] [0] rfl ?_
          exact tB_SW_gear_25 K l v0 s7 _ h
def m_Works_gearOf : p_Me := (⟨"SortWorks$Works", "gearOf", "(I)LSortWorks$Gear;"⟩, prog_11_method_2_code, 2, (some (.object "SortWorks$Gear")), 0, 0)
theorem mt_Works_gearOf : p_Mt m_Works_gearOf 1 := ⟨p_mem (p_tb3 (List.mem_of_getElem? (i := 106) rfl)) rfl, tw_1_2, by decide +kernel, by decide +kernel, by decide +kernel⟩
def dt_Works_gearOf : List (Nat × Instr × Nat) := [(0, .iload_n 1, 1), (1, .ifCond .lt 23, 3), (4, .iload_n 1, 1), (5, .aload_n 0, 1), (6, .getfield 53, 3), (9, .if_icmp .ge 15, 3), (12, .aload_n 0, 1), (13, .getfield 12, 3), (16, .getfield 56, 3), (19, .iload_n 1, 1), (20, .aaload, 1), (21, .goto 4, 3), (24, .aconst_null, 1), (25, .areturn, 1)]
theorem dk_Works_gearOf (i : Nat) {pc : Nat} {ins : Instr} {len : Nat} (h : dt_Works_gearOf[i]? = some (pc, ins, len)) : decode m_Works_gearOf.2.1 pc = .ok (ins, len) := p_dk (b := m_Works_gearOf.2.1) (t := dt_Works_gearOf) (by decide +kernel) i h
def F_Works_gearOf (v0 : Nat) (v1 : Int) (s0 : p_Hp) : Option (Nat × p_Hp) :=
  if v1 < 0 then
    some (0, s0)
  else
    p_gd (p_is s0 v0 9) <|
    if (p_Z s0 v0 2) ≤ v1 then
      some (0, s0)
    else
      p_gd (p_is s0 (p_R s0 v0 1) 7) <|
      p_gd (p_is s0 (p_R s0 (p_R s0 v0 1) 4) 105) <|
      p_gd ((0 : Int) ≤ v1 ∧ v1 < (p_L s0 (p_R s0 (p_R s0 v0 1) 4) : Int)) <|
      some ((p_R s0 (p_R s0 (p_R s0 v0 1) 4) (v1 : Int).toNat), s0)
set_option maxRecDepth 100000 in
set_option maxHeartbeats 4000000 in
theorem tF_Works_gearOf (K : p_K) (l : Launch) (v0 : Nat) (v1 : Int) (s0 : p_Hp) (r : (Nat × p_Hp)) (h : F_Works_gearOf v0 v1 s0 = some r) : p_Ct K l m_Works_gearOf [p_r v0, p_i v1] s0 (some (p_r r.1), r.2) := by
  refine p_Ct.of (by decide +kernel) (Nat.le_of_ble_eq_true rfl) ?_
  unfold F_Works_gearOf at h
  show p_Go K l m_Works_gearOf 0 [(0, p_r v0), (1, p_i v1)] [] s0 _
  refine g_iload_n (i := 1) (j := 1) (dk_Works_gearOf 0 rfl) rfl rfl ?_
  refine g_if_lt 24 (dk_Works_gearOf 1 rfl) (by decide) (fun b1 => ?_) (fun b1 => ?_)
  · have h := p_ifT b1 h
    refine g_aconst_null (dk_Works_gearOf 12 rfl) ?_
    cases h
    exact g_ret rfl rfl (dk_Works_gearOf 13 rfl) (fun os => ⟨_, rfl⟩)
  · have h := p_ifF b1 h
    refine g_iload_n (i := 1) (j := 1) (dk_Works_gearOf 2 rfl) rfl rfl ?_
    refine g_aload_n (i := 0) (j := 0) (dk_Works_gearOf 3 rfl) rfl rfl ?_
    obtain ⟨c2, h⟩ := p_gdE h
    refine g_getI fl_Works_53 (Or.inl rfl) (dk_Works_gearOf 4 rfl) c2 ?_
    refine g_icmp_ge 24 (dk_Works_gearOf 5 rfl) (by decide) (fun b3 => ?_) (fun b3 => ?_)
    · have h := p_ifT b3 h
      refine g_aconst_null (dk_Works_gearOf 12 rfl) ?_
      cases h
      exact g_ret rfl rfl (dk_Works_gearOf 13 rfl) (fun os => ⟨_, rfl⟩)
    · have h := p_ifF b3 h
      refine g_aload_n (i := 0) (j := 0) (dk_Works_gearOf 6 rfl) rfl rfl ?_
      refine g_getR fl_Works_12 (Or.inl ⟨_, rfl⟩) (dk_Works_gearOf 7 rfl) c2 ?_
      obtain ⟨c4, h⟩ := p_gdE h
      refine g_getR fl_Works_56 (Or.inr ⟨_, rfl⟩) (dk_Works_gearOf 8 rfl) c4 ?_
      refine g_iload_n (i := 1) (j := 1) (dk_Works_gearOf 9 rfl) rfl rfl ?_
      obtain ⟨c5, h⟩ := p_gdE h
      obtain ⟨c6, h⟩ := p_gdE h
      refine g_aaload (i := 5) rfl (Or.inl ⟨_, rfl⟩) (dk_Works_gearOf 10 rfl) c5 c6.1 c6.2 ?_
      refine g_goto 25 (dk_Works_gearOf 11 rfl) (by decide) ?_
      cases h
      exact g_ret rfl rfl (dk_Works_gearOf 13 rfl) (fun os => ⟨_, rfl⟩)
def m_Ar_fill_0 : p_Me := (⟨"java/util/Arrays", "fill", "([II)V"⟩, prog_17_method_103_code, 4, none, 0, 0)
theorem mt_Ar_fill_0 : p_Mt m_Ar_fill_0 2 := ⟨p_mem (p_tb3 (List.mem_of_getElem? (i := 109) rfl)) rfl, tw_1_13, by decide +kernel, by decide +kernel, by decide +kernel⟩
def dt_Ar_fill_0 : List (Nat × Instr × Nat) := [(0, .iconst 0, 1), (1, .istore_n 2, 1), (2, .aload_n 0, 1), (3, .arraylength, 1), (4, .istore_n 3, 1), (5, .iload_n 2, 1), (6, .iload_n 3, 1), (7, .if_icmp .ge 13, 3), (10, .aload_n 0, 1), (11, .iload_n 2, 1), (12, .iload_n 1, 1), (13, .iastore, 1), (14, .iinc 2 1, 3), (17, .goto (-12), 3), (20, .return_, 1)]
theorem dk_Ar_fill_0 (i : Nat) {pc : Nat} {ins : Instr} {len : Nat} (h : dt_Ar_fill_0[i]? = some (pc, ins, len)) : decode m_Ar_fill_0.2.1 pc = .ok (ins, len) := p_dk (b := m_Ar_fill_0.2.1) (t := dt_Ar_fill_0) (by decide +kernel) i h
def L_Ar_fill_0_5 (k5 : Nat → Int → Int → Int → p_Hp → Option p_Hp) (v0 : Nat) (v1 : Int) (v2 : Int) (v3 : Int) (s0 : p_Hp) : Option p_Hp :=
  if v3 ≤ v2 then
    some s0
  else
    p_gd (p_is s0 v0 100) <|
    p_gd ((0 : Int) ≤ v2 ∧ v2 < (p_L s0 v0 : Int)) <|
    p_bi (p_wZ s0 v0 (v2 : Int).toNat v1) fun s4 =>
    p_bi (p_w (v2 + 1)) fun x6 =>
    k5 v0 v1 x6 v3 s4
def O_Ar_fill_0_5  : Nat → Nat → Int → Int → Int → p_Hp → Option p_Hp
  | 0 => fun _ _ _ _ _ => none
  | n + 1 => L_Ar_fill_0_5 (O_Ar_fill_0_5 n)
def F_Ar_fill_0 (v0 : Nat) (v1 : Int) (s0 : p_Hp) : Option p_Hp :=
  p_gd (p_is s0 v0 100) <|
  p_bi ((p_L s0 v0 : Int)) fun x2 =>
  O_Ar_fill_0_5 3000 v0 v1 0 x2 s0
set_option maxRecDepth 100000 in
set_option maxHeartbeats 4000000 in
theorem tL_Ar_fill_0_5 (K : p_K) (l : Launch) (k5 : Nat → Int → Int → Int → p_Hp → Option p_Hp) (hk5 : ∀ (v0 : Nat) (v1 : Int) (v2 : Int) (v3 : Int)  (s0 : p_Hp) (r : p_Hp), k5 v0 v1 v2 v3 s0 = some r → p_Go K l m_Ar_fill_0 5 [(0, p_r v0), (1, p_i v1), (2, p_i v2), (3, p_i v3)] [] s0 (none, r)) (v0 : Nat) (v1 : Int) (v2 : Int) (v3 : Int) (s0 : p_Hp) (r : p_Hp) (h : L_Ar_fill_0_5 k5 v0 v1 v2 v3 s0 = some r) : p_Go K l m_Ar_fill_0 5 [(0, p_r v0), (1, p_i v1), (2, p_i v2), (3, p_i v3)] [] s0 (none, r) := by
  unfold L_Ar_fill_0_5 at h
  refine g_iload_n (i := 2) (j := 2) (dk_Ar_fill_0 5 rfl) rfl rfl ?_
  refine g_iload_n (i := 3) (j := 3) (dk_Ar_fill_0 6 rfl) rfl rfl ?_
  refine g_icmp_ge 20 (dk_Ar_fill_0 7 rfl) (by decide) (fun b1 => ?_) (fun b1 => ?_)
  · have h := p_ifT b1 h
    cases h
    exact g_ret rfl rfl (dk_Ar_fill_0 14 rfl) (fun _ => rfl)
  · have h := p_ifF b1 h
    refine g_aload_n (i := 0) (j := 0) (dk_Ar_fill_0 8 rfl) rfl rfl ?_
    refine g_iload_n (i := 2) (j := 2) (dk_Ar_fill_0 9 rfl) rfl rfl ?_
    refine g_iload_n (i := 1) (j := 1) (dk_Ar_fill_0 10 rfl) rfl rfl ?_
    obtain ⟨c2, h⟩ := p_gdE h
    obtain ⟨c3, h⟩ := p_gdE h
    refine g_iastore (dk_Ar_fill_0 11 rfl) c2 c3.1 c3.2 ?_
    refine p_ltS (P := fun q => p_Go K l m_Ar_fill_0 14 [(0, p_r v0), (1, p_i v1), (2, p_i v2), (3, p_i v3)] [] q _) (p_xZ _ _ _ _) ?_ h
    intro s4 hs5 h
    refine g_iinc (j := 2) [(2, p_i (p_w (v2 + 1))), (0, p_r v0), (1, p_i v1), (3, p_i v3)] (dk_Ar_fill_0 12 rfl) rfl (by decide) rfl ?_
    refine p_ltG (P := fun q => p_Go K l m_Ar_fill_0 17 [(2, p_i q), (0, p_r v0), (1, p_i v1), (3, p_i v3)] [] s4 _) ?_ h
    intro x6 h
    refine g_goto 5 (dk_Ar_fill_0 13 rfl) (by decide) ?_
    refine g_sub [(0, p_r v0), (1, p_i v1), (2, p_i x6), (3, p_i v3)] [1, 2, 0, 3] rfl ?_
    exact hk5 v0 v1 x6 v3 s4 _ h
set_option maxRecDepth 100000 in
set_option maxHeartbeats 4000000 in
theorem tO_Ar_fill_0_5 (K : p_K) (l : Launch)  : ∀ (n : Nat) (v0 : Nat) (v1 : Int) (v2 : Int) (v3 : Int) (s0 : p_Hp) (r : p_Hp), O_Ar_fill_0_5 n v0 v1 v2 v3 s0 = some r → p_Go K l m_Ar_fill_0 5 [(0, p_r v0), (1, p_i v1), (2, p_i v2), (3, p_i v3)] [] s0 (none, r) := by
  intro n
  induction n with
  | zero => intro v0 v1 v2 v3 s0 r h; cases (show (none : Option p_Hp) = some r from h)
  | succ n ih => intro v0 v1 v2 v3 s0 r h; exact tL_Ar_fill_0_5 K l _ ih v0 v1 v2 v3 s0 r h
set_option maxRecDepth 100000 in
set_option maxHeartbeats 4000000 in
theorem tF_Ar_fill_0 (K : p_K) (l : Launch) (v0 : Nat) (v1 : Int) (s0 : p_Hp) (r : p_Hp) (h : F_Ar_fill_0 v0 v1 s0 = some r) : p_Ct K l m_Ar_fill_0 [p_r v0, p_i v1] s0 (none, r) := by
  refine p_Ct.of (by decide +kernel) (Nat.le_of_ble_eq_true rfl) ?_
  unfold F_Ar_fill_0 at h
  show p_Go K l m_Ar_fill_0 0 [(0, p_r v0), (1, p_i v1)] [] s0 _
  refine g_iconst (dk_Ar_fill_0 0 rfl) (by decide) ?_
  refine g_istore_n (i := 2) [(2, p_i 0), (0, p_r v0), (1, p_i v1)] (dk_Ar_fill_0 1 rfl) rfl (by decide) rfl ?_
  refine g_aload_n (i := 0) (j := 1) (dk_Ar_fill_0 2 rfl) rfl rfl ?_
  obtain ⟨c1, h⟩ := p_gdE h
  refine g_alen (i := 0) rfl (dk_Ar_fill_0 3 rfl) c1 ?_
  refine g_istore_n (i := 3) [(3, p_i (p_L s0 v0 : Int)), (2, p_i 0), (0, p_r v0), (1, p_i v1)] (dk_Ar_fill_0 4 rfl) rfl (by decide) rfl ?_
  refine p_ltG (P := fun q => p_Go K l m_Ar_fill_0 5 [(3, p_i q), (2, p_i 0), (0, p_r v0), (1, p_i v1)] [] s0 _) ?_ h
  intro x2 h
  refine g_sub [(0, p_r v0), (1, p_i v1), (2, p_i 0), (3, p_i x2)] [2, 3, 1, 0] rfl ?_
  exact tO_Ar_fill_0_5 K l 3000 v0 v1 0 x2 s0 _ h
def m_SW_links : p_Me := (⟨"SortWorks", "links", "(II)I"⟩, prog_1_method_7_code, 4, (some .int), 2, 42)
theorem mt_SW_links : p_Mt m_SW_links 2 := ⟨p_mem (p_tb3 (List.mem_of_getElem? (i := 102) rfl)) rfl, tw_1_1, by decide +kernel, by decide +kernel, by decide +kernel⟩
def dt_SW_links : List (Nat × Instr × Nat) := [(0, .aload_n 0, 1), (1, .getfield 18, 3), (4, .iload_n 1, 1), (5, .invokevirtual 98, 3), (8, .astore_n 3, 1), (9, .aload_n 3, 1), (10, .ifnonnull 9, 3), (13, .aload_n 0, 1), (14, .iconst (-1), 1), (15, .invokevirtual 61, 3), (18, .ireturn, 1), (19, .iload_n 2, 1), (20, .iconst 3, 1), (21, .if_icmp .le 10, 3), (24, .aload_n 0, 1), (25, .bipush (-2), 2), (27, .invokevirtual 61, 3), (30, .ireturn, 1), (31, .iload_n 2, 1), (32, .iconst (-1), 1), (33, .if_icmp .ge 10, 3), (36, .aload_n 0, 1), (37, .bipush (-15), 2), (39, .invokevirtual 61, 3), (42, .ireturn, 1), (43, .aload_n 3, 1), (44, .getfield 102, 3), (47, .iconst (-1), 1), (48, .invokestatic 105, 3), (51, .aload_n 3, 1), (52, .iload_n 2, 1), (53, .putfield 111, 3), (56, .aload_n 0, 1), (57, .iload_n 2, 1), (58, .invokevirtual 95, 3), (61, .ireturn, 1)]
theorem dk_SW_links (i : Nat) {pc : Nat} {ins : Instr} {len : Nat} (h : dt_SW_links[i]? = some (pc, ins, len)) : decode m_SW_links.2.1 pc = .ok (ins, len) := p_dk (b := m_SW_links.2.1) (t := dt_SW_links) (by decide +kernel) i h
def F_SW_links (v0 : Nat) (v1 : Int) (v2 : Int) (s0 : p_Hp) : Option (Int × p_Hp) :=
  p_gd (p_is s0 v0 10) <|
  p_gd (p_is s0 (p_R s0 v0 1) 9) <|
  p_bd (F_Works_gearOf (p_R s0 v0 1) v1 s0) fun r7 s3 =>
  if r7 ≠ 0 then
    if v2 ≤ 3 then
      if (-1) ≤ v2 then
        p_gd (p_is s3 r7 0) <|
        p_bv (F_Ar_fill_0 (p_R s3 r7 4) (-1) s3) fun s12 =>
        p_bi (p_wZ s12 r7 3 v2) fun s16 =>
        p_bd (F_SW_built v0 v2 s16) fun r22 s18 =>
        some (r22, s18)
      else
        p_bd (F_SW_refuse v0 (-15) s3) fun r27 s23 =>
        some (r27, s23)
    else
      p_bd (F_SW_refuse v0 (-2) s3) fun r32 s28 =>
      some (r32, s28)
  else
    p_bd (F_SW_refuse v0 (-1) s3) fun r37 s33 =>
    some (r37, s33)
set_option maxRecDepth 100000 in
set_option maxHeartbeats 4000000 in
theorem tF_SW_links (K : p_K) (l : Launch) (v0 : Nat) (v1 : Int) (v2 : Int) (s0 : p_Hp) (r : (Int × p_Hp)) (h : F_SW_links v0 v1 v2 s0 = some r) : p_Ct K l m_SW_links [p_r v0, p_i v1, p_i v2] s0 (some (p_i r.1), r.2) := by
  refine p_Ct.of (by decide +kernel) (Nat.le_of_ble_eq_true rfl) ?_
  unfold F_SW_links at h
  show p_Go K l m_SW_links 0 [(0, p_r v0), (1, p_i v1), (2, p_i v2)] [] s0 _
  refine g_aload_n (i := 0) (j := 0) (dk_SW_links 0 rfl) rfl rfl ?_
  obtain ⟨c1, h⟩ := p_gdE h
  refine g_getR fl_SW_18 (Or.inl ⟨_, rfl⟩) (dk_SW_links 1 rfl) c1 ?_
  refine g_iload_n (i := 1) (j := 1) (dk_SW_links 2 rfl) rfl rfl ?_
  obtain ⟨c2, h⟩ := p_gdE h
  obtain ⟨r7, s3, q4, h⟩ := p_bdE h
  have t5 := tF_Works_gearOf K l (p_R s0 v0 1) v1 s0 _ q4
  refine g_callV (a := (p_R s0 v0 1)) (ci := 9) (q0 := (RX9, TX9, 15)) (As := [p_i v1]) (rest := []) [p_r r7] mt_Works_gearOf rfl rfl tw_3_104 tw_3_105 tw_3_103 ⟨Nat.le_of_ble_eq_true rfl, Nat.le_of_ble_eq_true rfl⟩ rfl (Nat.le_of_ble_eq_true rfl) (dk_SW_links 3 rfl) rfl c2 rfl t5 ?_
  have hs6 : p_x s0 s3 := t5.1
  show p_Go K l m_SW_links 8 [(0, p_r v0), (1, p_i v1), (2, p_i v2)] [p_r r7] s3 _
  refine g_astore_n (i := 3) [(3, p_r r7), (0, p_r v0), (1, p_i v1), (2, p_i v2)] (dk_SW_links 4 rfl) rfl (by decide) rfl ?_
  refine g_aload_n (i := 3) (j := 0) (dk_SW_links 5 rfl) rfl rfl ?_
  refine g_ifnonnull 19 (dk_SW_links 6 rfl) (by decide) (fun b8 => ?_) (fun b8 => ?_)
  · have h := p_ifT b8 h
    refine g_iload_n (i := 2) (j := 3) (dk_SW_links 11 rfl) rfl rfl ?_
    refine g_iconst (dk_SW_links 12 rfl) (by decide) ?_
    refine g_icmp_le 31 (dk_SW_links 13 rfl) (by decide) (fun b9 => ?_) (fun b9 => ?_)
    · have h := p_ifT b9 h
      refine g_iload_n (i := 2) (j := 3) (dk_SW_links 18 rfl) rfl rfl ?_
      refine g_iconst (dk_SW_links 19 rfl) (by decide) ?_
      refine g_icmp_ge 43 (dk_SW_links 20 rfl) (by decide) (fun b10 => ?_) (fun b10 => ?_)
      · have h := p_ifT b10 h
        refine g_aload_n (i := 3) (j := 0) (dk_SW_links 25 rfl) rfl rfl ?_
        obtain ⟨c11, h⟩ := p_gdE h
        refine g_getR fl_SW_102 (Or.inr ⟨_, rfl⟩) (dk_SW_links 26 rfl) c11 ?_
        refine g_iconst (dk_SW_links 27 rfl) (by decide) ?_
        obtain ⟨s12, q13, h⟩ := p_bvE h
        have t14 := tF_Ar_fill_0 K l (p_R s3 r7 4) (-1) s3 _ q13
        refine g_callS (av := [p_r (p_R s3 r7 4), p_i (-1)]) (rest := []) [] mt_Ar_fill_0 tw_3_108 tw_3_107 ⟨Nat.le_of_ble_eq_true rfl, Nat.le_of_ble_eq_true rfl⟩ rfl (Nat.le_of_ble_eq_true rfl) (dk_SW_links 28 rfl) rfl rfl t14 ?_
        have hs15 : p_x s3 s12 := t14.1
        show p_Go K l m_SW_links 51 [(3, p_r r7), (0, p_r v0), (1, p_i v1), (2, p_i v2)] [] s12 _
        refine g_aload_n (i := 3) (j := 0) (dk_SW_links 29 rfl) rfl rfl ?_
        refine g_iload_n (i := 2) (j := 3) (dk_SW_links 30 rfl) rfl rfl ?_
        refine g_putI fl_SW_111 (Or.inl rfl) (dk_SW_links 31 rfl) (c11.up hs15) ?_
        refine p_ltS (P := fun q => p_Go K l m_SW_links 56 [(3, p_r r7), (0, p_r v0), (1, p_i v1), (2, p_i v2)] [] q _) (p_xZ _ _ _ _) ?_ h
        intro s16 hs17 h
        refine g_aload_n (i := 0) (j := 1) (dk_SW_links 32 rfl) rfl rfl ?_
        refine g_iload_n (i := 2) (j := 3) (dk_SW_links 33 rfl) rfl rfl ?_
        obtain ⟨r22, s18, q19, h⟩ := p_bdE h
        have t20 := tF_SW_built K l v0 v2 s16 _ q19
        refine g_callV (a := v0) (ci := 10) (q0 := (RX10, TX10, 9)) (As := [p_i v2]) (rest := []) [p_i r22] mt_SW_built rfl rfl tw_3_93 ts_2 tw_3_91 ⟨Nat.le_of_ble_eq_true rfl, Nat.le_of_ble_eq_true rfl⟩ rfl (Nat.le_of_ble_eq_true rfl) (dk_SW_links 34 rfl) rfl (c1.up (hs6.trans (hs15.trans hs17))) rfl t20 ?_
        have hs21 : p_x s16 s18 := t20.1
        show p_Go K l m_SW_links 61 [(3, p_r r7), (0, p_r v0), (1, p_i v1), (2, p_i v2)] [p_i r22] s18 _
        cases h
        exact g_ret rfl rfl (dk_SW_links 35 rfl) (fun os => ⟨_, rfl, p_okh os⟩)
      · have h := p_ifF b10 h
        refine g_aload_n (i := 0) (j := 1) (dk_SW_links 21 rfl) rfl rfl ?_
        refine g_bipush (dk_SW_links 22 rfl) (by decide +kernel) (by decide) ?_
        obtain ⟨r27, s23, q24, h⟩ := p_bdE h
        have t25 := tF_SW_refuse K l v0 (-15) s3 _ q24
        refine g_callV (a := v0) (ci := 10) (q0 := (RX10, TX10, 9)) (As := [p_i (-15)]) (rest := []) [p_i r27] mt_SW_refuse rfl rfl tw_3_66 ts_0 tw_3_64 ⟨Nat.le_of_ble_eq_true rfl, Nat.le_of_ble_eq_true rfl⟩ rfl (Nat.le_of_ble_eq_true rfl) (dk_SW_links 23 rfl) rfl (c1.up hs6) rfl t25 ?_
        have hs26 : p_x s3 s23 := t25.1
        show p_Go K l m_SW_links 42 [(3, p_r r7), (0, p_r v0), (1, p_i v1), (2, p_i v2)] [p_i r27] s23 _
        cases h
        exact g_ret rfl rfl (dk_SW_links 24 rfl) (fun os => ⟨_, rfl, p_okh os⟩)
    · have h := p_ifF b9 h
      refine g_aload_n (i := 0) (j := 1) (dk_SW_links 14 rfl) rfl rfl ?_
      refine g_bipush (dk_SW_links 15 rfl) (by decide +kernel) (by decide) ?_
      obtain ⟨r32, s28, q29, h⟩ := p_bdE h
      have t30 := tF_SW_refuse K l v0 (-2) s3 _ q29
      refine g_callV (a := v0) (ci := 10) (q0 := (RX10, TX10, 9)) (As := [p_i (-2)]) (rest := []) [p_i r32] mt_SW_refuse rfl rfl tw_3_66 ts_0 tw_3_64 ⟨Nat.le_of_ble_eq_true rfl, Nat.le_of_ble_eq_true rfl⟩ rfl (Nat.le_of_ble_eq_true rfl) (dk_SW_links 16 rfl) rfl (c1.up hs6) rfl t30 ?_
      have hs31 : p_x s3 s28 := t30.1
      show p_Go K l m_SW_links 30 [(3, p_r r7), (0, p_r v0), (1, p_i v1), (2, p_i v2)] [p_i r32] s28 _
      cases h
      exact g_ret rfl rfl (dk_SW_links 17 rfl) (fun os => ⟨_, rfl, p_okh os⟩)
  · have h := p_ifF b8 h
    refine g_aload_n (i := 0) (j := 1) (dk_SW_links 7 rfl) rfl rfl ?_
    refine g_iconst (dk_SW_links 8 rfl) (by decide) ?_
    obtain ⟨r37, s33, q34, h⟩ := p_bdE h
    have t35 := tF_SW_refuse K l v0 (-1) s3 _ q34
    refine g_callV (a := v0) (ci := 10) (q0 := (RX10, TX10, 9)) (As := [p_i (-1)]) (rest := []) [p_i r37] mt_SW_refuse rfl rfl tw_3_66 ts_0 tw_3_64 ⟨Nat.le_of_ble_eq_true rfl, Nat.le_of_ble_eq_true rfl⟩ rfl (Nat.le_of_ble_eq_true rfl) (dk_SW_links 9 rfl) rfl (c1.up hs6) rfl t35 ?_
    have hs36 : p_x s3 s33 := t35.1
    show p_Go K l m_SW_links 18 [(3, p_r r7), (0, p_r v0), (1, p_i v1), (2, p_i v2)] [p_i r37] s33 _
    cases h
    exact g_ret rfl rfl (dk_SW_links 10 rfl) (fun os => ⟨_, rfl, p_okh os⟩)
def m_SW_link : p_Me := (⟨"SortWorks", "link", "(III)I"⟩, prog_1_method_8_code, 5, (some .int), 2, 42)
theorem mt_SW_link : p_Mt m_SW_link 3 := ⟨p_mem (p_tb3 (List.mem_of_getElem? (i := 113) rfl)) rfl, tw_1_1, by decide +kernel, by decide +kernel, by decide +kernel⟩
def dt_SW_link : List (Nat × Instr × Nat) := [(0, .aload_n 0, 1), (1, .getfield 18, 3), (4, .iload_n 1, 1), (5, .invokevirtual 98, 3), (8, .astore 4, 2), (10, .aload 4, 2), (12, .ifnonnull 9, 3), (15, .aload_n 0, 1), (16, .iconst (-1), 1), (17, .invokevirtual 61, 3), (20, .ireturn, 1), (21, .iload_n 3, 1), (22, .iconst (-1), 1), (23, .if_icmp .lt 9, 3), (26, .iload_n 3, 1), (27, .bipush 40, 2), (29, .if_icmp .lt 10, 3), (32, .aload_n 0, 1), (33, .bipush (-2), 2), (35, .invokevirtual 61, 3), (38, .ireturn, 1), (39, .aload 4, 2), (41, .getfield 111, 3), (44, .iconst (-1), 1), (45, .if_icmp .ne 10, 3), (48, .aload_n 0, 1), (49, .bipush (-11), 2), (51, .invokevirtual 61, 3), (54, .ireturn, 1), (55, .iload_n 2, 1), (56, .ifCond .lt 12, 3), (59, .iload_n 2, 1), (60, .aload 4, 2), (62, .getfield 111, 3), (65, .if_icmp .lt 10, 3), (68, .aload_n 0, 1), (69, .bipush (-13), 2), (71, .invokevirtual 61, 3), (74, .ireturn, 1), (75, .aload 4, 2), (77, .getfield 102, 3), (80, .iload_n 2, 1), (81, .iload_n 3, 1), (82, .iastore, 1), (83, .aload_n 0, 1), (84, .iconst 1, 1), (85, .invokevirtual 95, 3), (88, .ireturn, 1)]
theorem dk_SW_link (i : Nat) {pc : Nat} {ins : Instr} {len : Nat} (h : dt_SW_link[i]? = some (pc, ins, len)) : decode m_SW_link.2.1 pc = .ok (ins, len) := p_dk (b := m_SW_link.2.1) (t := dt_SW_link) (by decide +kernel) i h
def B_SW_link_32  (v0 : Nat) (s0 : p_Hp) : Option (Int × p_Hp) :=
  p_gd (p_is s0 v0 10) <|
  p_bd (F_SW_refuse v0 (-2) s0) fun r6 s2 =>
  some (r6, s2)
def B_SW_link_68  (v0 : Nat) (s0 : p_Hp) : Option (Int × p_Hp) :=
  p_gd (p_is s0 v0 10) <|
  p_bd (F_SW_refuse v0 (-13) s0) fun r6 s2 =>
  some (r6, s2)
def F_SW_link (v0 : Nat) (v1 : Int) (v2 : Int) (v3 : Int) (s0 : p_Hp) : Option (Int × p_Hp) :=
  p_gd (p_is s0 v0 10) <|
  p_gd (p_is s0 (p_R s0 v0 1) 9) <|
  p_bd (F_Works_gearOf (p_R s0 v0 1) v1 s0) fun r7 s3 =>
  if r7 ≠ 0 then
    if v3 < (-1) then
      B_SW_link_32 v0 s3
    else
      if v3 < 40 then
        p_gd (p_is s3 r7 0) <|
        if (p_Z s3 r7 3) ≠ (-1) then
          if v2 < 0 then
            B_SW_link_68 v0 s3
          else
            if v2 < (p_Z s3 r7 3) then
              p_gd (p_is s3 (p_R s3 r7 4) 100) <|
              p_gd ((0 : Int) ≤ v2 ∧ v2 < (p_L s3 (p_R s3 r7 4) : Int)) <|
              p_bi (p_wZ s3 (p_R s3 r7 4) (v2 : Int).toNat v3) fun s17 =>
              p_bd (F_SW_built v0 1 s17) fun r23 s19 =>
              some (r23, s19)
            else
              B_SW_link_68 v0 s3
        else
          p_bd (F_SW_refuse v0 (-11) s3) fun r28 s24 =>
          some (r28, s24)
      else
        B_SW_link_32 v0 s3
  else
    p_bd (F_SW_refuse v0 (-1) s3) fun r33 s29 =>
    some (r33, s29)
set_option maxRecDepth 100000 in
set_option maxHeartbeats 4000000 in
theorem tB_SW_link_32 (K : p_K) (l : Launch)  (v0 : Nat) (s0 : p_Hp) (r : (Int × p_Hp)) (h : B_SW_link_32 v0 s0 = some r) : p_Go K l m_SW_link 32 [(0, p_r v0)] [] s0 (some (p_i r.1), r.2) := by
  unfold B_SW_link_32 at h
  refine g_aload_n (i := 0) (j := 0) (dk_SW_link 17 rfl) rfl rfl ?_
  refine g_bipush (dk_SW_link 18 rfl) (by decide +kernel) (by decide) ?_
  obtain ⟨c1, h⟩ := p_gdE h
  obtain ⟨r6, s2, q3, h⟩ := p_bdE h
  have t4 := tF_SW_refuse K l v0 (-2) s0 _ q3
  refine g_callV (a := v0) (ci := 10) (q0 := (RX10, TX10, 9)) (As := [p_i (-2)]) (rest := []) [p_i r6] mt_SW_refuse rfl rfl tw_3_66 ts_0 tw_3_64 ⟨Nat.le_of_ble_eq_true rfl, Nat.le_of_ble_eq_true rfl⟩ rfl (Nat.le_of_ble_eq_true rfl) (dk_SW_link 19 rfl) rfl c1 rfl t4 ?_
  have hs5 : p_x s0 s2 := t4.1
  show p_Go K l m_SW_link 38 [(0, p_r v0)] [p_i r6] s2 _
  cases h
  exact g_ret rfl rfl (dk_SW_link 20 rfl) (fun os => ⟨_, rfl, p_okh os⟩)
set_option maxRecDepth 100000 in
set_option maxHeartbeats 4000000 in
theorem tB_SW_link_68 (K : p_K) (l : Launch)  (v0 : Nat) (s0 : p_Hp) (r : (Int × p_Hp)) (h : B_SW_link_68 v0 s0 = some r) : p_Go K l m_SW_link 68 [(0, p_r v0)] [] s0 (some (p_i r.1), r.2) := by
  unfold B_SW_link_68 at h
  refine g_aload_n (i := 0) (j := 0) (dk_SW_link 35 rfl) rfl rfl ?_
  refine g_bipush (dk_SW_link 36 rfl) (by decide +kernel) (by decide) ?_
  obtain ⟨c1, h⟩ := p_gdE h
  obtain ⟨r6, s2, q3, h⟩ := p_bdE h
  have t4 := tF_SW_refuse K l v0 (-13) s0 _ q3
  refine g_callV (a := v0) (ci := 10) (q0 := (RX10, TX10, 9)) (As := [p_i (-13)]) (rest := []) [p_i r6] mt_SW_refuse rfl rfl tw_3_66 ts_0 tw_3_64 ⟨Nat.le_of_ble_eq_true rfl, Nat.le_of_ble_eq_true rfl⟩ rfl (Nat.le_of_ble_eq_true rfl) (dk_SW_link 37 rfl) rfl c1 rfl t4 ?_
  have hs5 : p_x s0 s2 := t4.1
  show p_Go K l m_SW_link 74 [(0, p_r v0)] [p_i r6] s2 _
  cases h
  exact g_ret rfl rfl (dk_SW_link 38 rfl) (fun os => ⟨_, rfl, p_okh os⟩)
set_option maxRecDepth 100000 in
set_option maxHeartbeats 4000000 in
theorem tF_SW_link (K : p_K) (l : Launch) (v0 : Nat) (v1 : Int) (v2 : Int) (v3 : Int) (s0 : p_Hp) (r : (Int × p_Hp)) (h : F_SW_link v0 v1 v2 v3 s0 = some r) : p_Ct K l m_SW_link [p_r v0, p_i v1, p_i v2, p_i v3] s0 (some (p_i r.1), r.2) := by
  refine p_Ct.of (by decide +kernel) (Nat.le_of_ble_eq_true rfl) ?_
  unfold F_SW_link at h
  show p_Go K l m_SW_link 0 [(0, p_r v0), (1, p_i v1), (2, p_i v2), (3, p_i v3)] [] s0 _
  refine g_aload_n (i := 0) (j := 0) (dk_SW_link 0 rfl) rfl rfl ?_
  obtain ⟨c1, h⟩ := p_gdE h
  refine g_getR fl_SW_18 (Or.inl ⟨_, rfl⟩) (dk_SW_link 1 rfl) c1 ?_
  refine g_iload_n (i := 1) (j := 1) (dk_SW_link 2 rfl) rfl rfl ?_
  obtain ⟨c2, h⟩ := p_gdE h
  obtain ⟨r7, s3, q4, h⟩ := p_bdE h
  have t5 := tF_Works_gearOf K l (p_R s0 v0 1) v1 s0 _ q4
  refine g_callV (a := (p_R s0 v0 1)) (ci := 9) (q0 := (RX9, TX9, 15)) (As := [p_i v1]) (rest := []) [p_r r7] mt_Works_gearOf rfl rfl tw_3_104 tw_3_105 tw_3_103 ⟨Nat.le_of_ble_eq_true rfl, Nat.le_of_ble_eq_true rfl⟩ rfl (Nat.le_of_ble_eq_true rfl) (dk_SW_link 3 rfl) rfl c2 rfl t5 ?_
  have hs6 : p_x s0 s3 := t5.1
  show p_Go K l m_SW_link 8 [(0, p_r v0), (1, p_i v1), (2, p_i v2), (3, p_i v3)] [p_r r7] s3 _
  refine g_astore [(4, p_r r7), (0, p_r v0), (1, p_i v1), (2, p_i v2), (3, p_i v3)] (dk_SW_link 4 rfl) (by decide) rfl ?_
  refine g_aload (j := 0) (dk_SW_link 5 rfl) rfl ?_
  refine g_ifnonnull 21 (dk_SW_link 6 rfl) (by decide) (fun b8 => ?_) (fun b8 => ?_)
  · have h := p_ifT b8 h
    refine g_iload_n (i := 3) (j := 4) (dk_SW_link 11 rfl) rfl rfl ?_
    refine g_iconst (dk_SW_link 12 rfl) (by decide) ?_
    refine g_icmp_lt 32 (dk_SW_link 13 rfl) (by decide) (fun b9 => ?_) (fun b9 => ?_)
    · have h := p_ifT b9 h
      refine g_sub [(0, p_r v0)] [1] rfl ?_
      exact tB_SW_link_32 K l v0 s3 _ h
    · have h := p_ifF b9 h
      refine g_iload_n (i := 3) (j := 4) (dk_SW_link 14 rfl) rfl rfl ?_
      refine g_bipush (dk_SW_link 15 rfl) (by decide +kernel) (by decide) ?_
      refine g_icmp_lt 39 (dk_SW_link 16 rfl) (by decide) (fun b10 => ?_) (fun b10 => ?_)
      · have h := p_ifT b10 h
        refine g_aload (j := 0) (dk_SW_link 21 rfl) rfl ?_
        obtain ⟨c11, h⟩ := p_gdE h
        refine g_getI fl_SW_111 (Or.inl rfl) (dk_SW_link 22 rfl) c11 ?_
        refine g_iconst (dk_SW_link 23 rfl) (by decide) ?_
        refine g_icmp_ne 55 (dk_SW_link 24 rfl) (by decide) (fun b12 => ?_) (fun b12 => ?_)
        · have h := p_ifT b12 h
          refine g_iload_n (i := 2) (j := 3) (dk_SW_link 29 rfl) rfl rfl ?_
          refine g_if_lt 68 (dk_SW_link 30 rfl) (by decide) (fun b13 => ?_) (fun b13 => ?_)
          · have h := p_ifT b13 h
            refine g_sub [(0, p_r v0)] [1] rfl ?_
            exact tB_SW_link_68 K l v0 s3 _ h
          · have h := p_ifF b13 h
            refine g_iload_n (i := 2) (j := 3) (dk_SW_link 31 rfl) rfl rfl ?_
            refine g_aload (j := 0) (dk_SW_link 32 rfl) rfl ?_
            refine g_getI fl_SW_111 (Or.inl rfl) (dk_SW_link 33 rfl) c11 ?_
            refine g_icmp_lt 75 (dk_SW_link 34 rfl) (by decide) (fun b14 => ?_) (fun b14 => ?_)
            · have h := p_ifT b14 h
              refine g_aload (j := 0) (dk_SW_link 39 rfl) rfl ?_
              refine g_getR fl_SW_102 (Or.inr ⟨_, rfl⟩) (dk_SW_link 40 rfl) c11 ?_
              refine g_iload_n (i := 2) (j := 3) (dk_SW_link 41 rfl) rfl rfl ?_
              refine g_iload_n (i := 3) (j := 4) (dk_SW_link 42 rfl) rfl rfl ?_
              obtain ⟨c15, h⟩ := p_gdE h
              obtain ⟨c16, h⟩ := p_gdE h
              refine g_iastore (dk_SW_link 43 rfl) c15 c16.1 c16.2 ?_
              refine p_ltS (P := fun q => p_Go K l m_SW_link 83 [(4, p_r r7), (0, p_r v0), (1, p_i v1), (2, p_i v2), (3, p_i v3)] [] q _) (p_xZ _ _ _ _) ?_ h
              intro s17 hs18 h
              refine g_aload_n (i := 0) (j := 1) (dk_SW_link 44 rfl) rfl rfl ?_
              refine g_iconst (dk_SW_link 45 rfl) (by decide) ?_
              obtain ⟨r23, s19, q20, h⟩ := p_bdE h
              have t21 := tF_SW_built K l v0 1 s17 _ q20
              refine g_callV (a := v0) (ci := 10) (q0 := (RX10, TX10, 9)) (As := [p_i 1]) (rest := []) [p_i r23] mt_SW_built rfl rfl tw_3_93 ts_2 tw_3_91 ⟨Nat.le_of_ble_eq_true rfl, Nat.le_of_ble_eq_true rfl⟩ rfl (Nat.le_of_ble_eq_true rfl) (dk_SW_link 46 rfl) rfl (c1.up (hs6.trans hs18)) rfl t21 ?_
              have hs22 : p_x s17 s19 := t21.1
              show p_Go K l m_SW_link 88 [(4, p_r r7), (0, p_r v0), (1, p_i v1), (2, p_i v2), (3, p_i v3)] [p_i r23] s19 _
              cases h
              exact g_ret rfl rfl (dk_SW_link 47 rfl) (fun os => ⟨_, rfl, p_okh os⟩)
            · have h := p_ifF b14 h
              refine g_sub [(0, p_r v0)] [1] rfl ?_
              exact tB_SW_link_68 K l v0 s3 _ h
        · have h := p_ifF b12 h
          refine g_aload_n (i := 0) (j := 1) (dk_SW_link 25 rfl) rfl rfl ?_
          refine g_bipush (dk_SW_link 26 rfl) (by decide +kernel) (by decide) ?_
          obtain ⟨r28, s24, q25, h⟩ := p_bdE h
          have t26 := tF_SW_refuse K l v0 (-11) s3 _ q25
          refine g_callV (a := v0) (ci := 10) (q0 := (RX10, TX10, 9)) (As := [p_i (-11)]) (rest := []) [p_i r28] mt_SW_refuse rfl rfl tw_3_66 ts_0 tw_3_64 ⟨Nat.le_of_ble_eq_true rfl, Nat.le_of_ble_eq_true rfl⟩ rfl (Nat.le_of_ble_eq_true rfl) (dk_SW_link 27 rfl) rfl (c1.up hs6) rfl t26 ?_
          have hs27 : p_x s3 s24 := t26.1
          show p_Go K l m_SW_link 54 [(4, p_r r7), (0, p_r v0), (1, p_i v1), (2, p_i v2), (3, p_i v3)] [p_i r28] s24 _
          cases h
          exact g_ret rfl rfl (dk_SW_link 28 rfl) (fun os => ⟨_, rfl, p_okh os⟩)
      · have h := p_ifF b10 h
        refine g_sub [(0, p_r v0)] [1] rfl ?_
        exact tB_SW_link_32 K l v0 s3 _ h
  · have h := p_ifF b8 h
    refine g_aload_n (i := 0) (j := 1) (dk_SW_link 7 rfl) rfl rfl ?_
    refine g_iconst (dk_SW_link 8 rfl) (by decide) ?_
    obtain ⟨r33, s29, q30, h⟩ := p_bdE h
    have t31 := tF_SW_refuse K l v0 (-1) s3 _ q30
    refine g_callV (a := v0) (ci := 10) (q0 := (RX10, TX10, 9)) (As := [p_i (-1)]) (rest := []) [p_i r33] mt_SW_refuse rfl rfl tw_3_66 ts_0 tw_3_64 ⟨Nat.le_of_ble_eq_true rfl, Nat.le_of_ble_eq_true rfl⟩ rfl (Nat.le_of_ble_eq_true rfl) (dk_SW_link 9 rfl) rfl (c1.up hs6) rfl t31 ?_
    have hs32 : p_x s3 s29 := t31.1
    show p_Go K l m_SW_link 20 [(4, p_r r7), (0, p_r v0), (1, p_i v1), (2, p_i v2), (3, p_i v3)] [p_i r33] s29 _
    cases h
    exact g_ret rfl rfl (dk_SW_link 10 rfl) (fun os => ⟨_, rfl, p_okh os⟩)
def m_Gear_aimAt : p_Me := (⟨"SortWorks$Gear", "aimAt", "(IIZ)V"⟩, prog_2_method_18_code, 6, none, 0, 0)
theorem mt_Gear_aimAt : p_Mt m_Gear_aimAt 3 := ⟨p_mem (p_tb3 (List.mem_of_getElem? (i := 135) rfl)) rfl, tw_1_5, by decide +kernel, by decide +kernel, by decide +kernel⟩
def dt_Gear_aimAt : List (Nat × Instr × Nat) := [(0, .lconst 1, 1), (1, .iload_n 2, 1), (2, .lshl, 1), (3, .lstore 4, 2), (5, .aload_n 0, 1), (6, .getfield 19, 3), (9, .iload_n 1, 1), (10, .iload_n 3, 1), (11, .ifCond .eq 15, 3), (14, .aload_n 0, 1), (15, .getfield 19, 3), (18, .iload_n 1, 1), (19, .laload, 1), (20, .lload 4, 2), (22, .lor, 1), (23, .goto 16, 3), (26, .aload_n 0, 1), (27, .getfield 19, 3), (30, .iload_n 1, 1), (31, .laload, 1), (32, .lload 4, 2), (34, .ldc2_w 117, 3), (37, .lxor, 1), (38, .land, 1), (39, .lastore, 1), (40, .return_, 1)]
theorem dk_Gear_aimAt (i : Nat) {pc : Nat} {ins : Instr} {len : Nat} (h : dt_Gear_aimAt[i]? = some (pc, ins, len)) : decode m_Gear_aimAt.2.1 pc = .ok (ins, len) := p_dk (b := m_Gear_aimAt.2.1) (t := dt_Gear_aimAt) (by decide +kernel) i h
def F_Gear_aimAt (v0 : Nat) (v1 : Int) (v2 : Int) (v3 : Int) (s0 : p_Hp) : Option p_Hp :=
  p_bi ((p_shl6 1 v2)) fun x1 =>
  p_gd (p_is s0 v0 0) <|
  if v3 = 0 then
    p_gd (p_is s0 (p_R s0 v0 5) 101) <|
    p_gd ((0 : Int) ≤ v1 ∧ v1 < (p_L s0 (p_R s0 v0 5) : Int)) <|
    p_gd ((0 : Int) ≤ v1 ∧ v1 < (p_L s0 (p_R s0 v0 5) : Int)) <|
    p_bi (p_wZ s0 (p_R s0 v0 5) (v1 : Int).toNat (p_and6 (p_Z s0 (p_R s0 v0 5) (v1 : Int).toNat) (p_xor6 x1 (-1)))) fun s7 =>
    some s7
  else
    p_gd (p_is s0 (p_R s0 v0 5) 101) <|
    p_gd ((0 : Int) ≤ v1 ∧ v1 < (p_L s0 (p_R s0 v0 5) : Int)) <|
    p_gd ((0 : Int) ≤ v1 ∧ v1 < (p_L s0 (p_R s0 v0 5) : Int)) <|
    p_bi (p_wZ s0 (p_R s0 v0 5) (v1 : Int).toNat (p_or6 (p_Z s0 (p_R s0 v0 5) (v1 : Int).toNat) x1)) fun s12 =>
    some s12
set_option maxRecDepth 100000 in
set_option maxHeartbeats 4000000 in
theorem tF_Gear_aimAt (K : p_K) (l : Launch) (v0 : Nat) (v1 : Int) (v2 : Int) (v3 : Int) (s0 : p_Hp) (r : p_Hp) (h : F_Gear_aimAt v0 v1 v2 v3 s0 = some r) : p_Ct K l m_Gear_aimAt [p_r v0, p_i v1, p_i v2, p_i v3] s0 (none, r) := by
  refine p_Ct.of (by decide +kernel) (Nat.le_of_ble_eq_true rfl) ?_
  unfold F_Gear_aimAt at h
  show p_Go K l m_Gear_aimAt 0 [(0, p_r v0), (1, p_i v1), (2, p_i v2), (3, p_i v3)] [] s0 _
  refine g_lconst (x := 1) (dk_Gear_aimAt 0 rfl) rfl (by decide) ?_
  refine g_iload_n (i := 2) (j := 2) (dk_Gear_aimAt 1 rfl) rfl rfl ?_
  refine g_lshl (dk_Gear_aimAt 2 rfl) ?_
  refine g_lstore [(4, p_j (p_shl6 1 v2)), (0, p_r v0), (1, p_i v1), (2, p_i v2), (3, p_i v3)] (dk_Gear_aimAt 3 rfl) (by decide) rfl ?_
  refine p_ltG (P := fun q => p_Go K l m_Gear_aimAt 5 [(4, p_j q), (0, p_r v0), (1, p_i v1), (2, p_i v2), (3, p_i v3)] [] s0 _) ?_ h
  intro x1 h
  refine g_aload_n (i := 0) (j := 1) (dk_Gear_aimAt 4 rfl) rfl rfl ?_
  obtain ⟨c2, h⟩ := p_gdE h
  refine g_getR fl_Gear_19 (Or.inr ⟨_, rfl⟩) (dk_Gear_aimAt 5 rfl) c2 ?_
  refine g_iload_n (i := 1) (j := 2) (dk_Gear_aimAt 6 rfl) rfl rfl ?_
  refine g_iload_n (i := 3) (j := 4) (dk_Gear_aimAt 7 rfl) rfl rfl ?_
  refine g_if_eq 26 (dk_Gear_aimAt 8 rfl) (by decide) (fun b3 => ?_) (fun b3 => ?_)
  · have h := p_ifT b3 h
    refine g_aload_n (i := 0) (j := 1) (dk_Gear_aimAt 16 rfl) rfl rfl ?_
    refine g_getR fl_Gear_19 (Or.inr ⟨_, rfl⟩) (dk_Gear_aimAt 17 rfl) c2 ?_
    refine g_iload_n (i := 1) (j := 2) (dk_Gear_aimAt 18 rfl) rfl rfl ?_
    obtain ⟨c4, h⟩ := p_gdE h
    obtain ⟨c5, h⟩ := p_gdE h
    refine g_laload (dk_Gear_aimAt 19 rfl) c4 c5.1 c5.2 ?_
    refine g_lload (j := 0) (dk_Gear_aimAt 20 rfl) rfl ?_
    refine g_ldc2_w (x := (-1)) (dk_Gear_aimAt 21 rfl) tw_3_136 (by decide) (by decide) ?_
    refine g_lxor (dk_Gear_aimAt 22 rfl) ?_
    refine g_land (dk_Gear_aimAt 23 rfl) ?_
    obtain ⟨c6, h⟩ := p_gdE h
    refine g_lastore (dk_Gear_aimAt 24 rfl) c4 c6.1 c6.2 ?_
    refine p_ltS (P := fun q => p_Go K l m_Gear_aimAt 40 [(4, p_j x1), (0, p_r v0), (1, p_i v1), (2, p_i v2), (3, p_i v3)] [] q _) (p_xZ _ _ _ _) ?_ h
    intro s7 hs8 h
    cases h
    exact g_ret rfl rfl (dk_Gear_aimAt 25 rfl) (fun _ => rfl)
  · have h := p_ifF b3 h
    refine g_aload_n (i := 0) (j := 1) (dk_Gear_aimAt 9 rfl) rfl rfl ?_
    refine g_getR fl_Gear_19 (Or.inr ⟨_, rfl⟩) (dk_Gear_aimAt 10 rfl) c2 ?_
    refine g_iload_n (i := 1) (j := 2) (dk_Gear_aimAt 11 rfl) rfl rfl ?_
    obtain ⟨c9, h⟩ := p_gdE h
    obtain ⟨c10, h⟩ := p_gdE h
    refine g_laload (dk_Gear_aimAt 12 rfl) c9 c10.1 c10.2 ?_
    refine g_lload (j := 0) (dk_Gear_aimAt 13 rfl) rfl ?_
    refine g_lor (dk_Gear_aimAt 14 rfl) ?_
    refine g_goto 39 (dk_Gear_aimAt 15 rfl) (by decide) ?_
    obtain ⟨c11, h⟩ := p_gdE h
    refine g_lastore (dk_Gear_aimAt 24 rfl) c9 c11.1 c11.2 ?_
    refine p_ltS (P := fun q => p_Go K l m_Gear_aimAt 40 [(4, p_j x1), (0, p_r v0), (1, p_i v1), (2, p_i v2), (3, p_i v3)] [] q _) (p_xZ _ _ _ _) ?_ h
    intro s12 hs13 h
    cases h
    exact g_ret rfl rfl (dk_Gear_aimAt 25 rfl) (fun _ => rfl)
def m_Gear_aims : p_Me := (⟨"SortWorks$Gear", "aims", "(II)Z"⟩, prog_2_method_17_code, 3, (some .boolean), 0, 0)
theorem mt_Gear_aims : p_Mt m_Gear_aims 2 := ⟨p_mem (p_tb3 (List.mem_of_getElem? (i := 131) rfl)) rfl, tw_1_5, by decide +kernel, by decide +kernel, by decide +kernel⟩
def dt_Gear_aims : List (Nat × Instr × Nat) := [(0, .iload_n 2, 1), (1, .ifCond .lt 22, 3), (4, .aload_n 0, 1), (5, .getfield 19, 3), (8, .iload_n 1, 1), (9, .laload, 1), (10, .iload_n 2, 1), (11, .lushr, 1), (12, .lconst 1, 1), (13, .land, 1), (14, .lconst 1, 1), (15, .lcmp, 1), (16, .ifCond .ne 7, 3), (19, .iconst 1, 1), (20, .goto 4, 3), (23, .iconst 0, 1), (24, .ireturn, 1)]
theorem dk_Gear_aims (i : Nat) {pc : Nat} {ins : Instr} {len : Nat} (h : dt_Gear_aims[i]? = some (pc, ins, len)) : decode m_Gear_aims.2.1 pc = .ok (ins, len) := p_dk (b := m_Gear_aims.2.1) (t := dt_Gear_aims) (by decide +kernel) i h
def F_Gear_aims (v0 : Nat) (v1 : Int) (v2 : Int) (s0 : p_Hp) : Option (Int × p_Hp) :=
  if v2 < 0 then
    some (0, s0)
  else
    p_gd (p_is s0 v0 0) <|
    p_gd (p_is s0 (p_R s0 v0 5) 101) <|
    p_gd ((0 : Int) ≤ v1 ∧ v1 < (p_L s0 (p_R s0 v0 5) : Int)) <|
    if (p_cmp (p_and6 (p_ushr6 (p_Z s0 (p_R s0 v0 5) (v1 : Int).toNat) v2) 1) 1) ≠ 0 then
      some (0, s0)
    else
      some (1, s0)
set_option maxRecDepth 100000 in
set_option maxHeartbeats 4000000 in
theorem tF_Gear_aims (K : p_K) (l : Launch) (v0 : Nat) (v1 : Int) (v2 : Int) (s0 : p_Hp) (r : (Int × p_Hp)) (h : F_Gear_aims v0 v1 v2 s0 = some r) : p_Ct K l m_Gear_aims [p_r v0, p_i v1, p_i v2] s0 (some (p_i r.1), r.2) := by
  refine p_Ct.of (by decide +kernel) (Nat.le_of_ble_eq_true rfl) ?_
  unfold F_Gear_aims at h
  show p_Go K l m_Gear_aims 0 [(0, p_r v0), (1, p_i v1), (2, p_i v2)] [] s0 _
  refine g_iload_n (i := 2) (j := 2) (dk_Gear_aims 0 rfl) rfl rfl ?_
  refine g_if_lt 23 (dk_Gear_aims 1 rfl) (by decide) (fun b1 => ?_) (fun b1 => ?_)
  · have h := p_ifT b1 h
    refine g_iconst (dk_Gear_aims 15 rfl) (by decide) ?_
    cases h
    exact g_ret rfl rfl (dk_Gear_aims 16 rfl) (fun _ => ⟨_, rfl, Or.inl rfl⟩)
  · have h := p_ifF b1 h
    refine g_aload_n (i := 0) (j := 0) (dk_Gear_aims 2 rfl) rfl rfl ?_
    obtain ⟨c2, h⟩ := p_gdE h
    refine g_getR fl_Gear_19 (Or.inr ⟨_, rfl⟩) (dk_Gear_aims 3 rfl) c2 ?_
    refine g_iload_n (i := 1) (j := 1) (dk_Gear_aims 4 rfl) rfl rfl ?_
    obtain ⟨c3, h⟩ := p_gdE h
    obtain ⟨c4, h⟩ := p_gdE h
    refine g_laload (dk_Gear_aims 5 rfl) c3 c4.1 c4.2 ?_
    refine g_iload_n (i := 2) (j := 2) (dk_Gear_aims 6 rfl) rfl rfl ?_
    refine g_lushr (dk_Gear_aims 7 rfl) ?_
    refine g_lconst (x := 1) (dk_Gear_aims 8 rfl) rfl (by decide) ?_
    refine g_land (dk_Gear_aims 9 rfl) ?_
    refine g_lconst (x := 1) (dk_Gear_aims 10 rfl) rfl (by decide) ?_
    refine g_lcmp (dk_Gear_aims 11 rfl) ?_
    refine g_if_ne 23 (dk_Gear_aims 12 rfl) (by decide) (fun b5 => ?_) (fun b5 => ?_)
    · have h := p_ifT b5 h
      refine g_iconst (dk_Gear_aims 15 rfl) (by decide) ?_
      cases h
      exact g_ret rfl rfl (dk_Gear_aims 16 rfl) (fun _ => ⟨_, rfl, Or.inl rfl⟩)
    · have h := p_ifF b5 h
      refine g_iconst (dk_Gear_aims 13 rfl) (by decide) ?_
      refine g_goto 24 (dk_Gear_aims 14 rfl) (by decide) ?_
      cases h
      exact g_ret rfl rfl (dk_Gear_aims 16 rfl) (fun _ => ⟨_, rfl, Or.inr rfl⟩)
def m_Gear_hasSide : p_Me := (⟨"SortWorks$Gear", "hasSide", "(I)Z"⟩, prog_2_method_16_code, 2, (some .boolean), 0, 0)
theorem mt_Gear_hasSide : p_Mt m_Gear_hasSide 1 := ⟨p_mem (p_tb3 (List.mem_of_getElem? (i := 125) rfl)) rfl, tw_1_5, by decide +kernel, by decide +kernel, by decide +kernel⟩
def dt_Gear_hasSide : List (Nat × Instr × Nat) := [(0, .iload_n 1, 1), (1, .ifCond .lt 19, 3), (4, .iload_n 1, 1), (5, .getstatic 114, 3), (8, .aload_n 0, 1), (9, .getfield 35, 3), (12, .iaload, 1), (13, .if_icmp .ge 7, 3), (16, .iconst 1, 1), (17, .goto 4, 3), (20, .iconst 0, 1), (21, .ireturn, 1)]
theorem dk_Gear_hasSide (i : Nat) {pc : Nat} {ins : Instr} {len : Nat} (h : dt_Gear_hasSide[i]? = some (pc, ins, len)) : decode m_Gear_hasSide.2.1 pc = .ok (ins, len) := p_dk (b := m_Gear_hasSide.2.1) (t := dt_Gear_hasSide) (by decide +kernel) i h
def F_Gear_hasSide (v0 : Nat) (v1 : Int) (s0 : p_Hp) : Option (Int × p_Hp) :=
  if v1 < 0 then
    some (0, s0)
  else
    p_gd (p_is s0 v0 0) <|
    p_gd ((0 : Int) ≤ (p_Z s0 v0 0) ∧ (p_Z s0 v0 0) < (sw_tl 1 : Int)) <|
    if (sw_tab 1 ((p_Z s0 v0 0) : Int).toNat) ≤ v1 then
      some (0, s0)
    else
      some (1, s0)
set_option maxRecDepth 100000 in
set_option maxHeartbeats 4000000 in
theorem tF_Gear_hasSide (K : p_K) (l : Launch) (v0 : Nat) (v1 : Int) (s0 : p_Hp) (r : (Int × p_Hp)) (h : F_Gear_hasSide v0 v1 s0 = some r) : p_Ct K l m_Gear_hasSide [p_r v0, p_i v1] s0 (some (p_i r.1), r.2) := by
  refine p_Ct.of (by decide +kernel) (Nat.le_of_ble_eq_true rfl) ?_
  unfold F_Gear_hasSide at h
  show p_Go K l m_Gear_hasSide 0 [(0, p_r v0), (1, p_i v1)] [] s0 _
  refine g_iload_n (i := 1) (j := 1) (dk_Gear_hasSide 0 rfl) rfl rfl ?_
  refine g_if_lt 20 (dk_Gear_hasSide 1 rfl) (by decide) (fun b1 => ?_) (fun b1 => ?_)
  · have h := p_ifT b1 h
    refine g_iconst (dk_Gear_hasSide 10 rfl) (by decide) ?_
    cases h
    exact g_ret rfl rfl (dk_Gear_hasSide 11 rfl) (fun _ => ⟨_, rfl, Or.inl rfl⟩)
  · have h := p_ifF b1 h
    refine g_iload_n (i := 1) (j := 1) (dk_Gear_hasSide 2 rfl) rfl rfl ?_
    refine g_getstatic (j := 1) rfl (by decide) (dk_Gear_hasSide 3 rfl) ?_
    refine g_aload_n (i := 0) (j := 0) (dk_Gear_hasSide 4 rfl) rfl rfl ?_
    obtain ⟨c2, h⟩ := p_gdE h
    refine g_getI fl_Gear_35 (Or.inl rfl) (dk_Gear_hasSide 5 rfl) c2 ?_
    obtain ⟨c3, h⟩ := p_gdE h
    refine g_tabS (by decide) (dk_Gear_hasSide 6 rfl) c3.1 c3.2 ?_
    refine g_icmp_ge 20 (dk_Gear_hasSide 7 rfl) (by decide) (fun b4 => ?_) (fun b4 => ?_)
    · have h := p_ifT b4 h
      refine g_iconst (dk_Gear_hasSide 10 rfl) (by decide) ?_
      cases h
      exact g_ret rfl rfl (dk_Gear_hasSide 11 rfl) (fun _ => ⟨_, rfl, Or.inl rfl⟩)
    · have h := p_ifF b4 h
      refine g_iconst (dk_Gear_hasSide 8 rfl) (by decide) ?_
      refine g_goto 21 (dk_Gear_hasSide 9 rfl) (by decide) ?_
      cases h
      exact g_ret rfl rfl (dk_Gear_hasSide 11 rfl) (fun _ => ⟨_, rfl, Or.inr rfl⟩)
def m_Gear_isDivert : p_Me := (⟨"SortWorks$Gear", "isDivert", "()Z"⟩, prog_2_method_9_code, 1, (some .boolean), 0, 0)
theorem mt_Gear_isDivert : p_Mt m_Gear_isDivert 0 := ⟨p_mem (p_tb3 (List.mem_of_getElem? (i := 121) rfl)) rfl, tw_1_5, by decide +kernel, by decide +kernel, by decide +kernel⟩
def dt_Gear_isDivert : List (Nat × Instr × Nat) := [(0, .aload_n 0, 1), (1, .getfield 35, 3), (4, .iconst 5, 1), (5, .if_icmp .eq 12, 3), (8, .aload_n 0, 1), (9, .getfield 35, 3), (12, .bipush 6, 2), (14, .if_icmp .ne 7, 3), (17, .iconst 1, 1), (18, .goto 4, 3), (21, .iconst 0, 1), (22, .ireturn, 1)]
theorem dk_Gear_isDivert (i : Nat) {pc : Nat} {ins : Instr} {len : Nat} (h : dt_Gear_isDivert[i]? = some (pc, ins, len)) : decode m_Gear_isDivert.2.1 pc = .ok (ins, len) := p_dk (b := m_Gear_isDivert.2.1) (t := dt_Gear_isDivert) (by decide +kernel) i h
def B_Gear_isDivert_17   (s0 : p_Hp) : Option (Int × p_Hp) :=
  some (1, s0)
def F_Gear_isDivert (v0 : Nat) (s0 : p_Hp) : Option (Int × p_Hp) :=
  p_gd (p_is s0 v0 0) <|
  if (p_Z s0 v0 0) = 5 then
    B_Gear_isDivert_17 s0
  else
    if (p_Z s0 v0 0) ≠ 6 then
      some (0, s0)
    else
      B_Gear_isDivert_17 s0
set_option maxRecDepth 100000 in
set_option maxHeartbeats 4000000 in
theorem tB_Gear_isDivert_17 (K : p_K) (l : Launch)   (s0 : p_Hp) (r : (Int × p_Hp)) (h : B_Gear_isDivert_17  s0 = some r) : p_Go K l m_Gear_isDivert 17 [] [] s0 (some (p_i r.1), r.2) := by
  unfold B_Gear_isDivert_17 at h
  refine g_iconst (dk_Gear_isDivert 8 rfl) (by decide) ?_
  refine g_goto 22 (dk_Gear_isDivert 9 rfl) (by decide) ?_
  cases h
  exact g_ret rfl rfl (dk_Gear_isDivert 11 rfl) (fun _ => ⟨_, rfl, Or.inr rfl⟩)
set_option maxRecDepth 100000 in
set_option maxHeartbeats 4000000 in
theorem tF_Gear_isDivert (K : p_K) (l : Launch) (v0 : Nat) (s0 : p_Hp) (r : (Int × p_Hp)) (h : F_Gear_isDivert v0 s0 = some r) : p_Ct K l m_Gear_isDivert [p_r v0] s0 (some (p_i r.1), r.2) := by
  refine p_Ct.of (by decide +kernel) (Nat.le_of_ble_eq_true rfl) ?_
  unfold F_Gear_isDivert at h
  show p_Go K l m_Gear_isDivert 0 [(0, p_r v0)] [] s0 _
  refine g_aload_n (i := 0) (j := 0) (dk_Gear_isDivert 0 rfl) rfl rfl ?_
  obtain ⟨c1, h⟩ := p_gdE h
  refine g_getI fl_Gear_35 (Or.inl rfl) (dk_Gear_isDivert 1 rfl) c1 ?_
  refine g_iconst (dk_Gear_isDivert 2 rfl) (by decide) ?_
  refine g_icmp_eq 17 (dk_Gear_isDivert 3 rfl) (by decide) (fun b2 => ?_) (fun b2 => ?_)
  · have h := p_ifT b2 h
    refine g_sub [] [] rfl ?_
    exact tB_Gear_isDivert_17 K l s0 _ h
  · have h := p_ifF b2 h
    refine g_aload_n (i := 0) (j := 0) (dk_Gear_isDivert 4 rfl) rfl rfl ?_
    refine g_getI fl_Gear_35 (Or.inl rfl) (dk_Gear_isDivert 5 rfl) c1 ?_
    refine g_bipush (dk_Gear_isDivert 6 rfl) (by decide +kernel) (by decide) ?_
    refine g_icmp_ne 21 (dk_Gear_isDivert 7 rfl) (by decide) (fun b3 => ?_) (fun b3 => ?_)
    · have h := p_ifT b3 h
      refine g_iconst (dk_Gear_isDivert 10 rfl) (by decide) ?_
      cases h
      exact g_ret rfl rfl (dk_Gear_isDivert 11 rfl) (fun _ => ⟨_, rfl, Or.inl rfl⟩)
    · have h := p_ifF b3 h
      refine g_sub [] [] rfl ?_
      exact tB_Gear_isDivert_17 K l s0 _ h
def m_SW_aim : p_Me := (⟨"SortWorks", "aim", "(IIIZ)I"⟩, prog_1_method_9_code, 7, (some .int), 2, 42)
theorem mt_SW_aim : p_Mt m_SW_aim 4 := ⟨p_mem (p_tb3 (List.mem_of_getElem? (i := 117) rfl)) rfl, tw_1_1, by decide +kernel, by decide +kernel, by decide +kernel⟩
def dt_SW_aim : List (Nat × Instr × Nat) := [(0, .aload_n 0, 1), (1, .getfield 18, 3), (4, .iload_n 1, 1), (5, .invokevirtual 98, 3), (8, .astore 5, 2), (10, .aload 5, 2), (12, .ifnonnull 9, 3), (15, .aload_n 0, 1), (16, .iconst (-1), 1), (17, .invokevirtual 61, 3), (20, .ireturn, 1), (21, .iload_n 2, 1), (22, .iconst 1, 1), (23, .if_icmp .lt 18, 3), (26, .iload_n 2, 1), (27, .iconst 2, 1), (28, .if_icmp .gt 13, 3), (31, .iload_n 3, 1), (32, .ifCond .lt 9, 3), (35, .iload_n 3, 1), (36, .bipush 40, 2), (38, .if_icmp .lt 10, 3), (41, .aload_n 0, 1), (42, .bipush (-2), 2), (44, .invokevirtual 61, 3), (47, .ireturn, 1), (48, .aload 5, 2), (50, .invokevirtual 114, 3), (53, .ifCond .ne 10, 3), (56, .aload_n 0, 1), (57, .bipush (-12), 2), (59, .invokevirtual 61, 3), (62, .ireturn, 1), (63, .aload 5, 2), (65, .iload_n 2, 1), (66, .invokevirtual 118, 3), (69, .ifCond .ne 10, 3), (72, .aload_n 0, 1), (73, .bipush (-13), 2), (75, .invokevirtual 61, 3), (78, .ireturn, 1), (79, .aload 5, 2), (81, .iload_n 2, 1), (82, .iload_n 3, 1), (83, .invokevirtual 121, 3), (86, .istore 6, 2), (88, .aload 5, 2), (90, .iload_n 2, 1), (91, .iload_n 3, 1), (92, .iload 4, 2), (94, .invokevirtual 125, 3), (97, .aload_n 0, 1), (98, .iload 6, 2), (100, .iload 4, 2), (102, .if_icmp .ne 7, 3), (105, .iconst 0, 1), (106, .goto 4, 3), (109, .iconst 1, 1), (110, .invokevirtual 95, 3), (113, .ireturn, 1)]
theorem dk_SW_aim (i : Nat) {pc : Nat} {ins : Instr} {len : Nat} (h : dt_SW_aim[i]? = some (pc, ins, len)) : decode m_SW_aim.2.1 pc = .ok (ins, len) := p_dk (b := m_SW_aim.2.1) (t := dt_SW_aim) (by decide +kernel) i h
def B_SW_aim_41  (v0 : Nat) (s0 : p_Hp) : Option (Int × p_Hp) :=
  p_gd (p_is s0 v0 10) <|
  p_bd (F_SW_refuse v0 (-2) s0) fun r6 s2 =>
  some (r6, s2)
def B_SW_aim_110  (w0 : Int) (w1 : Nat) (s0 : p_Hp) : Option (Int × p_Hp) :=
  p_gd (p_is s0 w1 10) <|
  p_bd (F_SW_built w1 w0 s0) fun r6 s2 =>
  some (r6, s2)
def F_SW_aim (v0 : Nat) (v1 : Int) (v2 : Int) (v3 : Int) (v4 : Int) (s0 : p_Hp) : Option (Int × p_Hp) :=
  p_gd (p_is s0 v0 10) <|
  p_gd (p_is s0 (p_R s0 v0 1) 9) <|
  p_bd (F_Works_gearOf (p_R s0 v0 1) v1 s0) fun r7 s3 =>
  if r7 ≠ 0 then
    if v2 < 1 then
      B_SW_aim_41 v0 s3
    else
      if 2 < v2 then
        B_SW_aim_41 v0 s3
      else
        if v3 < 0 then
          B_SW_aim_41 v0 s3
        else
          if v3 < 40 then
            p_gd (p_is s3 r7 0) <|
            p_bd (F_Gear_isDivert r7 s3) fun r18 s14 =>
            if r18 ≠ 0 then
              p_bd (F_Gear_hasSide r7 v2 s14) fun r24 s20 =>
              if r24 ≠ 0 then
                p_bd (F_Gear_aims r7 v2 v3 s20) fun r30 s26 =>
                p_bv (F_Gear_aimAt r7 v2 v3 v4 s26) fun s31 =>
                if r30 ≠ v4 then
                  B_SW_aim_110 1 v0 s31
                else
                  B_SW_aim_110 0 v0 s31
              else
                p_bd (F_SW_refuse v0 (-13) s20) fun r40 s36 =>
                some (r40, s36)
            else
              p_bd (F_SW_refuse v0 (-12) s14) fun r45 s41 =>
              some (r45, s41)
          else
            B_SW_aim_41 v0 s3
  else
    p_bd (F_SW_refuse v0 (-1) s3) fun r50 s46 =>
    some (r50, s46)
set_option maxRecDepth 100000 in
set_option maxHeartbeats 4000000 in
theorem tB_SW_aim_41 (K : p_K) (l : Launch)  (v0 : Nat) (s0 : p_Hp) (r : (Int × p_Hp)) (h : B_SW_aim_41 v0 s0 = some r) : p_Go K l m_SW_aim 41 [(0, p_r v0)] [] s0 (some (p_i r.1), r.2) := by
  unfold B_SW_aim_41 at h
  refine g_aload_n (i := 0) (j := 0) (dk_SW_aim 22 rfl) rfl rfl ?_
  refine g_bipush (dk_SW_aim 23 rfl) (by decide +kernel) (by decide) ?_
  obtain ⟨c1, h⟩ := p_gdE h
  obtain ⟨r6, s2, q3, h⟩ := p_bdE h
  have t4 := tF_SW_refuse K l v0 (-2) s0 _ q3
  refine g_callV (a := v0) (ci := 10) (q0 := (RX10, TX10, 9)) (As := [p_i (-2)]) (rest := []) [p_i r6] mt_SW_refuse rfl rfl tw_3_66 ts_0 tw_3_64 ⟨Nat.le_of_ble_eq_true rfl, Nat.le_of_ble_eq_true rfl⟩ rfl (Nat.le_of_ble_eq_true rfl) (dk_SW_aim 24 rfl) rfl c1 rfl t4 ?_
  have hs5 : p_x s0 s2 := t4.1
  show p_Go K l m_SW_aim 47 [(0, p_r v0)] [p_i r6] s2 _
  cases h
  exact g_ret rfl rfl (dk_SW_aim 25 rfl) (fun os => ⟨_, rfl, p_okh os⟩)
set_option maxRecDepth 100000 in
set_option maxHeartbeats 4000000 in
theorem tB_SW_aim_110 (K : p_K) (l : Launch)  (w0 : Int) (w1 : Nat) (s0 : p_Hp) (r : (Int × p_Hp)) (h : B_SW_aim_110 w0 w1 s0 = some r) : p_Go K l m_SW_aim 110 [] [p_i w0, p_r w1] s0 (some (p_i r.1), r.2) := by
  unfold B_SW_aim_110 at h
  obtain ⟨c1, h⟩ := p_gdE h
  obtain ⟨r6, s2, q3, h⟩ := p_bdE h
  have t4 := tF_SW_built K l w1 w0 s0 _ q3
  refine g_callV (a := w1) (ci := 10) (q0 := (RX10, TX10, 9)) (As := [p_i w0]) (rest := []) [p_i r6] mt_SW_built rfl rfl tw_3_93 ts_2 tw_3_91 ⟨Nat.le_of_ble_eq_true rfl, Nat.le_of_ble_eq_true rfl⟩ rfl (Nat.le_of_ble_eq_true rfl) (dk_SW_aim 58 rfl) rfl c1 rfl t4 ?_
  have hs5 : p_x s0 s2 := t4.1
  show p_Go K l m_SW_aim 113 [] [p_i r6] s2 _
  cases h
  exact g_ret rfl rfl (dk_SW_aim 59 rfl) (fun os => ⟨_, rfl, p_okh os⟩)
set_option maxRecDepth 100000 in
set_option maxHeartbeats 4000000 in
theorem tF_SW_aim (K : p_K) (l : Launch) (v0 : Nat) (v1 : Int) (v2 : Int) (v3 : Int) (v4 : Int) (s0 : p_Hp) (r : (Int × p_Hp)) (h : F_SW_aim v0 v1 v2 v3 v4 s0 = some r) : p_Ct K l m_SW_aim [p_r v0, p_i v1, p_i v2, p_i v3, p_i v4] s0 (some (p_i r.1), r.2) := by
  refine p_Ct.of (by decide +kernel) (Nat.le_of_ble_eq_true rfl) ?_
  unfold F_SW_aim at h
  show p_Go K l m_SW_aim 0 [(0, p_r v0), (1, p_i v1), (2, p_i v2), (3, p_i v3), (4, p_i v4)] [] s0 _
  refine g_aload_n (i := 0) (j := 0) (dk_SW_aim 0 rfl) rfl rfl ?_
  obtain ⟨c1, h⟩ := p_gdE h
  refine g_getR fl_SW_18 (Or.inl ⟨_, rfl⟩) (dk_SW_aim 1 rfl) c1 ?_
  refine g_iload_n (i := 1) (j := 1) (dk_SW_aim 2 rfl) rfl rfl ?_
  obtain ⟨c2, h⟩ := p_gdE h
  obtain ⟨r7, s3, q4, h⟩ := p_bdE h
  have t5 := tF_Works_gearOf K l (p_R s0 v0 1) v1 s0 _ q4
  refine g_callV (a := (p_R s0 v0 1)) (ci := 9) (q0 := (RX9, TX9, 15)) (As := [p_i v1]) (rest := []) [p_r r7] mt_Works_gearOf rfl rfl tw_3_104 tw_3_105 tw_3_103 ⟨Nat.le_of_ble_eq_true rfl, Nat.le_of_ble_eq_true rfl⟩ rfl (Nat.le_of_ble_eq_true rfl) (dk_SW_aim 3 rfl) rfl c2 rfl t5 ?_
  have hs6 : p_x s0 s3 := t5.1
  show p_Go K l m_SW_aim 8 [(0, p_r v0), (1, p_i v1), (2, p_i v2), (3, p_i v3), (4, p_i v4)] [p_r r7] s3 _
  refine g_astore [(5, p_r r7), (0, p_r v0), (1, p_i v1), (2, p_i v2), (3, p_i v3), (4, p_i v4)] (dk_SW_aim 4 rfl) (by decide) rfl ?_
  refine g_aload (j := 0) (dk_SW_aim 5 rfl) rfl ?_
  refine g_ifnonnull 21 (dk_SW_aim 6 rfl) (by decide) (fun b8 => ?_) (fun b8 => ?_)
  · have h := p_ifT b8 h
    refine g_iload_n (i := 2) (j := 3) (dk_SW_aim 11 rfl) rfl rfl ?_
    refine g_iconst (dk_SW_aim 12 rfl) (by decide) ?_
    refine g_icmp_lt 41 (dk_SW_aim 13 rfl) (by decide) (fun b9 => ?_) (fun b9 => ?_)
    · have h := p_ifT b9 h
      refine g_sub [(0, p_r v0)] [1] rfl ?_
      exact tB_SW_aim_41 K l v0 s3 _ h
    · have h := p_ifF b9 h
      refine g_iload_n (i := 2) (j := 3) (dk_SW_aim 14 rfl) rfl rfl ?_
      refine g_iconst (dk_SW_aim 15 rfl) (by decide) ?_
      refine g_icmp_gt 41 (dk_SW_aim 16 rfl) (by decide) (fun b10 => ?_) (fun b10 => ?_)
      · have h := p_ifT b10 h
        refine g_sub [(0, p_r v0)] [1] rfl ?_
        exact tB_SW_aim_41 K l v0 s3 _ h
      · have h := p_ifF b10 h
        refine g_iload_n (i := 3) (j := 4) (dk_SW_aim 17 rfl) rfl rfl ?_
        refine g_if_lt 41 (dk_SW_aim 18 rfl) (by decide) (fun b11 => ?_) (fun b11 => ?_)
        · have h := p_ifT b11 h
          refine g_sub [(0, p_r v0)] [1] rfl ?_
          exact tB_SW_aim_41 K l v0 s3 _ h
        · have h := p_ifF b11 h
          refine g_iload_n (i := 3) (j := 4) (dk_SW_aim 19 rfl) rfl rfl ?_
          refine g_bipush (dk_SW_aim 20 rfl) (by decide +kernel) (by decide) ?_
          refine g_icmp_lt 48 (dk_SW_aim 21 rfl) (by decide) (fun b12 => ?_) (fun b12 => ?_)
          · have h := p_ifT b12 h
            refine g_aload (j := 0) (dk_SW_aim 26 rfl) rfl ?_
            obtain ⟨c13, h⟩ := p_gdE h
            obtain ⟨r18, s14, q15, h⟩ := p_bdE h
            have t16 := tF_Gear_isDivert K l r7 s3 _ q15
            refine g_callV (a := r7) (ci := 0) (q0 := (RX0, TX0, 20)) (As := []) (rest := []) [p_i r18] mt_Gear_isDivert rfl rfl tw_3_119 tw_3_120 tw_3_118 ⟨Nat.le_of_ble_eq_true rfl, Nat.le_of_ble_eq_true rfl⟩ rfl (Nat.le_of_ble_eq_true rfl) (dk_SW_aim 27 rfl) rfl c13 rfl t16 ?_
            have hs17 : p_x s3 s14 := t16.1
            show p_Go K l m_SW_aim 53 [(5, p_r r7), (0, p_r v0), (1, p_i v1), (2, p_i v2), (3, p_i v3), (4, p_i v4)] [p_i r18] s14 _
            refine g_if_ne 63 (dk_SW_aim 28 rfl) (by decide) (fun b19 => ?_) (fun b19 => ?_)
            · have h := p_ifT b19 h
              refine g_aload (j := 0) (dk_SW_aim 33 rfl) rfl ?_
              refine g_iload_n (i := 2) (j := 3) (dk_SW_aim 34 rfl) rfl rfl ?_
              obtain ⟨r24, s20, q21, h⟩ := p_bdE h
              have t22 := tF_Gear_hasSide K l r7 v2 s14 _ q21
              refine g_callV (a := r7) (ci := 0) (q0 := (RX0, TX0, 20)) (As := [p_i v2]) (rest := []) [p_i r24] mt_Gear_hasSide rfl rfl tw_3_123 tw_3_124 tw_3_122 ⟨Nat.le_of_ble_eq_true rfl, Nat.le_of_ble_eq_true rfl⟩ rfl (Nat.le_of_ble_eq_true rfl) (dk_SW_aim 35 rfl) rfl (c13.up hs17) rfl t22 ?_
              have hs23 : p_x s14 s20 := t22.1
              show p_Go K l m_SW_aim 69 [(5, p_r r7), (0, p_r v0), (1, p_i v1), (2, p_i v2), (3, p_i v3), (4, p_i v4)] [p_i r24] s20 _
              refine g_if_ne 79 (dk_SW_aim 36 rfl) (by decide) (fun b25 => ?_) (fun b25 => ?_)
              · have h := p_ifT b25 h
                refine g_aload (j := 0) (dk_SW_aim 41 rfl) rfl ?_
                refine g_iload_n (i := 2) (j := 3) (dk_SW_aim 42 rfl) rfl rfl ?_
                refine g_iload_n (i := 3) (j := 4) (dk_SW_aim 43 rfl) rfl rfl ?_
                obtain ⟨r30, s26, q27, h⟩ := p_bdE h
                have t28 := tF_Gear_aims K l r7 v2 v3 s20 _ q27
                refine g_callV (a := r7) (ci := 0) (q0 := (RX0, TX0, 20)) (As := [p_i v2, p_i v3]) (rest := []) [p_i r30] mt_Gear_aims rfl rfl tw_3_129 tw_3_130 tw_3_128 ⟨Nat.le_of_ble_eq_true rfl, Nat.le_of_ble_eq_true rfl⟩ rfl (Nat.le_of_ble_eq_true rfl) (dk_SW_aim 44 rfl) rfl (c13.up (hs17.trans hs23)) rfl t28 ?_
                have hs29 : p_x s20 s26 := t28.1
                show p_Go K l m_SW_aim 86 [(5, p_r r7), (0, p_r v0), (1, p_i v1), (2, p_i v2), (3, p_i v3), (4, p_i v4)] [p_i r30] s26 _
                refine g_istore [(6, p_i r30), (5, p_r r7), (0, p_r v0), (1, p_i v1), (2, p_i v2), (3, p_i v3), (4, p_i v4)] (dk_SW_aim 45 rfl) (by decide) rfl ?_
                refine g_aload (j := 1) (dk_SW_aim 46 rfl) rfl ?_
                refine g_iload_n (i := 2) (j := 4) (dk_SW_aim 47 rfl) rfl rfl ?_
                refine g_iload_n (i := 3) (j := 5) (dk_SW_aim 48 rfl) rfl rfl ?_
                refine g_iload (j := 6) (dk_SW_aim 49 rfl) rfl ?_
                obtain ⟨s31, q32, h⟩ := p_bvE h
                have t33 := tF_Gear_aimAt K l r7 v2 v3 v4 s26 _ q32
                refine g_callV (a := r7) (ci := 0) (q0 := (RX0, TX0, 20)) (As := [p_i v2, p_i v3, p_i v4]) (rest := []) [] mt_Gear_aimAt rfl rfl tw_3_133 tw_3_134 tw_3_132 ⟨Nat.le_of_ble_eq_true rfl, Nat.le_of_ble_eq_true rfl⟩ rfl (Nat.le_of_ble_eq_true rfl) (dk_SW_aim 50 rfl) rfl (c13.up (hs17.trans (hs23.trans hs29))) rfl t33 ?_
                have hs34 : p_x s26 s31 := t33.1
                show p_Go K l m_SW_aim 97 [(6, p_i r30), (5, p_r r7), (0, p_r v0), (1, p_i v1), (2, p_i v2), (3, p_i v3), (4, p_i v4)] [] s31 _
                refine g_aload_n (i := 0) (j := 2) (dk_SW_aim 51 rfl) rfl rfl ?_
                refine g_iload (j := 0) (dk_SW_aim 52 rfl) rfl ?_
                refine g_iload (j := 6) (dk_SW_aim 53 rfl) rfl ?_
                refine g_icmp_ne 109 (dk_SW_aim 54 rfl) (by decide) (fun b35 => ?_) (fun b35 => ?_)
                · have h := p_ifT b35 h
                  refine g_iconst (dk_SW_aim 57 rfl) (by decide) ?_
                  refine g_sub [] [] rfl ?_
                  exact tB_SW_aim_110 K l 1 v0 s31 _ h
                · have h := p_ifF b35 h
                  refine g_iconst (dk_SW_aim 55 rfl) (by decide) ?_
                  refine g_goto 110 (dk_SW_aim 56 rfl) (by decide) ?_
                  refine g_sub [] [] rfl ?_
                  exact tB_SW_aim_110 K l 0 v0 s31 _ h
              · have h := p_ifF b25 h
                refine g_aload_n (i := 0) (j := 1) (dk_SW_aim 37 rfl) rfl rfl ?_
                refine g_bipush (dk_SW_aim 38 rfl) (by decide +kernel) (by decide) ?_
                obtain ⟨r40, s36, q37, h⟩ := p_bdE h
                have t38 := tF_SW_refuse K l v0 (-13) s20 _ q37
                refine g_callV (a := v0) (ci := 10) (q0 := (RX10, TX10, 9)) (As := [p_i (-13)]) (rest := []) [p_i r40] mt_SW_refuse rfl rfl tw_3_66 ts_0 tw_3_64 ⟨Nat.le_of_ble_eq_true rfl, Nat.le_of_ble_eq_true rfl⟩ rfl (Nat.le_of_ble_eq_true rfl) (dk_SW_aim 39 rfl) rfl (c1.up (hs6.trans (hs17.trans hs23))) rfl t38 ?_
                have hs39 : p_x s20 s36 := t38.1
                show p_Go K l m_SW_aim 78 [(5, p_r r7), (0, p_r v0), (1, p_i v1), (2, p_i v2), (3, p_i v3), (4, p_i v4)] [p_i r40] s36 _
                cases h
                exact g_ret rfl rfl (dk_SW_aim 40 rfl) (fun os => ⟨_, rfl, p_okh os⟩)
            · have h := p_ifF b19 h
              refine g_aload_n (i := 0) (j := 1) (dk_SW_aim 29 rfl) rfl rfl ?_
              refine g_bipush (dk_SW_aim 30 rfl) (by decide +kernel) (by decide) ?_
              obtain ⟨r45, s41, q42, h⟩ := p_bdE h
              have t43 := tF_SW_refuse K l v0 (-12) s14 _ q42
              refine g_callV (a := v0) (ci := 10) (q0 := (RX10, TX10, 9)) (As := [p_i (-12)]) (rest := []) [p_i r45] mt_SW_refuse rfl rfl tw_3_66 ts_0 tw_3_64 ⟨Nat.le_of_ble_eq_true rfl, Nat.le_of_ble_eq_true rfl⟩ rfl (Nat.le_of_ble_eq_true rfl) (dk_SW_aim 31 rfl) rfl (c1.up (hs6.trans hs17)) rfl t43 ?_
              have hs44 : p_x s14 s41 := t43.1
              show p_Go K l m_SW_aim 62 [(5, p_r r7), (0, p_r v0), (1, p_i v1), (2, p_i v2), (3, p_i v3), (4, p_i v4)] [p_i r45] s41 _
              cases h
              exact g_ret rfl rfl (dk_SW_aim 32 rfl) (fun os => ⟨_, rfl, p_okh os⟩)
          · have h := p_ifF b12 h
            refine g_sub [(0, p_r v0)] [1] rfl ?_
            exact tB_SW_aim_41 K l v0 s3 _ h
  · have h := p_ifF b8 h
    refine g_aload_n (i := 0) (j := 1) (dk_SW_aim 7 rfl) rfl rfl ?_
    refine g_iconst (dk_SW_aim 8 rfl) (by decide) ?_
    obtain ⟨r50, s46, q47, h⟩ := p_bdE h
    have t48 := tF_SW_refuse K l v0 (-1) s3 _ q47
    refine g_callV (a := v0) (ci := 10) (q0 := (RX10, TX10, 9)) (As := [p_i (-1)]) (rest := []) [p_i r50] mt_SW_refuse rfl rfl tw_3_66 ts_0 tw_3_64 ⟨Nat.le_of_ble_eq_true rfl, Nat.le_of_ble_eq_true rfl⟩ rfl (Nat.le_of_ble_eq_true rfl) (dk_SW_aim 9 rfl) rfl (c1.up hs6) rfl t48 ?_
    have hs49 : p_x s3 s46 := t48.1
    show p_Go K l m_SW_aim 20 [(5, p_r r7), (0, p_r v0), (1, p_i v1), (2, p_i v2), (3, p_i v3), (4, p_i v4)] [p_i r50] s46 _
    cases h
    exact g_ret rfl rfl (dk_SW_aim 10 rfl) (fun os => ⟨_, rfl, p_okh os⟩)
def m_Gear_isTaker : p_Me := (⟨"SortWorks$Gear", "isTaker", "()Z"⟩, prog_2_method_6_code, 1, (some .boolean), 1, 20)
theorem mt_Gear_isTaker : p_Mt m_Gear_isTaker 0 := ⟨p_mem (p_tb3 (List.mem_of_getElem? (i := 144) rfl)) rfl, tw_1_5, by decide +kernel, by decide +kernel, by decide +kernel⟩
def dt_Gear_isTaker : List (Nat × Instr × Nat) := [(0, .aload_n 0, 1), (1, .getfield 35, 3), (4, .invokestatic 97, 3), (7, .ireturn, 1)]
theorem dk_Gear_isTaker (i : Nat) {pc : Nat} {ins : Instr} {len : Nat} (h : dt_Gear_isTaker[i]? = some (pc, ins, len)) : decode m_Gear_isTaker.2.1 pc = .ok (ins, len) := p_dk (b := m_Gear_isTaker.2.1) (t := dt_Gear_isTaker) (by decide +kernel) i h
def F_Gear_isTaker (v0 : Nat) (s0 : p_Hp) : Option (Int × p_Hp) :=
  p_gd (p_is s0 v0 0) <|
  p_bd (F_SW_isTakerKind (p_Z s0 v0 0) s0) fun r6 s2 =>
  p_gd (r6 = 0 ∨ r6 = 1) <|
  some (r6, s2)
set_option maxRecDepth 100000 in
set_option maxHeartbeats 4000000 in
theorem tF_Gear_isTaker (K : p_K) (l : Launch) (v0 : Nat) (s0 : p_Hp) (r : (Int × p_Hp)) (h : F_Gear_isTaker v0 s0 = some r) : p_Ct K l m_Gear_isTaker [p_r v0] s0 (some (p_i r.1), r.2) := by
  refine p_Ct.of (by decide +kernel) (Nat.le_of_ble_eq_true rfl) ?_
  unfold F_Gear_isTaker at h
  show p_Go K l m_Gear_isTaker 0 [(0, p_r v0)] [] s0 _
  refine g_aload_n (i := 0) (j := 0) (dk_Gear_isTaker 0 rfl) rfl rfl ?_
  obtain ⟨c1, h⟩ := p_gdE h
  refine g_getI fl_Gear_35 (Or.inl rfl) (dk_Gear_isTaker 1 rfl) c1 ?_
  obtain ⟨r6, s2, q3, h⟩ := p_bdE h
  have t4 := tF_SW_isTakerKind K l (p_Z s0 v0 0) s0 _ q3
  refine g_callSN (av := [p_i (p_Z s0 v0 0)]) (rest := []) (host := "SortWorks") [p_i r6] mt_SW_isTakerKind tw_3_80 (by decide) ⟨Nat.le_of_ble_eq_true rfl, Nat.le_of_ble_eq_true rfl⟩ rfl (Nat.le_of_ble_eq_true rfl) (dk_Gear_isTaker 2 rfl) rfl rfl t4 ?_
  have hs5 : p_x s0 s2 := t4.1
  show p_Go K l m_Gear_isTaker 7 [(0, p_r v0)] [p_i r6] s2 _
  obtain ⟨c7, h⟩ := p_gdE h
  cases h
  exact g_ret rfl rfl (dk_Gear_isTaker 3 rfl) (fun _ => ⟨_, rfl, c7⟩)
def m_SW_rank : p_Me := (⟨"SortWorks", "rank", "(II)I"⟩, prog_1_method_10_code, 5, (some .int), 2, 42)
theorem mt_SW_rank : p_Mt m_SW_rank 2 := ⟨p_mem (p_tb3 (List.mem_of_getElem? (i := 140) rfl)) rfl, tw_1_1, by decide +kernel, by decide +kernel, by decide +kernel⟩
def dt_SW_rank : List (Nat × Instr × Nat) := [(0, .aload_n 0, 1), (1, .getfield 18, 3), (4, .iload_n 1, 1), (5, .invokevirtual 98, 3), (8, .astore_n 3, 1), (9, .aload_n 3, 1), (10, .ifnonnull 9, 3), (13, .aload_n 0, 1), (14, .iconst (-1), 1), (15, .invokevirtual 61, 3), (18, .ireturn, 1), (19, .iload_n 2, 1), (20, .ifCond .lt 9, 3), (23, .iload_n 2, 1), (24, .bipush 9, 2), (26, .if_icmp .le 10, 3), (29, .aload_n 0, 1), (30, .bipush (-2), 2), (32, .invokevirtual 61, 3), (35, .ireturn, 1), (36, .aload_n 3, 1), (37, .invokevirtual 129, 3), (40, .ifCond .ne 10, 3), (43, .aload_n 0, 1), (44, .bipush (-12), 2), (46, .invokevirtual 61, 3), (49, .ireturn, 1), (50, .aload_n 3, 1), (51, .getfield 132, 3), (54, .istore 4, 2), (56, .aload_n 3, 1), (57, .iload_n 2, 1), (58, .putfield 132, 3), (61, .aload_n 0, 1), (62, .iload 4, 2), (64, .invokevirtual 95, 3), (67, .ireturn, 1)]
theorem dk_SW_rank (i : Nat) {pc : Nat} {ins : Instr} {len : Nat} (h : dt_SW_rank[i]? = some (pc, ins, len)) : decode m_SW_rank.2.1 pc = .ok (ins, len) := p_dk (b := m_SW_rank.2.1) (t := dt_SW_rank) (by decide +kernel) i h
def B_SW_rank_29  (v0 : Nat) (s0 : p_Hp) : Option (Int × p_Hp) :=
  p_gd (p_is s0 v0 10) <|
  p_bd (F_SW_refuse v0 (-2) s0) fun r6 s2 =>
  some (r6, s2)
def F_SW_rank (v0 : Nat) (v1 : Int) (v2 : Int) (s0 : p_Hp) : Option (Int × p_Hp) :=
  p_gd (p_is s0 v0 10) <|
  p_gd (p_is s0 (p_R s0 v0 1) 9) <|
  p_bd (F_Works_gearOf (p_R s0 v0 1) v1 s0) fun r7 s3 =>
  if r7 ≠ 0 then
    if v2 < 0 then
      B_SW_rank_29 v0 s3
    else
      if v2 ≤ 9 then
        p_gd (p_is s3 r7 0) <|
        p_bd (F_Gear_isTaker r7 s3) fun r16 s12 =>
        if r16 ≠ 0 then
          p_bi ((p_Z s12 r7 2)) fun x18 =>
          p_bi (p_wZ s12 r7 2 v2) fun s19 =>
          p_bd (F_SW_built v0 x18 s19) fun r25 s21 =>
          some (r25, s21)
        else
          p_bd (F_SW_refuse v0 (-12) s12) fun r30 s26 =>
          some (r30, s26)
      else
        B_SW_rank_29 v0 s3
  else
    p_bd (F_SW_refuse v0 (-1) s3) fun r35 s31 =>
    some (r35, s31)
set_option maxRecDepth 100000 in
set_option maxHeartbeats 4000000 in
theorem tB_SW_rank_29 (K : p_K) (l : Launch)  (v0 : Nat) (s0 : p_Hp) (r : (Int × p_Hp)) (h : B_SW_rank_29 v0 s0 = some r) : p_Go K l m_SW_rank 29 [(0, p_r v0)] [] s0 (some (p_i r.1), r.2) := by
  unfold B_SW_rank_29 at h
  refine g_aload_n (i := 0) (j := 0) (dk_SW_rank 16 rfl) rfl rfl ?_
  refine g_bipush (dk_SW_rank 17 rfl) (by decide +kernel) (by decide) ?_
  obtain ⟨c1, h⟩ := p_gdE h
  obtain ⟨r6, s2, q3, h⟩ := p_bdE h
  have t4 := tF_SW_refuse K l v0 (-2) s0 _ q3
  refine g_callV (a := v0) (ci := 10) (q0 := (RX10, TX10, 9)) (As := [p_i (-2)]) (rest := []) [p_i r6] mt_SW_refuse rfl rfl tw_3_66 ts_0 tw_3_64 ⟨Nat.le_of_ble_eq_true rfl, Nat.le_of_ble_eq_true rfl⟩ rfl (Nat.le_of_ble_eq_true rfl) (dk_SW_rank 18 rfl) rfl c1 rfl t4 ?_
  have hs5 : p_x s0 s2 := t4.1
  show p_Go K l m_SW_rank 35 [(0, p_r v0)] [p_i r6] s2 _
  cases h
  exact g_ret rfl rfl (dk_SW_rank 19 rfl) (fun os => ⟨_, rfl, p_okh os⟩)
set_option maxRecDepth 100000 in
set_option maxHeartbeats 4000000 in
theorem tF_SW_rank (K : p_K) (l : Launch) (v0 : Nat) (v1 : Int) (v2 : Int) (s0 : p_Hp) (r : (Int × p_Hp)) (h : F_SW_rank v0 v1 v2 s0 = some r) : p_Ct K l m_SW_rank [p_r v0, p_i v1, p_i v2] s0 (some (p_i r.1), r.2) := by
  refine p_Ct.of (by decide +kernel) (Nat.le_of_ble_eq_true rfl) ?_
  unfold F_SW_rank at h
  show p_Go K l m_SW_rank 0 [(0, p_r v0), (1, p_i v1), (2, p_i v2)] [] s0 _
  refine g_aload_n (i := 0) (j := 0) (dk_SW_rank 0 rfl) rfl rfl ?_
  obtain ⟨c1, h⟩ := p_gdE h
  refine g_getR fl_SW_18 (Or.inl ⟨_, rfl⟩) (dk_SW_rank 1 rfl) c1 ?_
  refine g_iload_n (i := 1) (j := 1) (dk_SW_rank 2 rfl) rfl rfl ?_
  obtain ⟨c2, h⟩ := p_gdE h
  obtain ⟨r7, s3, q4, h⟩ := p_bdE h
  have t5 := tF_Works_gearOf K l (p_R s0 v0 1) v1 s0 _ q4
  refine g_callV (a := (p_R s0 v0 1)) (ci := 9) (q0 := (RX9, TX9, 15)) (As := [p_i v1]) (rest := []) [p_r r7] mt_Works_gearOf rfl rfl tw_3_104 tw_3_105 tw_3_103 ⟨Nat.le_of_ble_eq_true rfl, Nat.le_of_ble_eq_true rfl⟩ rfl (Nat.le_of_ble_eq_true rfl) (dk_SW_rank 3 rfl) rfl c2 rfl t5 ?_
  have hs6 : p_x s0 s3 := t5.1
  show p_Go K l m_SW_rank 8 [(0, p_r v0), (1, p_i v1), (2, p_i v2)] [p_r r7] s3 _
  refine g_astore_n (i := 3) [(3, p_r r7), (0, p_r v0), (1, p_i v1), (2, p_i v2)] (dk_SW_rank 4 rfl) rfl (by decide) rfl ?_
  refine g_aload_n (i := 3) (j := 0) (dk_SW_rank 5 rfl) rfl rfl ?_
  refine g_ifnonnull 19 (dk_SW_rank 6 rfl) (by decide) (fun b8 => ?_) (fun b8 => ?_)
  · have h := p_ifT b8 h
    refine g_iload_n (i := 2) (j := 3) (dk_SW_rank 11 rfl) rfl rfl ?_
    refine g_if_lt 29 (dk_SW_rank 12 rfl) (by decide) (fun b9 => ?_) (fun b9 => ?_)
    · have h := p_ifT b9 h
      refine g_sub [(0, p_r v0)] [1] rfl ?_
      exact tB_SW_rank_29 K l v0 s3 _ h
    · have h := p_ifF b9 h
      refine g_iload_n (i := 2) (j := 3) (dk_SW_rank 13 rfl) rfl rfl ?_
      refine g_bipush (dk_SW_rank 14 rfl) (by decide +kernel) (by decide) ?_
      refine g_icmp_le 36 (dk_SW_rank 15 rfl) (by decide) (fun b10 => ?_) (fun b10 => ?_)
      · have h := p_ifT b10 h
        refine g_aload_n (i := 3) (j := 0) (dk_SW_rank 20 rfl) rfl rfl ?_
        obtain ⟨c11, h⟩ := p_gdE h
        obtain ⟨r16, s12, q13, h⟩ := p_bdE h
        have t14 := tF_Gear_isTaker K l r7 s3 _ q13
        refine g_callV (a := r7) (ci := 0) (q0 := (RX0, TX0, 20)) (As := []) (rest := []) [p_i r16] mt_Gear_isTaker rfl rfl tw_3_142 tw_3_143 tw_3_141 ⟨Nat.le_of_ble_eq_true rfl, Nat.le_of_ble_eq_true rfl⟩ rfl (Nat.le_of_ble_eq_true rfl) (dk_SW_rank 21 rfl) rfl c11 rfl t14 ?_
        have hs15 : p_x s3 s12 := t14.1
        show p_Go K l m_SW_rank 40 [(3, p_r r7), (0, p_r v0), (1, p_i v1), (2, p_i v2)] [p_i r16] s12 _
        refine g_if_ne 50 (dk_SW_rank 22 rfl) (by decide) (fun b17 => ?_) (fun b17 => ?_)
        · have h := p_ifT b17 h
          refine g_aload_n (i := 3) (j := 0) (dk_SW_rank 27 rfl) rfl rfl ?_
          refine g_getI fl_SW_132 (Or.inl rfl) (dk_SW_rank 28 rfl) (c11.up hs15) ?_
          refine g_istore [(4, p_i (p_Z s12 r7 2)), (3, p_r r7), (0, p_r v0), (1, p_i v1), (2, p_i v2)] (dk_SW_rank 29 rfl) (by decide) rfl ?_
          refine p_ltG (P := fun q => p_Go K l m_SW_rank 56 [(4, p_i q), (3, p_r r7), (0, p_r v0), (1, p_i v1), (2, p_i v2)] [] s12 _) ?_ h
          intro x18 h
          refine g_aload_n (i := 3) (j := 1) (dk_SW_rank 30 rfl) rfl rfl ?_
          refine g_iload_n (i := 2) (j := 4) (dk_SW_rank 31 rfl) rfl rfl ?_
          refine g_putI fl_SW_132 (Or.inl rfl) (dk_SW_rank 32 rfl) (c11.up hs15) ?_
          refine p_ltS (P := fun q => p_Go K l m_SW_rank 61 [(4, p_i x18), (3, p_r r7), (0, p_r v0), (1, p_i v1), (2, p_i v2)] [] q _) (p_xZ _ _ _ _) ?_ h
          intro s19 hs20 h
          refine g_aload_n (i := 0) (j := 2) (dk_SW_rank 33 rfl) rfl rfl ?_
          refine g_iload (j := 0) (dk_SW_rank 34 rfl) rfl ?_
          obtain ⟨r25, s21, q22, h⟩ := p_bdE h
          have t23 := tF_SW_built K l v0 x18 s19 _ q22
          refine g_callV (a := v0) (ci := 10) (q0 := (RX10, TX10, 9)) (As := [p_i x18]) (rest := []) [p_i r25] mt_SW_built rfl rfl tw_3_93 ts_2 tw_3_91 ⟨Nat.le_of_ble_eq_true rfl, Nat.le_of_ble_eq_true rfl⟩ rfl (Nat.le_of_ble_eq_true rfl) (dk_SW_rank 35 rfl) rfl (c1.up (hs6.trans (hs15.trans hs20))) rfl t23 ?_
          have hs24 : p_x s19 s21 := t23.1
          show p_Go K l m_SW_rank 67 [(4, p_i x18), (3, p_r r7), (0, p_r v0), (1, p_i v1), (2, p_i v2)] [p_i r25] s21 _
          cases h
          exact g_ret rfl rfl (dk_SW_rank 36 rfl) (fun os => ⟨_, rfl, p_okh os⟩)
        · have h := p_ifF b17 h
          refine g_aload_n (i := 0) (j := 1) (dk_SW_rank 23 rfl) rfl rfl ?_
          refine g_bipush (dk_SW_rank 24 rfl) (by decide +kernel) (by decide) ?_
          obtain ⟨r30, s26, q27, h⟩ := p_bdE h
          have t28 := tF_SW_refuse K l v0 (-12) s12 _ q27
          refine g_callV (a := v0) (ci := 10) (q0 := (RX10, TX10, 9)) (As := [p_i (-12)]) (rest := []) [p_i r30] mt_SW_refuse rfl rfl tw_3_66 ts_0 tw_3_64 ⟨Nat.le_of_ble_eq_true rfl, Nat.le_of_ble_eq_true rfl⟩ rfl (Nat.le_of_ble_eq_true rfl) (dk_SW_rank 25 rfl) rfl (c1.up (hs6.trans hs15)) rfl t28 ?_
          have hs29 : p_x s12 s26 := t28.1
          show p_Go K l m_SW_rank 49 [(3, p_r r7), (0, p_r v0), (1, p_i v1), (2, p_i v2)] [p_i r30] s26 _
          cases h
          exact g_ret rfl rfl (dk_SW_rank 26 rfl) (fun os => ⟨_, rfl, p_okh os⟩)
      · have h := p_ifF b10 h
        refine g_sub [(0, p_r v0)] [1] rfl ?_
        exact tB_SW_rank_29 K l v0 s3 _ h
  · have h := p_ifF b8 h
    refine g_aload_n (i := 0) (j := 1) (dk_SW_rank 7 rfl) rfl rfl ?_
    refine g_iconst (dk_SW_rank 8 rfl) (by decide) ?_
    obtain ⟨r35, s31, q32, h⟩ := p_bdE h
    have t33 := tF_SW_refuse K l v0 (-1) s3 _ q32
    refine g_callV (a := v0) (ci := 10) (q0 := (RX10, TX10, 9)) (As := [p_i (-1)]) (rest := []) [p_i r35] mt_SW_refuse rfl rfl tw_3_66 ts_0 tw_3_64 ⟨Nat.le_of_ble_eq_true rfl, Nat.le_of_ble_eq_true rfl⟩ rfl (Nat.le_of_ble_eq_true rfl) (dk_SW_rank 9 rfl) rfl (c1.up hs6) rfl t33 ?_
    have hs34 : p_x s3 s31 := t33.1
    show p_Go K l m_SW_rank 18 [(3, p_r r7), (0, p_r v0), (1, p_i v1), (2, p_i v2)] [p_i r35] s31 _
    cases h
    exact g_ret rfl rfl (dk_SW_rank 10 rfl) (fun os => ⟨_, rfl, p_okh os⟩)
def m_Gear_parcels : p_Me := (⟨"SortWorks$Gear", "parcels", "()I"⟩, prog_2_method_21_code, 3, (some .int), 0, 0)
theorem mt_Gear_parcels : p_Mt m_Gear_parcels 0 := ⟨p_mem (p_tb3 (List.mem_of_getElem? (i := 153) rfl)) rfl, tw_1_5, by decide +kernel, by decide +kernel, by decide +kernel⟩
def dt_Gear_parcels : List (Nat × Instr × Nat) := [(0, .iconst 0, 1), (1, .istore_n 1, 1), (2, .iconst 0, 1), (3, .istore_n 2, 1), (4, .iload_n 2, 1), (5, .aload_n 0, 1), (6, .getfield 85, 3), (9, .if_icmp .ge 21, 3), (12, .aload_n 0, 1), (13, .getfield 26, 3), (16, .iload_n 2, 1), (17, .iaload, 1), (18, .ifCond .eq 6, 3), (21, .iinc 1 1, 3), (24, .iinc 2 1, 3), (27, .goto (-23), 3), (30, .iload_n 1, 1), (31, .ireturn, 1)]
theorem dk_Gear_parcels (i : Nat) {pc : Nat} {ins : Instr} {len : Nat} (h : dt_Gear_parcels[i]? = some (pc, ins, len)) : decode m_Gear_parcels.2.1 pc = .ok (ins, len) := p_dk (b := m_Gear_parcels.2.1) (t := dt_Gear_parcels) (by decide +kernel) i h
def B_Gear_parcels_24 (k4 : Nat → Int → Int → p_Hp → Option (Int × p_Hp)) (v0 : Nat) (v1 : Int) (v2 : Int) (s0 : p_Hp) : Option (Int × p_Hp) :=
  p_bi (p_w (v2 + 1)) fun x1 =>
  k4 v0 v1 x1 s0
def L_Gear_parcels_4 (k4 : Nat → Int → Int → p_Hp → Option (Int × p_Hp)) (v0 : Nat) (v1 : Int) (v2 : Int) (s0 : p_Hp) : Option (Int × p_Hp) :=
  p_gd (p_is s0 v0 0) <|
  if (p_Z s0 v0 1) ≤ v2 then
    some (v1, s0)
  else
    p_gd (p_is s0 (p_R s0 v0 17) 100) <|
    p_gd ((0 : Int) ≤ v2 ∧ v2 < (p_L s0 (p_R s0 v0 17) : Int)) <|
    if (p_Z s0 (p_R s0 v0 17) (v2 : Int).toNat) = 0 then
      B_Gear_parcels_24 k4 v0 v1 v2 s0
    else
      p_bi (p_w (v1 + 1)) fun x6 =>
      B_Gear_parcels_24 k4 v0 x6 v2 s0
def O_Gear_parcels_4  : Nat → Nat → Int → Int → p_Hp → Option (Int × p_Hp)
  | 0 => fun _ _ _ _ => none
  | n + 1 => L_Gear_parcels_4 (O_Gear_parcels_4 n)
def F_Gear_parcels (v0 : Nat) (s0 : p_Hp) : Option (Int × p_Hp) :=
  O_Gear_parcels_4 3000 v0 0 0 s0
set_option maxRecDepth 100000 in
set_option maxHeartbeats 4000000 in
theorem tB_Gear_parcels_24 (K : p_K) (l : Launch) (k4 : Nat → Int → Int → p_Hp → Option (Int × p_Hp)) (hk4 : ∀ (v0 : Nat) (v1 : Int) (v2 : Int)  (s0 : p_Hp) (r : (Int × p_Hp)), k4 v0 v1 v2 s0 = some r → p_Go K l m_Gear_parcels 4 [(0, p_r v0), (1, p_i v1), (2, p_i v2)] [] s0 (some (p_i r.1), r.2)) (v0 : Nat) (v1 : Int) (v2 : Int) (s0 : p_Hp) (r : (Int × p_Hp)) (h : B_Gear_parcels_24 k4 v0 v1 v2 s0 = some r) : p_Go K l m_Gear_parcels 24 [(0, p_r v0), (1, p_i v1), (2, p_i v2)] [] s0 (some (p_i r.1), r.2) := by
  unfold B_Gear_parcels_24 at h
  refine g_iinc (j := 2) [(2, p_i (p_w (v2 + 1))), (0, p_r v0), (1, p_i v1)] (dk_Gear_parcels 14 rfl) rfl (by decide) rfl ?_
  refine p_ltG (P := fun q => p_Go K l m_Gear_parcels 27 [(2, p_i q), (0, p_r v0), (1, p_i v1)] [] s0 _) ?_ h
  intro x1 h
  refine g_goto 4 (dk_Gear_parcels 15 rfl) (by decide) ?_
  refine g_sub [(0, p_r v0), (1, p_i v1), (2, p_i x1)] [1, 2, 0] rfl ?_
  exact hk4 v0 v1 x1 s0 _ h
set_option maxRecDepth 100000 in
set_option maxHeartbeats 4000000 in
theorem tL_Gear_parcels_4 (K : p_K) (l : Launch) (k4 : Nat → Int → Int → p_Hp → Option (Int × p_Hp)) (hk4 : ∀ (v0 : Nat) (v1 : Int) (v2 : Int)  (s0 : p_Hp) (r : (Int × p_Hp)), k4 v0 v1 v2 s0 = some r → p_Go K l m_Gear_parcels 4 [(0, p_r v0), (1, p_i v1), (2, p_i v2)] [] s0 (some (p_i r.1), r.2)) (v0 : Nat) (v1 : Int) (v2 : Int) (s0 : p_Hp) (r : (Int × p_Hp)) (h : L_Gear_parcels_4 k4 v0 v1 v2 s0 = some r) : p_Go K l m_Gear_parcels 4 [(0, p_r v0), (1, p_i v1), (2, p_i v2)] [] s0 (some (p_i r.1), r.2) := by
  unfold L_Gear_parcels_4 at h
  refine g_iload_n (i := 2) (j := 2) (dk_Gear_parcels 4 rfl) rfl rfl ?_
  refine g_aload_n (i := 0) (j := 0) (dk_Gear_parcels 5 rfl) rfl rfl ?_
  obtain ⟨c1, h⟩ := p_gdE h
  refine g_getI fl_Gear_85 (Or.inl rfl) (dk_Gear_parcels 6 rfl) c1 ?_
  refine g_icmp_ge 30 (dk_Gear_parcels 7 rfl) (by decide) (fun b2 => ?_) (fun b2 => ?_)
  · have h := p_ifT b2 h
    refine g_iload_n (i := 1) (j := 1) (dk_Gear_parcels 16 rfl) rfl rfl ?_
    cases h
    exact g_ret rfl rfl (dk_Gear_parcels 17 rfl) (fun os => ⟨_, rfl, p_okh os⟩)
  · have h := p_ifF b2 h
    refine g_aload_n (i := 0) (j := 0) (dk_Gear_parcels 8 rfl) rfl rfl ?_
    refine g_getR fl_Gear_26 (Or.inr ⟨_, rfl⟩) (dk_Gear_parcels 9 rfl) c1 ?_
    refine g_iload_n (i := 2) (j := 2) (dk_Gear_parcels 10 rfl) rfl rfl ?_
    obtain ⟨c3, h⟩ := p_gdE h
    obtain ⟨c4, h⟩ := p_gdE h
    refine g_iaload (dk_Gear_parcels 11 rfl) c3 c4.1 c4.2 ?_
    refine g_if_eq 24 (dk_Gear_parcels 12 rfl) (by decide) (fun b5 => ?_) (fun b5 => ?_)
    · have h := p_ifT b5 h
      exact tB_Gear_parcels_24 K l k4 hk4 v0 v1 v2 s0 _ h
    · have h := p_ifF b5 h
      refine g_iinc (j := 1) [(1, p_i (p_w (v1 + 1))), (0, p_r v0), (2, p_i v2)] (dk_Gear_parcels 13 rfl) rfl (by decide) rfl ?_
      refine p_ltG (P := fun q => p_Go K l m_Gear_parcels 24 [(1, p_i q), (0, p_r v0), (2, p_i v2)] [] s0 _) ?_ h
      intro x6 h
      refine g_sub [(0, p_r v0), (1, p_i x6), (2, p_i v2)] [1, 0, 2] rfl ?_
      exact tB_Gear_parcels_24 K l k4 hk4 v0 x6 v2 s0 _ h
set_option maxRecDepth 100000 in
set_option maxHeartbeats 4000000 in
theorem tO_Gear_parcels_4 (K : p_K) (l : Launch)  : ∀ (n : Nat) (v0 : Nat) (v1 : Int) (v2 : Int) (s0 : p_Hp) (r : (Int × p_Hp)), O_Gear_parcels_4 n v0 v1 v2 s0 = some r → p_Go K l m_Gear_parcels 4 [(0, p_r v0), (1, p_i v1), (2, p_i v2)] [] s0 (some (p_i r.1), r.2) := by
  intro n
  induction n with
  | zero => intro v0 v1 v2 s0 r h; cases (show (none : Option (Int × p_Hp)) = some r from h)
  | succ n ih => intro v0 v1 v2 s0 r h; exact tL_Gear_parcels_4 K l _ ih v0 v1 v2 s0 r h
set_option maxRecDepth 100000 in
set_option maxHeartbeats 4000000 in
theorem tF_Gear_parcels (K : p_K) (l : Launch) (v0 : Nat) (s0 : p_Hp) (r : (Int × p_Hp)) (h : F_Gear_parcels v0 s0 = some r) : p_Ct K l m_Gear_parcels [p_r v0] s0 (some (p_i r.1), r.2) := by
  refine p_Ct.of (by decide +kernel) (Nat.le_of_ble_eq_true rfl) ?_
  unfold F_Gear_parcels at h
  show p_Go K l m_Gear_parcels 0 [(0, p_r v0)] [] s0 _
  refine g_iconst (dk_Gear_parcels 0 rfl) (by decide) ?_
  refine g_istore_n (i := 1) [(1, p_i 0), (0, p_r v0)] (dk_Gear_parcels 1 rfl) rfl (by decide) rfl ?_
  refine g_iconst (dk_Gear_parcels 2 rfl) (by decide) ?_
  refine g_istore_n (i := 2) [(2, p_i 0), (1, p_i 0), (0, p_r v0)] (dk_Gear_parcels 3 rfl) rfl (by decide) rfl ?_
  refine g_sub [(0, p_r v0), (1, p_i 0), (2, p_i 0)] [2, 1, 0] rfl ?_
  exact tO_Gear_parcels_4 K l 3000 v0 0 0 s0 _ h
def m_SW_refit : p_Me := (⟨"SortWorks", "refit", "(II)I"⟩, prog_1_method_11_code, 5, (some .int), 2, 45)
theorem mt_SW_refit : p_Mt m_SW_refit 2 := ⟨p_mem (p_tb3 (List.mem_of_getElem? (i := 149) rfl)) rfl, tw_1_1, by decide +kernel, by decide +kernel, by decide +kernel⟩
def dt_SW_refit : List (Nat × Instr × Nat) := [(0, .aload_n 0, 1), (1, .getfield 18, 3), (4, .iload_n 1, 1), (5, .invokevirtual 98, 3), (8, .astore_n 3, 1), (9, .aload_n 3, 1), (10, .ifnonnull 9, 3), (13, .aload_n 0, 1), (14, .iconst (-1), 1), (15, .invokevirtual 61, 3), (18, .ireturn, 1), (19, .iload_n 2, 1), (20, .invokestatic 67, 3), (23, .ifCond .ne 10, 3), (26, .aload_n 0, 1), (27, .bipush (-2), 2), (29, .invokevirtual 61, 3), (32, .ireturn, 1), (33, .aload_n 3, 1), (34, .invokevirtual 129, 3), (37, .iload_n 2, 1), (38, .invokestatic 71, 3), (41, .if_icmp .eq 10, 3), (44, .aload_n 0, 1), (45, .bipush (-12), 2), (47, .invokevirtual 61, 3), (50, .ireturn, 1), (51, .aload_n 3, 1), (52, .invokevirtual 135, 3), (55, .ifCond .le 10, 3), (58, .aload_n 0, 1), (59, .bipush (-3), 2), (61, .invokevirtual 61, 3), (64, .ireturn, 1), (65, .aload_n 3, 1), (66, .getfield 139, 3), (69, .istore 4, 2), (71, .aload_n 3, 1), (72, .iload_n 2, 1), (73, .invokevirtual 87, 3), (76, .aload_n 0, 1), (77, .iload 4, 2), (79, .invokevirtual 95, 3), (82, .ireturn, 1)]
theorem dk_SW_refit (i : Nat) {pc : Nat} {ins : Instr} {len : Nat} (h : dt_SW_refit[i]? = some (pc, ins, len)) : decode m_SW_refit.2.1 pc = .ok (ins, len) := p_dk (b := m_SW_refit.2.1) (t := dt_SW_refit) (by decide +kernel) i h
def F_SW_refit (v0 : Nat) (v1 : Int) (v2 : Int) (s0 : p_Hp) : Option (Int × p_Hp) :=
  p_gd (p_is s0 v0 10) <|
  p_gd (p_is s0 (p_R s0 v0 1) 9) <|
  p_bd (F_Works_gearOf (p_R s0 v0 1) v1 s0) fun r7 s3 =>
  if r7 ≠ 0 then
    p_bd (F_SW_isKind v2 s3) fun r13 s9 =>
    if r13 ≠ 0 then
      p_gd (p_is s9 r7 0) <|
      p_bd (F_Gear_isTaker r7 s9) fun r20 s16 =>
      p_bd (F_SW_isTakerKind v2 s16) fun r25 s21 =>
      if r20 = r25 then
        p_bd (F_Gear_parcels r7 s21) fun r31 s27 =>
        if r31 ≤ 0 then
          p_bi ((p_Z s27 r7 0)) fun x33 =>
          p_bv (F_Gear_begin r7 v2 s27) fun s34 =>
          p_bd (F_SW_built v0 x33 s34) fun r42 s38 =>
          some (r42, s38)
        else
          p_bd (F_SW_refuse v0 (-3) s27) fun r47 s43 =>
          some (r47, s43)
      else
        p_bd (F_SW_refuse v0 (-12) s21) fun r52 s48 =>
        some (r52, s48)
    else
      p_bd (F_SW_refuse v0 (-2) s9) fun r57 s53 =>
      some (r57, s53)
  else
    p_bd (F_SW_refuse v0 (-1) s3) fun r62 s58 =>
    some (r62, s58)
set_option maxRecDepth 100000 in
set_option maxHeartbeats 4000000 in
theorem tF_SW_refit (K : p_K) (l : Launch) (v0 : Nat) (v1 : Int) (v2 : Int) (s0 : p_Hp) (r : (Int × p_Hp)) (h : F_SW_refit v0 v1 v2 s0 = some r) : p_Ct K l m_SW_refit [p_r v0, p_i v1, p_i v2] s0 (some (p_i r.1), r.2) := by
  refine p_Ct.of (by decide +kernel) (Nat.le_of_ble_eq_true rfl) ?_
  unfold F_SW_refit at h
  show p_Go K l m_SW_refit 0 [(0, p_r v0), (1, p_i v1), (2, p_i v2)] [] s0 _
  refine g_aload_n (i := 0) (j := 0) (dk_SW_refit 0 rfl) rfl rfl ?_
  obtain ⟨c1, h⟩ := p_gdE h
  refine g_getR fl_SW_18 (Or.inl ⟨_, rfl⟩) (dk_SW_refit 1 rfl) c1 ?_
  refine g_iload_n (i := 1) (j := 1) (dk_SW_refit 2 rfl) rfl rfl ?_
  obtain ⟨c2, h⟩ := p_gdE h
  obtain ⟨r7, s3, q4, h⟩ := p_bdE h
  have t5 := tF_Works_gearOf K l (p_R s0 v0 1) v1 s0 _ q4
  refine g_callV (a := (p_R s0 v0 1)) (ci := 9) (q0 := (RX9, TX9, 15)) (As := [p_i v1]) (rest := []) [p_r r7] mt_Works_gearOf rfl rfl tw_3_104 tw_3_105 tw_3_103 ⟨Nat.le_of_ble_eq_true rfl, Nat.le_of_ble_eq_true rfl⟩ rfl (Nat.le_of_ble_eq_true rfl) (dk_SW_refit 3 rfl) rfl c2 rfl t5 ?_
  have hs6 : p_x s0 s3 := t5.1
  show p_Go K l m_SW_refit 8 [(0, p_r v0), (1, p_i v1), (2, p_i v2)] [p_r r7] s3 _
  refine g_astore_n (i := 3) [(3, p_r r7), (0, p_r v0), (1, p_i v1), (2, p_i v2)] (dk_SW_refit 4 rfl) rfl (by decide) rfl ?_
  refine g_aload_n (i := 3) (j := 0) (dk_SW_refit 5 rfl) rfl rfl ?_
  refine g_ifnonnull 19 (dk_SW_refit 6 rfl) (by decide) (fun b8 => ?_) (fun b8 => ?_)
  · have h := p_ifT b8 h
    refine g_iload_n (i := 2) (j := 3) (dk_SW_refit 11 rfl) rfl rfl ?_
    obtain ⟨r13, s9, q10, h⟩ := p_bdE h
    have t11 := tF_SW_isKind K l v2 s3 _ q10
    refine g_callS (av := [p_i v2]) (rest := []) [p_i r13] mt_SW_isKind tw_3_77 tw_3_76 ⟨Nat.le_of_ble_eq_true rfl, Nat.le_of_ble_eq_true rfl⟩ rfl (Nat.le_of_ble_eq_true rfl) (dk_SW_refit 12 rfl) rfl rfl t11 ?_
    have hs12 : p_x s3 s9 := t11.1
    show p_Go K l m_SW_refit 23 [(3, p_r r7), (0, p_r v0), (1, p_i v1), (2, p_i v2)] [p_i r13] s9 _
    refine g_if_ne 33 (dk_SW_refit 13 rfl) (by decide) (fun b14 => ?_) (fun b14 => ?_)
    · have h := p_ifT b14 h
      refine g_aload_n (i := 3) (j := 0) (dk_SW_refit 18 rfl) rfl rfl ?_
      obtain ⟨c15, h⟩ := p_gdE h
      obtain ⟨r20, s16, q17, h⟩ := p_bdE h
      have t18 := tF_Gear_isTaker K l r7 s9 _ q17
      refine g_callV (a := r7) (ci := 0) (q0 := (RX0, TX0, 20)) (As := []) (rest := []) [p_i r20] mt_Gear_isTaker rfl rfl tw_3_142 tw_3_143 tw_3_141 ⟨Nat.le_of_ble_eq_true rfl, Nat.le_of_ble_eq_true rfl⟩ rfl (Nat.le_of_ble_eq_true rfl) (dk_SW_refit 19 rfl) rfl c15 rfl t18 ?_
      have hs19 : p_x s9 s16 := t18.1
      show p_Go K l m_SW_refit 37 [(3, p_r r7), (0, p_r v0), (1, p_i v1), (2, p_i v2)] [p_i r20] s16 _
      refine g_iload_n (i := 2) (j := 3) (dk_SW_refit 20 rfl) rfl rfl ?_
      obtain ⟨r25, s21, q22, h⟩ := p_bdE h
      have t23 := tF_SW_isTakerKind K l v2 s16 _ q22
      refine g_callS (av := [p_i v2]) (rest := [p_i r20]) [p_i r25, p_i r20] mt_SW_isTakerKind tw_3_80 tw_3_79 ⟨Nat.le_of_ble_eq_true rfl, Nat.le_of_ble_eq_true rfl⟩ rfl (Nat.le_of_ble_eq_true rfl) (dk_SW_refit 21 rfl) rfl rfl t23 ?_
      have hs24 : p_x s16 s21 := t23.1
      show p_Go K l m_SW_refit 41 [(3, p_r r7), (0, p_r v0), (1, p_i v1), (2, p_i v2)] [p_i r25, p_i r20] s21 _
      refine g_icmp_eq 51 (dk_SW_refit 22 rfl) (by decide) (fun b26 => ?_) (fun b26 => ?_)
      · have h := p_ifT b26 h
        refine g_aload_n (i := 3) (j := 0) (dk_SW_refit 27 rfl) rfl rfl ?_
        obtain ⟨r31, s27, q28, h⟩ := p_bdE h
        have t29 := tF_Gear_parcels K l r7 s21 _ q28
        refine g_callV (a := r7) (ci := 0) (q0 := (RX0, TX0, 20)) (As := []) (rest := []) [p_i r31] mt_Gear_parcels rfl rfl tw_3_151 tw_3_152 tw_3_150 ⟨Nat.le_of_ble_eq_true rfl, Nat.le_of_ble_eq_true rfl⟩ rfl (Nat.le_of_ble_eq_true rfl) (dk_SW_refit 28 rfl) rfl (c15.up (hs19.trans hs24)) rfl t29 ?_
        have hs30 : p_x s21 s27 := t29.1
        show p_Go K l m_SW_refit 55 [(3, p_r r7), (0, p_r v0), (1, p_i v1), (2, p_i v2)] [p_i r31] s27 _
        refine g_if_le 65 (dk_SW_refit 29 rfl) (by decide) (fun b32 => ?_) (fun b32 => ?_)
        · have h := p_ifT b32 h
          refine g_aload_n (i := 3) (j := 0) (dk_SW_refit 34 rfl) rfl rfl ?_
          refine g_getI fl_SW_139 (Or.inl rfl) (dk_SW_refit 35 rfl) (c15.up (hs19.trans (hs24.trans hs30))) ?_
          refine g_istore [(4, p_i (p_Z s27 r7 0)), (3, p_r r7), (0, p_r v0), (1, p_i v1), (2, p_i v2)] (dk_SW_refit 36 rfl) (by decide) rfl ?_
          refine p_ltG (P := fun q => p_Go K l m_SW_refit 71 [(4, p_i q), (3, p_r r7), (0, p_r v0), (1, p_i v1), (2, p_i v2)] [] s27 _) ?_ h
          intro x33 h
          refine g_aload_n (i := 3) (j := 1) (dk_SW_refit 37 rfl) rfl rfl ?_
          refine g_iload_n (i := 2) (j := 4) (dk_SW_refit 38 rfl) rfl rfl ?_
          obtain ⟨s34, q35, h⟩ := p_bvE h
          have t36 := tF_Gear_begin K l r7 v2 s27 _ q35
          refine g_callV (a := r7) (ci := 0) (q0 := (RX0, TX0, 20)) (As := [p_i v2]) (rest := []) [] mt_Gear_begin rfl rfl tw_3_83 tw_3_84 tw_3_82 ⟨Nat.le_of_ble_eq_true rfl, Nat.le_of_ble_eq_true rfl⟩ rfl (Nat.le_of_ble_eq_true rfl) (dk_SW_refit 39 rfl) rfl (c15.up (hs19.trans (hs24.trans hs30))) rfl t36 ?_
          have hs37 : p_x s27 s34 := t36.1
          show p_Go K l m_SW_refit 76 [(4, p_i x33), (3, p_r r7), (0, p_r v0), (1, p_i v1), (2, p_i v2)] [] s34 _
          refine g_aload_n (i := 0) (j := 2) (dk_SW_refit 40 rfl) rfl rfl ?_
          refine g_iload (j := 0) (dk_SW_refit 41 rfl) rfl ?_
          obtain ⟨r42, s38, q39, h⟩ := p_bdE h
          have t40 := tF_SW_built K l v0 x33 s34 _ q39
          refine g_callV (a := v0) (ci := 10) (q0 := (RX10, TX10, 9)) (As := [p_i x33]) (rest := []) [p_i r42] mt_SW_built rfl rfl tw_3_93 ts_2 tw_3_91 ⟨Nat.le_of_ble_eq_true rfl, Nat.le_of_ble_eq_true rfl⟩ rfl (Nat.le_of_ble_eq_true rfl) (dk_SW_refit 42 rfl) rfl (c1.up (hs6.trans (hs12.trans (hs19.trans (hs24.trans (hs30.trans hs37)))))) rfl t40 ?_
          have hs41 : p_x s34 s38 := t40.1
          show p_Go K l m_SW_refit 82 [(4, p_i x33), (3, p_r r7), (0, p_r v0), (1, p_i v1), (2, p_i v2)] [p_i r42] s38 _
          cases h
          exact g_ret rfl rfl (dk_SW_refit 43 rfl) (fun os => ⟨_, rfl, p_okh os⟩)
        · have h := p_ifF b32 h
          refine g_aload_n (i := 0) (j := 1) (dk_SW_refit 30 rfl) rfl rfl ?_
          refine g_bipush (dk_SW_refit 31 rfl) (by decide +kernel) (by decide) ?_
          obtain ⟨r47, s43, q44, h⟩ := p_bdE h
          have t45 := tF_SW_refuse K l v0 (-3) s27 _ q44
          refine g_callV (a := v0) (ci := 10) (q0 := (RX10, TX10, 9)) (As := [p_i (-3)]) (rest := []) [p_i r47] mt_SW_refuse rfl rfl tw_3_66 ts_0 tw_3_64 ⟨Nat.le_of_ble_eq_true rfl, Nat.le_of_ble_eq_true rfl⟩ rfl (Nat.le_of_ble_eq_true rfl) (dk_SW_refit 32 rfl) rfl (c1.up (hs6.trans (hs12.trans (hs19.trans (hs24.trans hs30))))) rfl t45 ?_
          have hs46 : p_x s27 s43 := t45.1
          show p_Go K l m_SW_refit 64 [(3, p_r r7), (0, p_r v0), (1, p_i v1), (2, p_i v2)] [p_i r47] s43 _
          cases h
          exact g_ret rfl rfl (dk_SW_refit 33 rfl) (fun os => ⟨_, rfl, p_okh os⟩)
      · have h := p_ifF b26 h
        refine g_aload_n (i := 0) (j := 1) (dk_SW_refit 23 rfl) rfl rfl ?_
        refine g_bipush (dk_SW_refit 24 rfl) (by decide +kernel) (by decide) ?_
        obtain ⟨r52, s48, q49, h⟩ := p_bdE h
        have t50 := tF_SW_refuse K l v0 (-12) s21 _ q49
        refine g_callV (a := v0) (ci := 10) (q0 := (RX10, TX10, 9)) (As := [p_i (-12)]) (rest := []) [p_i r52] mt_SW_refuse rfl rfl tw_3_66 ts_0 tw_3_64 ⟨Nat.le_of_ble_eq_true rfl, Nat.le_of_ble_eq_true rfl⟩ rfl (Nat.le_of_ble_eq_true rfl) (dk_SW_refit 25 rfl) rfl (c1.up (hs6.trans (hs12.trans (hs19.trans hs24)))) rfl t50 ?_
        have hs51 : p_x s21 s48 := t50.1
        show p_Go K l m_SW_refit 50 [(3, p_r r7), (0, p_r v0), (1, p_i v1), (2, p_i v2)] [p_i r52] s48 _
        cases h
        exact g_ret rfl rfl (dk_SW_refit 26 rfl) (fun os => ⟨_, rfl, p_okh os⟩)
    · have h := p_ifF b14 h
      refine g_aload_n (i := 0) (j := 1) (dk_SW_refit 14 rfl) rfl rfl ?_
      refine g_bipush (dk_SW_refit 15 rfl) (by decide +kernel) (by decide) ?_
      obtain ⟨r57, s53, q54, h⟩ := p_bdE h
      have t55 := tF_SW_refuse K l v0 (-2) s9 _ q54
      refine g_callV (a := v0) (ci := 10) (q0 := (RX10, TX10, 9)) (As := [p_i (-2)]) (rest := []) [p_i r57] mt_SW_refuse rfl rfl tw_3_66 ts_0 tw_3_64 ⟨Nat.le_of_ble_eq_true rfl, Nat.le_of_ble_eq_true rfl⟩ rfl (Nat.le_of_ble_eq_true rfl) (dk_SW_refit 16 rfl) rfl (c1.up (hs6.trans hs12)) rfl t55 ?_
      have hs56 : p_x s9 s53 := t55.1
      show p_Go K l m_SW_refit 32 [(3, p_r r7), (0, p_r v0), (1, p_i v1), (2, p_i v2)] [p_i r57] s53 _
      cases h
      exact g_ret rfl rfl (dk_SW_refit 17 rfl) (fun os => ⟨_, rfl, p_okh os⟩)
  · have h := p_ifF b8 h
    refine g_aload_n (i := 0) (j := 1) (dk_SW_refit 7 rfl) rfl rfl ?_
    refine g_iconst (dk_SW_refit 8 rfl) (by decide) ?_
    obtain ⟨r62, s58, q59, h⟩ := p_bdE h
    have t60 := tF_SW_refuse K l v0 (-1) s3 _ q59
    refine g_callV (a := v0) (ci := 10) (q0 := (RX10, TX10, 9)) (As := [p_i (-1)]) (rest := []) [p_i r62] mt_SW_refuse rfl rfl tw_3_66 ts_0 tw_3_64 ⟨Nat.le_of_ble_eq_true rfl, Nat.le_of_ble_eq_true rfl⟩ rfl (Nat.le_of_ble_eq_true rfl) (dk_SW_refit 9 rfl) rfl (c1.up hs6) rfl t60 ?_
    have hs61 : p_x s3 s58 := t60.1
    show p_Go K l m_SW_refit 18 [(3, p_r r7), (0, p_r v0), (1, p_i v1), (2, p_i v2)] [p_i r62] s58 _
    cases h
    exact g_ret rfl rfl (dk_SW_refit 10 rfl) (fun os => ⟨_, rfl, p_okh os⟩)
def m_Gear_buildAs : p_Me := (⟨"SortWorks$Gear", "buildAs", "(LSortWorks$Gear;)V"⟩, prog_2_method_3_code, 2, none, 2, 60)
theorem mt_Gear_buildAs : p_Mt m_Gear_buildAs 1 := ⟨p_mem (p_tb3 (List.mem_of_getElem? (i := 165) rfl)) rfl, tw_1_5, by decide +kernel, by decide +kernel, by decide +kernel⟩
def dt_Gear_buildAs : List (Nat × Instr × Nat) := [(0, .aload_n 0, 1), (1, .aload_n 1, 1), (2, .getfield 35, 3), (5, .invokevirtual 81, 3), (8, .aload_n 0, 1), (9, .aload_n 1, 1), (10, .getfield 85, 3), (13, .putfield 85, 3), (16, .aload_n 0, 1), (17, .aload_n 1, 1), (18, .getfield 41, 3), (21, .putfield 41, 3), (24, .aload_n 0, 1), (25, .aload_n 1, 1), (26, .getfield 9, 3), (29, .putfield 9, 3), (32, .aload_n 1, 1), (33, .getfield 15, 3), (36, .iconst 0, 1), (37, .aload_n 0, 1), (38, .getfield 15, 3), (41, .iconst 0, 1), (42, .iconst 3, 1), (43, .invokestatic 88, 3), (46, .aload_n 1, 1), (47, .getfield 19, 3), (50, .iconst 0, 1), (51, .aload_n 0, 1), (52, .getfield 19, 3), (55, .iconst 0, 1), (56, .iconst 3, 1), (57, .invokestatic 88, 3), (60, .aload_n 0, 1), (61, .aload_n 1, 1), (62, .getfield 53, 3), (65, .putfield 53, 3), (68, .return_, 1)]
theorem dk_Gear_buildAs (i : Nat) {pc : Nat} {ins : Instr} {len : Nat} (h : dt_Gear_buildAs[i]? = some (pc, ins, len)) : decode m_Gear_buildAs.2.1 pc = .ok (ins, len) := p_dk (b := m_Gear_buildAs.2.1) (t := dt_Gear_buildAs) (by decide +kernel) i h
def F_Gear_buildAs (v0 : Nat) (v1 : Nat) (s0 : p_Hp) : Option p_Hp :=
  p_gd (p_is s0 v1 0) <|
  p_gd (p_is s0 v0 0) <|
  p_bv (F_Gear_begin v0 (p_Z s0 v1 0) s0) fun s3 =>
  p_bi (p_wZ s3 v0 1 (p_Z s3 v1 1)) fun s7 =>
  p_bi (p_wZ s7 v0 2 (p_Z s7 v1 2)) fun s9 =>
  p_bi (p_wZ s9 v0 3 (p_Z s9 v1 3)) fun s11 =>
  p_gd (p_is s11 (p_R s11 v1 4) 100) <|
  p_gd (p_is s11 (p_R s11 v0 4) 100) <|
  p_gd ((0 : Int) ≤ 0 ∧ (0 : Int) ≤ 0 ∧ (0 : Int) ≤ 3 ∧ 0 + 3 ≤ (p_L s11 (p_R s11 v1 4) : Int) ∧ 0 + 3 ≤ (p_L s11 (p_R s11 v0 4) : Int)) <|
  p_bi (p_cp s11 (p_R s11 v1 4) (0 : Int).toNat (p_R s11 v0 4) (0 : Int).toNat (3 : Int).toNat) fun s16 =>
  p_gd (p_is s16 (p_R s16 v1 5) 101) <|
  p_gd (p_is s16 (p_R s16 v0 5) 101) <|
  p_gd ((0 : Int) ≤ 0 ∧ (0 : Int) ≤ 0 ∧ (0 : Int) ≤ 3 ∧ 0 + 3 ≤ (p_L s16 (p_R s16 v1 5) : Int) ∧ 0 + 3 ≤ (p_L s16 (p_R s16 v0 5) : Int)) <|
  p_bi (p_cp s16 (p_R s16 v1 5) (0 : Int).toNat (p_R s16 v0 5) (0 : Int).toNat (3 : Int).toNat) fun s21 =>
  p_gd ((p_Z s21 v1 7) = 0 ∨ (p_Z s21 v1 7) = 1) <|
  p_bi (p_wZ s21 v0 7 (p_Z s21 v1 7)) fun s24 =>
  some s24
set_option maxRecDepth 100000 in
set_option maxHeartbeats 4000000 in
theorem tF_Gear_buildAs (K : p_K) (l : Launch) (v0 : Nat) (v1 : Nat) (s0 : p_Hp) (r : p_Hp) (h : F_Gear_buildAs v0 v1 s0 = some r) : p_Ct K l m_Gear_buildAs [p_r v0, p_r v1] s0 (none, r) := by
  refine p_Ct.of (by decide +kernel) (Nat.le_of_ble_eq_true rfl) ?_
  unfold F_Gear_buildAs at h
  show p_Go K l m_Gear_buildAs 0 [(0, p_r v0), (1, p_r v1)] [] s0 _
  refine g_aload_n (i := 0) (j := 0) (dk_Gear_buildAs 0 rfl) rfl rfl ?_
  refine g_aload_n (i := 1) (j := 1) (dk_Gear_buildAs 1 rfl) rfl rfl ?_
  obtain ⟨c1, h⟩ := p_gdE h
  refine g_getI fl_Gear_35 (Or.inl rfl) (dk_Gear_buildAs 2 rfl) c1 ?_
  obtain ⟨c2, h⟩ := p_gdE h
  obtain ⟨s3, q4, h⟩ := p_bvE h
  have t5 := tF_Gear_begin K l v0 (p_Z s0 v1 0) s0 _ q4
  refine g_callV (a := v0) (ci := 0) (q0 := (RX0, TX0, 20)) (As := [p_i (p_Z s0 v1 0)]) (rest := []) [] mt_Gear_begin rfl rfl tw_3_83 tw_3_84 tw_3_166 ⟨Nat.le_of_ble_eq_true rfl, Nat.le_of_ble_eq_true rfl⟩ rfl (Nat.le_of_ble_eq_true rfl) (dk_Gear_buildAs 3 rfl) rfl c2 rfl t5 ?_
  have hs6 : p_x s0 s3 := t5.1
  show p_Go K l m_Gear_buildAs 8 [(0, p_r v0), (1, p_r v1)] [] s3 _
  refine g_aload_n (i := 0) (j := 0) (dk_Gear_buildAs 4 rfl) rfl rfl ?_
  refine g_aload_n (i := 1) (j := 1) (dk_Gear_buildAs 5 rfl) rfl rfl ?_
  refine g_getI fl_Gear_85 (Or.inl rfl) (dk_Gear_buildAs 6 rfl) (c1.up hs6) ?_
  refine g_putI fl_Gear_85 (Or.inl rfl) (dk_Gear_buildAs 7 rfl) (c2.up hs6) ?_
  refine p_ltS (P := fun q => p_Go K l m_Gear_buildAs 16 [(0, p_r v0), (1, p_r v1)] [] q _) (p_xZ _ _ _ _) ?_ h
  intro s7 hs8 h
  refine g_aload_n (i := 0) (j := 0) (dk_Gear_buildAs 8 rfl) rfl rfl ?_
  refine g_aload_n (i := 1) (j := 1) (dk_Gear_buildAs 9 rfl) rfl rfl ?_
  refine g_getI fl_Gear_41 (Or.inl rfl) (dk_Gear_buildAs 10 rfl) (c1.up (hs6.trans hs8)) ?_
  refine g_putI fl_Gear_41 (Or.inl rfl) (dk_Gear_buildAs 11 rfl) (c2.up (hs6.trans hs8)) ?_
  refine p_ltS (P := fun q => p_Go K l m_Gear_buildAs 24 [(0, p_r v0), (1, p_r v1)] [] q _) (p_xZ _ _ _ _) ?_ h
  intro s9 hs10 h
  refine g_aload_n (i := 0) (j := 0) (dk_Gear_buildAs 12 rfl) rfl rfl ?_
  refine g_aload_n (i := 1) (j := 1) (dk_Gear_buildAs 13 rfl) rfl rfl ?_
  refine g_getI fl_Gear_9 (Or.inl rfl) (dk_Gear_buildAs 14 rfl) (c1.up (hs6.trans (hs8.trans hs10))) ?_
  refine g_putI fl_Gear_9 (Or.inl rfl) (dk_Gear_buildAs 15 rfl) (c2.up (hs6.trans (hs8.trans hs10))) ?_
  refine p_ltS (P := fun q => p_Go K l m_Gear_buildAs 32 [(0, p_r v0), (1, p_r v1)] [] q _) (p_xZ _ _ _ _) ?_ h
  intro s11 hs12 h
  refine g_aload_n (i := 1) (j := 1) (dk_Gear_buildAs 16 rfl) rfl rfl ?_
  refine g_getR fl_Gear_15 (Or.inr ⟨_, rfl⟩) (dk_Gear_buildAs 17 rfl) (c1.up (hs6.trans (hs8.trans (hs10.trans hs12)))) ?_
  refine g_iconst (dk_Gear_buildAs 18 rfl) (by decide) ?_
  refine g_aload_n (i := 0) (j := 0) (dk_Gear_buildAs 19 rfl) rfl rfl ?_
  refine g_getR fl_Gear_15 (Or.inr ⟨_, rfl⟩) (dk_Gear_buildAs 20 rfl) (c2.up (hs6.trans (hs8.trans (hs10.trans hs12)))) ?_
  refine g_iconst (dk_Gear_buildAs 21 rfl) (by decide) ?_
  refine g_iconst (dk_Gear_buildAs 22 rfl) (by decide) ?_
  obtain ⟨c13, h⟩ := p_gdE h
  obtain ⟨c14, h⟩ := p_gdE h
  obtain ⟨c15, h⟩ := p_gdE h
  refine g_arraycopy tw_3_167 tw_3_169 tw_3_168 tw_1_14 (dk_Gear_buildAs 23 rfl) (Nat.le_of_ble_eq_true rfl) (Nat.le_of_ble_eq_true rfl) c13 c14 c15.1 c15.2.1 c15.2.2.1 c15.2.2.2.1 c15.2.2.2.2 ?_
  refine p_ltS (P := fun q => p_Go K l m_Gear_buildAs 46 [(0, p_r v0), (1, p_r v1)] [] q _) (p_xC _ _ _ _ _ _) ?_ h
  intro s16 hs17 h
  refine g_aload_n (i := 1) (j := 1) (dk_Gear_buildAs 24 rfl) rfl rfl ?_
  refine g_getR fl_Gear_19 (Or.inr ⟨_, rfl⟩) (dk_Gear_buildAs 25 rfl) (c1.up (hs6.trans (hs8.trans (hs10.trans (hs12.trans hs17))))) ?_
  refine g_iconst (dk_Gear_buildAs 26 rfl) (by decide) ?_
  refine g_aload_n (i := 0) (j := 0) (dk_Gear_buildAs 27 rfl) rfl rfl ?_
  refine g_getR fl_Gear_19 (Or.inr ⟨_, rfl⟩) (dk_Gear_buildAs 28 rfl) (c2.up (hs6.trans (hs8.trans (hs10.trans (hs12.trans hs17))))) ?_
  refine g_iconst (dk_Gear_buildAs 29 rfl) (by decide) ?_
  refine g_iconst (dk_Gear_buildAs 30 rfl) (by decide) ?_
  obtain ⟨c18, h⟩ := p_gdE h
  obtain ⟨c19, h⟩ := p_gdE h
  obtain ⟨c20, h⟩ := p_gdE h
  refine g_arraycopyJ tw_3_167 tw_3_169 tw_3_168 tw_1_14 (dk_Gear_buildAs 31 rfl) (Nat.le_of_ble_eq_true rfl) (Nat.le_of_ble_eq_true rfl) c18 c19 c20.1 c20.2.1 c20.2.2.1 c20.2.2.2.1 c20.2.2.2.2 ?_
  refine p_ltS (P := fun q => p_Go K l m_Gear_buildAs 60 [(0, p_r v0), (1, p_r v1)] [] q _) (p_xC _ _ _ _ _ _) ?_ h
  intro s21 hs22 h
  refine g_aload_n (i := 0) (j := 0) (dk_Gear_buildAs 32 rfl) rfl rfl ?_
  refine g_aload_n (i := 1) (j := 1) (dk_Gear_buildAs 33 rfl) rfl rfl ?_
  refine g_getI fl_Gear_53 (Or.inr rfl) (dk_Gear_buildAs 34 rfl) (c1.up (hs6.trans (hs8.trans (hs10.trans (hs12.trans (hs17.trans hs22)))))) ?_
  obtain ⟨c23, h⟩ := p_gdE h
  refine g_putB fl_Gear_53 (Or.inl rfl) (dk_Gear_buildAs 35 rfl) (c2.up (hs6.trans (hs8.trans (hs10.trans (hs12.trans (hs17.trans hs22)))))) c23 ?_
  refine p_ltS (P := fun q => p_Go K l m_Gear_buildAs 68 [(0, p_r v0), (1, p_r v1)] [] q _) (p_xZ _ _ _ _) ?_ h
  intro s24 hs25 h
  cases h
  exact g_ret rfl rfl (dk_Gear_buildAs 36 rfl) (fun _ => rfl)
def m_Rules_becomeAs : p_Me := (⟨"SortWorks$Rules", "becomeAs", "(LSortWorks$Rules;)V"⟩, prog_8_method_2_code, 2, none, 1, 60)
theorem mt_Rules_becomeAs : p_Mt m_Rules_becomeAs 1 := ⟨p_mem (p_tb3 (List.mem_of_getElem? (i := 177) rfl)) rfl, tw_1_7, by decide +kernel, by decide +kernel, by decide +kernel⟩
def dt_Rules_becomeAs : List (Nat × Instr × Nat) := [(0, .aload_n 0, 1), (1, .aload_n 1, 1), (2, .getfield 33, 3), (5, .putfield 33, 3), (8, .aload_n 1, 1), (9, .getfield 9, 3), (12, .iconst 0, 1), (13, .aload_n 0, 1), (14, .getfield 9, 3), (17, .iconst 0, 1), (18, .aload_n 0, 1), (19, .getfield 9, 3), (22, .arraylength, 1), (23, .invokestatic 37, 3), (26, .aload_n 1, 1), (27, .getfield 15, 3), (30, .iconst 0, 1), (31, .aload_n 0, 1), (32, .getfield 15, 3), (35, .iconst 0, 1), (36, .aload_n 0, 1), (37, .getfield 15, 3), (40, .arraylength, 1), (41, .invokestatic 37, 3), (44, .aload_n 1, 1), (45, .getfield 18, 3), (48, .iconst 0, 1), (49, .aload_n 0, 1), (50, .getfield 18, 3), (53, .iconst 0, 1), (54, .aload_n 0, 1), (55, .getfield 18, 3), (58, .arraylength, 1), (59, .invokestatic 37, 3), (62, .aload_n 1, 1), (63, .getfield 21, 3), (66, .iconst 0, 1), (67, .aload_n 0, 1), (68, .getfield 21, 3), (71, .iconst 0, 1), (72, .aload_n 0, 1), (73, .getfield 21, 3), (76, .arraylength, 1), (77, .invokestatic 37, 3), (80, .aload_n 1, 1), (81, .getfield 24, 3), (84, .iconst 0, 1), (85, .aload_n 0, 1), (86, .getfield 24, 3), (89, .iconst 0, 1), (90, .aload_n 0, 1), (91, .getfield 24, 3), (94, .arraylength, 1), (95, .invokestatic 37, 3), (98, .aload_n 1, 1), (99, .getfield 27, 3), (102, .iconst 0, 1), (103, .aload_n 0, 1), (104, .getfield 27, 3), (107, .iconst 0, 1), (108, .aload_n 0, 1), (109, .getfield 27, 3), (112, .arraylength, 1), (113, .invokestatic 37, 3), (116, .aload_n 1, 1), (117, .getfield 30, 3), (120, .iconst 0, 1), (121, .aload_n 0, 1), (122, .getfield 30, 3), (125, .iconst 0, 1), (126, .aload_n 0, 1), (127, .getfield 30, 3), (130, .arraylength, 1), (131, .invokestatic 37, 3), (134, .aload_n 0, 1), (135, .aload_n 1, 1), (136, .getfield 43, 3), (139, .putfield 43, 3), (142, .return_, 1)]
theorem dk_Rules_becomeAs (i : Nat) {pc : Nat} {ins : Instr} {len : Nat} (h : dt_Rules_becomeAs[i]? = some (pc, ins, len)) : decode m_Rules_becomeAs.2.1 pc = .ok (ins, len) := p_dk (b := m_Rules_becomeAs.2.1) (t := dt_Rules_becomeAs) (by decide +kernel) i h
def F_Rules_becomeAs (v0 : Nat) (v1 : Nat) (s0 : p_Hp) : Option p_Hp :=
  p_gd (p_is s0 v1 6) <|
  p_gd (p_is s0 v0 6) <|
  p_bi (p_wZ s0 v0 0 (p_Z s0 v1 0)) fun s3 =>
  p_gd (p_is s3 (p_R s3 v0 1) 100) <|
  p_gd (p_is s3 (p_R s3 v1 1) 100) <|
  p_gd ((0 : Int) ≤ 0 ∧ (0 : Int) ≤ 0 ∧ (0 : Int) ≤ (p_L s3 (p_R s3 v0 1) : Int) ∧ 0 + (p_L s3 (p_R s3 v0 1) : Int) ≤ (p_L s3 (p_R s3 v1 1) : Int) ∧ 0 + (p_L s3 (p_R s3 v0 1) : Int) ≤ (p_L s3 (p_R s3 v0 1) : Int)) <|
  p_bi (p_cp s3 (p_R s3 v1 1) (0 : Int).toNat (p_R s3 v0 1) (0 : Int).toNat ((p_L s3 (p_R s3 v0 1) : Int) : Int).toNat) fun s8 =>
  p_gd (p_is s8 (p_R s8 v0 2) 100) <|
  p_gd (p_is s8 (p_R s8 v1 2) 100) <|
  p_gd ((0 : Int) ≤ 0 ∧ (0 : Int) ≤ 0 ∧ (0 : Int) ≤ (p_L s8 (p_R s8 v0 2) : Int) ∧ 0 + (p_L s8 (p_R s8 v0 2) : Int) ≤ (p_L s8 (p_R s8 v1 2) : Int) ∧ 0 + (p_L s8 (p_R s8 v0 2) : Int) ≤ (p_L s8 (p_R s8 v0 2) : Int)) <|
  p_bi (p_cp s8 (p_R s8 v1 2) (0 : Int).toNat (p_R s8 v0 2) (0 : Int).toNat ((p_L s8 (p_R s8 v0 2) : Int) : Int).toNat) fun s13 =>
  p_gd (p_is s13 (p_R s13 v0 3) 100) <|
  p_gd (p_is s13 (p_R s13 v1 3) 100) <|
  p_gd ((0 : Int) ≤ 0 ∧ (0 : Int) ≤ 0 ∧ (0 : Int) ≤ (p_L s13 (p_R s13 v0 3) : Int) ∧ 0 + (p_L s13 (p_R s13 v0 3) : Int) ≤ (p_L s13 (p_R s13 v1 3) : Int) ∧ 0 + (p_L s13 (p_R s13 v0 3) : Int) ≤ (p_L s13 (p_R s13 v0 3) : Int)) <|
  p_bi (p_cp s13 (p_R s13 v1 3) (0 : Int).toNat (p_R s13 v0 3) (0 : Int).toNat ((p_L s13 (p_R s13 v0 3) : Int) : Int).toNat) fun s18 =>
  p_gd (p_is s18 (p_R s18 v0 4) 100) <|
  p_gd (p_is s18 (p_R s18 v1 4) 100) <|
  p_gd ((0 : Int) ≤ 0 ∧ (0 : Int) ≤ 0 ∧ (0 : Int) ≤ (p_L s18 (p_R s18 v0 4) : Int) ∧ 0 + (p_L s18 (p_R s18 v0 4) : Int) ≤ (p_L s18 (p_R s18 v1 4) : Int) ∧ 0 + (p_L s18 (p_R s18 v0 4) : Int) ≤ (p_L s18 (p_R s18 v0 4) : Int)) <|
  p_bi (p_cp s18 (p_R s18 v1 4) (0 : Int).toNat (p_R s18 v0 4) (0 : Int).toNat ((p_L s18 (p_R s18 v0 4) : Int) : Int).toNat) fun s23 =>
  p_gd (p_is s23 (p_R s23 v0 5) 100) <|
  p_gd (p_is s23 (p_R s23 v1 5) 100) <|
  p_gd ((0 : Int) ≤ 0 ∧ (0 : Int) ≤ 0 ∧ (0 : Int) ≤ (p_L s23 (p_R s23 v0 5) : Int) ∧ 0 + (p_L s23 (p_R s23 v0 5) : Int) ≤ (p_L s23 (p_R s23 v1 5) : Int) ∧ 0 + (p_L s23 (p_R s23 v0 5) : Int) ≤ (p_L s23 (p_R s23 v0 5) : Int)) <|
  p_bi (p_cp s23 (p_R s23 v1 5) (0 : Int).toNat (p_R s23 v0 5) (0 : Int).toNat ((p_L s23 (p_R s23 v0 5) : Int) : Int).toNat) fun s28 =>
  p_gd (p_is s28 (p_R s28 v0 6) 100) <|
  p_gd (p_is s28 (p_R s28 v1 6) 100) <|
  p_gd ((0 : Int) ≤ 0 ∧ (0 : Int) ≤ 0 ∧ (0 : Int) ≤ (p_L s28 (p_R s28 v0 6) : Int) ∧ 0 + (p_L s28 (p_R s28 v0 6) : Int) ≤ (p_L s28 (p_R s28 v1 6) : Int) ∧ 0 + (p_L s28 (p_R s28 v0 6) : Int) ≤ (p_L s28 (p_R s28 v0 6) : Int)) <|
  p_bi (p_cp s28 (p_R s28 v1 6) (0 : Int).toNat (p_R s28 v0 6) (0 : Int).toNat ((p_L s28 (p_R s28 v0 6) : Int) : Int).toNat) fun s33 =>
  p_gd (p_is s33 (p_R s33 v0 7) 100) <|
  p_gd (p_is s33 (p_R s33 v1 7) 100) <|
  p_gd ((0 : Int) ≤ 0 ∧ (0 : Int) ≤ 0 ∧ (0 : Int) ≤ (p_L s33 (p_R s33 v0 7) : Int) ∧ 0 + (p_L s33 (p_R s33 v0 7) : Int) ≤ (p_L s33 (p_R s33 v1 7) : Int) ∧ 0 + (p_L s33 (p_R s33 v0 7) : Int) ≤ (p_L s33 (p_R s33 v0 7) : Int)) <|
  p_bi (p_cp s33 (p_R s33 v1 7) (0 : Int).toNat (p_R s33 v0 7) (0 : Int).toNat ((p_L s33 (p_R s33 v0 7) : Int) : Int).toNat) fun s38 =>
  p_bi (p_wZ s38 v0 8 (p_Z s38 v1 8)) fun s40 =>
  some s40
set_option maxRecDepth 100000 in
set_option maxHeartbeats 4000000 in
theorem tF_Rules_becomeAs (K : p_K) (l : Launch) (v0 : Nat) (v1 : Nat) (s0 : p_Hp) (r : p_Hp) (h : F_Rules_becomeAs v0 v1 s0 = some r) : p_Ct K l m_Rules_becomeAs [p_r v0, p_r v1] s0 (none, r) := by
  refine p_Ct.of (by decide +kernel) (Nat.le_of_ble_eq_true rfl) ?_
  unfold F_Rules_becomeAs at h
  show p_Go K l m_Rules_becomeAs 0 [(0, p_r v0), (1, p_r v1)] [] s0 _
  refine g_aload_n (i := 0) (j := 0) (dk_Rules_becomeAs 0 rfl) rfl rfl ?_
  refine g_aload_n (i := 1) (j := 1) (dk_Rules_becomeAs 1 rfl) rfl rfl ?_
  obtain ⟨c1, h⟩ := p_gdE h
  refine g_getI fl_Rules_33 (Or.inl rfl) (dk_Rules_becomeAs 2 rfl) c1 ?_
  obtain ⟨c2, h⟩ := p_gdE h
  refine g_putI fl_Rules_33 (Or.inl rfl) (dk_Rules_becomeAs 3 rfl) c2 ?_
  refine p_ltS (P := fun q => p_Go K l m_Rules_becomeAs 8 [(0, p_r v0), (1, p_r v1)] [] q _) (p_xZ _ _ _ _) ?_ h
  intro s3 hs4 h
  refine g_aload_n (i := 1) (j := 1) (dk_Rules_becomeAs 4 rfl) rfl rfl ?_
  refine g_getR fl_Rules_9 (Or.inr ⟨_, rfl⟩) (dk_Rules_becomeAs 5 rfl) (c1.up hs4) ?_
  refine g_iconst (dk_Rules_becomeAs 6 rfl) (by decide) ?_
  refine g_aload_n (i := 0) (j := 0) (dk_Rules_becomeAs 7 rfl) rfl rfl ?_
  refine g_getR fl_Rules_9 (Or.inr ⟨_, rfl⟩) (dk_Rules_becomeAs 8 rfl) (c2.up hs4) ?_
  refine g_iconst (dk_Rules_becomeAs 9 rfl) (by decide) ?_
  refine g_aload_n (i := 0) (j := 0) (dk_Rules_becomeAs 10 rfl) rfl rfl ?_
  refine g_getR fl_Rules_9 (Or.inr ⟨_, rfl⟩) (dk_Rules_becomeAs 11 rfl) (c2.up hs4) ?_
  obtain ⟨c5, h⟩ := p_gdE h
  refine g_alen (i := 0) rfl (dk_Rules_becomeAs 12 rfl) c5 ?_
  obtain ⟨c6, h⟩ := p_gdE h
  obtain ⟨c7, h⟩ := p_gdE h
  refine g_arraycopy tw_3_178 tw_3_169 tw_3_168 tw_1_14 (dk_Rules_becomeAs 13 rfl) (Nat.le_of_ble_eq_true rfl) (Nat.le_of_ble_eq_true rfl) c6 c5 c7.1 c7.2.1 c7.2.2.1 c7.2.2.2.1 c7.2.2.2.2 ?_
  refine p_ltS (P := fun q => p_Go K l m_Rules_becomeAs 26 [(0, p_r v0), (1, p_r v1)] [] q _) (p_xC _ _ _ _ _ _) ?_ h
  intro s8 hs9 h
  refine g_aload_n (i := 1) (j := 1) (dk_Rules_becomeAs 14 rfl) rfl rfl ?_
  refine g_getR fl_Rules_15 (Or.inr ⟨_, rfl⟩) (dk_Rules_becomeAs 15 rfl) (c1.up (hs4.trans hs9)) ?_
  refine g_iconst (dk_Rules_becomeAs 16 rfl) (by decide) ?_
  refine g_aload_n (i := 0) (j := 0) (dk_Rules_becomeAs 17 rfl) rfl rfl ?_
  refine g_getR fl_Rules_15 (Or.inr ⟨_, rfl⟩) (dk_Rules_becomeAs 18 rfl) (c2.up (hs4.trans hs9)) ?_
  refine g_iconst (dk_Rules_becomeAs 19 rfl) (by decide) ?_
  refine g_aload_n (i := 0) (j := 0) (dk_Rules_becomeAs 20 rfl) rfl rfl ?_
  refine g_getR fl_Rules_15 (Or.inr ⟨_, rfl⟩) (dk_Rules_becomeAs 21 rfl) (c2.up (hs4.trans hs9)) ?_
  obtain ⟨c10, h⟩ := p_gdE h
  refine g_alen (i := 0) rfl (dk_Rules_becomeAs 22 rfl) c10 ?_
  obtain ⟨c11, h⟩ := p_gdE h
  obtain ⟨c12, h⟩ := p_gdE h
  refine g_arraycopy tw_3_178 tw_3_169 tw_3_168 tw_1_14 (dk_Rules_becomeAs 23 rfl) (Nat.le_of_ble_eq_true rfl) (Nat.le_of_ble_eq_true rfl) c11 c10 c12.1 c12.2.1 c12.2.2.1 c12.2.2.2.1 c12.2.2.2.2 ?_
  refine p_ltS (P := fun q => p_Go K l m_Rules_becomeAs 44 [(0, p_r v0), (1, p_r v1)] [] q _) (p_xC _ _ _ _ _ _) ?_ h
  intro s13 hs14 h
  refine g_aload_n (i := 1) (j := 1) (dk_Rules_becomeAs 24 rfl) rfl rfl ?_
  refine g_getR fl_Rules_18 (Or.inr ⟨_, rfl⟩) (dk_Rules_becomeAs 25 rfl) (c1.up (hs4.trans (hs9.trans hs14))) ?_
  refine g_iconst (dk_Rules_becomeAs 26 rfl) (by decide) ?_
  refine g_aload_n (i := 0) (j := 0) (dk_Rules_becomeAs 27 rfl) rfl rfl ?_
  refine g_getR fl_Rules_18 (Or.inr ⟨_, rfl⟩) (dk_Rules_becomeAs 28 rfl) (c2.up (hs4.trans (hs9.trans hs14))) ?_
  refine g_iconst (dk_Rules_becomeAs 29 rfl) (by decide) ?_
  refine g_aload_n (i := 0) (j := 0) (dk_Rules_becomeAs 30 rfl) rfl rfl ?_
  refine g_getR fl_Rules_18 (Or.inr ⟨_, rfl⟩) (dk_Rules_becomeAs 31 rfl) (c2.up (hs4.trans (hs9.trans hs14))) ?_
  obtain ⟨c15, h⟩ := p_gdE h
  refine g_alen (i := 0) rfl (dk_Rules_becomeAs 32 rfl) c15 ?_
  obtain ⟨c16, h⟩ := p_gdE h
  obtain ⟨c17, h⟩ := p_gdE h
  refine g_arraycopy tw_3_178 tw_3_169 tw_3_168 tw_1_14 (dk_Rules_becomeAs 33 rfl) (Nat.le_of_ble_eq_true rfl) (Nat.le_of_ble_eq_true rfl) c16 c15 c17.1 c17.2.1 c17.2.2.1 c17.2.2.2.1 c17.2.2.2.2 ?_
  refine p_ltS (P := fun q => p_Go K l m_Rules_becomeAs 62 [(0, p_r v0), (1, p_r v1)] [] q _) (p_xC _ _ _ _ _ _) ?_ h
  intro s18 hs19 h
  refine g_aload_n (i := 1) (j := 1) (dk_Rules_becomeAs 34 rfl) rfl rfl ?_
  refine g_getR fl_Rules_21 (Or.inr ⟨_, rfl⟩) (dk_Rules_becomeAs 35 rfl) (c1.up (hs4.trans (hs9.trans (hs14.trans hs19)))) ?_
  refine g_iconst (dk_Rules_becomeAs 36 rfl) (by decide) ?_
  refine g_aload_n (i := 0) (j := 0) (dk_Rules_becomeAs 37 rfl) rfl rfl ?_
  refine g_getR fl_Rules_21 (Or.inr ⟨_, rfl⟩) (dk_Rules_becomeAs 38 rfl) (c2.up (hs4.trans (hs9.trans (hs14.trans hs19)))) ?_
  refine g_iconst (dk_Rules_becomeAs 39 rfl) (by decide) ?_
  refine g_aload_n (i := 0) (j := 0) (dk_Rules_becomeAs 40 rfl) rfl rfl ?_
  refine g_getR fl_Rules_21 (Or.inr ⟨_, rfl⟩) (dk_Rules_becomeAs 41 rfl) (c2.up (hs4.trans (hs9.trans (hs14.trans hs19)))) ?_
  obtain ⟨c20, h⟩ := p_gdE h
  refine g_alen (i := 0) rfl (dk_Rules_becomeAs 42 rfl) c20 ?_
  obtain ⟨c21, h⟩ := p_gdE h
  obtain ⟨c22, h⟩ := p_gdE h
  refine g_arraycopy tw_3_178 tw_3_169 tw_3_168 tw_1_14 (dk_Rules_becomeAs 43 rfl) (Nat.le_of_ble_eq_true rfl) (Nat.le_of_ble_eq_true rfl) c21 c20 c22.1 c22.2.1 c22.2.2.1 c22.2.2.2.1 c22.2.2.2.2 ?_
  refine p_ltS (P := fun q => p_Go K l m_Rules_becomeAs 80 [(0, p_r v0), (1, p_r v1)] [] q _) (p_xC _ _ _ _ _ _) ?_ h
  intro s23 hs24 h
  refine g_aload_n (i := 1) (j := 1) (dk_Rules_becomeAs 44 rfl) rfl rfl ?_
  refine g_getR fl_Rules_24 (Or.inr ⟨_, rfl⟩) (dk_Rules_becomeAs 45 rfl) (c1.up (hs4.trans (hs9.trans (hs14.trans (hs19.trans hs24))))) ?_
  refine g_iconst (dk_Rules_becomeAs 46 rfl) (by decide) ?_
  refine g_aload_n (i := 0) (j := 0) (dk_Rules_becomeAs 47 rfl) rfl rfl ?_
  refine g_getR fl_Rules_24 (Or.inr ⟨_, rfl⟩) (dk_Rules_becomeAs 48 rfl) (c2.up (hs4.trans (hs9.trans (hs14.trans (hs19.trans hs24))))) ?_
  refine g_iconst (dk_Rules_becomeAs 49 rfl) (by decide) ?_
  refine g_aload_n (i := 0) (j := 0) (dk_Rules_becomeAs 50 rfl) rfl rfl ?_
  refine g_getR fl_Rules_24 (Or.inr ⟨_, rfl⟩) (dk_Rules_becomeAs 51 rfl) (c2.up (hs4.trans (hs9.trans (hs14.trans (hs19.trans hs24))))) ?_
  obtain ⟨c25, h⟩ := p_gdE h
  refine g_alen (i := 0) rfl (dk_Rules_becomeAs 52 rfl) c25 ?_
  obtain ⟨c26, h⟩ := p_gdE h
  obtain ⟨c27, h⟩ := p_gdE h
  refine g_arraycopy tw_3_178 tw_3_169 tw_3_168 tw_1_14 (dk_Rules_becomeAs 53 rfl) (Nat.le_of_ble_eq_true rfl) (Nat.le_of_ble_eq_true rfl) c26 c25 c27.1 c27.2.1 c27.2.2.1 c27.2.2.2.1 c27.2.2.2.2 ?_
  refine p_ltS (P := fun q => p_Go K l m_Rules_becomeAs 98 [(0, p_r v0), (1, p_r v1)] [] q _) (p_xC _ _ _ _ _ _) ?_ h
  intro s28 hs29 h
  refine g_aload_n (i := 1) (j := 1) (dk_Rules_becomeAs 54 rfl) rfl rfl ?_
  refine g_getR fl_Rules_27 (Or.inr ⟨_, rfl⟩) (dk_Rules_becomeAs 55 rfl) (c1.up (hs4.trans (hs9.trans (hs14.trans (hs19.trans (hs24.trans hs29)))))) ?_
  refine g_iconst (dk_Rules_becomeAs 56 rfl) (by decide) ?_
  refine g_aload_n (i := 0) (j := 0) (dk_Rules_becomeAs 57 rfl) rfl rfl ?_
  refine g_getR fl_Rules_27 (Or.inr ⟨_, rfl⟩) (dk_Rules_becomeAs 58 rfl) (c2.up (hs4.trans (hs9.trans (hs14.trans (hs19.trans (hs24.trans hs29)))))) ?_
  refine g_iconst (dk_Rules_becomeAs 59 rfl) (by decide) ?_
  refine g_aload_n (i := 0) (j := 0) (dk_Rules_becomeAs 60 rfl) rfl rfl ?_
  refine g_getR fl_Rules_27 (Or.inr ⟨_, rfl⟩) (dk_Rules_becomeAs 61 rfl) (c2.up (hs4.trans (hs9.trans (hs14.trans (hs19.trans (hs24.trans hs29)))))) ?_
  obtain ⟨c30, h⟩ := p_gdE h
  refine g_alen (i := 0) rfl (dk_Rules_becomeAs 62 rfl) c30 ?_
  obtain ⟨c31, h⟩ := p_gdE h
  obtain ⟨c32, h⟩ := p_gdE h
  refine g_arraycopy tw_3_178 tw_3_169 tw_3_168 tw_1_14 (dk_Rules_becomeAs 63 rfl) (Nat.le_of_ble_eq_true rfl) (Nat.le_of_ble_eq_true rfl) c31 c30 c32.1 c32.2.1 c32.2.2.1 c32.2.2.2.1 c32.2.2.2.2 ?_
  refine p_ltS (P := fun q => p_Go K l m_Rules_becomeAs 116 [(0, p_r v0), (1, p_r v1)] [] q _) (p_xC _ _ _ _ _ _) ?_ h
  intro s33 hs34 h
  refine g_aload_n (i := 1) (j := 1) (dk_Rules_becomeAs 64 rfl) rfl rfl ?_
  refine g_getR fl_Rules_30 (Or.inr ⟨_, rfl⟩) (dk_Rules_becomeAs 65 rfl) (c1.up (hs4.trans (hs9.trans (hs14.trans (hs19.trans (hs24.trans (hs29.trans hs34))))))) ?_
  refine g_iconst (dk_Rules_becomeAs 66 rfl) (by decide) ?_
  refine g_aload_n (i := 0) (j := 0) (dk_Rules_becomeAs 67 rfl) rfl rfl ?_
  refine g_getR fl_Rules_30 (Or.inr ⟨_, rfl⟩) (dk_Rules_becomeAs 68 rfl) (c2.up (hs4.trans (hs9.trans (hs14.trans (hs19.trans (hs24.trans (hs29.trans hs34))))))) ?_
  refine g_iconst (dk_Rules_becomeAs 69 rfl) (by decide) ?_
  refine g_aload_n (i := 0) (j := 0) (dk_Rules_becomeAs 70 rfl) rfl rfl ?_
  refine g_getR fl_Rules_30 (Or.inr ⟨_, rfl⟩) (dk_Rules_becomeAs 71 rfl) (c2.up (hs4.trans (hs9.trans (hs14.trans (hs19.trans (hs24.trans (hs29.trans hs34))))))) ?_
  obtain ⟨c35, h⟩ := p_gdE h
  refine g_alen (i := 0) rfl (dk_Rules_becomeAs 72 rfl) c35 ?_
  obtain ⟨c36, h⟩ := p_gdE h
  obtain ⟨c37, h⟩ := p_gdE h
  refine g_arraycopy tw_3_178 tw_3_169 tw_3_168 tw_1_14 (dk_Rules_becomeAs 73 rfl) (Nat.le_of_ble_eq_true rfl) (Nat.le_of_ble_eq_true rfl) c36 c35 c37.1 c37.2.1 c37.2.2.1 c37.2.2.2.1 c37.2.2.2.2 ?_
  refine p_ltS (P := fun q => p_Go K l m_Rules_becomeAs 134 [(0, p_r v0), (1, p_r v1)] [] q _) (p_xC _ _ _ _ _ _) ?_ h
  intro s38 hs39 h
  refine g_aload_n (i := 0) (j := 0) (dk_Rules_becomeAs 74 rfl) rfl rfl ?_
  refine g_aload_n (i := 1) (j := 1) (dk_Rules_becomeAs 75 rfl) rfl rfl ?_
  refine g_getI fl_Rules_43 (Or.inl rfl) (dk_Rules_becomeAs 76 rfl) (c1.up (hs4.trans (hs9.trans (hs14.trans (hs19.trans (hs24.trans (hs29.trans (hs34.trans hs39)))))))) ?_
  refine g_putI fl_Rules_43 (Or.inl rfl) (dk_Rules_becomeAs 77 rfl) (c2.up (hs4.trans (hs9.trans (hs14.trans (hs19.trans (hs24.trans (hs29.trans (hs34.trans hs39)))))))) ?_
  refine p_ltS (P := fun q => p_Go K l m_Rules_becomeAs 142 [(0, p_r v0), (1, p_r v1)] [] q _) (p_xZ _ _ _ _) ?_ h
  intro s40 hs41 h
  cases h
  exact g_ret rfl rfl (dk_Rules_becomeAs 78 rfl) (fun _ => rfl)
def m_Works_ruleBy : p_Me := (⟨"SortWorks$Works", "ruleBy", "(LSortWorks$Rules;)V"⟩, prog_11_method_4_code, 2, none, 2, 81)
theorem mt_Works_ruleBy : p_Mt m_Works_ruleBy 1 := ⟨p_mem (p_tb3 (List.mem_of_getElem? (i := 173) rfl)) rfl, tw_1_2, by decide +kernel, by decide +kernel, by decide +kernel⟩
def dt_Works_ruleBy : List (Nat × Instr × Nat) := [(0, .aload_n 0, 1), (1, .getfield 21, 3), (4, .aload_n 1, 1), (5, .invokevirtual 79, 3), (8, .aload_n 0, 1), (9, .getfield 12, 3), (12, .getfield 82, 3), (15, .iconst 0, 1), (16, .invokestatic 85, 3), (19, .return_, 1)]
theorem dk_Works_ruleBy (i : Nat) {pc : Nat} {ins : Instr} {len : Nat} (h : dt_Works_ruleBy[i]? = some (pc, ins, len)) : decode m_Works_ruleBy.2.1 pc = .ok (ins, len) := p_dk (b := m_Works_ruleBy.2.1) (t := dt_Works_ruleBy) (by decide +kernel) i h
def F_Works_ruleBy (v0 : Nat) (v1 : Nat) (s0 : p_Hp) : Option p_Hp :=
  p_gd (p_is s0 v0 9) <|
  p_gd (p_is s0 (p_R s0 v0 3) 6) <|
  p_bv (F_Rules_becomeAs (p_R s0 v0 3) v1 s0) fun s3 =>
  p_gd (p_is s3 (p_R s3 v0 1) 7) <|
  p_bv (F_Ar_fill_0 (p_R s3 (p_R s3 v0 1) 6) 0 s3) fun s8 =>
  some s8
set_option maxRecDepth 100000 in
set_option maxHeartbeats 4000000 in
theorem tF_Works_ruleBy (K : p_K) (l : Launch) (v0 : Nat) (v1 : Nat) (s0 : p_Hp) (r : p_Hp) (h : F_Works_ruleBy v0 v1 s0 = some r) : p_Ct K l m_Works_ruleBy [p_r v0, p_r v1] s0 (none, r) := by
  refine p_Ct.of (by decide +kernel) (Nat.le_of_ble_eq_true rfl) ?_
  unfold F_Works_ruleBy at h
  show p_Go K l m_Works_ruleBy 0 [(0, p_r v0), (1, p_r v1)] [] s0 _
  refine g_aload_n (i := 0) (j := 0) (dk_Works_ruleBy 0 rfl) rfl rfl ?_
  obtain ⟨c1, h⟩ := p_gdE h
  refine g_getR fl_Works_21 (Or.inl ⟨_, rfl⟩) (dk_Works_ruleBy 1 rfl) c1 ?_
  refine g_aload_n (i := 1) (j := 1) (dk_Works_ruleBy 2 rfl) rfl rfl ?_
  obtain ⟨c2, h⟩ := p_gdE h
  obtain ⟨s3, q4, h⟩ := p_bvE h
  have t5 := tF_Rules_becomeAs K l (p_R s0 v0 3) v1 s0 _ q4
  refine g_callV (a := (p_R s0 v0 3)) (ci := 6) (q0 := (RX6, TX6, 9)) (As := [p_r v1]) (rest := []) [] mt_Rules_becomeAs rfl rfl tw_3_175 tw_3_176 tw_3_174 ⟨Nat.le_of_ble_eq_true rfl, Nat.le_of_ble_eq_true rfl⟩ rfl (Nat.le_of_ble_eq_true rfl) (dk_Works_ruleBy 3 rfl) rfl c2 rfl t5 ?_
  have hs6 : p_x s0 s3 := t5.1
  show p_Go K l m_Works_ruleBy 8 [(0, p_r v0), (1, p_r v1)] [] s3 _
  refine g_aload_n (i := 0) (j := 0) (dk_Works_ruleBy 4 rfl) rfl rfl ?_
  refine g_getR fl_Works_12 (Or.inl ⟨_, rfl⟩) (dk_Works_ruleBy 5 rfl) (c1.up hs6) ?_
  obtain ⟨c7, h⟩ := p_gdE h
  refine g_getR fl_Works_82 (Or.inr ⟨_, rfl⟩) (dk_Works_ruleBy 6 rfl) c7 ?_
  refine g_iconst (dk_Works_ruleBy 7 rfl) (by decide) ?_
  obtain ⟨s8, q9, h⟩ := p_bvE h
  have t10 := tF_Ar_fill_0 K l (p_R s3 (p_R s3 v0 1) 6) 0 s3 _ q9
  refine g_callS (av := [p_r (p_R s3 (p_R s3 v0 1) 6), p_i 0]) (rest := []) [] mt_Ar_fill_0 tw_3_108 tw_3_179 ⟨Nat.le_of_ble_eq_true rfl, Nat.le_of_ble_eq_true rfl⟩ rfl (Nat.le_of_ble_eq_true rfl) (dk_Works_ruleBy 8 rfl) rfl rfl t10 ?_
  have hs11 : p_x s3 s8 := t10.1
  show p_Go K l m_Works_ruleBy 19 [(0, p_r v0), (1, p_r v1)] [] s8 _
  cases h
  exact g_ret rfl rfl (dk_Works_ruleBy 9 rfl) (fun _ => rfl)
def m_Works_buildLike : p_Me := (⟨"SortWorks$Works", "buildLike", "(LSortWorks$Works;)V"⟩, prog_11_method_3_code, 3, none, 3, 102)
theorem mt_Works_buildLike : p_Mt m_Works_buildLike 1 := ⟨p_mem (p_tb3 (List.mem_of_getElem? (i := 161) rfl)) rfl, tw_1_2, by decide +kernel, by decide +kernel, by decide +kernel⟩
def dt_Works_buildLike : List (Nat × Instr × Nat) := [(0, .aload_n 0, 1), (1, .aload_n 1, 1), (2, .getfield 53, 3), (5, .putfield 53, 3), (8, .iconst 0, 1), (9, .istore_n 2, 1), (10, .iload_n 2, 1), (11, .aload_n 0, 1), (12, .getfield 53, 3), (15, .if_icmp .ge 30, 3), (18, .aload_n 0, 1), (19, .getfield 12, 3), (22, .getfield 56, 3), (25, .iload_n 2, 1), (26, .aaload, 1), (27, .aload_n 1, 1), (28, .getfield 12, 3), (31, .getfield 56, 3), (34, .iload_n 2, 1), (35, .aaload, 1), (36, .invokevirtual 60, 3), (39, .iinc 2 1, 3), (42, .goto (-32), 3), (45, .aload_n 0, 1), (46, .aload_n 1, 1), (47, .getfield 21, 3), (50, .invokevirtual 66, 3), (53, .aload_n 0, 1), (54, .aload_n 1, 1), (55, .getfield 70, 3), (58, .putfield 70, 3), (61, .iconst 0, 1), (62, .istore_n 2, 1), (63, .iload_n 2, 1), (64, .aload_n 0, 1), (65, .getfield 70, 3), (68, .if_icmp .ge 39, 3), (71, .aload_n 1, 1), (72, .getfield 27, 3), (75, .iload_n 2, 1), (76, .aaload, 1), (77, .iconst 0, 1), (78, .aload_n 0, 1), (79, .getfield 27, 3), (82, .iload_n 2, 1), (83, .aaload, 1), (84, .iconst 0, 1), (85, .iconst 4, 1), (86, .invokestatic 73, 3), (89, .aload_n 0, 1), (90, .getfield 30, 3), (93, .iload_n 2, 1), (94, .aload_n 1, 1), (95, .getfield 30, 3), (98, .iload_n 2, 1), (99, .iaload, 1), (100, .iastore, 1), (101, .iinc 2 1, 3), (104, .goto (-41), 3), (107, .return_, 1)]
theorem dk_Works_buildLike (i : Nat) {pc : Nat} {ins : Instr} {len : Nat} (h : dt_Works_buildLike[i]? = some (pc, ins, len)) : decode m_Works_buildLike.2.1 pc = .ok (ins, len) := p_dk (b := m_Works_buildLike.2.1) (t := dt_Works_buildLike) (by decide +kernel) i h
def L_Works_buildLike_63 (k63 : Nat → Nat → Int → p_Hp → Option p_Hp) (v0 : Nat) (v1 : Nat) (v2 : Int) (s0 : p_Hp) : Option p_Hp :=
  p_gd (p_is s0 v0 9) <|
  if (p_Z s0 v0 6) ≤ v2 then
    some s0
  else
    p_gd (p_is s0 v1 9) <|
    p_gd (p_is s0 (p_R s0 v1 4) 103) <|
    p_gd ((0 : Int) ≤ v2 ∧ v2 < (p_L s0 (p_R s0 v1 4) : Int)) <|
    p_gd (p_is s0 (p_R s0 v0 4) 103) <|
    p_gd ((0 : Int) ≤ v2 ∧ v2 < (p_L s0 (p_R s0 v0 4) : Int)) <|
    p_gd (p_is s0 (p_R s0 (p_R s0 v1 4) (v2 : Int).toNat) 100) <|
    p_gd (p_is s0 (p_R s0 (p_R s0 v0 4) (v2 : Int).toNat) 100) <|
    p_gd ((0 : Int) ≤ 0 ∧ (0 : Int) ≤ 0 ∧ (0 : Int) ≤ 4 ∧ 0 + 4 ≤ (p_L s0 (p_R s0 (p_R s0 v1 4) (v2 : Int).toNat) : Int) ∧ 0 + 4 ≤ (p_L s0 (p_R s0 (p_R s0 v0 4) (v2 : Int).toNat) : Int)) <|
    p_bi (p_cp s0 (p_R s0 (p_R s0 v1 4) (v2 : Int).toNat) (0 : Int).toNat (p_R s0 (p_R s0 v0 4) (v2 : Int).toNat) (0 : Int).toNat (4 : Int).toNat) fun s11 =>
    p_gd (p_is s11 (p_R s11 v1 5) 100) <|
    p_gd ((0 : Int) ≤ v2 ∧ v2 < (p_L s11 (p_R s11 v1 5) : Int)) <|
    p_gd (p_is s11 (p_R s11 v0 5) 100) <|
    p_gd ((0 : Int) ≤ v2 ∧ v2 < (p_L s11 (p_R s11 v0 5) : Int)) <|
    p_bi (p_wZ s11 (p_R s11 v0 5) (v2 : Int).toNat (p_Z s11 (p_R s11 v1 5) (v2 : Int).toNat)) fun s17 =>
    p_bi (p_w (v2 + 1)) fun x19 =>
    k63 v0 v1 x19 s17
def O_Works_buildLike_63  : Nat → Nat → Nat → Int → p_Hp → Option p_Hp
  | 0 => fun _ _ _ _ => none
  | n + 1 => L_Works_buildLike_63 (O_Works_buildLike_63 n)
def L_Works_buildLike_10 (k10 : Nat → Nat → Int → p_Hp → Option p_Hp) (v0 : Nat) (v1 : Nat) (v2 : Int) (s0 : p_Hp) : Option p_Hp :=
  p_gd (p_is s0 v0 9) <|
  if (p_Z s0 v0 2) ≤ v2 then
    p_gd (p_is s0 v1 9) <|
    p_bv (F_Works_ruleBy v0 (p_R s0 v1 3) s0) fun s4 =>
    p_bi (p_wZ s4 v0 6 (p_Z s4 v1 6)) fun s8 =>
    O_Works_buildLike_63 3000 v0 v1 0 s8
  else
    p_gd (p_is s0 (p_R s0 v0 1) 7) <|
    p_gd (p_is s0 (p_R s0 (p_R s0 v0 1) 4) 105) <|
    p_gd ((0 : Int) ≤ v2 ∧ v2 < (p_L s0 (p_R s0 (p_R s0 v0 1) 4) : Int)) <|
    p_gd (p_is s0 v1 9) <|
    p_gd (p_is s0 (p_R s0 v1 1) 7) <|
    p_gd (p_is s0 (p_R s0 (p_R s0 v1 1) 4) 105) <|
    p_gd ((0 : Int) ≤ v2 ∧ v2 < (p_L s0 (p_R s0 (p_R s0 v1 1) 4) : Int)) <|
    p_gd (p_is s0 (p_R s0 (p_R s0 (p_R s0 v0 1) 4) (v2 : Int).toNat) 0) <|
    p_bv (F_Gear_buildAs (p_R s0 (p_R s0 (p_R s0 v0 1) 4) (v2 : Int).toNat) (p_R s0 (p_R s0 (p_R s0 v1 1) 4) (v2 : Int).toNat) s0) fun s18 =>
    p_bi (p_w (v2 + 1)) fun x22 =>
    k10 v0 v1 x22 s18
def O_Works_buildLike_10  : Nat → Nat → Nat → Int → p_Hp → Option p_Hp
  | 0 => fun _ _ _ _ => none
  | n + 1 => L_Works_buildLike_10 (O_Works_buildLike_10 n)
def F_Works_buildLike (v0 : Nat) (v1 : Nat) (s0 : p_Hp) : Option p_Hp :=
  p_gd (p_is s0 v1 9) <|
  p_gd (p_is s0 v0 9) <|
  p_bi (p_wZ s0 v0 2 (p_Z s0 v1 2)) fun s3 =>
  O_Works_buildLike_10 3000 v0 v1 0 s3
set_option maxRecDepth 100000 in
set_option maxHeartbeats 4000000 in
theorem tL_Works_buildLike_63 (K : p_K) (l : Launch) (k63 : Nat → Nat → Int → p_Hp → Option p_Hp) (hk63 : ∀ (v0 : Nat) (v1 : Nat) (v2 : Int)  (s0 : p_Hp) (r : p_Hp), k63 v0 v1 v2 s0 = some r → p_Go K l m_Works_buildLike 63 [(0, p_r v0), (1, p_r v1), (2, p_i v2)] [] s0 (none, r)) (v0 : Nat) (v1 : Nat) (v2 : Int) (s0 : p_Hp) (r : p_Hp) (h : L_Works_buildLike_63 k63 v0 v1 v2 s0 = some r) : p_Go K l m_Works_buildLike 63 [(0, p_r v0), (1, p_r v1), (2, p_i v2)] [] s0 (none, r) := by
  unfold L_Works_buildLike_63 at h
  refine g_iload_n (i := 2) (j := 2) (dk_Works_buildLike 33 rfl) rfl rfl ?_
  refine g_aload_n (i := 0) (j := 0) (dk_Works_buildLike 34 rfl) rfl rfl ?_
  obtain ⟨c1, h⟩ := p_gdE h
  refine g_getI fl_Works_70 (Or.inl rfl) (dk_Works_buildLike 35 rfl) c1 ?_
  refine g_icmp_ge 107 (dk_Works_buildLike 36 rfl) (by decide) (fun b2 => ?_) (fun b2 => ?_)
  · have h := p_ifT b2 h
    cases h
    exact g_ret rfl rfl (dk_Works_buildLike 59 rfl) (fun _ => rfl)
  · have h := p_ifF b2 h
    refine g_aload_n (i := 1) (j := 1) (dk_Works_buildLike 37 rfl) rfl rfl ?_
    obtain ⟨c3, h⟩ := p_gdE h
    refine g_getR fl_Works_27 (Or.inr ⟨_, rfl⟩) (dk_Works_buildLike 38 rfl) c3 ?_
    refine g_iload_n (i := 2) (j := 2) (dk_Works_buildLike 39 rfl) rfl rfl ?_
    obtain ⟨c4, h⟩ := p_gdE h
    obtain ⟨c5, h⟩ := p_gdE h
    refine g_aaload (i := 3) rfl (Or.inr ⟨_, rfl⟩) (dk_Works_buildLike 40 rfl) c4 c5.1 c5.2 ?_
    refine g_iconst (dk_Works_buildLike 41 rfl) (by decide) ?_
    refine g_aload_n (i := 0) (j := 0) (dk_Works_buildLike 42 rfl) rfl rfl ?_
    refine g_getR fl_Works_27 (Or.inr ⟨_, rfl⟩) (dk_Works_buildLike 43 rfl) c1 ?_
    refine g_iload_n (i := 2) (j := 2) (dk_Works_buildLike 44 rfl) rfl rfl ?_
    obtain ⟨c6, h⟩ := p_gdE h
    obtain ⟨c7, h⟩ := p_gdE h
    refine g_aaload (i := 3) rfl (Or.inr ⟨_, rfl⟩) (dk_Works_buildLike 45 rfl) c6 c7.1 c7.2 ?_
    refine g_iconst (dk_Works_buildLike 46 rfl) (by decide) ?_
    refine g_iconst (dk_Works_buildLike 47 rfl) (by decide) ?_
    obtain ⟨c8, h⟩ := p_gdE h
    obtain ⟨c9, h⟩ := p_gdE h
    obtain ⟨c10, h⟩ := p_gdE h
    refine g_arraycopy tw_3_180 tw_3_169 tw_3_168 tw_1_14 (dk_Works_buildLike 48 rfl) (Nat.le_of_ble_eq_true rfl) (Nat.le_of_ble_eq_true rfl) c8 c9 c10.1 c10.2.1 c10.2.2.1 c10.2.2.2.1 c10.2.2.2.2 ?_
    refine p_ltS (P := fun q => p_Go K l m_Works_buildLike 89 [(0, p_r v0), (1, p_r v1), (2, p_i v2)] [] q _) (p_xC _ _ _ _ _ _) ?_ h
    intro s11 hs12 h
    refine g_aload_n (i := 0) (j := 0) (dk_Works_buildLike 49 rfl) rfl rfl ?_
    refine g_getR fl_Works_30 (Or.inr ⟨_, rfl⟩) (dk_Works_buildLike 50 rfl) (c1.up hs12) ?_
    refine g_iload_n (i := 2) (j := 2) (dk_Works_buildLike 51 rfl) rfl rfl ?_
    refine g_aload_n (i := 1) (j := 1) (dk_Works_buildLike 52 rfl) rfl rfl ?_
    refine g_getR fl_Works_30 (Or.inr ⟨_, rfl⟩) (dk_Works_buildLike 53 rfl) (c3.up hs12) ?_
    refine g_iload_n (i := 2) (j := 2) (dk_Works_buildLike 54 rfl) rfl rfl ?_
    obtain ⟨c13, h⟩ := p_gdE h
    obtain ⟨c14, h⟩ := p_gdE h
    refine g_iaload (dk_Works_buildLike 55 rfl) c13 c14.1 c14.2 ?_
    obtain ⟨c15, h⟩ := p_gdE h
    obtain ⟨c16, h⟩ := p_gdE h
    refine g_iastore (dk_Works_buildLike 56 rfl) c15 c16.1 c16.2 ?_
    refine p_ltS (P := fun q => p_Go K l m_Works_buildLike 101 [(0, p_r v0), (1, p_r v1), (2, p_i v2)] [] q _) (p_xZ _ _ _ _) ?_ h
    intro s17 hs18 h
    refine g_iinc (j := 2) [(2, p_i (p_w (v2 + 1))), (0, p_r v0), (1, p_r v1)] (dk_Works_buildLike 57 rfl) rfl (by decide) rfl ?_
    refine p_ltG (P := fun q => p_Go K l m_Works_buildLike 104 [(2, p_i q), (0, p_r v0), (1, p_r v1)] [] s17 _) ?_ h
    intro x19 h
    refine g_goto 63 (dk_Works_buildLike 58 rfl) (by decide) ?_
    refine g_sub [(0, p_r v0), (1, p_r v1), (2, p_i x19)] [1, 2, 0] rfl ?_
    exact hk63 v0 v1 x19 s17 _ h
set_option maxRecDepth 100000 in
set_option maxHeartbeats 4000000 in
theorem tO_Works_buildLike_63 (K : p_K) (l : Launch)  : ∀ (n : Nat) (v0 : Nat) (v1 : Nat) (v2 : Int) (s0 : p_Hp) (r : p_Hp), O_Works_buildLike_63 n v0 v1 v2 s0 = some r → p_Go K l m_Works_buildLike 63 [(0, p_r v0), (1, p_r v1), (2, p_i v2)] [] s0 (none, r) := by
  intro n
  induction n with
  | zero => intro v0 v1 v2 s0 r h; cases (show (none : Option p_Hp) = some r from h)
  | succ n ih => intro v0 v1 v2 s0 r h; exact tL_Works_buildLike_63 K l _ ih v0 v1 v2 s0 r h
set_option maxRecDepth 100000 in
set_option maxHeartbeats 4000000 in
theorem tL_Works_buildLike_10 (K : p_K) (l : Launch) (k10 : Nat → Nat → Int → p_Hp → Option p_Hp) (hk10 : ∀ (v0 : Nat) (v1 : Nat) (v2 : Int)  (s0 : p_Hp) (r : p_Hp), k10 v0 v1 v2 s0 = some r → p_Go K l m_Works_buildLike 10 [(0, p_r v0), (1, p_r v1), (2, p_i v2)] [] s0 (none, r)) (v0 : Nat) (v1 : Nat) (v2 : Int) (s0 : p_Hp) (r : p_Hp) (h : L_Works_buildLike_10 k10 v0 v1 v2 s0 = some r) : p_Go K l m_Works_buildLike 10 [(0, p_r v0), (1, p_r v1), (2, p_i v2)] [] s0 (none, r) := by
  unfold L_Works_buildLike_10 at h
  refine g_iload_n (i := 2) (j := 2) (dk_Works_buildLike 6 rfl) rfl rfl ?_
  refine g_aload_n (i := 0) (j := 0) (dk_Works_buildLike 7 rfl) rfl rfl ?_
  obtain ⟨c1, h⟩ := p_gdE h
  refine g_getI fl_Works_53 (Or.inl rfl) (dk_Works_buildLike 8 rfl) c1 ?_
  refine g_icmp_ge 45 (dk_Works_buildLike 9 rfl) (by decide) (fun b2 => ?_) (fun b2 => ?_)
  · have h := p_ifT b2 h
    refine g_aload_n (i := 0) (j := 0) (dk_Works_buildLike 23 rfl) rfl rfl ?_
    refine g_aload_n (i := 1) (j := 1) (dk_Works_buildLike 24 rfl) rfl rfl ?_
    obtain ⟨c3, h⟩ := p_gdE h
    refine g_getR fl_Works_21 (Or.inl ⟨_, rfl⟩) (dk_Works_buildLike 25 rfl) c3 ?_
    obtain ⟨s4, q5, h⟩ := p_bvE h
    have t6 := tF_Works_ruleBy K l v0 (p_R s0 v1 3) s0 _ q5
    refine g_callV (a := v0) (ci := 9) (q0 := (RX9, TX9, 15)) (As := [p_r (p_R s0 v1 3)]) (rest := []) [] mt_Works_ruleBy rfl rfl tw_3_171 tw_3_172 tw_3_170 ⟨Nat.le_of_ble_eq_true rfl, Nat.le_of_ble_eq_true rfl⟩ rfl (Nat.le_of_ble_eq_true rfl) (dk_Works_buildLike 26 rfl) rfl c1 rfl t6 ?_
    have hs7 : p_x s0 s4 := t6.1
    show p_Go K l m_Works_buildLike 53 [(0, p_r v0), (1, p_r v1), (2, p_i v2)] [] s4 _
    refine g_aload_n (i := 0) (j := 0) (dk_Works_buildLike 27 rfl) rfl rfl ?_
    refine g_aload_n (i := 1) (j := 1) (dk_Works_buildLike 28 rfl) rfl rfl ?_
    refine g_getI fl_Works_70 (Or.inl rfl) (dk_Works_buildLike 29 rfl) (c3.up hs7) ?_
    refine g_putI fl_Works_70 (Or.inl rfl) (dk_Works_buildLike 30 rfl) (c1.up hs7) ?_
    refine p_ltS (P := fun q => p_Go K l m_Works_buildLike 61 [(0, p_r v0), (1, p_r v1), (2, p_i v2)] [] q _) (p_xZ _ _ _ _) ?_ h
    intro s8 hs9 h
    refine g_iconst (dk_Works_buildLike 31 rfl) (by decide) ?_
    refine g_istore_n (i := 2) [(2, p_i 0), (0, p_r v0), (1, p_r v1)] (dk_Works_buildLike 32 rfl) rfl (by decide) rfl ?_
    refine g_sub [(0, p_r v0), (1, p_r v1), (2, p_i 0)] [1, 2, 0] rfl ?_
    exact tO_Works_buildLike_63 K l 3000 v0 v1 0 s8 _ h
  · have h := p_ifF b2 h
    refine g_aload_n (i := 0) (j := 0) (dk_Works_buildLike 10 rfl) rfl rfl ?_
    refine g_getR fl_Works_12 (Or.inl ⟨_, rfl⟩) (dk_Works_buildLike 11 rfl) c1 ?_
    obtain ⟨c10, h⟩ := p_gdE h
    refine g_getR fl_Works_56 (Or.inr ⟨_, rfl⟩) (dk_Works_buildLike 12 rfl) c10 ?_
    refine g_iload_n (i := 2) (j := 2) (dk_Works_buildLike 13 rfl) rfl rfl ?_
    obtain ⟨c11, h⟩ := p_gdE h
    obtain ⟨c12, h⟩ := p_gdE h
    refine g_aaload (i := 5) rfl (Or.inl ⟨_, rfl⟩) (dk_Works_buildLike 14 rfl) c11 c12.1 c12.2 ?_
    refine g_aload_n (i := 1) (j := 1) (dk_Works_buildLike 15 rfl) rfl rfl ?_
    obtain ⟨c13, h⟩ := p_gdE h
    refine g_getR fl_Works_12 (Or.inl ⟨_, rfl⟩) (dk_Works_buildLike 16 rfl) c13 ?_
    obtain ⟨c14, h⟩ := p_gdE h
    refine g_getR fl_Works_56 (Or.inr ⟨_, rfl⟩) (dk_Works_buildLike 17 rfl) c14 ?_
    refine g_iload_n (i := 2) (j := 2) (dk_Works_buildLike 18 rfl) rfl rfl ?_
    obtain ⟨c15, h⟩ := p_gdE h
    obtain ⟨c16, h⟩ := p_gdE h
    refine g_aaload (i := 5) rfl (Or.inl ⟨_, rfl⟩) (dk_Works_buildLike 19 rfl) c15 c16.1 c16.2 ?_
    obtain ⟨c17, h⟩ := p_gdE h
    obtain ⟨s18, q19, h⟩ := p_bvE h
    have t20 := tF_Gear_buildAs K l (p_R s0 (p_R s0 (p_R s0 v0 1) 4) (v2 : Int).toNat) (p_R s0 (p_R s0 (p_R s0 v1 1) 4) (v2 : Int).toNat) s0 _ q19
    refine g_callV (a := (p_R s0 (p_R s0 (p_R s0 v0 1) 4) (v2 : Int).toNat)) (ci := 0) (q0 := (RX0, TX0, 20)) (As := [p_r (p_R s0 (p_R s0 (p_R s0 v1 1) 4) (v2 : Int).toNat)]) (rest := []) [] mt_Gear_buildAs rfl rfl tw_3_163 tw_3_164 tw_3_162 ⟨Nat.le_of_ble_eq_true rfl, Nat.le_of_ble_eq_true rfl⟩ rfl (Nat.le_of_ble_eq_true rfl) (dk_Works_buildLike 20 rfl) rfl c17 rfl t20 ?_
    have hs21 : p_x s0 s18 := t20.1
    show p_Go K l m_Works_buildLike 39 [(0, p_r v0), (1, p_r v1), (2, p_i v2)] [] s18 _
    refine g_iinc (j := 2) [(2, p_i (p_w (v2 + 1))), (0, p_r v0), (1, p_r v1)] (dk_Works_buildLike 21 rfl) rfl (by decide) rfl ?_
    refine p_ltG (P := fun q => p_Go K l m_Works_buildLike 42 [(2, p_i q), (0, p_r v0), (1, p_r v1)] [] s18 _) ?_ h
    intro x22 h
    refine g_goto 10 (dk_Works_buildLike 22 rfl) (by decide) ?_
    refine g_sub [(0, p_r v0), (1, p_r v1), (2, p_i x22)] [1, 2, 0] rfl ?_
    exact hk10 v0 v1 x22 s18 _ h
set_option maxRecDepth 100000 in
set_option maxHeartbeats 4000000 in
theorem tO_Works_buildLike_10 (K : p_K) (l : Launch)  : ∀ (n : Nat) (v0 : Nat) (v1 : Nat) (v2 : Int) (s0 : p_Hp) (r : p_Hp), O_Works_buildLike_10 n v0 v1 v2 s0 = some r → p_Go K l m_Works_buildLike 10 [(0, p_r v0), (1, p_r v1), (2, p_i v2)] [] s0 (none, r) := by
  intro n
  induction n with
  | zero => intro v0 v1 v2 s0 r h; cases (show (none : Option p_Hp) = some r from h)
  | succ n ih => intro v0 v1 v2 s0 r h; exact tL_Works_buildLike_10 K l _ ih v0 v1 v2 s0 r h
set_option maxRecDepth 100000 in
set_option maxHeartbeats 4000000 in
theorem tF_Works_buildLike (K : p_K) (l : Launch) (v0 : Nat) (v1 : Nat) (s0 : p_Hp) (r : p_Hp) (h : F_Works_buildLike v0 v1 s0 = some r) : p_Ct K l m_Works_buildLike [p_r v0, p_r v1] s0 (none, r) := by
  refine p_Ct.of (by decide +kernel) (Nat.le_of_ble_eq_true rfl) ?_
  unfold F_Works_buildLike at h
  show p_Go K l m_Works_buildLike 0 [(0, p_r v0), (1, p_r v1)] [] s0 _
  refine g_aload_n (i := 0) (j := 0) (dk_Works_buildLike 0 rfl) rfl rfl ?_
  refine g_aload_n (i := 1) (j := 1) (dk_Works_buildLike 1 rfl) rfl rfl ?_
  obtain ⟨c1, h⟩ := p_gdE h
  refine g_getI fl_Works_53 (Or.inl rfl) (dk_Works_buildLike 2 rfl) c1 ?_
  obtain ⟨c2, h⟩ := p_gdE h
  refine g_putI fl_Works_53 (Or.inl rfl) (dk_Works_buildLike 3 rfl) c2 ?_
  refine p_ltS (P := fun q => p_Go K l m_Works_buildLike 8 [(0, p_r v0), (1, p_r v1)] [] q _) (p_xZ _ _ _ _) ?_ h
  intro s3 hs4 h
  refine g_iconst (dk_Works_buildLike 4 rfl) (by decide) ?_
  refine g_istore_n (i := 2) [(2, p_i 0), (0, p_r v0), (1, p_r v1)] (dk_Works_buildLike 5 rfl) rfl (by decide) rfl ?_
  refine g_sub [(0, p_r v0), (1, p_r v1), (2, p_i 0)] [1, 2, 0] rfl ?_
  exact tO_Works_buildLike_10 K l 3000 v0 v1 0 s3 _ h
