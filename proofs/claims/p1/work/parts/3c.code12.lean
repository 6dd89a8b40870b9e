def m_Mo_digest : p_Me := (⟨"SortWorksModel", "digest", "()J"⟩, prog_13_method_120_code, 5, (some .long), 3, 69)
theorem mt_Mo_digest : p_Mt m_Mo_digest 0 := ⟨p_mem (p_tb9 (List.mem_of_getElem? (i := 34) rfl)) rfl, tw_1_12, by decide +kernel, by decide +kernel, by decide +kernel⟩
def dt_Mo_digest : List (Nat × Instr × Nat) := [(0, .aload_n 0, 1), (1, .ldc2_w 544, 3), (4, .putfield 540, 3), (7, .aload_n 0, 1), (8, .aload_n 0, 1), (9, .getfield 13, 3), (12, .aload_n 0, 1), (13, .getfield 227, 3), (16, .iaload, 1), (17, .invokevirtual 546, 3), (20, .aload_n 0, 1), (21, .aload_n 0, 1), (22, .getfield 7, 3), (25, .aload_n 0, 1), (26, .getfield 227, 3), (29, .iaload, 1), (30, .invokevirtual 546, 3), (33, .iconst 0, 1), (34, .istore_n 1, 1), (35, .iload_n 1, 1), (36, .aload_n 0, 1), (37, .getfield 7, 3), (40, .aload_n 0, 1), (41, .getfield 227, 3), (44, .iaload, 1), (45, .if_icmp .ge 127, 3), (48, .aload_n 0, 1), (49, .iload_n 1, 1), (50, .invokevirtual 257, 3), (53, .istore_n 2, 1), (54, .aload_n 0, 1), (55, .aload_n 0, 1), (56, .getfield 16, 3), (59, .iload_n 2, 1), (60, .iaload, 1), (61, .invokevirtual 546, 3), (64, .iconst 2, 1), (65, .istore_n 3, 1), (66, .iload_n 3, 1), (67, .bipush 15, 2), (69, .if_icmp .ge 19, 3), (72, .aload_n 0, 1), (73, .aload_n 0, 1), (74, .iload_n 1, 1), (75, .iload_n 3, 1), (76, .invokevirtual 549, 3), (79, .invokevirtual 546, 3), (82, .iinc 3 1, 3), (85, .goto (-19), 3), (88, .iconst 0, 1), (89, .istore_n 3, 1), (90, .iload_n 3, 1), (91, .aload_n 0, 1), (92, .getfield 19, 3), (95, .iload_n 2, 1), (96, .iaload, 1), (97, .if_icmp .ge 69, 3), (100, .aload_n 0, 1), (101, .getfield 69, 3), (104, .bipush 8, 2), (106, .iload_n 2, 1), (107, .imul, 1), (108, .iload_n 3, 1), (109, .iadd, 1), (110, .iaload, 1), (111, .istore 4, 2), (113, .aload_n 0, 1), (114, .iload 4, 2), (116, .ifCond .ne 7, 3), (119, .iconst 0, 1), (120, .goto 21, 3), (123, .bipush 16, 2), (125, .aload_n 0, 1), (126, .getfield 84, 3), (129, .iload 4, 2), (131, .iaload, 1), (132, .imul, 1), (133, .aload_n 0, 1), (134, .getfield 87, 3), (137, .iload 4, 2), (139, .iaload, 1), (140, .iadd, 1), (141, .invokevirtual 546, 3), (144, .iload 4, 2), (146, .ifCond .le 14, 3), (149, .aload_n 0, 1), (150, .aload_n 0, 1), (151, .getfield 90, 3), (154, .iload 4, 2), (156, .iaload, 1), (157, .invokevirtual 546, 3), (160, .iinc 3 1, 3), (163, .goto (-73), 3), (166, .iinc 1 1, 3), (169, .goto (-134), 3), (172, .aload_n 0, 1), (173, .aload_n 0, 1), (174, .getfield 114, 3), (177, .aload_n 0, 1), (178, .getfield 227, 3), (181, .iaload, 1), (182, .invokevirtual 546, 3), (185, .aload_n 0, 1), (186, .aload_n 0, 1), (187, .getfield 117, 3), (190, .aload_n 0, 1), (191, .getfield 227, 3), (194, .iaload, 1), (195, .invokevirtual 546, 3), (198, .aload_n 0, 1), (199, .aload_n 0, 1), (200, .getfield 120, 3), (203, .aload_n 0, 1), (204, .getfield 227, 3), (207, .iaload, 1), (208, .invokevirtual 546, 3), (211, .aload_n 0, 1), (212, .aload_n 0, 1), (213, .getfield 126, 3), (216, .aload_n 0, 1), (217, .getfield 227, 3), (220, .iaload, 1), (221, .invokevirtual 546, 3), (224, .aload_n 0, 1), (225, .getfield 540, 3), (228, .lreturn, 1)]
theorem dk_Mo_digest (i : Nat) {pc : Nat} {ins : Instr} {len : Nat} (h : dt_Mo_digest[i]? = some (pc, ins, len)) : decode m_Mo_digest.2.1 pc = .ok (ins, len) := p_dk (b := m_Mo_digest.2.1) (t := dt_Mo_digest) (by decide +kernel) i h
def B_Mo_digest_160 (k35 : Nat → Int → p_Hp → Option (Int × p_Hp)) (k90 : Nat → Int → Int → Int → p_Hp → Option (Int × p_Hp)) (v0 : Nat) (v1 : Int) (v2 : Int) (v3 : Int) (s0 : p_Hp) : Option (Int × p_Hp) :=
  p_bi (p_w (v3 + 1)) fun x1 =>
  k90 v0 v1 v2 x1 s0
def B_Mo_digest_141 (k35 : Nat → Int → p_Hp → Option (Int × p_Hp)) (k90 : Nat → Int → Int → Int → p_Hp → Option (Int × p_Hp)) (v0 : Nat) (v1 : Int) (v2 : Int) (v3 : Int) (v4 : Int) (w0 : Int) (w1 : Nat) (s0 : p_Hp) : Option (Int × p_Hp) :=
  p_gd (p_is s0 w1 11) <|
  p_bv (F_Mo_adds w1 w0 s0) fun s2 =>
  if v4 ≤ 0 then
    B_Mo_digest_160 k35 k90 v0 v1 v2 v3 s2
  else
    p_gd (p_is s2 v0 11) <|
    p_gd (p_is s2 (p_R s2 v0 30) 100) <|
    p_gd (0 ≤ v4 ∧ v4 < (p_L s2 (p_R s2 v0 30) : Int)) <|
    p_bv (F_Mo_adds v0 (p_Z s2 (p_R s2 v0 30) (v4).toNat) s2) fun s10 =>
    B_Mo_digest_160 k35 k90 v0 v1 v2 v3 s10
def L_Mo_digest_90 (k35 : Nat → Int → p_Hp → Option (Int × p_Hp)) (k90 : Nat → Int → Int → Int → p_Hp → Option (Int × p_Hp)) (v0 : Nat) (v1 : Int) (v2 : Int) (v3 : Int) (s0 : p_Hp) : Option (Int × p_Hp) :=
  p_gd (p_is s0 v0 11) <|
  p_gd (p_is s0 (p_R s0 v0 6) 100) <|
  p_gd (0 ≤ v2 ∧ v2 < (p_L s0 (p_R s0 v0 6) : Int)) <|
  if (p_Z s0 (p_R s0 v0 6) (v2).toNat) ≤ v3 then
    p_bi (p_w (v1 + 1)) fun x5 =>
    k35 v0 x5 s0
  else
    p_gd (p_is s0 (p_R s0 v0 22) 100) <|
    p_gd (0 ≤ (p_w ((p_w (8 * v2)) + v3)) ∧ (p_w ((p_w (8 * v2)) + v3)) < (p_L s0 (p_R s0 v0 22) : Int)) <|
    p_bi ((p_Z s0 (p_R s0 v0 22) ((p_w ((p_w (8 * v2)) + v3))).toNat)) fun x8 =>
    if x8 ≠ 0 then
      p_gd (p_is s0 (p_R s0 v0 28) 100) <|
      p_gd (0 ≤ x8 ∧ x8 < (p_L s0 (p_R s0 v0 28) : Int)) <|
      p_gd (p_is s0 (p_R s0 v0 29) 100) <|
      p_gd (0 ≤ x8 ∧ x8 < (p_L s0 (p_R s0 v0 29) : Int)) <|
      B_Mo_digest_141 k35 k90 v0 v1 v2 v3 x8 (p_w ((p_w (16 * (p_Z s0 (p_R s0 v0 28) (x8).toNat))) + (p_Z s0 (p_R s0 v0 29) (x8).toNat))) v0 s0
    else
      B_Mo_digest_141 k35 k90 v0 v1 v2 v3 x8 0 v0 s0
def O_Mo_digest_90 (k35 : Nat → Int → p_Hp → Option (Int × p_Hp)) : Nat → Nat → Int → Int → Int → p_Hp → Option (Int × p_Hp)
  | 0 => fun _ _ _ _ _ => none
  | n + 1 => L_Mo_digest_90 k35 (O_Mo_digest_90 k35 n)
def L_Mo_digest_66 (k35 : Nat → Int → p_Hp → Option (Int × p_Hp)) (k66 : Nat → Int → Int → Int → p_Hp → Option (Int × p_Hp)) (v0 : Nat) (v1 : Int) (v2 : Int) (v3 : Int) (s0 : p_Hp) : Option (Int × p_Hp) :=
  if 15 ≤ v3 then
    O_Mo_digest_90 k35 3000 v0 v1 v2 0 s0
  else
    p_gd (p_is s0 v0 11) <|
    p_bd (F_Mo_told v0 v1 v3 s0) fun r7 s3 =>
    p_bv (F_Mo_adds v0 r7 s3) fun s8 =>
    p_bi (p_w (v3 + 1)) fun x12 =>
    k66 v0 v1 v2 x12 s8
def O_Mo_digest_66 (k35 : Nat → Int → p_Hp → Option (Int × p_Hp)) : Nat → Nat → Int → Int → Int → p_Hp → Option (Int × p_Hp)
  | 0 => fun _ _ _ _ _ => none
  | n + 1 => L_Mo_digest_66 k35 (O_Mo_digest_66 k35 n)
def L_Mo_digest_35 (k35 : Nat → Int → p_Hp → Option (Int × p_Hp)) (v0 : Nat) (v1 : Int) (s0 : p_Hp) : Option (Int × p_Hp) :=
  p_gd (p_is s0 v0 11) <|
  p_gd (p_is s0 (p_R s0 v0 3) 100) <|
  p_gd (0 ≤ (p_Z s0 v0 0) ∧ (p_Z s0 v0 0) < (p_L s0 (p_R s0 v0 3) : Int)) <|
  if (p_Z s0 (p_R s0 v0 3) ((p_Z s0 v0 0)).toNat) ≤ v1 then
    p_gd (p_is s0 (p_R s0 v0 38) 100) <|
    p_gd (0 ≤ (p_Z s0 v0 0) ∧ (p_Z s0 v0 0) < (p_L s0 (p_R s0 v0 38) : Int)) <|
    p_bv (F_Mo_adds v0 (p_Z s0 (p_R s0 v0 38) ((p_Z s0 v0 0)).toNat) s0) fun s7 =>
    p_gd (p_is s7 (p_R s7 v0 39) 100) <|
    p_gd (0 ≤ (p_Z s7 v0 0) ∧ (p_Z s7 v0 0) < (p_L s7 (p_R s7 v0 39) : Int)) <|
    p_bv (F_Mo_adds v0 (p_Z s7 (p_R s7 v0 39) ((p_Z s7 v0 0)).toNat) s7) fun s13 =>
    p_gd (p_is s13 (p_R s13 v0 40) 100) <|
    p_gd (0 ≤ (p_Z s13 v0 0) ∧ (p_Z s13 v0 0) < (p_L s13 (p_R s13 v0 40) : Int)) <|
    p_bv (F_Mo_adds v0 (p_Z s13 (p_R s13 v0 40) ((p_Z s13 v0 0)).toNat) s13) fun s19 =>
    p_gd (p_is s19 (p_R s19 v0 42) 100) <|
    p_gd (0 ≤ (p_Z s19 v0 0) ∧ (p_Z s19 v0 0) < (p_L s19 (p_R s19 v0 42) : Int)) <|
    p_bv (F_Mo_adds v0 (p_Z s19 (p_R s19 v0 42) ((p_Z s19 v0 0)).toNat) s19) fun s25 =>
    some ((p_Z s25 v0 89), s25)
  else
    p_bd (F_Mo_g v0 v1 s0) fun r33 s29 =>
    p_gd (p_is s29 (p_R s29 v0 5) 100) <|
    p_gd (0 ≤ r33 ∧ r33 < (p_L s29 (p_R s29 v0 5) : Int)) <|
    p_bv (F_Mo_adds v0 (p_Z s29 (p_R s29 v0 5) (r33).toNat) s29) fun s36 =>
    O_Mo_digest_66 k35 3000 v0 v1 r33 2 s36
def O_Mo_digest_35  : Nat → Nat → Int → p_Hp → Option (Int × p_Hp)
  | 0 => fun _ _ _ => none
  | n + 1 => L_Mo_digest_35 (O_Mo_digest_35 n)
def F_Mo_digest (v0 : Nat) (s0 : p_Hp) : Option (Int × p_Hp) :=
  p_gd (p_is s0 v0 11) <|
  p_bi (p_wZ s0 v0 89 17) fun s2 =>
  p_gd (p_is s2 (p_R s2 v0 4) 100) <|
  p_gd (0 ≤ (p_Z s2 v0 0) ∧ (p_Z s2 v0 0) < (p_L s2 (p_R s2 v0 4) : Int)) <|
  p_bv (F_Mo_adds v0 (p_Z s2 (p_R s2 v0 4) ((p_Z s2 v0 0)).toNat) s2) fun s6 =>
  p_gd (p_is s6 (p_R s6 v0 3) 100) <|
  p_gd (0 ≤ (p_Z s6 v0 0) ∧ (p_Z s6 v0 0) < (p_L s6 (p_R s6 v0 3) : Int)) <|
  p_bv (F_Mo_adds v0 (p_Z s6 (p_R s6 v0 3) ((p_Z s6 v0 0)).toNat) s6) fun s12 =>
  O_Mo_digest_35 3000 v0 0 s12
set_option maxRecDepth 100000 in
set_option maxHeartbeats 4000000 in
theorem tB_Mo_digest_160 (K : p_K) (l : Launch) (k35 : Nat → Int → p_Hp → Option (Int × p_Hp)) (hk35 : ∀ (v0 : Nat) (v1 : Int)  (s0 : p_Hp) (r : (Int × p_Hp)), k35 v0 v1 s0 = some r → p_Go K l m_Mo_digest 35 [(0, p_r v0), (1, p_i v1)] [] s0 (some (p_j r.1), r.2)) (k90 : Nat → Int → Int → Int → p_Hp → Option (Int × p_Hp)) (hk90 : ∀ (v0 : Nat) (v1 : Int) (v2 : Int) (v3 : Int)  (s0 : p_Hp) (r : (Int × p_Hp)), k90 v0 v1 v2 v3 s0 = some r → p_Go K l m_Mo_digest 90 [(0, p_r v0), (1, p_i v1), (2, p_i v2), (3, p_i v3)] [] s0 (some (p_j r.1), r.2)) (v0 : Nat) (v1 : Int) (v2 : Int) (v3 : Int) (s0 : p_Hp) (r : (Int × p_Hp)) (h : B_Mo_digest_160 k35 k90 v0 v1 v2 v3 s0 = some r) : p_Go K l m_Mo_digest 160 [(0, p_r v0), (1, p_i v1), (2, p_i v2), (3, p_i v3)] [] s0 (some (p_j r.1), r.2) := by
  unfold B_Mo_digest_160 at h
  refine g_iinc (j := 3) [(3, p_i (p_w (v3 + 1))), (0, p_r v0), (1, p_i v1), (2, p_i v2)] (dk_Mo_digest 91 rfl) rfl (by decide) rfl ?_
  refine p_ltG (P := fun q => p_Go K l m_Mo_digest 163 [(3, p_i q), (0, p_r v0), (1, p_i v1), (2, p_i v2)] [] s0 _) ?_ h
  intro x1 h
  refine g_goto 90 (dk_Mo_digest 92 rfl) (by decide) ?_
  refine g_sub [(0, p_r v0), (1, p_i v1), (2, p_i v2), (3, p_i x1)] [1, 2, 3, 0] rfl ?_
  exact hk90 v0 v1 v2 x1 s0 _ h
set_option maxRecDepth 100000 in
set_option maxHeartbeats 4000000 in
theorem tB_Mo_digest_141 (K : p_K) (l : Launch) (k35 : Nat → Int → p_Hp → Option (Int × p_Hp)) (hk35 : ∀ (v0 : Nat) (v1 : Int)  (s0 : p_Hp) (r : (Int × p_Hp)), k35 v0 v1 s0 = some r → p_Go K l m_Mo_digest 35 [(0, p_r v0), (1, p_i v1)] [] s0 (some (p_j r.1), r.2)) (k90 : Nat → Int → Int → Int → p_Hp → Option (Int × p_Hp)) (hk90 : ∀ (v0 : Nat) (v1 : Int) (v2 : Int) (v3 : Int)  (s0 : p_Hp) (r : (Int × p_Hp)), k90 v0 v1 v2 v3 s0 = some r → p_Go K l m_Mo_digest 90 [(0, p_r v0), (1, p_i v1), (2, p_i v2), (3, p_i v3)] [] s0 (some (p_j r.1), r.2)) (v0 : Nat) (v1 : Int) (v2 : Int) (v3 : Int) (v4 : Int) (w0 : Int) (w1 : Nat) (s0 : p_Hp) (r : (Int × p_Hp)) (h : B_Mo_digest_141 k35 k90 v0 v1 v2 v3 v4 w0 w1 s0 = some r) : p_Go K l m_Mo_digest 141 [(0, p_r v0), (1, p_i v1), (2, p_i v2), (3, p_i v3), (4, p_i v4)] [p_i w0, p_r w1] s0 (some (p_j r.1), r.2) := by
  unfold B_Mo_digest_141 at h
  obtain ⟨c1, h⟩ := p_gdE h
  obtain ⟨s2, q3, h⟩ := p_bvE h
  have t4 := tF_Mo_adds K l w1 w0 s0 _ q3
  refine g_callV (a := w1) (ci := 11) (q0 := (RX11, TX11, 90)) (As := [p_i w0]) (rest := []) [] mt_Mo_adds rfl rfl tw_9_38 ts_105 tw_9_36 ⟨Nat.le_of_ble_eq_true rfl, Nat.le_of_ble_eq_true rfl⟩ rfl (Nat.le_of_ble_eq_true rfl) (dk_Mo_digest 82 rfl) rfl c1 rfl t4 ?_
  have hs5 : p_x s0 s2 := t4.1
  show p_Go K l m_Mo_digest 144 [(0, p_r v0), (1, p_i v1), (2, p_i v2), (3, p_i v3), (4, p_i v4)] [] s2 _
  refine g_iload (j := 4) (dk_Mo_digest 83 rfl) rfl ?_
  refine g_if_le 160 (dk_Mo_digest 84 rfl) (by decide) (fun b6 => ?_) (fun b6 => ?_)
  · have h := p_ifT b6 h
    refine g_sub [(0, p_r v0), (1, p_i v1), (2, p_i v2), (3, p_i v3)] [0, 1, 2, 3] rfl ?_
    exact tB_Mo_digest_160 K l k35 hk35 k90 hk90 v0 v1 v2 v3 s2 _ h
  · have h := p_ifF b6 h
    refine g_aload_n (i := 0) (j := 0) (dk_Mo_digest 85 rfl) rfl rfl ?_
    refine g_aload_n (i := 0) (j := 0) (dk_Mo_digest 86 rfl) rfl rfl ?_
    obtain ⟨c7, h⟩ := p_gdE h
    refine g_getR fl_Mo_90 (Or.inr ⟨_, rfl⟩) (dk_Mo_digest 87 rfl) c7 ?_
    refine g_iload (j := 4) (dk_Mo_digest 88 rfl) rfl ?_
    obtain ⟨c8, h⟩ := p_gdE h
    obtain ⟨c9, h⟩ := p_gdE h
    refine g_iaload (dk_Mo_digest 89 rfl) c8 c9.1 c9.2 ?_
    obtain ⟨s10, q11, h⟩ := p_bvE h
    have t12 := tF_Mo_adds K l v0 (p_Z s2 (p_R s2 v0 30) (v4).toNat) s2 _ q11
    refine g_callV (a := v0) (ci := 11) (q0 := (RX11, TX11, 90)) (As := [p_i (p_Z s2 (p_R s2 v0 30) (v4).toNat)]) (rest := []) [] mt_Mo_adds rfl rfl tw_9_38 ts_105 tw_9_36 ⟨Nat.le_of_ble_eq_true rfl, Nat.le_of_ble_eq_true rfl⟩ rfl (Nat.le_of_ble_eq_true rfl) (dk_Mo_digest 90 rfl) rfl c7 rfl t12 ?_
    have hs13 : p_x s2 s10 := t12.1
    show p_Go K l m_Mo_digest 160 [(0, p_r v0), (1, p_i v1), (2, p_i v2), (3, p_i v3), (4, p_i v4)] [] s10 _
    refine g_sub [(0, p_r v0), (1, p_i v1), (2, p_i v2), (3, p_i v3)] [0, 1, 2, 3] rfl ?_
    exact tB_Mo_digest_160 K l k35 hk35 k90 hk90 v0 v1 v2 v3 s10 _ h
set_option maxRecDepth 100000 in
set_option maxHeartbeats 4000000 in
theorem tL_Mo_digest_90 (K : p_K) (l : Launch) (k35 : Nat → Int → p_Hp → Option (Int × p_Hp)) (hk35 : ∀ (v0 : Nat) (v1 : Int)  (s0 : p_Hp) (r : (Int × p_Hp)), k35 v0 v1 s0 = some r → p_Go K l m_Mo_digest 35 [(0, p_r v0), (1, p_i v1)] [] s0 (some (p_j r.1), r.2)) (k90 : Nat → Int → Int → Int → p_Hp → Option (Int × p_Hp)) (hk90 : ∀ (v0 : Nat) (v1 : Int) (v2 : Int) (v3 : Int)  (s0 : p_Hp) (r : (Int × p_Hp)), k90 v0 v1 v2 v3 s0 = some r → p_Go K l m_Mo_digest 90 [(0, p_r v0), (1, p_i v1), (2, p_i v2), (3, p_i v3)] [] s0 (some (p_j r.1), r.2)) (v0 : Nat) (v1 : Int) (v2 : Int) (v3 : Int) (s0 : p_Hp) (r : (Int × p_Hp)) (h : L_Mo_digest_90 k35 k90 v0 v1 v2 v3 s0 = some r) : p_Go K l m_Mo_digest 90 [(0, p_r v0), (1, p_i v1), (2, p_i v2), (3, p_i v3)] [] s0 (some (p_j r.1), r.2) := by
  unfold L_Mo_digest_90 at h
  refine g_iload_n (i := 3) (j := 3) (dk_Mo_digest 51 rfl) rfl rfl ?_
  refine g_aload_n (i := 0) (j := 0) (dk_Mo_digest 52 rfl) rfl rfl ?_
  obtain ⟨c1, h⟩ := p_gdE h
  refine g_getR fl_Mo_19 (Or.inr ⟨_, rfl⟩) (dk_Mo_digest 53 rfl) c1 ?_
  refine g_iload_n (i := 2) (j := 2) (dk_Mo_digest 54 rfl) rfl rfl ?_
  obtain ⟨c2, h⟩ := p_gdE h
  obtain ⟨c3, h⟩ := p_gdE h
  refine g_iaload (dk_Mo_digest 55 rfl) c2 c3.1 c3.2 ?_
  refine g_icmp_ge 166 (dk_Mo_digest 56 rfl) (by decide) (fun b4 => ?_) (fun b4 => ?_)
  · have h := p_ifT b4 h
    refine g_iinc (j := 1) [(1, p_i (p_w (v1 + 1))), (0, p_r v0), (2, p_i v2), (3, p_i v3)] (dk_Mo_digest 93 rfl) rfl (by decide) rfl ?_
    refine p_ltG (P := fun q => p_Go K l m_Mo_digest 169 [(1, p_i q), (0, p_r v0), (2, p_i v2), (3, p_i v3)] [] s0 _) ?_ h
    intro x5 h
    refine g_goto 35 (dk_Mo_digest 94 rfl) (by decide) ?_
    refine g_sub [(0, p_r v0), (1, p_i x5)] [1, 0] rfl ?_
    exact hk35 v0 x5 s0 _ h
  · have h := p_ifF b4 h
    refine g_aload_n (i := 0) (j := 0) (dk_Mo_digest 57 rfl) rfl rfl ?_
    refine g_getR fl_Mo_69 (Or.inr ⟨_, rfl⟩) (dk_Mo_digest 58 rfl) c1 ?_
    refine g_bipush (dk_Mo_digest 59 rfl) rfl (by decide) ?_
    refine g_iload_n (i := 2) (j := 2) (dk_Mo_digest 60 rfl) rfl rfl ?_
    refine g_imul (dk_Mo_digest 61 rfl) ?_
    refine g_iload_n (i := 3) (j := 3) (dk_Mo_digest 62 rfl) rfl rfl ?_
    refine g_iadd (dk_Mo_digest 63 rfl) ?_
    obtain ⟨c6, h⟩ := p_gdE h
    obtain ⟨c7, h⟩ := p_gdE h
    refine g_iaload (dk_Mo_digest 64 rfl) c6 c7.1 c7.2 ?_
    refine g_istore [(4, p_i (p_Z s0 (p_R s0 v0 22) ((p_w ((p_w (8 * v2)) + v3))).toNat)), (0, p_r v0), (1, p_i v1), (2, p_i v2), (3, p_i v3)] (dk_Mo_digest 65 rfl) (by decide) rfl ?_
    refine p_ltG (P := fun q => p_Go K l m_Mo_digest 113 [(4, p_i q), (0, p_r v0), (1, p_i v1), (2, p_i v2), (3, p_i v3)] [] s0 _) ?_ h
    intro x8 h
    refine g_aload_n (i := 0) (j := 1) (dk_Mo_digest 66 rfl) rfl rfl ?_
    refine g_iload (j := 0) (dk_Mo_digest 67 rfl) rfl ?_
    refine g_if_ne 123 (dk_Mo_digest 68 rfl) (by decide) (fun b9 => ?_) (fun b9 => ?_)
    · have h := p_ifT b9 h
      refine g_bipush (dk_Mo_digest 71 rfl) rfl (by decide) ?_
      refine g_aload_n (i := 0) (j := 1) (dk_Mo_digest 72 rfl) rfl rfl ?_
      refine g_getR fl_Mo_84 (Or.inr ⟨_, rfl⟩) (dk_Mo_digest 73 rfl) c1 ?_
      refine g_iload (j := 0) (dk_Mo_digest 74 rfl) rfl ?_
      obtain ⟨c10, h⟩ := p_gdE h
      obtain ⟨c11, h⟩ := p_gdE h
      refine g_iaload (dk_Mo_digest 75 rfl) c10 c11.1 c11.2 ?_
      refine g_imul (dk_Mo_digest 76 rfl) ?_
      refine g_aload_n (i := 0) (j := 1) (dk_Mo_digest 77 rfl) rfl rfl ?_
      refine g_getR fl_Mo_87 (Or.inr ⟨_, rfl⟩) (dk_Mo_digest 78 rfl) c1 ?_
      refine g_iload (j := 0) (dk_Mo_digest 79 rfl) rfl ?_
      obtain ⟨c12, h⟩ := p_gdE h
      obtain ⟨c13, h⟩ := p_gdE h
      refine g_iaload (dk_Mo_digest 80 rfl) c12 c13.1 c13.2 ?_
      refine g_iadd (dk_Mo_digest 81 rfl) ?_
      refine g_sub [(0, p_r v0), (1, p_i v1), (2, p_i v2), (3, p_i v3), (4, p_i x8)] [1, 2, 3, 4, 0] rfl ?_
      exact tB_Mo_digest_141 K l k35 hk35 k90 hk90 v0 v1 v2 v3 x8 (p_w ((p_w (16 * (p_Z s0 (p_R s0 v0 28) (x8).toNat))) + (p_Z s0 (p_R s0 v0 29) (x8).toNat))) v0 s0 _ h
    · have h := p_ifF b9 h
      refine g_iconst (dk_Mo_digest 69 rfl) (by decide) ?_
      refine g_goto 141 (dk_Mo_digest 70 rfl) (by decide) ?_
      refine g_sub [(0, p_r v0), (1, p_i v1), (2, p_i v2), (3, p_i v3), (4, p_i x8)] [1, 2, 3, 4, 0] rfl ?_
      exact tB_Mo_digest_141 K l k35 hk35 k90 hk90 v0 v1 v2 v3 x8 0 v0 s0 _ h
set_option maxRecDepth 100000 in
set_option maxHeartbeats 4000000 in
theorem tO_Mo_digest_90 (K : p_K) (l : Launch) (k35 : Nat → Int → p_Hp → Option (Int × p_Hp)) (hk35 : ∀ (v0 : Nat) (v1 : Int)  (s0 : p_Hp) (r : (Int × p_Hp)), k35 v0 v1 s0 = some r → p_Go K l m_Mo_digest 35 [(0, p_r v0), (1, p_i v1)] [] s0 (some (p_j r.1), r.2)) : ∀ (n : Nat) (v0 : Nat) (v1 : Int) (v2 : Int) (v3 : Int) (s0 : p_Hp) (r : (Int × p_Hp)), O_Mo_digest_90 k35 n v0 v1 v2 v3 s0 = some r → p_Go K l m_Mo_digest 90 [(0, p_r v0), (1, p_i v1), (2, p_i v2), (3, p_i v3)] [] s0 (some (p_j r.1), r.2) := by
  intro n
  induction n with
  | zero => intro v0 v1 v2 v3 s0 r h; cases (show (none : Option (Int × p_Hp)) = some r from h)
  | succ n ih => intro v0 v1 v2 v3 s0 r h; exact tL_Mo_digest_90 K l k35 hk35 _ ih v0 v1 v2 v3 s0 r h
set_option maxRecDepth 100000 in
set_option maxHeartbeats 4000000 in
theorem tL_Mo_digest_66 (K : p_K) (l : Launch) (k35 : Nat → Int → p_Hp → Option (Int × p_Hp)) (hk35 : ∀ (v0 : Nat) (v1 : Int)  (s0 : p_Hp) (r : (Int × p_Hp)), k35 v0 v1 s0 = some r → p_Go K l m_Mo_digest 35 [(0, p_r v0), (1, p_i v1)] [] s0 (some (p_j r.1), r.2)) (k66 : Nat → Int → Int → Int → p_Hp → Option (Int × p_Hp)) (hk66 : ∀ (v0 : Nat) (v1 : Int) (v2 : Int) (v3 : Int)  (s0 : p_Hp) (r : (Int × p_Hp)), k66 v0 v1 v2 v3 s0 = some r → p_Go K l m_Mo_digest 66 [(0, p_r v0), (1, p_i v1), (2, p_i v2), (3, p_i v3)] [] s0 (some (p_j r.1), r.2)) (v0 : Nat) (v1 : Int) (v2 : Int) (v3 : Int) (s0 : p_Hp) (r : (Int × p_Hp)) (h : L_Mo_digest_66 k35 k66 v0 v1 v2 v3 s0 = some r) : p_Go K l m_Mo_digest 66 [(0, p_r v0), (1, p_i v1), (2, p_i v2), (3, p_i v3)] [] s0 (some (p_j r.1), r.2) := by
  unfold L_Mo_digest_66 at h
  refine g_iload_n (i := 3) (j := 3) (dk_Mo_digest 38 rfl) rfl rfl ?_
  refine g_bipush (dk_Mo_digest 39 rfl) rfl (by decide) ?_
  refine g_icmp_ge 88 (dk_Mo_digest 40 rfl) (by decide) (fun b1 => ?_) (fun b1 => ?_)
  · have h := p_ifT b1 h
    refine g_iconst (dk_Mo_digest 49 rfl) (by decide) ?_
    refine g_istore_n (i := 3) [(3, p_i 0), (0, p_r v0), (1, p_i v1), (2, p_i v2)] (dk_Mo_digest 50 rfl) rfl (by decide) rfl ?_
    refine g_sub [(0, p_r v0), (1, p_i v1), (2, p_i v2), (3, p_i 0)] [1, 2, 3, 0] rfl ?_
    exact tO_Mo_digest_90 K l k35 hk35 3000 v0 v1 v2 0 s0 _ h
  · have h := p_ifF b1 h
    refine g_aload_n (i := 0) (j := 0) (dk_Mo_digest 41 rfl) rfl rfl ?_
    refine g_aload_n (i := 0) (j := 0) (dk_Mo_digest 42 rfl) rfl rfl ?_
    refine g_iload_n (i := 1) (j := 1) (dk_Mo_digest 43 rfl) rfl rfl ?_
    refine g_iload_n (i := 3) (j := 3) (dk_Mo_digest 44 rfl) rfl rfl ?_
    obtain ⟨c2, h⟩ := p_gdE h
    obtain ⟨r7, s3, q4, h⟩ := p_bdE h
    have t5 := tF_Mo_told K l v0 v1 v3 s0 _ q4
    refine g_callV (a := v0) (ci := 11) (q0 := (RX11, TX11, 90)) (As := [p_i v1, p_i v3]) (rest := [p_r v0]) [p_i r7, p_r v0] mt_Mo_told rfl rfl tw_8_176 tw_8_177 tw_9_41 ⟨Nat.le_of_ble_eq_true rfl, Nat.le_of_ble_eq_true rfl⟩ rfl (Nat.le_of_ble_eq_true rfl) (dk_Mo_digest 45 rfl) rfl c2 rfl t5 ?_
    have hs6 : p_x s0 s3 := t5.1
    show p_Go K l m_Mo_digest 79 [(0, p_r v0), (1, p_i v1), (2, p_i v2), (3, p_i v3)] [p_i r7, p_r v0] s3 _
    obtain ⟨s8, q9, h⟩ := p_bvE h
    have t10 := tF_Mo_adds K l v0 r7 s3 _ q9
    refine g_callV (a := v0) (ci := 11) (q0 := (RX11, TX11, 90)) (As := [p_i r7]) (rest := []) [] mt_Mo_adds rfl rfl tw_9_38 ts_105 tw_9_36 ⟨Nat.le_of_ble_eq_true rfl, Nat.le_of_ble_eq_true rfl⟩ rfl (Nat.le_of_ble_eq_true rfl) (dk_Mo_digest 46 rfl) rfl (c2.up hs6) rfl t10 ?_
    have hs11 : p_x s3 s8 := t10.1
    show p_Go K l m_Mo_digest 82 [(0, p_r v0), (1, p_i v1), (2, p_i v2), (3, p_i v3)] [] s8 _
    refine g_iinc (j := 3) [(3, p_i (p_w (v3 + 1))), (0, p_r v0), (1, p_i v1), (2, p_i v2)] (dk_Mo_digest 47 rfl) rfl (by decide) rfl ?_
    refine p_ltG (P := fun q => p_Go K l m_Mo_digest 85 [(3, p_i q), (0, p_r v0), (1, p_i v1), (2, p_i v2)] [] s8 _) ?_ h
    intro x12 h
    refine g_goto 66 (dk_Mo_digest 48 rfl) (by decide) ?_
    refine g_sub [(0, p_r v0), (1, p_i v1), (2, p_i v2), (3, p_i x12)] [1, 2, 3, 0] rfl ?_
    exact hk66 v0 v1 v2 x12 s8 _ h
set_option maxRecDepth 100000 in
set_option maxHeartbeats 4000000 in
theorem tO_Mo_digest_66 (K : p_K) (l : Launch) (k35 : Nat → Int → p_Hp → Option (Int × p_Hp)) (hk35 : ∀ (v0 : Nat) (v1 : Int)  (s0 : p_Hp) (r : (Int × p_Hp)), k35 v0 v1 s0 = some r → p_Go K l m_Mo_digest 35 [(0, p_r v0), (1, p_i v1)] [] s0 (some (p_j r.1), r.2)) : ∀ (n : Nat) (v0 : Nat) (v1 : Int) (v2 : Int) (v3 : Int) (s0 : p_Hp) (r : (Int × p_Hp)), O_Mo_digest_66 k35 n v0 v1 v2 v3 s0 = some r → p_Go K l m_Mo_digest 66 [(0, p_r v0), (1, p_i v1), (2, p_i v2), (3, p_i v3)] [] s0 (some (p_j r.1), r.2) := by
  intro n
  induction n with
  | zero => intro v0 v1 v2 v3 s0 r h; cases (show (none : Option (Int × p_Hp)) = some r from h)
  | succ n ih => intro v0 v1 v2 v3 s0 r h; exact tL_Mo_digest_66 K l k35 hk35 _ ih v0 v1 v2 v3 s0 r h
set_option maxRecDepth 100000 in
set_option maxHeartbeats 4000000 in
theorem tL_Mo_digest_35 (K : p_K) (l : Launch) (k35 : Nat → Int → p_Hp → Option (Int × p_Hp)) (hk35 : ∀ (v0 : Nat) (v1 : Int)  (s0 : p_Hp) (r : (Int × p_Hp)), k35 v0 v1 s0 = some r → p_Go K l m_Mo_digest 35 [(0, p_r v0), (1, p_i v1)] [] s0 (some (p_j r.1), r.2)) (v0 : Nat) (v1 : Int) (s0 : p_Hp) (r : (Int × p_Hp)) (h : L_Mo_digest_35 k35 v0 v1 s0 = some r) : p_Go K l m_Mo_digest 35 [(0, p_r v0), (1, p_i v1)] [] s0 (some (p_j r.1), r.2) := by
  unfold L_Mo_digest_35 at h
  refine g_iload_n (i := 1) (j := 1) (dk_Mo_digest 19 rfl) rfl rfl ?_
  refine g_aload_n (i := 0) (j := 0) (dk_Mo_digest 20 rfl) rfl rfl ?_
  obtain ⟨c1, h⟩ := p_gdE h
  refine g_getR fl_Mo_7 (Or.inr ⟨_, rfl⟩) (dk_Mo_digest 21 rfl) c1 ?_
  refine g_aload_n (i := 0) (j := 0) (dk_Mo_digest 22 rfl) rfl rfl ?_
  refine g_getI fl_Mo_227 (Or.inl rfl) (dk_Mo_digest 23 rfl) c1 ?_
  obtain ⟨c2, h⟩ := p_gdE h
  obtain ⟨c3, h⟩ := p_gdE h
  refine g_iaload (dk_Mo_digest 24 rfl) c2 c3.1 c3.2 ?_
  refine g_icmp_ge 172 (dk_Mo_digest 25 rfl) (by decide) (fun b4 => ?_) (fun b4 => ?_)
  · have h := p_ifT b4 h
    refine g_aload_n (i := 0) (j := 0) (dk_Mo_digest 95 rfl) rfl rfl ?_
    refine g_aload_n (i := 0) (j := 0) (dk_Mo_digest 96 rfl) rfl rfl ?_
    refine g_getR fl_Mo_114 (Or.inr ⟨_, rfl⟩) (dk_Mo_digest 97 rfl) c1 ?_
    refine g_aload_n (i := 0) (j := 0) (dk_Mo_digest 98 rfl) rfl rfl ?_
    refine g_getI fl_Mo_227 (Or.inl rfl) (dk_Mo_digest 99 rfl) c1 ?_
    obtain ⟨c5, h⟩ := p_gdE h
    obtain ⟨c6, h⟩ := p_gdE h
    refine g_iaload (dk_Mo_digest 100 rfl) c5 c6.1 c6.2 ?_
    obtain ⟨s7, q8, h⟩ := p_bvE h
    have t9 := tF_Mo_adds K l v0 (p_Z s0 (p_R s0 v0 38) ((p_Z s0 v0 0)).toNat) s0 _ q8
    refine g_callV (a := v0) (ci := 11) (q0 := (RX11, TX11, 90)) (As := [p_i (p_Z s0 (p_R s0 v0 38) ((p_Z s0 v0 0)).toNat)]) (rest := []) [] mt_Mo_adds rfl rfl tw_9_38 ts_105 tw_9_36 ⟨Nat.le_of_ble_eq_true rfl, Nat.le_of_ble_eq_true rfl⟩ rfl (Nat.le_of_ble_eq_true rfl) (dk_Mo_digest 101 rfl) rfl c1 rfl t9 ?_
    have hs10 : p_x s0 s7 := t9.1
    show p_Go K l m_Mo_digest 185 [(0, p_r v0), (1, p_i v1)] [] s7 _
    refine g_aload_n (i := 0) (j := 0) (dk_Mo_digest 102 rfl) rfl rfl ?_
    refine g_aload_n (i := 0) (j := 0) (dk_Mo_digest 103 rfl) rfl rfl ?_
    refine g_getR fl_Mo_117 (Or.inr ⟨_, rfl⟩) (dk_Mo_digest 104 rfl) (c1.up hs10) ?_
    refine g_aload_n (i := 0) (j := 0) (dk_Mo_digest 105 rfl) rfl rfl ?_
    refine g_getI fl_Mo_227 (Or.inl rfl) (dk_Mo_digest 106 rfl) (c1.up hs10) ?_
    obtain ⟨c11, h⟩ := p_gdE h
    obtain ⟨c12, h⟩ := p_gdE h
    refine g_iaload (dk_Mo_digest 107 rfl) c11 c12.1 c12.2 ?_
    obtain ⟨s13, q14, h⟩ := p_bvE h
    have t15 := tF_Mo_adds K l v0 (p_Z s7 (p_R s7 v0 39) ((p_Z s7 v0 0)).toNat) s7 _ q14
    refine g_callV (a := v0) (ci := 11) (q0 := (RX11, TX11, 90)) (As := [p_i (p_Z s7 (p_R s7 v0 39) ((p_Z s7 v0 0)).toNat)]) (rest := []) [] mt_Mo_adds rfl rfl tw_9_38 ts_105 tw_9_36 ⟨Nat.le_of_ble_eq_true rfl, Nat.le_of_ble_eq_true rfl⟩ rfl (Nat.le_of_ble_eq_true rfl) (dk_Mo_digest 108 rfl) rfl (c1.up hs10) rfl t15 ?_
    have hs16 : p_x s7 s13 := t15.1
    show p_Go K l m_Mo_digest 198 [(0, p_r v0), (1, p_i v1)] [] s13 _
    refine g_aload_n (i := 0) (j := 0) (dk_Mo_digest 109 rfl) rfl rfl ?_
    refine g_aload_n (i := 0) (j := 0) (dk_Mo_digest 110 rfl) rfl rfl ?_
    refine g_getR fl_Mo_120 (Or.inr ⟨_, rfl⟩) (dk_Mo_digest 111 rfl) (c1.up (hs10.trans hs16)) ?_
    refine g_aload_n (i := 0) (j := 0) (dk_Mo_digest 112 rfl) rfl rfl ?_
    refine g_getI fl_Mo_227 (Or.inl rfl) (dk_Mo_digest 113 rfl) (c1.up (hs10.trans hs16)) ?_
    obtain ⟨c17, h⟩ := p_gdE h
    obtain ⟨c18, h⟩ := p_gdE h
    refine g_iaload (dk_Mo_digest 114 rfl) c17 c18.1 c18.2 ?_
    obtain ⟨s19, q20, h⟩ := p_bvE h
    have t21 := tF_Mo_adds K l v0 (p_Z s13 (p_R s13 v0 40) ((p_Z s13 v0 0)).toNat) s13 _ q20
    refine g_callV (a := v0) (ci := 11) (q0 := (RX11, TX11, 90)) (As := [p_i (p_Z s13 (p_R s13 v0 40) ((p_Z s13 v0 0)).toNat)]) (rest := []) [] mt_Mo_adds rfl rfl tw_9_38 ts_105 tw_9_36 ⟨Nat.le_of_ble_eq_true rfl, Nat.le_of_ble_eq_true rfl⟩ rfl (Nat.le_of_ble_eq_true rfl) (dk_Mo_digest 115 rfl) rfl (c1.up (hs10.trans hs16)) rfl t21 ?_
    have hs22 : p_x s13 s19 := t21.1
    show p_Go K l m_Mo_digest 211 [(0, p_r v0), (1, p_i v1)] [] s19 _
    refine g_aload_n (i := 0) (j := 0) (dk_Mo_digest 116 rfl) rfl rfl ?_
    refine g_aload_n (i := 0) (j := 0) (dk_Mo_digest 117 rfl) rfl rfl ?_
    refine g_getR fl_Mo_126 (Or.inr ⟨_, rfl⟩) (dk_Mo_digest 118 rfl) (c1.up (hs10.trans (hs16.trans hs22))) ?_
    refine g_aload_n (i := 0) (j := 0) (dk_Mo_digest 119 rfl) rfl rfl ?_
    refine g_getI fl_Mo_227 (Or.inl rfl) (dk_Mo_digest 120 rfl) (c1.up (hs10.trans (hs16.trans hs22))) ?_
    obtain ⟨c23, h⟩ := p_gdE h
    obtain ⟨c24, h⟩ := p_gdE h
    refine g_iaload (dk_Mo_digest 121 rfl) c23 c24.1 c24.2 ?_
    obtain ⟨s25, q26, h⟩ := p_bvE h
    have t27 := tF_Mo_adds K l v0 (p_Z s19 (p_R s19 v0 42) ((p_Z s19 v0 0)).toNat) s19 _ q26
    refine g_callV (a := v0) (ci := 11) (q0 := (RX11, TX11, 90)) (As := [p_i (p_Z s19 (p_R s19 v0 42) ((p_Z s19 v0 0)).toNat)]) (rest := []) [] mt_Mo_adds rfl rfl tw_9_38 ts_105 tw_9_36 ⟨Nat.le_of_ble_eq_true rfl, Nat.le_of_ble_eq_true rfl⟩ rfl (Nat.le_of_ble_eq_true rfl) (dk_Mo_digest 122 rfl) rfl (c1.up (hs10.trans (hs16.trans hs22))) rfl t27 ?_
    have hs28 : p_x s19 s25 := t27.1
    show p_Go K l m_Mo_digest 224 [(0, p_r v0), (1, p_i v1)] [] s25 _
    refine g_aload_n (i := 0) (j := 0) (dk_Mo_digest 123 rfl) rfl rfl ?_
    refine g_getJ fl_Mo_540 (dk_Mo_digest 124 rfl) (c1.up (hs10.trans (hs16.trans (hs22.trans hs28)))) ?_
    cases h
    exact g_ret rfl rfl (dk_Mo_digest 125 rfl) (fun os => ⟨_, rfl, p_okh os⟩)
  · have h := p_ifF b4 h
    refine g_aload_n (i := 0) (j := 0) (dk_Mo_digest 26 rfl) rfl rfl ?_
    refine g_iload_n (i := 1) (j := 1) (dk_Mo_digest 27 rfl) rfl rfl ?_
    obtain ⟨r33, s29, q30, h⟩ := p_bdE h
    have t31 := tF_Mo_g K l v0 v1 s0 _ q30
    refine g_callV (a := v0) (ci := 11) (q0 := (RX11, TX11, 90)) (As := [p_i v1]) (rest := []) [p_i r33] mt_Mo_g rfl rfl tw_7_63 ts_45 tw_7_61 ⟨Nat.le_of_ble_eq_true rfl, Nat.le_of_ble_eq_true rfl⟩ rfl (Nat.le_of_ble_eq_true rfl) (dk_Mo_digest 28 rfl) rfl c1 rfl t31 ?_
    have hs32 : p_x s0 s29 := t31.1
    show p_Go K l m_Mo_digest 53 [(0, p_r v0), (1, p_i v1)] [p_i r33] s29 _
    refine g_istore_n (i := 2) [(2, p_i r33), (0, p_r v0), (1, p_i v1)] (dk_Mo_digest 29 rfl) rfl (by decide) rfl ?_
    refine g_aload_n (i := 0) (j := 1) (dk_Mo_digest 30 rfl) rfl rfl ?_
    refine g_aload_n (i := 0) (j := 1) (dk_Mo_digest 31 rfl) rfl rfl ?_
    refine g_getR fl_Mo_16 (Or.inr ⟨_, rfl⟩) (dk_Mo_digest 32 rfl) (c1.up hs32) ?_
    refine g_iload_n (i := 2) (j := 0) (dk_Mo_digest 33 rfl) rfl rfl ?_
    obtain ⟨c34, h⟩ := p_gdE h
    obtain ⟨c35, h⟩ := p_gdE h
    refine g_iaload (dk_Mo_digest 34 rfl) c34 c35.1 c35.2 ?_
    obtain ⟨s36, q37, h⟩ := p_bvE h
    have t38 := tF_Mo_adds K l v0 (p_Z s29 (p_R s29 v0 5) (r33).toNat) s29 _ q37
    refine g_callV (a := v0) (ci := 11) (q0 := (RX11, TX11, 90)) (As := [p_i (p_Z s29 (p_R s29 v0 5) (r33).toNat)]) (rest := []) [] mt_Mo_adds rfl rfl tw_9_38 ts_105 tw_9_36 ⟨Nat.le_of_ble_eq_true rfl, Nat.le_of_ble_eq_true rfl⟩ rfl (Nat.le_of_ble_eq_true rfl) (dk_Mo_digest 35 rfl) rfl (c1.up hs32) rfl t38 ?_
    have hs39 : p_x s29 s36 := t38.1
    show p_Go K l m_Mo_digest 64 [(2, p_i r33), (0, p_r v0), (1, p_i v1)] [] s36 _
    refine g_iconst (dk_Mo_digest 36 rfl) (by decide) ?_
    refine g_istore_n (i := 3) [(3, p_i 2), (2, p_i r33), (0, p_r v0), (1, p_i v1)] (dk_Mo_digest 37 rfl) rfl (by decide) rfl ?_
    refine g_sub [(0, p_r v0), (1, p_i v1), (2, p_i r33), (3, p_i 2)] [2, 3, 1, 0] rfl ?_
    exact tO_Mo_digest_66 K l k35 hk35 3000 v0 v1 r33 2 s36 _ h
set_option maxRecDepth 100000 in
set_option maxHeartbeats 4000000 in
theorem tO_Mo_digest_35 (K : p_K) (l : Launch)  : ∀ (n : Nat) (v0 : Nat) (v1 : Int) (s0 : p_Hp) (r : (Int × p_Hp)), O_Mo_digest_35 n v0 v1 s0 = some r → p_Go K l m_Mo_digest 35 [(0, p_r v0), (1, p_i v1)] [] s0 (some (p_j r.1), r.2) := by
  intro n
  induction n with
  | zero => intro v0 v1 s0 r h; cases (show (none : Option (Int × p_Hp)) = some r from h)
  | succ n ih => intro v0 v1 s0 r h; exact tL_Mo_digest_35 K l _ ih v0 v1 s0 r h
set_option maxRecDepth 100000 in
set_option maxHeartbeats 4000000 in
theorem tF_Mo_digest (K : p_K) (l : Launch) (v0 : Nat) (s0 : p_Hp) (r : (Int × p_Hp)) (h : F_Mo_digest v0 s0 = some r) : p_Ct K l m_Mo_digest [p_r v0] s0 (some (p_j r.1), r.2) := by
  refine p_Ct.of (by decide) (Nat.le_of_ble_eq_true rfl) ?_
  unfold F_Mo_digest at h
  show p_Go K l m_Mo_digest 0 [(0, p_r v0)] [] s0 _
  refine g_aload_n (i := 0) (j := 0) (dk_Mo_digest 0 rfl) rfl rfl ?_
  refine g_ldc2_w (x := 17) (dk_Mo_digest 1 rfl) tw_9_35 (by decide) ?_
  obtain ⟨c1, h⟩ := p_gdE h
  refine g_putJ fl_Mo_540 (Or.inl rfl) (dk_Mo_digest 2 rfl) c1 ?_
  refine p_ltS (P := fun q => p_Go K l m_Mo_digest 7 [(0, p_r v0)] [] q _) (p_xZ _ _ _ _) ?_ h
  intro s2 hs3 h
  refine g_aload_n (i := 0) (j := 0) (dk_Mo_digest 3 rfl) rfl rfl ?_
  refine g_aload_n (i := 0) (j := 0) (dk_Mo_digest 4 rfl) rfl rfl ?_
  refine g_getR fl_Mo_13 (Or.inr ⟨_, rfl⟩) (dk_Mo_digest 5 rfl) (c1.up hs3) ?_
  refine g_aload_n (i := 0) (j := 0) (dk_Mo_digest 6 rfl) rfl rfl ?_
  refine g_getI fl_Mo_227 (Or.inl rfl) (dk_Mo_digest 7 rfl) (c1.up hs3) ?_
  obtain ⟨c4, h⟩ := p_gdE h
  obtain ⟨c5, h⟩ := p_gdE h
  refine g_iaload (dk_Mo_digest 8 rfl) c4 c5.1 c5.2 ?_
  obtain ⟨s6, q7, h⟩ := p_bvE h
  have t8 := tF_Mo_adds K l v0 (p_Z s2 (p_R s2 v0 4) ((p_Z s2 v0 0)).toNat) s2 _ q7
  refine g_callV (a := v0) (ci := 11) (q0 := (RX11, TX11, 90)) (As := [p_i (p_Z s2 (p_R s2 v0 4) ((p_Z s2 v0 0)).toNat)]) (rest := []) [] mt_Mo_adds rfl rfl tw_9_38 ts_105 tw_9_36 ⟨Nat.le_of_ble_eq_true rfl, Nat.le_of_ble_eq_true rfl⟩ rfl (Nat.le_of_ble_eq_true rfl) (dk_Mo_digest 9 rfl) rfl (c1.up hs3) rfl t8 ?_
  have hs9 : p_x s2 s6 := t8.1
  show p_Go K l m_Mo_digest 20 [(0, p_r v0)] [] s6 _
  refine g_aload_n (i := 0) (j := 0) (dk_Mo_digest 10 rfl) rfl rfl ?_
  refine g_aload_n (i := 0) (j := 0) (dk_Mo_digest 11 rfl) rfl rfl ?_
  refine g_getR fl_Mo_7 (Or.inr ⟨_, rfl⟩) (dk_Mo_digest 12 rfl) (c1.up (hs3.trans hs9)) ?_
  refine g_aload_n (i := 0) (j := 0) (dk_Mo_digest 13 rfl) rfl rfl ?_
  refine g_getI fl_Mo_227 (Or.inl rfl) (dk_Mo_digest 14 rfl) (c1.up (hs3.trans hs9)) ?_
  obtain ⟨c10, h⟩ := p_gdE h
  obtain ⟨c11, h⟩ := p_gdE h
  refine g_iaload (dk_Mo_digest 15 rfl) c10 c11.1 c11.2 ?_
  obtain ⟨s12, q13, h⟩ := p_bvE h
  have t14 := tF_Mo_adds K l v0 (p_Z s6 (p_R s6 v0 3) ((p_Z s6 v0 0)).toNat) s6 _ q13
  refine g_callV (a := v0) (ci := 11) (q0 := (RX11, TX11, 90)) (As := [p_i (p_Z s6 (p_R s6 v0 3) ((p_Z s6 v0 0)).toNat)]) (rest := []) [] mt_Mo_adds rfl rfl tw_9_38 ts_105 tw_9_36 ⟨Nat.le_of_ble_eq_true rfl, Nat.le_of_ble_eq_true rfl⟩ rfl (Nat.le_of_ble_eq_true rfl) (dk_Mo_digest 16 rfl) rfl (c1.up (hs3.trans hs9)) rfl t14 ?_
  have hs15 : p_x s6 s12 := t14.1
  show p_Go K l m_Mo_digest 33 [(0, p_r v0)] [] s12 _
  refine g_iconst (dk_Mo_digest 17 rfl) (by decide) ?_
  refine g_istore_n (i := 1) [(1, p_i 0), (0, p_r v0)] (dk_Mo_digest 18 rfl) rfl (by decide) rfl ?_
  refine g_sub [(0, p_r v0), (1, p_i 0)] [1, 0] rfl ?_
  exact tO_Mo_digest_35 K l 3000 v0 0 s12 _ h
