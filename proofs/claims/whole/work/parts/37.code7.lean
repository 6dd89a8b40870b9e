def m_Mo_copyRule : p_Me := (⟨"SortWorksModel", "copyRule", "(II)V"⟩, prog_13_method_26_code, 4, none, 0, 0)
theorem mt_Mo_copyRule : p_Mt m_Mo_copyRule 2 := ⟨p_mem (p_tb7 (List.mem_of_getElem? (i := 149) rfl)) rfl, tw_1_12, by decide +kernel, by decide +kernel, by decide +kernel⟩
def dt_Mo_copyRule : List (Nat × Instr × Nat) := [(0, .aload_n 0, 1), (1, .getfield 144, 3), (4, .iload_n 2, 1), (5, .aload_n 0, 1), (6, .getfield 144, 3), (9, .iload_n 1, 1), (10, .iaload, 1), (11, .iastore, 1), (12, .aload_n 0, 1), (13, .getfield 147, 3), (16, .iload_n 2, 1), (17, .aload_n 0, 1), (18, .getfield 147, 3), (21, .iload_n 1, 1), (22, .iaload, 1), (23, .iastore, 1), (24, .aload_n 0, 1), (25, .getfield 150, 3), (28, .iload_n 2, 1), (29, .iconst 0, 1), (30, .iastore, 1), (31, .iconst 0, 1), (32, .istore_n 3, 1), (33, .iload_n 3, 1), (34, .iconst 4, 1), (35, .if_icmp .ge 89, 3), (38, .aload_n 0, 1), (39, .getfield 153, 3), (42, .iconst 4, 1), (43, .iload_n 2, 1), (44, .imul, 1), (45, .iload_n 3, 1), (46, .iadd, 1), (47, .aload_n 0, 1), (48, .getfield 153, 3), (51, .iconst 4, 1), (52, .iload_n 1, 1), (53, .imul, 1), (54, .iload_n 3, 1), (55, .iadd, 1), (56, .iaload, 1), (57, .iastore, 1), (58, .aload_n 0, 1), (59, .getfield 156, 3), (62, .iconst 4, 1), (63, .iload_n 2, 1), (64, .imul, 1), (65, .iload_n 3, 1), (66, .iadd, 1), (67, .aload_n 0, 1), (68, .getfield 156, 3), (71, .iconst 4, 1), (72, .iload_n 1, 1), (73, .imul, 1), (74, .iload_n 3, 1), (75, .iadd, 1), (76, .iaload, 1), (77, .iastore, 1), (78, .aload_n 0, 1), (79, .getfield 159, 3), (82, .iconst 4, 1), (83, .iload_n 2, 1), (84, .imul, 1), (85, .iload_n 3, 1), (86, .iadd, 1), (87, .aload_n 0, 1), (88, .getfield 159, 3), (91, .iconst 4, 1), (92, .iload_n 1, 1), (93, .imul, 1), (94, .iload_n 3, 1), (95, .iadd, 1), (96, .iaload, 1), (97, .iastore, 1), (98, .aload_n 0, 1), (99, .getfield 162, 3), (102, .iconst 4, 1), (103, .iload_n 2, 1), (104, .imul, 1), (105, .iload_n 3, 1), (106, .iadd, 1), (107, .aload_n 0, 1), (108, .getfield 162, 3), (111, .iconst 4, 1), (112, .iload_n 1, 1), (113, .imul, 1), (114, .iload_n 3, 1), (115, .iadd, 1), (116, .iaload, 1), (117, .iastore, 1), (118, .iinc 3 1, 3), (121, .goto (-88), 3), (124, .return_, 1)]
theorem dk_Mo_copyRule (i : Nat) {pc : Nat} {ins : Instr} {len : Nat} (h : dt_Mo_copyRule[i]? = some (pc, ins, len)) : decode m_Mo_copyRule.2.1 pc = .ok (ins, len) := p_dk (b := m_Mo_copyRule.2.1) (t := dt_Mo_copyRule) (by decide +kernel) i h
def L_Mo_copyRule_33 (k33 : Nat → Int → Int → Int → p_Hp → Option p_Hp) (v0 : Nat) (v1 : Int) (v2 : Int) (v3 : Int) (s0 : p_Hp) : Option p_Hp :=
  if 4 ≤ v3 then
    some s0
  else
    p_gd (p_is s0 v0 11) <|
    p_gd (p_is s0 (p_R s0 v0 52) 100) <|
    p_gd ((0 : Int) ≤ (p_w ((p_w (4 * v1)) + v3)) ∧ (p_w ((p_w (4 * v1)) + v3)) < (p_L s0 (p_R s0 v0 52) : Int)) <|
    p_gd ((0 : Int) ≤ (p_w ((p_w (4 * v2)) + v3)) ∧ (p_w ((p_w (4 * v2)) + v3)) < (p_L s0 (p_R s0 v0 52) : Int)) <|
    p_bi (p_wZ s0 (p_R s0 v0 52) ((p_w ((p_w (4 * v2)) + v3)) : Int).toNat (p_Z s0 (p_R s0 v0 52) ((p_w ((p_w (4 * v1)) + v3)) : Int).toNat)) fun s6 =>
    p_gd (p_is s6 (p_R s6 v0 53) 100) <|
    p_gd ((0 : Int) ≤ (p_w ((p_w (4 * v1)) + v3)) ∧ (p_w ((p_w (4 * v1)) + v3)) < (p_L s6 (p_R s6 v0 53) : Int)) <|
    p_gd ((0 : Int) ≤ (p_w ((p_w (4 * v2)) + v3)) ∧ (p_w ((p_w (4 * v2)) + v3)) < (p_L s6 (p_R s6 v0 53) : Int)) <|
    p_bi (p_wZ s6 (p_R s6 v0 53) ((p_w ((p_w (4 * v2)) + v3)) : Int).toNat (p_Z s6 (p_R s6 v0 53) ((p_w ((p_w (4 * v1)) + v3)) : Int).toNat)) fun s11 =>
    p_gd (p_is s11 (p_R s11 v0 54) 100) <|
    p_gd ((0 : Int) ≤ (p_w ((p_w (4 * v1)) + v3)) ∧ (p_w ((p_w (4 * v1)) + v3)) < (p_L s11 (p_R s11 v0 54) : Int)) <|
    p_gd ((0 : Int) ≤ (p_w ((p_w (4 * v2)) + v3)) ∧ (p_w ((p_w (4 * v2)) + v3)) < (p_L s11 (p_R s11 v0 54) : Int)) <|
    p_bi (p_wZ s11 (p_R s11 v0 54) ((p_w ((p_w (4 * v2)) + v3)) : Int).toNat (p_Z s11 (p_R s11 v0 54) ((p_w ((p_w (4 * v1)) + v3)) : Int).toNat)) fun s16 =>
    p_gd (p_is s16 (p_R s16 v0 55) 100) <|
    p_gd ((0 : Int) ≤ (p_w ((p_w (4 * v1)) + v3)) ∧ (p_w ((p_w (4 * v1)) + v3)) < (p_L s16 (p_R s16 v0 55) : Int)) <|
    p_gd ((0 : Int) ≤ (p_w ((p_w (4 * v2)) + v3)) ∧ (p_w ((p_w (4 * v2)) + v3)) < (p_L s16 (p_R s16 v0 55) : Int)) <|
    p_bi (p_wZ s16 (p_R s16 v0 55) ((p_w ((p_w (4 * v2)) + v3)) : Int).toNat (p_Z s16 (p_R s16 v0 55) ((p_w ((p_w (4 * v1)) + v3)) : Int).toNat)) fun s21 =>
    p_bi (p_w (v3 + 1)) fun x23 =>
    k33 v0 v1 v2 x23 s21
def O_Mo_copyRule_33  : Nat → Nat → Int → Int → Int → p_Hp → Option p_Hp
  | 0 => fun _ _ _ _ _ => none
  | n + 1 => L_Mo_copyRule_33 (O_Mo_copyRule_33 n)
def F_Mo_copyRule (v0 : Nat) (v1 : Int) (v2 : Int) (s0 : p_Hp) : Option p_Hp :=
  p_gd (p_is s0 v0 11) <|
  p_gd (p_is s0 (p_R s0 v0 49) 100) <|
  p_gd ((0 : Int) ≤ v1 ∧ v1 < (p_L s0 (p_R s0 v0 49) : Int)) <|
  p_gd ((0 : Int) ≤ v2 ∧ v2 < (p_L s0 (p_R s0 v0 49) : Int)) <|
  p_bi (p_wZ s0 (p_R s0 v0 49) (v2 : Int).toNat (p_Z s0 (p_R s0 v0 49) (v1 : Int).toNat)) fun s5 =>
  p_gd (p_is s5 (p_R s5 v0 50) 100) <|
  p_gd ((0 : Int) ≤ v1 ∧ v1 < (p_L s5 (p_R s5 v0 50) : Int)) <|
  p_gd ((0 : Int) ≤ v2 ∧ v2 < (p_L s5 (p_R s5 v0 50) : Int)) <|
  p_bi (p_wZ s5 (p_R s5 v0 50) (v2 : Int).toNat (p_Z s5 (p_R s5 v0 50) (v1 : Int).toNat)) fun s10 =>
  p_gd (p_is s10 (p_R s10 v0 51) 100) <|
  p_gd ((0 : Int) ≤ v2 ∧ v2 < (p_L s10 (p_R s10 v0 51) : Int)) <|
  p_bi (p_wZ s10 (p_R s10 v0 51) (v2 : Int).toNat 0) fun s14 =>
  O_Mo_copyRule_33 3000 v0 v1 v2 0 s14
set_option maxRecDepth 100000 in
set_option maxHeartbeats 4000000 in
theorem tL_Mo_copyRule_33 (K : p_K) (l : Launch) (k33 : Nat → Int → Int → Int → p_Hp → Option p_Hp) (hk33 : ∀ (v0 : Nat) (v1 : Int) (v2 : Int) (v3 : Int)  (s0 : p_Hp) (r : p_Hp), k33 v0 v1 v2 v3 s0 = some r → p_Go K l m_Mo_copyRule 33 [(0, p_r v0), (1, p_i v1), (2, p_i v2), (3, p_i v3)] [] s0 (none, r)) (v0 : Nat) (v1 : Int) (v2 : Int) (v3 : Int) (s0 : p_Hp) (r : p_Hp) (h : L_Mo_copyRule_33 k33 v0 v1 v2 v3 s0 = some r) : p_Go K l m_Mo_copyRule 33 [(0, p_r v0), (1, p_i v1), (2, p_i v2), (3, p_i v3)] [] s0 (none, r) := by
  unfold L_Mo_copyRule_33 at h
  refine g_iload_n (i := 3) (j := 3) (dk_Mo_copyRule 23 rfl) rfl rfl ?_
  refine g_iconst (dk_Mo_copyRule 24 rfl) (by decide) ?_
  refine g_icmp_ge 124 (dk_Mo_copyRule 25 rfl) (by decide) (fun b1 => ?_) (fun b1 => ?_)
  · have h := p_ifT b1 h
    cases h
    exact g_ret rfl rfl (dk_Mo_copyRule 92 rfl) (fun _ => rfl)
  · have h := p_ifF b1 h
    refine g_aload_n (i := 0) (j := 0) (dk_Mo_copyRule 26 rfl) rfl rfl ?_
    obtain ⟨c2, h⟩ := p_gdE h
    refine g_getR fl_Mo_153 (Or.inr ⟨_, rfl⟩) (dk_Mo_copyRule 27 rfl) c2 ?_
    refine g_iconst (dk_Mo_copyRule 28 rfl) (by decide) ?_
    refine g_iload_n (i := 2) (j := 2) (dk_Mo_copyRule 29 rfl) rfl rfl ?_
    refine g_imul (dk_Mo_copyRule 30 rfl) ?_
    refine g_iload_n (i := 3) (j := 3) (dk_Mo_copyRule 31 rfl) rfl rfl ?_
    refine g_iadd (dk_Mo_copyRule 32 rfl) ?_
    refine g_aload_n (i := 0) (j := 0) (dk_Mo_copyRule 33 rfl) rfl rfl ?_
    refine g_getR fl_Mo_153 (Or.inr ⟨_, rfl⟩) (dk_Mo_copyRule 34 rfl) c2 ?_
    refine g_iconst (dk_Mo_copyRule 35 rfl) (by decide) ?_
    refine g_iload_n (i := 1) (j := 1) (dk_Mo_copyRule 36 rfl) rfl rfl ?_
    refine g_imul (dk_Mo_copyRule 37 rfl) ?_
    refine g_iload_n (i := 3) (j := 3) (dk_Mo_copyRule 38 rfl) rfl rfl ?_
    refine g_iadd (dk_Mo_copyRule 39 rfl) ?_
    obtain ⟨c3, h⟩ := p_gdE h
    obtain ⟨c4, h⟩ := p_gdE h
    refine g_iaload (dk_Mo_copyRule 40 rfl) c3 c4.1 c4.2 ?_
    obtain ⟨c5, h⟩ := p_gdE h
    refine g_iastore (dk_Mo_copyRule 41 rfl) c3 c5.1 c5.2 ?_
    refine p_ltS (P := fun q => p_Go K l m_Mo_copyRule 58 [(0, p_r v0), (1, p_i v1), (2, p_i v2), (3, p_i v3)] [] q _) (p_xZ _ _ _ _) ?_ h
    intro s6 hs7 h
    refine g_aload_n (i := 0) (j := 0) (dk_Mo_copyRule 42 rfl) rfl rfl ?_
    refine g_getR fl_Mo_156 (Or.inr ⟨_, rfl⟩) (dk_Mo_copyRule 43 rfl) (c2.up hs7) ?_
    refine g_iconst (dk_Mo_copyRule 44 rfl) (by decide) ?_
    refine g_iload_n (i := 2) (j := 2) (dk_Mo_copyRule 45 rfl) rfl rfl ?_
    refine g_imul (dk_Mo_copyRule 46 rfl) ?_
    refine g_iload_n (i := 3) (j := 3) (dk_Mo_copyRule 47 rfl) rfl rfl ?_
    refine g_iadd (dk_Mo_copyRule 48 rfl) ?_
    refine g_aload_n (i := 0) (j := 0) (dk_Mo_copyRule 49 rfl) rfl rfl ?_
    refine g_getR fl_Mo_156 (Or.inr ⟨_, rfl⟩) (dk_Mo_copyRule 50 rfl) (c2.up hs7) ?_
    refine g_iconst (dk_Mo_copyRule 51 rfl) (by decide) ?_
    refine g_iload_n (i := 1) (j := 1) (dk_Mo_copyRule 52 rfl) rfl rfl ?_
    refine g_imul (dk_Mo_copyRule 53 rfl) ?_
    refine g_iload_n (i := 3) (j := 3) (dk_Mo_copyRule 54 rfl) rfl rfl ?_
    refine g_iadd (dk_Mo_copyRule 55 rfl) ?_
    obtain ⟨c8, h⟩ := p_gdE h
    obtain ⟨c9, h⟩ := p_gdE h
    refine g_iaload (dk_Mo_copyRule 56 rfl) c8 c9.1 c9.2 ?_
    obtain ⟨c10, h⟩ := p_gdE h
    refine g_iastore (dk_Mo_copyRule 57 rfl) c8 c10.1 c10.2 ?_
    refine p_ltS (P := fun q => p_Go K l m_Mo_copyRule 78 [(0, p_r v0), (1, p_i v1), (2, p_i v2), (3, p_i v3)] [] q _) (p_xZ _ _ _ _) ?_ h
    intro s11 hs12 h
    refine g_aload_n (i := 0) (j := 0) (dk_Mo_copyRule 58 rfl) rfl rfl ?_
    refine g_getR fl_Mo_159 (Or.inr ⟨_, rfl⟩) (dk_Mo_copyRule 59 rfl) (c2.up (hs7.trans hs12)) ?_
    refine g_iconst (dk_Mo_copyRule 60 rfl) (by decide) ?_
    refine g_iload_n (i := 2) (j := 2) (dk_Mo_copyRule 61 rfl) rfl rfl ?_
    refine g_imul (dk_Mo_copyRule 62 rfl) ?_
    refine g_iload_n (i := 3) (j := 3) (dk_Mo_copyRule 63 rfl) rfl rfl ?_
    refine g_iadd (dk_Mo_copyRule 64 rfl) ?_
    refine g_aload_n (i := 0) (j := 0) (dk_Mo_copyRule 65 rfl) rfl rfl ?_
    refine g_getR fl_Mo_159 (Or.inr ⟨_, rfl⟩) (dk_Mo_copyRule 66 rfl) (c2.up (hs7.trans hs12)) ?_
    refine g_iconst (dk_Mo_copyRule 67 rfl) (by decide) ?_
    refine g_iload_n (i := 1) (j := 1) (dk_Mo_copyRule 68 rfl) rfl rfl ?_
    refine g_imul (dk_Mo_copyRule 69 rfl) ?_
    refine g_iload_n (i := 3) (j := 3) (dk_Mo_copyRule 70 rfl) rfl rfl ?_
    refine g_iadd (dk_Mo_copyRule 71 rfl) ?_
    obtain ⟨c13, h⟩ := p_gdE h
    obtain ⟨c14, h⟩ := p_gdE h
    refine g_iaload (dk_Mo_copyRule 72 rfl) c13 c14.1 c14.2 ?_
    obtain ⟨c15, h⟩ := p_gdE h
    refine g_iastore (dk_Mo_copyRule 73 rfl) c13 c15.1 c15.2 ?_
    refine p_ltS (P := fun q => p_Go K l m_Mo_copyRule 98 [(0, p_r v0), (1, p_i v1), (2, p_i v2), (3, p_i v3)] [] q _) (p_xZ _ _ _ _) ?_ h
    intro s16 hs17 h
    refine g_aload_n (i := 0) (j := 0) (dk_Mo_copyRule 74 rfl) rfl rfl ?_
    refine g_getR fl_Mo_162 (Or.inr ⟨_, rfl⟩) (dk_Mo_copyRule 75 rfl) (c2.up (hs7.trans (hs12.trans hs17))) ?_
    refine g_iconst (dk_Mo_copyRule 76 rfl) (by decide) ?_
    refine g_iload_n (i := 2) (j := 2) (dk_Mo_copyRule 77 rfl) rfl rfl ?_
    refine g_imul (dk_Mo_copyRule 78 rfl) ?_
    refine g_iload_n (i := 3) (j := 3) (dk_Mo_copyRule 79 rfl) rfl rfl ?_
    refine g_iadd (dk_Mo_copyRule 80 rfl) ?_
    refine g_aload_n (i := 0) (j := 0) (dk_Mo_copyRule 81 rfl) rfl rfl ?_
    refine g_getR fl_Mo_162 (Or.inr ⟨_, rfl⟩) (dk_Mo_copyRule 82 rfl) (c2.up (hs7.trans (hs12.trans hs17))) ?_
    refine g_iconst (dk_Mo_copyRule 83 rfl) (by decide) ?_
    refine g_iload_n (i := 1) (j := 1) (dk_Mo_copyRule 84 rfl) rfl rfl ?_
    refine g_imul (dk_Mo_copyRule 85 rfl) ?_
    refine g_iload_n (i := 3) (j := 3) (dk_Mo_copyRule 86 rfl) rfl rfl ?_
    refine g_iadd (dk_Mo_copyRule 87 rfl) ?_
    obtain ⟨c18, h⟩ := p_gdE h
    obtain ⟨c19, h⟩ := p_gdE h
    refine g_iaload (dk_Mo_copyRule 88 rfl) c18 c19.1 c19.2 ?_
    obtain ⟨c20, h⟩ := p_gdE h
    refine g_iastore (dk_Mo_copyRule 89 rfl) c18 c20.1 c20.2 ?_
    refine p_ltS (P := fun q => p_Go K l m_Mo_copyRule 118 [(0, p_r v0), (1, p_i v1), (2, p_i v2), (3, p_i v3)] [] q _) (p_xZ _ _ _ _) ?_ h
    intro s21 hs22 h
    refine g_iinc (j := 3) [(3, p_i (p_w (v3 + 1))), (0, p_r v0), (1, p_i v1), (2, p_i v2)] (dk_Mo_copyRule 90 rfl) rfl (by decide) rfl ?_
    refine p_ltG (P := fun q => p_Go K l m_Mo_copyRule 121 [(3, p_i q), (0, p_r v0), (1, p_i v1), (2, p_i v2)] [] s21 _) ?_ h
    intro x23 h
    refine g_goto 33 (dk_Mo_copyRule 91 rfl) (by decide) ?_
    refine g_sub [(0, p_r v0), (1, p_i v1), (2, p_i v2), (3, p_i x23)] [1, 2, 3, 0] rfl ?_
    exact hk33 v0 v1 v2 x23 s21 _ h
set_option maxRecDepth 100000 in
set_option maxHeartbeats 4000000 in
theorem tO_Mo_copyRule_33 (K : p_K) (l : Launch)  : ∀ (n : Nat) (v0 : Nat) (v1 : Int) (v2 : Int) (v3 : Int) (s0 : p_Hp) (r : p_Hp), O_Mo_copyRule_33 n v0 v1 v2 v3 s0 = some r → p_Go K l m_Mo_copyRule 33 [(0, p_r v0), (1, p_i v1), (2, p_i v2), (3, p_i v3)] [] s0 (none, r) := by
  intro n
  induction n with
  | zero => intro v0 v1 v2 v3 s0 r h; cases (show (none : Option p_Hp) = some r from h)
  | succ n ih => intro v0 v1 v2 v3 s0 r h; exact tL_Mo_copyRule_33 K l _ ih v0 v1 v2 v3 s0 r h
set_option maxRecDepth 100000 in
set_option maxHeartbeats 4000000 in
theorem tF_Mo_copyRule (K : p_K) (l : Launch) (v0 : Nat) (v1 : Int) (v2 : Int) (s0 : p_Hp) (r : p_Hp) (h : F_Mo_copyRule v0 v1 v2 s0 = some r) : p_Ct K l m_Mo_copyRule [p_r v0, p_i v1, p_i v2] s0 (none, r) := by
  refine p_Ct.of (by decide +kernel) (Nat.le_of_ble_eq_true rfl) ?_
  unfold F_Mo_copyRule at h
  show p_Go K l m_Mo_copyRule 0 [(0, p_r v0), (1, p_i v1), (2, p_i v2)] [] s0 _
  refine g_aload_n (i := 0) (j := 0) (dk_Mo_copyRule 0 rfl) rfl rfl ?_
  obtain ⟨c1, h⟩ := p_gdE h
  refine g_getR fl_Mo_144 (Or.inr ⟨_, rfl⟩) (dk_Mo_copyRule 1 rfl) c1 ?_
  refine g_iload_n (i := 2) (j := 2) (dk_Mo_copyRule 2 rfl) rfl rfl ?_
  refine g_aload_n (i := 0) (j := 0) (dk_Mo_copyRule 3 rfl) rfl rfl ?_
  refine g_getR fl_Mo_144 (Or.inr ⟨_, rfl⟩) (dk_Mo_copyRule 4 rfl) c1 ?_
  refine g_iload_n (i := 1) (j := 1) (dk_Mo_copyRule 5 rfl) rfl rfl ?_
  obtain ⟨c2, h⟩ := p_gdE h
  obtain ⟨c3, h⟩ := p_gdE h
  refine g_iaload (dk_Mo_copyRule 6 rfl) c2 c3.1 c3.2 ?_
  obtain ⟨c4, h⟩ := p_gdE h
  refine g_iastore (dk_Mo_copyRule 7 rfl) c2 c4.1 c4.2 ?_
  refine p_ltS (P := fun q => p_Go K l m_Mo_copyRule 12 [(0, p_r v0), (1, p_i v1), (2, p_i v2)] [] q _) (p_xZ _ _ _ _) ?_ h
  intro s5 hs6 h
  refine g_aload_n (i := 0) (j := 0) (dk_Mo_copyRule 8 rfl) rfl rfl ?_
  refine g_getR fl_Mo_147 (Or.inr ⟨_, rfl⟩) (dk_Mo_copyRule 9 rfl) (c1.up hs6) ?_
  refine g_iload_n (i := 2) (j := 2) (dk_Mo_copyRule 10 rfl) rfl rfl ?_
  refine g_aload_n (i := 0) (j := 0) (dk_Mo_copyRule 11 rfl) rfl rfl ?_
  refine g_getR fl_Mo_147 (Or.inr ⟨_, rfl⟩) (dk_Mo_copyRule 12 rfl) (c1.up hs6) ?_
  refine g_iload_n (i := 1) (j := 1) (dk_Mo_copyRule 13 rfl) rfl rfl ?_
  obtain ⟨c7, h⟩ := p_gdE h
  obtain ⟨c8, h⟩ := p_gdE h
  refine g_iaload (dk_Mo_copyRule 14 rfl) c7 c8.1 c8.2 ?_
  obtain ⟨c9, h⟩ := p_gdE h
  refine g_iastore (dk_Mo_copyRule 15 rfl) c7 c9.1 c9.2 ?_
  refine p_ltS (P := fun q => p_Go K l m_Mo_copyRule 24 [(0, p_r v0), (1, p_i v1), (2, p_i v2)] [] q _) (p_xZ _ _ _ _) ?_ h
  intro s10 hs11 h
  refine g_aload_n (i := 0) (j := 0) (dk_Mo_copyRule 16 rfl) rfl rfl ?_
  refine g_getR fl_Mo_150 (Or.inr ⟨_, rfl⟩) (dk_Mo_copyRule 17 rfl) (c1.up (hs6.trans hs11)) ?_
  refine g_iload_n (i := 2) (j := 2) (dk_Mo_copyRule 18 rfl) rfl rfl ?_
  refine g_iconst (dk_Mo_copyRule 19 rfl) (by decide) ?_
  obtain ⟨c12, h⟩ := p_gdE h
  obtain ⟨c13, h⟩ := p_gdE h
  refine g_iastore (dk_Mo_copyRule 20 rfl) c12 c13.1 c13.2 ?_
  refine p_ltS (P := fun q => p_Go K l m_Mo_copyRule 31 [(0, p_r v0), (1, p_i v1), (2, p_i v2)] [] q _) (p_xZ _ _ _ _) ?_ h
  intro s14 hs15 h
  refine g_iconst (dk_Mo_copyRule 21 rfl) (by decide) ?_
  refine g_istore_n (i := 3) [(3, p_i 0), (0, p_r v0), (1, p_i v1), (2, p_i v2)] (dk_Mo_copyRule 22 rfl) rfl (by decide) rfl ?_
  refine g_sub [(0, p_r v0), (1, p_i v1), (2, p_i v2), (3, p_i 0)] [1, 2, 3, 0] rfl ?_
  exact tO_Mo_copyRule_33 K l 3000 v0 v1 v2 0 s14 _ h
def m_Mo_copy : p_Me := (⟨"SortWorksModel", "copy", "(I)I"⟩, prog_13_method_24_code, 4, (some .int), 4, 85)
theorem mt_Mo_copy : p_Mt m_Mo_copy 1 := ⟨p_mem (p_tb7 (List.mem_of_getElem? (i := 141) rfl)) rfl, tw_1_12, by decide +kernel, by decide +kernel, by decide +kernel⟩
def dt_Mo_copy : List (Nat × Instr × Nat) := [(0, .iload_n 1, 1), (1, .i2l, 1), (2, .lconst 0, 1), (3, .ldc2_w 238, 3), (6, .invokestatic 230, 3), (9, .ifCond .eq 9, 3), (12, .aload_n 0, 1), (13, .iconst (-1), 1), (14, .invokevirtual 240, 3), (17, .ireturn, 1), (18, .aload_n 0, 1), (19, .getfield 7, 3), (22, .aload_n 0, 1), (23, .getfield 227, 3), (26, .iaload, 1), (27, .ifCond .le 10, 3), (30, .aload_n 0, 1), (31, .bipush (-3), 2), (33, .invokevirtual 240, 3), (36, .ireturn, 1), (37, .iconst 0, 1), (38, .istore_n 2, 1), (39, .iload_n 2, 1), (40, .aload_n 0, 1), (41, .getfield 7, 3), (44, .iload_n 1, 1), (45, .iaload, 1), (46, .if_icmp .ge 24, 3), (49, .aload_n 0, 1), (50, .bipush 40, 2), (52, .iload_n 1, 1), (53, .imul, 1), (54, .iload_n 2, 1), (55, .iadd, 1), (56, .aload_n 0, 1), (57, .iload_n 2, 1), (58, .invokevirtual 257, 3), (61, .invokevirtual 285, 3), (64, .iinc 2 1, 3), (67, .goto (-28), 3), (70, .aload_n 0, 1), (71, .getfield 7, 3), (74, .aload_n 0, 1), (75, .getfield 227, 3), (78, .aload_n 0, 1), (79, .getfield 7, 3), (82, .iload_n 1, 1), (83, .iaload, 1), (84, .iastore, 1), (85, .aload_n 0, 1), (86, .getfield 141, 3), (89, .aload_n 0, 1), (90, .getfield 227, 3), (93, .aload_n 0, 1), (94, .getfield 141, 3), (97, .iload_n 1, 1), (98, .iaload, 1), (99, .iastore, 1), (100, .iconst 0, 1), (101, .istore_n 2, 1), (102, .iload_n 2, 1), (103, .aload_n 0, 1), (104, .getfield 141, 3), (107, .iload_n 1, 1), (108, .iaload, 1), (109, .if_icmp .ge 28, 3), (112, .aload_n 0, 1), (113, .bipush 12, 2), (115, .iload_n 1, 1), (116, .imul, 1), (117, .iload_n 2, 1), (118, .iadd, 1), (119, .bipush 12, 2), (121, .aload_n 0, 1), (122, .getfield 227, 3), (125, .imul, 1), (126, .iload_n 2, 1), (127, .iadd, 1), (128, .invokevirtual 288, 3), (131, .iinc 2 1, 3), (134, .goto (-32), 3), (137, .aload_n 0, 1), (138, .getfield 165, 3), (141, .aload_n 0, 1), (142, .getfield 227, 3), (145, .aload_n 0, 1), (146, .getfield 165, 3), (149, .iload_n 1, 1), (150, .iaload, 1), (151, .iastore, 1), (152, .iconst 0, 1), (153, .istore_n 2, 1), (154, .iload_n 2, 1), (155, .bipush 16, 2), (157, .if_icmp .ge 80, 3), (160, .aload_n 0, 1), (161, .getfield 168, 3), (164, .bipush 16, 2), (166, .aload_n 0, 1), (167, .getfield 227, 3), (170, .imul, 1), (171, .iload_n 2, 1), (172, .iadd, 1), (173, .aload_n 0, 1), (174, .getfield 168, 3), (177, .bipush 16, 2), (179, .iload_n 1, 1), (180, .imul, 1), (181, .iload_n 2, 1), (182, .iadd, 1), (183, .iaload, 1), (184, .iastore, 1), (185, .iconst 0, 1), (186, .istore_n 3, 1), (187, .iload_n 3, 1), (188, .iconst 4, 1), (189, .if_icmp .ge 42, 3), (192, .aload_n 0, 1), (193, .getfield 171, 3), (196, .bipush 64, 2), (198, .aload_n 0, 1), (199, .getfield 227, 3), (202, .imul, 1), (203, .iconst 4, 1), (204, .iload_n 2, 1), (205, .imul, 1), (206, .iadd, 1), (207, .iload_n 3, 1), (208, .iadd, 1), (209, .aload_n 0, 1), (210, .getfield 171, 3), (213, .bipush 64, 2), (215, .iload_n 1, 1), (216, .imul, 1), (217, .iconst 4, 1), (218, .iload_n 2, 1), (219, .imul, 1), (220, .iadd, 1), (221, .iload_n 3, 1), (222, .iadd, 1), (223, .iaload, 1), (224, .iastore, 1), (225, .iinc 3 1, 3), (228, .goto (-41), 3), (231, .iinc 2 1, 3), (234, .goto (-80), 3), (237, .aload_n 0, 1), (238, .aload_n 0, 1), (239, .getfield 7, 3), (242, .aload_n 0, 1), (243, .getfield 227, 3), (246, .iaload, 1), (247, .invokevirtual 264, 3), (250, .ireturn, 1)]
theorem dk_Mo_copy (i : Nat) {pc : Nat} {ins : Instr} {len : Nat} (h : dt_Mo_copy[i]? = some (pc, ins, len)) : decode m_Mo_copy.2.1 pc = .ok (ins, len) := p_dk (b := m_Mo_copy.2.1) (t := dt_Mo_copy) (by decide +kernel) i h
def L_Mo_copy_187 (k154 : Nat → Int → Int → p_Hp → Option (Int × p_Hp)) (k187 : Nat → Int → Int → Int → p_Hp → Option (Int × p_Hp)) (v0 : Nat) (v1 : Int) (v2 : Int) (v3 : Int) (s0 : p_Hp) : Option (Int × p_Hp) :=
  if 4 ≤ v3 then
    p_bi (p_w (v2 + 1)) fun x2 =>
    k154 v0 v1 x2 s0
  else
    p_gd (p_is s0 v0 11) <|
    p_gd (p_is s0 (p_R s0 v0 58) 100) <|
    p_gd ((0 : Int) ≤ (p_w ((p_w ((p_w (64 * v1)) + (p_w (4 * v2)))) + v3)) ∧ (p_w ((p_w ((p_w (64 * v1)) + (p_w (4 * v2)))) + v3)) < (p_L s0 (p_R s0 v0 58) : Int)) <|
    p_gd ((0 : Int) ≤ (p_w ((p_w ((p_w (64 * (p_Z s0 v0 0))) + (p_w (4 * v2)))) + v3)) ∧ (p_w ((p_w ((p_w (64 * (p_Z s0 v0 0))) + (p_w (4 * v2)))) + v3)) < (p_L s0 (p_R s0 v0 58) : Int)) <|
    p_bi (p_wZ s0 (p_R s0 v0 58) ((p_w ((p_w ((p_w (64 * (p_Z s0 v0 0))) + (p_w (4 * v2)))) + v3)) : Int).toNat (p_Z s0 (p_R s0 v0 58) ((p_w ((p_w ((p_w (64 * v1)) + (p_w (4 * v2)))) + v3)) : Int).toNat)) fun s7 =>
    p_bi (p_w (v3 + 1)) fun x9 =>
    k187 v0 v1 v2 x9 s7
def O_Mo_copy_187 (k154 : Nat → Int → Int → p_Hp → Option (Int × p_Hp)) : Nat → Nat → Int → Int → Int → p_Hp → Option (Int × p_Hp)
  | 0 => fun _ _ _ _ _ => none
  | n + 1 => L_Mo_copy_187 k154 (O_Mo_copy_187 k154 n)
def L_Mo_copy_154 (k154 : Nat → Int → Int → p_Hp → Option (Int × p_Hp)) (v0 : Nat) (v1 : Int) (v2 : Int) (s0 : p_Hp) : Option (Int × p_Hp) :=
  if 16 ≤ v2 then
    p_gd (p_is s0 v0 11) <|
    p_gd (p_is s0 (p_R s0 v0 3) 100) <|
    p_gd ((0 : Int) ≤ (p_Z s0 v0 0) ∧ (p_Z s0 v0 0) < (p_L s0 (p_R s0 v0 3) : Int)) <|
    p_bd (F_Mo_built v0 (p_Z s0 (p_R s0 v0 3) ((p_Z s0 v0 0) : Int).toNat) s0) fun r9 s5 =>
    some (r9, s5)
  else
    p_gd (p_is s0 v0 11) <|
    p_gd (p_is s0 (p_R s0 v0 57) 100) <|
    p_gd ((0 : Int) ≤ (p_w ((p_w (16 * v1)) + v2)) ∧ (p_w ((p_w (16 * v1)) + v2)) < (p_L s0 (p_R s0 v0 57) : Int)) <|
    p_gd ((0 : Int) ≤ (p_w ((p_w (16 * (p_Z s0 v0 0))) + v2)) ∧ (p_w ((p_w (16 * (p_Z s0 v0 0))) + v2)) < (p_L s0 (p_R s0 v0 57) : Int)) <|
    p_bi (p_wZ s0 (p_R s0 v0 57) ((p_w ((p_w (16 * (p_Z s0 v0 0))) + v2)) : Int).toNat (p_Z s0 (p_R s0 v0 57) ((p_w ((p_w (16 * v1)) + v2)) : Int).toNat)) fun s14 =>
    O_Mo_copy_187 k154 3000 v0 v1 v2 0 s14
def O_Mo_copy_154  : Nat → Nat → Int → Int → p_Hp → Option (Int × p_Hp)
  | 0 => fun _ _ _ _ => none
  | n + 1 => L_Mo_copy_154 (O_Mo_copy_154 n)
def L_Mo_copy_102 (k102 : Nat → Int → Int → p_Hp → Option (Int × p_Hp)) (v0 : Nat) (v1 : Int) (v2 : Int) (s0 : p_Hp) : Option (Int × p_Hp) :=
  p_gd (p_is s0 v0 11) <|
  p_gd (p_is s0 (p_R s0 v0 48) 100) <|
  p_gd ((0 : Int) ≤ v1 ∧ v1 < (p_L s0 (p_R s0 v0 48) : Int)) <|
  if (p_Z s0 (p_R s0 v0 48) (v1 : Int).toNat) ≤ v2 then
    p_gd (p_is s0 (p_R s0 v0 56) 100) <|
    p_gd ((0 : Int) ≤ v1 ∧ v1 < (p_L s0 (p_R s0 v0 56) : Int)) <|
    p_gd ((0 : Int) ≤ (p_Z s0 v0 0) ∧ (p_Z s0 v0 0) < (p_L s0 (p_R s0 v0 56) : Int)) <|
    p_bi (p_wZ s0 (p_R s0 v0 56) ((p_Z s0 v0 0) : Int).toNat (p_Z s0 (p_R s0 v0 56) (v1 : Int).toNat)) fun s8 =>
    O_Mo_copy_154 3000 v0 v1 0 s8
  else
    p_bv (F_Mo_copyRule v0 (p_w ((p_w (12 * v1)) + v2)) (p_w ((p_w (12 * (p_Z s0 v0 0))) + v2)) s0) fun s10 =>
    p_bi (p_w (v2 + 1)) fun x14 =>
    k102 v0 v1 x14 s10
def O_Mo_copy_102  : Nat → Nat → Int → Int → p_Hp → Option (Int × p_Hp)
  | 0 => fun _ _ _ _ => none
  | n + 1 => L_Mo_copy_102 (O_Mo_copy_102 n)
def L_Mo_copy_39 (k39 : Nat → Int → Int → p_Hp → Option (Int × p_Hp)) (v0 : Nat) (v1 : Int) (v2 : Int) (s0 : p_Hp) : Option (Int × p_Hp) :=
  p_gd (p_is s0 v0 11) <|
  p_gd (p_is s0 (p_R s0 v0 3) 100) <|
  p_gd ((0 : Int) ≤ v1 ∧ v1 < (p_L s0 (p_R s0 v0 3) : Int)) <|
  if (p_Z s0 (p_R s0 v0 3) (v1 : Int).toNat) ≤ v2 then
    p_gd ((0 : Int) ≤ v1 ∧ v1 < (p_L s0 (p_R s0 v0 3) : Int)) <|
    p_gd ((0 : Int) ≤ (p_Z s0 v0 0) ∧ (p_Z s0 v0 0) < (p_L s0 (p_R s0 v0 3) : Int)) <|
    p_bi (p_wZ s0 (p_R s0 v0 3) ((p_Z s0 v0 0) : Int).toNat (p_Z s0 (p_R s0 v0 3) (v1 : Int).toNat)) fun s7 =>
    p_gd (p_is s7 (p_R s7 v0 48) 100) <|
    p_gd ((0 : Int) ≤ v1 ∧ v1 < (p_L s7 (p_R s7 v0 48) : Int)) <|
    p_gd ((0 : Int) ≤ (p_Z s7 v0 0) ∧ (p_Z s7 v0 0) < (p_L s7 (p_R s7 v0 48) : Int)) <|
    p_bi (p_wZ s7 (p_R s7 v0 48) ((p_Z s7 v0 0) : Int).toNat (p_Z s7 (p_R s7 v0 48) (v1 : Int).toNat)) fun s12 =>
    O_Mo_copy_102 3000 v0 v1 0 s12
  else
    p_bd (F_Mo_g v0 v2 s0) fun r18 s14 =>
    p_bv (F_Mo_copyGear v0 (p_w ((p_w (40 * v1)) + v2)) r18 s14) fun s19 =>
    p_bi (p_w (v2 + 1)) fun x23 =>
    k39 v0 v1 x23 s19
def O_Mo_copy_39  : Nat → Nat → Int → Int → p_Hp → Option (Int × p_Hp)
  | 0 => fun _ _ _ _ => none
  | n + 1 => L_Mo_copy_39 (O_Mo_copy_39 n)
def F_Mo_copy (v0 : Nat) (v1 : Int) (s0 : p_Hp) : Option (Int × p_Hp) :=
  p_bd (F_Mo_beyond v1 0 2 s0) fun r5 s1 =>
  if r5 = 0 then
    p_gd (p_is s1 v0 11) <|
    p_gd (p_is s1 (p_R s1 v0 3) 100) <|
    p_gd ((0 : Int) ≤ (p_Z s1 v0 0) ∧ (p_Z s1 v0 0) < (p_L s1 (p_R s1 v0 3) : Int)) <|
    if (p_Z s1 (p_R s1 v0 3) ((p_Z s1 v0 0) : Int).toNat) ≤ 0 then
      O_Mo_copy_39 3000 v0 v1 0 s1
    else
      p_bd (F_Mo_refused v0 (-3) s1) fun r15 s11 =>
      some (r15, s11)
  else
    p_gd (p_is s1 v0 11) <|
    p_bd (F_Mo_refused v0 (-1) s1) fun r21 s17 =>
    some (r21, s17)
set_option maxRecDepth 100000 in
set_option maxHeartbeats 4000000 in
theorem tL_Mo_copy_187 (K : p_K) (l : Launch) (k154 : Nat → Int → Int → p_Hp → Option (Int × p_Hp)) (hk154 : ∀ (v0 : Nat) (v1 : Int) (v2 : Int)  (s0 : p_Hp) (r : (Int × p_Hp)), k154 v0 v1 v2 s0 = some r → p_Go K l m_Mo_copy 154 [(0, p_r v0), (1, p_i v1), (2, p_i v2)] [] s0 (some (p_i r.1), r.2)) (k187 : Nat → Int → Int → Int → p_Hp → Option (Int × p_Hp)) (hk187 : ∀ (v0 : Nat) (v1 : Int) (v2 : Int) (v3 : Int)  (s0 : p_Hp) (r : (Int × p_Hp)), k187 v0 v1 v2 v3 s0 = some r → p_Go K l m_Mo_copy 187 [(0, p_r v0), (1, p_i v1), (2, p_i v2), (3, p_i v3)] [] s0 (some (p_i r.1), r.2)) (v0 : Nat) (v1 : Int) (v2 : Int) (v3 : Int) (s0 : p_Hp) (r : (Int × p_Hp)) (h : L_Mo_copy_187 k154 k187 v0 v1 v2 v3 s0 = some r) : p_Go K l m_Mo_copy 187 [(0, p_r v0), (1, p_i v1), (2, p_i v2), (3, p_i v3)] [] s0 (some (p_i r.1), r.2) := by
  unfold L_Mo_copy_187 at h
  refine g_iload_n (i := 3) (j := 3) (dk_Mo_copy 114 rfl) rfl rfl ?_
  refine g_iconst (dk_Mo_copy 115 rfl) (by decide) ?_
  refine g_icmp_ge 231 (dk_Mo_copy 116 rfl) (by decide) (fun b1 => ?_) (fun b1 => ?_)
  · have h := p_ifT b1 h
    refine g_iinc (j := 2) [(2, p_i (p_w (v2 + 1))), (0, p_r v0), (1, p_i v1), (3, p_i v3)] (dk_Mo_copy 144 rfl) rfl (by decide) rfl ?_
    refine p_ltG (P := fun q => p_Go K l m_Mo_copy 234 [(2, p_i q), (0, p_r v0), (1, p_i v1), (3, p_i v3)] [] s0 _) ?_ h
    intro x2 h
    refine g_goto 154 (dk_Mo_copy 145 rfl) (by decide) ?_
    refine g_sub [(0, p_r v0), (1, p_i v1), (2, p_i x2)] [1, 2, 0] rfl ?_
    exact hk154 v0 v1 x2 s0 _ h
  · have h := p_ifF b1 h
    refine g_aload_n (i := 0) (j := 0) (dk_Mo_copy 117 rfl) rfl rfl ?_
    obtain ⟨c3, h⟩ := p_gdE h
    refine g_getR fl_Mo_171 (Or.inr ⟨_, rfl⟩) (dk_Mo_copy 118 rfl) c3 ?_
    refine g_bipush (dk_Mo_copy 119 rfl) (by decide +kernel) (by decide) ?_
    refine g_aload_n (i := 0) (j := 0) (dk_Mo_copy 120 rfl) rfl rfl ?_
    refine g_getI fl_Mo_227 (Or.inl rfl) (dk_Mo_copy 121 rfl) c3 ?_
    refine g_imul (dk_Mo_copy 122 rfl) ?_
    refine g_iconst (dk_Mo_copy 123 rfl) (by decide) ?_
    refine g_iload_n (i := 2) (j := 2) (dk_Mo_copy 124 rfl) rfl rfl ?_
    refine g_imul (dk_Mo_copy 125 rfl) ?_
    refine g_iadd (dk_Mo_copy 126 rfl) ?_
    refine g_iload_n (i := 3) (j := 3) (dk_Mo_copy 127 rfl) rfl rfl ?_
    refine g_iadd (dk_Mo_copy 128 rfl) ?_
    refine g_aload_n (i := 0) (j := 0) (dk_Mo_copy 129 rfl) rfl rfl ?_
    refine g_getR fl_Mo_171 (Or.inr ⟨_, rfl⟩) (dk_Mo_copy 130 rfl) c3 ?_
    refine g_bipush (dk_Mo_copy 131 rfl) (by decide +kernel) (by decide) ?_
    refine g_iload_n (i := 1) (j := 1) (dk_Mo_copy 132 rfl) rfl rfl ?_
    refine g_imul (dk_Mo_copy 133 rfl) ?_
    refine g_iconst (dk_Mo_copy 134 rfl) (by decide) ?_
    refine g_iload_n (i := 2) (j := 2) (dk_Mo_copy 135 rfl) rfl rfl ?_
    refine g_imul (dk_Mo_copy 136 rfl) ?_
    refine g_iadd (dk_Mo_copy 137 rfl) ?_
    refine g_iload_n (i := 3) (j := 3) (dk_Mo_copy 138 rfl) rfl rfl ?_
    refine g_iadd (dk_Mo_copy 139 rfl) ?_
    obtain ⟨c4, h⟩ := p_gdE h
    obtain ⟨c5, h⟩ := p_gdE h
    refine g_iaload (dk_Mo_copy 140 rfl) c4 c5.1 c5.2 ?_
    obtain ⟨c6, h⟩ := p_gdE h
    refine g_iastore (dk_Mo_copy 141 rfl) c4 c6.1 c6.2 ?_
    refine p_ltS (P := fun q => p_Go K l m_Mo_copy 225 [(0, p_r v0), (1, p_i v1), (2, p_i v2), (3, p_i v3)] [] q _) (p_xZ _ _ _ _) ?_ h
    intro s7 hs8 h
    refine g_iinc (j := 3) [(3, p_i (p_w (v3 + 1))), (0, p_r v0), (1, p_i v1), (2, p_i v2)] (dk_Mo_copy 142 rfl) rfl (by decide) rfl ?_
    refine p_ltG (P := fun q => p_Go K l m_Mo_copy 228 [(3, p_i q), (0, p_r v0), (1, p_i v1), (2, p_i v2)] [] s7 _) ?_ h
    intro x9 h
    refine g_goto 187 (dk_Mo_copy 143 rfl) (by decide) ?_
    refine g_sub [(0, p_r v0), (1, p_i v1), (2, p_i v2), (3, p_i x9)] [1, 2, 3, 0] rfl ?_
    exact hk187 v0 v1 v2 x9 s7 _ h
set_option maxRecDepth 100000 in
set_option maxHeartbeats 4000000 in
theorem tO_Mo_copy_187 (K : p_K) (l : Launch) (k154 : Nat → Int → Int → p_Hp → Option (Int × p_Hp)) (hk154 : ∀ (v0 : Nat) (v1 : Int) (v2 : Int)  (s0 : p_Hp) (r : (Int × p_Hp)), k154 v0 v1 v2 s0 = some r → p_Go K l m_Mo_copy 154 [(0, p_r v0), (1, p_i v1), (2, p_i v2)] [] s0 (some (p_i r.1), r.2)) : ∀ (n : Nat) (v0 : Nat) (v1 : Int) (v2 : Int) (v3 : Int) (s0 : p_Hp) (r : (Int × p_Hp)), O_Mo_copy_187 k154 n v0 v1 v2 v3 s0 = some r → p_Go K l m_Mo_copy 187 [(0, p_r v0), (1, p_i v1), (2, p_i v2), (3, p_i v3)] [] s0 (some (p_i r.1), r.2) := by
  intro n
  induction n with
  | zero => intro v0 v1 v2 v3 s0 r h; cases (show (none : Option (Int × p_Hp)) = some r from h)
  | succ n ih => intro v0 v1 v2 v3 s0 r h; exact tL_Mo_copy_187 K l k154 hk154 _ ih v0 v1 v2 v3 s0 r h
set_option maxRecDepth 100000 in
set_option maxHeartbeats 4000000 in
theorem tL_Mo_copy_154 (K : p_K) (l : Launch) (k154 : Nat → Int → Int → p_Hp → Option (Int × p_Hp)) (hk154 : ∀ (v0 : Nat) (v1 : Int) (v2 : Int)  (s0 : p_Hp) (r : (Int × p_Hp)), k154 v0 v1 v2 s0 = some r → p_Go K l m_Mo_copy 154 [(0, p_r v0), (1, p_i v1), (2, p_i v2)] [] s0 (some (p_i r.1), r.2)) (v0 : Nat) (v1 : Int) (v2 : Int) (s0 : p_Hp) (r : (Int × p_Hp)) (h : L_Mo_copy_154 k154 v0 v1 v2 s0 = some r) : p_Go K l m_Mo_copy 154 [(0, p_r v0), (1, p_i v1), (2, p_i v2)] [] s0 (some (p_i r.1), r.2) := by
  unfold L_Mo_copy_154 at h
  refine g_iload_n (i := 2) (j := 2) (dk_Mo_copy 92 rfl) rfl rfl ?_
  refine g_bipush (dk_Mo_copy 93 rfl) (by decide +kernel) (by decide) ?_
  refine g_icmp_ge 237 (dk_Mo_copy 94 rfl) (by decide) (fun b1 => ?_) (fun b1 => ?_)
  · have h := p_ifT b1 h
    refine g_aload_n (i := 0) (j := 0) (dk_Mo_copy 146 rfl) rfl rfl ?_
    refine g_aload_n (i := 0) (j := 0) (dk_Mo_copy 147 rfl) rfl rfl ?_
    obtain ⟨c2, h⟩ := p_gdE h
    refine g_getR fl_Mo_7 (Or.inr ⟨_, rfl⟩) (dk_Mo_copy 148 rfl) c2 ?_
    refine g_aload_n (i := 0) (j := 0) (dk_Mo_copy 149 rfl) rfl rfl ?_
    refine g_getI fl_Mo_227 (Or.inl rfl) (dk_Mo_copy 150 rfl) c2 ?_
    obtain ⟨c3, h⟩ := p_gdE h
    obtain ⟨c4, h⟩ := p_gdE h
    refine g_iaload (dk_Mo_copy 151 rfl) c3 c4.1 c4.2 ?_
    obtain ⟨r9, s5, q6, h⟩ := p_bdE h
    have t7 := tF_Mo_built K l v0 (p_Z s0 (p_R s0 v0 3) ((p_Z s0 v0 0) : Int).toNat) s0 _ q6
    refine g_callV (a := v0) (ci := 11) (q0 := (RX11, TX11, 90)) (As := [p_i (p_Z s0 (p_R s0 v0 3) ((p_Z s0 v0 0) : Int).toNat)]) (rest := []) [p_i r9] mt_Mo_built rfl rfl tw_7_98 ts_47 tw_7_96 ⟨Nat.le_of_ble_eq_true rfl, Nat.le_of_ble_eq_true rfl⟩ rfl (Nat.le_of_ble_eq_true rfl) (dk_Mo_copy 152 rfl) rfl c2 rfl t7 ?_
    have hs8 : p_x s0 s5 := t7.1
    show p_Go K l m_Mo_copy 250 [(0, p_r v0), (1, p_i v1), (2, p_i v2)] [p_i r9] s5 _
    cases h
    exact g_ret rfl rfl (dk_Mo_copy 153 rfl) (fun os => ⟨_, rfl, p_okh os⟩)
  · have h := p_ifF b1 h
    refine g_aload_n (i := 0) (j := 0) (dk_Mo_copy 95 rfl) rfl rfl ?_
    obtain ⟨c10, h⟩ := p_gdE h
    refine g_getR fl_Mo_168 (Or.inr ⟨_, rfl⟩) (dk_Mo_copy 96 rfl) c10 ?_
    refine g_bipush (dk_Mo_copy 97 rfl) (by decide +kernel) (by decide) ?_
    refine g_aload_n (i := 0) (j := 0) (dk_Mo_copy 98 rfl) rfl rfl ?_
    refine g_getI fl_Mo_227 (Or.inl rfl) (dk_Mo_copy 99 rfl) c10 ?_
    refine g_imul (dk_Mo_copy 100 rfl) ?_
    refine g_iload_n (i := 2) (j := 2) (dk_Mo_copy 101 rfl) rfl rfl ?_
    refine g_iadd (dk_Mo_copy 102 rfl) ?_
    refine g_aload_n (i := 0) (j := 0) (dk_Mo_copy 103 rfl) rfl rfl ?_
    refine g_getR fl_Mo_168 (Or.inr ⟨_, rfl⟩) (dk_Mo_copy 104 rfl) c10 ?_
    refine g_bipush (dk_Mo_copy 105 rfl) (by decide +kernel) (by decide) ?_
    refine g_iload_n (i := 1) (j := 1) (dk_Mo_copy 106 rfl) rfl rfl ?_
    refine g_imul (dk_Mo_copy 107 rfl) ?_
    refine g_iload_n (i := 2) (j := 2) (dk_Mo_copy 108 rfl) rfl rfl ?_
    refine g_iadd (dk_Mo_copy 109 rfl) ?_
    obtain ⟨c11, h⟩ := p_gdE h
    obtain ⟨c12, h⟩ := p_gdE h
    refine g_iaload (dk_Mo_copy 110 rfl) c11 c12.1 c12.2 ?_
    obtain ⟨c13, h⟩ := p_gdE h
    refine g_iastore (dk_Mo_copy 111 rfl) c11 c13.1 c13.2 ?_
    refine p_ltS (P := fun q => p_Go K l m_Mo_copy 185 [(0, p_r v0), (1, p_i v1), (2, p_i v2)] [] q _) (p_xZ _ _ _ _) ?_ h
    intro s14 hs15 h
    refine g_iconst (dk_Mo_copy 112 rfl) (by decide) ?_
    refine g_istore_n (i := 3) [(3, p_i 0), (0, p_r v0), (1, p_i v1), (2, p_i v2)] (dk_Mo_copy 113 rfl) rfl (by decide) rfl ?_
    refine g_sub [(0, p_r v0), (1, p_i v1), (2, p_i v2), (3, p_i 0)] [1, 2, 3, 0] rfl ?_
    exact tO_Mo_copy_187 K l k154 hk154 3000 v0 v1 v2 0 s14 _ h
set_option maxRecDepth 100000 in
set_option maxHeartbeats 4000000 in
theorem tO_Mo_copy_154 (K : p_K) (l : Launch)  : ∀ (n : Nat) (v0 : Nat) (v1 : Int) (v2 : Int) (s0 : p_Hp) (r : (Int × p_Hp)), O_Mo_copy_154 n v0 v1 v2 s0 = some r → p_Go K l m_Mo_copy 154 [(0, p_r v0), (1, p_i v1), (2, p_i v2)] [] s0 (some (p_i r.1), r.2) := by
  intro n
  induction n with
  | zero => intro v0 v1 v2 s0 r h; cases (show (none : Option (Int × p_Hp)) = some r from h)
  | succ n ih => intro v0 v1 v2 s0 r h; exact tL_Mo_copy_154 K l _ ih v0 v1 v2 s0 r h
set_option maxRecDepth 100000 in
set_option maxHeartbeats 4000000 in
theorem tL_Mo_copy_102 (K : p_K) (l : Launch) (k102 : Nat → Int → Int → p_Hp → Option (Int × p_Hp)) (hk102 : ∀ (v0 : Nat) (v1 : Int) (v2 : Int)  (s0 : p_Hp) (r : (Int × p_Hp)), k102 v0 v1 v2 s0 = some r → p_Go K l m_Mo_copy 102 [(0, p_r v0), (1, p_i v1), (2, p_i v2)] [] s0 (some (p_i r.1), r.2)) (v0 : Nat) (v1 : Int) (v2 : Int) (s0 : p_Hp) (r : (Int × p_Hp)) (h : L_Mo_copy_102 k102 v0 v1 v2 s0 = some r) : p_Go K l m_Mo_copy 102 [(0, p_r v0), (1, p_i v1), (2, p_i v2)] [] s0 (some (p_i r.1), r.2) := by
  unfold L_Mo_copy_102 at h
  refine g_iload_n (i := 2) (j := 2) (dk_Mo_copy 60 rfl) rfl rfl ?_
  refine g_aload_n (i := 0) (j := 0) (dk_Mo_copy 61 rfl) rfl rfl ?_
  obtain ⟨c1, h⟩ := p_gdE h
  refine g_getR fl_Mo_141 (Or.inr ⟨_, rfl⟩) (dk_Mo_copy 62 rfl) c1 ?_
  refine g_iload_n (i := 1) (j := 1) (dk_Mo_copy 63 rfl) rfl rfl ?_
  obtain ⟨c2, h⟩ := p_gdE h
  obtain ⟨c3, h⟩ := p_gdE h
  refine g_iaload (dk_Mo_copy 64 rfl) c2 c3.1 c3.2 ?_
  refine g_icmp_ge 137 (dk_Mo_copy 65 rfl) (by decide) (fun b4 => ?_) (fun b4 => ?_)
  · have h := p_ifT b4 h
    refine g_aload_n (i := 0) (j := 0) (dk_Mo_copy 81 rfl) rfl rfl ?_
    refine g_getR fl_Mo_165 (Or.inr ⟨_, rfl⟩) (dk_Mo_copy 82 rfl) c1 ?_
    refine g_aload_n (i := 0) (j := 0) (dk_Mo_copy 83 rfl) rfl rfl ?_
    refine g_getI fl_Mo_227 (Or.inl rfl) (dk_Mo_copy 84 rfl) c1 ?_
    refine g_aload_n (i := 0) (j := 0) (dk_Mo_copy 85 rfl) rfl rfl ?_
    refine g_getR fl_Mo_165 (Or.inr ⟨_, rfl⟩) (dk_Mo_copy 86 rfl) c1 ?_
    refine g_iload_n (i := 1) (j := 1) (dk_Mo_copy 87 rfl) rfl rfl ?_
    obtain ⟨c5, h⟩ := p_gdE h
    obtain ⟨c6, h⟩ := p_gdE h
    refine g_iaload (dk_Mo_copy 88 rfl) c5 c6.1 c6.2 ?_
    obtain ⟨c7, h⟩ := p_gdE h
    refine g_iastore (dk_Mo_copy 89 rfl) c5 c7.1 c7.2 ?_
    refine p_ltS (P := fun q => p_Go K l m_Mo_copy 152 [(0, p_r v0), (1, p_i v1), (2, p_i v2)] [] q _) (p_xZ _ _ _ _) ?_ h
    intro s8 hs9 h
    refine g_iconst (dk_Mo_copy 90 rfl) (by decide) ?_
    refine g_istore_n (i := 2) [(2, p_i 0), (0, p_r v0), (1, p_i v1)] (dk_Mo_copy 91 rfl) rfl (by decide) rfl ?_
    refine g_sub [(0, p_r v0), (1, p_i v1), (2, p_i 0)] [1, 2, 0] rfl ?_
    exact tO_Mo_copy_154 K l 3000 v0 v1 0 s8 _ h
  · have h := p_ifF b4 h
    refine g_aload_n (i := 0) (j := 0) (dk_Mo_copy 66 rfl) rfl rfl ?_
    refine g_bipush (dk_Mo_copy 67 rfl) (by decide +kernel) (by decide) ?_
    refine g_iload_n (i := 1) (j := 1) (dk_Mo_copy 68 rfl) rfl rfl ?_
    refine g_imul (dk_Mo_copy 69 rfl) ?_
    refine g_iload_n (i := 2) (j := 2) (dk_Mo_copy 70 rfl) rfl rfl ?_
    refine g_iadd (dk_Mo_copy 71 rfl) ?_
    refine g_bipush (dk_Mo_copy 72 rfl) (by decide +kernel) (by decide) ?_
    refine g_aload_n (i := 0) (j := 0) (dk_Mo_copy 73 rfl) rfl rfl ?_
    refine g_getI fl_Mo_227 (Or.inl rfl) (dk_Mo_copy 74 rfl) c1 ?_
    refine g_imul (dk_Mo_copy 75 rfl) ?_
    refine g_iload_n (i := 2) (j := 2) (dk_Mo_copy 76 rfl) rfl rfl ?_
    refine g_iadd (dk_Mo_copy 77 rfl) ?_
    obtain ⟨s10, q11, h⟩ := p_bvE h
    have t12 := tF_Mo_copyRule K l v0 (p_w ((p_w (12 * v1)) + v2)) (p_w ((p_w (12 * (p_Z s0 v0 0))) + v2)) s0 _ q11
    refine g_callV (a := v0) (ci := 11) (q0 := (RX11, TX11, 90)) (As := [p_i (p_w ((p_w (12 * v1)) + v2)), p_i (p_w ((p_w (12 * (p_Z s0 v0 0))) + v2))]) (rest := []) [] mt_Mo_copyRule rfl rfl tw_7_148 ts_52 tw_7_146 ⟨Nat.le_of_ble_eq_true rfl, Nat.le_of_ble_eq_true rfl⟩ rfl (Nat.le_of_ble_eq_true rfl) (dk_Mo_copy 78 rfl) rfl c1 rfl t12 ?_
    have hs13 : p_x s0 s10 := t12.1
    show p_Go K l m_Mo_copy 131 [(0, p_r v0), (1, p_i v1), (2, p_i v2)] [] s10 _
    refine g_iinc (j := 2) [(2, p_i (p_w (v2 + 1))), (0, p_r v0), (1, p_i v1)] (dk_Mo_copy 79 rfl) rfl (by decide) rfl ?_
    refine p_ltG (P := fun q => p_Go K l m_Mo_copy 134 [(2, p_i q), (0, p_r v0), (1, p_i v1)] [] s10 _) ?_ h
    intro x14 h
    refine g_goto 102 (dk_Mo_copy 80 rfl) (by decide) ?_
    refine g_sub [(0, p_r v0), (1, p_i v1), (2, p_i x14)] [1, 2, 0] rfl ?_
    exact hk102 v0 v1 x14 s10 _ h
set_option maxRecDepth 100000 in
set_option maxHeartbeats 4000000 in
theorem tO_Mo_copy_102 (K : p_K) (l : Launch)  : ∀ (n : Nat) (v0 : Nat) (v1 : Int) (v2 : Int) (s0 : p_Hp) (r : (Int × p_Hp)), O_Mo_copy_102 n v0 v1 v2 s0 = some r → p_Go K l m_Mo_copy 102 [(0, p_r v0), (1, p_i v1), (2, p_i v2)] [] s0 (some (p_i r.1), r.2) := by
  intro n
  induction n with
  | zero => intro v0 v1 v2 s0 r h; cases (show (none : Option (Int × p_Hp)) = some r from h)
  | succ n ih => intro v0 v1 v2 s0 r h; exact tL_Mo_copy_102 K l _ ih v0 v1 v2 s0 r h
set_option maxRecDepth 100000 in
set_option maxHeartbeats 4000000 in
theorem tL_Mo_copy_39 (K : p_K) (l : Launch) (k39 : Nat → Int → Int → p_Hp → Option (Int × p_Hp)) (hk39 : ∀ (v0 : Nat) (v1 : Int) (v2 : Int)  (s0 : p_Hp) (r : (Int × p_Hp)), k39 v0 v1 v2 s0 = some r → p_Go K l m_Mo_copy 39 [(0, p_r v0), (1, p_i v1), (2, p_i v2)] [] s0 (some (p_i r.1), r.2)) (v0 : Nat) (v1 : Int) (v2 : Int) (s0 : p_Hp) (r : (Int × p_Hp)) (h : L_Mo_copy_39 k39 v0 v1 v2 s0 = some r) : p_Go K l m_Mo_copy 39 [(0, p_r v0), (1, p_i v1), (2, p_i v2)] [] s0 (some (p_i r.1), r.2) := by
  unfold L_Mo_copy_39 at h
  refine g_iload_n (i := 2) (j := 2) (dk_Mo_copy 22 rfl) rfl rfl ?_
  refine g_aload_n (i := 0) (j := 0) (dk_Mo_copy 23 rfl) rfl rfl ?_
  obtain ⟨c1, h⟩ := p_gdE h
  refine g_getR fl_Mo_7 (Or.inr ⟨_, rfl⟩) (dk_Mo_copy 24 rfl) c1 ?_
  refine g_iload_n (i := 1) (j := 1) (dk_Mo_copy 25 rfl) rfl rfl ?_
  obtain ⟨c2, h⟩ := p_gdE h
  obtain ⟨c3, h⟩ := p_gdE h
  refine g_iaload (dk_Mo_copy 26 rfl) c2 c3.1 c3.2 ?_
  refine g_icmp_ge 70 (dk_Mo_copy 27 rfl) (by decide) (fun b4 => ?_) (fun b4 => ?_)
  · have h := p_ifT b4 h
    refine g_aload_n (i := 0) (j := 0) (dk_Mo_copy 40 rfl) rfl rfl ?_
    refine g_getR fl_Mo_7 (Or.inr ⟨_, rfl⟩) (dk_Mo_copy 41 rfl) c1 ?_
    refine g_aload_n (i := 0) (j := 0) (dk_Mo_copy 42 rfl) rfl rfl ?_
    refine g_getI fl_Mo_227 (Or.inl rfl) (dk_Mo_copy 43 rfl) c1 ?_
    refine g_aload_n (i := 0) (j := 0) (dk_Mo_copy 44 rfl) rfl rfl ?_
    refine g_getR fl_Mo_7 (Or.inr ⟨_, rfl⟩) (dk_Mo_copy 45 rfl) c1 ?_
    refine g_iload_n (i := 1) (j := 1) (dk_Mo_copy 46 rfl) rfl rfl ?_
    obtain ⟨c5, h⟩ := p_gdE h
    refine g_iaload (dk_Mo_copy 47 rfl) c2 c5.1 c5.2 ?_
    obtain ⟨c6, h⟩ := p_gdE h
    refine g_iastore (dk_Mo_copy 48 rfl) c2 c6.1 c6.2 ?_
    refine p_ltS (P := fun q => p_Go K l m_Mo_copy 85 [(0, p_r v0), (1, p_i v1), (2, p_i v2)] [] q _) (p_xZ _ _ _ _) ?_ h
    intro s7 hs8 h
    refine g_aload_n (i := 0) (j := 0) (dk_Mo_copy 49 rfl) rfl rfl ?_
    refine g_getR fl_Mo_141 (Or.inr ⟨_, rfl⟩) (dk_Mo_copy 50 rfl) (c1.up hs8) ?_
    refine g_aload_n (i := 0) (j := 0) (dk_Mo_copy 51 rfl) rfl rfl ?_
    refine g_getI fl_Mo_227 (Or.inl rfl) (dk_Mo_copy 52 rfl) (c1.up hs8) ?_
    refine g_aload_n (i := 0) (j := 0) (dk_Mo_copy 53 rfl) rfl rfl ?_
    refine g_getR fl_Mo_141 (Or.inr ⟨_, rfl⟩) (dk_Mo_copy 54 rfl) (c1.up hs8) ?_
    refine g_iload_n (i := 1) (j := 1) (dk_Mo_copy 55 rfl) rfl rfl ?_
    obtain ⟨c9, h⟩ := p_gdE h
    obtain ⟨c10, h⟩ := p_gdE h
    refine g_iaload (dk_Mo_copy 56 rfl) c9 c10.1 c10.2 ?_
    obtain ⟨c11, h⟩ := p_gdE h
    refine g_iastore (dk_Mo_copy 57 rfl) c9 c11.1 c11.2 ?_
    refine p_ltS (P := fun q => p_Go K l m_Mo_copy 100 [(0, p_r v0), (1, p_i v1), (2, p_i v2)] [] q _) (p_xZ _ _ _ _) ?_ h
    intro s12 hs13 h
    refine g_iconst (dk_Mo_copy 58 rfl) (by decide) ?_
    refine g_istore_n (i := 2) [(2, p_i 0), (0, p_r v0), (1, p_i v1)] (dk_Mo_copy 59 rfl) rfl (by decide) rfl ?_
    refine g_sub [(0, p_r v0), (1, p_i v1), (2, p_i 0)] [1, 2, 0] rfl ?_
    exact tO_Mo_copy_102 K l 3000 v0 v1 0 s12 _ h
  · have h := p_ifF b4 h
    refine g_aload_n (i := 0) (j := 0) (dk_Mo_copy 28 rfl) rfl rfl ?_
    refine g_bipush (dk_Mo_copy 29 rfl) (by decide +kernel) (by decide) ?_
    refine g_iload_n (i := 1) (j := 1) (dk_Mo_copy 30 rfl) rfl rfl ?_
    refine g_imul (dk_Mo_copy 31 rfl) ?_
    refine g_iload_n (i := 2) (j := 2) (dk_Mo_copy 32 rfl) rfl rfl ?_
    refine g_iadd (dk_Mo_copy 33 rfl) ?_
    refine g_aload_n (i := 0) (j := 0) (dk_Mo_copy 34 rfl) rfl rfl ?_
    refine g_iload_n (i := 2) (j := 2) (dk_Mo_copy 35 rfl) rfl rfl ?_
    obtain ⟨r18, s14, q15, h⟩ := p_bdE h
    have t16 := tF_Mo_g K l v0 v2 s0 _ q15
    refine g_callV (a := v0) (ci := 11) (q0 := (RX11, TX11, 90)) (As := [p_i v2]) (rest := [p_i (p_w ((p_w (40 * v1)) + v2)), p_r v0]) [p_i r18, p_i (p_w ((p_w (40 * v1)) + v2)), p_r v0] mt_Mo_g rfl rfl tw_7_84 ts_45 tw_7_82 ⟨Nat.le_of_ble_eq_true rfl, Nat.le_of_ble_eq_true rfl⟩ rfl (Nat.le_of_ble_eq_true rfl) (dk_Mo_copy 36 rfl) rfl c1 rfl t16 ?_
    have hs17 : p_x s0 s14 := t16.1
    show p_Go K l m_Mo_copy 61 [(0, p_r v0), (1, p_i v1), (2, p_i v2)] [p_i r18, p_i (p_w ((p_w (40 * v1)) + v2)), p_r v0] s14 _
    obtain ⟨s19, q20, h⟩ := p_bvE h
    have t21 := tF_Mo_copyGear K l v0 (p_w ((p_w (40 * v1)) + v2)) r18 s14 _ q20
    refine g_callV (a := v0) (ci := 11) (q0 := (RX11, TX11, 90)) (As := [p_i (p_w ((p_w (40 * v1)) + v2)), p_i r18]) (rest := []) [] mt_Mo_copyGear rfl rfl tw_7_144 ts_51 tw_7_142 ⟨Nat.le_of_ble_eq_true rfl, Nat.le_of_ble_eq_true rfl⟩ rfl (Nat.le_of_ble_eq_true rfl) (dk_Mo_copy 37 rfl) rfl (c1.up hs17) rfl t21 ?_
    have hs22 : p_x s14 s19 := t21.1
    show p_Go K l m_Mo_copy 64 [(0, p_r v0), (1, p_i v1), (2, p_i v2)] [] s19 _
    refine g_iinc (j := 2) [(2, p_i (p_w (v2 + 1))), (0, p_r v0), (1, p_i v1)] (dk_Mo_copy 38 rfl) rfl (by decide) rfl ?_
    refine p_ltG (P := fun q => p_Go K l m_Mo_copy 67 [(2, p_i q), (0, p_r v0), (1, p_i v1)] [] s19 _) ?_ h
    intro x23 h
    refine g_goto 39 (dk_Mo_copy 39 rfl) (by decide) ?_
    refine g_sub [(0, p_r v0), (1, p_i v1), (2, p_i x23)] [1, 2, 0] rfl ?_
    exact hk39 v0 v1 x23 s19 _ h
set_option maxRecDepth 100000 in
set_option maxHeartbeats 4000000 in
theorem tO_Mo_copy_39 (K : p_K) (l : Launch)  : ∀ (n : Nat) (v0 : Nat) (v1 : Int) (v2 : Int) (s0 : p_Hp) (r : (Int × p_Hp)), O_Mo_copy_39 n v0 v1 v2 s0 = some r → p_Go K l m_Mo_copy 39 [(0, p_r v0), (1, p_i v1), (2, p_i v2)] [] s0 (some (p_i r.1), r.2) := by
  intro n
  induction n with
  | zero => intro v0 v1 v2 s0 r h; cases (show (none : Option (Int × p_Hp)) = some r from h)
  | succ n ih => intro v0 v1 v2 s0 r h; exact tL_Mo_copy_39 K l _ ih v0 v1 v2 s0 r h
set_option maxRecDepth 100000 in
set_option maxHeartbeats 4000000 in
theorem tF_Mo_copy (K : p_K) (l : Launch) (v0 : Nat) (v1 : Int) (s0 : p_Hp) (r : (Int × p_Hp)) (h : F_Mo_copy v0 v1 s0 = some r) : p_Ct K l m_Mo_copy [p_r v0, p_i v1] s0 (some (p_i r.1), r.2) := by
  refine p_Ct.of (by decide +kernel) (Nat.le_of_ble_eq_true rfl) ?_
  unfold F_Mo_copy at h
  show p_Go K l m_Mo_copy 0 [(0, p_r v0), (1, p_i v1)] [] s0 _
  refine g_iload_n (i := 1) (j := 1) (dk_Mo_copy 0 rfl) rfl rfl ?_
  refine g_i2l (dk_Mo_copy 1 rfl) ?_
  refine g_lconst (x := 0) (dk_Mo_copy 2 rfl) rfl (by decide) ?_
  refine g_ldc2_w (x := 2) (dk_Mo_copy 3 rfl) tw_7_61 (by decide) (by decide) ?_
  obtain ⟨r5, s1, q2, h⟩ := p_bdE h
  have t3 := tF_Mo_beyond K l v1 0 2 s0 _ q2
  refine g_callS (av := [p_j v1, p_j 0, p_j 2]) (rest := []) [p_i r5] mt_Mo_beyond tw_7_63 tw_7_62 ⟨Nat.le_of_ble_eq_true rfl, Nat.le_of_ble_eq_true rfl⟩ rfl (Nat.le_of_ble_eq_true rfl) (dk_Mo_copy 4 rfl) rfl rfl t3 ?_
  have hs4 : p_x s0 s1 := t3.1
  show p_Go K l m_Mo_copy 9 [(0, p_r v0), (1, p_i v1)] [p_i r5] s1 _
  refine g_if_eq 18 (dk_Mo_copy 5 rfl) (by decide) (fun b6 => ?_) (fun b6 => ?_)
  · have h := p_ifT b6 h
    refine g_aload_n (i := 0) (j := 0) (dk_Mo_copy 10 rfl) rfl rfl ?_
    obtain ⟨c7, h⟩ := p_gdE h
    refine g_getR fl_Mo_7 (Or.inr ⟨_, rfl⟩) (dk_Mo_copy 11 rfl) c7 ?_
    refine g_aload_n (i := 0) (j := 0) (dk_Mo_copy 12 rfl) rfl rfl ?_
    refine g_getI fl_Mo_227 (Or.inl rfl) (dk_Mo_copy 13 rfl) c7 ?_
    obtain ⟨c8, h⟩ := p_gdE h
    obtain ⟨c9, h⟩ := p_gdE h
    refine g_iaload (dk_Mo_copy 14 rfl) c8 c9.1 c9.2 ?_
    refine g_if_le 37 (dk_Mo_copy 15 rfl) (by decide) (fun b10 => ?_) (fun b10 => ?_)
    · have h := p_ifT b10 h
      refine g_iconst (dk_Mo_copy 20 rfl) (by decide) ?_
      refine g_istore_n (i := 2) [(2, p_i 0), (0, p_r v0), (1, p_i v1)] (dk_Mo_copy 21 rfl) rfl (by decide) rfl ?_
      refine g_sub [(0, p_r v0), (1, p_i v1), (2, p_i 0)] [1, 2, 0] rfl ?_
      exact tO_Mo_copy_39 K l 3000 v0 v1 0 s1 _ h
    · have h := p_ifF b10 h
      refine g_aload_n (i := 0) (j := 0) (dk_Mo_copy 16 rfl) rfl rfl ?_
      refine g_bipush (dk_Mo_copy 17 rfl) (by decide +kernel) (by decide) ?_
      obtain ⟨r15, s11, q12, h⟩ := p_bdE h
      have t13 := tF_Mo_refused K l v0 (-3) s1 _ q12
      refine g_callV (a := v0) (ci := 11) (q0 := (RX11, TX11, 90)) (As := [p_i (-3)]) (rest := []) [p_i r15] mt_Mo_refused rfl rfl tw_7_67 ts_43 tw_7_65 ⟨Nat.le_of_ble_eq_true rfl, Nat.le_of_ble_eq_true rfl⟩ rfl (Nat.le_of_ble_eq_true rfl) (dk_Mo_copy 18 rfl) rfl c7 rfl t13 ?_
      have hs14 : p_x s1 s11 := t13.1
      show p_Go K l m_Mo_copy 36 [(0, p_r v0), (1, p_i v1)] [p_i r15] s11 _
      cases h
      exact g_ret rfl rfl (dk_Mo_copy 19 rfl) (fun os => ⟨_, rfl, p_okh os⟩)
  · have h := p_ifF b6 h
    refine g_aload_n (i := 0) (j := 0) (dk_Mo_copy 6 rfl) rfl rfl ?_
    refine g_iconst (dk_Mo_copy 7 rfl) (by decide) ?_
    obtain ⟨c16, h⟩ := p_gdE h
    obtain ⟨r21, s17, q18, h⟩ := p_bdE h
    have t19 := tF_Mo_refused K l v0 (-1) s1 _ q18
    refine g_callV (a := v0) (ci := 11) (q0 := (RX11, TX11, 90)) (As := [p_i (-1)]) (rest := []) [p_i r21] mt_Mo_refused rfl rfl tw_7_67 ts_43 tw_7_65 ⟨Nat.le_of_ble_eq_true rfl, Nat.le_of_ble_eq_true rfl⟩ rfl (Nat.le_of_ble_eq_true rfl) (dk_Mo_copy 8 rfl) rfl c16 rfl t19 ?_
    have hs20 : p_x s1 s17 := t19.1
    show p_Go K l m_Mo_copy 17 [(0, p_r v0), (1, p_i v1)] [p_i r21] s17 _
    cases h
    exact g_ret rfl rfl (dk_Mo_copy 9 rfl) (fun os => ⟨_, rfl, p_okh os⟩)
def m_Mo_letter : p_Me := (⟨"SortWorksModel", "letter", "(I)I"⟩, prog_13_method_27_code, 2, (some .int), 1, 25)
theorem mt_Mo_letter : p_Mt m_Mo_letter 1 := ⟨p_mem (p_tb7 (List.mem_of_getElem? (i := 153) rfl)) rfl, tw_1_12, by decide +kernel, by decide +kernel, by decide +kernel⟩
def dt_Mo_letter : List (Nat × Instr × Nat) := [(0, .iload_n 1, 1), (1, .i2l, 1), (2, .ldc2_w 291, 3), (5, .ldc2_w 293, 3), (8, .invokestatic 230, 3), (11, .ifCond .eq 10, 3), (14, .aload_n 0, 1), (15, .bipush (-2), 2), (17, .invokevirtual 240, 3), (20, .ireturn, 1), (21, .aload_n 0, 1), (22, .getfield 295, 3), (25, .sipush 200, 3), (28, .if_icmp .ne 10, 3), (31, .aload_n 0, 1), (32, .bipush (-4), 2), (34, .invokevirtual 240, 3), (37, .ireturn, 1), (38, .aload_n 0, 1), (39, .getfield 138, 3), (42, .aload_n 0, 1), (43, .getfield 295, 3), (46, .iload_n 1, 1), (47, .iastore, 1), (48, .aload_n 0, 1), (49, .dup, 1), (50, .getfield 295, 3), (53, .iconst 1, 1), (54, .iadd, 1), (55, .putfield 295, 3), (58, .aload_n 0, 1), (59, .aload_n 0, 1), (60, .getfield 295, 3), (63, .invokevirtual 244, 3), (66, .ireturn, 1)]
theorem dk_Mo_letter (i : Nat) {pc : Nat} {ins : Instr} {len : Nat} (h : dt_Mo_letter[i]? = some (pc, ins, len)) : decode m_Mo_letter.2.1 pc = .ok (ins, len) := p_dk (b := m_Mo_letter.2.1) (t := dt_Mo_letter) (by decide +kernel) i h
def F_Mo_letter (v0 : Nat) (v1 : Int) (s0 : p_Hp) : Option (Int × p_Hp) :=
  p_bd (F_Mo_beyond v1 33 126 s0) fun r5 s1 =>
  if r5 = 0 then
    p_gd (p_is s1 v0 11) <|
    if (p_Z s1 v0 47) ≠ 200 then
      p_gd (p_is s1 (p_R s1 v0 46) 100) <|
      p_gd ((0 : Int) ≤ (p_Z s1 v0 47) ∧ (p_Z s1 v0 47) < (p_L s1 (p_R s1 v0 46) : Int)) <|
      p_bi (p_wZ s1 (p_R s1 v0 46) ((p_Z s1 v0 47) : Int).toNat v1) fun s11 =>
      p_bi (p_wZ s11 v0 47 (p_w ((p_Z s11 v0 47) + 1))) fun s13 =>
      p_bd (F_Mo_well v0 (p_Z s13 v0 47) s13) fun r19 s15 =>
      some (r19, s15)
    else
      p_bd (F_Mo_refused v0 (-4) s1) fun r24 s20 =>
      some (r24, s20)
  else
    p_gd (p_is s1 v0 11) <|
    p_bd (F_Mo_refused v0 (-2) s1) fun r30 s26 =>
    some (r30, s26)
set_option maxRecDepth 100000 in
set_option maxHeartbeats 4000000 in
theorem tF_Mo_letter (K : p_K) (l : Launch) (v0 : Nat) (v1 : Int) (s0 : p_Hp) (r : (Int × p_Hp)) (h : F_Mo_letter v0 v1 s0 = some r) : p_Ct K l m_Mo_letter [p_r v0, p_i v1] s0 (some (p_i r.1), r.2) := by
  refine p_Ct.of (by decide +kernel) (Nat.le_of_ble_eq_true rfl) ?_
  unfold F_Mo_letter at h
  show p_Go K l m_Mo_letter 0 [(0, p_r v0), (1, p_i v1)] [] s0 _
  refine g_iload_n (i := 1) (j := 1) (dk_Mo_letter 0 rfl) rfl rfl ?_
  refine g_i2l (dk_Mo_letter 1 rfl) ?_
  refine g_ldc2_w (x := 33) (dk_Mo_letter 2 rfl) tw_7_154 (by decide) (by decide) ?_
  refine g_ldc2_w (x := 126) (dk_Mo_letter 3 rfl) tw_7_155 (by decide) (by decide) ?_
  obtain ⟨r5, s1, q2, h⟩ := p_bdE h
  have t3 := tF_Mo_beyond K l v1 33 126 s0 _ q2
  refine g_callS (av := [p_j v1, p_j 33, p_j 126]) (rest := []) [p_i r5] mt_Mo_beyond tw_7_63 tw_7_62 ⟨Nat.le_of_ble_eq_true rfl, Nat.le_of_ble_eq_true rfl⟩ rfl (Nat.le_of_ble_eq_true rfl) (dk_Mo_letter 4 rfl) rfl rfl t3 ?_
  have hs4 : p_x s0 s1 := t3.1
  show p_Go K l m_Mo_letter 11 [(0, p_r v0), (1, p_i v1)] [p_i r5] s1 _
  refine g_if_eq 21 (dk_Mo_letter 5 rfl) (by decide) (fun b6 => ?_) (fun b6 => ?_)
  · have h := p_ifT b6 h
    refine g_aload_n (i := 0) (j := 0) (dk_Mo_letter 10 rfl) rfl rfl ?_
    obtain ⟨c7, h⟩ := p_gdE h
    refine g_getI fl_Mo_295 (Or.inl rfl) (dk_Mo_letter 11 rfl) c7 ?_
    refine g_sipush (dk_Mo_letter 12 rfl) (by decide +kernel) (by decide) ?_
    refine g_icmp_ne 38 (dk_Mo_letter 13 rfl) (by decide) (fun b8 => ?_) (fun b8 => ?_)
    · have h := p_ifT b8 h
      refine g_aload_n (i := 0) (j := 0) (dk_Mo_letter 18 rfl) rfl rfl ?_
      refine g_getR fl_Mo_138 (Or.inr ⟨_, rfl⟩) (dk_Mo_letter 19 rfl) c7 ?_
      refine g_aload_n (i := 0) (j := 0) (dk_Mo_letter 20 rfl) rfl rfl ?_
      refine g_getI fl_Mo_295 (Or.inl rfl) (dk_Mo_letter 21 rfl) c7 ?_
      refine g_iload_n (i := 1) (j := 1) (dk_Mo_letter 22 rfl) rfl rfl ?_
      obtain ⟨c9, h⟩ := p_gdE h
      obtain ⟨c10, h⟩ := p_gdE h
      refine g_iastore (dk_Mo_letter 23 rfl) c9 c10.1 c10.2 ?_
      refine p_ltS (P := fun q => p_Go K l m_Mo_letter 48 [(0, p_r v0), (1, p_i v1)] [] q _) (p_xZ _ _ _ _) ?_ h
      intro s11 hs12 h
      refine g_aload_n (i := 0) (j := 0) (dk_Mo_letter 24 rfl) rfl rfl ?_
      refine g_dup (dk_Mo_letter 25 rfl) rfl ?_
      refine g_getI fl_Mo_295 (Or.inl rfl) (dk_Mo_letter 26 rfl) (c7.up hs12) ?_
      refine g_iconst (dk_Mo_letter 27 rfl) (by decide) ?_
      refine g_iadd (dk_Mo_letter 28 rfl) ?_
      refine g_putI fl_Mo_295 (Or.inl rfl) (dk_Mo_letter 29 rfl) (c7.up hs12) ?_
      refine p_ltS (P := fun q => p_Go K l m_Mo_letter 58 [(0, p_r v0), (1, p_i v1)] [] q _) (p_xZ _ _ _ _) ?_ h
      intro s13 hs14 h
      refine g_aload_n (i := 0) (j := 0) (dk_Mo_letter 30 rfl) rfl rfl ?_
      refine g_aload_n (i := 0) (j := 0) (dk_Mo_letter 31 rfl) rfl rfl ?_
      refine g_getI fl_Mo_295 (Or.inl rfl) (dk_Mo_letter 32 rfl) (c7.up (hs12.trans hs14)) ?_
      obtain ⟨r19, s15, q16, h⟩ := p_bdE h
      have t17 := tF_Mo_well K l v0 (p_Z s13 v0 47) s13 _ q16
      refine g_callV (a := v0) (ci := 11) (q0 := (RX11, TX11, 90)) (As := [p_i (p_Z s13 v0 47)]) (rest := []) [p_i r19] mt_Mo_well rfl rfl tw_7_71 ts_44 tw_7_69 ⟨Nat.le_of_ble_eq_true rfl, Nat.le_of_ble_eq_true rfl⟩ rfl (Nat.le_of_ble_eq_true rfl) (dk_Mo_letter 33 rfl) rfl (c7.up (hs12.trans hs14)) rfl t17 ?_
      have hs18 : p_x s13 s15 := t17.1
      show p_Go K l m_Mo_letter 66 [(0, p_r v0), (1, p_i v1)] [p_i r19] s15 _
      cases h
      exact g_ret rfl rfl (dk_Mo_letter 34 rfl) (fun os => ⟨_, rfl, p_okh os⟩)
    · have h := p_ifF b8 h
      refine g_aload_n (i := 0) (j := 0) (dk_Mo_letter 14 rfl) rfl rfl ?_
      refine g_bipush (dk_Mo_letter 15 rfl) (by decide +kernel) (by decide) ?_
      obtain ⟨r24, s20, q21, h⟩ := p_bdE h
      have t22 := tF_Mo_refused K l v0 (-4) s1 _ q21
      refine g_callV (a := v0) (ci := 11) (q0 := (RX11, TX11, 90)) (As := [p_i (-4)]) (rest := []) [p_i r24] mt_Mo_refused rfl rfl tw_7_67 ts_43 tw_7_65 ⟨Nat.le_of_ble_eq_true rfl, Nat.le_of_ble_eq_true rfl⟩ rfl (Nat.le_of_ble_eq_true rfl) (dk_Mo_letter 16 rfl) rfl c7 rfl t22 ?_
      have hs23 : p_x s1 s20 := t22.1
      show p_Go K l m_Mo_letter 37 [(0, p_r v0), (1, p_i v1)] [p_i r24] s20 _
      cases h
      exact g_ret rfl rfl (dk_Mo_letter 17 rfl) (fun os => ⟨_, rfl, p_okh os⟩)
  · have h := p_ifF b6 h
    refine g_aload_n (i := 0) (j := 0) (dk_Mo_letter 6 rfl) rfl rfl ?_
    refine g_bipush (dk_Mo_letter 7 rfl) (by decide +kernel) (by decide) ?_
    obtain ⟨c25, h⟩ := p_gdE h
    obtain ⟨r30, s26, q27, h⟩ := p_bdE h
    have t28 := tF_Mo_refused K l v0 (-2) s1 _ q27
    refine g_callV (a := v0) (ci := 11) (q0 := (RX11, TX11, 90)) (As := [p_i (-2)]) (rest := []) [p_i r30] mt_Mo_refused rfl rfl tw_7_67 ts_43 tw_7_65 ⟨Nat.le_of_ble_eq_true rfl, Nat.le_of_ble_eq_true rfl⟩ rfl (Nat.le_of_ble_eq_true rfl) (dk_Mo_letter 8 rfl) rfl c25 rfl t28 ?_
    have hs29 : p_x s1 s26 := t28.1
    show p_Go K l m_Mo_letter 20 [(0, p_r v0), (1, p_i v1)] [p_i r30] s26 _
    cases h
    exact g_ret rfl rfl (dk_Mo_letter 9 rfl) (fun os => ⟨_, rfl, p_okh os⟩)
def m_Mo_here : p_Me := (⟨"SortWorksModel", "here", "()I"⟩, prog_13_method_28_code, 1, (some .int), 0, 0)
theorem mt_Mo_here : p_Mt m_Mo_here 0 := ⟨p_mem (p_tb7 (List.mem_of_getElem? (i := 171) rfl)) rfl, tw_1_12, by decide +kernel, by decide +kernel, by decide +kernel⟩
def dt_Mo_here : List (Nat × Instr × Nat) := [(0, .aload_n 0, 1), (1, .getfield 298, 3), (4, .aload_n 0, 1), (5, .getfield 295, 3), (8, .if_icmp .ge 15, 3), (11, .aload_n 0, 1), (12, .getfield 138, 3), (15, .aload_n 0, 1), (16, .getfield 298, 3), (19, .iaload, 1), (20, .goto 4, 3), (23, .iconst 0, 1), (24, .ireturn, 1)]
theorem dk_Mo_here (i : Nat) {pc : Nat} {ins : Instr} {len : Nat} (h : dt_Mo_here[i]? = some (pc, ins, len)) : decode m_Mo_here.2.1 pc = .ok (ins, len) := p_dk (b := m_Mo_here.2.1) (t := dt_Mo_here) (by decide +kernel) i h
def F_Mo_here (v0 : Nat) (s0 : p_Hp) : Option (Int × p_Hp) :=
  p_gd (p_is s0 v0 11) <|
  if (p_Z s0 v0 47) ≤ (p_Z s0 v0 68) then
    some (0, s0)
  else
    p_gd (p_is s0 (p_R s0 v0 46) 100) <|
    p_gd ((0 : Int) ≤ (p_Z s0 v0 68) ∧ (p_Z s0 v0 68) < (p_L s0 (p_R s0 v0 46) : Int)) <|
    some ((p_Z s0 (p_R s0 v0 46) ((p_Z s0 v0 68) : Int).toNat), s0)
set_option maxRecDepth 100000 in
set_option maxHeartbeats 4000000 in
theorem tF_Mo_here (K : p_K) (l : Launch) (v0 : Nat) (s0 : p_Hp) (r : (Int × p_Hp)) (h : F_Mo_here v0 s0 = some r) : p_Ct K l m_Mo_here [p_r v0] s0 (some (p_i r.1), r.2) := by
  refine p_Ct.of (by decide +kernel) (Nat.le_of_ble_eq_true rfl) ?_
  unfold F_Mo_here at h
  show p_Go K l m_Mo_here 0 [(0, p_r v0)] [] s0 _
  refine g_aload_n (i := 0) (j := 0) (dk_Mo_here 0 rfl) rfl rfl ?_
  obtain ⟨c1, h⟩ := p_gdE h
  refine g_getI fl_Mo_298 (Or.inl rfl) (dk_Mo_here 1 rfl) c1 ?_
  refine g_aload_n (i := 0) (j := 0) (dk_Mo_here 2 rfl) rfl rfl ?_
  refine g_getI fl_Mo_295 (Or.inl rfl) (dk_Mo_here 3 rfl) c1 ?_
  refine g_icmp_ge 23 (dk_Mo_here 4 rfl) (by decide) (fun b2 => ?_) (fun b2 => ?_)
  · have h := p_ifT b2 h
    refine g_iconst (dk_Mo_here 11 rfl) (by decide) ?_
    cases h
    exact g_ret rfl rfl (dk_Mo_here 12 rfl) (fun os => ⟨_, rfl, p_okh os⟩)
  · have h := p_ifF b2 h
    refine g_aload_n (i := 0) (j := 0) (dk_Mo_here 5 rfl) rfl rfl ?_
    refine g_getR fl_Mo_138 (Or.inr ⟨_, rfl⟩) (dk_Mo_here 6 rfl) c1 ?_
    refine g_aload_n (i := 0) (j := 0) (dk_Mo_here 7 rfl) rfl rfl ?_
    refine g_getI fl_Mo_298 (Or.inl rfl) (dk_Mo_here 8 rfl) c1 ?_
    obtain ⟨c3, h⟩ := p_gdE h
    obtain ⟨c4, h⟩ := p_gdE h
    refine g_iaload (dk_Mo_here 9 rfl) c3 c4.1 c4.2 ?_
    refine g_goto 24 (dk_Mo_here 10 rfl) (by decide) ?_
    cases h
    exact g_ret rfl rfl (dk_Mo_here 12 rfl) (fun os => ⟨_, rfl, p_okh os⟩)
def m_Mo_isDigit : p_Me := (⟨"SortWorksModel", "isDigit", "(I)Z"⟩, prog_13_method_30_code, 1, (some .boolean), 0, 0)
theorem mt_Mo_isDigit : p_Mt m_Mo_isDigit 1 := ⟨p_mem (p_tb7 (List.mem_of_getElem? (i := 182) rfl)) rfl, tw_1_12, by decide +kernel, by decide +kernel, by decide +kernel⟩
def dt_Mo_isDigit : List (Nat × Instr × Nat) := [(0, .iload_n 0, 1), (1, .bipush 48, 2), (3, .if_icmp .lt 13, 3), (6, .iload_n 0, 1), (7, .bipush 57, 2), (9, .if_icmp .gt 7, 3), (12, .iconst 1, 1), (13, .goto 4, 3), (16, .iconst 0, 1), (17, .ireturn, 1)]
theorem dk_Mo_isDigit (i : Nat) {pc : Nat} {ins : Instr} {len : Nat} (h : dt_Mo_isDigit[i]? = some (pc, ins, len)) : decode m_Mo_isDigit.2.1 pc = .ok (ins, len) := p_dk (b := m_Mo_isDigit.2.1) (t := dt_Mo_isDigit) (by decide +kernel) i h
def F_Mo_isDigit (v0 : Int) (s0 : p_Hp) : Option (Int × p_Hp) :=
  if v0 < 48 then
    some (0, s0)
  else
    if 57 < v0 then
      some (0, s0)
    else
      some (1, s0)
set_option maxRecDepth 100000 in
set_option maxHeartbeats 4000000 in
theorem tF_Mo_isDigit (K : p_K) (l : Launch) (v0 : Int) (s0 : p_Hp) (r : (Int × p_Hp)) (h : F_Mo_isDigit v0 s0 = some r) : p_Ct K l m_Mo_isDigit [p_i v0] s0 (some (p_i r.1), r.2) := by
  refine p_Ct.of (by decide +kernel) (Nat.le_of_ble_eq_true rfl) ?_
  unfold F_Mo_isDigit at h
  show p_Go K l m_Mo_isDigit 0 [(0, p_i v0)] [] s0 _
  refine g_iload_n (i := 0) (j := 0) (dk_Mo_isDigit 0 rfl) rfl rfl ?_
  refine g_bipush (dk_Mo_isDigit 1 rfl) (by decide +kernel) (by decide) ?_
  refine g_icmp_lt 16 (dk_Mo_isDigit 2 rfl) (by decide) (fun b1 => ?_) (fun b1 => ?_)
  · have h := p_ifT b1 h
    refine g_iconst (dk_Mo_isDigit 8 rfl) (by decide) ?_
    cases h
    exact g_ret rfl rfl (dk_Mo_isDigit 9 rfl) (fun _ => ⟨_, rfl, Or.inl rfl⟩)
  · have h := p_ifF b1 h
    refine g_iload_n (i := 0) (j := 0) (dk_Mo_isDigit 3 rfl) rfl rfl ?_
    refine g_bipush (dk_Mo_isDigit 4 rfl) (by decide +kernel) (by decide) ?_
    refine g_icmp_gt 16 (dk_Mo_isDigit 5 rfl) (by decide) (fun b2 => ?_) (fun b2 => ?_)
    · have h := p_ifT b2 h
      refine g_iconst (dk_Mo_isDigit 8 rfl) (by decide) ?_
      cases h
      exact g_ret rfl rfl (dk_Mo_isDigit 9 rfl) (fun _ => ⟨_, rfl, Or.inl rfl⟩)
    · have h := p_ifF b2 h
      refine g_iconst (dk_Mo_isDigit 6 rfl) (by decide) ?_
      refine g_goto 17 (dk_Mo_isDigit 7 rfl) (by decide) ?_
      cases h
      exact g_ret rfl rfl (dk_Mo_isDigit 9 rfl) (fun _ => ⟨_, rfl, Or.inr rfl⟩)
def m_Mo_wrong : p_Me := (⟨"SortWorksModel", "wrong", "(I)Z"⟩, prog_13_method_29_code, 2, (some .boolean), 0, 0)
theorem mt_Mo_wrong : p_Mt m_Mo_wrong 1 := ⟨p_mem (p_tb7 (List.mem_of_getElem? (i := 167) rfl)) rfl, tw_1_12, by decide +kernel, by decide +kernel, by decide +kernel⟩
def dt_Mo_wrong : List (Nat × Instr × Nat) := [(0, .aload_n 0, 1), (1, .iload_n 1, 1), (2, .putfield 301, 3), (5, .iconst 0, 1), (6, .ireturn, 1)]
theorem dk_Mo_wrong (i : Nat) {pc : Nat} {ins : Instr} {len : Nat} (h : dt_Mo_wrong[i]? = some (pc, ins, len)) : decode m_Mo_wrong.2.1 pc = .ok (ins, len) := p_dk (b := m_Mo_wrong.2.1) (t := dt_Mo_wrong) (by decide +kernel) i h
def F_Mo_wrong (v0 : Nat) (v1 : Int) (s0 : p_Hp) : Option (Int × p_Hp) :=
  p_gd (p_is s0 v0 11) <|
  p_bi (p_wZ s0 v0 69 v1) fun s2 =>
  some (0, s2)
set_option maxRecDepth 100000 in
set_option maxHeartbeats 4000000 in
theorem tF_Mo_wrong (K : p_K) (l : Launch) (v0 : Nat) (v1 : Int) (s0 : p_Hp) (r : (Int × p_Hp)) (h : F_Mo_wrong v0 v1 s0 = some r) : p_Ct K l m_Mo_wrong [p_r v0, p_i v1] s0 (some (p_i r.1), r.2) := by
  refine p_Ct.of (by decide +kernel) (Nat.le_of_ble_eq_true rfl) ?_
  unfold F_Mo_wrong at h
  show p_Go K l m_Mo_wrong 0 [(0, p_r v0), (1, p_i v1)] [] s0 _
  refine g_aload_n (i := 0) (j := 0) (dk_Mo_wrong 0 rfl) rfl rfl ?_
  refine g_iload_n (i := 1) (j := 1) (dk_Mo_wrong 1 rfl) rfl rfl ?_
  obtain ⟨c1, h⟩ := p_gdE h
  refine g_putI fl_Mo_301 (Or.inl rfl) (dk_Mo_wrong 2 rfl) c1 ?_
  refine p_ltS (P := fun q => p_Go K l m_Mo_wrong 5 [(0, p_r v0), (1, p_i v1)] [] q _) (p_xZ _ _ _ _) ?_ h
  intro s2 hs3 h
  refine g_iconst (dk_Mo_wrong 3 rfl) (by decide) ?_
  cases h
  exact g_ret rfl rfl (dk_Mo_wrong 4 rfl) (fun _ => ⟨_, rfl, Or.inl rfl⟩)
def m_Mo_number : p_Me := (⟨"SortWorksModel", "number", "()Z"⟩, prog_13_method_31_code, 2, (some .boolean), 1, 21)
theorem mt_Mo_number : p_Mt m_Mo_number 0 := ⟨p_mem (p_tb7 (List.mem_of_getElem? (i := 179) rfl)) rfl, tw_1_12, by decide +kernel, by decide +kernel, by decide +kernel⟩
def dt_Mo_number : List (Nat × Instr × Nat) := [(0, .aload_n 0, 1), (1, .invokevirtual 304, 3), (4, .invokestatic 308, 3), (7, .ifCond .ne 12, 3), (10, .aload_n 0, 1), (11, .aload_n 0, 1), (12, .getfield 298, 3), (15, .invokevirtual 311, 3), (18, .ireturn, 1), (19, .aload_n 0, 1), (20, .iconst 0, 1), (21, .putfield 314, 3), (24, .iconst 0, 1), (25, .istore_n 1, 1), (26, .iload_n 1, 1), (27, .iconst 4, 1), (28, .if_icmp .ge 48, 3), (31, .aload_n 0, 1), (32, .invokevirtual 304, 3), (35, .invokestatic 308, 3), (38, .ifCond .eq 38, 3), (41, .aload_n 0, 1), (42, .bipush 10, 2), (44, .aload_n 0, 1), (45, .getfield 314, 3), (48, .imul, 1), (49, .aload_n 0, 1), (50, .invokevirtual 304, 3), (53, .iadd, 1), (54, .bipush 48, 2), (56, .isub, 1), (57, .putfield 314, 3), (60, .aload_n 0, 1), (61, .dup, 1), (62, .getfield 298, 3), (65, .iconst 1, 1), (66, .iadd, 1), (67, .putfield 298, 3), (70, .iinc 1 1, 3), (73, .goto (-47), 3), (76, .iconst 1, 1), (77, .ireturn, 1)]
theorem dk_Mo_number (i : Nat) {pc : Nat} {ins : Instr} {len : Nat} (h : dt_Mo_number[i]? = some (pc, ins, len)) : decode m_Mo_number.2.1 pc = .ok (ins, len) := p_dk (b := m_Mo_number.2.1) (t := dt_Mo_number) (by decide +kernel) i h
def L_Mo_number_26 (k26 : Nat → Int → p_Hp → Option (Int × p_Hp)) (v0 : Nat) (v1 : Int) (s0 : p_Hp) : Option (Int × p_Hp) :=
  if 4 ≤ v1 then
    some (1, s0)
  else
    p_gd (p_is s0 v0 11) <|
    p_bd (F_Mo_here v0 s0) fun r7 s3 =>
    p_bd (F_Mo_isDigit r7 s3) fun r12 s8 =>
    if r12 = 0 then
      some (1, s8)
    else
      p_bd (F_Mo_here v0 s8) fun r18 s14 =>
      p_bi (p_wZ s14 v0 70 (p_w ((p_w ((p_w (10 * (p_Z s8 v0 70))) + r18)) - 48))) fun s19 =>
      p_bi (p_wZ s19 v0 68 (p_w ((p_Z s19 v0 68) + 1))) fun s21 =>
      p_bi (p_w (v1 + 1)) fun x23 =>
      k26 v0 x23 s21
def O_Mo_number_26  : Nat → Nat → Int → p_Hp → Option (Int × p_Hp)
  | 0 => fun _ _ _ => none
  | n + 1 => L_Mo_number_26 (O_Mo_number_26 n)
def F_Mo_number (v0 : Nat) (s0 : p_Hp) : Option (Int × p_Hp) :=
  p_gd (p_is s0 v0 11) <|
  p_bd (F_Mo_here v0 s0) fun r6 s2 =>
  p_bd (F_Mo_isDigit r6 s2) fun r11 s7 =>
  if r11 ≠ 0 then
    p_bi (p_wZ s7 v0 70 0) fun s13 =>
    O_Mo_number_26 3000 v0 0 s13
  else
    p_bd (F_Mo_wrong v0 (p_Z s7 v0 68) s7) fun r19 s15 =>
    p_gd (r19 = 0 ∨ r19 = 1) <|
    some (r19, s15)
set_option maxRecDepth 100000 in
set_option maxHeartbeats 4000000 in
theorem tL_Mo_number_26 (K : p_K) (l : Launch) (k26 : Nat → Int → p_Hp → Option (Int × p_Hp)) (hk26 : ∀ (v0 : Nat) (v1 : Int)  (s0 : p_Hp) (r : (Int × p_Hp)), k26 v0 v1 s0 = some r → p_Go K l m_Mo_number 26 [(0, p_r v0), (1, p_i v1)] [] s0 (some (p_i r.1), r.2)) (v0 : Nat) (v1 : Int) (s0 : p_Hp) (r : (Int × p_Hp)) (h : L_Mo_number_26 k26 v0 v1 s0 = some r) : p_Go K l m_Mo_number 26 [(0, p_r v0), (1, p_i v1)] [] s0 (some (p_i r.1), r.2) := by
  unfold L_Mo_number_26 at h
  refine g_iload_n (i := 1) (j := 1) (dk_Mo_number 14 rfl) rfl rfl ?_
  refine g_iconst (dk_Mo_number 15 rfl) (by decide) ?_
  refine g_icmp_ge 76 (dk_Mo_number 16 rfl) (by decide) (fun b1 => ?_) (fun b1 => ?_)
  · have h := p_ifT b1 h
    refine g_iconst (dk_Mo_number 40 rfl) (by decide) ?_
    cases h
    exact g_ret rfl rfl (dk_Mo_number 41 rfl) (fun _ => ⟨_, rfl, Or.inr rfl⟩)
  · have h := p_ifF b1 h
    refine g_aload_n (i := 0) (j := 0) (dk_Mo_number 17 rfl) rfl rfl ?_
    obtain ⟨c2, h⟩ := p_gdE h
    obtain ⟨r7, s3, q4, h⟩ := p_bdE h
    have t5 := tF_Mo_here K l v0 s0 _ q4
    refine g_callV (a := v0) (ci := 11) (q0 := (RX11, TX11, 90)) (As := []) (rest := []) [p_i r7] mt_Mo_here rfl rfl tw_7_170 ts_55 tw_7_168 ⟨Nat.le_of_ble_eq_true rfl, Nat.le_of_ble_eq_true rfl⟩ rfl (Nat.le_of_ble_eq_true rfl) (dk_Mo_number 18 rfl) rfl c2 rfl t5 ?_
    have hs6 : p_x s0 s3 := t5.1
    show p_Go K l m_Mo_number 35 [(0, p_r v0), (1, p_i v1)] [p_i r7] s3 _
    obtain ⟨r12, s8, q9, h⟩ := p_bdE h
    have t10 := tF_Mo_isDigit K l r7 s3 _ q9
    refine g_callS (av := [p_i r7]) (rest := []) [p_i r12] mt_Mo_isDigit tw_7_181 tw_7_180 ⟨Nat.le_of_ble_eq_true rfl, Nat.le_of_ble_eq_true rfl⟩ rfl (Nat.le_of_ble_eq_true rfl) (dk_Mo_number 19 rfl) rfl rfl t10 ?_
    have hs11 : p_x s3 s8 := t10.1
    show p_Go K l m_Mo_number 38 [(0, p_r v0), (1, p_i v1)] [p_i r12] s8 _
    refine g_if_eq 76 (dk_Mo_number 20 rfl) (by decide) (fun b13 => ?_) (fun b13 => ?_)
    · have h := p_ifT b13 h
      refine g_iconst (dk_Mo_number 40 rfl) (by decide) ?_
      cases h
      exact g_ret rfl rfl (dk_Mo_number 41 rfl) (fun _ => ⟨_, rfl, Or.inr rfl⟩)
    · have h := p_ifF b13 h
      refine g_aload_n (i := 0) (j := 0) (dk_Mo_number 21 rfl) rfl rfl ?_
      refine g_bipush (dk_Mo_number 22 rfl) (by decide +kernel) (by decide) ?_
      refine g_aload_n (i := 0) (j := 0) (dk_Mo_number 23 rfl) rfl rfl ?_
      refine g_getI fl_Mo_314 (Or.inl rfl) (dk_Mo_number 24 rfl) (c2.up (hs6.trans hs11)) ?_
      refine g_imul (dk_Mo_number 25 rfl) ?_
      refine g_aload_n (i := 0) (j := 0) (dk_Mo_number 26 rfl) rfl rfl ?_
      obtain ⟨r18, s14, q15, h⟩ := p_bdE h
      have t16 := tF_Mo_here K l v0 s8 _ q15
      refine g_callV (a := v0) (ci := 11) (q0 := (RX11, TX11, 90)) (As := []) (rest := [p_i (p_w (10 * (p_Z s8 v0 70))), p_r v0]) [p_i r18, p_i (p_w (10 * (p_Z s8 v0 70))), p_r v0] mt_Mo_here rfl rfl tw_7_170 ts_55 tw_7_168 ⟨Nat.le_of_ble_eq_true rfl, Nat.le_of_ble_eq_true rfl⟩ rfl (Nat.le_of_ble_eq_true rfl) (dk_Mo_number 27 rfl) rfl (c2.up (hs6.trans hs11)) rfl t16 ?_
      have hs17 : p_x s8 s14 := t16.1
      show p_Go K l m_Mo_number 53 [(0, p_r v0), (1, p_i v1)] [p_i r18, p_i (p_w (10 * (p_Z s8 v0 70))), p_r v0] s14 _
      refine g_iadd (dk_Mo_number 28 rfl) ?_
      refine g_bipush (dk_Mo_number 29 rfl) (by decide +kernel) (by decide) ?_
      refine g_isub (dk_Mo_number 30 rfl) ?_
      refine g_putI fl_Mo_314 (Or.inl rfl) (dk_Mo_number 31 rfl) (c2.up (hs6.trans (hs11.trans hs17))) ?_
      refine p_ltS (P := fun q => p_Go K l m_Mo_number 60 [(0, p_r v0), (1, p_i v1)] [] q _) (p_xZ _ _ _ _) ?_ h
      intro s19 hs20 h
      refine g_aload_n (i := 0) (j := 0) (dk_Mo_number 32 rfl) rfl rfl ?_
      refine g_dup (dk_Mo_number 33 rfl) rfl ?_
      refine g_getI fl_Mo_298 (Or.inl rfl) (dk_Mo_number 34 rfl) (c2.up (hs6.trans (hs11.trans (hs17.trans hs20)))) ?_
      refine g_iconst (dk_Mo_number 35 rfl) (by decide) ?_
      refine g_iadd (dk_Mo_number 36 rfl) ?_
      refine g_putI fl_Mo_298 (Or.inl rfl) (dk_Mo_number 37 rfl) (c2.up (hs6.trans (hs11.trans (hs17.trans hs20)))) ?_
      refine p_ltS (P := fun q => p_Go K l m_Mo_number 70 [(0, p_r v0), (1, p_i v1)] [] q _) (p_xZ _ _ _ _) ?_ h
      intro s21 hs22 h
      refine g_iinc (j := 1) [(1, p_i (p_w (v1 + 1))), (0, p_r v0)] (dk_Mo_number 38 rfl) rfl (by decide) rfl ?_
      refine p_ltG (P := fun q => p_Go K l m_Mo_number 73 [(1, p_i q), (0, p_r v0)] [] s21 _) ?_ h
      intro x23 h
      refine g_goto 26 (dk_Mo_number 39 rfl) (by decide) ?_
      refine g_sub [(0, p_r v0), (1, p_i x23)] [1, 0] rfl ?_
      exact hk26 v0 x23 s21 _ h
set_option maxRecDepth 100000 in
set_option maxHeartbeats 4000000 in
theorem tO_Mo_number_26 (K : p_K) (l : Launch)  : ∀ (n : Nat) (v0 : Nat) (v1 : Int) (s0 : p_Hp) (r : (Int × p_Hp)), O_Mo_number_26 n v0 v1 s0 = some r → p_Go K l m_Mo_number 26 [(0, p_r v0), (1, p_i v1)] [] s0 (some (p_i r.1), r.2) := by
  intro n
  induction n with
  | zero => intro v0 v1 s0 r h; cases (show (none : Option (Int × p_Hp)) = some r from h)
  | succ n ih => intro v0 v1 s0 r h; exact tL_Mo_number_26 K l _ ih v0 v1 s0 r h
set_option maxRecDepth 100000 in
set_option maxHeartbeats 4000000 in
theorem tF_Mo_number (K : p_K) (l : Launch) (v0 : Nat) (s0 : p_Hp) (r : (Int × p_Hp)) (h : F_Mo_number v0 s0 = some r) : p_Ct K l m_Mo_number [p_r v0] s0 (some (p_i r.1), r.2) := by
  refine p_Ct.of (by decide +kernel) (Nat.le_of_ble_eq_true rfl) ?_
  unfold F_Mo_number at h
  show p_Go K l m_Mo_number 0 [(0, p_r v0)] [] s0 _
  refine g_aload_n (i := 0) (j := 0) (dk_Mo_number 0 rfl) rfl rfl ?_
  obtain ⟨c1, h⟩ := p_gdE h
  obtain ⟨r6, s2, q3, h⟩ := p_bdE h
  have t4 := tF_Mo_here K l v0 s0 _ q3
  refine g_callV (a := v0) (ci := 11) (q0 := (RX11, TX11, 90)) (As := []) (rest := []) [p_i r6] mt_Mo_here rfl rfl tw_7_170 ts_55 tw_7_168 ⟨Nat.le_of_ble_eq_true rfl, Nat.le_of_ble_eq_true rfl⟩ rfl (Nat.le_of_ble_eq_true rfl) (dk_Mo_number 1 rfl) rfl c1 rfl t4 ?_
  have hs5 : p_x s0 s2 := t4.1
  show p_Go K l m_Mo_number 4 [(0, p_r v0)] [p_i r6] s2 _
  obtain ⟨r11, s7, q8, h⟩ := p_bdE h
  have t9 := tF_Mo_isDigit K l r6 s2 _ q8
  refine g_callS (av := [p_i r6]) (rest := []) [p_i r11] mt_Mo_isDigit tw_7_181 tw_7_180 ⟨Nat.le_of_ble_eq_true rfl, Nat.le_of_ble_eq_true rfl⟩ rfl (Nat.le_of_ble_eq_true rfl) (dk_Mo_number 2 rfl) rfl rfl t9 ?_
  have hs10 : p_x s2 s7 := t9.1
  show p_Go K l m_Mo_number 7 [(0, p_r v0)] [p_i r11] s7 _
  refine g_if_ne 19 (dk_Mo_number 3 rfl) (by decide) (fun b12 => ?_) (fun b12 => ?_)
  · have h := p_ifT b12 h
    refine g_aload_n (i := 0) (j := 0) (dk_Mo_number 9 rfl) rfl rfl ?_
    refine g_iconst (dk_Mo_number 10 rfl) (by decide) ?_
    refine g_putI fl_Mo_314 (Or.inl rfl) (dk_Mo_number 11 rfl) (c1.up (hs5.trans hs10)) ?_
    refine p_ltS (P := fun q => p_Go K l m_Mo_number 24 [(0, p_r v0)] [] q _) (p_xZ _ _ _ _) ?_ h
    intro s13 hs14 h
    refine g_iconst (dk_Mo_number 12 rfl) (by decide) ?_
    refine g_istore_n (i := 1) [(1, p_i 0), (0, p_r v0)] (dk_Mo_number 13 rfl) rfl (by decide) rfl ?_
    refine g_sub [(0, p_r v0), (1, p_i 0)] [1, 0] rfl ?_
    exact tO_Mo_number_26 K l 3000 v0 0 s13 _ h
  · have h := p_ifF b12 h
    refine g_aload_n (i := 0) (j := 0) (dk_Mo_number 4 rfl) rfl rfl ?_
    refine g_aload_n (i := 0) (j := 0) (dk_Mo_number 5 rfl) rfl rfl ?_
    refine g_getI fl_Mo_298 (Or.inl rfl) (dk_Mo_number 6 rfl) (c1.up (hs5.trans hs10)) ?_
    obtain ⟨r19, s15, q16, h⟩ := p_bdE h
    have t17 := tF_Mo_wrong K l v0 (p_Z s7 v0 68) s7 _ q16
    refine g_callV (a := v0) (ci := 11) (q0 := (RX11, TX11, 90)) (As := [p_i (p_Z s7 v0 68)]) (rest := []) [p_i r19] mt_Mo_wrong rfl rfl tw_7_166 ts_54 tw_7_164 ⟨Nat.le_of_ble_eq_true rfl, Nat.le_of_ble_eq_true rfl⟩ rfl (Nat.le_of_ble_eq_true rfl) (dk_Mo_number 7 rfl) rfl (c1.up (hs5.trans hs10)) rfl t17 ?_
    have hs18 : p_x s7 s15 := t17.1
    show p_Go K l m_Mo_number 18 [(0, p_r v0)] [p_i r19] s15 _
    obtain ⟨c20, h⟩ := p_gdE h
    cases h
    exact g_ret rfl rfl (dk_Mo_number 8 rfl) (fun _ => ⟨_, rfl, c20⟩)
def m_Mo_sign : p_Me := (⟨"SortWorksModel", "sign", "()Z"⟩, prog_13_method_32_code, 1, (some .boolean), 1, 21)
theorem mt_Mo_sign : p_Mt m_Mo_sign 0 := ⟨p_mem (p_tb7 (List.mem_of_getElem? (i := 186) rfl)) rfl, tw_1_12, by decide +kernel, by decide +kernel, by decide +kernel⟩
def dt_Mo_sign : List (Nat × Instr × Nat) := [(0, .aload_n 0, 1), (1, .invokevirtual 304, 3), (4, .bipush 60, 2), (6, .if_icmp .eq 30, 3), (9, .aload_n 0, 1), (10, .invokevirtual 304, 3), (13, .bipush 61, 2), (15, .if_icmp .eq 21, 3), (18, .aload_n 0, 1), (19, .invokevirtual 304, 3), (22, .bipush 62, 2), (24, .if_icmp .eq 12, 3), (27, .aload_n 0, 1), (28, .aload_n 0, 1), (29, .getfield 298, 3), (32, .invokevirtual 311, 3), (35, .ireturn, 1), (36, .aload_n 0, 1), (37, .dup, 1), (38, .getfield 298, 3), (41, .iconst 1, 1), (42, .iadd, 1), (43, .putfield 298, 3), (46, .iconst 1, 1), (47, .ireturn, 1)]
theorem dk_Mo_sign (i : Nat) {pc : Nat} {ins : Instr} {len : Nat} (h : dt_Mo_sign[i]? = some (pc, ins, len)) : decode m_Mo_sign.2.1 pc = .ok (ins, len) := p_dk (b := m_Mo_sign.2.1) (t := dt_Mo_sign) (by decide +kernel) i h
def B_Mo_sign_36  (v0 : Nat) (s0 : p_Hp) : Option (Int × p_Hp) :=
  p_gd (p_is s0 v0 11) <|
  p_bi (p_wZ s0 v0 68 (p_w ((p_Z s0 v0 68) + 1))) fun s2 =>
  some (1, s2)
def F_Mo_sign (v0 : Nat) (s0 : p_Hp) : Option (Int × p_Hp) :=
  p_gd (p_is s0 v0 11) <|
  p_bd (F_Mo_here v0 s0) fun r6 s2 =>
  if r6 = 60 then
    B_Mo_sign_36 v0 s2
  else
    p_bd (F_Mo_here v0 s2) fun r12 s8 =>
    if r12 = 61 then
      B_Mo_sign_36 v0 s8
    else
      p_bd (F_Mo_here v0 s8) fun r18 s14 =>
      if r18 = 62 then
        B_Mo_sign_36 v0 s14
      else
        p_bd (F_Mo_wrong v0 (p_Z s14 v0 68) s14) fun r24 s20 =>
        p_gd (r24 = 0 ∨ r24 = 1) <|
        some (r24, s20)
set_option maxRecDepth 100000 in
set_option maxHeartbeats 4000000 in
theorem tB_Mo_sign_36 (K : p_K) (l : Launch)  (v0 : Nat) (s0 : p_Hp) (r : (Int × p_Hp)) (h : B_Mo_sign_36 v0 s0 = some r) : p_Go K l m_Mo_sign 36 [(0, p_r v0)] [] s0 (some (p_i r.1), r.2) := by
  unfold B_Mo_sign_36 at h
  refine g_aload_n (i := 0) (j := 0) (dk_Mo_sign 17 rfl) rfl rfl ?_
  refine g_dup (dk_Mo_sign 18 rfl) rfl ?_
  obtain ⟨c1, h⟩ := p_gdE h
  refine g_getI fl_Mo_298 (Or.inl rfl) (dk_Mo_sign 19 rfl) c1 ?_
  refine g_iconst (dk_Mo_sign 20 rfl) (by decide) ?_
  refine g_iadd (dk_Mo_sign 21 rfl) ?_
  refine g_putI fl_Mo_298 (Or.inl rfl) (dk_Mo_sign 22 rfl) c1 ?_
  refine p_ltS (P := fun q => p_Go K l m_Mo_sign 46 [(0, p_r v0)] [] q _) (p_xZ _ _ _ _) ?_ h
  intro s2 hs3 h
  refine g_iconst (dk_Mo_sign 23 rfl) (by decide) ?_
  cases h
  exact g_ret rfl rfl (dk_Mo_sign 24 rfl) (fun _ => ⟨_, rfl, Or.inr rfl⟩)
set_option maxRecDepth 100000 in
set_option maxHeartbeats 4000000 in
theorem tF_Mo_sign (K : p_K) (l : Launch) (v0 : Nat) (s0 : p_Hp) (r : (Int × p_Hp)) (h : F_Mo_sign v0 s0 = some r) : p_Ct K l m_Mo_sign [p_r v0] s0 (some (p_i r.1), r.2) := by
  refine p_Ct.of (by decide +kernel) (Nat.le_of_ble_eq_true rfl) ?_
  unfold F_Mo_sign at h
  show p_Go K l m_Mo_sign 0 [(0, p_r v0)] [] s0 _
  refine g_aload_n (i := 0) (j := 0) (dk_Mo_sign 0 rfl) rfl rfl ?_
  obtain ⟨c1, h⟩ := p_gdE h
  obtain ⟨r6, s2, q3, h⟩ := p_bdE h
  have t4 := tF_Mo_here K l v0 s0 _ q3
  refine g_callV (a := v0) (ci := 11) (q0 := (RX11, TX11, 90)) (As := []) (rest := []) [p_i r6] mt_Mo_here rfl rfl tw_7_170 ts_55 tw_7_168 ⟨Nat.le_of_ble_eq_true rfl, Nat.le_of_ble_eq_true rfl⟩ rfl (Nat.le_of_ble_eq_true rfl) (dk_Mo_sign 1 rfl) rfl c1 rfl t4 ?_
  have hs5 : p_x s0 s2 := t4.1
  show p_Go K l m_Mo_sign 4 [(0, p_r v0)] [p_i r6] s2 _
  refine g_bipush (dk_Mo_sign 2 rfl) (by decide +kernel) (by decide) ?_
  refine g_icmp_eq 36 (dk_Mo_sign 3 rfl) (by decide) (fun b7 => ?_) (fun b7 => ?_)
  · have h := p_ifT b7 h
    exact tB_Mo_sign_36 K l v0 s2 _ h
  · have h := p_ifF b7 h
    refine g_aload_n (i := 0) (j := 0) (dk_Mo_sign 4 rfl) rfl rfl ?_
    obtain ⟨r12, s8, q9, h⟩ := p_bdE h
    have t10 := tF_Mo_here K l v0 s2 _ q9
    refine g_callV (a := v0) (ci := 11) (q0 := (RX11, TX11, 90)) (As := []) (rest := []) [p_i r12] mt_Mo_here rfl rfl tw_7_170 ts_55 tw_7_168 ⟨Nat.le_of_ble_eq_true rfl, Nat.le_of_ble_eq_true rfl⟩ rfl (Nat.le_of_ble_eq_true rfl) (dk_Mo_sign 5 rfl) rfl (c1.up hs5) rfl t10 ?_
    have hs11 : p_x s2 s8 := t10.1
    show p_Go K l m_Mo_sign 13 [(0, p_r v0)] [p_i r12] s8 _
    refine g_bipush (dk_Mo_sign 6 rfl) (by decide +kernel) (by decide) ?_
    refine g_icmp_eq 36 (dk_Mo_sign 7 rfl) (by decide) (fun b13 => ?_) (fun b13 => ?_)
    · have h := p_ifT b13 h
      exact tB_Mo_sign_36 K l v0 s8 _ h
    · have h := p_ifF b13 h
      refine g_aload_n (i := 0) (j := 0) (dk_Mo_sign 8 rfl) rfl rfl ?_
      obtain ⟨r18, s14, q15, h⟩ := p_bdE h
      have t16 := tF_Mo_here K l v0 s8 _ q15
      refine g_callV (a := v0) (ci := 11) (q0 := (RX11, TX11, 90)) (As := []) (rest := []) [p_i r18] mt_Mo_here rfl rfl tw_7_170 ts_55 tw_7_168 ⟨Nat.le_of_ble_eq_true rfl, Nat.le_of_ble_eq_true rfl⟩ rfl (Nat.le_of_ble_eq_true rfl) (dk_Mo_sign 9 rfl) rfl (c1.up (hs5.trans hs11)) rfl t16 ?_
      have hs17 : p_x s8 s14 := t16.1
      show p_Go K l m_Mo_sign 22 [(0, p_r v0)] [p_i r18] s14 _
      refine g_bipush (dk_Mo_sign 10 rfl) (by decide +kernel) (by decide) ?_
      refine g_icmp_eq 36 (dk_Mo_sign 11 rfl) (by decide) (fun b19 => ?_) (fun b19 => ?_)
      · have h := p_ifT b19 h
        exact tB_Mo_sign_36 K l v0 s14 _ h
      · have h := p_ifF b19 h
        refine g_aload_n (i := 0) (j := 0) (dk_Mo_sign 12 rfl) rfl rfl ?_
        refine g_aload_n (i := 0) (j := 0) (dk_Mo_sign 13 rfl) rfl rfl ?_
        refine g_getI fl_Mo_298 (Or.inl rfl) (dk_Mo_sign 14 rfl) (c1.up (hs5.trans (hs11.trans hs17))) ?_
        obtain ⟨r24, s20, q21, h⟩ := p_bdE h
        have t22 := tF_Mo_wrong K l v0 (p_Z s14 v0 68) s14 _ q21
        refine g_callV (a := v0) (ci := 11) (q0 := (RX11, TX11, 90)) (As := [p_i (p_Z s14 v0 68)]) (rest := []) [p_i r24] mt_Mo_wrong rfl rfl tw_7_166 ts_54 tw_7_164 ⟨Nat.le_of_ble_eq_true rfl, Nat.le_of_ble_eq_true rfl⟩ rfl (Nat.le_of_ble_eq_true rfl) (dk_Mo_sign 15 rfl) rfl (c1.up (hs5.trans (hs11.trans hs17))) rfl t22 ?_
        have hs23 : p_x s14 s20 := t22.1
        show p_Go K l m_Mo_sign 35 [(0, p_r v0)] [p_i r24] s20 _
        obtain ⟨c25, h⟩ := p_gdE h
        cases h
        exact g_ret rfl rfl (dk_Mo_sign 16 rfl) (fun _ => ⟨_, rfl, c25⟩)
def m_Mo_test : p_Me := (⟨"SortWorksModel", "test", "(I)Z"⟩, prog_13_method_33_code, 4, (some .boolean), 2, 42)
theorem mt_Mo_test : p_Mt m_Mo_test 1 := ⟨p_mem (p_tb7 (List.mem_of_getElem? (i := 175) rfl)) rfl, tw_1_12, by decide +kernel, by decide +kernel, by decide +kernel⟩
def dt_Mo_test : List (Nat × Instr × Nat) := [(0, .aload_n 0, 1), (1, .invokevirtual 304, 3), (4, .istore_n 2, 1), (5, .aload_n 0, 1), (6, .getfield 186, 3), (9, .iload_n 1, 1), (10, .iaload, 1), (11, .iconst 4, 1), (12, .if_icmp .eq 33, 3), (15, .iload_n 2, 1), (16, .bipush 68, 2), (18, .if_icmp .eq 36, 3), (21, .iload_n 2, 1), (22, .bipush 87, 2), (24, .if_icmp .eq 30, 3), (27, .iload_n 2, 1), (28, .bipush 83, 2), (30, .if_icmp .eq 24, 3), (33, .iload_n 2, 1), (34, .bipush 84, 2), (36, .if_icmp .eq 18, 3), (39, .iload_n 2, 1), (40, .bipush 81, 2), (42, .if_icmp .eq 12, 3), (45, .aload_n 0, 1), (46, .aload_n 0, 1), (47, .getfield 298, 3), (50, .invokevirtual 311, 3), (53, .ireturn, 1), (54, .iconst 4, 1), (55, .iload_n 1, 1), (56, .imul, 1), (57, .aload_n 0, 1), (58, .getfield 186, 3), (61, .iload_n 1, 1), (62, .iaload, 1), (63, .iadd, 1), (64, .istore_n 3, 1), (65, .aload_n 0, 1), (66, .getfield 189, 3), (69, .iload_n 3, 1), (70, .iload_n 2, 1), (71, .iastore, 1), (72, .aload_n 0, 1), (73, .getfield 192, 3), (76, .iload_n 3, 1), (77, .iconst 0, 1), (78, .iastore, 1), (79, .aload_n 0, 1), (80, .dup, 1), (81, .getfield 298, 3), (84, .iconst 1, 1), (85, .iadd, 1), (86, .putfield 298, 3), (89, .iload_n 2, 1), (90, .bipush 81, 2), (92, .if_icmp .ne 22, 3), (95, .aload_n 0, 1), (96, .invokevirtual 317, 3), (99, .ifCond .ne 5, 3), (102, .iconst 0, 1), (103, .ireturn, 1), (104, .aload_n 0, 1), (105, .getfield 192, 3), (108, .iload_n 3, 1), (109, .aload_n 0, 1), (110, .getfield 314, 3), (113, .iastore, 1), (114, .aload_n 0, 1), (115, .getfield 195, 3), (118, .iload_n 3, 1), (119, .aload_n 0, 1), (120, .invokevirtual 304, 3), (123, .iastore, 1), (124, .aload_n 0, 1), (125, .invokevirtual 321, 3), (128, .ifCond .eq 10, 3), (131, .aload_n 0, 1), (132, .invokevirtual 317, 3), (135, .ifCond .ne 5, 3), (138, .iconst 0, 1), (139, .ireturn, 1), (140, .aload_n 0, 1), (141, .getfield 198, 3), (144, .iload_n 3, 1), (145, .aload_n 0, 1), (146, .getfield 314, 3), (149, .iastore, 1), (150, .aload_n 0, 1), (151, .getfield 186, 3), (154, .iload_n 1, 1), (155, .dup2, 1), (156, .iaload, 1), (157, .iconst 1, 1), (158, .iadd, 1), (159, .iastore, 1), (160, .iconst 1, 1), (161, .ireturn, 1)]
theorem dk_Mo_test (i : Nat) {pc : Nat} {ins : Instr} {len : Nat} (h : dt_Mo_test[i]? = some (pc, ins, len)) : decode m_Mo_test.2.1 pc = .ok (ins, len) := p_dk (b := m_Mo_test.2.1) (t := dt_Mo_test) (by decide +kernel) i h
def B_Mo_test_45  (v0 : Nat) (s0 : p_Hp) : Option (Int × p_Hp) :=
  p_gd (p_is s0 v0 11) <|
  p_bd (F_Mo_wrong v0 (p_Z s0 v0 68) s0) fun r6 s2 =>
  p_gd (r6 = 0 ∨ r6 = 1) <|
  some (r6, s2)
def B_Mo_test_114  (v0 : Nat) (v1 : Int) (v3 : Int) (s0 : p_Hp) : Option (Int × p_Hp) :=
  p_gd (p_is s0 v0 11) <|
  p_bd (F_Mo_here v0 s0) fun r6 s2 =>
  p_gd (p_is s2 (p_R s0 v0 66) 100) <|
  p_gd ((0 : Int) ≤ v3 ∧ v3 < (p_L s2 (p_R s0 v0 66) : Int)) <|
  p_bi (p_wZ s2 (p_R s0 v0 66) (v3 : Int).toNat r6) fun s9 =>
  p_bd (F_Mo_sign v0 s9) fun r15 s11 =>
  if r15 = 0 then
    some (0, s11)
  else
    p_bd (F_Mo_number v0 s11) fun r21 s17 =>
    if r21 ≠ 0 then
      p_gd (p_is s17 (p_R s17 v0 67) 100) <|
      p_gd ((0 : Int) ≤ v3 ∧ v3 < (p_L s17 (p_R s17 v0 67) : Int)) <|
      p_bi (p_wZ s17 (p_R s17 v0 67) (v3 : Int).toNat (p_Z s17 v0 70)) fun s25 =>
      p_gd (p_is s25 (p_R s25 v0 63) 100) <|
      p_gd ((0 : Int) ≤ v1 ∧ v1 < (p_L s25 (p_R s25 v0 63) : Int)) <|
      p_gd ((0 : Int) ≤ v1 ∧ v1 < (p_L s25 (p_R s25 v0 63) : Int)) <|
      p_bi (p_wZ s25 (p_R s25 v0 63) (v1 : Int).toNat (p_w ((p_Z s25 (p_R s25 v0 63) (v1 : Int).toNat) + 1))) fun s30 =>
      some (1, s30)
    else
      some (0, s17)
def B_Mo_test_54  (v0 : Nat) (v1 : Int) (v2 : Int) (s0 : p_Hp) : Option (Int × p_Hp) :=
  p_gd (p_is s0 v0 11) <|
  p_gd (p_is s0 (p_R s0 v0 63) 100) <|
  p_gd ((0 : Int) ≤ v1 ∧ v1 < (p_L s0 (p_R s0 v0 63) : Int)) <|
  p_bi ((p_w ((p_w (4 * v1)) + (p_Z s0 (p_R s0 v0 63) (v1 : Int).toNat)))) fun x4 =>
  p_gd (p_is s0 (p_R s0 v0 64) 100) <|
  p_gd ((0 : Int) ≤ x4 ∧ x4 < (p_L s0 (p_R s0 v0 64) : Int)) <|
  p_bi (p_wZ s0 (p_R s0 v0 64) (x4 : Int).toNat v2) fun s7 =>
  p_gd (p_is s7 (p_R s7 v0 65) 100) <|
  p_gd ((0 : Int) ≤ x4 ∧ x4 < (p_L s7 (p_R s7 v0 65) : Int)) <|
  p_bi (p_wZ s7 (p_R s7 v0 65) (x4 : Int).toNat 0) fun s11 =>
  p_bi (p_wZ s11 v0 68 (p_w ((p_Z s11 v0 68) + 1))) fun s13 =>
  if v2 ≠ 81 then
    B_Mo_test_114 v0 v1 x4 s13
  else
    p_bd (F_Mo_number v0 s13) fun r20 s16 =>
    if r20 ≠ 0 then
      p_gd (p_is s16 (p_R s16 v0 65) 100) <|
      p_gd ((0 : Int) ≤ x4 ∧ x4 < (p_L s16 (p_R s16 v0 65) : Int)) <|
      p_bi (p_wZ s16 (p_R s16 v0 65) (x4 : Int).toNat (p_Z s16 v0 70)) fun s24 =>
      B_Mo_test_114 v0 v1 x4 s24
    else
      some (0, s16)
def F_Mo_test (v0 : Nat) (v1 : Int) (s0 : p_Hp) : Option (Int × p_Hp) :=
  p_gd (p_is s0 v0 11) <|
  p_bd (F_Mo_here v0 s0) fun r6 s2 =>
  p_gd (p_is s2 (p_R s2 v0 63) 100) <|
  p_gd ((0 : Int) ≤ v1 ∧ v1 < (p_L s2 (p_R s2 v0 63) : Int)) <|
  if (p_Z s2 (p_R s2 v0 63) (v1 : Int).toNat) = 4 then
    B_Mo_test_45 v0 s2
  else
    if r6 = 68 then
      B_Mo_test_54 v0 v1 r6 s2
    else
      if r6 = 87 then
        B_Mo_test_54 v0 v1 r6 s2
      else
        if r6 = 83 then
          B_Mo_test_54 v0 v1 r6 s2
        else
          if r6 = 84 then
            B_Mo_test_54 v0 v1 r6 s2
          else
            if r6 = 81 then
              B_Mo_test_54 v0 v1 r6 s2
            else
              B_Mo_test_45 v0 s2
set_option maxRecDepth 100000 in
set_option maxHeartbeats 4000000 in
theorem tB_Mo_test_45 (K : p_K) (l : Launch)  (v0 : Nat) (s0 : p_Hp) (r : (Int × p_Hp)) (h : B_Mo_test_45 v0 s0 = some r) : p_Go K l m_Mo_test 45 [(0, p_r v0)] [] s0 (some (p_i r.1), r.2) := by
  unfold B_Mo_test_45 at h
  refine g_aload_n (i := 0) (j := 0) (dk_Mo_test 24 rfl) rfl rfl ?_
  refine g_aload_n (i := 0) (j := 0) (dk_Mo_test 25 rfl) rfl rfl ?_
  obtain ⟨c1, h⟩ := p_gdE h
  refine g_getI fl_Mo_298 (Or.inl rfl) (dk_Mo_test 26 rfl) c1 ?_
  obtain ⟨r6, s2, q3, h⟩ := p_bdE h
  have t4 := tF_Mo_wrong K l v0 (p_Z s0 v0 68) s0 _ q3
  refine g_callV (a := v0) (ci := 11) (q0 := (RX11, TX11, 90)) (As := [p_i (p_Z s0 v0 68)]) (rest := []) [p_i r6] mt_Mo_wrong rfl rfl tw_7_166 ts_54 tw_7_164 ⟨Nat.le_of_ble_eq_true rfl, Nat.le_of_ble_eq_true rfl⟩ rfl (Nat.le_of_ble_eq_true rfl) (dk_Mo_test 27 rfl) rfl c1 rfl t4 ?_
  have hs5 : p_x s0 s2 := t4.1
  show p_Go K l m_Mo_test 53 [(0, p_r v0)] [p_i r6] s2 _
  obtain ⟨c7, h⟩ := p_gdE h
  cases h
  exact g_ret rfl rfl (dk_Mo_test 28 rfl) (fun _ => ⟨_, rfl, c7⟩)
set_option maxRecDepth 100000 in
set_option maxHeartbeats 4000000 in
theorem tB_Mo_test_114 (K : p_K) (l : Launch)  (v0 : Nat) (v1 : Int) (v3 : Int) (s0 : p_Hp) (r : (Int × p_Hp)) (h : B_Mo_test_114 v0 v1 v3 s0 = some r) : p_Go K l m_Mo_test 114 [(0, p_r v0), (1, p_i v1), (3, p_i v3)] [] s0 (some (p_i r.1), r.2) := by
  unfold B_Mo_test_114 at h
  refine g_aload_n (i := 0) (j := 0) (dk_Mo_test 68 rfl) rfl rfl ?_
  obtain ⟨c1, h⟩ := p_gdE h
  refine g_getR fl_Mo_195 (Or.inr ⟨_, rfl⟩) (dk_Mo_test 69 rfl) c1 ?_
  refine g_iload_n (i := 3) (j := 2) (dk_Mo_test 70 rfl) rfl rfl ?_
  refine g_aload_n (i := 0) (j := 0) (dk_Mo_test 71 rfl) rfl rfl ?_
  obtain ⟨r6, s2, q3, h⟩ := p_bdE h
  have t4 := tF_Mo_here K l v0 s0 _ q3
  refine g_callV (a := v0) (ci := 11) (q0 := (RX11, TX11, 90)) (As := []) (rest := [p_i v3, p_r (p_R s0 v0 66)]) [p_i r6, p_i v3, p_r (p_R s0 v0 66)] mt_Mo_here rfl rfl tw_7_170 ts_55 tw_7_168 ⟨Nat.le_of_ble_eq_true rfl, Nat.le_of_ble_eq_true rfl⟩ rfl (Nat.le_of_ble_eq_true rfl) (dk_Mo_test 72 rfl) rfl c1 rfl t4 ?_
  have hs5 : p_x s0 s2 := t4.1
  show p_Go K l m_Mo_test 123 [(0, p_r v0), (1, p_i v1), (3, p_i v3)] [p_i r6, p_i v3, p_r (p_R s0 v0 66)] s2 _
  obtain ⟨c7, h⟩ := p_gdE h
  obtain ⟨c8, h⟩ := p_gdE h
  refine g_iastore (dk_Mo_test 73 rfl) c7 c8.1 c8.2 ?_
  refine p_ltS (P := fun q => p_Go K l m_Mo_test 124 [(0, p_r v0), (1, p_i v1), (3, p_i v3)] [] q _) (p_xZ _ _ _ _) ?_ h
  intro s9 hs10 h
  refine g_aload_n (i := 0) (j := 0) (dk_Mo_test 74 rfl) rfl rfl ?_
  obtain ⟨r15, s11, q12, h⟩ := p_bdE h
  have t13 := tF_Mo_sign K l v0 s9 _ q12
  refine g_callV (a := v0) (ci := 11) (q0 := (RX11, TX11, 90)) (As := []) (rest := []) [p_i r15] mt_Mo_sign rfl rfl tw_7_185 ts_58 tw_7_183 ⟨Nat.le_of_ble_eq_true rfl, Nat.le_of_ble_eq_true rfl⟩ rfl (Nat.le_of_ble_eq_true rfl) (dk_Mo_test 75 rfl) rfl (c1.up (hs5.trans hs10)) rfl t13 ?_
  have hs14 : p_x s9 s11 := t13.1
  show p_Go K l m_Mo_test 128 [(0, p_r v0), (1, p_i v1), (3, p_i v3)] [p_i r15] s11 _
  refine g_if_eq 138 (dk_Mo_test 76 rfl) (by decide) (fun b16 => ?_) (fun b16 => ?_)
  · have h := p_ifT b16 h
    refine g_iconst (dk_Mo_test 80 rfl) (by decide) ?_
    cases h
    exact g_ret rfl rfl (dk_Mo_test 81 rfl) (fun _ => ⟨_, rfl, Or.inl rfl⟩)
  · have h := p_ifF b16 h
    refine g_aload_n (i := 0) (j := 0) (dk_Mo_test 77 rfl) rfl rfl ?_
    obtain ⟨r21, s17, q18, h⟩ := p_bdE h
    have t19 := tF_Mo_number K l v0 s11 _ q18
    refine g_callV (a := v0) (ci := 11) (q0 := (RX11, TX11, 90)) (As := []) (rest := []) [p_i r21] mt_Mo_number rfl rfl tw_7_178 ts_57 tw_7_176 ⟨Nat.le_of_ble_eq_true rfl, Nat.le_of_ble_eq_true rfl⟩ rfl (Nat.le_of_ble_eq_true rfl) (dk_Mo_test 78 rfl) rfl (c1.up (hs5.trans (hs10.trans hs14))) rfl t19 ?_
    have hs20 : p_x s11 s17 := t19.1
    show p_Go K l m_Mo_test 135 [(0, p_r v0), (1, p_i v1), (3, p_i v3)] [p_i r21] s17 _
    refine g_if_ne 140 (dk_Mo_test 79 rfl) (by decide) (fun b22 => ?_) (fun b22 => ?_)
    · have h := p_ifT b22 h
      refine g_aload_n (i := 0) (j := 0) (dk_Mo_test 82 rfl) rfl rfl ?_
      refine g_getR fl_Mo_198 (Or.inr ⟨_, rfl⟩) (dk_Mo_test 83 rfl) (c1.up (hs5.trans (hs10.trans (hs14.trans hs20)))) ?_
      refine g_iload_n (i := 3) (j := 2) (dk_Mo_test 84 rfl) rfl rfl ?_
      refine g_aload_n (i := 0) (j := 0) (dk_Mo_test 85 rfl) rfl rfl ?_
      refine g_getI fl_Mo_314 (Or.inl rfl) (dk_Mo_test 86 rfl) (c1.up (hs5.trans (hs10.trans (hs14.trans hs20)))) ?_
      obtain ⟨c23, h⟩ := p_gdE h
      obtain ⟨c24, h⟩ := p_gdE h
      refine g_iastore (dk_Mo_test 87 rfl) c23 c24.1 c24.2 ?_
      refine p_ltS (P := fun q => p_Go K l m_Mo_test 150 [(0, p_r v0), (1, p_i v1), (3, p_i v3)] [] q _) (p_xZ _ _ _ _) ?_ h
      intro s25 hs26 h
      refine g_aload_n (i := 0) (j := 0) (dk_Mo_test 88 rfl) rfl rfl ?_
      refine g_getR fl_Mo_186 (Or.inr ⟨_, rfl⟩) (dk_Mo_test 89 rfl) (c1.up (hs5.trans (hs10.trans (hs14.trans (hs20.trans hs26))))) ?_
      refine g_iload_n (i := 1) (j := 1) (dk_Mo_test 90 rfl) rfl rfl ?_
      refine g_dup2 (dk_Mo_test 91 rfl) rfl rfl ?_
      obtain ⟨c27, h⟩ := p_gdE h
      obtain ⟨c28, h⟩ := p_gdE h
      refine g_iaload (dk_Mo_test 92 rfl) c27 c28.1 c28.2 ?_
      refine g_iconst (dk_Mo_test 93 rfl) (by decide) ?_
      refine g_iadd (dk_Mo_test 94 rfl) ?_
      obtain ⟨c29, h⟩ := p_gdE h
      refine g_iastore (dk_Mo_test 95 rfl) c27 c29.1 c29.2 ?_
      refine p_ltS (P := fun q => p_Go K l m_Mo_test 160 [(0, p_r v0), (1, p_i v1), (3, p_i v3)] [] q _) (p_xZ _ _ _ _) ?_ h
      intro s30 hs31 h
      refine g_iconst (dk_Mo_test 96 rfl) (by decide) ?_
      cases h
      exact g_ret rfl rfl (dk_Mo_test 97 rfl) (fun _ => ⟨_, rfl, Or.inr rfl⟩)
    · have h := p_ifF b22 h
      refine g_iconst (dk_Mo_test 80 rfl) (by decide) ?_
      cases h
      exact g_ret rfl rfl (dk_Mo_test 81 rfl) (fun _ => ⟨_, rfl, Or.inl rfl⟩)
set_option maxRecDepth 100000 in
set_option maxHeartbeats 4000000 in
theorem tB_Mo_test_54 (K : p_K) (l : Launch)  (v0 : Nat) (v1 : Int) (v2 : Int) (s0 : p_Hp) (r : (Int × p_Hp)) (h : B_Mo_test_54 v0 v1 v2 s0 = some r) : p_Go K l m_Mo_test 54 [(0, p_r v0), (1, p_i v1), (2, p_i v2)] [] s0 (some (p_i r.1), r.2) := by
  unfold B_Mo_test_54 at h
  refine g_iconst (dk_Mo_test 29 rfl) (by decide) ?_
  refine g_iload_n (i := 1) (j := 1) (dk_Mo_test 30 rfl) rfl rfl ?_
  refine g_imul (dk_Mo_test 31 rfl) ?_
  refine g_aload_n (i := 0) (j := 0) (dk_Mo_test 32 rfl) rfl rfl ?_
  obtain ⟨c1, h⟩ := p_gdE h
  refine g_getR fl_Mo_186 (Or.inr ⟨_, rfl⟩) (dk_Mo_test 33 rfl) c1 ?_
  refine g_iload_n (i := 1) (j := 1) (dk_Mo_test 34 rfl) rfl rfl ?_
  obtain ⟨c2, h⟩ := p_gdE h
  obtain ⟨c3, h⟩ := p_gdE h
  refine g_iaload (dk_Mo_test 35 rfl) c2 c3.1 c3.2 ?_
  refine g_iadd (dk_Mo_test 36 rfl) ?_
  refine g_istore_n (i := 3) [(3, p_i (p_w ((p_w (4 * v1)) + (p_Z s0 (p_R s0 v0 63) (v1 : Int).toNat)))), (0, p_r v0), (1, p_i v1), (2, p_i v2)] (dk_Mo_test 37 rfl) rfl (by decide) rfl ?_
  refine p_ltG (P := fun q => p_Go K l m_Mo_test 65 [(3, p_i q), (0, p_r v0), (1, p_i v1), (2, p_i v2)] [] s0 _) ?_ h
  intro x4 h
  refine g_aload_n (i := 0) (j := 1) (dk_Mo_test 38 rfl) rfl rfl ?_
  refine g_getR fl_Mo_189 (Or.inr ⟨_, rfl⟩) (dk_Mo_test 39 rfl) c1 ?_
  refine g_iload_n (i := 3) (j := 0) (dk_Mo_test 40 rfl) rfl rfl ?_
  refine g_iload_n (i := 2) (j := 3) (dk_Mo_test 41 rfl) rfl rfl ?_
  obtain ⟨c5, h⟩ := p_gdE h
  obtain ⟨c6, h⟩ := p_gdE h
  refine g_iastore (dk_Mo_test 42 rfl) c5 c6.1 c6.2 ?_
  refine p_ltS (P := fun q => p_Go K l m_Mo_test 72 [(3, p_i x4), (0, p_r v0), (1, p_i v1), (2, p_i v2)] [] q _) (p_xZ _ _ _ _) ?_ h
  intro s7 hs8 h
  refine g_aload_n (i := 0) (j := 1) (dk_Mo_test 43 rfl) rfl rfl ?_
  refine g_getR fl_Mo_192 (Or.inr ⟨_, rfl⟩) (dk_Mo_test 44 rfl) (c1.up hs8) ?_
  refine g_iload_n (i := 3) (j := 0) (dk_Mo_test 45 rfl) rfl rfl ?_
  refine g_iconst (dk_Mo_test 46 rfl) (by decide) ?_
  obtain ⟨c9, h⟩ := p_gdE h
  obtain ⟨c10, h⟩ := p_gdE h
  refine g_iastore (dk_Mo_test 47 rfl) c9 c10.1 c10.2 ?_
  refine p_ltS (P := fun q => p_Go K l m_Mo_test 79 [(3, p_i x4), (0, p_r v0), (1, p_i v1), (2, p_i v2)] [] q _) (p_xZ _ _ _ _) ?_ h
  intro s11 hs12 h
  refine g_aload_n (i := 0) (j := 1) (dk_Mo_test 48 rfl) rfl rfl ?_
  refine g_dup (dk_Mo_test 49 rfl) rfl ?_
  refine g_getI fl_Mo_298 (Or.inl rfl) (dk_Mo_test 50 rfl) (c1.up (hs8.trans hs12)) ?_
  refine g_iconst (dk_Mo_test 51 rfl) (by decide) ?_
  refine g_iadd (dk_Mo_test 52 rfl) ?_
  refine g_putI fl_Mo_298 (Or.inl rfl) (dk_Mo_test 53 rfl) (c1.up (hs8.trans hs12)) ?_
  refine p_ltS (P := fun q => p_Go K l m_Mo_test 89 [(3, p_i x4), (0, p_r v0), (1, p_i v1), (2, p_i v2)] [] q _) (p_xZ _ _ _ _) ?_ h
  intro s13 hs14 h
  refine g_iload_n (i := 2) (j := 3) (dk_Mo_test 54 rfl) rfl rfl ?_
  refine g_bipush (dk_Mo_test 55 rfl) (by decide +kernel) (by decide) ?_
  refine g_icmp_ne 114 (dk_Mo_test 56 rfl) (by decide) (fun b15 => ?_) (fun b15 => ?_)
  · have h := p_ifT b15 h
    refine g_sub [(0, p_r v0), (1, p_i v1), (3, p_i x4)] [1, 2, 0] rfl ?_
    exact tB_Mo_test_114 K l v0 v1 x4 s13 _ h
  · have h := p_ifF b15 h
    refine g_aload_n (i := 0) (j := 1) (dk_Mo_test 57 rfl) rfl rfl ?_
    obtain ⟨r20, s16, q17, h⟩ := p_bdE h
    have t18 := tF_Mo_number K l v0 s13 _ q17
    refine g_callV (a := v0) (ci := 11) (q0 := (RX11, TX11, 90)) (As := []) (rest := []) [p_i r20] mt_Mo_number rfl rfl tw_7_178 ts_57 tw_7_176 ⟨Nat.le_of_ble_eq_true rfl, Nat.le_of_ble_eq_true rfl⟩ rfl (Nat.le_of_ble_eq_true rfl) (dk_Mo_test 58 rfl) rfl (c1.up (hs8.trans (hs12.trans hs14))) rfl t18 ?_
    have hs19 : p_x s13 s16 := t18.1
    show p_Go K l m_Mo_test 99 [(3, p_i x4), (0, p_r v0), (1, p_i v1), (2, p_i v2)] [p_i r20] s16 _
    refine g_if_ne 104 (dk_Mo_test 59 rfl) (by decide) (fun b21 => ?_) (fun b21 => ?_)
    · have h := p_ifT b21 h
      refine g_aload_n (i := 0) (j := 1) (dk_Mo_test 62 rfl) rfl rfl ?_
      refine g_getR fl_Mo_192 (Or.inr ⟨_, rfl⟩) (dk_Mo_test 63 rfl) (c1.up (hs8.trans (hs12.trans (hs14.trans hs19)))) ?_
      refine g_iload_n (i := 3) (j := 0) (dk_Mo_test 64 rfl) rfl rfl ?_
      refine g_aload_n (i := 0) (j := 1) (dk_Mo_test 65 rfl) rfl rfl ?_
      refine g_getI fl_Mo_314 (Or.inl rfl) (dk_Mo_test 66 rfl) (c1.up (hs8.trans (hs12.trans (hs14.trans hs19)))) ?_
      obtain ⟨c22, h⟩ := p_gdE h
      obtain ⟨c23, h⟩ := p_gdE h
      refine g_iastore (dk_Mo_test 67 rfl) c22 c23.1 c23.2 ?_
      refine p_ltS (P := fun q => p_Go K l m_Mo_test 114 [(3, p_i x4), (0, p_r v0), (1, p_i v1), (2, p_i v2)] [] q _) (p_xZ _ _ _ _) ?_ h
      intro s24 hs25 h
      refine g_sub [(0, p_r v0), (1, p_i v1), (3, p_i x4)] [1, 2, 0] rfl ?_
      exact tB_Mo_test_114 K l v0 v1 x4 s24 _ h
    · have h := p_ifF b21 h
      refine g_iconst (dk_Mo_test 60 rfl) (by decide) ?_
      cases h
      exact g_ret rfl rfl (dk_Mo_test 61 rfl) (fun _ => ⟨_, rfl, Or.inl rfl⟩)
set_option maxRecDepth 100000 in
set_option maxHeartbeats 4000000 in
theorem tF_Mo_test (K : p_K) (l : Launch) (v0 : Nat) (v1 : Int) (s0 : p_Hp) (r : (Int × p_Hp)) (h : F_Mo_test v0 v1 s0 = some r) : p_Ct K l m_Mo_test [p_r v0, p_i v1] s0 (some (p_i r.1), r.2) := by
  refine p_Ct.of (by decide +kernel) (Nat.le_of_ble_eq_true rfl) ?_
  unfold F_Mo_test at h
  show p_Go K l m_Mo_test 0 [(0, p_r v0), (1, p_i v1)] [] s0 _
  refine g_aload_n (i := 0) (j := 0) (dk_Mo_test 0 rfl) rfl rfl ?_
  obtain ⟨c1, h⟩ := p_gdE h
  obtain ⟨r6, s2, q3, h⟩ := p_bdE h
  have t4 := tF_Mo_here K l v0 s0 _ q3
  refine g_callV (a := v0) (ci := 11) (q0 := (RX11, TX11, 90)) (As := []) (rest := []) [p_i r6] mt_Mo_here rfl rfl tw_7_170 ts_55 tw_7_168 ⟨Nat.le_of_ble_eq_true rfl, Nat.le_of_ble_eq_true rfl⟩ rfl (Nat.le_of_ble_eq_true rfl) (dk_Mo_test 1 rfl) rfl c1 rfl t4 ?_
  have hs5 : p_x s0 s2 := t4.1
  show p_Go K l m_Mo_test 4 [(0, p_r v0), (1, p_i v1)] [p_i r6] s2 _
  refine g_istore_n (i := 2) [(2, p_i r6), (0, p_r v0), (1, p_i v1)] (dk_Mo_test 2 rfl) rfl (by decide) rfl ?_
  refine g_aload_n (i := 0) (j := 1) (dk_Mo_test 3 rfl) rfl rfl ?_
  refine g_getR fl_Mo_186 (Or.inr ⟨_, rfl⟩) (dk_Mo_test 4 rfl) (c1.up hs5) ?_
  refine g_iload_n (i := 1) (j := 2) (dk_Mo_test 5 rfl) rfl rfl ?_
  obtain ⟨c7, h⟩ := p_gdE h
  obtain ⟨c8, h⟩ := p_gdE h
  refine g_iaload (dk_Mo_test 6 rfl) c7 c8.1 c8.2 ?_
  refine g_iconst (dk_Mo_test 7 rfl) (by decide) ?_
  refine g_icmp_eq 45 (dk_Mo_test 8 rfl) (by decide) (fun b9 => ?_) (fun b9 => ?_)
  · have h := p_ifT b9 h
    refine g_sub [(0, p_r v0)] [1] rfl ?_
    exact tB_Mo_test_45 K l v0 s2 _ h
  · have h := p_ifF b9 h
    refine g_iload_n (i := 2) (j := 0) (dk_Mo_test 9 rfl) rfl rfl ?_
    refine g_bipush (dk_Mo_test 10 rfl) (by decide +kernel) (by decide) ?_
    refine g_icmp_eq 54 (dk_Mo_test 11 rfl) (by decide) (fun b10 => ?_) (fun b10 => ?_)
    · have h := p_ifT b10 h
      refine g_sub [(0, p_r v0), (1, p_i v1), (2, p_i r6)] [1, 2, 0] rfl ?_
      exact tB_Mo_test_54 K l v0 v1 r6 s2 _ h
    · have h := p_ifF b10 h
      refine g_iload_n (i := 2) (j := 0) (dk_Mo_test 12 rfl) rfl rfl ?_
      refine g_bipush (dk_Mo_test 13 rfl) (by decide +kernel) (by decide) ?_
      refine g_icmp_eq 54 (dk_Mo_test 14 rfl) (by decide) (fun b11 => ?_) (fun b11 => ?_)
      · have h := p_ifT b11 h
        refine g_sub [(0, p_r v0), (1, p_i v1), (2, p_i r6)] [1, 2, 0] rfl ?_
        exact tB_Mo_test_54 K l v0 v1 r6 s2 _ h
      · have h := p_ifF b11 h
        refine g_iload_n (i := 2) (j := 0) (dk_Mo_test 15 rfl) rfl rfl ?_
        refine g_bipush (dk_Mo_test 16 rfl) (by decide +kernel) (by decide) ?_
        refine g_icmp_eq 54 (dk_Mo_test 17 rfl) (by decide) (fun b12 => ?_) (fun b12 => ?_)
        · have h := p_ifT b12 h
          refine g_sub [(0, p_r v0), (1, p_i v1), (2, p_i r6)] [1, 2, 0] rfl ?_
          exact tB_Mo_test_54 K l v0 v1 r6 s2 _ h
        · have h := p_ifF b12 h
          refine g_iload_n (i := 2) (j := 0) (dk_Mo_test 18 rfl) rfl rfl ?_
          refine g_bipush (dk_Mo_test 19 rfl) (by decide +kernel) (by decide) ?_
          refine g_icmp_eq 54 (dk_Mo_test 20 rfl) (by decide) (fun b13 => ?_) (fun b13 => ?_)
          · have h := p_ifT b13 h
            refine g_sub [(0, p_r v0), (1, p_i v1), (2, p_i r6)] [1, 2, 0] rfl ?_
            exact tB_Mo_test_54 K l v0 v1 r6 s2 _ h
          · have h := p_ifF b13 h
            refine g_iload_n (i := 2) (j := 0) (dk_Mo_test 21 rfl) rfl rfl ?_
            refine g_bipush (dk_Mo_test 22 rfl) (by decide +kernel) (by decide) ?_
            refine g_icmp_eq 54 (dk_Mo_test 23 rfl) (by decide) (fun b14 => ?_) (fun b14 => ?_)
            · have h := p_ifT b14 h
              refine g_sub [(0, p_r v0), (1, p_i v1), (2, p_i r6)] [1, 2, 0] rfl ?_
              exact tB_Mo_test_54 K l v0 v1 r6 s2 _ h
            · have h := p_ifF b14 h
              refine g_sub [(0, p_r v0)] [1] rfl ?_
              exact tB_Mo_test_45 K l v0 s2 _ h
def m_Mo_rule_0 : p_Me := (⟨"SortWorksModel", "rule", "(I)Z"⟩, prog_13_method_34_code, 4, (some .boolean), 3, 65)
theorem mt_Mo_rule_0 : p_Mt m_Mo_rule_0 1 := ⟨p_mem (p_tb7 (List.mem_of_getElem? (i := 163) rfl)) rfl, tw_1_12, by decide +kernel, by decide +kernel, by decide +kernel⟩
def dt_Mo_rule_0 : List (Nat × Instr × Nat) := [(0, .iload_n 1, 1), (1, .bipush 12, 2), (3, .if_icmp .ne 12, 3), (6, .aload_n 0, 1), (7, .aload_n 0, 1), (8, .getfield 298, 3), (11, .invokevirtual 311, 3), (14, .ireturn, 1), (15, .aload_n 0, 1), (16, .getfield 186, 3), (19, .iload_n 1, 1), (20, .iconst 0, 1), (21, .iastore, 1), (22, .aload_n 0, 1), (23, .invokevirtual 304, 3), (26, .bipush 58, 2), (28, .if_icmp .eq 7, 3), (31, .iconst 1, 1), (32, .goto 4, 3), (35, .iconst 0, 1), (36, .istore_n 2, 1), (37, .iload_n 2, 1), (38, .ifCond .eq 49, 3), (41, .aload_n 0, 1), (42, .iload_n 1, 1), (43, .invokevirtual 324, 3), (46, .ifCond .ne 5, 3), (49, .iconst 0, 1), (50, .ireturn, 1), (51, .aload_n 0, 1), (52, .invokevirtual 304, 3), (55, .bipush 44, 2), (57, .if_icmp .ne 7, 3), (60, .iconst 1, 1), (61, .goto 4, 3), (64, .iconst 0, 1), (65, .istore_n 2, 1), (66, .aload_n 0, 1), (67, .dup, 1), (68, .getfield 298, 3), (71, .iload_n 2, 1), (72, .ifCond .eq 7, 3), (75, .iconst 1, 1), (76, .goto 4, 3), (79, .iconst 0, 1), (80, .iadd, 1), (81, .putfield 298, 3), (84, .goto (-47), 3), (87, .aload_n 0, 1), (88, .invokevirtual 304, 3), (91, .bipush 58, 2), (93, .if_icmp .eq 12, 3), (96, .aload_n 0, 1), (97, .aload_n 0, 1), (98, .getfield 298, 3), (101, .invokevirtual 311, 3), (104, .ireturn, 1), (105, .aload_n 0, 1), (106, .dup, 1), (107, .getfield 298, 3), (110, .iconst 1, 1), (111, .iadd, 1), (112, .putfield 298, 3), (115, .aload_n 0, 1), (116, .getfield 298, 3), (119, .istore_n 3, 1), (120, .aload_n 0, 1), (121, .invokevirtual 317, 3), (124, .ifCond .ne 5, 3), (127, .iconst 0, 1), (128, .ireturn, 1), (129, .aload_n 0, 1), (130, .getfield 314, 3), (133, .bipush 39, 2), (135, .if_icmp .le 30, 3), (138, .aload_n 0, 1), (139, .getfield 298, 3), (142, .aload_n 0, 1), (143, .getfield 295, 3), (146, .if_icmp .lt 13, 3), (149, .aload_n 0, 1), (150, .getfield 298, 3), (153, .iload_n 3, 1), (154, .isub, 1), (155, .iconst 4, 1), (156, .if_icmp .ne 9, 3), (159, .aload_n 0, 1), (160, .iload_n 3, 1), (161, .invokevirtual 311, 3), (164, .ireturn, 1), (165, .aload_n 0, 1), (166, .getfield 183, 3), (169, .iload_n 1, 1), (170, .aload_n 0, 1), (171, .getfield 314, 3), (174, .iastore, 1), (175, .aload_n 0, 1), (176, .invokevirtual 304, 3), (179, .bipush 59, 2), (181, .if_icmp .eq 12, 3), (184, .aload_n 0, 1), (185, .aload_n 0, 1), (186, .getfield 298, 3), (189, .invokevirtual 311, 3), (192, .ireturn, 1), (193, .aload_n 0, 1), (194, .dup, 1), (195, .getfield 298, 3), (198, .iconst 1, 1), (199, .iadd, 1), (200, .putfield 298, 3), (203, .iconst 1, 1), (204, .ireturn, 1)]
theorem dk_Mo_rule_0 (i : Nat) {pc : Nat} {ins : Instr} {len : Nat} (h : dt_Mo_rule_0[i]? = some (pc, ins, len)) : decode m_Mo_rule_0.2.1 pc = .ok (ins, len) := p_dk (b := m_Mo_rule_0.2.1) (t := dt_Mo_rule_0) (by decide +kernel) i h
def B_Mo_rule_0_80 (k37 : Nat → Int → Int → p_Hp → Option (Int × p_Hp)) (v0 : Nat) (v1 : Int) (v2 : Int) (w0 : Int) (w1 : Int) (w2 : Nat) (s0 : p_Hp) : Option (Int × p_Hp) :=
  p_gd (p_is s0 w2 11) <|
  p_bi (p_wZ s0 w2 68 (p_w (w1 + w0))) fun s2 =>
  k37 v0 v1 v2 s2
def B_Mo_rule_0_65 (k37 : Nat → Int → Int → p_Hp → Option (Int × p_Hp)) (v0 : Nat) (v1 : Int) (w0 : Int) (s0 : p_Hp) : Option (Int × p_Hp) :=
  p_gd (p_is s0 v0 11) <|
  if w0 = 0 then
    B_Mo_rule_0_80 k37 v0 v1 w0 0 (p_Z s0 v0 68) v0 s0
  else
    B_Mo_rule_0_80 k37 v0 v1 w0 1 (p_Z s0 v0 68) v0 s0
def B_Mo_rule_0_159  (v0 : Nat) (v3 : Int) (s0 : p_Hp) : Option (Int × p_Hp) :=
  p_gd (p_is s0 v0 11) <|
  p_bd (F_Mo_wrong v0 v3 s0) fun r6 s2 =>
  p_gd (r6 = 0 ∨ r6 = 1) <|
  some (r6, s2)
def B_Mo_rule_0_165  (v0 : Nat) (v1 : Int) (s0 : p_Hp) : Option (Int × p_Hp) :=
  p_gd (p_is s0 v0 11) <|
  p_gd (p_is s0 (p_R s0 v0 62) 100) <|
  p_gd ((0 : Int) ≤ v1 ∧ v1 < (p_L s0 (p_R s0 v0 62) : Int)) <|
  p_bi (p_wZ s0 (p_R s0 v0 62) (v1 : Int).toNat (p_Z s0 v0 70)) fun s4 =>
  p_bd (F_Mo_here v0 s4) fun r10 s6 =>
  if r10 = 59 then
    p_bi (p_wZ s6 v0 68 (p_w ((p_Z s6 v0 68) + 1))) fun s12 =>
    some (1, s12)
  else
    p_bd (F_Mo_wrong v0 (p_Z s6 v0 68) s6) fun r18 s14 =>
    p_gd (r18 = 0 ∨ r18 = 1) <|
    some (r18, s14)
def L_Mo_rule_0_37 (k37 : Nat → Int → Int → p_Hp → Option (Int × p_Hp)) (v0 : Nat) (v1 : Int) (v2 : Int) (s0 : p_Hp) : Option (Int × p_Hp) :=
  if v2 = 0 then
    p_gd (p_is s0 v0 11) <|
    p_bd (F_Mo_here v0 s0) fun r7 s3 =>
    if r7 = 58 then
      p_bi (p_wZ s3 v0 68 (p_w ((p_Z s3 v0 68) + 1))) fun s9 =>
      p_bi ((p_Z s9 v0 68)) fun x11 =>
      p_bd (F_Mo_number v0 s9) fun r16 s12 =>
      if r16 ≠ 0 then
        if (p_Z s12 v0 70) ≤ 39 then
          B_Mo_rule_0_165 v0 v1 s12
        else
          if (p_Z s12 v0 68) < (p_Z s12 v0 47) then
            B_Mo_rule_0_159 v0 x11 s12
          else
            if (p_w ((p_Z s12 v0 68) - x11)) ≠ 4 then
              B_Mo_rule_0_165 v0 v1 s12
            else
              B_Mo_rule_0_159 v0 x11 s12
      else
        some (0, s12)
    else
      p_bd (F_Mo_wrong v0 (p_Z s3 v0 68) s3) fun r25 s21 =>
      p_gd (r25 = 0 ∨ r25 = 1) <|
      some (r25, s21)
  else
    p_gd (p_is s0 v0 11) <|
    p_bd (F_Mo_test v0 v1 s0) fun r32 s28 =>
    if r32 ≠ 0 then
      p_bd (F_Mo_here v0 s28) fun r38 s34 =>
      if r38 ≠ 44 then
        B_Mo_rule_0_65 k37 v0 v1 0 s34
      else
        B_Mo_rule_0_65 k37 v0 v1 1 s34
    else
      some (0, s28)
def O_Mo_rule_0_37  : Nat → Nat → Int → Int → p_Hp → Option (Int × p_Hp)
  | 0 => fun _ _ _ _ => none
  | n + 1 => L_Mo_rule_0_37 (O_Mo_rule_0_37 n)
def B_Mo_rule_0_36  (v0 : Nat) (v1 : Int) (w0 : Int) (s0 : p_Hp) : Option (Int × p_Hp) :=
  O_Mo_rule_0_37 3000 v0 v1 w0 s0
def F_Mo_rule_0 (v0 : Nat) (v1 : Int) (s0 : p_Hp) : Option (Int × p_Hp) :=
  if v1 ≠ 12 then
    p_gd (p_is s0 v0 11) <|
    p_gd (p_is s0 (p_R s0 v0 63) 100) <|
    p_gd ((0 : Int) ≤ v1 ∧ v1 < (p_L s0 (p_R s0 v0 63) : Int)) <|
    p_bi (p_wZ s0 (p_R s0 v0 63) (v1 : Int).toNat 0) fun s5 =>
    p_bd (F_Mo_here v0 s5) fun r11 s7 =>
    if r11 = 58 then
      B_Mo_rule_0_36 v0 v1 0 s7
    else
      B_Mo_rule_0_36 v0 v1 1 s7
  else
    p_gd (p_is s0 v0 11) <|
    p_bd (F_Mo_wrong v0 (p_Z s0 v0 68) s0) fun r18 s14 =>
    p_gd (r18 = 0 ∨ r18 = 1) <|
    some (r18, s14)
set_option maxRecDepth 100000 in
set_option maxHeartbeats 4000000 in
theorem tB_Mo_rule_0_80 (K : p_K) (l : Launch) (k37 : Nat → Int → Int → p_Hp → Option (Int × p_Hp)) (hk37 : ∀ (v0 : Nat) (v1 : Int) (v2 : Int)  (s0 : p_Hp) (r : (Int × p_Hp)), k37 v0 v1 v2 s0 = some r → p_Go K l m_Mo_rule_0 37 [(0, p_r v0), (1, p_i v1), (2, p_i v2)] [] s0 (some (p_i r.1), r.2)) (v0 : Nat) (v1 : Int) (v2 : Int) (w0 : Int) (w1 : Int) (w2 : Nat) (s0 : p_Hp) (r : (Int × p_Hp)) (h : B_Mo_rule_0_80 k37 v0 v1 v2 w0 w1 w2 s0 = some r) : p_Go K l m_Mo_rule_0 80 [(0, p_r v0), (1, p_i v1), (2, p_i v2)] [p_i w0, p_i w1, p_r w2] s0 (some (p_i r.1), r.2) := by
  unfold B_Mo_rule_0_80 at h
  refine g_iadd (dk_Mo_rule_0 45 rfl) ?_
  obtain ⟨c1, h⟩ := p_gdE h
  refine g_putI fl_Mo_298 (Or.inl rfl) (dk_Mo_rule_0 46 rfl) c1 ?_
  refine p_ltS (P := fun q => p_Go K l m_Mo_rule_0 84 [(0, p_r v0), (1, p_i v1), (2, p_i v2)] [] q _) (p_xZ _ _ _ _) ?_ h
  intro s2 hs3 h
  refine g_goto 37 (dk_Mo_rule_0 47 rfl) (by decide) ?_
  exact hk37 v0 v1 v2 s2 _ h
set_option maxRecDepth 100000 in
set_option maxHeartbeats 4000000 in
theorem tB_Mo_rule_0_65 (K : p_K) (l : Launch) (k37 : Nat → Int → Int → p_Hp → Option (Int × p_Hp)) (hk37 : ∀ (v0 : Nat) (v1 : Int) (v2 : Int)  (s0 : p_Hp) (r : (Int × p_Hp)), k37 v0 v1 v2 s0 = some r → p_Go K l m_Mo_rule_0 37 [(0, p_r v0), (1, p_i v1), (2, p_i v2)] [] s0 (some (p_i r.1), r.2)) (v0 : Nat) (v1 : Int) (w0 : Int) (s0 : p_Hp) (r : (Int × p_Hp)) (h : B_Mo_rule_0_65 k37 v0 v1 w0 s0 = some r) : p_Go K l m_Mo_rule_0 65 [(0, p_r v0), (1, p_i v1)] [p_i w0] s0 (some (p_i r.1), r.2) := by
  unfold B_Mo_rule_0_65 at h
  refine g_istore_n (i := 2) [(2, p_i w0), (0, p_r v0), (1, p_i v1)] (dk_Mo_rule_0 36 rfl) rfl (by decide) rfl ?_
  refine g_aload_n (i := 0) (j := 1) (dk_Mo_rule_0 37 rfl) rfl rfl ?_
  refine g_dup (dk_Mo_rule_0 38 rfl) rfl ?_
  obtain ⟨c1, h⟩ := p_gdE h
  refine g_getI fl_Mo_298 (Or.inl rfl) (dk_Mo_rule_0 39 rfl) c1 ?_
  refine g_iload_n (i := 2) (j := 0) (dk_Mo_rule_0 40 rfl) rfl rfl ?_
  refine g_if_eq 79 (dk_Mo_rule_0 41 rfl) (by decide) (fun b2 => ?_) (fun b2 => ?_)
  · have h := p_ifT b2 h
    refine g_iconst (dk_Mo_rule_0 44 rfl) (by decide) ?_
    refine g_sub [(0, p_r v0), (1, p_i v1), (2, p_i w0)] [1, 2, 0] rfl ?_
    exact tB_Mo_rule_0_80 K l k37 hk37 v0 v1 w0 0 (p_Z s0 v0 68) v0 s0 _ h
  · have h := p_ifF b2 h
    refine g_iconst (dk_Mo_rule_0 42 rfl) (by decide) ?_
    refine g_goto 80 (dk_Mo_rule_0 43 rfl) (by decide) ?_
    refine g_sub [(0, p_r v0), (1, p_i v1), (2, p_i w0)] [1, 2, 0] rfl ?_
    exact tB_Mo_rule_0_80 K l k37 hk37 v0 v1 w0 1 (p_Z s0 v0 68) v0 s0 _ h
set_option maxRecDepth 100000 in
set_option maxHeartbeats 4000000 in
theorem tB_Mo_rule_0_159 (K : p_K) (l : Launch)  (v0 : Nat) (v3 : Int) (s0 : p_Hp) (r : (Int × p_Hp)) (h : B_Mo_rule_0_159 v0 v3 s0 = some r) : p_Go K l m_Mo_rule_0 159 [(0, p_r v0), (3, p_i v3)] [] s0 (some (p_i r.1), r.2) := by
  unfold B_Mo_rule_0_159 at h
  refine g_aload_n (i := 0) (j := 0) (dk_Mo_rule_0 86 rfl) rfl rfl ?_
  refine g_iload_n (i := 3) (j := 1) (dk_Mo_rule_0 87 rfl) rfl rfl ?_
  obtain ⟨c1, h⟩ := p_gdE h
  obtain ⟨r6, s2, q3, h⟩ := p_bdE h
  have t4 := tF_Mo_wrong K l v0 v3 s0 _ q3
  refine g_callV (a := v0) (ci := 11) (q0 := (RX11, TX11, 90)) (As := [p_i v3]) (rest := []) [p_i r6] mt_Mo_wrong rfl rfl tw_7_166 ts_54 tw_7_164 ⟨Nat.le_of_ble_eq_true rfl, Nat.le_of_ble_eq_true rfl⟩ rfl (Nat.le_of_ble_eq_true rfl) (dk_Mo_rule_0 88 rfl) rfl c1 rfl t4 ?_
  have hs5 : p_x s0 s2 := t4.1
  show p_Go K l m_Mo_rule_0 164 [(0, p_r v0), (3, p_i v3)] [p_i r6] s2 _
  obtain ⟨c7, h⟩ := p_gdE h
  cases h
  exact g_ret rfl rfl (dk_Mo_rule_0 89 rfl) (fun _ => ⟨_, rfl, c7⟩)
set_option maxRecDepth 100000 in
set_option maxHeartbeats 4000000 in
theorem tB_Mo_rule_0_165 (K : p_K) (l : Launch)  (v0 : Nat) (v1 : Int) (s0 : p_Hp) (r : (Int × p_Hp)) (h : B_Mo_rule_0_165 v0 v1 s0 = some r) : p_Go K l m_Mo_rule_0 165 [(0, p_r v0), (1, p_i v1)] [] s0 (some (p_i r.1), r.2) := by
  unfold B_Mo_rule_0_165 at h
  refine g_aload_n (i := 0) (j := 0) (dk_Mo_rule_0 90 rfl) rfl rfl ?_
  obtain ⟨c1, h⟩ := p_gdE h
  refine g_getR fl_Mo_183 (Or.inr ⟨_, rfl⟩) (dk_Mo_rule_0 91 rfl) c1 ?_
  refine g_iload_n (i := 1) (j := 1) (dk_Mo_rule_0 92 rfl) rfl rfl ?_
  refine g_aload_n (i := 0) (j := 0) (dk_Mo_rule_0 93 rfl) rfl rfl ?_
  refine g_getI fl_Mo_314 (Or.inl rfl) (dk_Mo_rule_0 94 rfl) c1 ?_
  obtain ⟨c2, h⟩ := p_gdE h
  obtain ⟨c3, h⟩ := p_gdE h
  refine g_iastore (dk_Mo_rule_0 95 rfl) c2 c3.1 c3.2 ?_
  refine p_ltS (P := fun q => p_Go K l m_Mo_rule_0 175 [(0, p_r v0), (1, p_i v1)] [] q _) (p_xZ _ _ _ _) ?_ h
  intro s4 hs5 h
  refine g_aload_n (i := 0) (j := 0) (dk_Mo_rule_0 96 rfl) rfl rfl ?_
  obtain ⟨r10, s6, q7, h⟩ := p_bdE h
  have t8 := tF_Mo_here K l v0 s4 _ q7
  refine g_callV (a := v0) (ci := 11) (q0 := (RX11, TX11, 90)) (As := []) (rest := []) [p_i r10] mt_Mo_here rfl rfl tw_7_170 ts_55 tw_7_168 ⟨Nat.le_of_ble_eq_true rfl, Nat.le_of_ble_eq_true rfl⟩ rfl (Nat.le_of_ble_eq_true rfl) (dk_Mo_rule_0 97 rfl) rfl (c1.up hs5) rfl t8 ?_
  have hs9 : p_x s4 s6 := t8.1
  show p_Go K l m_Mo_rule_0 179 [(0, p_r v0), (1, p_i v1)] [p_i r10] s6 _
  refine g_bipush (dk_Mo_rule_0 98 rfl) (by decide +kernel) (by decide) ?_
  refine g_icmp_eq 193 (dk_Mo_rule_0 99 rfl) (by decide) (fun b11 => ?_) (fun b11 => ?_)
  · have h := p_ifT b11 h
    refine g_aload_n (i := 0) (j := 0) (dk_Mo_rule_0 105 rfl) rfl rfl ?_
    refine g_dup (dk_Mo_rule_0 106 rfl) rfl ?_
    refine g_getI fl_Mo_298 (Or.inl rfl) (dk_Mo_rule_0 107 rfl) (c1.up (hs5.trans hs9)) ?_
    refine g_iconst (dk_Mo_rule_0 108 rfl) (by decide) ?_
    refine g_iadd (dk_Mo_rule_0 109 rfl) ?_
    refine g_putI fl_Mo_298 (Or.inl rfl) (dk_Mo_rule_0 110 rfl) (c1.up (hs5.trans hs9)) ?_
    refine p_ltS (P := fun q => p_Go K l m_Mo_rule_0 203 [(0, p_r v0), (1, p_i v1)] [] q _) (p_xZ _ _ _ _) ?_ h
    intro s12 hs13 h
    refine g_iconst (dk_Mo_rule_0 111 rfl) (by decide) ?_
    cases h
    exact g_ret rfl rfl (dk_Mo_rule_0 112 rfl) (fun _ => ⟨_, rfl, Or.inr rfl⟩)
  · have h := p_ifF b11 h
    refine g_aload_n (i := 0) (j := 0) (dk_Mo_rule_0 100 rfl) rfl rfl ?_
    refine g_aload_n (i := 0) (j := 0) (dk_Mo_rule_0 101 rfl) rfl rfl ?_
    refine g_getI fl_Mo_298 (Or.inl rfl) (dk_Mo_rule_0 102 rfl) (c1.up (hs5.trans hs9)) ?_
    obtain ⟨r18, s14, q15, h⟩ := p_bdE h
    have t16 := tF_Mo_wrong K l v0 (p_Z s6 v0 68) s6 _ q15
    refine g_callV (a := v0) (ci := 11) (q0 := (RX11, TX11, 90)) (As := [p_i (p_Z s6 v0 68)]) (rest := []) [p_i r18] mt_Mo_wrong rfl rfl tw_7_166 ts_54 tw_7_164 ⟨Nat.le_of_ble_eq_true rfl, Nat.le_of_ble_eq_true rfl⟩ rfl (Nat.le_of_ble_eq_true rfl) (dk_Mo_rule_0 103 rfl) rfl (c1.up (hs5.trans hs9)) rfl t16 ?_
    have hs17 : p_x s6 s14 := t16.1
    show p_Go K l m_Mo_rule_0 192 [(0, p_r v0), (1, p_i v1)] [p_i r18] s14 _
    obtain ⟨c19, h⟩ := p_gdE h
    cases h
    exact g_ret rfl rfl (dk_Mo_rule_0 104 rfl) (fun _ => ⟨_, rfl, c19⟩)
set_option maxRecDepth 100000 in
set_option maxHeartbeats 4000000 in
theorem tL_Mo_rule_0_37 (K : p_K) (l : Launch) (k37 : Nat → Int → Int → p_Hp → Option (Int × p_Hp)) (hk37 : ∀ (v0 : Nat) (v1 : Int) (v2 : Int)  (s0 : p_Hp) (r : (Int × p_Hp)), k37 v0 v1 v2 s0 = some r → p_Go K l m_Mo_rule_0 37 [(0, p_r v0), (1, p_i v1), (2, p_i v2)] [] s0 (some (p_i r.1), r.2)) (v0 : Nat) (v1 : Int) (v2 : Int) (s0 : p_Hp) (r : (Int × p_Hp)) (h : L_Mo_rule_0_37 k37 v0 v1 v2 s0 = some r) : p_Go K l m_Mo_rule_0 37 [(0, p_r v0), (1, p_i v1), (2, p_i v2)] [] s0 (some (p_i r.1), r.2) := by
  unfold L_Mo_rule_0_37 at h
  refine g_iload_n (i := 2) (j := 2) (dk_Mo_rule_0 21 rfl) rfl rfl ?_
  refine g_if_eq 87 (dk_Mo_rule_0 22 rfl) (by decide) (fun b1 => ?_) (fun b1 => ?_)
  · have h := p_ifT b1 h
    refine g_aload_n (i := 0) (j := 0) (dk_Mo_rule_0 48 rfl) rfl rfl ?_
    obtain ⟨c2, h⟩ := p_gdE h
    obtain ⟨r7, s3, q4, h⟩ := p_bdE h
    have t5 := tF_Mo_here K l v0 s0 _ q4
    refine g_callV (a := v0) (ci := 11) (q0 := (RX11, TX11, 90)) (As := []) (rest := []) [p_i r7] mt_Mo_here rfl rfl tw_7_170 ts_55 tw_7_168 ⟨Nat.le_of_ble_eq_true rfl, Nat.le_of_ble_eq_true rfl⟩ rfl (Nat.le_of_ble_eq_true rfl) (dk_Mo_rule_0 49 rfl) rfl c2 rfl t5 ?_
    have hs6 : p_x s0 s3 := t5.1
    show p_Go K l m_Mo_rule_0 91 [(0, p_r v0), (1, p_i v1), (2, p_i v2)] [p_i r7] s3 _
    refine g_bipush (dk_Mo_rule_0 50 rfl) (by decide +kernel) (by decide) ?_
    refine g_icmp_eq 105 (dk_Mo_rule_0 51 rfl) (by decide) (fun b8 => ?_) (fun b8 => ?_)
    · have h := p_ifT b8 h
      refine g_aload_n (i := 0) (j := 0) (dk_Mo_rule_0 57 rfl) rfl rfl ?_
      refine g_dup (dk_Mo_rule_0 58 rfl) rfl ?_
      refine g_getI fl_Mo_298 (Or.inl rfl) (dk_Mo_rule_0 59 rfl) (c2.up hs6) ?_
      refine g_iconst (dk_Mo_rule_0 60 rfl) (by decide) ?_
      refine g_iadd (dk_Mo_rule_0 61 rfl) ?_
      refine g_putI fl_Mo_298 (Or.inl rfl) (dk_Mo_rule_0 62 rfl) (c2.up hs6) ?_
      refine p_ltS (P := fun q => p_Go K l m_Mo_rule_0 115 [(0, p_r v0), (1, p_i v1), (2, p_i v2)] [] q _) (p_xZ _ _ _ _) ?_ h
      intro s9 hs10 h
      refine g_aload_n (i := 0) (j := 0) (dk_Mo_rule_0 63 rfl) rfl rfl ?_
      refine g_getI fl_Mo_298 (Or.inl rfl) (dk_Mo_rule_0 64 rfl) (c2.up (hs6.trans hs10)) ?_
      refine g_istore_n (i := 3) [(3, p_i (p_Z s9 v0 68)), (0, p_r v0), (1, p_i v1), (2, p_i v2)] (dk_Mo_rule_0 65 rfl) rfl (by decide) rfl ?_
      refine p_ltG (P := fun q => p_Go K l m_Mo_rule_0 120 [(3, p_i q), (0, p_r v0), (1, p_i v1), (2, p_i v2)] [] s9 _) ?_ h
      intro x11 h
      refine g_aload_n (i := 0) (j := 1) (dk_Mo_rule_0 66 rfl) rfl rfl ?_
      obtain ⟨r16, s12, q13, h⟩ := p_bdE h
      have t14 := tF_Mo_number K l v0 s9 _ q13
      refine g_callV (a := v0) (ci := 11) (q0 := (RX11, TX11, 90)) (As := []) (rest := []) [p_i r16] mt_Mo_number rfl rfl tw_7_178 ts_57 tw_7_176 ⟨Nat.le_of_ble_eq_true rfl, Nat.le_of_ble_eq_true rfl⟩ rfl (Nat.le_of_ble_eq_true rfl) (dk_Mo_rule_0 67 rfl) rfl (c2.up (hs6.trans hs10)) rfl t14 ?_
      have hs15 : p_x s9 s12 := t14.1
      show p_Go K l m_Mo_rule_0 124 [(3, p_i x11), (0, p_r v0), (1, p_i v1), (2, p_i v2)] [p_i r16] s12 _
      refine g_if_ne 129 (dk_Mo_rule_0 68 rfl) (by decide) (fun b17 => ?_) (fun b17 => ?_)
      · have h := p_ifT b17 h
        refine g_aload_n (i := 0) (j := 1) (dk_Mo_rule_0 71 rfl) rfl rfl ?_
        refine g_getI fl_Mo_314 (Or.inl rfl) (dk_Mo_rule_0 72 rfl) (c2.up (hs6.trans (hs10.trans hs15))) ?_
        refine g_bipush (dk_Mo_rule_0 73 rfl) (by decide +kernel) (by decide) ?_
        refine g_icmp_le 165 (dk_Mo_rule_0 74 rfl) (by decide) (fun b18 => ?_) (fun b18 => ?_)
        · have h := p_ifT b18 h
          refine g_sub [(0, p_r v0), (1, p_i v1)] [1, 2] rfl ?_
          exact tB_Mo_rule_0_165 K l v0 v1 s12 _ h
        · have h := p_ifF b18 h
          refine g_aload_n (i := 0) (j := 1) (dk_Mo_rule_0 75 rfl) rfl rfl ?_
          refine g_getI fl_Mo_298 (Or.inl rfl) (dk_Mo_rule_0 76 rfl) (c2.up (hs6.trans (hs10.trans hs15))) ?_
          refine g_aload_n (i := 0) (j := 1) (dk_Mo_rule_0 77 rfl) rfl rfl ?_
          refine g_getI fl_Mo_295 (Or.inl rfl) (dk_Mo_rule_0 78 rfl) (c2.up (hs6.trans (hs10.trans hs15))) ?_
          refine g_icmp_lt 159 (dk_Mo_rule_0 79 rfl) (by decide) (fun b19 => ?_) (fun b19 => ?_)
          · have h := p_ifT b19 h
            refine g_sub [(0, p_r v0), (3, p_i x11)] [1, 0] rfl ?_
            exact tB_Mo_rule_0_159 K l v0 x11 s12 _ h
          · have h := p_ifF b19 h
            refine g_aload_n (i := 0) (j := 1) (dk_Mo_rule_0 80 rfl) rfl rfl ?_
            refine g_getI fl_Mo_298 (Or.inl rfl) (dk_Mo_rule_0 81 rfl) (c2.up (hs6.trans (hs10.trans hs15))) ?_
            refine g_iload_n (i := 3) (j := 0) (dk_Mo_rule_0 82 rfl) rfl rfl ?_
            refine g_isub (dk_Mo_rule_0 83 rfl) ?_
            refine g_iconst (dk_Mo_rule_0 84 rfl) (by decide) ?_
            refine g_icmp_ne 165 (dk_Mo_rule_0 85 rfl) (by decide) (fun b20 => ?_) (fun b20 => ?_)
            · have h := p_ifT b20 h
              refine g_sub [(0, p_r v0), (1, p_i v1)] [1, 2] rfl ?_
              exact tB_Mo_rule_0_165 K l v0 v1 s12 _ h
            · have h := p_ifF b20 h
              refine g_sub [(0, p_r v0), (3, p_i x11)] [1, 0] rfl ?_
              exact tB_Mo_rule_0_159 K l v0 x11 s12 _ h
      · have h := p_ifF b17 h
        refine g_iconst (dk_Mo_rule_0 69 rfl) (by decide) ?_
        cases h
        exact g_ret rfl rfl (dk_Mo_rule_0 70 rfl) (fun _ => ⟨_, rfl, Or.inl rfl⟩)
    · have h := p_ifF b8 h
      refine g_aload_n (i := 0) (j := 0) (dk_Mo_rule_0 52 rfl) rfl rfl ?_
      refine g_aload_n (i := 0) (j := 0) (dk_Mo_rule_0 53 rfl) rfl rfl ?_
      refine g_getI fl_Mo_298 (Or.inl rfl) (dk_Mo_rule_0 54 rfl) (c2.up hs6) ?_
      obtain ⟨r25, s21, q22, h⟩ := p_bdE h
      have t23 := tF_Mo_wrong K l v0 (p_Z s3 v0 68) s3 _ q22
      refine g_callV (a := v0) (ci := 11) (q0 := (RX11, TX11, 90)) (As := [p_i (p_Z s3 v0 68)]) (rest := []) [p_i r25] mt_Mo_wrong rfl rfl tw_7_166 ts_54 tw_7_164 ⟨Nat.le_of_ble_eq_true rfl, Nat.le_of_ble_eq_true rfl⟩ rfl (Nat.le_of_ble_eq_true rfl) (dk_Mo_rule_0 55 rfl) rfl (c2.up hs6) rfl t23 ?_
      have hs24 : p_x s3 s21 := t23.1
      show p_Go K l m_Mo_rule_0 104 [(0, p_r v0), (1, p_i v1), (2, p_i v2)] [p_i r25] s21 _
      obtain ⟨c26, h⟩ := p_gdE h
      cases h
      exact g_ret rfl rfl (dk_Mo_rule_0 56 rfl) (fun _ => ⟨_, rfl, c26⟩)
  · have h := p_ifF b1 h
    refine g_aload_n (i := 0) (j := 0) (dk_Mo_rule_0 23 rfl) rfl rfl ?_
    refine g_iload_n (i := 1) (j := 1) (dk_Mo_rule_0 24 rfl) rfl rfl ?_
    obtain ⟨c27, h⟩ := p_gdE h
    obtain ⟨r32, s28, q29, h⟩ := p_bdE h
    have t30 := tF_Mo_test K l v0 v1 s0 _ q29
    refine g_callV (a := v0) (ci := 11) (q0 := (RX11, TX11, 90)) (As := [p_i v1]) (rest := []) [p_i r32] mt_Mo_test rfl rfl tw_7_174 ts_56 tw_7_172 ⟨Nat.le_of_ble_eq_true rfl, Nat.le_of_ble_eq_true rfl⟩ rfl (Nat.le_of_ble_eq_true rfl) (dk_Mo_rule_0 25 rfl) rfl c27 rfl t30 ?_
    have hs31 : p_x s0 s28 := t30.1
    show p_Go K l m_Mo_rule_0 46 [(0, p_r v0), (1, p_i v1), (2, p_i v2)] [p_i r32] s28 _
    refine g_if_ne 51 (dk_Mo_rule_0 26 rfl) (by decide) (fun b33 => ?_) (fun b33 => ?_)
    · have h := p_ifT b33 h
      refine g_aload_n (i := 0) (j := 0) (dk_Mo_rule_0 29 rfl) rfl rfl ?_
      obtain ⟨r38, s34, q35, h⟩ := p_bdE h
      have t36 := tF_Mo_here K l v0 s28 _ q35
      refine g_callV (a := v0) (ci := 11) (q0 := (RX11, TX11, 90)) (As := []) (rest := []) [p_i r38] mt_Mo_here rfl rfl tw_7_170 ts_55 tw_7_168 ⟨Nat.le_of_ble_eq_true rfl, Nat.le_of_ble_eq_true rfl⟩ rfl (Nat.le_of_ble_eq_true rfl) (dk_Mo_rule_0 30 rfl) rfl (c27.up hs31) rfl t36 ?_
      have hs37 : p_x s28 s34 := t36.1
      show p_Go K l m_Mo_rule_0 55 [(0, p_r v0), (1, p_i v1), (2, p_i v2)] [p_i r38] s34 _
      refine g_bipush (dk_Mo_rule_0 31 rfl) (by decide +kernel) (by decide) ?_
      refine g_icmp_ne 64 (dk_Mo_rule_0 32 rfl) (by decide) (fun b39 => ?_) (fun b39 => ?_)
      · have h := p_ifT b39 h
        refine g_iconst (dk_Mo_rule_0 35 rfl) (by decide) ?_
        refine g_sub [(0, p_r v0), (1, p_i v1)] [0, 1] rfl ?_
        exact tB_Mo_rule_0_65 K l k37 hk37 v0 v1 0 s34 _ h
      · have h := p_ifF b39 h
        refine g_iconst (dk_Mo_rule_0 33 rfl) (by decide) ?_
        refine g_goto 65 (dk_Mo_rule_0 34 rfl) (by decide) ?_
        refine g_sub [(0, p_r v0), (1, p_i v1)] [0, 1] rfl ?_
        exact tB_Mo_rule_0_65 K l k37 hk37 v0 v1 1 s34 _ h
    · have h := p_ifF b33 h
      refine g_iconst (dk_Mo_rule_0 27 rfl) (by decide) ?_
      cases h
      exact g_ret rfl rfl (dk_Mo_rule_0 28 rfl) (fun _ => ⟨_, rfl, Or.inl rfl⟩)
set_option maxRecDepth 100000 in
set_option maxHeartbeats 4000000 in
theorem tO_Mo_rule_0_37 (K : p_K) (l : Launch)  : ∀ (n : Nat) (v0 : Nat) (v1 : Int) (v2 : Int) (s0 : p_Hp) (r : (Int × p_Hp)), O_Mo_rule_0_37 n v0 v1 v2 s0 = some r → p_Go K l m_Mo_rule_0 37 [(0, p_r v0), (1, p_i v1), (2, p_i v2)] [] s0 (some (p_i r.1), r.2) := by
  intro n
  induction n with
  | zero => intro v0 v1 v2 s0 r h; cases (show (none : Option (Int × p_Hp)) = some r from h)
  | succ n ih => intro v0 v1 v2 s0 r h; exact tL_Mo_rule_0_37 K l _ ih v0 v1 v2 s0 r h
set_option maxRecDepth 100000 in
set_option maxHeartbeats 4000000 in
theorem tB_Mo_rule_0_36 (K : p_K) (l : Launch)  (v0 : Nat) (v1 : Int) (w0 : Int) (s0 : p_Hp) (r : (Int × p_Hp)) (h : B_Mo_rule_0_36 v0 v1 w0 s0 = some r) : p_Go K l m_Mo_rule_0 36 [(0, p_r v0), (1, p_i v1)] [p_i w0] s0 (some (p_i r.1), r.2) := by
  unfold B_Mo_rule_0_36 at h
  refine g_istore_n (i := 2) [(2, p_i w0), (0, p_r v0), (1, p_i v1)] (dk_Mo_rule_0 20 rfl) rfl (by decide) rfl ?_
  refine g_sub [(0, p_r v0), (1, p_i v1), (2, p_i w0)] [1, 2, 0] rfl ?_
  exact tO_Mo_rule_0_37 K l 3000 v0 v1 w0 s0 _ h
set_option maxRecDepth 100000 in
set_option maxHeartbeats 4000000 in
theorem tF_Mo_rule_0 (K : p_K) (l : Launch) (v0 : Nat) (v1 : Int) (s0 : p_Hp) (r : (Int × p_Hp)) (h : F_Mo_rule_0 v0 v1 s0 = some r) : p_Ct K l m_Mo_rule_0 [p_r v0, p_i v1] s0 (some (p_i r.1), r.2) := by
  refine p_Ct.of (by decide +kernel) (Nat.le_of_ble_eq_true rfl) ?_
  unfold F_Mo_rule_0 at h
  show p_Go K l m_Mo_rule_0 0 [(0, p_r v0), (1, p_i v1)] [] s0 _
  refine g_iload_n (i := 1) (j := 1) (dk_Mo_rule_0 0 rfl) rfl rfl ?_
  refine g_bipush (dk_Mo_rule_0 1 rfl) (by decide +kernel) (by decide) ?_
  refine g_icmp_ne 15 (dk_Mo_rule_0 2 rfl) (by decide) (fun b1 => ?_) (fun b1 => ?_)
  · have h := p_ifT b1 h
    refine g_aload_n (i := 0) (j := 0) (dk_Mo_rule_0 8 rfl) rfl rfl ?_
    obtain ⟨c2, h⟩ := p_gdE h
    refine g_getR fl_Mo_186 (Or.inr ⟨_, rfl⟩) (dk_Mo_rule_0 9 rfl) c2 ?_
    refine g_iload_n (i := 1) (j := 1) (dk_Mo_rule_0 10 rfl) rfl rfl ?_
    refine g_iconst (dk_Mo_rule_0 11 rfl) (by decide) ?_
    obtain ⟨c3, h⟩ := p_gdE h
    obtain ⟨c4, h⟩ := p_gdE h
    refine g_iastore (dk_Mo_rule_0 12 rfl) c3 c4.1 c4.2 ?_
    refine p_ltS (P := fun q => p_Go K l m_Mo_rule_0 22 [(0, p_r v0), (1, p_i v1)] [] q _) (p_xZ _ _ _ _) ?_ h
    intro s5 hs6 h
    refine g_aload_n (i := 0) (j := 0) (dk_Mo_rule_0 13 rfl) rfl rfl ?_
    obtain ⟨r11, s7, q8, h⟩ := p_bdE h
    have t9 := tF_Mo_here K l v0 s5 _ q8
    refine g_callV (a := v0) (ci := 11) (q0 := (RX11, TX11, 90)) (As := []) (rest := []) [p_i r11] mt_Mo_here rfl rfl tw_7_170 ts_55 tw_7_168 ⟨Nat.le_of_ble_eq_true rfl, Nat.le_of_ble_eq_true rfl⟩ rfl (Nat.le_of_ble_eq_true rfl) (dk_Mo_rule_0 14 rfl) rfl (c2.up hs6) rfl t9 ?_
    have hs10 : p_x s5 s7 := t9.1
    show p_Go K l m_Mo_rule_0 26 [(0, p_r v0), (1, p_i v1)] [p_i r11] s7 _
    refine g_bipush (dk_Mo_rule_0 15 rfl) (by decide +kernel) (by decide) ?_
    refine g_icmp_eq 35 (dk_Mo_rule_0 16 rfl) (by decide) (fun b12 => ?_) (fun b12 => ?_)
    · have h := p_ifT b12 h
      refine g_iconst (dk_Mo_rule_0 19 rfl) (by decide) ?_
      exact tB_Mo_rule_0_36 K l v0 v1 0 s7 _ h
    · have h := p_ifF b12 h
      refine g_iconst (dk_Mo_rule_0 17 rfl) (by decide) ?_
      refine g_goto 36 (dk_Mo_rule_0 18 rfl) (by decide) ?_
      exact tB_Mo_rule_0_36 K l v0 v1 1 s7 _ h
  · have h := p_ifF b1 h
    refine g_aload_n (i := 0) (j := 0) (dk_Mo_rule_0 3 rfl) rfl rfl ?_
    refine g_aload_n (i := 0) (j := 0) (dk_Mo_rule_0 4 rfl) rfl rfl ?_
    obtain ⟨c13, h⟩ := p_gdE h
    refine g_getI fl_Mo_298 (Or.inl rfl) (dk_Mo_rule_0 5 rfl) c13 ?_
    obtain ⟨r18, s14, q15, h⟩ := p_bdE h
    have t16 := tF_Mo_wrong K l v0 (p_Z s0 v0 68) s0 _ q15
    refine g_callV (a := v0) (ci := 11) (q0 := (RX11, TX11, 90)) (As := [p_i (p_Z s0 v0 68)]) (rest := []) [p_i r18] mt_Mo_wrong rfl rfl tw_7_166 ts_54 tw_7_164 ⟨Nat.le_of_ble_eq_true rfl, Nat.le_of_ble_eq_true rfl⟩ rfl (Nat.le_of_ble_eq_true rfl) (dk_Mo_rule_0 6 rfl) rfl c13 rfl t16 ?_
    have hs17 : p_x s0 s14 := t16.1
    show p_Go K l m_Mo_rule_0 14 [(0, p_r v0), (1, p_i v1)] [p_i r18] s14 _
    obtain ⟨c19, h⟩ := p_gdE h
    cases h
    exact g_ret rfl rfl (dk_Mo_rule_0 7 rfl) (fun _ => ⟨_, rfl, c19⟩)
def m_Mo_load : p_Me := (⟨"SortWorksModel", "load", "()I"⟩, prog_13_method_35_code, 7, (some .int), 4, 88)
theorem mt_Mo_load : p_Mt m_Mo_load 0 := ⟨p_mem (p_tb7 (List.mem_of_getElem? (i := 159) rfl)) rfl, tw_1_12, by decide +kernel, by decide +kernel, by decide +kernel⟩
def dt_Mo_load : List (Nat × Instr × Nat) := [(0, .aload_n 0, 1), (1, .iconst 0, 1), (2, .putfield 298, 3), (5, .iconst 0, 1), (6, .istore_n 1, 1), (7, .iconst 1, 1), (8, .istore_n 2, 1), (9, .iconst 1, 1), (10, .istore_n 3, 1), (11, .iload_n 2, 1), (12, .ifCond .eq 36, 3), (15, .iload_n 3, 1), (16, .ifCond .eq 32, 3), (19, .aload_n 0, 1), (20, .iload_n 1, 1), (21, .invokevirtual 327, 3), (24, .istore_n 2, 1), (25, .iinc 1 1, 3), (28, .aload_n 0, 1), (29, .getfield 298, 3), (32, .aload_n 0, 1), (33, .getfield 295, 3), (36, .if_icmp .ge 7, 3), (39, .iconst 1, 1), (40, .goto 4, 3), (43, .iconst 0, 1), (44, .istore_n 3, 1), (45, .goto (-34), 3), (48, .aload_n 0, 1), (49, .iconst 0, 1), (50, .putfield 295, 3), (53, .iload_n 2, 1), (54, .ifCond .ne 15, 3), (57, .aload_n 0, 1), (58, .bipush (-100), 2), (60, .aload_n 0, 1), (61, .getfield 301, 3), (64, .isub, 1), (65, .invokevirtual 240, 3), (68, .ireturn, 1), (69, .aload_n 0, 1), (70, .getfield 141, 3), (73, .aload_n 0, 1), (74, .getfield 227, 3), (77, .iload_n 1, 1), (78, .iastore, 1), (79, .iconst 0, 1), (80, .istore 4, 2), (82, .iload 4, 2), (84, .iload_n 1, 1), (85, .if_icmp .ge 168, 3), (88, .bipush 12, 2), (90, .aload_n 0, 1), (91, .getfield 227, 3), (94, .imul, 1), (95, .iload 4, 2), (97, .iadd, 1), (98, .istore 5, 2), (100, .aload_n 0, 1), (101, .getfield 144, 3), (104, .iload 5, 2), (106, .aload_n 0, 1), (107, .getfield 183, 3), (110, .iload 4, 2), (112, .iaload, 1), (113, .iastore, 1), (114, .aload_n 0, 1), (115, .getfield 147, 3), (118, .iload 5, 2), (120, .aload_n 0, 1), (121, .getfield 186, 3), (124, .iload 4, 2), (126, .iaload, 1), (127, .iastore, 1), (128, .aload_n 0, 1), (129, .getfield 150, 3), (132, .iload 5, 2), (134, .iconst 0, 1), (135, .iastore, 1), (136, .iconst 0, 1), (137, .istore 6, 2), (139, .iload 6, 2), (141, .iconst 4, 1), (142, .if_icmp .ge 105, 3), (145, .aload_n 0, 1), (146, .getfield 153, 3), (149, .iconst 4, 1), (150, .iload 5, 2), (152, .imul, 1), (153, .iload 6, 2), (155, .iadd, 1), (156, .aload_n 0, 1), (157, .getfield 189, 3), (160, .iconst 4, 1), (161, .iload 4, 2), (163, .imul, 1), (164, .iload 6, 2), (166, .iadd, 1), (167, .iaload, 1), (168, .iastore, 1), (169, .aload_n 0, 1), (170, .getfield 156, 3), (173, .iconst 4, 1), (174, .iload 5, 2), (176, .imul, 1), (177, .iload 6, 2), (179, .iadd, 1), (180, .aload_n 0, 1), (181, .getfield 192, 3), (184, .iconst 4, 1), (185, .iload 4, 2), (187, .imul, 1), (188, .iload 6, 2), (190, .iadd, 1), (191, .iaload, 1), (192, .iastore, 1), (193, .aload_n 0, 1), (194, .getfield 159, 3), (197, .iconst 4, 1), (198, .iload 5, 2), (200, .imul, 1), (201, .iload 6, 2), (203, .iadd, 1), (204, .aload_n 0, 1), (205, .getfield 195, 3), (208, .iconst 4, 1), (209, .iload 4, 2), (211, .imul, 1), (212, .iload 6, 2), (214, .iadd, 1), (215, .iaload, 1), (216, .iastore, 1), (217, .aload_n 0, 1), (218, .getfield 162, 3), (221, .iconst 4, 1), (222, .iload 5, 2), (224, .imul, 1), (225, .iload 6, 2), (227, .iadd, 1), (228, .aload_n 0, 1), (229, .getfield 198, 3), (232, .iconst 4, 1), (233, .iload 4, 2), (235, .imul, 1), (236, .iload 6, 2), (238, .iadd, 1), (239, .iaload, 1), (240, .iastore, 1), (241, .iinc 6 1, 3), (244, .goto (-105), 3), (247, .iinc 4 1, 3), (250, .goto (-168), 3), (253, .aload_n 0, 1), (254, .iload_n 1, 1), (255, .invokevirtual 264, 3), (258, .ireturn, 1)]
theorem dk_Mo_load (i : Nat) {pc : Nat} {ins : Instr} {len : Nat} (h : dt_Mo_load[i]? = some (pc, ins, len)) : decode m_Mo_load.2.1 pc = .ok (ins, len) := p_dk (b := m_Mo_load.2.1) (t := dt_Mo_load) (by decide +kernel) i h
def B_Mo_load_44 (k11 : Nat → Int → Int → Int → p_Hp → Option (Int × p_Hp)) (v0 : Nat) (v1 : Int) (v2 : Int) (w0 : Int) (s0 : p_Hp) : Option (Int × p_Hp) :=
  k11 v0 v1 v2 w0 s0
def L_Mo_load_139 (k82 : Nat → Int → Int → p_Hp → Option (Int × p_Hp)) (k139 : Nat → Int → Int → Int → Int → p_Hp → Option (Int × p_Hp)) (v0 : Nat) (v1 : Int) (v4 : Int) (v5 : Int) (v6 : Int) (s0 : p_Hp) : Option (Int × p_Hp) :=
  if 4 ≤ v6 then
    p_bi (p_w (v4 + 1)) fun x2 =>
    k82 v0 v1 x2 s0
  else
    p_gd (p_is s0 v0 11) <|
    p_gd (p_is s0 (p_R s0 v0 64) 100) <|
    p_gd ((0 : Int) ≤ (p_w ((p_w (4 * v4)) + v6)) ∧ (p_w ((p_w (4 * v4)) + v6)) < (p_L s0 (p_R s0 v0 64) : Int)) <|
    p_gd (p_is s0 (p_R s0 v0 52) 100) <|
    p_gd ((0 : Int) ≤ (p_w ((p_w (4 * v5)) + v6)) ∧ (p_w ((p_w (4 * v5)) + v6)) < (p_L s0 (p_R s0 v0 52) : Int)) <|
    p_bi (p_wZ s0 (p_R s0 v0 52) ((p_w ((p_w (4 * v5)) + v6)) : Int).toNat (p_Z s0 (p_R s0 v0 64) ((p_w ((p_w (4 * v4)) + v6)) : Int).toNat)) fun s8 =>
    p_gd (p_is s8 (p_R s8 v0 65) 100) <|
    p_gd ((0 : Int) ≤ (p_w ((p_w (4 * v4)) + v6)) ∧ (p_w ((p_w (4 * v4)) + v6)) < (p_L s8 (p_R s8 v0 65) : Int)) <|
    p_gd (p_is s8 (p_R s8 v0 53) 100) <|
    p_gd ((0 : Int) ≤ (p_w ((p_w (4 * v5)) + v6)) ∧ (p_w ((p_w (4 * v5)) + v6)) < (p_L s8 (p_R s8 v0 53) : Int)) <|
    p_bi (p_wZ s8 (p_R s8 v0 53) ((p_w ((p_w (4 * v5)) + v6)) : Int).toNat (p_Z s8 (p_R s8 v0 65) ((p_w ((p_w (4 * v4)) + v6)) : Int).toNat)) fun s14 =>
    p_gd (p_is s14 (p_R s14 v0 66) 100) <|
    p_gd ((0 : Int) ≤ (p_w ((p_w (4 * v4)) + v6)) ∧ (p_w ((p_w (4 * v4)) + v6)) < (p_L s14 (p_R s14 v0 66) : Int)) <|
    p_gd (p_is s14 (p_R s14 v0 54) 100) <|
    p_gd ((0 : Int) ≤ (p_w ((p_w (4 * v5)) + v6)) ∧ (p_w ((p_w (4 * v5)) + v6)) < (p_L s14 (p_R s14 v0 54) : Int)) <|
    p_bi (p_wZ s14 (p_R s14 v0 54) ((p_w ((p_w (4 * v5)) + v6)) : Int).toNat (p_Z s14 (p_R s14 v0 66) ((p_w ((p_w (4 * v4)) + v6)) : Int).toNat)) fun s20 =>
    p_gd (p_is s20 (p_R s20 v0 67) 100) <|
    p_gd ((0 : Int) ≤ (p_w ((p_w (4 * v4)) + v6)) ∧ (p_w ((p_w (4 * v4)) + v6)) < (p_L s20 (p_R s20 v0 67) : Int)) <|
    p_gd (p_is s20 (p_R s20 v0 55) 100) <|
    p_gd ((0 : Int) ≤ (p_w ((p_w (4 * v5)) + v6)) ∧ (p_w ((p_w (4 * v5)) + v6)) < (p_L s20 (p_R s20 v0 55) : Int)) <|
    p_bi (p_wZ s20 (p_R s20 v0 55) ((p_w ((p_w (4 * v5)) + v6)) : Int).toNat (p_Z s20 (p_R s20 v0 67) ((p_w ((p_w (4 * v4)) + v6)) : Int).toNat)) fun s26 =>
    p_bi (p_w (v6 + 1)) fun x28 =>
    k139 v0 v1 v4 v5 x28 s26
def O_Mo_load_139 (k82 : Nat → Int → Int → p_Hp → Option (Int × p_Hp)) : Nat → Nat → Int → Int → Int → Int → p_Hp → Option (Int × p_Hp)
  | 0 => fun _ _ _ _ _ _ => none
  | n + 1 => L_Mo_load_139 k82 (O_Mo_load_139 k82 n)
def L_Mo_load_82 (k82 : Nat → Int → Int → p_Hp → Option (Int × p_Hp)) (v0 : Nat) (v1 : Int) (v4 : Int) (s0 : p_Hp) : Option (Int × p_Hp) :=
  if v1 ≤ v4 then
    p_gd (p_is s0 v0 11) <|
    p_bd (F_Mo_built v0 v1 s0) fun r7 s3 =>
    some (r7, s3)
  else
    p_gd (p_is s0 v0 11) <|
    p_bi ((p_w ((p_w (12 * (p_Z s0 v0 0))) + v4))) fun x9 =>
    p_gd (p_is s0 (p_R s0 v0 62) 100) <|
    p_gd ((0 : Int) ≤ v4 ∧ v4 < (p_L s0 (p_R s0 v0 62) : Int)) <|
    p_gd (p_is s0 (p_R s0 v0 49) 100) <|
    p_gd ((0 : Int) ≤ x9 ∧ x9 < (p_L s0 (p_R s0 v0 49) : Int)) <|
    p_bi (p_wZ s0 (p_R s0 v0 49) (x9 : Int).toNat (p_Z s0 (p_R s0 v0 62) (v4 : Int).toNat)) fun s14 =>
    p_gd (p_is s14 (p_R s14 v0 63) 100) <|
    p_gd ((0 : Int) ≤ v4 ∧ v4 < (p_L s14 (p_R s14 v0 63) : Int)) <|
    p_gd (p_is s14 (p_R s14 v0 50) 100) <|
    p_gd ((0 : Int) ≤ x9 ∧ x9 < (p_L s14 (p_R s14 v0 50) : Int)) <|
    p_bi (p_wZ s14 (p_R s14 v0 50) (x9 : Int).toNat (p_Z s14 (p_R s14 v0 63) (v4 : Int).toNat)) fun s20 =>
    p_gd (p_is s20 (p_R s20 v0 51) 100) <|
    p_gd ((0 : Int) ≤ x9 ∧ x9 < (p_L s20 (p_R s20 v0 51) : Int)) <|
    p_bi (p_wZ s20 (p_R s20 v0 51) (x9 : Int).toNat 0) fun s24 =>
    O_Mo_load_139 k82 3000 v0 v1 v4 x9 0 s24
def O_Mo_load_82  : Nat → Nat → Int → Int → p_Hp → Option (Int × p_Hp)
  | 0 => fun _ _ _ _ => none
  | n + 1 => L_Mo_load_82 (O_Mo_load_82 n)
def B_Mo_load_48  (v0 : Nat) (v1 : Int) (v2 : Int) (s0 : p_Hp) : Option (Int × p_Hp) :=
  p_gd (p_is s0 v0 11) <|
  p_bi (p_wZ s0 v0 47 0) fun s2 =>
  if v2 ≠ 0 then
    p_gd (p_is s2 (p_R s2 v0 48) 100) <|
    p_gd ((0 : Int) ≤ (p_Z s2 v0 0) ∧ (p_Z s2 v0 0) < (p_L s2 (p_R s2 v0 48) : Int)) <|
    p_bi (p_wZ s2 (p_R s2 v0 48) ((p_Z s2 v0 0) : Int).toNat v1) fun s7 =>
    O_Mo_load_82 3000 v0 v1 0 s7
  else
    p_bd (F_Mo_refused v0 (p_w ((-100) - (p_Z s2 v0 69))) s2) fun r13 s9 =>
    some (r13, s9)
def L_Mo_load_11 (k11 : Nat → Int → Int → Int → p_Hp → Option (Int × p_Hp)) (v0 : Nat) (v1 : Int) (v2 : Int) (v3 : Int) (s0 : p_Hp) : Option (Int × p_Hp) :=
  if v2 = 0 then
    B_Mo_load_48 v0 v1 v2 s0
  else
    if v3 = 0 then
      B_Mo_load_48 v0 v1 v2 s0
    else
      p_gd (p_is s0 v0 11) <|
      p_bd (F_Mo_rule_0 v0 v1 s0) fun r8 s4 =>
      p_bi (p_w (v1 + 1)) fun x9 =>
      if (p_Z s4 v0 47) ≤ (p_Z s4 v0 68) then
        B_Mo_load_44 k11 v0 x9 r8 0 s4
      else
        B_Mo_load_44 k11 v0 x9 r8 1 s4
def O_Mo_load_11  : Nat → Nat → Int → Int → Int → p_Hp → Option (Int × p_Hp)
  | 0 => fun _ _ _ _ _ => none
  | n + 1 => L_Mo_load_11 (O_Mo_load_11 n)
def F_Mo_load (v0 : Nat) (s0 : p_Hp) : Option (Int × p_Hp) :=
  p_gd (p_is s0 v0 11) <|
  p_bi (p_wZ s0 v0 68 0) fun s2 =>
  O_Mo_load_11 3000 v0 0 1 1 s2
set_option maxRecDepth 100000 in
set_option maxHeartbeats 4000000 in
theorem tB_Mo_load_44 (K : p_K) (l : Launch) (k11 : Nat → Int → Int → Int → p_Hp → Option (Int × p_Hp)) (hk11 : ∀ (v0 : Nat) (v1 : Int) (v2 : Int) (v3 : Int)  (s0 : p_Hp) (r : (Int × p_Hp)), k11 v0 v1 v2 v3 s0 = some r → p_Go K l m_Mo_load 11 [(0, p_r v0), (1, p_i v1), (2, p_i v2), (3, p_i v3)] [] s0 (some (p_i r.1), r.2)) (v0 : Nat) (v1 : Int) (v2 : Int) (w0 : Int) (s0 : p_Hp) (r : (Int × p_Hp)) (h : B_Mo_load_44 k11 v0 v1 v2 w0 s0 = some r) : p_Go K l m_Mo_load 44 [(0, p_r v0), (1, p_i v1), (2, p_i v2)] [p_i w0] s0 (some (p_i r.1), r.2) := by
  unfold B_Mo_load_44 at h
  refine g_istore_n (i := 3) [(3, p_i w0), (0, p_r v0), (1, p_i v1), (2, p_i v2)] (dk_Mo_load 26 rfl) rfl (by decide) rfl ?_
  refine g_goto 11 (dk_Mo_load 27 rfl) (by decide) ?_
  refine g_sub [(0, p_r v0), (1, p_i v1), (2, p_i v2), (3, p_i w0)] [1, 2, 3, 0] rfl ?_
  exact hk11 v0 v1 v2 w0 s0 _ h
set_option maxRecDepth 100000 in
set_option maxHeartbeats 4000000 in
theorem tL_Mo_load_139 (K : p_K) (l : Launch) (k82 : Nat → Int → Int → p_Hp → Option (Int × p_Hp)) (hk82 : ∀ (v0 : Nat) (v1 : Int) (v4 : Int)  (s0 : p_Hp) (r : (Int × p_Hp)), k82 v0 v1 v4 s0 = some r → p_Go K l m_Mo_load 82 [(0, p_r v0), (1, p_i v1), (4, p_i v4)] [] s0 (some (p_i r.1), r.2)) (k139 : Nat → Int → Int → Int → Int → p_Hp → Option (Int × p_Hp)) (hk139 : ∀ (v0 : Nat) (v1 : Int) (v4 : Int) (v5 : Int) (v6 : Int)  (s0 : p_Hp) (r : (Int × p_Hp)), k139 v0 v1 v4 v5 v6 s0 = some r → p_Go K l m_Mo_load 139 [(0, p_r v0), (1, p_i v1), (4, p_i v4), (5, p_i v5), (6, p_i v6)] [] s0 (some (p_i r.1), r.2)) (v0 : Nat) (v1 : Int) (v4 : Int) (v5 : Int) (v6 : Int) (s0 : p_Hp) (r : (Int × p_Hp)) (h : L_Mo_load_139 k82 k139 v0 v1 v4 v5 v6 s0 = some r) : p_Go K l m_Mo_load 139 [(0, p_r v0), (1, p_i v1), (4, p_i v4), (5, p_i v5), (6, p_i v6)] [] s0 (some (p_i r.1), r.2) := by
  unfold L_Mo_load_139 at h
  refine g_iload (j := 4) (dk_Mo_load 81 rfl) rfl ?_
  refine g_iconst (dk_Mo_load 82 rfl) (by decide) ?_
  refine g_icmp_ge 247 (dk_Mo_load 83 rfl) (by decide) (fun b1 => ?_) (fun b1 => ?_)
  · have h := p_ifT b1 h
    refine g_iinc (j := 2) [(4, p_i (p_w (v4 + 1))), (0, p_r v0), (1, p_i v1), (5, p_i v5), (6, p_i v6)] (dk_Mo_load 150 rfl) rfl (by decide) rfl ?_
    refine p_ltG (P := fun q => p_Go K l m_Mo_load 250 [(4, p_i q), (0, p_r v0), (1, p_i v1), (5, p_i v5), (6, p_i v6)] [] s0 _) ?_ h
    intro x2 h
    refine g_goto 82 (dk_Mo_load 151 rfl) (by decide) ?_
    refine g_sub [(0, p_r v0), (1, p_i v1), (4, p_i x2)] [1, 2, 0] rfl ?_
    exact hk82 v0 v1 x2 s0 _ h
  · have h := p_ifF b1 h
    refine g_aload_n (i := 0) (j := 0) (dk_Mo_load 84 rfl) rfl rfl ?_
    obtain ⟨c3, h⟩ := p_gdE h
    refine g_getR fl_Mo_153 (Or.inr ⟨_, rfl⟩) (dk_Mo_load 85 rfl) c3 ?_
    refine g_iconst (dk_Mo_load 86 rfl) (by decide) ?_
    refine g_iload (j := 3) (dk_Mo_load 87 rfl) rfl ?_
    refine g_imul (dk_Mo_load 88 rfl) ?_
    refine g_iload (j := 4) (dk_Mo_load 89 rfl) rfl ?_
    refine g_iadd (dk_Mo_load 90 rfl) ?_
    refine g_aload_n (i := 0) (j := 0) (dk_Mo_load 91 rfl) rfl rfl ?_
    refine g_getR fl_Mo_189 (Or.inr ⟨_, rfl⟩) (dk_Mo_load 92 rfl) c3 ?_
    refine g_iconst (dk_Mo_load 93 rfl) (by decide) ?_
    refine g_iload (j := 2) (dk_Mo_load 94 rfl) rfl ?_
    refine g_imul (dk_Mo_load 95 rfl) ?_
    refine g_iload (j := 4) (dk_Mo_load 96 rfl) rfl ?_
    refine g_iadd (dk_Mo_load 97 rfl) ?_
    obtain ⟨c4, h⟩ := p_gdE h
    obtain ⟨c5, h⟩ := p_gdE h
    refine g_iaload (dk_Mo_load 98 rfl) c4 c5.1 c5.2 ?_
    obtain ⟨c6, h⟩ := p_gdE h
    obtain ⟨c7, h⟩ := p_gdE h
    refine g_iastore (dk_Mo_load 99 rfl) c6 c7.1 c7.2 ?_
    refine p_ltS (P := fun q => p_Go K l m_Mo_load 169 [(0, p_r v0), (1, p_i v1), (4, p_i v4), (5, p_i v5), (6, p_i v6)] [] q _) (p_xZ _ _ _ _) ?_ h
    intro s8 hs9 h
    refine g_aload_n (i := 0) (j := 0) (dk_Mo_load 100 rfl) rfl rfl ?_
    refine g_getR fl_Mo_156 (Or.inr ⟨_, rfl⟩) (dk_Mo_load 101 rfl) (c3.up hs9) ?_
    refine g_iconst (dk_Mo_load 102 rfl) (by decide) ?_
    refine g_iload (j := 3) (dk_Mo_load 103 rfl) rfl ?_
    refine g_imul (dk_Mo_load 104 rfl) ?_
    refine g_iload (j := 4) (dk_Mo_load 105 rfl) rfl ?_
    refine g_iadd (dk_Mo_load 106 rfl) ?_
    refine g_aload_n (i := 0) (j := 0) (dk_Mo_load 107 rfl) rfl rfl ?_
    refine g_getR fl_Mo_192 (Or.inr ⟨_, rfl⟩) (dk_Mo_load 108 rfl) (c3.up hs9) ?_
    refine g_iconst (dk_Mo_load 109 rfl) (by decide) ?_
    refine g_iload (j := 2) (dk_Mo_load 110 rfl) rfl ?_
    refine g_imul (dk_Mo_load 111 rfl) ?_
    refine g_iload (j := 4) (dk_Mo_load 112 rfl) rfl ?_
    refine g_iadd (dk_Mo_load 113 rfl) ?_
    obtain ⟨c10, h⟩ := p_gdE h
    obtain ⟨c11, h⟩ := p_gdE h
    refine g_iaload (dk_Mo_load 114 rfl) c10 c11.1 c11.2 ?_
    obtain ⟨c12, h⟩ := p_gdE h
    obtain ⟨c13, h⟩ := p_gdE h
    refine g_iastore (dk_Mo_load 115 rfl) c12 c13.1 c13.2 ?_
    refine p_ltS (P := fun q => p_Go K l m_Mo_load 193 [(0, p_r v0), (1, p_i v1), (4, p_i v4), (5, p_i v5), (6, p_i v6)] [] q _) (p_xZ _ _ _ _) ?_ h
    intro s14 hs15 h
    refine g_aload_n (i := 0) (j := 0) (dk_Mo_load 116 rfl) rfl rfl ?_
    refine g_getR fl_Mo_159 (Or.inr ⟨_, rfl⟩) (dk_Mo_load 117 rfl) (c3.up (hs9.trans hs15)) ?_
    refine g_iconst (dk_Mo_load 118 rfl) (by decide) ?_
    refine g_iload (j := 3) (dk_Mo_load 119 rfl) rfl ?_
    refine g_imul (dk_Mo_load 120 rfl) ?_
    refine g_iload (j := 4) (dk_Mo_load 121 rfl) rfl ?_
    refine g_iadd (dk_Mo_load 122 rfl) ?_
    refine g_aload_n (i := 0) (j := 0) (dk_Mo_load 123 rfl) rfl rfl ?_
    refine g_getR fl_Mo_195 (Or.inr ⟨_, rfl⟩) (dk_Mo_load 124 rfl) (c3.up (hs9.trans hs15)) ?_
    refine g_iconst (dk_Mo_load 125 rfl) (by decide) ?_
    refine g_iload (j := 2) (dk_Mo_load 126 rfl) rfl ?_
    refine g_imul (dk_Mo_load 127 rfl) ?_
    refine g_iload (j := 4) (dk_Mo_load 128 rfl) rfl ?_
    refine g_iadd (dk_Mo_load 129 rfl) ?_
    obtain ⟨c16, h⟩ := p_gdE h
    obtain ⟨c17, h⟩ := p_gdE h
    refine g_iaload (dk_Mo_load 130 rfl) c16 c17.1 c17.2 ?_
    obtain ⟨c18, h⟩ := p_gdE h
    obtain ⟨c19, h⟩ := p_gdE h
    refine g_iastore (dk_Mo_load 131 rfl) c18 c19.1 c19.2 ?_
    refine p_ltS (P := fun q => p_Go K l m_Mo_load 217 [(0, p_r v0), (1, p_i v1), (4, p_i v4), (5, p_i v5), (6, p_i v6)] [] q _) (p_xZ _ _ _ _) ?_ h
    intro s20 hs21 h
    refine g_aload_n (i := 0) (j := 0) (dk_Mo_load 132 rfl) rfl rfl ?_
    refine g_getR fl_Mo_162 (Or.inr ⟨_, rfl⟩) (dk_Mo_load 133 rfl) (c3.up (hs9.trans (hs15.trans hs21))) ?_
    refine g_iconst (dk_Mo_load 134 rfl) (by decide) ?_
    refine g_iload (j := 3) (dk_Mo_load 135 rfl) rfl ?_
    refine g_imul (dk_Mo_load 136 rfl) ?_
    refine g_iload (j := 4) (dk_Mo_load 137 rfl) rfl ?_
    refine g_iadd (dk_Mo_load 138 rfl) ?_
    refine g_aload_n (i := 0) (j := 0) (dk_Mo_load 139 rfl) rfl rfl ?_
    refine g_getR fl_Mo_198 (Or.inr ⟨_, rfl⟩) (dk_Mo_load 140 rfl) (c3.up (hs9.trans (hs15.trans hs21))) ?_
    refine g_iconst (dk_Mo_load 141 rfl) (by decide) ?_
    refine g_iload (j := 2) (dk_Mo_load 142 rfl) rfl ?_
    refine g_imul (dk_Mo_load 143 rfl) ?_
    refine g_iload (j := 4) (dk_Mo_load 144 rfl) rfl ?_
    refine g_iadd (dk_Mo_load 145 rfl) ?_
    obtain ⟨c22, h⟩ := p_gdE h
    obtain ⟨c23, h⟩ := p_gdE h
    refine g_iaload (dk_Mo_load 146 rfl) c22 c23.1 c23.2 ?_
    obtain ⟨c24, h⟩ := p_gdE h
    obtain ⟨c25, h⟩ := p_gdE h
    refine g_iastore (dk_Mo_load 147 rfl) c24 c25.1 c25.2 ?_
    refine p_ltS (P := fun q => p_Go K l m_Mo_load 241 [(0, p_r v0), (1, p_i v1), (4, p_i v4), (5, p_i v5), (6, p_i v6)] [] q _) (p_xZ _ _ _ _) ?_ h
    intro s26 hs27 h
    refine g_iinc (j := 4) [(6, p_i (p_w (v6 + 1))), (0, p_r v0), (1, p_i v1), (4, p_i v4), (5, p_i v5)] (dk_Mo_load 148 rfl) rfl (by decide) rfl ?_
    refine p_ltG (P := fun q => p_Go K l m_Mo_load 244 [(6, p_i q), (0, p_r v0), (1, p_i v1), (4, p_i v4), (5, p_i v5)] [] s26 _) ?_ h
    intro x28 h
    refine g_goto 139 (dk_Mo_load 149 rfl) (by decide) ?_
    refine g_sub [(0, p_r v0), (1, p_i v1), (4, p_i v4), (5, p_i v5), (6, p_i x28)] [1, 2, 3, 4, 0] rfl ?_
    exact hk139 v0 v1 v4 v5 x28 s26 _ h
set_option maxRecDepth 100000 in
set_option maxHeartbeats 4000000 in
theorem tO_Mo_load_139 (K : p_K) (l : Launch) (k82 : Nat → Int → Int → p_Hp → Option (Int × p_Hp)) (hk82 : ∀ (v0 : Nat) (v1 : Int) (v4 : Int)  (s0 : p_Hp) (r : (Int × p_Hp)), k82 v0 v1 v4 s0 = some r → p_Go K l m_Mo_load 82 [(0, p_r v0), (1, p_i v1), (4, p_i v4)] [] s0 (some (p_i r.1), r.2)) : ∀ (n : Nat) (v0 : Nat) (v1 : Int) (v4 : Int) (v5 : Int) (v6 : Int) (s0 : p_Hp) (r : (Int × p_Hp)), O_Mo_load_139 k82 n v0 v1 v4 v5 v6 s0 = some r → p_Go K l m_Mo_load 139 [(0, p_r v0), (1, p_i v1), (4, p_i v4), (5, p_i v5), (6, p_i v6)] [] s0 (some (p_i r.1), r.2) := by
  intro n
  induction n with
  | zero => intro v0 v1 v4 v5 v6 s0 r h; cases (show (none : Option (Int × p_Hp)) = some r from h)
  | succ n ih => intro v0 v1 v4 v5 v6 s0 r h; exact tL_Mo_load_139 K l k82 hk82 _ ih v0 v1 v4 v5 v6 s0 r h
set_option maxRecDepth 100000 in
set_option maxHeartbeats 4000000 in
theorem tL_Mo_load_82 (K : p_K) (l : Launch) (k82 : Nat → Int → Int → p_Hp → Option (Int × p_Hp)) (hk82 : ∀ (v0 : Nat) (v1 : Int) (v4 : Int)  (s0 : p_Hp) (r : (Int × p_Hp)), k82 v0 v1 v4 s0 = some r → p_Go K l m_Mo_load 82 [(0, p_r v0), (1, p_i v1), (4, p_i v4)] [] s0 (some (p_i r.1), r.2)) (v0 : Nat) (v1 : Int) (v4 : Int) (s0 : p_Hp) (r : (Int × p_Hp)) (h : L_Mo_load_82 k82 v0 v1 v4 s0 = some r) : p_Go K l m_Mo_load 82 [(0, p_r v0), (1, p_i v1), (4, p_i v4)] [] s0 (some (p_i r.1), r.2) := by
  unfold L_Mo_load_82 at h
  refine g_iload (j := 2) (dk_Mo_load 48 rfl) rfl ?_
  refine g_iload_n (i := 1) (j := 1) (dk_Mo_load 49 rfl) rfl rfl ?_
  refine g_icmp_ge 253 (dk_Mo_load 50 rfl) (by decide) (fun b1 => ?_) (fun b1 => ?_)
  · have h := p_ifT b1 h
    refine g_aload_n (i := 0) (j := 0) (dk_Mo_load 152 rfl) rfl rfl ?_
    refine g_iload_n (i := 1) (j := 1) (dk_Mo_load 153 rfl) rfl rfl ?_
    obtain ⟨c2, h⟩ := p_gdE h
    obtain ⟨r7, s3, q4, h⟩ := p_bdE h
    have t5 := tF_Mo_built K l v0 v1 s0 _ q4
    refine g_callV (a := v0) (ci := 11) (q0 := (RX11, TX11, 90)) (As := [p_i v1]) (rest := []) [p_i r7] mt_Mo_built rfl rfl tw_7_98 ts_47 tw_7_96 ⟨Nat.le_of_ble_eq_true rfl, Nat.le_of_ble_eq_true rfl⟩ rfl (Nat.le_of_ble_eq_true rfl) (dk_Mo_load 154 rfl) rfl c2 rfl t5 ?_
    have hs6 : p_x s0 s3 := t5.1
    show p_Go K l m_Mo_load 258 [(0, p_r v0), (1, p_i v1), (4, p_i v4)] [p_i r7] s3 _
    cases h
    exact g_ret rfl rfl (dk_Mo_load 155 rfl) (fun os => ⟨_, rfl, p_okh os⟩)
  · have h := p_ifF b1 h
    refine g_bipush (dk_Mo_load 51 rfl) (by decide +kernel) (by decide) ?_
    refine g_aload_n (i := 0) (j := 0) (dk_Mo_load 52 rfl) rfl rfl ?_
    obtain ⟨c8, h⟩ := p_gdE h
    refine g_getI fl_Mo_227 (Or.inl rfl) (dk_Mo_load 53 rfl) c8 ?_
    refine g_imul (dk_Mo_load 54 rfl) ?_
    refine g_iload (j := 2) (dk_Mo_load 55 rfl) rfl ?_
    refine g_iadd (dk_Mo_load 56 rfl) ?_
    refine g_istore [(5, p_i (p_w ((p_w (12 * (p_Z s0 v0 0))) + v4))), (0, p_r v0), (1, p_i v1), (4, p_i v4)] (dk_Mo_load 57 rfl) (by decide) rfl ?_
    refine p_ltG (P := fun q => p_Go K l m_Mo_load 100 [(5, p_i q), (0, p_r v0), (1, p_i v1), (4, p_i v4)] [] s0 _) ?_ h
    intro x9 h
    refine g_aload_n (i := 0) (j := 1) (dk_Mo_load 58 rfl) rfl rfl ?_
    refine g_getR fl_Mo_144 (Or.inr ⟨_, rfl⟩) (dk_Mo_load 59 rfl) c8 ?_
    refine g_iload (j := 0) (dk_Mo_load 60 rfl) rfl ?_
    refine g_aload_n (i := 0) (j := 1) (dk_Mo_load 61 rfl) rfl rfl ?_
    refine g_getR fl_Mo_183 (Or.inr ⟨_, rfl⟩) (dk_Mo_load 62 rfl) c8 ?_
    refine g_iload (j := 3) (dk_Mo_load 63 rfl) rfl ?_
    obtain ⟨c10, h⟩ := p_gdE h
    obtain ⟨c11, h⟩ := p_gdE h
    refine g_iaload (dk_Mo_load 64 rfl) c10 c11.1 c11.2 ?_
    obtain ⟨c12, h⟩ := p_gdE h
    obtain ⟨c13, h⟩ := p_gdE h
    refine g_iastore (dk_Mo_load 65 rfl) c12 c13.1 c13.2 ?_
    refine p_ltS (P := fun q => p_Go K l m_Mo_load 114 [(5, p_i x9), (0, p_r v0), (1, p_i v1), (4, p_i v4)] [] q _) (p_xZ _ _ _ _) ?_ h
    intro s14 hs15 h
    refine g_aload_n (i := 0) (j := 1) (dk_Mo_load 66 rfl) rfl rfl ?_
    refine g_getR fl_Mo_147 (Or.inr ⟨_, rfl⟩) (dk_Mo_load 67 rfl) (c8.up hs15) ?_
    refine g_iload (j := 0) (dk_Mo_load 68 rfl) rfl ?_
    refine g_aload_n (i := 0) (j := 1) (dk_Mo_load 69 rfl) rfl rfl ?_
    refine g_getR fl_Mo_186 (Or.inr ⟨_, rfl⟩) (dk_Mo_load 70 rfl) (c8.up hs15) ?_
    refine g_iload (j := 3) (dk_Mo_load 71 rfl) rfl ?_
    obtain ⟨c16, h⟩ := p_gdE h
    obtain ⟨c17, h⟩ := p_gdE h
    refine g_iaload (dk_Mo_load 72 rfl) c16 c17.1 c17.2 ?_
    obtain ⟨c18, h⟩ := p_gdE h
    obtain ⟨c19, h⟩ := p_gdE h
    refine g_iastore (dk_Mo_load 73 rfl) c18 c19.1 c19.2 ?_
    refine p_ltS (P := fun q => p_Go K l m_Mo_load 128 [(5, p_i x9), (0, p_r v0), (1, p_i v1), (4, p_i v4)] [] q _) (p_xZ _ _ _ _) ?_ h
    intro s20 hs21 h
    refine g_aload_n (i := 0) (j := 1) (dk_Mo_load 74 rfl) rfl rfl ?_
    refine g_getR fl_Mo_150 (Or.inr ⟨_, rfl⟩) (dk_Mo_load 75 rfl) (c8.up (hs15.trans hs21)) ?_
    refine g_iload (j := 0) (dk_Mo_load 76 rfl) rfl ?_
    refine g_iconst (dk_Mo_load 77 rfl) (by decide) ?_
    obtain ⟨c22, h⟩ := p_gdE h
    obtain ⟨c23, h⟩ := p_gdE h
    refine g_iastore (dk_Mo_load 78 rfl) c22 c23.1 c23.2 ?_
    refine p_ltS (P := fun q => p_Go K l m_Mo_load 136 [(5, p_i x9), (0, p_r v0), (1, p_i v1), (4, p_i v4)] [] q _) (p_xZ _ _ _ _) ?_ h
    intro s24 hs25 h
    refine g_iconst (dk_Mo_load 79 rfl) (by decide) ?_
    refine g_istore [(6, p_i 0), (5, p_i x9), (0, p_r v0), (1, p_i v1), (4, p_i v4)] (dk_Mo_load 80 rfl) (by decide) rfl ?_
    refine g_sub [(0, p_r v0), (1, p_i v1), (4, p_i v4), (5, p_i x9), (6, p_i 0)] [2, 3, 4, 1, 0] rfl ?_
    exact tO_Mo_load_139 K l k82 hk82 3000 v0 v1 v4 x9 0 s24 _ h
set_option maxRecDepth 100000 in
set_option maxHeartbeats 4000000 in
theorem tO_Mo_load_82 (K : p_K) (l : Launch)  : ∀ (n : Nat) (v0 : Nat) (v1 : Int) (v4 : Int) (s0 : p_Hp) (r : (Int × p_Hp)), O_Mo_load_82 n v0 v1 v4 s0 = some r → p_Go K l m_Mo_load 82 [(0, p_r v0), (1, p_i v1), (4, p_i v4)] [] s0 (some (p_i r.1), r.2) := by
  intro n
  induction n with
  | zero => intro v0 v1 v4 s0 r h; cases (show (none : Option (Int × p_Hp)) = some r from h)
  | succ n ih => intro v0 v1 v4 s0 r h; exact tL_Mo_load_82 K l _ ih v0 v1 v4 s0 r h
set_option maxRecDepth 100000 in
set_option maxHeartbeats 4000000 in
theorem tB_Mo_load_48 (K : p_K) (l : Launch)  (v0 : Nat) (v1 : Int) (v2 : Int) (s0 : p_Hp) (r : (Int × p_Hp)) (h : B_Mo_load_48 v0 v1 v2 s0 = some r) : p_Go K l m_Mo_load 48 [(0, p_r v0), (1, p_i v1), (2, p_i v2)] [] s0 (some (p_i r.1), r.2) := by
  unfold B_Mo_load_48 at h
  refine g_aload_n (i := 0) (j := 0) (dk_Mo_load 28 rfl) rfl rfl ?_
  refine g_iconst (dk_Mo_load 29 rfl) (by decide) ?_
  obtain ⟨c1, h⟩ := p_gdE h
  refine g_putI fl_Mo_295 (Or.inl rfl) (dk_Mo_load 30 rfl) c1 ?_
  refine p_ltS (P := fun q => p_Go K l m_Mo_load 53 [(0, p_r v0), (1, p_i v1), (2, p_i v2)] [] q _) (p_xZ _ _ _ _) ?_ h
  intro s2 hs3 h
  refine g_iload_n (i := 2) (j := 2) (dk_Mo_load 31 rfl) rfl rfl ?_
  refine g_if_ne 69 (dk_Mo_load 32 rfl) (by decide) (fun b4 => ?_) (fun b4 => ?_)
  · have h := p_ifT b4 h
    refine g_aload_n (i := 0) (j := 0) (dk_Mo_load 40 rfl) rfl rfl ?_
    refine g_getR fl_Mo_141 (Or.inr ⟨_, rfl⟩) (dk_Mo_load 41 rfl) (c1.up hs3) ?_
    refine g_aload_n (i := 0) (j := 0) (dk_Mo_load 42 rfl) rfl rfl ?_
    refine g_getI fl_Mo_227 (Or.inl rfl) (dk_Mo_load 43 rfl) (c1.up hs3) ?_
    refine g_iload_n (i := 1) (j := 1) (dk_Mo_load 44 rfl) rfl rfl ?_
    obtain ⟨c5, h⟩ := p_gdE h
    obtain ⟨c6, h⟩ := p_gdE h
    refine g_iastore (dk_Mo_load 45 rfl) c5 c6.1 c6.2 ?_
    refine p_ltS (P := fun q => p_Go K l m_Mo_load 79 [(0, p_r v0), (1, p_i v1), (2, p_i v2)] [] q _) (p_xZ _ _ _ _) ?_ h
    intro s7 hs8 h
    refine g_iconst (dk_Mo_load 46 rfl) (by decide) ?_
    refine g_istore [(4, p_i 0), (0, p_r v0), (1, p_i v1), (2, p_i v2)] (dk_Mo_load 47 rfl) (by decide) rfl ?_
    refine g_sub [(0, p_r v0), (1, p_i v1), (4, p_i 0)] [1, 2, 0] rfl ?_
    exact tO_Mo_load_82 K l 3000 v0 v1 0 s7 _ h
  · have h := p_ifF b4 h
    refine g_aload_n (i := 0) (j := 0) (dk_Mo_load 33 rfl) rfl rfl ?_
    refine g_bipush (dk_Mo_load 34 rfl) (by decide +kernel) (by decide) ?_
    refine g_aload_n (i := 0) (j := 0) (dk_Mo_load 35 rfl) rfl rfl ?_
    refine g_getI fl_Mo_301 (Or.inl rfl) (dk_Mo_load 36 rfl) (c1.up hs3) ?_
    refine g_isub (dk_Mo_load 37 rfl) ?_
    obtain ⟨r13, s9, q10, h⟩ := p_bdE h
    have t11 := tF_Mo_refused K l v0 (p_w ((-100) - (p_Z s2 v0 69))) s2 _ q10
    refine g_callV (a := v0) (ci := 11) (q0 := (RX11, TX11, 90)) (As := [p_i (p_w ((-100) - (p_Z s2 v0 69)))]) (rest := []) [p_i r13] mt_Mo_refused rfl rfl tw_7_67 ts_43 tw_7_65 ⟨Nat.le_of_ble_eq_true rfl, Nat.le_of_ble_eq_true rfl⟩ rfl (Nat.le_of_ble_eq_true rfl) (dk_Mo_load 38 rfl) rfl (c1.up hs3) rfl t11 ?_
    have hs12 : p_x s2 s9 := t11.1
    show p_Go K l m_Mo_load 68 [(0, p_r v0), (1, p_i v1), (2, p_i v2)] [p_i r13] s9 _
    cases h
    exact g_ret rfl rfl (dk_Mo_load 39 rfl) (fun os => ⟨_, rfl, p_okh os⟩)
set_option maxRecDepth 100000 in
set_option maxHeartbeats 4000000 in
theorem tL_Mo_load_11 (K : p_K) (l : Launch) (k11 : Nat → Int → Int → Int → p_Hp → Option (Int × p_Hp)) (hk11 : ∀ (v0 : Nat) (v1 : Int) (v2 : Int) (v3 : Int)  (s0 : p_Hp) (r : (Int × p_Hp)), k11 v0 v1 v2 v3 s0 = some r → p_Go K l m_Mo_load 11 [(0, p_r v0), (1, p_i v1), (2, p_i v2), (3, p_i v3)] [] s0 (some (p_i r.1), r.2)) (v0 : Nat) (v1 : Int) (v2 : Int) (v3 : Int) (s0 : p_Hp) (r : (Int × p_Hp)) (h : L_Mo_load_11 k11 v0 v1 v2 v3 s0 = some r) : p_Go K l m_Mo_load 11 [(0, p_r v0), (1, p_i v1), (2, p_i v2), (3, p_i v3)] [] s0 (some (p_i r.1), r.2) := by
  unfold L_Mo_load_11 at h
  refine g_iload_n (i := 2) (j := 2) (dk_Mo_load 9 rfl) rfl rfl ?_
  refine g_if_eq 48 (dk_Mo_load 10 rfl) (by decide) (fun b1 => ?_) (fun b1 => ?_)
  · have h := p_ifT b1 h
    refine g_sub [(0, p_r v0), (1, p_i v1), (2, p_i v2)] [0, 1, 2] rfl ?_
    exact tB_Mo_load_48 K l v0 v1 v2 s0 _ h
  · have h := p_ifF b1 h
    refine g_iload_n (i := 3) (j := 3) (dk_Mo_load 11 rfl) rfl rfl ?_
    refine g_if_eq 48 (dk_Mo_load 12 rfl) (by decide) (fun b2 => ?_) (fun b2 => ?_)
    · have h := p_ifT b2 h
      refine g_sub [(0, p_r v0), (1, p_i v1), (2, p_i v2)] [0, 1, 2] rfl ?_
      exact tB_Mo_load_48 K l v0 v1 v2 s0 _ h
    · have h := p_ifF b2 h
      refine g_aload_n (i := 0) (j := 0) (dk_Mo_load 13 rfl) rfl rfl ?_
      refine g_iload_n (i := 1) (j := 1) (dk_Mo_load 14 rfl) rfl rfl ?_
      obtain ⟨c3, h⟩ := p_gdE h
      obtain ⟨r8, s4, q5, h⟩ := p_bdE h
      have t6 := tF_Mo_rule_0 K l v0 v1 s0 _ q5
      refine g_callV (a := v0) (ci := 11) (q0 := (RX11, TX11, 90)) (As := [p_i v1]) (rest := []) [p_i r8] mt_Mo_rule_0 rfl rfl tw_7_162 ts_53 tw_7_160 ⟨Nat.le_of_ble_eq_true rfl, Nat.le_of_ble_eq_true rfl⟩ rfl (Nat.le_of_ble_eq_true rfl) (dk_Mo_load 15 rfl) rfl c3 rfl t6 ?_
      have hs7 : p_x s0 s4 := t6.1
      show p_Go K l m_Mo_load 24 [(0, p_r v0), (1, p_i v1), (2, p_i v2), (3, p_i v3)] [p_i r8] s4 _
      refine g_istore_n (i := 2) [(2, p_i r8), (0, p_r v0), (1, p_i v1), (3, p_i v3)] (dk_Mo_load 16 rfl) rfl (by decide) rfl ?_
      refine g_iinc (j := 2) [(1, p_i (p_w (v1 + 1))), (2, p_i r8), (0, p_r v0), (3, p_i v3)] (dk_Mo_load 17 rfl) rfl (by decide) rfl ?_
      refine p_ltG (P := fun q => p_Go K l m_Mo_load 28 [(1, p_i q), (2, p_i r8), (0, p_r v0), (3, p_i v3)] [] s4 _) ?_ h
      intro x9 h
      refine g_aload_n (i := 0) (j := 2) (dk_Mo_load 18 rfl) rfl rfl ?_
      refine g_getI fl_Mo_298 (Or.inl rfl) (dk_Mo_load 19 rfl) (c3.up hs7) ?_
      refine g_aload_n (i := 0) (j := 2) (dk_Mo_load 20 rfl) rfl rfl ?_
      refine g_getI fl_Mo_295 (Or.inl rfl) (dk_Mo_load 21 rfl) (c3.up hs7) ?_
      refine g_icmp_ge 43 (dk_Mo_load 22 rfl) (by decide) (fun b10 => ?_) (fun b10 => ?_)
      · have h := p_ifT b10 h
        refine g_iconst (dk_Mo_load 25 rfl) (by decide) ?_
        refine g_sub [(0, p_r v0), (1, p_i x9), (2, p_i r8)] [2, 0, 1] rfl ?_
        exact tB_Mo_load_44 K l k11 hk11 v0 x9 r8 0 s4 _ h
      · have h := p_ifF b10 h
        refine g_iconst (dk_Mo_load 23 rfl) (by decide) ?_
        refine g_goto 44 (dk_Mo_load 24 rfl) (by decide) ?_
        refine g_sub [(0, p_r v0), (1, p_i x9), (2, p_i r8)] [2, 0, 1] rfl ?_
        exact tB_Mo_load_44 K l k11 hk11 v0 x9 r8 1 s4 _ h
set_option maxRecDepth 100000 in
set_option maxHeartbeats 4000000 in
theorem tO_Mo_load_11 (K : p_K) (l : Launch)  : ∀ (n : Nat) (v0 : Nat) (v1 : Int) (v2 : Int) (v3 : Int) (s0 : p_Hp) (r : (Int × p_Hp)), O_Mo_load_11 n v0 v1 v2 v3 s0 = some r → p_Go K l m_Mo_load 11 [(0, p_r v0), (1, p_i v1), (2, p_i v2), (3, p_i v3)] [] s0 (some (p_i r.1), r.2) := by
  intro n
  induction n with
  | zero => intro v0 v1 v2 v3 s0 r h; cases (show (none : Option (Int × p_Hp)) = some r from h)
  | succ n ih => intro v0 v1 v2 v3 s0 r h; exact tL_Mo_load_11 K l _ ih v0 v1 v2 v3 s0 r h
set_option maxRecDepth 100000 in
set_option maxHeartbeats 4000000 in
theorem tF_Mo_load (K : p_K) (l : Launch) (v0 : Nat) (s0 : p_Hp) (r : (Int × p_Hp)) (h : F_Mo_load v0 s0 = some r) : p_Ct K l m_Mo_load [p_r v0] s0 (some (p_i r.1), r.2) := by
  refine p_Ct.of (by decide +kernel) (Nat.le_of_ble_eq_true rfl) ?_
  unfold F_Mo_load at h
  show p_Go K l m_Mo_load 0 [(0, p_r v0)] [] s0 _
  refine g_aload_n (i := 0) (j := 0) (dk_Mo_load 0 rfl) rfl rfl ?_
  refine g_iconst (dk_Mo_load 1 rfl) (by decide) ?_
  obtain ⟨c1, h⟩ := p_gdE h
  refine g_putI fl_Mo_298 (Or.inl rfl) (dk_Mo_load 2 rfl) c1 ?_
  refine p_ltS (P := fun q => p_Go K l m_Mo_load 5 [(0, p_r v0)] [] q _) (p_xZ _ _ _ _) ?_ h
  intro s2 hs3 h
  refine g_iconst (dk_Mo_load 3 rfl) (by decide) ?_
  refine g_istore_n (i := 1) [(1, p_i 0), (0, p_r v0)] (dk_Mo_load 4 rfl) rfl (by decide) rfl ?_
  refine g_iconst (dk_Mo_load 5 rfl) (by decide) ?_
  refine g_istore_n (i := 2) [(2, p_i 1), (1, p_i 0), (0, p_r v0)] (dk_Mo_load 6 rfl) rfl (by decide) rfl ?_
  refine g_iconst (dk_Mo_load 7 rfl) (by decide) ?_
  refine g_istore_n (i := 3) [(3, p_i 1), (2, p_i 1), (1, p_i 0), (0, p_r v0)] (dk_Mo_load 8 rfl) rfl (by decide) rfl ?_
  refine g_sub [(0, p_r v0), (1, p_i 0), (2, p_i 1), (3, p_i 1)] [3, 2, 1, 0] rfl ?_
  exact tO_Mo_load_11 K l 3000 v0 0 1 1 s2 _ h
def m_Mo_plan : p_Me := (⟨"SortWorksModel", "plan", "(IIIII)I"⟩, prog_13_method_36_code, 7, (some .int), 2, 42)
theorem mt_Mo_plan : p_Mt m_Mo_plan 5 := ⟨p_mem (p_tb7 (List.mem_of_getElem? (i := 190) rfl)) rfl, tw_1_12, by decide +kernel, by decide +kernel, by decide +kernel⟩
def dt_Mo_plan : List (Nat × Instr × Nat) := [(0, .iload_n 1, 1), (1, .i2l, 1), (2, .lconst 1, 1), (3, .ldc2_w 330, 3), (6, .invokestatic 230, 3), (9, .ifCond .ne 15, 3), (12, .iload_n 2, 1), (13, .i2l, 1), (14, .lconst 0, 1), (15, .ldc2_w 332, 3), (18, .invokestatic 230, 3), (21, .ifCond .eq 10, 3), (24, .aload_n 0, 1), (25, .bipush (-2), 2), (27, .invokevirtual 240, 3), (30, .ireturn, 1), (31, .aload_n 0, 1), (32, .getfield 165, 3), (35, .aload_n 0, 1), (36, .getfield 227, 3), (39, .iaload, 1), (40, .bipush 16, 2), (42, .if_icmp .ne 10, 3), (45, .aload_n 0, 1), (46, .bipush (-4), 2), (48, .invokevirtual 240, 3), (51, .ireturn, 1), (52, .bipush 16, 2), (54, .aload_n 0, 1), (55, .getfield 227, 3), (58, .imul, 1), (59, .aload_n 0, 1), (60, .getfield 165, 3), (63, .aload_n 0, 1), (64, .getfield 227, 3), (67, .iaload, 1), (68, .iadd, 1), (69, .istore 6, 2), (71, .aload_n 0, 1), (72, .getfield 168, 3), (75, .iload 6, 2), (77, .iload_n 1, 1), (78, .iastore, 1), (79, .aload_n 0, 1), (80, .getfield 171, 3), (83, .iconst 4, 1), (84, .iload 6, 2), (86, .imul, 1), (87, .iload_n 2, 1), (88, .iastore, 1), (89, .aload_n 0, 1), (90, .getfield 171, 3), (93, .iconst 4, 1), (94, .iload 6, 2), (96, .imul, 1), (97, .iconst 1, 1), (98, .iadd, 1), (99, .iload_n 3, 1), (100, .iastore, 1), (101, .aload_n 0, 1), (102, .getfield 171, 3), (105, .iconst 4, 1), (106, .iload 6, 2), (108, .imul, 1), (109, .iconst 2, 1), (110, .iadd, 1), (111, .iload 4, 2), (113, .iastore, 1), (114, .aload_n 0, 1), (115, .getfield 171, 3), (118, .iconst 4, 1), (119, .iload 6, 2), (121, .imul, 1), (122, .iconst 3, 1), (123, .iadd, 1), (124, .iload 5, 2), (126, .iastore, 1), (127, .aload_n 0, 1), (128, .getfield 165, 3), (131, .aload_n 0, 1), (132, .getfield 227, 3), (135, .dup2, 1), (136, .iaload, 1), (137, .iconst 1, 1), (138, .iadd, 1), (139, .iastore, 1), (140, .aload_n 0, 1), (141, .aload_n 0, 1), (142, .getfield 165, 3), (145, .aload_n 0, 1), (146, .getfield 227, 3), (149, .iaload, 1), (150, .iconst 1, 1), (151, .isub, 1), (152, .invokevirtual 264, 3), (155, .ireturn, 1)]
theorem dk_Mo_plan (i : Nat) {pc : Nat} {ins : Instr} {len : Nat} (h : dt_Mo_plan[i]? = some (pc, ins, len)) : decode m_Mo_plan.2.1 pc = .ok (ins, len) := p_dk (b := m_Mo_plan.2.1) (t := dt_Mo_plan) (by decide +kernel) i h
def B_Mo_plan_24  (v0 : Nat) (s0 : p_Hp) : Option (Int × p_Hp) :=
  p_gd (p_is s0 v0 11) <|
  p_bd (F_Mo_refused v0 (-2) s0) fun r6 s2 =>
  some (r6, s2)
def F_Mo_plan (v0 : Nat) (v1 : Int) (v2 : Int) (v3 : Int) (v4 : Int) (v5 : Int) (s0 : p_Hp) : Option (Int × p_Hp) :=
  p_bd (F_Mo_beyond v1 1 4 s0) fun r5 s1 =>
  if r5 ≠ 0 then
    B_Mo_plan_24 v0 s1
  else
    p_bd (F_Mo_beyond v2 0 9999 s1) fun r11 s7 =>
    if r11 = 0 then
      p_gd (p_is s7 v0 11) <|
      p_gd (p_is s7 (p_R s7 v0 56) 100) <|
      p_gd ((0 : Int) ≤ (p_Z s7 v0 0) ∧ (p_Z s7 v0 0) < (p_L s7 (p_R s7 v0 56) : Int)) <|
      if (p_Z s7 (p_R s7 v0 56) ((p_Z s7 v0 0) : Int).toNat) ≠ 16 then
        p_gd ((0 : Int) ≤ (p_Z s7 v0 0) ∧ (p_Z s7 v0 0) < (p_L s7 (p_R s7 v0 56) : Int)) <|
        p_bi ((p_w ((p_w (16 * (p_Z s7 v0 0))) + (p_Z s7 (p_R s7 v0 56) ((p_Z s7 v0 0) : Int).toNat)))) fun x18 =>
        p_gd (p_is s7 (p_R s7 v0 57) 100) <|
        p_gd ((0 : Int) ≤ x18 ∧ x18 < (p_L s7 (p_R s7 v0 57) : Int)) <|
        p_bi (p_wZ s7 (p_R s7 v0 57) (x18 : Int).toNat v1) fun s21 =>
        p_gd (p_is s21 (p_R s21 v0 58) 100) <|
        p_gd ((0 : Int) ≤ (p_w (4 * x18)) ∧ (p_w (4 * x18)) < (p_L s21 (p_R s21 v0 58) : Int)) <|
        p_bi (p_wZ s21 (p_R s21 v0 58) ((p_w (4 * x18)) : Int).toNat v2) fun s25 =>
        p_gd (p_is s25 (p_R s25 v0 58) 100) <|
        p_gd ((0 : Int) ≤ (p_w ((p_w (4 * x18)) + 1)) ∧ (p_w ((p_w (4 * x18)) + 1)) < (p_L s25 (p_R s25 v0 58) : Int)) <|
        p_bi (p_wZ s25 (p_R s25 v0 58) ((p_w ((p_w (4 * x18)) + 1)) : Int).toNat v3) fun s29 =>
        p_gd (p_is s29 (p_R s29 v0 58) 100) <|
        p_gd ((0 : Int) ≤ (p_w ((p_w (4 * x18)) + 2)) ∧ (p_w ((p_w (4 * x18)) + 2)) < (p_L s29 (p_R s29 v0 58) : Int)) <|
        p_bi (p_wZ s29 (p_R s29 v0 58) ((p_w ((p_w (4 * x18)) + 2)) : Int).toNat v4) fun s33 =>
        p_gd (p_is s33 (p_R s33 v0 58) 100) <|
        p_gd ((0 : Int) ≤ (p_w ((p_w (4 * x18)) + 3)) ∧ (p_w ((p_w (4 * x18)) + 3)) < (p_L s33 (p_R s33 v0 58) : Int)) <|
        p_bi (p_wZ s33 (p_R s33 v0 58) ((p_w ((p_w (4 * x18)) + 3)) : Int).toNat v5) fun s37 =>
        p_gd (p_is s37 (p_R s37 v0 56) 100) <|
        p_gd ((0 : Int) ≤ (p_Z s37 v0 0) ∧ (p_Z s37 v0 0) < (p_L s37 (p_R s37 v0 56) : Int)) <|
        p_gd ((0 : Int) ≤ (p_Z s37 v0 0) ∧ (p_Z s37 v0 0) < (p_L s37 (p_R s37 v0 56) : Int)) <|
        p_bi (p_wZ s37 (p_R s37 v0 56) ((p_Z s37 v0 0) : Int).toNat (p_w ((p_Z s37 (p_R s37 v0 56) ((p_Z s37 v0 0) : Int).toNat) + 1))) fun s42 =>
        p_gd (p_is s42 (p_R s42 v0 56) 100) <|
        p_gd ((0 : Int) ≤ (p_Z s42 v0 0) ∧ (p_Z s42 v0 0) < (p_L s42 (p_R s42 v0 56) : Int)) <|
        p_bd (F_Mo_built v0 (p_w ((p_Z s42 (p_R s42 v0 56) ((p_Z s42 v0 0) : Int).toNat) - 1)) s42) fun r50 s46 =>
        some (r50, s46)
      else
        p_bd (F_Mo_refused v0 (-4) s7) fun r55 s51 =>
        some (r55, s51)
    else
      B_Mo_plan_24 v0 s7
set_option maxRecDepth 100000 in
set_option maxHeartbeats 4000000 in
theorem tB_Mo_plan_24 (K : p_K) (l : Launch)  (v0 : Nat) (s0 : p_Hp) (r : (Int × p_Hp)) (h : B_Mo_plan_24 v0 s0 = some r) : p_Go K l m_Mo_plan 24 [(0, p_r v0)] [] s0 (some (p_i r.1), r.2) := by
  unfold B_Mo_plan_24 at h
  refine g_aload_n (i := 0) (j := 0) (dk_Mo_plan 12 rfl) rfl rfl ?_
  refine g_bipush (dk_Mo_plan 13 rfl) (by decide +kernel) (by decide) ?_
  obtain ⟨c1, h⟩ := p_gdE h
  obtain ⟨r6, s2, q3, h⟩ := p_bdE h
  have t4 := tF_Mo_refused K l v0 (-2) s0 _ q3
  refine g_callV (a := v0) (ci := 11) (q0 := (RX11, TX11, 90)) (As := [p_i (-2)]) (rest := []) [p_i r6] mt_Mo_refused rfl rfl tw_7_67 ts_43 tw_7_65 ⟨Nat.le_of_ble_eq_true rfl, Nat.le_of_ble_eq_true rfl⟩ rfl (Nat.le_of_ble_eq_true rfl) (dk_Mo_plan 14 rfl) rfl c1 rfl t4 ?_
  have hs5 : p_x s0 s2 := t4.1
  show p_Go K l m_Mo_plan 30 [(0, p_r v0)] [p_i r6] s2 _
  cases h
  exact g_ret rfl rfl (dk_Mo_plan 15 rfl) (fun os => ⟨_, rfl, p_okh os⟩)
set_option maxRecDepth 100000 in
set_option maxHeartbeats 4000000 in
theorem tF_Mo_plan (K : p_K) (l : Launch) (v0 : Nat) (v1 : Int) (v2 : Int) (v3 : Int) (v4 : Int) (v5 : Int) (s0 : p_Hp) (r : (Int × p_Hp)) (h : F_Mo_plan v0 v1 v2 v3 v4 v5 s0 = some r) : p_Ct K l m_Mo_plan [p_r v0, p_i v1, p_i v2, p_i v3, p_i v4, p_i v5] s0 (some (p_i r.1), r.2) := by
  refine p_Ct.of (by decide +kernel) (Nat.le_of_ble_eq_true rfl) ?_
  unfold F_Mo_plan at h
  show p_Go K l m_Mo_plan 0 [(0, p_r v0), (1, p_i v1), (2, p_i v2), (3, p_i v3), (4, p_i v4), (5, p_i v5)] [] s0 _
  refine g_iload_n (i := 1) (j := 1) (dk_Mo_plan 0 rfl) rfl rfl ?_
  refine g_i2l (dk_Mo_plan 1 rfl) ?_
  refine g_lconst (x := 1) (dk_Mo_plan 2 rfl) rfl (by decide) ?_
  refine g_ldc2_w (x := 4) (dk_Mo_plan 3 rfl) tw_7_191 (by decide) (by decide) ?_
  obtain ⟨r5, s1, q2, h⟩ := p_bdE h
  have t3 := tF_Mo_beyond K l v1 1 4 s0 _ q2
  refine g_callS (av := [p_j v1, p_j 1, p_j 4]) (rest := []) [p_i r5] mt_Mo_beyond tw_7_63 tw_7_62 ⟨Nat.le_of_ble_eq_true rfl, Nat.le_of_ble_eq_true rfl⟩ rfl (Nat.le_of_ble_eq_true rfl) (dk_Mo_plan 4 rfl) rfl rfl t3 ?_
  have hs4 : p_x s0 s1 := t3.1
  show p_Go K l m_Mo_plan 9 [(0, p_r v0), (1, p_i v1), (2, p_i v2), (3, p_i v3), (4, p_i v4), (5, p_i v5)] [p_i r5] s1 _
  refine g_if_ne 24 (dk_Mo_plan 5 rfl) (by decide) (fun b6 => ?_) (fun b6 => ?_)
  · have h := p_ifT b6 h
    refine g_sub [(0, p_r v0)] [0] rfl ?_
    exact tB_Mo_plan_24 K l v0 s1 _ h
  · have h := p_ifF b6 h
    refine g_iload_n (i := 2) (j := 2) (dk_Mo_plan 6 rfl) rfl rfl ?_
    refine g_i2l (dk_Mo_plan 7 rfl) ?_
    refine g_lconst (x := 0) (dk_Mo_plan 8 rfl) rfl (by decide) ?_
    refine g_ldc2_w (x := 9999) (dk_Mo_plan 9 rfl) tw_7_192 (by decide) (by decide) ?_
    obtain ⟨r11, s7, q8, h⟩ := p_bdE h
    have t9 := tF_Mo_beyond K l v2 0 9999 s1 _ q8
    refine g_callS (av := [p_j v2, p_j 0, p_j 9999]) (rest := []) [p_i r11] mt_Mo_beyond tw_7_63 tw_7_62 ⟨Nat.le_of_ble_eq_true rfl, Nat.le_of_ble_eq_true rfl⟩ rfl (Nat.le_of_ble_eq_true rfl) (dk_Mo_plan 10 rfl) rfl rfl t9 ?_
    have hs10 : p_x s1 s7 := t9.1
    show p_Go K l m_Mo_plan 21 [(0, p_r v0), (1, p_i v1), (2, p_i v2), (3, p_i v3), (4, p_i v4), (5, p_i v5)] [p_i r11] s7 _
    refine g_if_eq 31 (dk_Mo_plan 11 rfl) (by decide) (fun b12 => ?_) (fun b12 => ?_)
    · have h := p_ifT b12 h
      refine g_aload_n (i := 0) (j := 0) (dk_Mo_plan 16 rfl) rfl rfl ?_
      obtain ⟨c13, h⟩ := p_gdE h
      refine g_getR fl_Mo_165 (Or.inr ⟨_, rfl⟩) (dk_Mo_plan 17 rfl) c13 ?_
      refine g_aload_n (i := 0) (j := 0) (dk_Mo_plan 18 rfl) rfl rfl ?_
      refine g_getI fl_Mo_227 (Or.inl rfl) (dk_Mo_plan 19 rfl) c13 ?_
      obtain ⟨c14, h⟩ := p_gdE h
      obtain ⟨c15, h⟩ := p_gdE h
      refine g_iaload (dk_Mo_plan 20 rfl) c14 c15.1 c15.2 ?_
      refine g_bipush (dk_Mo_plan 21 rfl) (by decide +kernel) (by decide) ?_
      refine g_icmp_ne 52 (dk_Mo_plan 22 rfl) (by decide) (fun b16 => ?_) (fun b16 => ?_)
      · have h := p_ifT b16 h
        refine g_bipush (dk_Mo_plan 27 rfl) (by decide +kernel) (by decide) ?_
        refine g_aload_n (i := 0) (j := 0) (dk_Mo_plan 28 rfl) rfl rfl ?_
        refine g_getI fl_Mo_227 (Or.inl rfl) (dk_Mo_plan 29 rfl) c13 ?_
        refine g_imul (dk_Mo_plan 30 rfl) ?_
        refine g_aload_n (i := 0) (j := 0) (dk_Mo_plan 31 rfl) rfl rfl ?_
        refine g_getR fl_Mo_165 (Or.inr ⟨_, rfl⟩) (dk_Mo_plan 32 rfl) c13 ?_
        refine g_aload_n (i := 0) (j := 0) (dk_Mo_plan 33 rfl) rfl rfl ?_
        refine g_getI fl_Mo_227 (Or.inl rfl) (dk_Mo_plan 34 rfl) c13 ?_
        obtain ⟨c17, h⟩ := p_gdE h
        refine g_iaload (dk_Mo_plan 35 rfl) c14 c17.1 c17.2 ?_
        refine g_iadd (dk_Mo_plan 36 rfl) ?_
        refine g_istore [(6, p_i (p_w ((p_w (16 * (p_Z s7 v0 0))) + (p_Z s7 (p_R s7 v0 56) ((p_Z s7 v0 0) : Int).toNat)))), (0, p_r v0), (1, p_i v1), (2, p_i v2), (3, p_i v3), (4, p_i v4), (5, p_i v5)] (dk_Mo_plan 37 rfl) (by decide) rfl ?_
        refine p_ltG (P := fun q => p_Go K l m_Mo_plan 71 [(6, p_i q), (0, p_r v0), (1, p_i v1), (2, p_i v2), (3, p_i v3), (4, p_i v4), (5, p_i v5)] [] s7 _) ?_ h
        intro x18 h
        refine g_aload_n (i := 0) (j := 1) (dk_Mo_plan 38 rfl) rfl rfl ?_
        refine g_getR fl_Mo_168 (Or.inr ⟨_, rfl⟩) (dk_Mo_plan 39 rfl) c13 ?_
        refine g_iload (j := 0) (dk_Mo_plan 40 rfl) rfl ?_
        refine g_iload_n (i := 1) (j := 2) (dk_Mo_plan 41 rfl) rfl rfl ?_
        obtain ⟨c19, h⟩ := p_gdE h
        obtain ⟨c20, h⟩ := p_gdE h
        refine g_iastore (dk_Mo_plan 42 rfl) c19 c20.1 c20.2 ?_
        refine p_ltS (P := fun q => p_Go K l m_Mo_plan 79 [(6, p_i x18), (0, p_r v0), (1, p_i v1), (2, p_i v2), (3, p_i v3), (4, p_i v4), (5, p_i v5)] [] q _) (p_xZ _ _ _ _) ?_ h
        intro s21 hs22 h
        refine g_aload_n (i := 0) (j := 1) (dk_Mo_plan 43 rfl) rfl rfl ?_
        refine g_getR fl_Mo_171 (Or.inr ⟨_, rfl⟩) (dk_Mo_plan 44 rfl) (c13.up hs22) ?_
        refine g_iconst (dk_Mo_plan 45 rfl) (by decide) ?_
        refine g_iload (j := 0) (dk_Mo_plan 46 rfl) rfl ?_
        refine g_imul (dk_Mo_plan 47 rfl) ?_
        refine g_iload_n (i := 2) (j := 3) (dk_Mo_plan 48 rfl) rfl rfl ?_
        obtain ⟨c23, h⟩ := p_gdE h
        obtain ⟨c24, h⟩ := p_gdE h
        refine g_iastore (dk_Mo_plan 49 rfl) c23 c24.1 c24.2 ?_
        refine p_ltS (P := fun q => p_Go K l m_Mo_plan 89 [(6, p_i x18), (0, p_r v0), (1, p_i v1), (2, p_i v2), (3, p_i v3), (4, p_i v4), (5, p_i v5)] [] q _) (p_xZ _ _ _ _) ?_ h
        intro s25 hs26 h
        refine g_aload_n (i := 0) (j := 1) (dk_Mo_plan 50 rfl) rfl rfl ?_
        refine g_getR fl_Mo_171 (Or.inr ⟨_, rfl⟩) (dk_Mo_plan 51 rfl) (c13.up (hs22.trans hs26)) ?_
        refine g_iconst (dk_Mo_plan 52 rfl) (by decide) ?_
        refine g_iload (j := 0) (dk_Mo_plan 53 rfl) rfl ?_
        refine g_imul (dk_Mo_plan 54 rfl) ?_
        refine g_iconst (dk_Mo_plan 55 rfl) (by decide) ?_
        refine g_iadd (dk_Mo_plan 56 rfl) ?_
        refine g_iload_n (i := 3) (j := 4) (dk_Mo_plan 57 rfl) rfl rfl ?_
        obtain ⟨c27, h⟩ := p_gdE h
        obtain ⟨c28, h⟩ := p_gdE h
        refine g_iastore (dk_Mo_plan 58 rfl) c27 c28.1 c28.2 ?_
        refine p_ltS (P := fun q => p_Go K l m_Mo_plan 101 [(6, p_i x18), (0, p_r v0), (1, p_i v1), (2, p_i v2), (3, p_i v3), (4, p_i v4), (5, p_i v5)] [] q _) (p_xZ _ _ _ _) ?_ h
        intro s29 hs30 h
        refine g_aload_n (i := 0) (j := 1) (dk_Mo_plan 59 rfl) rfl rfl ?_
        refine g_getR fl_Mo_171 (Or.inr ⟨_, rfl⟩) (dk_Mo_plan 60 rfl) (c13.up (hs22.trans (hs26.trans hs30))) ?_
        refine g_iconst (dk_Mo_plan 61 rfl) (by decide) ?_
        refine g_iload (j := 0) (dk_Mo_plan 62 rfl) rfl ?_
        refine g_imul (dk_Mo_plan 63 rfl) ?_
        refine g_iconst (dk_Mo_plan 64 rfl) (by decide) ?_
        refine g_iadd (dk_Mo_plan 65 rfl) ?_
        refine g_iload (j := 5) (dk_Mo_plan 66 rfl) rfl ?_
        obtain ⟨c31, h⟩ := p_gdE h
        obtain ⟨c32, h⟩ := p_gdE h
        refine g_iastore (dk_Mo_plan 67 rfl) c31 c32.1 c32.2 ?_
        refine p_ltS (P := fun q => p_Go K l m_Mo_plan 114 [(6, p_i x18), (0, p_r v0), (1, p_i v1), (2, p_i v2), (3, p_i v3), (4, p_i v4), (5, p_i v5)] [] q _) (p_xZ _ _ _ _) ?_ h
        intro s33 hs34 h
        refine g_aload_n (i := 0) (j := 1) (dk_Mo_plan 68 rfl) rfl rfl ?_
        refine g_getR fl_Mo_171 (Or.inr ⟨_, rfl⟩) (dk_Mo_plan 69 rfl) (c13.up (hs22.trans (hs26.trans (hs30.trans hs34)))) ?_
        refine g_iconst (dk_Mo_plan 70 rfl) (by decide) ?_
        refine g_iload (j := 0) (dk_Mo_plan 71 rfl) rfl ?_
        refine g_imul (dk_Mo_plan 72 rfl) ?_
        refine g_iconst (dk_Mo_plan 73 rfl) (by decide) ?_
        refine g_iadd (dk_Mo_plan 74 rfl) ?_
        refine g_iload (j := 6) (dk_Mo_plan 75 rfl) rfl ?_
        obtain ⟨c35, h⟩ := p_gdE h
        obtain ⟨c36, h⟩ := p_gdE h
        refine g_iastore (dk_Mo_plan 76 rfl) c35 c36.1 c36.2 ?_
        refine p_ltS (P := fun q => p_Go K l m_Mo_plan 127 [(6, p_i x18), (0, p_r v0), (1, p_i v1), (2, p_i v2), (3, p_i v3), (4, p_i v4), (5, p_i v5)] [] q _) (p_xZ _ _ _ _) ?_ h
        intro s37 hs38 h
        refine g_aload_n (i := 0) (j := 1) (dk_Mo_plan 77 rfl) rfl rfl ?_
        refine g_getR fl_Mo_165 (Or.inr ⟨_, rfl⟩) (dk_Mo_plan 78 rfl) (c13.up (hs22.trans (hs26.trans (hs30.trans (hs34.trans hs38))))) ?_
        refine g_aload_n (i := 0) (j := 1) (dk_Mo_plan 79 rfl) rfl rfl ?_
        refine g_getI fl_Mo_227 (Or.inl rfl) (dk_Mo_plan 80 rfl) (c13.up (hs22.trans (hs26.trans (hs30.trans (hs34.trans hs38))))) ?_
        refine g_dup2 (dk_Mo_plan 81 rfl) rfl rfl ?_
        obtain ⟨c39, h⟩ := p_gdE h
        obtain ⟨c40, h⟩ := p_gdE h
        refine g_iaload (dk_Mo_plan 82 rfl) c39 c40.1 c40.2 ?_
        refine g_iconst (dk_Mo_plan 83 rfl) (by decide) ?_
        refine g_iadd (dk_Mo_plan 84 rfl) ?_
        obtain ⟨c41, h⟩ := p_gdE h
        refine g_iastore (dk_Mo_plan 85 rfl) c39 c41.1 c41.2 ?_
        refine p_ltS (P := fun q => p_Go K l m_Mo_plan 140 [(6, p_i x18), (0, p_r v0), (1, p_i v1), (2, p_i v2), (3, p_i v3), (4, p_i v4), (5, p_i v5)] [] q _) (p_xZ _ _ _ _) ?_ h
        intro s42 hs43 h
        refine g_aload_n (i := 0) (j := 1) (dk_Mo_plan 86 rfl) rfl rfl ?_
        refine g_aload_n (i := 0) (j := 1) (dk_Mo_plan 87 rfl) rfl rfl ?_
        refine g_getR fl_Mo_165 (Or.inr ⟨_, rfl⟩) (dk_Mo_plan 88 rfl) (c13.up (hs22.trans (hs26.trans (hs30.trans (hs34.trans (hs38.trans hs43)))))) ?_
        refine g_aload_n (i := 0) (j := 1) (dk_Mo_plan 89 rfl) rfl rfl ?_
        refine g_getI fl_Mo_227 (Or.inl rfl) (dk_Mo_plan 90 rfl) (c13.up (hs22.trans (hs26.trans (hs30.trans (hs34.trans (hs38.trans hs43)))))) ?_
        obtain ⟨c44, h⟩ := p_gdE h
        obtain ⟨c45, h⟩ := p_gdE h
        refine g_iaload (dk_Mo_plan 91 rfl) c44 c45.1 c45.2 ?_
        refine g_iconst (dk_Mo_plan 92 rfl) (by decide) ?_
        refine g_isub (dk_Mo_plan 93 rfl) ?_
        obtain ⟨r50, s46, q47, h⟩ := p_bdE h
        have t48 := tF_Mo_built K l v0 (p_w ((p_Z s42 (p_R s42 v0 56) ((p_Z s42 v0 0) : Int).toNat) - 1)) s42 _ q47
        refine g_callV (a := v0) (ci := 11) (q0 := (RX11, TX11, 90)) (As := [p_i (p_w ((p_Z s42 (p_R s42 v0 56) ((p_Z s42 v0 0) : Int).toNat) - 1))]) (rest := []) [p_i r50] mt_Mo_built rfl rfl tw_7_98 ts_47 tw_7_96 ⟨Nat.le_of_ble_eq_true rfl, Nat.le_of_ble_eq_true rfl⟩ rfl (Nat.le_of_ble_eq_true rfl) (dk_Mo_plan 94 rfl) rfl (c13.up (hs22.trans (hs26.trans (hs30.trans (hs34.trans (hs38.trans hs43)))))) rfl t48 ?_
        have hs49 : p_x s42 s46 := t48.1
        show p_Go K l m_Mo_plan 155 [(6, p_i x18), (0, p_r v0), (1, p_i v1), (2, p_i v2), (3, p_i v3), (4, p_i v4), (5, p_i v5)] [p_i r50] s46 _
        cases h
        exact g_ret rfl rfl (dk_Mo_plan 95 rfl) (fun os => ⟨_, rfl, p_okh os⟩)
      · have h := p_ifF b16 h
        refine g_aload_n (i := 0) (j := 0) (dk_Mo_plan 23 rfl) rfl rfl ?_
        refine g_bipush (dk_Mo_plan 24 rfl) (by decide +kernel) (by decide) ?_
        obtain ⟨r55, s51, q52, h⟩ := p_bdE h
        have t53 := tF_Mo_refused K l v0 (-4) s7 _ q52
        refine g_callV (a := v0) (ci := 11) (q0 := (RX11, TX11, 90)) (As := [p_i (-4)]) (rest := []) [p_i r55] mt_Mo_refused rfl rfl tw_7_67 ts_43 tw_7_65 ⟨Nat.le_of_ble_eq_true rfl, Nat.le_of_ble_eq_true rfl⟩ rfl (Nat.le_of_ble_eq_true rfl) (dk_Mo_plan 25 rfl) rfl c13 rfl t53 ?_
        have hs54 : p_x s7 s51 := t53.1
        show p_Go K l m_Mo_plan 51 [(0, p_r v0), (1, p_i v1), (2, p_i v2), (3, p_i v3), (4, p_i v4), (5, p_i v5)] [p_i r55] s51 _
        cases h
        exact g_ret rfl rfl (dk_Mo_plan 26 rfl) (fun os => ⟨_, rfl, p_okh os⟩)
    · have h := p_ifF b12 h
      refine g_sub [(0, p_r v0)] [0] rfl ?_
      exact tB_Mo_plan_24 K l v0 s7 _ h
def m_Mo_comesFull : p_Me := (⟨"SortWorksModel", "comesFull", "()Z"⟩, prog_13_method_40_code, 1, (some .boolean), 0, 0)
theorem mt_Mo_comesFull : p_Mt m_Mo_comesFull 0 := ⟨p_mem (p_tb7 (List.mem_of_getElem? (i := 204) rfl)) rfl, tw_1_12, by decide +kernel, by decide +kernel, by decide +kernel⟩
def dt_Mo_comesFull : List (Nat × Instr × Nat) := [(0, .aload_n 0, 1), (1, .getfield 114, 3), (4, .aload_n 0, 1), (5, .getfield 227, 3), (8, .iaload, 1), (9, .bipush 30, 2), (11, .if_icmp .eq 13, 3), (14, .aload_n 0, 1), (15, .getfield 334, 3), (18, .sipush 2000, 3), (21, .if_icmp .ne 7, 3), (24, .iconst 1, 1), (25, .goto 4, 3), (28, .iconst 0, 1), (29, .ireturn, 1)]
theorem dk_Mo_comesFull (i : Nat) {pc : Nat} {ins : Instr} {len : Nat} (h : dt_Mo_comesFull[i]? = some (pc, ins, len)) : decode m_Mo_comesFull.2.1 pc = .ok (ins, len) := p_dk (b := m_Mo_comesFull.2.1) (t := dt_Mo_comesFull) (by decide +kernel) i h
def B_Mo_comesFull_24   (s0 : p_Hp) : Option (Int × p_Hp) :=
  some (1, s0)
def F_Mo_comesFull (v0 : Nat) (s0 : p_Hp) : Option (Int × p_Hp) :=
  p_gd (p_is s0 v0 11) <|
  p_gd (p_is s0 (p_R s0 v0 38) 100) <|
  p_gd ((0 : Int) ≤ (p_Z s0 v0 0) ∧ (p_Z s0 v0 0) < (p_L s0 (p_R s0 v0 38) : Int)) <|
  if (p_Z s0 (p_R s0 v0 38) ((p_Z s0 v0 0) : Int).toNat) = 30 then
    B_Mo_comesFull_24 s0
  else
    if (p_Z s0 v0 23) ≠ 2000 then
      some (0, s0)
    else
      B_Mo_comesFull_24 s0
set_option maxRecDepth 100000 in
set_option maxHeartbeats 4000000 in
theorem tB_Mo_comesFull_24 (K : p_K) (l : Launch)   (s0 : p_Hp) (r : (Int × p_Hp)) (h : B_Mo_comesFull_24  s0 = some r) : p_Go K l m_Mo_comesFull 24 [] [] s0 (some (p_i r.1), r.2) := by
  unfold B_Mo_comesFull_24 at h
  refine g_iconst (dk_Mo_comesFull 11 rfl) (by decide) ?_
  refine g_goto 29 (dk_Mo_comesFull 12 rfl) (by decide) ?_
  cases h
  exact g_ret rfl rfl (dk_Mo_comesFull 14 rfl) (fun _ => ⟨_, rfl, Or.inr rfl⟩)
set_option maxRecDepth 100000 in
set_option maxHeartbeats 4000000 in
theorem tF_Mo_comesFull (K : p_K) (l : Launch) (v0 : Nat) (s0 : p_Hp) (r : (Int × p_Hp)) (h : F_Mo_comesFull v0 s0 = some r) : p_Ct K l m_Mo_comesFull [p_r v0] s0 (some (p_i r.1), r.2) := by
  refine p_Ct.of (by decide +kernel) (Nat.le_of_ble_eq_true rfl) ?_
  unfold F_Mo_comesFull at h
  show p_Go K l m_Mo_comesFull 0 [(0, p_r v0)] [] s0 _
  refine g_aload_n (i := 0) (j := 0) (dk_Mo_comesFull 0 rfl) rfl rfl ?_
  obtain ⟨c1, h⟩ := p_gdE h
  refine g_getR fl_Mo_114 (Or.inr ⟨_, rfl⟩) (dk_Mo_comesFull 1 rfl) c1 ?_
  refine g_aload_n (i := 0) (j := 0) (dk_Mo_comesFull 2 rfl) rfl rfl ?_
  refine g_getI fl_Mo_227 (Or.inl rfl) (dk_Mo_comesFull 3 rfl) c1 ?_
  obtain ⟨c2, h⟩ := p_gdE h
  obtain ⟨c3, h⟩ := p_gdE h
  refine g_iaload (dk_Mo_comesFull 4 rfl) c2 c3.1 c3.2 ?_
  refine g_bipush (dk_Mo_comesFull 5 rfl) (by decide +kernel) (by decide) ?_
  refine g_icmp_eq 24 (dk_Mo_comesFull 6 rfl) (by decide) (fun b4 => ?_) (fun b4 => ?_)
  · have h := p_ifT b4 h
    refine g_sub [] [] rfl ?_
    exact tB_Mo_comesFull_24 K l s0 _ h
  · have h := p_ifF b4 h
    refine g_aload_n (i := 0) (j := 0) (dk_Mo_comesFull 7 rfl) rfl rfl ?_
    refine g_getI fl_Mo_334 (Or.inl rfl) (dk_Mo_comesFull 8 rfl) c1 ?_
    refine g_sipush (dk_Mo_comesFull 9 rfl) (by decide +kernel) (by decide) ?_
    refine g_icmp_ne 28 (dk_Mo_comesFull 10 rfl) (by decide) (fun b5 => ?_) (fun b5 => ?_)
    · have h := p_ifT b5 h
      refine g_iconst (dk_Mo_comesFull 13 rfl) (by decide) ?_
      cases h
      exact g_ret rfl rfl (dk_Mo_comesFull 14 rfl) (fun _ => ⟨_, rfl, Or.inl rfl⟩)
    · have h := p_ifF b5 h
      refine g_sub [] [] rfl ?_
      exact tB_Mo_comesFull_24 K l s0 _ h
def m_Mo_isChute : p_Me := (⟨"SortWorksModel", "isChute", "(I)Z"⟩, prog_13_method_10_code, 1, (some .boolean), 0, 0)
theorem mt_Mo_isChute : p_Mt m_Mo_isChute 1 := ⟨p_mem (p_tb7 (List.mem_of_getElem? (i := 200) rfl)) rfl, tw_1_12, by decide +kernel, by decide +kernel, by decide +kernel⟩
def dt_Mo_isChute : List (Nat × Instr × Nat) := [(0, .iload_n 0, 1), (1, .bipush 7, 2), (3, .if_icmp .eq 9, 3), (6, .iload_n 0, 1), (7, .bipush 8, 2), (9, .if_icmp .ne 7, 3), (12, .iconst 1, 1), (13, .goto 4, 3), (16, .iconst 0, 1), (17, .ireturn, 1)]
theorem dk_Mo_isChute (i : Nat) {pc : Nat} {ins : Instr} {len : Nat} (h : dt_Mo_isChute[i]? = some (pc, ins, len)) : decode m_Mo_isChute.2.1 pc = .ok (ins, len) := p_dk (b := m_Mo_isChute.2.1) (t := dt_Mo_isChute) (by decide +kernel) i h
def B_Mo_isChute_12   (s0 : p_Hp) : Option (Int × p_Hp) :=
  some (1, s0)
def F_Mo_isChute (v0 : Int) (s0 : p_Hp) : Option (Int × p_Hp) :=
  if v0 = 7 then
    B_Mo_isChute_12 s0
  else
    if v0 ≠ 8 then
      some (0, s0)
    else
      B_Mo_isChute_12 s0
set_option maxRecDepth 100000 in
set_option maxHeartbeats 4000000 in
theorem tB_Mo_isChute_12 (K : p_K) (l : Launch)   (s0 : p_Hp) (r : (Int × p_Hp)) (h : B_Mo_isChute_12  s0 = some r) : p_Go K l m_Mo_isChute 12 [] [] s0 (some (p_i r.1), r.2) := by
  unfold B_Mo_isChute_12 at h
  refine g_iconst (dk_Mo_isChute 6 rfl) (by decide) ?_
  refine g_goto 17 (dk_Mo_isChute 7 rfl) (by decide) ?_
  cases h
  exact g_ret rfl rfl (dk_Mo_isChute 9 rfl) (fun _ => ⟨_, rfl, Or.inr rfl⟩)
set_option maxRecDepth 100000 in
set_option maxHeartbeats 4000000 in
theorem tF_Mo_isChute (K : p_K) (l : Launch) (v0 : Int) (s0 : p_Hp) (r : (Int × p_Hp)) (h : F_Mo_isChute v0 s0 = some r) : p_Ct K l m_Mo_isChute [p_i v0] s0 (some (p_i r.1), r.2) := by
  refine p_Ct.of (by decide +kernel) (Nat.le_of_ble_eq_true rfl) ?_
  unfold F_Mo_isChute at h
  show p_Go K l m_Mo_isChute 0 [(0, p_i v0)] [] s0 _
  refine g_iload_n (i := 0) (j := 0) (dk_Mo_isChute 0 rfl) rfl rfl ?_
  refine g_bipush (dk_Mo_isChute 1 rfl) (by decide +kernel) (by decide) ?_
  refine g_icmp_eq 12 (dk_Mo_isChute 2 rfl) (by decide) (fun b1 => ?_) (fun b1 => ?_)
  · have h := p_ifT b1 h
    refine g_sub [] [] rfl ?_
    exact tB_Mo_isChute_12 K l s0 _ h
  · have h := p_ifF b1 h
    refine g_iload_n (i := 0) (j := 0) (dk_Mo_isChute 3 rfl) rfl rfl ?_
    refine g_bipush (dk_Mo_isChute 4 rfl) (by decide +kernel) (by decide) ?_
    refine g_icmp_ne 16 (dk_Mo_isChute 5 rfl) (by decide) (fun b2 => ?_) (fun b2 => ?_)
    · have h := p_ifT b2 h
      refine g_iconst (dk_Mo_isChute 8 rfl) (by decide) ?_
      cases h
      exact g_ret rfl rfl (dk_Mo_isChute 9 rfl) (fun _ => ⟨_, rfl, Or.inl rfl⟩)
    · have h := p_ifF b2 h
      refine g_sub [] [] rfl ?_
      exact tB_Mo_isChute_12 K l s0 _ h
def m_Mo_enters : p_Me := (⟨"SortWorksModel", "enters", "(II)V"⟩, prog_13_method_38_code, 4, none, 1, 21)
theorem mt_Mo_enters : p_Mt m_Mo_enters 2 := ⟨p_mem (p_tb7 (List.mem_of_getElem? (i := 212) rfl)) rfl, tw_1_12, by decide +kernel, by decide +kernel, by decide +kernel⟩
def dt_Mo_enters : List (Nat × Instr × Nat) := [(0, .aload_n 0, 1), (1, .iload_n 2, 1), (2, .invokevirtual 257, 3), (5, .istore_n 3, 1), (6, .aload_n 0, 1), (7, .getfield 69, 3), (10, .bipush 8, 2), (12, .iload_n 3, 1), (13, .imul, 1), (14, .iload_n 1, 1), (15, .iastore, 1), (16, .aload_n 0, 1), (17, .getfield 57, 3), (20, .iload_n 3, 1), (21, .dup2, 1), (22, .iaload, 1), (23, .iconst 1, 1), (24, .iadd, 1), (25, .iastore, 1), (26, .aload_n 0, 1), (27, .getfield 78, 3), (30, .iload_n 1, 1), (31, .iload_n 2, 1), (32, .iastore, 1), (33, .aload_n 0, 1), (34, .getfield 81, 3), (37, .iload_n 1, 1), (38, .iconst 0, 1), (39, .iastore, 1), (40, .aload_n 0, 1), (41, .getfield 105, 3), (44, .iload_n 1, 1), (45, .iconst 0, 1), (46, .bastore, 1), (47, .aload_n 0, 1), (48, .getfield 99, 3), (51, .iload_n 1, 1), (52, .iaload, 1), (53, .bipush 16, 2), (55, .if_icmp .ge 20, 3), (58, .aload_n 0, 1), (59, .getfield 102, 3), (62, .bipush 16, 2), (64, .iload_n 1, 1), (65, .imul, 1), (66, .aload_n 0, 1), (67, .getfield 99, 3), (70, .iload_n 1, 1), (71, .iaload, 1), (72, .iadd, 1), (73, .iload_n 2, 1), (74, .iastore, 1), (75, .aload_n 0, 1), (76, .getfield 99, 3), (79, .iload_n 1, 1), (80, .dup2, 1), (81, .iaload, 1), (82, .iconst 1, 1), (83, .iadd, 1), (84, .iastore, 1), (85, .return_, 1)]
theorem dk_Mo_enters (i : Nat) {pc : Nat} {ins : Instr} {len : Nat} (h : dt_Mo_enters[i]? = some (pc, ins, len)) : decode m_Mo_enters.2.1 pc = .ok (ins, len) := p_dk (b := m_Mo_enters.2.1) (t := dt_Mo_enters) (by decide +kernel) i h
def B_Mo_enters_75  (v0 : Nat) (v1 : Int) (s0 : p_Hp) : Option p_Hp :=
  p_gd (p_is s0 v0 11) <|
  p_gd (p_is s0 (p_R s0 v0 33) 100) <|
  p_gd ((0 : Int) ≤ v1 ∧ v1 < (p_L s0 (p_R s0 v0 33) : Int)) <|
  p_gd ((0 : Int) ≤ v1 ∧ v1 < (p_L s0 (p_R s0 v0 33) : Int)) <|
  p_bi (p_wZ s0 (p_R s0 v0 33) (v1 : Int).toNat (p_w ((p_Z s0 (p_R s0 v0 33) (v1 : Int).toNat) + 1))) fun s5 =>
  some s5
def F_Mo_enters (v0 : Nat) (v1 : Int) (v2 : Int) (s0 : p_Hp) : Option p_Hp :=
  p_gd (p_is s0 v0 11) <|
  p_bd (F_Mo_g v0 v2 s0) fun r6 s2 =>
  p_gd (p_is s2 (p_R s2 v0 22) 100) <|
  p_gd ((0 : Int) ≤ (p_w (8 * r6)) ∧ (p_w (8 * r6)) < (p_L s2 (p_R s2 v0 22) : Int)) <|
  p_bi (p_wZ s2 (p_R s2 v0 22) ((p_w (8 * r6)) : Int).toNat v1) fun s9 =>
  p_gd (p_is s9 (p_R s9 v0 18) 100) <|
  p_gd ((0 : Int) ≤ r6 ∧ r6 < (p_L s9 (p_R s9 v0 18) : Int)) <|
  p_gd ((0 : Int) ≤ r6 ∧ r6 < (p_L s9 (p_R s9 v0 18) : Int)) <|
  p_bi (p_wZ s9 (p_R s9 v0 18) (r6 : Int).toNat (p_w ((p_Z s9 (p_R s9 v0 18) (r6 : Int).toNat) + 1))) fun s14 =>
  p_gd (p_is s14 (p_R s14 v0 26) 100) <|
  p_gd ((0 : Int) ≤ v1 ∧ v1 < (p_L s14 (p_R s14 v0 26) : Int)) <|
  p_bi (p_wZ s14 (p_R s14 v0 26) (v1 : Int).toNat v2) fun s18 =>
  p_gd (p_is s18 (p_R s18 v0 27) 100) <|
  p_gd ((0 : Int) ≤ v1 ∧ v1 < (p_L s18 (p_R s18 v0 27) : Int)) <|
  p_bi (p_wZ s18 (p_R s18 v0 27) (v1 : Int).toNat 0) fun s22 =>
  p_gd (p_is s22 (p_R s22 v0 35) 102) <|
  p_gd ((0 : Int) ≤ v1 ∧ v1 < (p_L s22 (p_R s22 v0 35) : Int)) <|
  p_bi (p_wZ s22 (p_R s22 v0 35) (v1 : Int).toNat 0) fun s26 =>
  p_gd (p_is s26 (p_R s26 v0 33) 100) <|
  p_gd ((0 : Int) ≤ v1 ∧ v1 < (p_L s26 (p_R s26 v0 33) : Int)) <|
  if 16 ≤ (p_Z s26 (p_R s26 v0 33) (v1 : Int).toNat) then
    B_Mo_enters_75 v0 v1 s26
  else
    p_gd ((0 : Int) ≤ v1 ∧ v1 < (p_L s26 (p_R s26 v0 33) : Int)) <|
    p_gd (p_is s26 (p_R s26 v0 34) 100) <|
    p_gd ((0 : Int) ≤ (p_w ((p_w (16 * v1)) + (p_Z s26 (p_R s26 v0 33) (v1 : Int).toNat))) ∧ (p_w ((p_w (16 * v1)) + (p_Z s26 (p_R s26 v0 33) (v1 : Int).toNat))) < (p_L s26 (p_R s26 v0 34) : Int)) <|
    p_bi (p_wZ s26 (p_R s26 v0 34) ((p_w ((p_w (16 * v1)) + (p_Z s26 (p_R s26 v0 33) (v1 : Int).toNat))) : Int).toNat v2) fun s34 =>
    B_Mo_enters_75 v0 v1 s34
set_option maxRecDepth 100000 in
set_option maxHeartbeats 4000000 in
theorem tB_Mo_enters_75 (K : p_K) (l : Launch)  (v0 : Nat) (v1 : Int) (s0 : p_Hp) (r : p_Hp) (h : B_Mo_enters_75 v0 v1 s0 = some r) : p_Go K l m_Mo_enters 75 [(0, p_r v0), (1, p_i v1)] [] s0 (none, r) := by
  unfold B_Mo_enters_75 at h
  refine g_aload_n (i := 0) (j := 0) (dk_Mo_enters 52 rfl) rfl rfl ?_
  obtain ⟨c1, h⟩ := p_gdE h
  refine g_getR fl_Mo_99 (Or.inr ⟨_, rfl⟩) (dk_Mo_enters 53 rfl) c1 ?_
  refine g_iload_n (i := 1) (j := 1) (dk_Mo_enters 54 rfl) rfl rfl ?_
  refine g_dup2 (dk_Mo_enters 55 rfl) rfl rfl ?_
  obtain ⟨c2, h⟩ := p_gdE h
  obtain ⟨c3, h⟩ := p_gdE h
  refine g_iaload (dk_Mo_enters 56 rfl) c2 c3.1 c3.2 ?_
  refine g_iconst (dk_Mo_enters 57 rfl) (by decide) ?_
  refine g_iadd (dk_Mo_enters 58 rfl) ?_
  obtain ⟨c4, h⟩ := p_gdE h
  refine g_iastore (dk_Mo_enters 59 rfl) c2 c4.1 c4.2 ?_
  refine p_ltS (P := fun q => p_Go K l m_Mo_enters 85 [(0, p_r v0), (1, p_i v1)] [] q _) (p_xZ _ _ _ _) ?_ h
  intro s5 hs6 h
  cases h
  exact g_ret rfl rfl (dk_Mo_enters 60 rfl) (fun _ => rfl)
set_option maxRecDepth 100000 in
set_option maxHeartbeats 4000000 in
theorem tF_Mo_enters (K : p_K) (l : Launch) (v0 : Nat) (v1 : Int) (v2 : Int) (s0 : p_Hp) (r : p_Hp) (h : F_Mo_enters v0 v1 v2 s0 = some r) : p_Ct K l m_Mo_enters [p_r v0, p_i v1, p_i v2] s0 (none, r) := by
  refine p_Ct.of (by decide +kernel) (Nat.le_of_ble_eq_true rfl) ?_
  unfold F_Mo_enters at h
  show p_Go K l m_Mo_enters 0 [(0, p_r v0), (1, p_i v1), (2, p_i v2)] [] s0 _
  refine g_aload_n (i := 0) (j := 0) (dk_Mo_enters 0 rfl) rfl rfl ?_
  refine g_iload_n (i := 2) (j := 2) (dk_Mo_enters 1 rfl) rfl rfl ?_
  obtain ⟨c1, h⟩ := p_gdE h
  obtain ⟨r6, s2, q3, h⟩ := p_bdE h
  have t4 := tF_Mo_g K l v0 v2 s0 _ q3
  refine g_callV (a := v0) (ci := 11) (q0 := (RX11, TX11, 90)) (As := [p_i v2]) (rest := []) [p_i r6] mt_Mo_g rfl rfl tw_7_84 ts_45 tw_7_82 ⟨Nat.le_of_ble_eq_true rfl, Nat.le_of_ble_eq_true rfl⟩ rfl (Nat.le_of_ble_eq_true rfl) (dk_Mo_enters 2 rfl) rfl c1 rfl t4 ?_
  have hs5 : p_x s0 s2 := t4.1
  show p_Go K l m_Mo_enters 5 [(0, p_r v0), (1, p_i v1), (2, p_i v2)] [p_i r6] s2 _
  refine g_istore_n (i := 3) [(3, p_i r6), (0, p_r v0), (1, p_i v1), (2, p_i v2)] (dk_Mo_enters 3 rfl) rfl (by decide) rfl ?_
  refine g_aload_n (i := 0) (j := 1) (dk_Mo_enters 4 rfl) rfl rfl ?_
  refine g_getR fl_Mo_69 (Or.inr ⟨_, rfl⟩) (dk_Mo_enters 5 rfl) (c1.up hs5) ?_
  refine g_bipush (dk_Mo_enters 6 rfl) (by decide +kernel) (by decide) ?_
  refine g_iload_n (i := 3) (j := 0) (dk_Mo_enters 7 rfl) rfl rfl ?_
  refine g_imul (dk_Mo_enters 8 rfl) ?_
  refine g_iload_n (i := 1) (j := 2) (dk_Mo_enters 9 rfl) rfl rfl ?_
  obtain ⟨c7, h⟩ := p_gdE h
  obtain ⟨c8, h⟩ := p_gdE h
  refine g_iastore (dk_Mo_enters 10 rfl) c7 c8.1 c8.2 ?_
  refine p_ltS (P := fun q => p_Go K l m_Mo_enters 16 [(3, p_i r6), (0, p_r v0), (1, p_i v1), (2, p_i v2)] [] q _) (p_xZ _ _ _ _) ?_ h
  intro s9 hs10 h
  refine g_aload_n (i := 0) (j := 1) (dk_Mo_enters 11 rfl) rfl rfl ?_
  refine g_getR fl_Mo_57 (Or.inr ⟨_, rfl⟩) (dk_Mo_enters 12 rfl) (c1.up (hs5.trans hs10)) ?_
  refine g_iload_n (i := 3) (j := 0) (dk_Mo_enters 13 rfl) rfl rfl ?_
  refine g_dup2 (dk_Mo_enters 14 rfl) rfl rfl ?_
  obtain ⟨c11, h⟩ := p_gdE h
  obtain ⟨c12, h⟩ := p_gdE h
  refine g_iaload (dk_Mo_enters 15 rfl) c11 c12.1 c12.2 ?_
  refine g_iconst (dk_Mo_enters 16 rfl) (by decide) ?_
  refine g_iadd (dk_Mo_enters 17 rfl) ?_
  obtain ⟨c13, h⟩ := p_gdE h
  refine g_iastore (dk_Mo_enters 18 rfl) c11 c13.1 c13.2 ?_
  refine p_ltS (P := fun q => p_Go K l m_Mo_enters 26 [(3, p_i r6), (0, p_r v0), (1, p_i v1), (2, p_i v2)] [] q _) (p_xZ _ _ _ _) ?_ h
  intro s14 hs15 h
  refine g_aload_n (i := 0) (j := 1) (dk_Mo_enters 19 rfl) rfl rfl ?_
  refine g_getR fl_Mo_78 (Or.inr ⟨_, rfl⟩) (dk_Mo_enters 20 rfl) (c1.up (hs5.trans (hs10.trans hs15))) ?_
  refine g_iload_n (i := 1) (j := 2) (dk_Mo_enters 21 rfl) rfl rfl ?_
  refine g_iload_n (i := 2) (j := 3) (dk_Mo_enters 22 rfl) rfl rfl ?_
  obtain ⟨c16, h⟩ := p_gdE h
  obtain ⟨c17, h⟩ := p_gdE h
  refine g_iastore (dk_Mo_enters 23 rfl) c16 c17.1 c17.2 ?_
  refine p_ltS (P := fun q => p_Go K l m_Mo_enters 33 [(3, p_i r6), (0, p_r v0), (1, p_i v1), (2, p_i v2)] [] q _) (p_xZ _ _ _ _) ?_ h
  intro s18 hs19 h
  refine g_aload_n (i := 0) (j := 1) (dk_Mo_enters 24 rfl) rfl rfl ?_
  refine g_getR fl_Mo_81 (Or.inr ⟨_, rfl⟩) (dk_Mo_enters 25 rfl) (c1.up (hs5.trans (hs10.trans (hs15.trans hs19)))) ?_
  refine g_iload_n (i := 1) (j := 2) (dk_Mo_enters 26 rfl) rfl rfl ?_
  refine g_iconst (dk_Mo_enters 27 rfl) (by decide) ?_
  obtain ⟨c20, h⟩ := p_gdE h
  obtain ⟨c21, h⟩ := p_gdE h
  refine g_iastore (dk_Mo_enters 28 rfl) c20 c21.1 c21.2 ?_
  refine p_ltS (P := fun q => p_Go K l m_Mo_enters 40 [(3, p_i r6), (0, p_r v0), (1, p_i v1), (2, p_i v2)] [] q _) (p_xZ _ _ _ _) ?_ h
  intro s22 hs23 h
  refine g_aload_n (i := 0) (j := 1) (dk_Mo_enters 29 rfl) rfl rfl ?_
  refine g_getR fl_Mo_105 (Or.inr ⟨_, rfl⟩) (dk_Mo_enters 30 rfl) (c1.up (hs5.trans (hs10.trans (hs15.trans (hs19.trans hs23))))) ?_
  refine g_iload_n (i := 1) (j := 2) (dk_Mo_enters 31 rfl) rfl rfl ?_
  refine g_iconst (dk_Mo_enters 32 rfl) (by decide) ?_
  obtain ⟨c24, h⟩ := p_gdE h
  obtain ⟨c25, h⟩ := p_gdE h
  refine g_bastore (dk_Mo_enters 33 rfl) c24 c25.1 c25.2 (Or.inl rfl) ?_
  refine p_ltS (P := fun q => p_Go K l m_Mo_enters 47 [(3, p_i r6), (0, p_r v0), (1, p_i v1), (2, p_i v2)] [] q _) (p_xZ _ _ _ _) ?_ h
  intro s26 hs27 h
  refine g_aload_n (i := 0) (j := 1) (dk_Mo_enters 34 rfl) rfl rfl ?_
  refine g_getR fl_Mo_99 (Or.inr ⟨_, rfl⟩) (dk_Mo_enters 35 rfl) (c1.up (hs5.trans (hs10.trans (hs15.trans (hs19.trans (hs23.trans hs27)))))) ?_
  refine g_iload_n (i := 1) (j := 2) (dk_Mo_enters 36 rfl) rfl rfl ?_
  obtain ⟨c28, h⟩ := p_gdE h
  obtain ⟨c29, h⟩ := p_gdE h
  refine g_iaload (dk_Mo_enters 37 rfl) c28 c29.1 c29.2 ?_
  refine g_bipush (dk_Mo_enters 38 rfl) (by decide +kernel) (by decide) ?_
  refine g_icmp_ge 75 (dk_Mo_enters 39 rfl) (by decide) (fun b30 => ?_) (fun b30 => ?_)
  · have h := p_ifT b30 h
    refine g_sub [(0, p_r v0), (1, p_i v1)] [1, 2] rfl ?_
    exact tB_Mo_enters_75 K l v0 v1 s26 _ h
  · have h := p_ifF b30 h
    refine g_aload_n (i := 0) (j := 1) (dk_Mo_enters 40 rfl) rfl rfl ?_
    refine g_getR fl_Mo_102 (Or.inr ⟨_, rfl⟩) (dk_Mo_enters 41 rfl) (c1.up (hs5.trans (hs10.trans (hs15.trans (hs19.trans (hs23.trans hs27)))))) ?_
    refine g_bipush (dk_Mo_enters 42 rfl) (by decide +kernel) (by decide) ?_
    refine g_iload_n (i := 1) (j := 2) (dk_Mo_enters 43 rfl) rfl rfl ?_
    refine g_imul (dk_Mo_enters 44 rfl) ?_
    refine g_aload_n (i := 0) (j := 1) (dk_Mo_enters 45 rfl) rfl rfl ?_
    refine g_getR fl_Mo_99 (Or.inr ⟨_, rfl⟩) (dk_Mo_enters 46 rfl) (c1.up (hs5.trans (hs10.trans (hs15.trans (hs19.trans (hs23.trans hs27)))))) ?_
    refine g_iload_n (i := 1) (j := 2) (dk_Mo_enters 47 rfl) rfl rfl ?_
    obtain ⟨c31, h⟩ := p_gdE h
    refine g_iaload (dk_Mo_enters 48 rfl) c28 c31.1 c31.2 ?_
    refine g_iadd (dk_Mo_enters 49 rfl) ?_
    refine g_iload_n (i := 2) (j := 3) (dk_Mo_enters 50 rfl) rfl rfl ?_
    obtain ⟨c32, h⟩ := p_gdE h
    obtain ⟨c33, h⟩ := p_gdE h
    refine g_iastore (dk_Mo_enters 51 rfl) c32 c33.1 c33.2 ?_
    refine p_ltS (P := fun q => p_Go K l m_Mo_enters 75 [(3, p_i r6), (0, p_r v0), (1, p_i v1), (2, p_i v2)] [] q _) (p_xZ _ _ _ _) ?_ h
    intro s34 hs35 h
    refine g_sub [(0, p_r v0), (1, p_i v1)] [1, 2] rfl ?_
    exact tB_Mo_enters_75 K l v0 v1 s34 _ h
def m_Mo_newParcel : p_Me := (⟨"SortWorksModel", "newParcel", "(III)I"⟩, prog_13_method_41_code, 5, (some .int), 2, 44)
theorem mt_Mo_newParcel : p_Mt m_Mo_newParcel 3 := ⟨p_mem (p_tb7 (List.mem_of_getElem? (i := 208) rfl)) rfl, tw_1_12, by decide +kernel, by decide +kernel, by decide +kernel⟩
def dt_Mo_newParcel : List (Nat × Instr × Nat) := [(0, .aload_n 0, 1), (1, .dup, 1), (2, .getfield 334, 3), (5, .iconst 1, 1), (6, .iadd, 1), (7, .putfield 334, 3), (10, .aload_n 0, 1), (11, .getfield 334, 3), (14, .istore 4, 2), (16, .aload_n 0, 1), (17, .getfield 72, 3), (20, .iload 4, 2), (22, .aload_n 0, 1), (23, .getfield 227, 3), (26, .iastore, 1), (27, .aload_n 0, 1), (28, .getfield 75, 3), (31, .iload 4, 2), (33, .iconst 1, 1), (34, .iastore, 1), (35, .aload_n 0, 1), (36, .getfield 84, 3), (39, .iload 4, 2), (41, .iload_n 2, 1), (42, .iastore, 1), (43, .aload_n 0, 1), (44, .getfield 87, 3), (47, .iload 4, 2), (49, .iload_n 3, 1), (50, .iastore, 1), (51, .aload_n 0, 1), (52, .getfield 90, 3), (55, .iload 4, 2), (57, .bipush (-9), 2), (59, .iastore, 1), (60, .aload_n 0, 1), (61, .getfield 93, 3), (64, .iload 4, 2), (66, .iconst (-1), 1), (67, .iastore, 1), (68, .aload_n 0, 1), (69, .getfield 99, 3), (72, .iload 4, 2), (74, .iconst 0, 1), (75, .iastore, 1), (76, .aload_n 0, 1), (77, .getfield 108, 3), (80, .iload 4, 2), (82, .iconst 0, 1), (83, .bastore, 1), (84, .aload_n 0, 1), (85, .getfield 114, 3), (88, .aload_n 0, 1), (89, .getfield 227, 3), (92, .dup2, 1), (93, .iaload, 1), (94, .iconst 1, 1), (95, .iadd, 1), (96, .iastore, 1), (97, .aload_n 0, 1), (98, .getfield 117, 3), (101, .aload_n 0, 1), (102, .getfield 227, 3), (105, .dup2, 1), (106, .iaload, 1), (107, .iconst 1, 1), (108, .iadd, 1), (109, .iastore, 1), (110, .aload_n 0, 1), (111, .iload 4, 2), (113, .iload_n 1, 1), (114, .invokevirtual 337, 3), (117, .iload 4, 2), (119, .ireturn, 1)]
theorem dk_Mo_newParcel (i : Nat) {pc : Nat} {ins : Instr} {len : Nat} (h : dt_Mo_newParcel[i]? = some (pc, ins, len)) : decode m_Mo_newParcel.2.1 pc = .ok (ins, len) := p_dk (b := m_Mo_newParcel.2.1) (t := dt_Mo_newParcel) (by decide +kernel) i h
def F_Mo_newParcel (v0 : Nat) (v1 : Int) (v2 : Int) (v3 : Int) (s0 : p_Hp) : Option (Int × p_Hp) :=
  p_gd (p_is s0 v0 11) <|
  p_bi (p_wZ s0 v0 23 (p_w ((p_Z s0 v0 23) + 1))) fun s2 =>
  p_bi ((p_Z s2 v0 23)) fun x4 =>
  p_gd (p_is s2 (p_R s2 v0 24) 100) <|
  p_gd ((0 : Int) ≤ x4 ∧ x4 < (p_L s2 (p_R s2 v0 24) : Int)) <|
  p_bi (p_wZ s2 (p_R s2 v0 24) (x4 : Int).toNat (p_Z s2 v0 0)) fun s7 =>
  p_gd (p_is s7 (p_R s7 v0 25) 100) <|
  p_gd ((0 : Int) ≤ x4 ∧ x4 < (p_L s7 (p_R s7 v0 25) : Int)) <|
  p_bi (p_wZ s7 (p_R s7 v0 25) (x4 : Int).toNat 1) fun s11 =>
  p_gd (p_is s11 (p_R s11 v0 28) 100) <|
  p_gd ((0 : Int) ≤ x4 ∧ x4 < (p_L s11 (p_R s11 v0 28) : Int)) <|
  p_bi (p_wZ s11 (p_R s11 v0 28) (x4 : Int).toNat v2) fun s15 =>
  p_gd (p_is s15 (p_R s15 v0 29) 100) <|
  p_gd ((0 : Int) ≤ x4 ∧ x4 < (p_L s15 (p_R s15 v0 29) : Int)) <|
  p_bi (p_wZ s15 (p_R s15 v0 29) (x4 : Int).toNat v3) fun s19 =>
  p_gd (p_is s19 (p_R s19 v0 30) 100) <|
  p_gd ((0 : Int) ≤ x4 ∧ x4 < (p_L s19 (p_R s19 v0 30) : Int)) <|
  p_bi (p_wZ s19 (p_R s19 v0 30) (x4 : Int).toNat (-9)) fun s23 =>
  p_gd (p_is s23 (p_R s23 v0 31) 100) <|
  p_gd ((0 : Int) ≤ x4 ∧ x4 < (p_L s23 (p_R s23 v0 31) : Int)) <|
  p_bi (p_wZ s23 (p_R s23 v0 31) (x4 : Int).toNat (-1)) fun s27 =>
  p_gd (p_is s27 (p_R s27 v0 33) 100) <|
  p_gd ((0 : Int) ≤ x4 ∧ x4 < (p_L s27 (p_R s27 v0 33) : Int)) <|
  p_bi (p_wZ s27 (p_R s27 v0 33) (x4 : Int).toNat 0) fun s31 =>
  p_gd (p_is s31 (p_R s31 v0 36) 102) <|
  p_gd ((0 : Int) ≤ x4 ∧ x4 < (p_L s31 (p_R s31 v0 36) : Int)) <|
  p_bi (p_wZ s31 (p_R s31 v0 36) (x4 : Int).toNat 0) fun s35 =>
  p_gd (p_is s35 (p_R s35 v0 38) 100) <|
  p_gd ((0 : Int) ≤ (p_Z s35 v0 0) ∧ (p_Z s35 v0 0) < (p_L s35 (p_R s35 v0 38) : Int)) <|
  p_gd ((0 : Int) ≤ (p_Z s35 v0 0) ∧ (p_Z s35 v0 0) < (p_L s35 (p_R s35 v0 38) : Int)) <|
  p_bi (p_wZ s35 (p_R s35 v0 38) ((p_Z s35 v0 0) : Int).toNat (p_w ((p_Z s35 (p_R s35 v0 38) ((p_Z s35 v0 0) : Int).toNat) + 1))) fun s40 =>
  p_gd (p_is s40 (p_R s40 v0 39) 100) <|
  p_gd ((0 : Int) ≤ (p_Z s40 v0 0) ∧ (p_Z s40 v0 0) < (p_L s40 (p_R s40 v0 39) : Int)) <|
  p_gd ((0 : Int) ≤ (p_Z s40 v0 0) ∧ (p_Z s40 v0 0) < (p_L s40 (p_R s40 v0 39) : Int)) <|
  p_bi (p_wZ s40 (p_R s40 v0 39) ((p_Z s40 v0 0) : Int).toNat (p_w ((p_Z s40 (p_R s40 v0 39) ((p_Z s40 v0 0) : Int).toNat) + 1))) fun s45 =>
  p_bv (F_Mo_enters v0 x4 v1 s45) fun s47 =>
  some (x4, s47)
set_option maxRecDepth 100000 in
set_option maxHeartbeats 4000000 in
theorem tF_Mo_newParcel (K : p_K) (l : Launch) (v0 : Nat) (v1 : Int) (v2 : Int) (v3 : Int) (s0 : p_Hp) (r : (Int × p_Hp)) (h : F_Mo_newParcel v0 v1 v2 v3 s0 = some r) : p_Ct K l m_Mo_newParcel [p_r v0, p_i v1, p_i v2, p_i v3] s0 (some (p_i r.1), r.2) := by
  refine p_Ct.of (by decide +kernel) (Nat.le_of_ble_eq_true rfl) ?_
  unfold F_Mo_newParcel at h
  show p_Go K l m_Mo_newParcel 0 [(0, p_r v0), (1, p_i v1), (2, p_i v2), (3, p_i v3)] [] s0 _
  refine g_aload_n (i := 0) (j := 0) (dk_Mo_newParcel 0 rfl) rfl rfl ?_
  refine g_dup (dk_Mo_newParcel 1 rfl) rfl ?_
  obtain ⟨c1, h⟩ := p_gdE h
  refine g_getI fl_Mo_334 (Or.inl rfl) (dk_Mo_newParcel 2 rfl) c1 ?_
  refine g_iconst (dk_Mo_newParcel 3 rfl) (by decide) ?_
  refine g_iadd (dk_Mo_newParcel 4 rfl) ?_
  refine g_putI fl_Mo_334 (Or.inl rfl) (dk_Mo_newParcel 5 rfl) c1 ?_
  refine p_ltS (P := fun q => p_Go K l m_Mo_newParcel 10 [(0, p_r v0), (1, p_i v1), (2, p_i v2), (3, p_i v3)] [] q _) (p_xZ _ _ _ _) ?_ h
  intro s2 hs3 h
  refine g_aload_n (i := 0) (j := 0) (dk_Mo_newParcel 6 rfl) rfl rfl ?_
  refine g_getI fl_Mo_334 (Or.inl rfl) (dk_Mo_newParcel 7 rfl) (c1.up hs3) ?_
  refine g_istore [(4, p_i (p_Z s2 v0 23)), (0, p_r v0), (1, p_i v1), (2, p_i v2), (3, p_i v3)] (dk_Mo_newParcel 8 rfl) (by decide) rfl ?_
  refine p_ltG (P := fun q => p_Go K l m_Mo_newParcel 16 [(4, p_i q), (0, p_r v0), (1, p_i v1), (2, p_i v2), (3, p_i v3)] [] s2 _) ?_ h
  intro x4 h
  refine g_aload_n (i := 0) (j := 1) (dk_Mo_newParcel 9 rfl) rfl rfl ?_
  refine g_getR fl_Mo_72 (Or.inr ⟨_, rfl⟩) (dk_Mo_newParcel 10 rfl) (c1.up hs3) ?_
  refine g_iload (j := 0) (dk_Mo_newParcel 11 rfl) rfl ?_
  refine g_aload_n (i := 0) (j := 1) (dk_Mo_newParcel 12 rfl) rfl rfl ?_
  refine g_getI fl_Mo_227 (Or.inl rfl) (dk_Mo_newParcel 13 rfl) (c1.up hs3) ?_
  obtain ⟨c5, h⟩ := p_gdE h
  obtain ⟨c6, h⟩ := p_gdE h
  refine g_iastore (dk_Mo_newParcel 14 rfl) c5 c6.1 c6.2 ?_
  refine p_ltS (P := fun q => p_Go K l m_Mo_newParcel 27 [(4, p_i x4), (0, p_r v0), (1, p_i v1), (2, p_i v2), (3, p_i v3)] [] q _) (p_xZ _ _ _ _) ?_ h
  intro s7 hs8 h
  refine g_aload_n (i := 0) (j := 1) (dk_Mo_newParcel 15 rfl) rfl rfl ?_
  refine g_getR fl_Mo_75 (Or.inr ⟨_, rfl⟩) (dk_Mo_newParcel 16 rfl) (c1.up (hs3.trans hs8)) ?_
  refine g_iload (j := 0) (dk_Mo_newParcel 17 rfl) rfl ?_
  refine g_iconst (dk_Mo_newParcel 18 rfl) (by decide) ?_
  obtain ⟨c9, h⟩ := p_gdE h
  obtain ⟨c10, h⟩ := p_gdE h
  refine g_iastore (dk_Mo_newParcel 19 rfl) c9 c10.1 c10.2 ?_
  refine p_ltS (P := fun q => p_Go K l m_Mo_newParcel 35 [(4, p_i x4), (0, p_r v0), (1, p_i v1), (2, p_i v2), (3, p_i v3)] [] q _) (p_xZ _ _ _ _) ?_ h
  intro s11 hs12 h
  refine g_aload_n (i := 0) (j := 1) (dk_Mo_newParcel 20 rfl) rfl rfl ?_
  refine g_getR fl_Mo_84 (Or.inr ⟨_, rfl⟩) (dk_Mo_newParcel 21 rfl) (c1.up (hs3.trans (hs8.trans hs12))) ?_
  refine g_iload (j := 0) (dk_Mo_newParcel 22 rfl) rfl ?_
  refine g_iload_n (i := 2) (j := 3) (dk_Mo_newParcel 23 rfl) rfl rfl ?_
  obtain ⟨c13, h⟩ := p_gdE h
  obtain ⟨c14, h⟩ := p_gdE h
  refine g_iastore (dk_Mo_newParcel 24 rfl) c13 c14.1 c14.2 ?_
  refine p_ltS (P := fun q => p_Go K l m_Mo_newParcel 43 [(4, p_i x4), (0, p_r v0), (1, p_i v1), (2, p_i v2), (3, p_i v3)] [] q _) (p_xZ _ _ _ _) ?_ h
  intro s15 hs16 h
  refine g_aload_n (i := 0) (j := 1) (dk_Mo_newParcel 25 rfl) rfl rfl ?_
  refine g_getR fl_Mo_87 (Or.inr ⟨_, rfl⟩) (dk_Mo_newParcel 26 rfl) (c1.up (hs3.trans (hs8.trans (hs12.trans hs16)))) ?_
  refine g_iload (j := 0) (dk_Mo_newParcel 27 rfl) rfl ?_
  refine g_iload_n (i := 3) (j := 4) (dk_Mo_newParcel 28 rfl) rfl rfl ?_
  obtain ⟨c17, h⟩ := p_gdE h
  obtain ⟨c18, h⟩ := p_gdE h
  refine g_iastore (dk_Mo_newParcel 29 rfl) c17 c18.1 c18.2 ?_
  refine p_ltS (P := fun q => p_Go K l m_Mo_newParcel 51 [(4, p_i x4), (0, p_r v0), (1, p_i v1), (2, p_i v2), (3, p_i v3)] [] q _) (p_xZ _ _ _ _) ?_ h
  intro s19 hs20 h
  refine g_aload_n (i := 0) (j := 1) (dk_Mo_newParcel 30 rfl) rfl rfl ?_
  refine g_getR fl_Mo_90 (Or.inr ⟨_, rfl⟩) (dk_Mo_newParcel 31 rfl) (c1.up (hs3.trans (hs8.trans (hs12.trans (hs16.trans hs20))))) ?_
  refine g_iload (j := 0) (dk_Mo_newParcel 32 rfl) rfl ?_
  refine g_bipush (dk_Mo_newParcel 33 rfl) (by decide +kernel) (by decide) ?_
  obtain ⟨c21, h⟩ := p_gdE h
  obtain ⟨c22, h⟩ := p_gdE h
  refine g_iastore (dk_Mo_newParcel 34 rfl) c21 c22.1 c22.2 ?_
  refine p_ltS (P := fun q => p_Go K l m_Mo_newParcel 60 [(4, p_i x4), (0, p_r v0), (1, p_i v1), (2, p_i v2), (3, p_i v3)] [] q _) (p_xZ _ _ _ _) ?_ h
  intro s23 hs24 h
  refine g_aload_n (i := 0) (j := 1) (dk_Mo_newParcel 35 rfl) rfl rfl ?_
  refine g_getR fl_Mo_93 (Or.inr ⟨_, rfl⟩) (dk_Mo_newParcel 36 rfl) (c1.up (hs3.trans (hs8.trans (hs12.trans (hs16.trans (hs20.trans hs24)))))) ?_
  refine g_iload (j := 0) (dk_Mo_newParcel 37 rfl) rfl ?_
  refine g_iconst (dk_Mo_newParcel 38 rfl) (by decide) ?_
  obtain ⟨c25, h⟩ := p_gdE h
  obtain ⟨c26, h⟩ := p_gdE h
  refine g_iastore (dk_Mo_newParcel 39 rfl) c25 c26.1 c26.2 ?_
  refine p_ltS (P := fun q => p_Go K l m_Mo_newParcel 68 [(4, p_i x4), (0, p_r v0), (1, p_i v1), (2, p_i v2), (3, p_i v3)] [] q _) (p_xZ _ _ _ _) ?_ h
  intro s27 hs28 h
  refine g_aload_n (i := 0) (j := 1) (dk_Mo_newParcel 40 rfl) rfl rfl ?_
  refine g_getR fl_Mo_99 (Or.inr ⟨_, rfl⟩) (dk_Mo_newParcel 41 rfl) (c1.up (hs3.trans (hs8.trans (hs12.trans (hs16.trans (hs20.trans (hs24.trans hs28))))))) ?_
  refine g_iload (j := 0) (dk_Mo_newParcel 42 rfl) rfl ?_
  refine g_iconst (dk_Mo_newParcel 43 rfl) (by decide) ?_
  obtain ⟨c29, h⟩ := p_gdE h
  obtain ⟨c30, h⟩ := p_gdE h
  refine g_iastore (dk_Mo_newParcel 44 rfl) c29 c30.1 c30.2 ?_
  refine p_ltS (P := fun q => p_Go K l m_Mo_newParcel 76 [(4, p_i x4), (0, p_r v0), (1, p_i v1), (2, p_i v2), (3, p_i v3)] [] q _) (p_xZ _ _ _ _) ?_ h
  intro s31 hs32 h
  refine g_aload_n (i := 0) (j := 1) (dk_Mo_newParcel 45 rfl) rfl rfl ?_
  refine g_getR fl_Mo_108 (Or.inr ⟨_, rfl⟩) (dk_Mo_newParcel 46 rfl) (c1.up (hs3.trans (hs8.trans (hs12.trans (hs16.trans (hs20.trans (hs24.trans (hs28.trans hs32)))))))) ?_
  refine g_iload (j := 0) (dk_Mo_newParcel 47 rfl) rfl ?_
  refine g_iconst (dk_Mo_newParcel 48 rfl) (by decide) ?_
  obtain ⟨c33, h⟩ := p_gdE h
  obtain ⟨c34, h⟩ := p_gdE h
  refine g_bastore (dk_Mo_newParcel 49 rfl) c33 c34.1 c34.2 (Or.inl rfl) ?_
  refine p_ltS (P := fun q => p_Go K l m_Mo_newParcel 84 [(4, p_i x4), (0, p_r v0), (1, p_i v1), (2, p_i v2), (3, p_i v3)] [] q _) (p_xZ _ _ _ _) ?_ h
  intro s35 hs36 h
  refine g_aload_n (i := 0) (j := 1) (dk_Mo_newParcel 50 rfl) rfl rfl ?_
  refine g_getR fl_Mo_114 (Or.inr ⟨_, rfl⟩) (dk_Mo_newParcel 51 rfl) (c1.up (hs3.trans (hs8.trans (hs12.trans (hs16.trans (hs20.trans (hs24.trans (hs28.trans (hs32.trans hs36))))))))) ?_
  refine g_aload_n (i := 0) (j := 1) (dk_Mo_newParcel 52 rfl) rfl rfl ?_
  refine g_getI fl_Mo_227 (Or.inl rfl) (dk_Mo_newParcel 53 rfl) (c1.up (hs3.trans (hs8.trans (hs12.trans (hs16.trans (hs20.trans (hs24.trans (hs28.trans (hs32.trans hs36))))))))) ?_
  refine g_dup2 (dk_Mo_newParcel 54 rfl) rfl rfl ?_
  obtain ⟨c37, h⟩ := p_gdE h
  obtain ⟨c38, h⟩ := p_gdE h
  refine g_iaload (dk_Mo_newParcel 55 rfl) c37 c38.1 c38.2 ?_
  refine g_iconst (dk_Mo_newParcel 56 rfl) (by decide) ?_
  refine g_iadd (dk_Mo_newParcel 57 rfl) ?_
  obtain ⟨c39, h⟩ := p_gdE h
  refine g_iastore (dk_Mo_newParcel 58 rfl) c37 c39.1 c39.2 ?_
  refine p_ltS (P := fun q => p_Go K l m_Mo_newParcel 97 [(4, p_i x4), (0, p_r v0), (1, p_i v1), (2, p_i v2), (3, p_i v3)] [] q _) (p_xZ _ _ _ _) ?_ h
  intro s40 hs41 h
  refine g_aload_n (i := 0) (j := 1) (dk_Mo_newParcel 59 rfl) rfl rfl ?_
  refine g_getR fl_Mo_117 (Or.inr ⟨_, rfl⟩) (dk_Mo_newParcel 60 rfl) (c1.up (hs3.trans (hs8.trans (hs12.trans (hs16.trans (hs20.trans (hs24.trans (hs28.trans (hs32.trans (hs36.trans hs41)))))))))) ?_
  refine g_aload_n (i := 0) (j := 1) (dk_Mo_newParcel 61 rfl) rfl rfl ?_
  refine g_getI fl_Mo_227 (Or.inl rfl) (dk_Mo_newParcel 62 rfl) (c1.up (hs3.trans (hs8.trans (hs12.trans (hs16.trans (hs20.trans (hs24.trans (hs28.trans (hs32.trans (hs36.trans hs41)))))))))) ?_
  refine g_dup2 (dk_Mo_newParcel 63 rfl) rfl rfl ?_
  obtain ⟨c42, h⟩ := p_gdE h
  obtain ⟨c43, h⟩ := p_gdE h
  refine g_iaload (dk_Mo_newParcel 64 rfl) c42 c43.1 c43.2 ?_
  refine g_iconst (dk_Mo_newParcel 65 rfl) (by decide) ?_
  refine g_iadd (dk_Mo_newParcel 66 rfl) ?_
  obtain ⟨c44, h⟩ := p_gdE h
  refine g_iastore (dk_Mo_newParcel 67 rfl) c42 c44.1 c44.2 ?_
  refine p_ltS (P := fun q => p_Go K l m_Mo_newParcel 110 [(4, p_i x4), (0, p_r v0), (1, p_i v1), (2, p_i v2), (3, p_i v3)] [] q _) (p_xZ _ _ _ _) ?_ h
  intro s45 hs46 h
  refine g_aload_n (i := 0) (j := 1) (dk_Mo_newParcel 68 rfl) rfl rfl ?_
  refine g_iload (j := 0) (dk_Mo_newParcel 69 rfl) rfl ?_
  refine g_iload_n (i := 1) (j := 2) (dk_Mo_newParcel 70 rfl) rfl rfl ?_
  obtain ⟨s47, q48, h⟩ := p_bvE h
  have t49 := tF_Mo_enters K l v0 x4 v1 s45 _ q48
  refine g_callV (a := v0) (ci := 11) (q0 := (RX11, TX11, 90)) (As := [p_i x4, p_i v1]) (rest := []) [] mt_Mo_enters rfl rfl tw_7_211 ts_61 tw_7_209 ⟨Nat.le_of_ble_eq_true rfl, Nat.le_of_ble_eq_true rfl⟩ rfl (Nat.le_of_ble_eq_true rfl) (dk_Mo_newParcel 71 rfl) rfl (c1.up (hs3.trans (hs8.trans (hs12.trans (hs16.trans (hs20.trans (hs24.trans (hs28.trans (hs32.trans (hs36.trans (hs41.trans hs46))))))))))) rfl t49 ?_
  have hs50 : p_x s45 s47 := t49.1
  show p_Go K l m_Mo_newParcel 117 [(4, p_i x4), (0, p_r v0), (1, p_i v1), (2, p_i v2), (3, p_i v3)] [] s47 _
  refine g_iload (j := 0) (dk_Mo_newParcel 72 rfl) rfl ?_
  cases h
  exact g_ret rfl rfl (dk_Mo_newParcel 73 rfl) (fun os => ⟨_, rfl, p_okh os⟩)
def m_Mo_come : p_Me := (⟨"SortWorksModel", "come", "(III)I"⟩, prog_13_method_42_code, 5, (some .int), 3, 68)
theorem mt_Mo_come : p_Mt m_Mo_come 3 := ⟨p_mem (p_tb7 (List.mem_of_getElem? (i := 196) rfl)) rfl, tw_1_12, by decide +kernel, by decide +kernel, by decide +kernel⟩
def dt_Mo_come : List (Nat × Instr × Nat) := [(0, .aload_n 0, 1), (1, .iload_n 1, 1), (2, .invokevirtual 267, 3), (5, .ifCond .eq 9, 3), (8, .aload_n 0, 1), (9, .iconst (-1), 1), (10, .invokevirtual 240, 3), (13, .ireturn, 1), (14, .iload_n 2, 1), (15, .i2l, 1), (16, .lconst 1, 1), (17, .ldc2_w 340, 3), (20, .invokestatic 230, 3), (23, .ifCond .ne 15, 3), (26, .iload_n 3, 1), (27, .i2l, 1), (28, .lconst 0, 1), (29, .ldc2_w 280, 3), (32, .invokestatic 230, 3), (35, .ifCond .eq 10, 3), (38, .aload_n 0, 1), (39, .bipush (-2), 2), (41, .invokevirtual 240, 3), (44, .ireturn, 1), (45, .aload_n 0, 1), (46, .iload_n 1, 1), (47, .invokevirtual 257, 3), (50, .istore 4, 2), (52, .aload_n 0, 1), (53, .getfield 16, 3), (56, .iload 4, 2), (58, .iaload, 1), (59, .invokestatic 252, 3), (62, .ifCond .ne 9, 3), (65, .aload_n 0, 1), (66, .iconst 2, 1), (67, .invokevirtual 270, 3), (70, .ireturn, 1), (71, .aload_n 0, 1), (72, .getfield 16, 3), (75, .iload 4, 2), (77, .iaload, 1), (78, .invokestatic 342, 3), (81, .ifCond .ne 16, 3), (84, .aload_n 0, 1), (85, .getfield 69, 3), (88, .bipush 8, 2), (90, .iload 4, 2), (92, .imul, 1), (93, .iaload, 1), (94, .ifCond .le 10, 3), (97, .aload_n 0, 1), (98, .bipush (-3), 2), (100, .invokevirtual 240, 3), (103, .ireturn, 1), (104, .aload_n 0, 1), (105, .invokevirtual 345, 3), (108, .ifCond .eq 12, 3), (111, .aload_n 0, 1), (112, .bipush (-4), 2), (114, .invokevirtual 240, 3), (117, .goto 14, 3), (120, .aload_n 0, 1), (121, .aload_n 0, 1), (122, .iload_n 1, 1), (123, .iload_n 2, 1), (124, .iload_n 3, 1), (125, .invokevirtual 348, 3), (128, .invokevirtual 244, 3), (131, .ireturn, 1)]
theorem dk_Mo_come (i : Nat) {pc : Nat} {ins : Instr} {len : Nat} (h : dt_Mo_come[i]? = some (pc, ins, len)) : decode m_Mo_come.2.1 pc = .ok (ins, len) := p_dk (b := m_Mo_come.2.1) (t := dt_Mo_come) (by decide +kernel) i h
def B_Mo_come_38  (v0 : Nat) (s0 : p_Hp) : Option (Int × p_Hp) :=
  p_gd (p_is s0 v0 11) <|
  p_bd (F_Mo_refused v0 (-2) s0) fun r6 s2 =>
  some (r6, s2)
def B_Mo_come_97  (v0 : Nat) (s0 : p_Hp) : Option (Int × p_Hp) :=
  p_gd (p_is s0 v0 11) <|
  p_bd (F_Mo_refused v0 (-3) s0) fun r6 s2 =>
  some (r6, s2)
def F_Mo_come (v0 : Nat) (v1 : Int) (v2 : Int) (v3 : Int) (s0 : p_Hp) : Option (Int × p_Hp) :=
  p_gd (p_is s0 v0 11) <|
  p_bd (F_Mo_noGear v0 v1 s0) fun r6 s2 =>
  if r6 = 0 then
    p_bd (F_Mo_beyond v2 1 999 s2) fun r12 s8 =>
    if r12 ≠ 0 then
      B_Mo_come_38 v0 s8
    else
      p_bd (F_Mo_beyond v3 0 9 s8) fun r18 s14 =>
      if r18 = 0 then
        p_bd (F_Mo_g v0 v1 s14) fun r24 s20 =>
        p_gd (p_is s20 (p_R s20 v0 5) 100) <|
        p_gd ((0 : Int) ≤ r24 ∧ r24 < (p_L s20 (p_R s20 v0 5) : Int)) <|
        p_bd (F_Mo_isTaker (p_Z s20 (p_R s20 v0 5) (r24 : Int).toNat) s20) fun r31 s27 =>
        if r31 ≠ 0 then
          p_gd (p_is s27 (p_R s27 v0 5) 100) <|
          p_gd ((0 : Int) ≤ r24 ∧ r24 < (p_L s27 (p_R s27 v0 5) : Int)) <|
          p_bd (F_Mo_isChute (p_Z s27 (p_R s27 v0 5) (r24 : Int).toNat) s27) fun r39 s35 =>
          if r39 ≠ 0 then
            B_Mo_come_97 v0 s35
          else
            p_gd (p_is s35 (p_R s35 v0 22) 100) <|
            p_gd ((0 : Int) ≤ (p_w (8 * r24)) ∧ (p_w (8 * r24)) < (p_L s35 (p_R s35 v0 22) : Int)) <|
            if (p_Z s35 (p_R s35 v0 22) ((p_w (8 * r24)) : Int).toNat) ≤ 0 then
              p_bd (F_Mo_comesFull v0 s35) fun r48 s44 =>
              if r48 = 0 then
                p_bd (F_Mo_newParcel v0 v1 v2 v3 s44) fun r54 s50 =>
                p_bd (F_Mo_well v0 r54 s50) fun r59 s55 =>
                some (r59, s55)
              else
                p_bd (F_Mo_refused v0 (-4) s44) fun r64 s60 =>
                some (r64, s60)
            else
              B_Mo_come_97 v0 s35
        else
          p_bd (F_Mo_faulted v0 2 s27) fun r69 s65 =>
          some (r69, s65)
      else
        B_Mo_come_38 v0 s14
  else
    p_bd (F_Mo_refused v0 (-1) s2) fun r74 s70 =>
    some (r74, s70)
set_option maxRecDepth 100000 in
set_option maxHeartbeats 4000000 in
theorem tB_Mo_come_38 (K : p_K) (l : Launch)  (v0 : Nat) (s0 : p_Hp) (r : (Int × p_Hp)) (h : B_Mo_come_38 v0 s0 = some r) : p_Go K l m_Mo_come 38 [(0, p_r v0)] [] s0 (some (p_i r.1), r.2) := by
  unfold B_Mo_come_38 at h
  refine g_aload_n (i := 0) (j := 0) (dk_Mo_come 20 rfl) rfl rfl ?_
  refine g_bipush (dk_Mo_come 21 rfl) (by decide +kernel) (by decide) ?_
  obtain ⟨c1, h⟩ := p_gdE h
  obtain ⟨r6, s2, q3, h⟩ := p_bdE h
  have t4 := tF_Mo_refused K l v0 (-2) s0 _ q3
  refine g_callV (a := v0) (ci := 11) (q0 := (RX11, TX11, 90)) (As := [p_i (-2)]) (rest := []) [p_i r6] mt_Mo_refused rfl rfl tw_7_67 ts_43 tw_7_65 ⟨Nat.le_of_ble_eq_true rfl, Nat.le_of_ble_eq_true rfl⟩ rfl (Nat.le_of_ble_eq_true rfl) (dk_Mo_come 22 rfl) rfl c1 rfl t4 ?_
  have hs5 : p_x s0 s2 := t4.1
  show p_Go K l m_Mo_come 44 [(0, p_r v0)] [p_i r6] s2 _
  cases h
  exact g_ret rfl rfl (dk_Mo_come 23 rfl) (fun os => ⟨_, rfl, p_okh os⟩)
set_option maxRecDepth 100000 in
set_option maxHeartbeats 4000000 in
theorem tB_Mo_come_97 (K : p_K) (l : Launch)  (v0 : Nat) (s0 : p_Hp) (r : (Int × p_Hp)) (h : B_Mo_come_97 v0 s0 = some r) : p_Go K l m_Mo_come 97 [(0, p_r v0)] [] s0 (some (p_i r.1), r.2) := by
  unfold B_Mo_come_97 at h
  refine g_aload_n (i := 0) (j := 0) (dk_Mo_come 51 rfl) rfl rfl ?_
  refine g_bipush (dk_Mo_come 52 rfl) (by decide +kernel) (by decide) ?_
  obtain ⟨c1, h⟩ := p_gdE h
  obtain ⟨r6, s2, q3, h⟩ := p_bdE h
  have t4 := tF_Mo_refused K l v0 (-3) s0 _ q3
  refine g_callV (a := v0) (ci := 11) (q0 := (RX11, TX11, 90)) (As := [p_i (-3)]) (rest := []) [p_i r6] mt_Mo_refused rfl rfl tw_7_67 ts_43 tw_7_65 ⟨Nat.le_of_ble_eq_true rfl, Nat.le_of_ble_eq_true rfl⟩ rfl (Nat.le_of_ble_eq_true rfl) (dk_Mo_come 53 rfl) rfl c1 rfl t4 ?_
  have hs5 : p_x s0 s2 := t4.1
  show p_Go K l m_Mo_come 103 [(0, p_r v0)] [p_i r6] s2 _
  cases h
  exact g_ret rfl rfl (dk_Mo_come 54 rfl) (fun os => ⟨_, rfl, p_okh os⟩)
set_option maxRecDepth 100000 in
set_option maxHeartbeats 4000000 in
theorem tF_Mo_come (K : p_K) (l : Launch) (v0 : Nat) (v1 : Int) (v2 : Int) (v3 : Int) (s0 : p_Hp) (r : (Int × p_Hp)) (h : F_Mo_come v0 v1 v2 v3 s0 = some r) : p_Ct K l m_Mo_come [p_r v0, p_i v1, p_i v2, p_i v3] s0 (some (p_i r.1), r.2) := by
  refine p_Ct.of (by decide +kernel) (Nat.le_of_ble_eq_true rfl) ?_
  unfold F_Mo_come at h
  show p_Go K l m_Mo_come 0 [(0, p_r v0), (1, p_i v1), (2, p_i v2), (3, p_i v3)] [] s0 _
  refine g_aload_n (i := 0) (j := 0) (dk_Mo_come 0 rfl) rfl rfl ?_
  refine g_iload_n (i := 1) (j := 1) (dk_Mo_come 1 rfl) rfl rfl ?_
  obtain ⟨c1, h⟩ := p_gdE h
  obtain ⟨r6, s2, q3, h⟩ := p_bdE h
  have t4 := tF_Mo_noGear K l v0 v1 s0 _ q3
  refine g_callV (a := v0) (ci := 11) (q0 := (RX11, TX11, 90)) (As := [p_i v1]) (rest := []) [p_i r6] mt_Mo_noGear rfl rfl tw_7_106 ts_48 tw_7_104 ⟨Nat.le_of_ble_eq_true rfl, Nat.le_of_ble_eq_true rfl⟩ rfl (Nat.le_of_ble_eq_true rfl) (dk_Mo_come 2 rfl) rfl c1 rfl t4 ?_
  have hs5 : p_x s0 s2 := t4.1
  show p_Go K l m_Mo_come 5 [(0, p_r v0), (1, p_i v1), (2, p_i v2), (3, p_i v3)] [p_i r6] s2 _
  refine g_if_eq 14 (dk_Mo_come 3 rfl) (by decide) (fun b7 => ?_) (fun b7 => ?_)
  · have h := p_ifT b7 h
    refine g_iload_n (i := 2) (j := 2) (dk_Mo_come 8 rfl) rfl rfl ?_
    refine g_i2l (dk_Mo_come 9 rfl) ?_
    refine g_lconst (x := 1) (dk_Mo_come 10 rfl) rfl (by decide) ?_
    refine g_ldc2_w (x := 999) (dk_Mo_come 11 rfl) tw_7_197 (by decide) (by decide) ?_
    obtain ⟨r12, s8, q9, h⟩ := p_bdE h
    have t10 := tF_Mo_beyond K l v2 1 999 s2 _ q9
    refine g_callS (av := [p_j v2, p_j 1, p_j 999]) (rest := []) [p_i r12] mt_Mo_beyond tw_7_63 tw_7_62 ⟨Nat.le_of_ble_eq_true rfl, Nat.le_of_ble_eq_true rfl⟩ rfl (Nat.le_of_ble_eq_true rfl) (dk_Mo_come 12 rfl) rfl rfl t10 ?_
    have hs11 : p_x s2 s8 := t10.1
    show p_Go K l m_Mo_come 23 [(0, p_r v0), (1, p_i v1), (2, p_i v2), (3, p_i v3)] [p_i r12] s8 _
    refine g_if_ne 38 (dk_Mo_come 13 rfl) (by decide) (fun b13 => ?_) (fun b13 => ?_)
    · have h := p_ifT b13 h
      refine g_sub [(0, p_r v0)] [0] rfl ?_
      exact tB_Mo_come_38 K l v0 s8 _ h
    · have h := p_ifF b13 h
      refine g_iload_n (i := 3) (j := 3) (dk_Mo_come 14 rfl) rfl rfl ?_
      refine g_i2l (dk_Mo_come 15 rfl) ?_
      refine g_lconst (x := 0) (dk_Mo_come 16 rfl) rfl (by decide) ?_
      refine g_ldc2_w (x := 9) (dk_Mo_come 17 rfl) tw_7_129 (by decide) (by decide) ?_
      obtain ⟨r18, s14, q15, h⟩ := p_bdE h
      have t16 := tF_Mo_beyond K l v3 0 9 s8 _ q15
      refine g_callS (av := [p_j v3, p_j 0, p_j 9]) (rest := []) [p_i r18] mt_Mo_beyond tw_7_63 tw_7_62 ⟨Nat.le_of_ble_eq_true rfl, Nat.le_of_ble_eq_true rfl⟩ rfl (Nat.le_of_ble_eq_true rfl) (dk_Mo_come 18 rfl) rfl rfl t16 ?_
      have hs17 : p_x s8 s14 := t16.1
      show p_Go K l m_Mo_come 35 [(0, p_r v0), (1, p_i v1), (2, p_i v2), (3, p_i v3)] [p_i r18] s14 _
      refine g_if_eq 45 (dk_Mo_come 19 rfl) (by decide) (fun b19 => ?_) (fun b19 => ?_)
      · have h := p_ifT b19 h
        refine g_aload_n (i := 0) (j := 0) (dk_Mo_come 24 rfl) rfl rfl ?_
        refine g_iload_n (i := 1) (j := 1) (dk_Mo_come 25 rfl) rfl rfl ?_
        obtain ⟨r24, s20, q21, h⟩ := p_bdE h
        have t22 := tF_Mo_g K l v0 v1 s14 _ q21
        refine g_callV (a := v0) (ci := 11) (q0 := (RX11, TX11, 90)) (As := [p_i v1]) (rest := []) [p_i r24] mt_Mo_g rfl rfl tw_7_84 ts_45 tw_7_82 ⟨Nat.le_of_ble_eq_true rfl, Nat.le_of_ble_eq_true rfl⟩ rfl (Nat.le_of_ble_eq_true rfl) (dk_Mo_come 26 rfl) rfl (c1.up (hs5.trans (hs11.trans hs17))) rfl t22 ?_
        have hs23 : p_x s14 s20 := t22.1
        show p_Go K l m_Mo_come 50 [(0, p_r v0), (1, p_i v1), (2, p_i v2), (3, p_i v3)] [p_i r24] s20 _
        refine g_istore [(4, p_i r24), (0, p_r v0), (1, p_i v1), (2, p_i v2), (3, p_i v3)] (dk_Mo_come 27 rfl) (by decide) rfl ?_
        refine g_aload_n (i := 0) (j := 1) (dk_Mo_come 28 rfl) rfl rfl ?_
        refine g_getR fl_Mo_16 (Or.inr ⟨_, rfl⟩) (dk_Mo_come 29 rfl) (c1.up (hs5.trans (hs11.trans (hs17.trans hs23)))) ?_
        refine g_iload (j := 0) (dk_Mo_come 30 rfl) rfl ?_
        obtain ⟨c25, h⟩ := p_gdE h
        obtain ⟨c26, h⟩ := p_gdE h
        refine g_iaload (dk_Mo_come 31 rfl) c25 c26.1 c26.2 ?_
        obtain ⟨r31, s27, q28, h⟩ := p_bdE h
        have t29 := tF_Mo_isTaker K l (p_Z s20 (p_R s20 v0 5) (r24 : Int).toNat) s20 _ q28
        refine g_callS (av := [p_i (p_Z s20 (p_R s20 v0 5) (r24 : Int).toNat)]) (rest := []) [p_i r31] mt_Mo_isTaker tw_7_79 tw_7_78 ⟨Nat.le_of_ble_eq_true rfl, Nat.le_of_ble_eq_true rfl⟩ rfl (Nat.le_of_ble_eq_true rfl) (dk_Mo_come 32 rfl) rfl rfl t29 ?_
        have hs30 : p_x s20 s27 := t29.1
        show p_Go K l m_Mo_come 62 [(4, p_i r24), (0, p_r v0), (1, p_i v1), (2, p_i v2), (3, p_i v3)] [p_i r31] s27 _
        refine g_if_ne 71 (dk_Mo_come 33 rfl) (by decide) (fun b32 => ?_) (fun b32 => ?_)
        · have h := p_ifT b32 h
          refine g_aload_n (i := 0) (j := 1) (dk_Mo_come 38 rfl) rfl rfl ?_
          refine g_getR fl_Mo_16 (Or.inr ⟨_, rfl⟩) (dk_Mo_come 39 rfl) (c1.up (hs5.trans (hs11.trans (hs17.trans (hs23.trans hs30))))) ?_
          refine g_iload (j := 0) (dk_Mo_come 40 rfl) rfl ?_
          obtain ⟨c33, h⟩ := p_gdE h
          obtain ⟨c34, h⟩ := p_gdE h
          refine g_iaload (dk_Mo_come 41 rfl) c33 c34.1 c34.2 ?_
          obtain ⟨r39, s35, q36, h⟩ := p_bdE h
          have t37 := tF_Mo_isChute K l (p_Z s27 (p_R s27 v0 5) (r24 : Int).toNat) s27 _ q36
          refine g_callS (av := [p_i (p_Z s27 (p_R s27 v0 5) (r24 : Int).toNat)]) (rest := []) [p_i r39] mt_Mo_isChute tw_7_199 tw_7_198 ⟨Nat.le_of_ble_eq_true rfl, Nat.le_of_ble_eq_true rfl⟩ rfl (Nat.le_of_ble_eq_true rfl) (dk_Mo_come 42 rfl) rfl rfl t37 ?_
          have hs38 : p_x s27 s35 := t37.1
          show p_Go K l m_Mo_come 81 [(4, p_i r24), (0, p_r v0), (1, p_i v1), (2, p_i v2), (3, p_i v3)] [p_i r39] s35 _
          refine g_if_ne 97 (dk_Mo_come 43 rfl) (by decide) (fun b40 => ?_) (fun b40 => ?_)
          · have h := p_ifT b40 h
            refine g_sub [(0, p_r v0)] [1] rfl ?_
            exact tB_Mo_come_97 K l v0 s35 _ h
          · have h := p_ifF b40 h
            refine g_aload_n (i := 0) (j := 1) (dk_Mo_come 44 rfl) rfl rfl ?_
            refine g_getR fl_Mo_69 (Or.inr ⟨_, rfl⟩) (dk_Mo_come 45 rfl) (c1.up (hs5.trans (hs11.trans (hs17.trans (hs23.trans (hs30.trans hs38)))))) ?_
            refine g_bipush (dk_Mo_come 46 rfl) (by decide +kernel) (by decide) ?_
            refine g_iload (j := 0) (dk_Mo_come 47 rfl) rfl ?_
            refine g_imul (dk_Mo_come 48 rfl) ?_
            obtain ⟨c41, h⟩ := p_gdE h
            obtain ⟨c42, h⟩ := p_gdE h
            refine g_iaload (dk_Mo_come 49 rfl) c41 c42.1 c42.2 ?_
            refine g_if_le 104 (dk_Mo_come 50 rfl) (by decide) (fun b43 => ?_) (fun b43 => ?_)
            · have h := p_ifT b43 h
              refine g_aload_n (i := 0) (j := 1) (dk_Mo_come 55 rfl) rfl rfl ?_
              obtain ⟨r48, s44, q45, h⟩ := p_bdE h
              have t46 := tF_Mo_comesFull K l v0 s35 _ q45
              refine g_callV (a := v0) (ci := 11) (q0 := (RX11, TX11, 90)) (As := []) (rest := []) [p_i r48] mt_Mo_comesFull rfl rfl tw_7_203 ts_59 tw_7_201 ⟨Nat.le_of_ble_eq_true rfl, Nat.le_of_ble_eq_true rfl⟩ rfl (Nat.le_of_ble_eq_true rfl) (dk_Mo_come 56 rfl) rfl (c1.up (hs5.trans (hs11.trans (hs17.trans (hs23.trans (hs30.trans hs38)))))) rfl t46 ?_
              have hs47 : p_x s35 s44 := t46.1
              show p_Go K l m_Mo_come 108 [(4, p_i r24), (0, p_r v0), (1, p_i v1), (2, p_i v2), (3, p_i v3)] [p_i r48] s44 _
              refine g_if_eq 120 (dk_Mo_come 57 rfl) (by decide) (fun b49 => ?_) (fun b49 => ?_)
              · have h := p_ifT b49 h
                refine g_aload_n (i := 0) (j := 1) (dk_Mo_come 62 rfl) rfl rfl ?_
                refine g_aload_n (i := 0) (j := 1) (dk_Mo_come 63 rfl) rfl rfl ?_
                refine g_iload_n (i := 1) (j := 2) (dk_Mo_come 64 rfl) rfl rfl ?_
                refine g_iload_n (i := 2) (j := 3) (dk_Mo_come 65 rfl) rfl rfl ?_
                refine g_iload_n (i := 3) (j := 4) (dk_Mo_come 66 rfl) rfl rfl ?_
                obtain ⟨r54, s50, q51, h⟩ := p_bdE h
                have t52 := tF_Mo_newParcel K l v0 v1 v2 v3 s44 _ q51
                refine g_callV (a := v0) (ci := 11) (q0 := (RX11, TX11, 90)) (As := [p_i v1, p_i v2, p_i v3]) (rest := [p_r v0]) [p_i r54, p_r v0] mt_Mo_newParcel rfl rfl tw_7_207 ts_60 tw_7_205 ⟨Nat.le_of_ble_eq_true rfl, Nat.le_of_ble_eq_true rfl⟩ rfl (Nat.le_of_ble_eq_true rfl) (dk_Mo_come 67 rfl) rfl (c1.up (hs5.trans (hs11.trans (hs17.trans (hs23.trans (hs30.trans (hs38.trans hs47))))))) rfl t52 ?_
                have hs53 : p_x s44 s50 := t52.1
                show p_Go K l m_Mo_come 128 [(4, p_i r24), (0, p_r v0), (1, p_i v1), (2, p_i v2), (3, p_i v3)] [p_i r54, p_r v0] s50 _
                obtain ⟨r59, s55, q56, h⟩ := p_bdE h
                have t57 := tF_Mo_well K l v0 r54 s50 _ q56
                refine g_callV (a := v0) (ci := 11) (q0 := (RX11, TX11, 90)) (As := [p_i r54]) (rest := []) [p_i r59] mt_Mo_well rfl rfl tw_7_71 ts_44 tw_7_69 ⟨Nat.le_of_ble_eq_true rfl, Nat.le_of_ble_eq_true rfl⟩ rfl (Nat.le_of_ble_eq_true rfl) (dk_Mo_come 68 rfl) rfl (c1.up (hs5.trans (hs11.trans (hs17.trans (hs23.trans (hs30.trans (hs38.trans (hs47.trans hs53)))))))) rfl t57 ?_
                have hs58 : p_x s50 s55 := t57.1
                show p_Go K l m_Mo_come 131 [(4, p_i r24), (0, p_r v0), (1, p_i v1), (2, p_i v2), (3, p_i v3)] [p_i r59] s55 _
                cases h
                exact g_ret rfl rfl (dk_Mo_come 69 rfl) (fun os => ⟨_, rfl, p_okh os⟩)
              · have h := p_ifF b49 h
                refine g_aload_n (i := 0) (j := 1) (dk_Mo_come 58 rfl) rfl rfl ?_
                refine g_bipush (dk_Mo_come 59 rfl) (by decide +kernel) (by decide) ?_
                obtain ⟨r64, s60, q61, h⟩ := p_bdE h
                have t62 := tF_Mo_refused K l v0 (-4) s44 _ q61
                refine g_callV (a := v0) (ci := 11) (q0 := (RX11, TX11, 90)) (As := [p_i (-4)]) (rest := []) [p_i r64] mt_Mo_refused rfl rfl tw_7_67 ts_43 tw_7_65 ⟨Nat.le_of_ble_eq_true rfl, Nat.le_of_ble_eq_true rfl⟩ rfl (Nat.le_of_ble_eq_true rfl) (dk_Mo_come 60 rfl) rfl (c1.up (hs5.trans (hs11.trans (hs17.trans (hs23.trans (hs30.trans (hs38.trans hs47))))))) rfl t62 ?_
                have hs63 : p_x s44 s60 := t62.1
                show p_Go K l m_Mo_come 117 [(4, p_i r24), (0, p_r v0), (1, p_i v1), (2, p_i v2), (3, p_i v3)] [p_i r64] s60 _
                refine g_goto 131 (dk_Mo_come 61 rfl) (by decide) ?_
                cases h
                exact g_ret rfl rfl (dk_Mo_come 69 rfl) (fun os => ⟨_, rfl, p_okh os⟩)
            · have h := p_ifF b43 h
              refine g_sub [(0, p_r v0)] [1] rfl ?_
              exact tB_Mo_come_97 K l v0 s35 _ h
        · have h := p_ifF b32 h
          refine g_aload_n (i := 0) (j := 1) (dk_Mo_come 34 rfl) rfl rfl ?_
          refine g_iconst (dk_Mo_come 35 rfl) (by decide) ?_
          obtain ⟨r69, s65, q66, h⟩ := p_bdE h
          have t67 := tF_Mo_faulted K l v0 2 s27 _ q66
          refine g_callV (a := v0) (ci := 11) (q0 := (RX11, TX11, 90)) (As := [p_i 2]) (rest := []) [p_i r69] mt_Mo_faulted rfl rfl tw_7_110 ts_49 tw_7_108 ⟨Nat.le_of_ble_eq_true rfl, Nat.le_of_ble_eq_true rfl⟩ rfl (Nat.le_of_ble_eq_true rfl) (dk_Mo_come 36 rfl) rfl (c1.up (hs5.trans (hs11.trans (hs17.trans (hs23.trans hs30))))) rfl t67 ?_
          have hs68 : p_x s27 s65 := t67.1
          show p_Go K l m_Mo_come 70 [(4, p_i r24), (0, p_r v0), (1, p_i v1), (2, p_i v2), (3, p_i v3)] [p_i r69] s65 _
          cases h
          exact g_ret rfl rfl (dk_Mo_come 37 rfl) (fun os => ⟨_, rfl, p_okh os⟩)
      · have h := p_ifF b19 h
        refine g_sub [(0, p_r v0)] [0] rfl ?_
        exact tB_Mo_come_38 K l v0 s14 _ h
  · have h := p_ifF b7 h
    refine g_aload_n (i := 0) (j := 0) (dk_Mo_come 4 rfl) rfl rfl ?_
    refine g_iconst (dk_Mo_come 5 rfl) (by decide) ?_
    obtain ⟨r74, s70, q71, h⟩ := p_bdE h
    have t72 := tF_Mo_refused K l v0 (-1) s2 _ q71
    refine g_callV (a := v0) (ci := 11) (q0 := (RX11, TX11, 90)) (As := [p_i (-1)]) (rest := []) [p_i r74] mt_Mo_refused rfl rfl tw_7_67 ts_43 tw_7_65 ⟨Nat.le_of_ble_eq_true rfl, Nat.le_of_ble_eq_true rfl⟩ rfl (Nat.le_of_ble_eq_true rfl) (dk_Mo_come 6 rfl) rfl (c1.up hs5) rfl t72 ?_
    have hs73 : p_x s2 s70 := t72.1
    show p_Go K l m_Mo_come 13 [(0, p_r v0), (1, p_i v1), (2, p_i v2), (3, p_i v3)] [p_i r74] s70 _
    cases h
    exact g_ret rfl rfl (dk_Mo_come 7 rfl) (fun os => ⟨_, rfl, p_okh os⟩)
