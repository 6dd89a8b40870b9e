def m_Mo_newLabel : p_Me := (⟨"SortWorksModel", "newLabel", "(II)V"⟩, prog_13_method_43_code, 4, none, 0, 0)
theorem mt_Mo_newLabel : p_Mt m_Mo_newLabel 2 := ⟨p_mem (p_tb7 (List.mem_of_getElem? (i := 224) rfl)) rfl, tw_1_12, by decide +kernel, by decide +kernel, by decide +kernel⟩
def dt_Mo_newLabel : List (Nat × Instr × Nat) := [(0, .aload_n 0, 1), (1, .getfield 93, 3), (4, .iload_n 1, 1), (5, .iload_n 2, 1), (6, .iastore, 1), (7, .iconst 0, 1), (8, .istore_n 3, 1), (9, .iload_n 3, 1), (10, .bipush 12, 2), (12, .if_icmp .ge 21, 3), (15, .aload_n 0, 1), (16, .getfield 96, 3), (19, .bipush 12, 2), (21, .iload_n 1, 1), (22, .imul, 1), (23, .iload_n 3, 1), (24, .iadd, 1), (25, .iconst 0, 1), (26, .iastore, 1), (27, .iinc 3 1, 3), (30, .goto (-21), 3), (33, .return_, 1)]
theorem dk_Mo_newLabel (i : Nat) {pc : Nat} {ins : Instr} {len : Nat} (h : dt_Mo_newLabel[i]? = some (pc, ins, len)) : decode m_Mo_newLabel.2.1 pc = .ok (ins, len) := p_dk (b := m_Mo_newLabel.2.1) (t := dt_Mo_newLabel) (by decide +kernel) i h
def L_Mo_newLabel_9 (k9 : Nat → Int → Int → p_Hp → Option p_Hp) (v0 : Nat) (v1 : Int) (v3 : Int) (s0 : p_Hp) : Option p_Hp :=
  if 12 ≤ v3 then
    some s0
  else
    p_gd (p_is s0 v0 11) <|
    p_gd (p_is s0 (p_R s0 v0 32) 100) <|
    p_gd ((0 : Int) ≤ (p_w ((p_w (12 * v1)) + v3)) ∧ (p_w ((p_w (12 * v1)) + v3)) < (p_L s0 (p_R s0 v0 32) : Int)) <|
    p_bi (p_wZ s0 (p_R s0 v0 32) ((p_w ((p_w (12 * v1)) + v3)) : Int).toNat 0) fun s5 =>
    p_bi (p_w (v3 + 1)) fun x7 =>
    k9 v0 v1 x7 s5
def O_Mo_newLabel_9  : Nat → Nat → Int → Int → p_Hp → Option p_Hp
  | 0 => fun _ _ _ _ => none
  | n + 1 => L_Mo_newLabel_9 (O_Mo_newLabel_9 n)
def F_Mo_newLabel (v0 : Nat) (v1 : Int) (v2 : Int) (s0 : p_Hp) : Option p_Hp :=
  p_gd (p_is s0 v0 11) <|
  p_gd (p_is s0 (p_R s0 v0 31) 100) <|
  p_gd ((0 : Int) ≤ v1 ∧ v1 < (p_L s0 (p_R s0 v0 31) : Int)) <|
  p_bi (p_wZ s0 (p_R s0 v0 31) (v1 : Int).toNat v2) fun s4 =>
  O_Mo_newLabel_9 3000 v0 v1 0 s4
set_option maxRecDepth 100000 in
set_option maxHeartbeats 4000000 in
theorem tL_Mo_newLabel_9 (K : p_K) (l : Launch) (k9 : Nat → Int → Int → p_Hp → Option p_Hp) (hk9 : ∀ (v0 : Nat) (v1 : Int) (v3 : Int)  (s0 : p_Hp) (r : p_Hp), k9 v0 v1 v3 s0 = some r → p_Go K l m_Mo_newLabel 9 [(0, p_r v0), (1, p_i v1), (3, p_i v3)] [] s0 (none, r)) (v0 : Nat) (v1 : Int) (v3 : Int) (s0 : p_Hp) (r : p_Hp) (h : L_Mo_newLabel_9 k9 v0 v1 v3 s0 = some r) : p_Go K l m_Mo_newLabel 9 [(0, p_r v0), (1, p_i v1), (3, p_i v3)] [] s0 (none, r) := by
  unfold L_Mo_newLabel_9 at h
  refine g_iload_n (i := 3) (j := 2) (dk_Mo_newLabel 7 rfl) rfl rfl ?_
  refine g_bipush (dk_Mo_newLabel 8 rfl) (by decide +kernel) (by decide) ?_
  refine g_icmp_ge 33 (dk_Mo_newLabel 9 rfl) (by decide) (fun b1 => ?_) (fun b1 => ?_)
  · have h := p_ifT b1 h
    cases h
    exact g_ret rfl rfl (dk_Mo_newLabel 21 rfl) (fun _ => rfl)
  · have h := p_ifF b1 h
    refine g_aload_n (i := 0) (j := 0) (dk_Mo_newLabel 10 rfl) rfl rfl ?_
    obtain ⟨c2, h⟩ := p_gdE h
    refine g_getR fl_Mo_96 (Or.inr ⟨_, rfl⟩) (dk_Mo_newLabel 11 rfl) c2 ?_
    refine g_bipush (dk_Mo_newLabel 12 rfl) (by decide +kernel) (by decide) ?_
    refine g_iload_n (i := 1) (j := 1) (dk_Mo_newLabel 13 rfl) rfl rfl ?_
    refine g_imul (dk_Mo_newLabel 14 rfl) ?_
    refine g_iload_n (i := 3) (j := 2) (dk_Mo_newLabel 15 rfl) rfl rfl ?_
    refine g_iadd (dk_Mo_newLabel 16 rfl) ?_
    refine g_iconst (dk_Mo_newLabel 17 rfl) (by decide) ?_
    obtain ⟨c3, h⟩ := p_gdE h
    obtain ⟨c4, h⟩ := p_gdE h
    refine g_iastore (dk_Mo_newLabel 18 rfl) c3 c4.1 c4.2 ?_
    refine p_ltS (P := fun q => p_Go K l m_Mo_newLabel 27 [(0, p_r v0), (1, p_i v1), (3, p_i v3)] [] q _) (p_xZ _ _ _ _) ?_ h
    intro s5 hs6 h
    refine g_iinc (j := 2) [(3, p_i (p_w (v3 + 1))), (0, p_r v0), (1, p_i v1)] (dk_Mo_newLabel 19 rfl) rfl (by decide) rfl ?_
    refine p_ltG (P := fun q => p_Go K l m_Mo_newLabel 30 [(3, p_i q), (0, p_r v0), (1, p_i v1)] [] s5 _) ?_ h
    intro x7 h
    refine g_goto 9 (dk_Mo_newLabel 20 rfl) (by decide) ?_
    refine g_sub [(0, p_r v0), (1, p_i v1), (3, p_i x7)] [1, 2, 0] rfl ?_
    exact hk9 v0 v1 x7 s5 _ h
set_option maxRecDepth 100000 in
set_option maxHeartbeats 4000000 in
theorem tO_Mo_newLabel_9 (K : p_K) (l : Launch)  : ∀ (n : Nat) (v0 : Nat) (v1 : Int) (v3 : Int) (s0 : p_Hp) (r : p_Hp), O_Mo_newLabel_9 n v0 v1 v3 s0 = some r → p_Go K l m_Mo_newLabel 9 [(0, p_r v0), (1, p_i v1), (3, p_i v3)] [] s0 (none, r) := by
  intro n
  induction n with
  | zero => intro v0 v1 v3 s0 r h; cases (show (none : Option p_Hp) = some r from h)
  | succ n ih => intro v0 v1 v3 s0 r h; exact tL_Mo_newLabel_9 K l _ ih v0 v1 v3 s0 r h
set_option maxRecDepth 100000 in
set_option maxHeartbeats 4000000 in
theorem tF_Mo_newLabel (K : p_K) (l : Launch) (v0 : Nat) (v1 : Int) (v2 : Int) (s0 : p_Hp) (r : p_Hp) (h : F_Mo_newLabel v0 v1 v2 s0 = some r) : p_Ct K l m_Mo_newLabel [p_r v0, p_i v1, p_i v2] s0 (none, r) := by
  refine p_Ct.of (by decide +kernel) (Nat.le_of_ble_eq_true rfl) ?_
  unfold F_Mo_newLabel at h
  show p_Go K l m_Mo_newLabel 0 [(0, p_r v0), (1, p_i v1), (2, p_i v2)] [] s0 _
  refine g_aload_n (i := 0) (j := 0) (dk_Mo_newLabel 0 rfl) rfl rfl ?_
  obtain ⟨c1, h⟩ := p_gdE h
  refine g_getR fl_Mo_93 (Or.inr ⟨_, rfl⟩) (dk_Mo_newLabel 1 rfl) c1 ?_
  refine g_iload_n (i := 1) (j := 1) (dk_Mo_newLabel 2 rfl) rfl rfl ?_
  refine g_iload_n (i := 2) (j := 2) (dk_Mo_newLabel 3 rfl) rfl rfl ?_
  obtain ⟨c2, h⟩ := p_gdE h
  obtain ⟨c3, h⟩ := p_gdE h
  refine g_iastore (dk_Mo_newLabel 4 rfl) c2 c3.1 c3.2 ?_
  refine p_ltS (P := fun q => p_Go K l m_Mo_newLabel 7 [(0, p_r v0), (1, p_i v1), (2, p_i v2)] [] q _) (p_xZ _ _ _ _) ?_ h
  intro s4 hs5 h
  refine g_iconst (dk_Mo_newLabel 5 rfl) (by decide) ?_
  refine g_istore_n (i := 3) [(3, p_i 0), (0, p_r v0), (1, p_i v1), (2, p_i v2)] (dk_Mo_newLabel 6 rfl) rfl (by decide) rfl ?_
  refine g_sub [(0, p_r v0), (1, p_i v1), (3, p_i 0)] [1, 2, 0] rfl ?_
  exact tO_Mo_newLabel_9 K l 3000 v0 v1 0 s4 _ h
def m_Mo_noParcel : p_Me := (⟨"SortWorksModel", "noParcel", "(I)Z"⟩, prog_13_method_37_code, 2, (some .boolean), 1, 25)
theorem mt_Mo_noParcel : p_Mt m_Mo_noParcel 1 := ⟨p_mem (p_tb7 (List.mem_of_getElem? (i := 220) rfl)) rfl, tw_1_12, by decide +kernel, by decide +kernel, by decide +kernel⟩
def dt_Mo_noParcel : List (Nat × Instr × Nat) := [(0, .iload_n 1, 1), (1, .i2l, 1), (2, .lconst 1, 1), (3, .aload_n 0, 1), (4, .getfield 334, 3), (7, .i2l, 1), (8, .invokestatic 230, 3), (11, .ifCond .ne 26, 3), (14, .aload_n 0, 1), (15, .getfield 75, 3), (18, .iload_n 1, 1), (19, .iaload, 1), (20, .iconst 1, 1), (21, .if_icmp .ne 16, 3), (24, .aload_n 0, 1), (25, .getfield 72, 3), (28, .iload_n 1, 1), (29, .iaload, 1), (30, .aload_n 0, 1), (31, .getfield 227, 3), (34, .if_icmp .eq 7, 3), (37, .iconst 1, 1), (38, .goto 4, 3), (41, .iconst 0, 1), (42, .ireturn, 1)]
theorem dk_Mo_noParcel (i : Nat) {pc : Nat} {ins : Instr} {len : Nat} (h : dt_Mo_noParcel[i]? = some (pc, ins, len)) : decode m_Mo_noParcel.2.1 pc = .ok (ins, len) := p_dk (b := m_Mo_noParcel.2.1) (t := dt_Mo_noParcel) (by decide +kernel) i h
def B_Mo_noParcel_37   (s0 : p_Hp) : Option (Int × p_Hp) :=
  some (1, s0)
def F_Mo_noParcel (v0 : Nat) (v1 : Int) (s0 : p_Hp) : Option (Int × p_Hp) :=
  p_gd (p_is s0 v0 11) <|
  p_bd (F_Mo_beyond v1 1 (p_Z s0 v0 23) s0) fun r6 s2 =>
  if r6 ≠ 0 then
    B_Mo_noParcel_37 s2
  else
    p_gd (p_is s2 (p_R s2 v0 25) 100) <|
    p_gd ((0 : Int) ≤ v1 ∧ v1 < (p_L s2 (p_R s2 v0 25) : Int)) <|
    if (p_Z s2 (p_R s2 v0 25) (v1 : Int).toNat) ≠ 1 then
      B_Mo_noParcel_37 s2
    else
      p_gd (p_is s2 (p_R s2 v0 24) 100) <|
      p_gd ((0 : Int) ≤ v1 ∧ v1 < (p_L s2 (p_R s2 v0 24) : Int)) <|
      if (p_Z s2 (p_R s2 v0 24) (v1 : Int).toNat) = (p_Z s2 v0 0) then
        some (0, s2)
      else
        B_Mo_noParcel_37 s2
set_option maxRecDepth 100000 in
set_option maxHeartbeats 4000000 in
theorem tB_Mo_noParcel_37 (K : p_K) (l : Launch)   (s0 : p_Hp) (r : (Int × p_Hp)) (h : B_Mo_noParcel_37  s0 = some r) : p_Go K l m_Mo_noParcel 37 [] [] s0 (some (p_i r.1), r.2) := by
  unfold B_Mo_noParcel_37 at h
  refine g_iconst (dk_Mo_noParcel 21 rfl) (by decide) ?_
  refine g_goto 42 (dk_Mo_noParcel 22 rfl) (by decide) ?_
  cases h
  exact g_ret rfl rfl (dk_Mo_noParcel 24 rfl) (fun _ => ⟨_, rfl, Or.inr rfl⟩)
set_option maxRecDepth 100000 in
set_option maxHeartbeats 4000000 in
theorem tF_Mo_noParcel (K : p_K) (l : Launch) (v0 : Nat) (v1 : Int) (s0 : p_Hp) (r : (Int × p_Hp)) (h : F_Mo_noParcel v0 v1 s0 = some r) : p_Ct K l m_Mo_noParcel [p_r v0, p_i v1] s0 (some (p_i r.1), r.2) := by
  refine p_Ct.of (by decide +kernel) (Nat.le_of_ble_eq_true rfl) ?_
  unfold F_Mo_noParcel at h
  show p_Go K l m_Mo_noParcel 0 [(0, p_r v0), (1, p_i v1)] [] s0 _
  refine g_iload_n (i := 1) (j := 1) (dk_Mo_noParcel 0 rfl) rfl rfl ?_
  refine g_i2l (dk_Mo_noParcel 1 rfl) ?_
  refine g_lconst (x := 1) (dk_Mo_noParcel 2 rfl) rfl (by decide) ?_
  refine g_aload_n (i := 0) (j := 0) (dk_Mo_noParcel 3 rfl) rfl rfl ?_
  obtain ⟨c1, h⟩ := p_gdE h
  refine g_getI fl_Mo_334 (Or.inl rfl) (dk_Mo_noParcel 4 rfl) c1 ?_
  refine g_i2l (dk_Mo_noParcel 5 rfl) ?_
  obtain ⟨r6, s2, q3, h⟩ := p_bdE h
  have t4 := tF_Mo_beyond K l v1 1 (p_Z s0 v0 23) s0 _ q3
  refine g_callS (av := [p_j v1, p_j 1, p_j (p_Z s0 v0 23)]) (rest := []) [p_i r6] mt_Mo_beyond tw_7_63 tw_7_62 ⟨Nat.le_of_ble_eq_true rfl, Nat.le_of_ble_eq_true rfl⟩ rfl (Nat.le_of_ble_eq_true rfl) (dk_Mo_noParcel 6 rfl) rfl rfl t4 ?_
  have hs5 : p_x s0 s2 := t4.1
  show p_Go K l m_Mo_noParcel 11 [(0, p_r v0), (1, p_i v1)] [p_i r6] s2 _
  refine g_if_ne 37 (dk_Mo_noParcel 7 rfl) (by decide) (fun b7 => ?_) (fun b7 => ?_)
  · have h := p_ifT b7 h
    refine g_sub [] [] rfl ?_
    exact tB_Mo_noParcel_37 K l s2 _ h
  · have h := p_ifF b7 h
    refine g_aload_n (i := 0) (j := 0) (dk_Mo_noParcel 8 rfl) rfl rfl ?_
    refine g_getR fl_Mo_75 (Or.inr ⟨_, rfl⟩) (dk_Mo_noParcel 9 rfl) (c1.up hs5) ?_
    refine g_iload_n (i := 1) (j := 1) (dk_Mo_noParcel 10 rfl) rfl rfl ?_
    obtain ⟨c8, h⟩ := p_gdE h
    obtain ⟨c9, h⟩ := p_gdE h
    refine g_iaload (dk_Mo_noParcel 11 rfl) c8 c9.1 c9.2 ?_
    refine g_iconst (dk_Mo_noParcel 12 rfl) (by decide) ?_
    refine g_icmp_ne 37 (dk_Mo_noParcel 13 rfl) (by decide) (fun b10 => ?_) (fun b10 => ?_)
    · have h := p_ifT b10 h
      refine g_sub [] [] rfl ?_
      exact tB_Mo_noParcel_37 K l s2 _ h
    · have h := p_ifF b10 h
      refine g_aload_n (i := 0) (j := 0) (dk_Mo_noParcel 14 rfl) rfl rfl ?_
      refine g_getR fl_Mo_72 (Or.inr ⟨_, rfl⟩) (dk_Mo_noParcel 15 rfl) (c1.up hs5) ?_
      refine g_iload_n (i := 1) (j := 1) (dk_Mo_noParcel 16 rfl) rfl rfl ?_
      obtain ⟨c11, h⟩ := p_gdE h
      obtain ⟨c12, h⟩ := p_gdE h
      refine g_iaload (dk_Mo_noParcel 17 rfl) c11 c12.1 c12.2 ?_
      refine g_aload_n (i := 0) (j := 0) (dk_Mo_noParcel 18 rfl) rfl rfl ?_
      refine g_getI fl_Mo_227 (Or.inl rfl) (dk_Mo_noParcel 19 rfl) (c1.up hs5) ?_
      refine g_icmp_eq 41 (dk_Mo_noParcel 20 rfl) (by decide) (fun b13 => ?_) (fun b13 => ?_)
      · have h := p_ifT b13 h
        refine g_iconst (dk_Mo_noParcel 23 rfl) (by decide) ?_
        cases h
        exact g_ret rfl rfl (dk_Mo_noParcel 24 rfl) (fun _ => ⟨_, rfl, Or.inl rfl⟩)
      · have h := p_ifF b13 h
        refine g_sub [] [] rfl ?_
        exact tB_Mo_noParcel_37 K l s2 _ h
def m_Mo_label : p_Me := (⟨"SortWorksModel", "label", "(II)I"⟩, prog_13_method_44_code, 3, (some .int), 2, 46)
theorem mt_Mo_label : p_Mt m_Mo_label 2 := ⟨p_mem (p_tb7 (List.mem_of_getElem? (i := 216) rfl)) rfl, tw_1_12, by decide +kernel, by decide +kernel, by decide +kernel⟩
def dt_Mo_label : List (Nat × Instr × Nat) := [(0, .aload_n 0, 1), (1, .iload_n 1, 1), (2, .invokevirtual 352, 3), (5, .ifCond .eq 9, 3), (8, .aload_n 0, 1), (9, .iconst (-1), 1), (10, .invokevirtual 240, 3), (13, .ireturn, 1), (14, .iload_n 2, 1), (15, .bipush 12, 2), (17, .if_icmp .le 10, 3), (20, .aload_n 0, 1), (21, .bipush (-2), 2), (23, .invokevirtual 240, 3), (26, .ireturn, 1), (27, .iload_n 2, 1), (28, .iconst (-1), 1), (29, .if_icmp .ge 9, 3), (32, .aload_n 0, 1), (33, .iconst 5, 1), (34, .invokevirtual 270, 3), (37, .ireturn, 1), (38, .aload_n 0, 1), (39, .iload_n 1, 1), (40, .iload_n 2, 1), (41, .invokevirtual 355, 3), (44, .aload_n 0, 1), (45, .iload_n 2, 1), (46, .invokevirtual 244, 3), (49, .ireturn, 1)]
theorem dk_Mo_label (i : Nat) {pc : Nat} {ins : Instr} {len : Nat} (h : dt_Mo_label[i]? = some (pc, ins, len)) : decode m_Mo_label.2.1 pc = .ok (ins, len) := p_dk (b := m_Mo_label.2.1) (t := dt_Mo_label) (by decide +kernel) i h
def F_Mo_label (v0 : Nat) (v1 : Int) (v2 : Int) (s0 : p_Hp) : Option (Int × p_Hp) :=
  p_gd (p_is s0 v0 11) <|
  p_bd (F_Mo_noParcel v0 v1 s0) fun r6 s2 =>
  if r6 = 0 then
    if v2 ≤ 12 then
      if (-1) ≤ v2 then
        p_bv (F_Mo_newLabel v0 v1 v2 s2) fun s10 =>
        p_bd (F_Mo_well v0 v2 s10) fun r18 s14 =>
        some (r18, s14)
      else
        p_bd (F_Mo_faulted v0 5 s2) fun r23 s19 =>
        some (r23, s19)
    else
      p_bd (F_Mo_refused v0 (-2) s2) fun r28 s24 =>
      some (r28, s24)
  else
    p_bd (F_Mo_refused v0 (-1) s2) fun r33 s29 =>
    some (r33, s29)
set_option maxRecDepth 100000 in
set_option maxHeartbeats 4000000 in
theorem tF_Mo_label (K : p_K) (l : Launch) (v0 : Nat) (v1 : Int) (v2 : Int) (s0 : p_Hp) (r : (Int × p_Hp)) (h : F_Mo_label v0 v1 v2 s0 = some r) : p_Ct K l m_Mo_label [p_r v0, p_i v1, p_i v2] s0 (some (p_i r.1), r.2) := by
  refine p_Ct.of (by decide +kernel) (Nat.le_of_ble_eq_true rfl) ?_
  unfold F_Mo_label at h
  show p_Go K l m_Mo_label 0 [(0, p_r v0), (1, p_i v1), (2, p_i v2)] [] s0 _
  refine g_aload_n (i := 0) (j := 0) (dk_Mo_label 0 rfl) rfl rfl ?_
  refine g_iload_n (i := 1) (j := 1) (dk_Mo_label 1 rfl) rfl rfl ?_
  obtain ⟨c1, h⟩ := p_gdE h
  obtain ⟨r6, s2, q3, h⟩ := p_bdE h
  have t4 := tF_Mo_noParcel K l v0 v1 s0 _ q3
  refine g_callV (a := v0) (ci := 11) (q0 := (RX11, TX11, 90)) (As := [p_i v1]) (rest := []) [p_i r6] mt_Mo_noParcel rfl rfl tw_7_219 ts_62 tw_7_217 ⟨Nat.le_of_ble_eq_true rfl, Nat.le_of_ble_eq_true rfl⟩ rfl (Nat.le_of_ble_eq_true rfl) (dk_Mo_label 2 rfl) rfl c1 rfl t4 ?_
  have hs5 : p_x s0 s2 := t4.1
  show p_Go K l m_Mo_label 5 [(0, p_r v0), (1, p_i v1), (2, p_i v2)] [p_i r6] s2 _
  refine g_if_eq 14 (dk_Mo_label 3 rfl) (by decide) (fun b7 => ?_) (fun b7 => ?_)
  · have h := p_ifT b7 h
    refine g_iload_n (i := 2) (j := 2) (dk_Mo_label 8 rfl) rfl rfl ?_
    refine g_bipush (dk_Mo_label 9 rfl) (by decide +kernel) (by decide) ?_
    refine g_icmp_le 27 (dk_Mo_label 10 rfl) (by decide) (fun b8 => ?_) (fun b8 => ?_)
    · have h := p_ifT b8 h
      refine g_iload_n (i := 2) (j := 2) (dk_Mo_label 15 rfl) rfl rfl ?_
      refine g_iconst (dk_Mo_label 16 rfl) (by decide) ?_
      refine g_icmp_ge 38 (dk_Mo_label 17 rfl) (by decide) (fun b9 => ?_) (fun b9 => ?_)
      · have h := p_ifT b9 h
        refine g_aload_n (i := 0) (j := 0) (dk_Mo_label 22 rfl) rfl rfl ?_
        refine g_iload_n (i := 1) (j := 1) (dk_Mo_label 23 rfl) rfl rfl ?_
        refine g_iload_n (i := 2) (j := 2) (dk_Mo_label 24 rfl) rfl rfl ?_
        obtain ⟨s10, q11, h⟩ := p_bvE h
        have t12 := tF_Mo_newLabel K l v0 v1 v2 s2 _ q11
        refine g_callV (a := v0) (ci := 11) (q0 := (RX11, TX11, 90)) (As := [p_i v1, p_i v2]) (rest := []) [] mt_Mo_newLabel rfl rfl tw_7_223 ts_63 tw_7_221 ⟨Nat.le_of_ble_eq_true rfl, Nat.le_of_ble_eq_true rfl⟩ rfl (Nat.le_of_ble_eq_true rfl) (dk_Mo_label 25 rfl) rfl (c1.up hs5) rfl t12 ?_
        have hs13 : p_x s2 s10 := t12.1
        show p_Go K l m_Mo_label 44 [(0, p_r v0), (1, p_i v1), (2, p_i v2)] [] s10 _
        refine g_aload_n (i := 0) (j := 0) (dk_Mo_label 26 rfl) rfl rfl ?_
        refine g_iload_n (i := 2) (j := 2) (dk_Mo_label 27 rfl) rfl rfl ?_
        obtain ⟨r18, s14, q15, h⟩ := p_bdE h
        have t16 := tF_Mo_well K l v0 v2 s10 _ q15
        refine g_callV (a := v0) (ci := 11) (q0 := (RX11, TX11, 90)) (As := [p_i v2]) (rest := []) [p_i r18] mt_Mo_well rfl rfl tw_7_71 ts_44 tw_7_69 ⟨Nat.le_of_ble_eq_true rfl, Nat.le_of_ble_eq_true rfl⟩ rfl (Nat.le_of_ble_eq_true rfl) (dk_Mo_label 28 rfl) rfl (c1.up (hs5.trans hs13)) rfl t16 ?_
        have hs17 : p_x s10 s14 := t16.1
        show p_Go K l m_Mo_label 49 [(0, p_r v0), (1, p_i v1), (2, p_i v2)] [p_i r18] s14 _
        cases h
        exact g_ret rfl rfl (dk_Mo_label 29 rfl) (fun os => ⟨_, rfl, p_okh os⟩)
      · have h := p_ifF b9 h
        refine g_aload_n (i := 0) (j := 0) (dk_Mo_label 18 rfl) rfl rfl ?_
        refine g_iconst (dk_Mo_label 19 rfl) (by decide) ?_
        obtain ⟨r23, s19, q20, h⟩ := p_bdE h
        have t21 := tF_Mo_faulted K l v0 5 s2 _ q20
        refine g_callV (a := v0) (ci := 11) (q0 := (RX11, TX11, 90)) (As := [p_i 5]) (rest := []) [p_i r23] mt_Mo_faulted rfl rfl tw_7_110 ts_49 tw_7_108 ⟨Nat.le_of_ble_eq_true rfl, Nat.le_of_ble_eq_true rfl⟩ rfl (Nat.le_of_ble_eq_true rfl) (dk_Mo_label 20 rfl) rfl (c1.up hs5) rfl t21 ?_
        have hs22 : p_x s2 s19 := t21.1
        show p_Go K l m_Mo_label 37 [(0, p_r v0), (1, p_i v1), (2, p_i v2)] [p_i r23] s19 _
        cases h
        exact g_ret rfl rfl (dk_Mo_label 21 rfl) (fun os => ⟨_, rfl, p_okh os⟩)
    · have h := p_ifF b8 h
      refine g_aload_n (i := 0) (j := 0) (dk_Mo_label 11 rfl) rfl rfl ?_
      refine g_bipush (dk_Mo_label 12 rfl) (by decide +kernel) (by decide) ?_
      obtain ⟨r28, s24, q25, h⟩ := p_bdE h
      have t26 := tF_Mo_refused K l v0 (-2) s2 _ q25
      refine g_callV (a := v0) (ci := 11) (q0 := (RX11, TX11, 90)) (As := [p_i (-2)]) (rest := []) [p_i r28] mt_Mo_refused rfl rfl tw_7_67 ts_43 tw_7_65 ⟨Nat.le_of_ble_eq_true rfl, Nat.le_of_ble_eq_true rfl⟩ rfl (Nat.le_of_ble_eq_true rfl) (dk_Mo_label 13 rfl) rfl (c1.up hs5) rfl t26 ?_
      have hs27 : p_x s2 s24 := t26.1
      show p_Go K l m_Mo_label 26 [(0, p_r v0), (1, p_i v1), (2, p_i v2)] [p_i r28] s24 _
      cases h
      exact g_ret rfl rfl (dk_Mo_label 14 rfl) (fun os => ⟨_, rfl, p_okh os⟩)
  · have h := p_ifF b7 h
    refine g_aload_n (i := 0) (j := 0) (dk_Mo_label 4 rfl) rfl rfl ?_
    refine g_iconst (dk_Mo_label 5 rfl) (by decide) ?_
    obtain ⟨r33, s29, q30, h⟩ := p_bdE h
    have t31 := tF_Mo_refused K l v0 (-1) s2 _ q30
    refine g_callV (a := v0) (ci := 11) (q0 := (RX11, TX11, 90)) (As := [p_i (-1)]) (rest := []) [p_i r33] mt_Mo_refused rfl rfl tw_7_67 ts_43 tw_7_65 ⟨Nat.le_of_ble_eq_true rfl, Nat.le_of_ble_eq_true rfl⟩ rfl (Nat.le_of_ble_eq_true rfl) (dk_Mo_label 6 rfl) rfl (c1.up hs5) rfl t31 ?_
    have hs32 : p_x s2 s29 := t31.1
    show p_Go K l m_Mo_label 13 [(0, p_r v0), (1, p_i v1), (2, p_i v2)] [p_i r33] s29 _
    cases h
    exact g_ret rfl rfl (dk_Mo_label 7 rfl) (fun os => ⟨_, rfl, p_okh os⟩)
def m_Mo_put : p_Me := (⟨"SortWorksModel", "put", "(III)I"⟩, prog_13_method_45_code, 4, (some .int), 2, 46)
theorem mt_Mo_put : p_Mt m_Mo_put 3 := ⟨p_mem (p_tb7 (List.mem_of_getElem? (i := 228) rfl)) rfl, tw_1_12, by decide +kernel, by decide +kernel, by decide +kernel⟩
def dt_Mo_put : List (Nat × Instr × Nat) := [(0, .aload_n 0, 1), (1, .iload_n 1, 1), (2, .invokevirtual 352, 3), (5, .ifCond .eq 9, 3), (8, .aload_n 0, 1), (9, .iconst (-1), 1), (10, .invokevirtual 240, 3), (13, .ireturn, 1), (14, .aload_n 0, 1), (15, .getfield 93, 3), (18, .iload_n 1, 1), (19, .iaload, 1), (20, .ifCond .lt 21, 3), (23, .iload_n 2, 1), (24, .i2l, 1), (25, .lconst 0, 1), (26, .aload_n 0, 1), (27, .getfield 93, 3), (30, .iload_n 1, 1), (31, .iaload, 1), (32, .iconst 1, 1), (33, .isub, 1), (34, .i2l, 1), (35, .invokestatic 230, 3), (38, .ifCond .eq 22, 3), (41, .aload_n 0, 1), (42, .aload_n 0, 1), (43, .getfield 93, 3), (46, .iload_n 1, 1), (47, .iaload, 1), (48, .ifCond .ge 7, 3), (51, .iconst 1, 1), (52, .goto 4, 3), (55, .iconst 3, 1), (56, .invokevirtual 270, 3), (59, .ireturn, 1), (60, .aload_n 0, 1), (61, .getfield 96, 3), (64, .bipush 12, 2), (66, .iload_n 1, 1), (67, .imul, 1), (68, .iload_n 2, 1), (69, .iadd, 1), (70, .iload_n 3, 1), (71, .sipush 255, 3), (74, .iand, 1), (75, .iastore, 1), (76, .aload_n 0, 1), (77, .iconst 1, 1), (78, .invokevirtual 244, 3), (81, .ireturn, 1)]
theorem dk_Mo_put (i : Nat) {pc : Nat} {ins : Instr} {len : Nat} (h : dt_Mo_put[i]? = some (pc, ins, len)) : decode m_Mo_put.2.1 pc = .ok (ins, len) := p_dk (b := m_Mo_put.2.1) (t := dt_Mo_put) (by decide +kernel) i h
def B_Mo_put_56  (w0 : Int) (w1 : Nat) (s0 : p_Hp) : Option (Int × p_Hp) :=
  p_gd (p_is s0 w1 11) <|
  p_bd (F_Mo_faulted w1 w0 s0) fun r6 s2 =>
  some (r6, s2)
def B_Mo_put_41  (v0 : Nat) (v1 : Int) (s0 : p_Hp) : Option (Int × p_Hp) :=
  p_gd (p_is s0 v0 11) <|
  p_gd (p_is s0 (p_R s0 v0 31) 100) <|
  p_gd ((0 : Int) ≤ v1 ∧ v1 < (p_L s0 (p_R s0 v0 31) : Int)) <|
  if 0 ≤ (p_Z s0 (p_R s0 v0 31) (v1 : Int).toNat) then
    B_Mo_put_56 3 v0 s0
  else
    B_Mo_put_56 1 v0 s0
def F_Mo_put (v0 : Nat) (v1 : Int) (v2 : Int) (v3 : Int) (s0 : p_Hp) : Option (Int × p_Hp) :=
  p_gd (p_is s0 v0 11) <|
  p_bd (F_Mo_noParcel v0 v1 s0) fun r6 s2 =>
  if r6 = 0 then
    p_gd (p_is s2 (p_R s2 v0 31) 100) <|
    p_gd ((0 : Int) ≤ v1 ∧ v1 < (p_L s2 (p_R s2 v0 31) : Int)) <|
    if (p_Z s2 (p_R s2 v0 31) (v1 : Int).toNat) < 0 then
      B_Mo_put_41 v0 v1 s2
    else
      p_gd ((0 : Int) ≤ v1 ∧ v1 < (p_L s2 (p_R s2 v0 31) : Int)) <|
      p_bd (F_Mo_beyond v2 0 (p_w ((p_Z s2 (p_R s2 v0 31) (v1 : Int).toNat) - 1)) s2) fun r16 s12 =>
      if r16 = 0 then
        p_gd (p_is s12 (p_R s12 v0 32) 100) <|
        p_gd ((0 : Int) ≤ (p_w ((p_w (12 * v1)) + v2)) ∧ (p_w ((p_w (12 * v1)) + v2)) < (p_L s12 (p_R s12 v0 32) : Int)) <|
        p_bi (p_wZ s12 (p_R s12 v0 32) ((p_w ((p_w (12 * v1)) + v2)) : Int).toNat (p_and v3 255)) fun s20 =>
        p_bd (F_Mo_well v0 1 s20) fun r26 s22 =>
        some (r26, s22)
      else
        B_Mo_put_41 v0 v1 s12
  else
    p_bd (F_Mo_refused v0 (-1) s2) fun r31 s27 =>
    some (r31, s27)
set_option maxRecDepth 100000 in
set_option maxHeartbeats 4000000 in
theorem tB_Mo_put_56 (K : p_K) (l : Launch)  (w0 : Int) (w1 : Nat) (s0 : p_Hp) (r : (Int × p_Hp)) (h : B_Mo_put_56 w0 w1 s0 = some r) : p_Go K l m_Mo_put 56 [] [p_i w0, p_r w1] s0 (some (p_i r.1), r.2) := by
  unfold B_Mo_put_56 at h
  obtain ⟨c1, h⟩ := p_gdE h
  obtain ⟨r6, s2, q3, h⟩ := p_bdE h
  have t4 := tF_Mo_faulted K l w1 w0 s0 _ q3
  refine g_callV (a := w1) (ci := 11) (q0 := (RX11, TX11, 90)) (As := [p_i w0]) (rest := []) [p_i r6] mt_Mo_faulted rfl rfl tw_7_110 ts_49 tw_7_108 ⟨Nat.le_of_ble_eq_true rfl, Nat.le_of_ble_eq_true rfl⟩ rfl (Nat.le_of_ble_eq_true rfl) (dk_Mo_put 34 rfl) rfl c1 rfl t4 ?_
  have hs5 : p_x s0 s2 := t4.1
  show p_Go K l m_Mo_put 59 [] [p_i r6] s2 _
  cases h
  exact g_ret rfl rfl (dk_Mo_put 35 rfl) (fun os => ⟨_, rfl, p_okh os⟩)
set_option maxRecDepth 100000 in
set_option maxHeartbeats 4000000 in
theorem tB_Mo_put_41 (K : p_K) (l : Launch)  (v0 : Nat) (v1 : Int) (s0 : p_Hp) (r : (Int × p_Hp)) (h : B_Mo_put_41 v0 v1 s0 = some r) : p_Go K l m_Mo_put 41 [(0, p_r v0), (1, p_i v1)] [] s0 (some (p_i r.1), r.2) := by
  unfold B_Mo_put_41 at h
  refine g_aload_n (i := 0) (j := 0) (dk_Mo_put 25 rfl) rfl rfl ?_
  refine g_aload_n (i := 0) (j := 0) (dk_Mo_put 26 rfl) rfl rfl ?_
  obtain ⟨c1, h⟩ := p_gdE h
  refine g_getR fl_Mo_93 (Or.inr ⟨_, rfl⟩) (dk_Mo_put 27 rfl) c1 ?_
  refine g_iload_n (i := 1) (j := 1) (dk_Mo_put 28 rfl) rfl rfl ?_
  obtain ⟨c2, h⟩ := p_gdE h
  obtain ⟨c3, h⟩ := p_gdE h
  refine g_iaload (dk_Mo_put 29 rfl) c2 c3.1 c3.2 ?_
  refine g_if_ge 55 (dk_Mo_put 30 rfl) (by decide) (fun b4 => ?_) (fun b4 => ?_)
  · have h := p_ifT b4 h
    refine g_iconst (dk_Mo_put 33 rfl) (by decide) ?_
    refine g_sub [] [] rfl ?_
    exact tB_Mo_put_56 K l 3 v0 s0 _ h
  · have h := p_ifF b4 h
    refine g_iconst (dk_Mo_put 31 rfl) (by decide) ?_
    refine g_goto 56 (dk_Mo_put 32 rfl) (by decide) ?_
    refine g_sub [] [] rfl ?_
    exact tB_Mo_put_56 K l 1 v0 s0 _ h
set_option maxRecDepth 100000 in
set_option maxHeartbeats 4000000 in
theorem tF_Mo_put (K : p_K) (l : Launch) (v0 : Nat) (v1 : Int) (v2 : Int) (v3 : Int) (s0 : p_Hp) (r : (Int × p_Hp)) (h : F_Mo_put v0 v1 v2 v3 s0 = some r) : p_Ct K l m_Mo_put [p_r v0, p_i v1, p_i v2, p_i v3] s0 (some (p_i r.1), r.2) := by
  refine p_Ct.of (by decide +kernel) (Nat.le_of_ble_eq_true rfl) ?_
  unfold F_Mo_put at h
  show p_Go K l m_Mo_put 0 [(0, p_r v0), (1, p_i v1), (2, p_i v2), (3, p_i v3)] [] s0 _
  refine g_aload_n (i := 0) (j := 0) (dk_Mo_put 0 rfl) rfl rfl ?_
  refine g_iload_n (i := 1) (j := 1) (dk_Mo_put 1 rfl) rfl rfl ?_
  obtain ⟨c1, h⟩ := p_gdE h
  obtain ⟨r6, s2, q3, h⟩ := p_bdE h
  have t4 := tF_Mo_noParcel K l v0 v1 s0 _ q3
  refine g_callV (a := v0) (ci := 11) (q0 := (RX11, TX11, 90)) (As := [p_i v1]) (rest := []) [p_i r6] mt_Mo_noParcel rfl rfl tw_7_219 ts_62 tw_7_217 ⟨Nat.le_of_ble_eq_true rfl, Nat.le_of_ble_eq_true rfl⟩ rfl (Nat.le_of_ble_eq_true rfl) (dk_Mo_put 2 rfl) rfl c1 rfl t4 ?_
  have hs5 : p_x s0 s2 := t4.1
  show p_Go K l m_Mo_put 5 [(0, p_r v0), (1, p_i v1), (2, p_i v2), (3, p_i v3)] [p_i r6] s2 _
  refine g_if_eq 14 (dk_Mo_put 3 rfl) (by decide) (fun b7 => ?_) (fun b7 => ?_)
  · have h := p_ifT b7 h
    refine g_aload_n (i := 0) (j := 0) (dk_Mo_put 8 rfl) rfl rfl ?_
    refine g_getR fl_Mo_93 (Or.inr ⟨_, rfl⟩) (dk_Mo_put 9 rfl) (c1.up hs5) ?_
    refine g_iload_n (i := 1) (j := 1) (dk_Mo_put 10 rfl) rfl rfl ?_
    obtain ⟨c8, h⟩ := p_gdE h
    obtain ⟨c9, h⟩ := p_gdE h
    refine g_iaload (dk_Mo_put 11 rfl) c8 c9.1 c9.2 ?_
    refine g_if_lt 41 (dk_Mo_put 12 rfl) (by decide) (fun b10 => ?_) (fun b10 => ?_)
    · have h := p_ifT b10 h
      refine g_sub [(0, p_r v0), (1, p_i v1)] [0, 1] rfl ?_
      exact tB_Mo_put_41 K l v0 v1 s2 _ h
    · have h := p_ifF b10 h
      refine g_iload_n (i := 2) (j := 2) (dk_Mo_put 13 rfl) rfl rfl ?_
      refine g_i2l (dk_Mo_put 14 rfl) ?_
      refine g_lconst (x := 0) (dk_Mo_put 15 rfl) rfl (by decide) ?_
      refine g_aload_n (i := 0) (j := 0) (dk_Mo_put 16 rfl) rfl rfl ?_
      refine g_getR fl_Mo_93 (Or.inr ⟨_, rfl⟩) (dk_Mo_put 17 rfl) (c1.up hs5) ?_
      refine g_iload_n (i := 1) (j := 1) (dk_Mo_put 18 rfl) rfl rfl ?_
      obtain ⟨c11, h⟩ := p_gdE h
      refine g_iaload (dk_Mo_put 19 rfl) c8 c11.1 c11.2 ?_
      refine g_iconst (dk_Mo_put 20 rfl) (by decide) ?_
      refine g_isub (dk_Mo_put 21 rfl) ?_
      refine g_i2l (dk_Mo_put 22 rfl) ?_
      obtain ⟨r16, s12, q13, h⟩ := p_bdE h
      have t14 := tF_Mo_beyond K l v2 0 (p_w ((p_Z s2 (p_R s2 v0 31) (v1 : Int).toNat) - 1)) s2 _ q13
      refine g_callS (av := [p_j v2, p_j 0, p_j (p_w ((p_Z s2 (p_R s2 v0 31) (v1 : Int).toNat) - 1))]) (rest := []) [p_i r16] mt_Mo_beyond tw_7_63 tw_7_62 ⟨Nat.le_of_ble_eq_true rfl, Nat.le_of_ble_eq_true rfl⟩ rfl (Nat.le_of_ble_eq_true rfl) (dk_Mo_put 23 rfl) rfl rfl t14 ?_
      have hs15 : p_x s2 s12 := t14.1
      show p_Go K l m_Mo_put 38 [(0, p_r v0), (1, p_i v1), (2, p_i v2), (3, p_i v3)] [p_i r16] s12 _
      refine g_if_eq 60 (dk_Mo_put 24 rfl) (by decide) (fun b17 => ?_) (fun b17 => ?_)
      · have h := p_ifT b17 h
        refine g_aload_n (i := 0) (j := 0) (dk_Mo_put 36 rfl) rfl rfl ?_
        refine g_getR fl_Mo_96 (Or.inr ⟨_, rfl⟩) (dk_Mo_put 37 rfl) (c1.up (hs5.trans hs15)) ?_
        refine g_bipush (dk_Mo_put 38 rfl) (by decide +kernel) (by decide) ?_
        refine g_iload_n (i := 1) (j := 1) (dk_Mo_put 39 rfl) rfl rfl ?_
        refine g_imul (dk_Mo_put 40 rfl) ?_
        refine g_iload_n (i := 2) (j := 2) (dk_Mo_put 41 rfl) rfl rfl ?_
        refine g_iadd (dk_Mo_put 42 rfl) ?_
        refine g_iload_n (i := 3) (j := 3) (dk_Mo_put 43 rfl) rfl rfl ?_
        refine g_sipush (dk_Mo_put 44 rfl) (by decide +kernel) (by decide) ?_
        refine g_iand (dk_Mo_put 45 rfl) ?_
        obtain ⟨c18, h⟩ := p_gdE h
        obtain ⟨c19, h⟩ := p_gdE h
        refine g_iastore (dk_Mo_put 46 rfl) c18 c19.1 c19.2 ?_
        refine p_ltS (P := fun q => p_Go K l m_Mo_put 76 [(0, p_r v0), (1, p_i v1), (2, p_i v2), (3, p_i v3)] [] q _) (p_xZ _ _ _ _) ?_ h
        intro s20 hs21 h
        refine g_aload_n (i := 0) (j := 0) (dk_Mo_put 47 rfl) rfl rfl ?_
        refine g_iconst (dk_Mo_put 48 rfl) (by decide) ?_
        obtain ⟨r26, s22, q23, h⟩ := p_bdE h
        have t24 := tF_Mo_well K l v0 1 s20 _ q23
        refine g_callV (a := v0) (ci := 11) (q0 := (RX11, TX11, 90)) (As := [p_i 1]) (rest := []) [p_i r26] mt_Mo_well rfl rfl tw_7_71 ts_44 tw_7_69 ⟨Nat.le_of_ble_eq_true rfl, Nat.le_of_ble_eq_true rfl⟩ rfl (Nat.le_of_ble_eq_true rfl) (dk_Mo_put 49 rfl) rfl (c1.up (hs5.trans (hs15.trans hs21))) rfl t24 ?_
        have hs25 : p_x s20 s22 := t24.1
        show p_Go K l m_Mo_put 81 [(0, p_r v0), (1, p_i v1), (2, p_i v2), (3, p_i v3)] [p_i r26] s22 _
        cases h
        exact g_ret rfl rfl (dk_Mo_put 50 rfl) (fun os => ⟨_, rfl, p_okh os⟩)
      · have h := p_ifF b17 h
        refine g_sub [(0, p_r v0), (1, p_i v1)] [0, 1] rfl ?_
        exact tB_Mo_put_41 K l v0 v1 s12 _ h
  · have h := p_ifF b7 h
    refine g_aload_n (i := 0) (j := 0) (dk_Mo_put 4 rfl) rfl rfl ?_
    refine g_iconst (dk_Mo_put 5 rfl) (by decide) ?_
    obtain ⟨r31, s27, q28, h⟩ := p_bdE h
    have t29 := tF_Mo_refused K l v0 (-1) s2 _ q28
    refine g_callV (a := v0) (ci := 11) (q0 := (RX11, TX11, 90)) (As := [p_i (-1)]) (rest := []) [p_i r31] mt_Mo_refused rfl rfl tw_7_67 ts_43 tw_7_65 ⟨Nat.le_of_ble_eq_true rfl, Nat.le_of_ble_eq_true rfl⟩ rfl (Nat.le_of_ble_eq_true rfl) (dk_Mo_put 6 rfl) rfl (c1.up hs5) rfl t29 ?_
    have hs30 : p_x s2 s27 := t29.1
    show p_Go K l m_Mo_put 13 [(0, p_r v0), (1, p_i v1), (2, p_i v2), (3, p_i v3)] [p_i r31] s27 _
    cases h
    exact g_ret rfl rfl (dk_Mo_put 7 rfl) (fun os => ⟨_, rfl, p_okh os⟩)
def m_Mo_tags : p_Me := (⟨"SortWorksModel", "tags", "(III)V"⟩, prog_13_method_46_code, 8, none, 1, 23)
theorem mt_Mo_tags : p_Mt m_Mo_tags 3 := ⟨p_mem (p_tb7 (List.mem_of_getElem? (i := 237) rfl)) rfl, tw_1_12, by decide +kernel, by decide +kernel, by decide +kernel⟩
def dt_Mo_tags : List (Nat × Instr × Nat) := [(0, .bipush 12, 2), (2, .iload_n 1, 1), (3, .imul, 1), (4, .istore 4, 2), (6, .aload_n 0, 1), (7, .getfield 84, 3), (10, .iload_n 1, 1), (11, .iaload, 1), (12, .istore 5, 2), (14, .iload_n 2, 1), (15, .ifCond .ne 202, 3), (18, .aload_n 0, 1), (19, .iload_n 1, 1), (20, .bipush 8, 2), (22, .invokevirtual 355, 3), (25, .aload_n 0, 1), (26, .getfield 96, 3), (29, .iload 4, 2), (31, .bipush 65, 2), (33, .iastore, 1), (34, .aload_n 0, 1), (35, .getfield 96, 3), (38, .iload 4, 2), (40, .iconst 1, 1), (41, .iadd, 1), (42, .bipush 48, 2), (44, .iload_n 3, 1), (45, .bipush 10, 2), (47, .idiv, 1), (48, .iadd, 1), (49, .iastore, 1), (50, .aload_n 0, 1), (51, .getfield 96, 3), (54, .iload 4, 2), (56, .iconst 2, 1), (57, .iadd, 1), (58, .bipush 48, 2), (60, .iload_n 3, 1), (61, .bipush 10, 2), (63, .irem, 1), (64, .iadd, 1), (65, .iastore, 1), (66, .aload_n 0, 1), (67, .getfield 96, 3), (70, .iload 4, 2), (72, .iconst 3, 1), (73, .iadd, 1), (74, .bipush 48, 2), (76, .iload 5, 2), (78, .bipush 100, 2), (80, .idiv, 1), (81, .iadd, 1), (82, .iastore, 1), (83, .aload_n 0, 1), (84, .getfield 96, 3), (87, .iload 4, 2), (89, .iconst 4, 1), (90, .iadd, 1), (91, .bipush 48, 2), (93, .iload 5, 2), (95, .bipush 10, 2), (97, .idiv, 1), (98, .bipush 10, 2), (100, .irem, 1), (101, .iadd, 1), (102, .iastore, 1), (103, .aload_n 0, 1), (104, .getfield 96, 3), (107, .iload 4, 2), (109, .iconst 5, 1), (110, .iadd, 1), (111, .bipush 48, 2), (113, .iload 5, 2), (115, .bipush 10, 2), (117, .irem, 1), (118, .iadd, 1), (119, .iastore, 1), (120, .aload_n 0, 1), (121, .getfield 96, 3), (124, .iload 4, 2), (126, .bipush 6, 2), (128, .iadd, 1), (129, .bipush 48, 2), (131, .aload_n 0, 1), (132, .getfield 87, 3), (135, .iload_n 1, 1), (136, .iaload, 1), (137, .iadd, 1), (138, .iastore, 1), (139, .iconst 0, 1), (140, .istore 6, 2), (142, .iconst 1, 1), (143, .istore 7, 2), (145, .iload 7, 2), (147, .bipush 7, 2), (149, .if_icmp .ge 41, 3), (152, .iload 6, 2), (154, .aload_n 0, 1), (155, .getfield 96, 3), (158, .iload 4, 2), (160, .iload 7, 2), (162, .iadd, 1), (163, .iaload, 1), (164, .bipush 48, 2), (166, .isub, 1), (167, .iload 7, 2), (169, .iconst 2, 1), (170, .irem, 1), (171, .iconst 1, 1), (172, .if_icmp .ne 7, 3), (175, .iconst 3, 1), (176, .goto 4, 3), (179, .iconst 1, 1), (180, .imul, 1), (181, .iadd, 1), (182, .istore 6, 2), (184, .iinc 7 1, 3), (187, .goto (-42), 3), (190, .aload_n 0, 1), (191, .getfield 96, 3), (194, .iload 4, 2), (196, .bipush 7, 2), (198, .iadd, 1), (199, .bipush 48, 2), (201, .bipush 10, 2), (203, .iload 6, 2), (205, .bipush 10, 2), (207, .irem, 1), (208, .isub, 1), (209, .bipush 10, 2), (211, .irem, 1), (212, .iadd, 1), (213, .iastore, 1), (214, .goto 115, 3), (217, .aload_n 0, 1), (218, .iload_n 1, 1), (219, .bipush 6, 2), (221, .invokevirtual 355, 3), (224, .aload_n 0, 1), (225, .getfield 96, 3), (228, .iload 4, 2), (230, .bipush 66, 2), (232, .iastore, 1), (233, .aload_n 0, 1), (234, .getfield 96, 3), (237, .iload 4, 2), (239, .iconst 1, 1), (240, .iadd, 1), (241, .iload_n 3, 1), (242, .iastore, 1), (243, .aload_n 0, 1), (244, .getfield 96, 3), (247, .iload 4, 2), (249, .iconst 2, 1), (250, .iadd, 1), (251, .iload 5, 2), (253, .sipush 256, 3), (256, .idiv, 1), (257, .iastore, 1), (258, .aload_n 0, 1), (259, .getfield 96, 3), (262, .iload 4, 2), (264, .iconst 3, 1), (265, .iadd, 1), (266, .iload 5, 2), (268, .sipush 256, 3), (271, .irem, 1), (272, .iastore, 1), (273, .aload_n 0, 1), (274, .getfield 96, 3), (277, .iload 4, 2), (279, .iconst 4, 1), (280, .iadd, 1), (281, .aload_n 0, 1), (282, .getfield 87, 3), (285, .iload_n 1, 1), (286, .iaload, 1), (287, .iastore, 1), (288, .aload_n 0, 1), (289, .getfield 96, 3), (292, .iload 4, 2), (294, .iconst 5, 1), (295, .iadd, 1), (296, .bipush 7, 2), (298, .iload_n 3, 1), (299, .imul, 1), (300, .iconst 5, 1), (301, .iload 5, 2), (303, .sipush 256, 3), (306, .idiv, 1), (307, .imul, 1), (308, .iadd, 1), (309, .iconst 3, 1), (310, .iload 5, 2), (312, .sipush 256, 3), (315, .irem, 1), (316, .imul, 1), (317, .iadd, 1), (318, .aload_n 0, 1), (319, .getfield 87, 3), (322, .iload_n 1, 1), (323, .iaload, 1), (324, .iadd, 1), (325, .bipush 97, 2), (327, .irem, 1), (328, .iastore, 1), (329, .return_, 1)]
theorem dk_Mo_tags (i : Nat) {pc : Nat} {ins : Instr} {len : Nat} (h : dt_Mo_tags[i]? = some (pc, ins, len)) : decode m_Mo_tags.2.1 pc = .ok (ins, len) := p_dk (b := m_Mo_tags.2.1) (t := dt_Mo_tags) (by decide +kernel) i h
def B_Mo_tags_180 (k145 : Nat → Int → Int → Int → p_Hp → Option p_Hp) (v0 : Nat) (v4 : Int) (v7 : Int) (w0 : Int) (w1 : Int) (w2 : Int) (s0 : p_Hp) : Option p_Hp :=
  p_bi ((p_w (w2 + (p_w (w1 * w0))))) fun x1 =>
  p_bi (p_w (v7 + 1)) fun x2 =>
  k145 v0 v4 x1 x2 s0
def L_Mo_tags_145 (k145 : Nat → Int → Int → Int → p_Hp → Option p_Hp) (v0 : Nat) (v4 : Int) (v6 : Int) (v7 : Int) (s0 : p_Hp) : Option p_Hp :=
  if 7 ≤ v7 then
    p_gd (p_is s0 v0 11) <|
    p_gd (p_is s0 (p_R s0 v0 32) 100) <|
    p_gd ((0 : Int) ≤ (p_w (v4 + 7)) ∧ (p_w (v4 + 7)) < (p_L s0 (p_R s0 v0 32) : Int)) <|
    p_bi (p_wZ s0 (p_R s0 v0 32) ((p_w (v4 + 7)) : Int).toNat (p_w (48 + (p_rem (p_w (10 - (p_rem v6 10))) 10)))) fun s5 =>
    some s5
  else
    p_gd (p_is s0 v0 11) <|
    p_gd (p_is s0 (p_R s0 v0 32) 100) <|
    p_gd ((0 : Int) ≤ (p_w (v4 + v7)) ∧ (p_w (v4 + v7)) < (p_L s0 (p_R s0 v0 32) : Int)) <|
    if (p_rem v7 2) ≠ 1 then
      B_Mo_tags_180 k145 v0 v4 v7 1 (p_w ((p_Z s0 (p_R s0 v0 32) ((p_w (v4 + v7)) : Int).toNat) - 48)) v6 s0
    else
      B_Mo_tags_180 k145 v0 v4 v7 3 (p_w ((p_Z s0 (p_R s0 v0 32) ((p_w (v4 + v7)) : Int).toNat) - 48)) v6 s0
def O_Mo_tags_145  : Nat → Nat → Int → Int → Int → p_Hp → Option p_Hp
  | 0 => fun _ _ _ _ _ => none
  | n + 1 => L_Mo_tags_145 (O_Mo_tags_145 n)
def F_Mo_tags (v0 : Nat) (v1 : Int) (v2 : Int) (v3 : Int) (s0 : p_Hp) : Option p_Hp :=
  p_bi ((p_w (12 * v1))) fun x1 =>
  p_gd (p_is s0 v0 11) <|
  p_gd (p_is s0 (p_R s0 v0 28) 100) <|
  p_gd ((0 : Int) ≤ v1 ∧ v1 < (p_L s0 (p_R s0 v0 28) : Int)) <|
  p_bi ((p_Z s0 (p_R s0 v0 28) (v1 : Int).toNat)) fun x5 =>
  if v2 ≠ 0 then
    p_bv (F_Mo_newLabel v0 v1 6 s0) fun s7 =>
    p_gd (p_is s7 (p_R s7 v0 32) 100) <|
    p_gd ((0 : Int) ≤ x1 ∧ x1 < (p_L s7 (p_R s7 v0 32) : Int)) <|
    p_bi (p_wZ s7 (p_R s7 v0 32) (x1 : Int).toNat 66) fun s13 =>
    p_gd (p_is s13 (p_R s13 v0 32) 100) <|
    p_gd ((0 : Int) ≤ (p_w (x1 + 1)) ∧ (p_w (x1 + 1)) < (p_L s13 (p_R s13 v0 32) : Int)) <|
    p_bi (p_wZ s13 (p_R s13 v0 32) ((p_w (x1 + 1)) : Int).toNat v3) fun s17 =>
    p_gd (p_is s17 (p_R s17 v0 32) 100) <|
    p_gd ((0 : Int) ≤ (p_w (x1 + 2)) ∧ (p_w (x1 + 2)) < (p_L s17 (p_R s17 v0 32) : Int)) <|
    p_bi (p_wZ s17 (p_R s17 v0 32) ((p_w (x1 + 2)) : Int).toNat (p_div x5 256)) fun s21 =>
    p_gd (p_is s21 (p_R s21 v0 32) 100) <|
    p_gd ((0 : Int) ≤ (p_w (x1 + 3)) ∧ (p_w (x1 + 3)) < (p_L s21 (p_R s21 v0 32) : Int)) <|
    p_bi (p_wZ s21 (p_R s21 v0 32) ((p_w (x1 + 3)) : Int).toNat (p_rem x5 256)) fun s25 =>
    p_gd (p_is s25 (p_R s25 v0 29) 100) <|
    p_gd ((0 : Int) ≤ v1 ∧ v1 < (p_L s25 (p_R s25 v0 29) : Int)) <|
    p_gd (p_is s25 (p_R s25 v0 32) 100) <|
    p_gd ((0 : Int) ≤ (p_w (x1 + 4)) ∧ (p_w (x1 + 4)) < (p_L s25 (p_R s25 v0 32) : Int)) <|
    p_bi (p_wZ s25 (p_R s25 v0 32) ((p_w (x1 + 4)) : Int).toNat (p_Z s25 (p_R s25 v0 29) (v1 : Int).toNat)) fun s31 =>
    p_gd (p_is s31 (p_R s31 v0 29) 100) <|
    p_gd ((0 : Int) ≤ v1 ∧ v1 < (p_L s31 (p_R s31 v0 29) : Int)) <|
    p_gd (p_is s31 (p_R s31 v0 32) 100) <|
    p_gd ((0 : Int) ≤ (p_w (x1 + 5)) ∧ (p_w (x1 + 5)) < (p_L s31 (p_R s31 v0 32) : Int)) <|
    p_bi (p_wZ s31 (p_R s31 v0 32) ((p_w (x1 + 5)) : Int).toNat (p_rem (p_w ((p_w ((p_w ((p_w (7 * v3)) + (p_w (5 * (p_div x5 256))))) + (p_w (3 * (p_rem x5 256))))) + (p_Z s31 (p_R s31 v0 29) (v1 : Int).toNat))) 97)) fun s37 =>
    some s37
  else
    p_bv (F_Mo_newLabel v0 v1 8 s0) fun s39 =>
    p_gd (p_is s39 (p_R s39 v0 32) 100) <|
    p_gd ((0 : Int) ≤ x1 ∧ x1 < (p_L s39 (p_R s39 v0 32) : Int)) <|
    p_bi (p_wZ s39 (p_R s39 v0 32) (x1 : Int).toNat 65) fun s45 =>
    p_gd (p_is s45 (p_R s45 v0 32) 100) <|
    p_gd ((0 : Int) ≤ (p_w (x1 + 1)) ∧ (p_w (x1 + 1)) < (p_L s45 (p_R s45 v0 32) : Int)) <|
    p_bi (p_wZ s45 (p_R s45 v0 32) ((p_w (x1 + 1)) : Int).toNat (p_w (48 + (p_div v3 10)))) fun s49 =>
    p_gd (p_is s49 (p_R s49 v0 32) 100) <|
    p_gd ((0 : Int) ≤ (p_w (x1 + 2)) ∧ (p_w (x1 + 2)) < (p_L s49 (p_R s49 v0 32) : Int)) <|
    p_bi (p_wZ s49 (p_R s49 v0 32) ((p_w (x1 + 2)) : Int).toNat (p_w (48 + (p_rem v3 10)))) fun s53 =>
    p_gd (p_is s53 (p_R s53 v0 32) 100) <|
    p_gd ((0 : Int) ≤ (p_w (x1 + 3)) ∧ (p_w (x1 + 3)) < (p_L s53 (p_R s53 v0 32) : Int)) <|
    p_bi (p_wZ s53 (p_R s53 v0 32) ((p_w (x1 + 3)) : Int).toNat (p_w (48 + (p_div x5 100)))) fun s57 =>
    p_gd (p_is s57 (p_R s57 v0 32) 100) <|
    p_gd ((0 : Int) ≤ (p_w (x1 + 4)) ∧ (p_w (x1 + 4)) < (p_L s57 (p_R s57 v0 32) : Int)) <|
    p_bi (p_wZ s57 (p_R s57 v0 32) ((p_w (x1 + 4)) : Int).toNat (p_w (48 + (p_rem (p_div x5 10) 10)))) fun s61 =>
    p_gd (p_is s61 (p_R s61 v0 32) 100) <|
    p_gd ((0 : Int) ≤ (p_w (x1 + 5)) ∧ (p_w (x1 + 5)) < (p_L s61 (p_R s61 v0 32) : Int)) <|
    p_bi (p_wZ s61 (p_R s61 v0 32) ((p_w (x1 + 5)) : Int).toNat (p_w (48 + (p_rem x5 10)))) fun s65 =>
    p_gd (p_is s65 (p_R s65 v0 29) 100) <|
    p_gd ((0 : Int) ≤ v1 ∧ v1 < (p_L s65 (p_R s65 v0 29) : Int)) <|
    p_gd (p_is s65 (p_R s65 v0 32) 100) <|
    p_gd ((0 : Int) ≤ (p_w (x1 + 6)) ∧ (p_w (x1 + 6)) < (p_L s65 (p_R s65 v0 32) : Int)) <|
    p_bi (p_wZ s65 (p_R s65 v0 32) ((p_w (x1 + 6)) : Int).toNat (p_w (48 + (p_Z s65 (p_R s65 v0 29) (v1 : Int).toNat)))) fun s71 =>
    O_Mo_tags_145 3000 v0 x1 0 1 s71
set_option maxRecDepth 100000 in
set_option maxHeartbeats 4000000 in
theorem tB_Mo_tags_180 (K : p_K) (l : Launch) (k145 : Nat → Int → Int → Int → p_Hp → Option p_Hp) (hk145 : ∀ (v0 : Nat) (v4 : Int) (v6 : Int) (v7 : Int)  (s0 : p_Hp) (r : p_Hp), k145 v0 v4 v6 v7 s0 = some r → p_Go K l m_Mo_tags 145 [(0, p_r v0), (4, p_i v4), (6, p_i v6), (7, p_i v7)] [] s0 (none, r)) (v0 : Nat) (v4 : Int) (v7 : Int) (w0 : Int) (w1 : Int) (w2 : Int) (s0 : p_Hp) (r : p_Hp) (h : B_Mo_tags_180 k145 v0 v4 v7 w0 w1 w2 s0 = some r) : p_Go K l m_Mo_tags 180 [(0, p_r v0), (4, p_i v4), (7, p_i v7)] [p_i w0, p_i w1, p_i w2] s0 (none, r) := by
  unfold B_Mo_tags_180 at h
  refine g_imul (dk_Mo_tags 113 rfl) ?_
  refine g_iadd (dk_Mo_tags 114 rfl) ?_
  refine g_istore [(6, p_i (p_w (w2 + (p_w (w1 * w0))))), (0, p_r v0), (4, p_i v4), (7, p_i v7)] (dk_Mo_tags 115 rfl) (by decide) rfl ?_
  refine p_ltG (P := fun q => p_Go K l m_Mo_tags 184 [(6, p_i q), (0, p_r v0), (4, p_i v4), (7, p_i v7)] [] s0 _) ?_ h
  intro x1 h
  refine g_iinc (j := 3) [(7, p_i (p_w (v7 + 1))), (6, p_i x1), (0, p_r v0), (4, p_i v4)] (dk_Mo_tags 116 rfl) rfl (by decide) rfl ?_
  refine p_ltG (P := fun q => p_Go K l m_Mo_tags 187 [(7, p_i q), (6, p_i x1), (0, p_r v0), (4, p_i v4)] [] s0 _) ?_ h
  intro x2 h
  refine g_goto 145 (dk_Mo_tags 117 rfl) (by decide) ?_
  refine g_sub [(0, p_r v0), (4, p_i v4), (6, p_i x1), (7, p_i x2)] [2, 3, 1, 0] rfl ?_
  exact hk145 v0 v4 x1 x2 s0 _ h
set_option maxRecDepth 100000 in
set_option maxHeartbeats 4000000 in
theorem tL_Mo_tags_145 (K : p_K) (l : Launch) (k145 : Nat → Int → Int → Int → p_Hp → Option p_Hp) (hk145 : ∀ (v0 : Nat) (v4 : Int) (v6 : Int) (v7 : Int)  (s0 : p_Hp) (r : p_Hp), k145 v0 v4 v6 v7 s0 = some r → p_Go K l m_Mo_tags 145 [(0, p_r v0), (4, p_i v4), (6, p_i v6), (7, p_i v7)] [] s0 (none, r)) (v0 : Nat) (v4 : Int) (v6 : Int) (v7 : Int) (s0 : p_Hp) (r : p_Hp) (h : L_Mo_tags_145 k145 v0 v4 v6 v7 s0 = some r) : p_Go K l m_Mo_tags 145 [(0, p_r v0), (4, p_i v4), (6, p_i v6), (7, p_i v7)] [] s0 (none, r) := by
  unfold L_Mo_tags_145 at h
  refine g_iload (j := 3) (dk_Mo_tags 93 rfl) rfl ?_
  refine g_bipush (dk_Mo_tags 94 rfl) (by decide +kernel) (by decide) ?_
  refine g_icmp_ge 190 (dk_Mo_tags 95 rfl) (by decide) (fun b1 => ?_) (fun b1 => ?_)
  · have h := p_ifT b1 h
    refine g_aload_n (i := 0) (j := 0) (dk_Mo_tags 118 rfl) rfl rfl ?_
    obtain ⟨c2, h⟩ := p_gdE h
    refine g_getR fl_Mo_96 (Or.inr ⟨_, rfl⟩) (dk_Mo_tags 119 rfl) c2 ?_
    refine g_iload (j := 1) (dk_Mo_tags 120 rfl) rfl ?_
    refine g_bipush (dk_Mo_tags 121 rfl) (by decide +kernel) (by decide) ?_
    refine g_iadd (dk_Mo_tags 122 rfl) ?_
    refine g_bipush (dk_Mo_tags 123 rfl) (by decide +kernel) (by decide) ?_
    refine g_bipush (dk_Mo_tags 124 rfl) (by decide +kernel) (by decide) ?_
    refine g_iload (j := 2) (dk_Mo_tags 125 rfl) rfl ?_
    refine g_bipush (dk_Mo_tags 126 rfl) (by decide +kernel) (by decide) ?_
    refine g_irem (dk_Mo_tags 127 rfl) (by decide) ?_
    refine g_isub (dk_Mo_tags 128 rfl) ?_
    refine g_bipush (dk_Mo_tags 129 rfl) (by decide +kernel) (by decide) ?_
    refine g_irem (dk_Mo_tags 130 rfl) (by decide) ?_
    refine g_iadd (dk_Mo_tags 131 rfl) ?_
    obtain ⟨c3, h⟩ := p_gdE h
    obtain ⟨c4, h⟩ := p_gdE h
    refine g_iastore (dk_Mo_tags 132 rfl) c3 c4.1 c4.2 ?_
    refine p_ltS (P := fun q => p_Go K l m_Mo_tags 214 [(0, p_r v0), (4, p_i v4), (6, p_i v6), (7, p_i v7)] [] q _) (p_xZ _ _ _ _) ?_ h
    intro s5 hs6 h
    refine g_goto 329 (dk_Mo_tags 133 rfl) (by decide) ?_
    cases h
    exact g_ret rfl rfl (dk_Mo_tags 206 rfl) (fun _ => rfl)
  · have h := p_ifF b1 h
    refine g_iload (j := 2) (dk_Mo_tags 96 rfl) rfl ?_
    refine g_aload_n (i := 0) (j := 0) (dk_Mo_tags 97 rfl) rfl rfl ?_
    obtain ⟨c7, h⟩ := p_gdE h
    refine g_getR fl_Mo_96 (Or.inr ⟨_, rfl⟩) (dk_Mo_tags 98 rfl) c7 ?_
    refine g_iload (j := 1) (dk_Mo_tags 99 rfl) rfl ?_
    refine g_iload (j := 3) (dk_Mo_tags 100 rfl) rfl ?_
    refine g_iadd (dk_Mo_tags 101 rfl) ?_
    obtain ⟨c8, h⟩ := p_gdE h
    obtain ⟨c9, h⟩ := p_gdE h
    refine g_iaload (dk_Mo_tags 102 rfl) c8 c9.1 c9.2 ?_
    refine g_bipush (dk_Mo_tags 103 rfl) (by decide +kernel) (by decide) ?_
    refine g_isub (dk_Mo_tags 104 rfl) ?_
    refine g_iload (j := 3) (dk_Mo_tags 105 rfl) rfl ?_
    refine g_iconst (dk_Mo_tags 106 rfl) (by decide) ?_
    refine g_irem (dk_Mo_tags 107 rfl) (by decide) ?_
    refine g_iconst (dk_Mo_tags 108 rfl) (by decide) ?_
    refine g_icmp_ne 179 (dk_Mo_tags 109 rfl) (by decide) (fun b10 => ?_) (fun b10 => ?_)
    · have h := p_ifT b10 h
      refine g_iconst (dk_Mo_tags 112 rfl) (by decide) ?_
      refine g_sub [(0, p_r v0), (4, p_i v4), (7, p_i v7)] [0, 1, 3] rfl ?_
      exact tB_Mo_tags_180 K l k145 hk145 v0 v4 v7 1 (p_w ((p_Z s0 (p_R s0 v0 32) ((p_w (v4 + v7)) : Int).toNat) - 48)) v6 s0 _ h
    · have h := p_ifF b10 h
      refine g_iconst (dk_Mo_tags 110 rfl) (by decide) ?_
      refine g_goto 180 (dk_Mo_tags 111 rfl) (by decide) ?_
      refine g_sub [(0, p_r v0), (4, p_i v4), (7, p_i v7)] [0, 1, 3] rfl ?_
      exact tB_Mo_tags_180 K l k145 hk145 v0 v4 v7 3 (p_w ((p_Z s0 (p_R s0 v0 32) ((p_w (v4 + v7)) : Int).toNat) - 48)) v6 s0 _ h
set_option maxRecDepth 100000 in
set_option maxHeartbeats 4000000 in
theorem tO_Mo_tags_145 (K : p_K) (l : Launch)  : ∀ (n : Nat) (v0 : Nat) (v4 : Int) (v6 : Int) (v7 : Int) (s0 : p_Hp) (r : p_Hp), O_Mo_tags_145 n v0 v4 v6 v7 s0 = some r → p_Go K l m_Mo_tags 145 [(0, p_r v0), (4, p_i v4), (6, p_i v6), (7, p_i v7)] [] s0 (none, r) := by
  intro n
  induction n with
  | zero => intro v0 v4 v6 v7 s0 r h; cases (show (none : Option p_Hp) = some r from h)
  | succ n ih => intro v0 v4 v6 v7 s0 r h; exact tL_Mo_tags_145 K l _ ih v0 v4 v6 v7 s0 r h
set_option maxRecDepth 100000 in
set_option maxHeartbeats 4000000 in
theorem tF_Mo_tags (K : p_K) (l : Launch) (v0 : Nat) (v1 : Int) (v2 : Int) (v3 : Int) (s0 : p_Hp) (r : p_Hp) (h : F_Mo_tags v0 v1 v2 v3 s0 = some r) : p_Ct K l m_Mo_tags [p_r v0, p_i v1, p_i v2, p_i v3] s0 (none, r) := by
  refine p_Ct.of (by decide +kernel) (Nat.le_of_ble_eq_true rfl) ?_
  unfold F_Mo_tags at h
  show p_Go K l m_Mo_tags 0 [(0, p_r v0), (1, p_i v1), (2, p_i v2), (3, p_i v3)] [] s0 _
  refine g_bipush (dk_Mo_tags 0 rfl) (by decide +kernel) (by decide) ?_
  refine g_iload_n (i := 1) (j := 1) (dk_Mo_tags 1 rfl) rfl rfl ?_
  refine g_imul (dk_Mo_tags 2 rfl) ?_
  refine g_istore [(4, p_i (p_w (12 * v1))), (0, p_r v0), (1, p_i v1), (2, p_i v2), (3, p_i v3)] (dk_Mo_tags 3 rfl) (by decide) rfl ?_
  refine p_ltG (P := fun q => p_Go K l m_Mo_tags 6 [(4, p_i q), (0, p_r v0), (1, p_i v1), (2, p_i v2), (3, p_i v3)] [] s0 _) ?_ h
  intro x1 h
  refine g_aload_n (i := 0) (j := 1) (dk_Mo_tags 4 rfl) rfl rfl ?_
  obtain ⟨c2, h⟩ := p_gdE h
  refine g_getR fl_Mo_84 (Or.inr ⟨_, rfl⟩) (dk_Mo_tags 5 rfl) c2 ?_
  refine g_iload_n (i := 1) (j := 2) (dk_Mo_tags 6 rfl) rfl rfl ?_
  obtain ⟨c3, h⟩ := p_gdE h
  obtain ⟨c4, h⟩ := p_gdE h
  refine g_iaload (dk_Mo_tags 7 rfl) c3 c4.1 c4.2 ?_
  refine g_istore [(5, p_i (p_Z s0 (p_R s0 v0 28) (v1 : Int).toNat)), (4, p_i x1), (0, p_r v0), (1, p_i v1), (2, p_i v2), (3, p_i v3)] (dk_Mo_tags 8 rfl) (by decide) rfl ?_
  refine p_ltG (P := fun q => p_Go K l m_Mo_tags 14 [(5, p_i q), (4, p_i x1), (0, p_r v0), (1, p_i v1), (2, p_i v2), (3, p_i v3)] [] s0 _) ?_ h
  intro x5 h
  refine g_iload_n (i := 2) (j := 4) (dk_Mo_tags 9 rfl) rfl rfl ?_
  refine g_if_ne 217 (dk_Mo_tags 10 rfl) (by decide) (fun b6 => ?_) (fun b6 => ?_)
  · have h := p_ifT b6 h
    refine g_aload_n (i := 0) (j := 2) (dk_Mo_tags 134 rfl) rfl rfl ?_
    refine g_iload_n (i := 1) (j := 3) (dk_Mo_tags 135 rfl) rfl rfl ?_
    refine g_bipush (dk_Mo_tags 136 rfl) (by decide +kernel) (by decide) ?_
    obtain ⟨s7, q8, h⟩ := p_bvE h
    have t9 := tF_Mo_newLabel K l v0 v1 6 s0 _ q8
    refine g_callV (a := v0) (ci := 11) (q0 := (RX11, TX11, 90)) (As := [p_i v1, p_i 6]) (rest := []) [] mt_Mo_newLabel rfl rfl tw_7_223 ts_63 tw_7_221 ⟨Nat.le_of_ble_eq_true rfl, Nat.le_of_ble_eq_true rfl⟩ rfl (Nat.le_of_ble_eq_true rfl) (dk_Mo_tags 137 rfl) rfl c2 rfl t9 ?_
    have hs10 : p_x s0 s7 := t9.1
    show p_Go K l m_Mo_tags 224 [(5, p_i x5), (4, p_i x1), (0, p_r v0), (1, p_i v1), (2, p_i v2), (3, p_i v3)] [] s7 _
    refine g_aload_n (i := 0) (j := 2) (dk_Mo_tags 138 rfl) rfl rfl ?_
    refine g_getR fl_Mo_96 (Or.inr ⟨_, rfl⟩) (dk_Mo_tags 139 rfl) (c2.up hs10) ?_
    refine g_iload (j := 1) (dk_Mo_tags 140 rfl) rfl ?_
    refine g_bipush (dk_Mo_tags 141 rfl) (by decide +kernel) (by decide) ?_
    obtain ⟨c11, h⟩ := p_gdE h
    obtain ⟨c12, h⟩ := p_gdE h
    refine g_iastore (dk_Mo_tags 142 rfl) c11 c12.1 c12.2 ?_
    refine p_ltS (P := fun q => p_Go K l m_Mo_tags 233 [(5, p_i x5), (4, p_i x1), (0, p_r v0), (1, p_i v1), (2, p_i v2), (3, p_i v3)] [] q _) (p_xZ _ _ _ _) ?_ h
    intro s13 hs14 h
    refine g_aload_n (i := 0) (j := 2) (dk_Mo_tags 143 rfl) rfl rfl ?_
    refine g_getR fl_Mo_96 (Or.inr ⟨_, rfl⟩) (dk_Mo_tags 144 rfl) (c2.up (hs10.trans hs14)) ?_
    refine g_iload (j := 1) (dk_Mo_tags 145 rfl) rfl ?_
    refine g_iconst (dk_Mo_tags 146 rfl) (by decide) ?_
    refine g_iadd (dk_Mo_tags 147 rfl) ?_
    refine g_iload_n (i := 3) (j := 5) (dk_Mo_tags 148 rfl) rfl rfl ?_
    obtain ⟨c15, h⟩ := p_gdE h
    obtain ⟨c16, h⟩ := p_gdE h
    refine g_iastore (dk_Mo_tags 149 rfl) c15 c16.1 c16.2 ?_
    refine p_ltS (P := fun q => p_Go K l m_Mo_tags 243 [(5, p_i x5), (4, p_i x1), (0, p_r v0), (1, p_i v1), (2, p_i v2), (3, p_i v3)] [] q _) (p_xZ _ _ _ _) ?_ h
    intro s17 hs18 h
    refine g_aload_n (i := 0) (j := 2) (dk_Mo_tags 150 rfl) rfl rfl ?_
    refine g_getR fl_Mo_96 (Or.inr ⟨_, rfl⟩) (dk_Mo_tags 151 rfl) (c2.up (hs10.trans (hs14.trans hs18))) ?_
    refine g_iload (j := 1) (dk_Mo_tags 152 rfl) rfl ?_
    refine g_iconst (dk_Mo_tags 153 rfl) (by decide) ?_
    refine g_iadd (dk_Mo_tags 154 rfl) ?_
    refine g_iload (j := 0) (dk_Mo_tags 155 rfl) rfl ?_
    refine g_sipush (dk_Mo_tags 156 rfl) (by decide +kernel) (by decide) ?_
    refine g_idiv (dk_Mo_tags 157 rfl) (by decide) ?_
    obtain ⟨c19, h⟩ := p_gdE h
    obtain ⟨c20, h⟩ := p_gdE h
    refine g_iastore (dk_Mo_tags 158 rfl) c19 c20.1 c20.2 ?_
    refine p_ltS (P := fun q => p_Go K l m_Mo_tags 258 [(5, p_i x5), (4, p_i x1), (0, p_r v0), (1, p_i v1), (2, p_i v2), (3, p_i v3)] [] q _) (p_xZ _ _ _ _) ?_ h
    intro s21 hs22 h
    refine g_aload_n (i := 0) (j := 2) (dk_Mo_tags 159 rfl) rfl rfl ?_
    refine g_getR fl_Mo_96 (Or.inr ⟨_, rfl⟩) (dk_Mo_tags 160 rfl) (c2.up (hs10.trans (hs14.trans (hs18.trans hs22)))) ?_
    refine g_iload (j := 1) (dk_Mo_tags 161 rfl) rfl ?_
    refine g_iconst (dk_Mo_tags 162 rfl) (by decide) ?_
    refine g_iadd (dk_Mo_tags 163 rfl) ?_
    refine g_iload (j := 0) (dk_Mo_tags 164 rfl) rfl ?_
    refine g_sipush (dk_Mo_tags 165 rfl) (by decide +kernel) (by decide) ?_
    refine g_irem (dk_Mo_tags 166 rfl) (by decide) ?_
    obtain ⟨c23, h⟩ := p_gdE h
    obtain ⟨c24, h⟩ := p_gdE h
    refine g_iastore (dk_Mo_tags 167 rfl) c23 c24.1 c24.2 ?_
    refine p_ltS (P := fun q => p_Go K l m_Mo_tags 273 [(5, p_i x5), (4, p_i x1), (0, p_r v0), (1, p_i v1), (2, p_i v2), (3, p_i v3)] [] q _) (p_xZ _ _ _ _) ?_ h
    intro s25 hs26 h
    refine g_aload_n (i := 0) (j := 2) (dk_Mo_tags 168 rfl) rfl rfl ?_
    refine g_getR fl_Mo_96 (Or.inr ⟨_, rfl⟩) (dk_Mo_tags 169 rfl) (c2.up (hs10.trans (hs14.trans (hs18.trans (hs22.trans hs26))))) ?_
    refine g_iload (j := 1) (dk_Mo_tags 170 rfl) rfl ?_
    refine g_iconst (dk_Mo_tags 171 rfl) (by decide) ?_
    refine g_iadd (dk_Mo_tags 172 rfl) ?_
    refine g_aload_n (i := 0) (j := 2) (dk_Mo_tags 173 rfl) rfl rfl ?_
    refine g_getR fl_Mo_87 (Or.inr ⟨_, rfl⟩) (dk_Mo_tags 174 rfl) (c2.up (hs10.trans (hs14.trans (hs18.trans (hs22.trans hs26))))) ?_
    refine g_iload_n (i := 1) (j := 3) (dk_Mo_tags 175 rfl) rfl rfl ?_
    obtain ⟨c27, h⟩ := p_gdE h
    obtain ⟨c28, h⟩ := p_gdE h
    refine g_iaload (dk_Mo_tags 176 rfl) c27 c28.1 c28.2 ?_
    obtain ⟨c29, h⟩ := p_gdE h
    obtain ⟨c30, h⟩ := p_gdE h
    refine g_iastore (dk_Mo_tags 177 rfl) c29 c30.1 c30.2 ?_
    refine p_ltS (P := fun q => p_Go K l m_Mo_tags 288 [(5, p_i x5), (4, p_i x1), (0, p_r v0), (1, p_i v1), (2, p_i v2), (3, p_i v3)] [] q _) (p_xZ _ _ _ _) ?_ h
    intro s31 hs32 h
    refine g_aload_n (i := 0) (j := 2) (dk_Mo_tags 178 rfl) rfl rfl ?_
    refine g_getR fl_Mo_96 (Or.inr ⟨_, rfl⟩) (dk_Mo_tags 179 rfl) (c2.up (hs10.trans (hs14.trans (hs18.trans (hs22.trans (hs26.trans hs32)))))) ?_
    refine g_iload (j := 1) (dk_Mo_tags 180 rfl) rfl ?_
    refine g_iconst (dk_Mo_tags 181 rfl) (by decide) ?_
    refine g_iadd (dk_Mo_tags 182 rfl) ?_
    refine g_bipush (dk_Mo_tags 183 rfl) (by decide +kernel) (by decide) ?_
    refine g_iload_n (i := 3) (j := 5) (dk_Mo_tags 184 rfl) rfl rfl ?_
    refine g_imul (dk_Mo_tags 185 rfl) ?_
    refine g_iconst (dk_Mo_tags 186 rfl) (by decide) ?_
    refine g_iload (j := 0) (dk_Mo_tags 187 rfl) rfl ?_
    refine g_sipush (dk_Mo_tags 188 rfl) (by decide +kernel) (by decide) ?_
    refine g_idiv (dk_Mo_tags 189 rfl) (by decide) ?_
    refine g_imul (dk_Mo_tags 190 rfl) ?_
    refine g_iadd (dk_Mo_tags 191 rfl) ?_
    refine g_iconst (dk_Mo_tags 192 rfl) (by decide) ?_
    refine g_iload (j := 0) (dk_Mo_tags 193 rfl) rfl ?_
    refine g_sipush (dk_Mo_tags 194 rfl) (by decide +kernel) (by decide) ?_
    refine g_irem (dk_Mo_tags 195 rfl) (by decide) ?_
    refine g_imul (dk_Mo_tags 196 rfl) ?_
    refine g_iadd (dk_Mo_tags 197 rfl) ?_
    refine g_aload_n (i := 0) (j := 2) (dk_Mo_tags 198 rfl) rfl rfl ?_
    refine g_getR fl_Mo_87 (Or.inr ⟨_, rfl⟩) (dk_Mo_tags 199 rfl) (c2.up (hs10.trans (hs14.trans (hs18.trans (hs22.trans (hs26.trans hs32)))))) ?_
    refine g_iload_n (i := 1) (j := 3) (dk_Mo_tags 200 rfl) rfl rfl ?_
    obtain ⟨c33, h⟩ := p_gdE h
    obtain ⟨c34, h⟩ := p_gdE h
    refine g_iaload (dk_Mo_tags 201 rfl) c33 c34.1 c34.2 ?_
    refine g_iadd (dk_Mo_tags 202 rfl) ?_
    refine g_bipush (dk_Mo_tags 203 rfl) (by decide +kernel) (by decide) ?_
    refine g_irem (dk_Mo_tags 204 rfl) (by decide) ?_
    obtain ⟨c35, h⟩ := p_gdE h
    obtain ⟨c36, h⟩ := p_gdE h
    refine g_iastore (dk_Mo_tags 205 rfl) c35 c36.1 c36.2 ?_
    refine p_ltS (P := fun q => p_Go K l m_Mo_tags 329 [(5, p_i x5), (4, p_i x1), (0, p_r v0), (1, p_i v1), (2, p_i v2), (3, p_i v3)] [] q _) (p_xZ _ _ _ _) ?_ h
    intro s37 hs38 h
    cases h
    exact g_ret rfl rfl (dk_Mo_tags 206 rfl) (fun _ => rfl)
  · have h := p_ifF b6 h
    refine g_aload_n (i := 0) (j := 2) (dk_Mo_tags 11 rfl) rfl rfl ?_
    refine g_iload_n (i := 1) (j := 3) (dk_Mo_tags 12 rfl) rfl rfl ?_
    refine g_bipush (dk_Mo_tags 13 rfl) (by decide +kernel) (by decide) ?_
    obtain ⟨s39, q40, h⟩ := p_bvE h
    have t41 := tF_Mo_newLabel K l v0 v1 8 s0 _ q40
    refine g_callV (a := v0) (ci := 11) (q0 := (RX11, TX11, 90)) (As := [p_i v1, p_i 8]) (rest := []) [] mt_Mo_newLabel rfl rfl tw_7_223 ts_63 tw_7_221 ⟨Nat.le_of_ble_eq_true rfl, Nat.le_of_ble_eq_true rfl⟩ rfl (Nat.le_of_ble_eq_true rfl) (dk_Mo_tags 14 rfl) rfl c2 rfl t41 ?_
    have hs42 : p_x s0 s39 := t41.1
    show p_Go K l m_Mo_tags 25 [(5, p_i x5), (4, p_i x1), (0, p_r v0), (1, p_i v1), (2, p_i v2), (3, p_i v3)] [] s39 _
    refine g_aload_n (i := 0) (j := 2) (dk_Mo_tags 15 rfl) rfl rfl ?_
    refine g_getR fl_Mo_96 (Or.inr ⟨_, rfl⟩) (dk_Mo_tags 16 rfl) (c2.up hs42) ?_
    refine g_iload (j := 1) (dk_Mo_tags 17 rfl) rfl ?_
    refine g_bipush (dk_Mo_tags 18 rfl) (by decide +kernel) (by decide) ?_
    obtain ⟨c43, h⟩ := p_gdE h
    obtain ⟨c44, h⟩ := p_gdE h
    refine g_iastore (dk_Mo_tags 19 rfl) c43 c44.1 c44.2 ?_
    refine p_ltS (P := fun q => p_Go K l m_Mo_tags 34 [(5, p_i x5), (4, p_i x1), (0, p_r v0), (1, p_i v1), (2, p_i v2), (3, p_i v3)] [] q _) (p_xZ _ _ _ _) ?_ h
    intro s45 hs46 h
    refine g_aload_n (i := 0) (j := 2) (dk_Mo_tags 20 rfl) rfl rfl ?_
    refine g_getR fl_Mo_96 (Or.inr ⟨_, rfl⟩) (dk_Mo_tags 21 rfl) (c2.up (hs42.trans hs46)) ?_
    refine g_iload (j := 1) (dk_Mo_tags 22 rfl) rfl ?_
    refine g_iconst (dk_Mo_tags 23 rfl) (by decide) ?_
    refine g_iadd (dk_Mo_tags 24 rfl) ?_
    refine g_bipush (dk_Mo_tags 25 rfl) (by decide +kernel) (by decide) ?_
    refine g_iload_n (i := 3) (j := 5) (dk_Mo_tags 26 rfl) rfl rfl ?_
    refine g_bipush (dk_Mo_tags 27 rfl) (by decide +kernel) (by decide) ?_
    refine g_idiv (dk_Mo_tags 28 rfl) (by decide) ?_
    refine g_iadd (dk_Mo_tags 29 rfl) ?_
    obtain ⟨c47, h⟩ := p_gdE h
    obtain ⟨c48, h⟩ := p_gdE h
    refine g_iastore (dk_Mo_tags 30 rfl) c47 c48.1 c48.2 ?_
    refine p_ltS (P := fun q => p_Go K l m_Mo_tags 50 [(5, p_i x5), (4, p_i x1), (0, p_r v0), (1, p_i v1), (2, p_i v2), (3, p_i v3)] [] q _) (p_xZ _ _ _ _) ?_ h
    intro s49 hs50 h
    refine g_aload_n (i := 0) (j := 2) (dk_Mo_tags 31 rfl) rfl rfl ?_
    refine g_getR fl_Mo_96 (Or.inr ⟨_, rfl⟩) (dk_Mo_tags 32 rfl) (c2.up (hs42.trans (hs46.trans hs50))) ?_
    refine g_iload (j := 1) (dk_Mo_tags 33 rfl) rfl ?_
    refine g_iconst (dk_Mo_tags 34 rfl) (by decide) ?_
    refine g_iadd (dk_Mo_tags 35 rfl) ?_
    refine g_bipush (dk_Mo_tags 36 rfl) (by decide +kernel) (by decide) ?_
    refine g_iload_n (i := 3) (j := 5) (dk_Mo_tags 37 rfl) rfl rfl ?_
    refine g_bipush (dk_Mo_tags 38 rfl) (by decide +kernel) (by decide) ?_
    refine g_irem (dk_Mo_tags 39 rfl) (by decide) ?_
    refine g_iadd (dk_Mo_tags 40 rfl) ?_
    obtain ⟨c51, h⟩ := p_gdE h
    obtain ⟨c52, h⟩ := p_gdE h
    refine g_iastore (dk_Mo_tags 41 rfl) c51 c52.1 c52.2 ?_
    refine p_ltS (P := fun q => p_Go K l m_Mo_tags 66 [(5, p_i x5), (4, p_i x1), (0, p_r v0), (1, p_i v1), (2, p_i v2), (3, p_i v3)] [] q _) (p_xZ _ _ _ _) ?_ h
    intro s53 hs54 h
    refine g_aload_n (i := 0) (j := 2) (dk_Mo_tags 42 rfl) rfl rfl ?_
    refine g_getR fl_Mo_96 (Or.inr ⟨_, rfl⟩) (dk_Mo_tags 43 rfl) (c2.up (hs42.trans (hs46.trans (hs50.trans hs54)))) ?_
    refine g_iload (j := 1) (dk_Mo_tags 44 rfl) rfl ?_
    refine g_iconst (dk_Mo_tags 45 rfl) (by decide) ?_
    refine g_iadd (dk_Mo_tags 46 rfl) ?_
    refine g_bipush (dk_Mo_tags 47 rfl) (by decide +kernel) (by decide) ?_
    refine g_iload (j := 0) (dk_Mo_tags 48 rfl) rfl ?_
    refine g_bipush (dk_Mo_tags 49 rfl) (by decide +kernel) (by decide) ?_
    refine g_idiv (dk_Mo_tags 50 rfl) (by decide) ?_
    refine g_iadd (dk_Mo_tags 51 rfl) ?_
    obtain ⟨c55, h⟩ := p_gdE h
    obtain ⟨c56, h⟩ := p_gdE h
    refine g_iastore (dk_Mo_tags 52 rfl) c55 c56.1 c56.2 ?_
    refine p_ltS (P := fun q => p_Go K l m_Mo_tags 83 [(5, p_i x5), (4, p_i x1), (0, p_r v0), (1, p_i v1), (2, p_i v2), (3, p_i v3)] [] q _) (p_xZ _ _ _ _) ?_ h
    intro s57 hs58 h
    refine g_aload_n (i := 0) (j := 2) (dk_Mo_tags 53 rfl) rfl rfl ?_
    refine g_getR fl_Mo_96 (Or.inr ⟨_, rfl⟩) (dk_Mo_tags 54 rfl) (c2.up (hs42.trans (hs46.trans (hs50.trans (hs54.trans hs58))))) ?_
    refine g_iload (j := 1) (dk_Mo_tags 55 rfl) rfl ?_
    refine g_iconst (dk_Mo_tags 56 rfl) (by decide) ?_
    refine g_iadd (dk_Mo_tags 57 rfl) ?_
    refine g_bipush (dk_Mo_tags 58 rfl) (by decide +kernel) (by decide) ?_
    refine g_iload (j := 0) (dk_Mo_tags 59 rfl) rfl ?_
    refine g_bipush (dk_Mo_tags 60 rfl) (by decide +kernel) (by decide) ?_
    refine g_idiv (dk_Mo_tags 61 rfl) (by decide) ?_
    refine g_bipush (dk_Mo_tags 62 rfl) (by decide +kernel) (by decide) ?_
    refine g_irem (dk_Mo_tags 63 rfl) (by decide) ?_
    refine g_iadd (dk_Mo_tags 64 rfl) ?_
    obtain ⟨c59, h⟩ := p_gdE h
    obtain ⟨c60, h⟩ := p_gdE h
    refine g_iastore (dk_Mo_tags 65 rfl) c59 c60.1 c60.2 ?_
    refine p_ltS (P := fun q => p_Go K l m_Mo_tags 103 [(5, p_i x5), (4, p_i x1), (0, p_r v0), (1, p_i v1), (2, p_i v2), (3, p_i v3)] [] q _) (p_xZ _ _ _ _) ?_ h
    intro s61 hs62 h
    refine g_aload_n (i := 0) (j := 2) (dk_Mo_tags 66 rfl) rfl rfl ?_
    refine g_getR fl_Mo_96 (Or.inr ⟨_, rfl⟩) (dk_Mo_tags 67 rfl) (c2.up (hs42.trans (hs46.trans (hs50.trans (hs54.trans (hs58.trans hs62)))))) ?_
    refine g_iload (j := 1) (dk_Mo_tags 68 rfl) rfl ?_
    refine g_iconst (dk_Mo_tags 69 rfl) (by decide) ?_
    refine g_iadd (dk_Mo_tags 70 rfl) ?_
    refine g_bipush (dk_Mo_tags 71 rfl) (by decide +kernel) (by decide) ?_
    refine g_iload (j := 0) (dk_Mo_tags 72 rfl) rfl ?_
    refine g_bipush (dk_Mo_tags 73 rfl) (by decide +kernel) (by decide) ?_
    refine g_irem (dk_Mo_tags 74 rfl) (by decide) ?_
    refine g_iadd (dk_Mo_tags 75 rfl) ?_
    obtain ⟨c63, h⟩ := p_gdE h
    obtain ⟨c64, h⟩ := p_gdE h
    refine g_iastore (dk_Mo_tags 76 rfl) c63 c64.1 c64.2 ?_
    refine p_ltS (P := fun q => p_Go K l m_Mo_tags 120 [(5, p_i x5), (4, p_i x1), (0, p_r v0), (1, p_i v1), (2, p_i v2), (3, p_i v3)] [] q _) (p_xZ _ _ _ _) ?_ h
    intro s65 hs66 h
    refine g_aload_n (i := 0) (j := 2) (dk_Mo_tags 77 rfl) rfl rfl ?_
    refine g_getR fl_Mo_96 (Or.inr ⟨_, rfl⟩) (dk_Mo_tags 78 rfl) (c2.up (hs42.trans (hs46.trans (hs50.trans (hs54.trans (hs58.trans (hs62.trans hs66))))))) ?_
    refine g_iload (j := 1) (dk_Mo_tags 79 rfl) rfl ?_
    refine g_bipush (dk_Mo_tags 80 rfl) (by decide +kernel) (by decide) ?_
    refine g_iadd (dk_Mo_tags 81 rfl) ?_
    refine g_bipush (dk_Mo_tags 82 rfl) (by decide +kernel) (by decide) ?_
    refine g_aload_n (i := 0) (j := 2) (dk_Mo_tags 83 rfl) rfl rfl ?_
    refine g_getR fl_Mo_87 (Or.inr ⟨_, rfl⟩) (dk_Mo_tags 84 rfl) (c2.up (hs42.trans (hs46.trans (hs50.trans (hs54.trans (hs58.trans (hs62.trans hs66))))))) ?_
    refine g_iload_n (i := 1) (j := 3) (dk_Mo_tags 85 rfl) rfl rfl ?_
    obtain ⟨c67, h⟩ := p_gdE h
    obtain ⟨c68, h⟩ := p_gdE h
    refine g_iaload (dk_Mo_tags 86 rfl) c67 c68.1 c68.2 ?_
    refine g_iadd (dk_Mo_tags 87 rfl) ?_
    obtain ⟨c69, h⟩ := p_gdE h
    obtain ⟨c70, h⟩ := p_gdE h
    refine g_iastore (dk_Mo_tags 88 rfl) c69 c70.1 c70.2 ?_
    refine p_ltS (P := fun q => p_Go K l m_Mo_tags 139 [(5, p_i x5), (4, p_i x1), (0, p_r v0), (1, p_i v1), (2, p_i v2), (3, p_i v3)] [] q _) (p_xZ _ _ _ _) ?_ h
    intro s71 hs72 h
    refine g_iconst (dk_Mo_tags 89 rfl) (by decide) ?_
    refine g_istore [(6, p_i 0), (5, p_i x5), (4, p_i x1), (0, p_r v0), (1, p_i v1), (2, p_i v2), (3, p_i v3)] (dk_Mo_tags 90 rfl) (by decide) rfl ?_
    refine g_iconst (dk_Mo_tags 91 rfl) (by decide) ?_
    refine g_istore [(7, p_i 1), (6, p_i 0), (5, p_i x5), (4, p_i x1), (0, p_r v0), (1, p_i v1), (2, p_i v2), (3, p_i v3)] (dk_Mo_tags 92 rfl) (by decide) rfl ?_
    refine g_sub [(0, p_r v0), (4, p_i x1), (6, p_i 0), (7, p_i 1)] [4, 3, 1, 0] rfl ?_
    exact tO_Mo_tags_145 K l 3000 v0 x1 0 1 s71 _ h
def m_Mo_tag : p_Me := (⟨"SortWorksModel", "tag", "(III)I"⟩, prog_13_method_47_code, 4, (some .int), 2, 50)
theorem mt_Mo_tag : p_Mt m_Mo_tag 3 := ⟨p_mem (p_tb7 (List.mem_of_getElem? (i := 232) rfl)) rfl, tw_1_12, by decide +kernel, by decide +kernel, by decide +kernel⟩
def dt_Mo_tag : List (Nat × Instr × Nat) := [(0, .aload_n 0, 1), (1, .iload_n 1, 1), (2, .invokevirtual 352, 3), (5, .ifCond .eq 9, 3), (8, .aload_n 0, 1), (9, .iconst (-1), 1), (10, .invokevirtual 240, 3), (13, .ireturn, 1), (14, .iload_n 2, 1), (15, .i2l, 1), (16, .lconst 0, 1), (17, .lconst 1, 1), (18, .invokestatic 230, 3), (21, .ifCond .ne 15, 3), (24, .iload_n 3, 1), (25, .i2l, 1), (26, .lconst 0, 1), (27, .ldc2_w 358, 3), (30, .invokestatic 230, 3), (33, .ifCond .eq 10, 3), (36, .aload_n 0, 1), (37, .bipush (-2), 2), (39, .invokevirtual 240, 3), (42, .ireturn, 1), (43, .aload_n 0, 1), (44, .iload_n 1, 1), (45, .iload_n 2, 1), (46, .iload_n 3, 1), (47, .invokevirtual 360, 3), (50, .aload_n 0, 1), (51, .aload_n 0, 1), (52, .getfield 93, 3), (55, .iload_n 1, 1), (56, .iaload, 1), (57, .invokevirtual 244, 3), (60, .ireturn, 1)]
theorem dk_Mo_tag (i : Nat) {pc : Nat} {ins : Instr} {len : Nat} (h : dt_Mo_tag[i]? = some (pc, ins, len)) : decode m_Mo_tag.2.1 pc = .ok (ins, len) := p_dk (b := m_Mo_tag.2.1) (t := dt_Mo_tag) (by decide +kernel) i h
def B_Mo_tag_36  (v0 : Nat) (s0 : p_Hp) : Option (Int × p_Hp) :=
  p_gd (p_is s0 v0 11) <|
  p_bd (F_Mo_refused v0 (-2) s0) fun r6 s2 =>
  some (r6, s2)
def F_Mo_tag (v0 : Nat) (v1 : Int) (v2 : Int) (v3 : Int) (s0 : p_Hp) : Option (Int × p_Hp) :=
  p_gd (p_is s0 v0 11) <|
  p_bd (F_Mo_noParcel v0 v1 s0) fun r6 s2 =>
  if r6 = 0 then
    p_bd (F_Mo_beyond v2 0 1 s2) fun r12 s8 =>
    if r12 ≠ 0 then
      B_Mo_tag_36 v0 s8
    else
      p_bd (F_Mo_beyond v3 0 99 s8) fun r18 s14 =>
      if r18 = 0 then
        p_bv (F_Mo_tags v0 v1 v2 v3 s14) fun s20 =>
        p_gd (p_is s20 (p_R s20 v0 31) 100) <|
        p_gd ((0 : Int) ≤ v1 ∧ v1 < (p_L s20 (p_R s20 v0 31) : Int)) <|
        p_bd (F_Mo_well v0 (p_Z s20 (p_R s20 v0 31) (v1 : Int).toNat) s20) fun r30 s26 =>
        some (r30, s26)
      else
        B_Mo_tag_36 v0 s14
  else
    p_bd (F_Mo_refused v0 (-1) s2) fun r35 s31 =>
    some (r35, s31)
set_option maxRecDepth 100000 in
set_option maxHeartbeats 4000000 in
theorem tB_Mo_tag_36 (K : p_K) (l : Launch)  (v0 : Nat) (s0 : p_Hp) (r : (Int × p_Hp)) (h : B_Mo_tag_36 v0 s0 = some r) : p_Go K l m_Mo_tag 36 [(0, p_r v0)] [] s0 (some (p_i r.1), r.2) := by
  unfold B_Mo_tag_36 at h
  refine g_aload_n (i := 0) (j := 0) (dk_Mo_tag 20 rfl) rfl rfl ?_
  refine g_bipush (dk_Mo_tag 21 rfl) (by decide +kernel) (by decide) ?_
  obtain ⟨c1, h⟩ := p_gdE h
  obtain ⟨r6, s2, q3, h⟩ := p_bdE h
  have t4 := tF_Mo_refused K l v0 (-2) s0 _ q3
  refine g_callV (a := v0) (ci := 11) (q0 := (RX11, TX11, 90)) (As := [p_i (-2)]) (rest := []) [p_i r6] mt_Mo_refused rfl rfl tw_7_67 ts_43 tw_7_65 ⟨Nat.le_of_ble_eq_true rfl, Nat.le_of_ble_eq_true rfl⟩ rfl (Nat.le_of_ble_eq_true rfl) (dk_Mo_tag 22 rfl) rfl c1 rfl t4 ?_
  have hs5 : p_x s0 s2 := t4.1
  show p_Go K l m_Mo_tag 42 [(0, p_r v0)] [p_i r6] s2 _
  cases h
  exact g_ret rfl rfl (dk_Mo_tag 23 rfl) (fun os => ⟨_, rfl, p_okh os⟩)
set_option maxRecDepth 100000 in
set_option maxHeartbeats 4000000 in
theorem tF_Mo_tag (K : p_K) (l : Launch) (v0 : Nat) (v1 : Int) (v2 : Int) (v3 : Int) (s0 : p_Hp) (r : (Int × p_Hp)) (h : F_Mo_tag v0 v1 v2 v3 s0 = some r) : p_Ct K l m_Mo_tag [p_r v0, p_i v1, p_i v2, p_i v3] s0 (some (p_i r.1), r.2) := by
  refine p_Ct.of (by decide +kernel) (Nat.le_of_ble_eq_true rfl) ?_
  unfold F_Mo_tag at h
  show p_Go K l m_Mo_tag 0 [(0, p_r v0), (1, p_i v1), (2, p_i v2), (3, p_i v3)] [] s0 _
  refine g_aload_n (i := 0) (j := 0) (dk_Mo_tag 0 rfl) rfl rfl ?_
  refine g_iload_n (i := 1) (j := 1) (dk_Mo_tag 1 rfl) rfl rfl ?_
  obtain ⟨c1, h⟩ := p_gdE h
  obtain ⟨r6, s2, q3, h⟩ := p_bdE h
  have t4 := tF_Mo_noParcel K l v0 v1 s0 _ q3
  refine g_callV (a := v0) (ci := 11) (q0 := (RX11, TX11, 90)) (As := [p_i v1]) (rest := []) [p_i r6] mt_Mo_noParcel rfl rfl tw_7_219 ts_62 tw_7_217 ⟨Nat.le_of_ble_eq_true rfl, Nat.le_of_ble_eq_true rfl⟩ rfl (Nat.le_of_ble_eq_true rfl) (dk_Mo_tag 2 rfl) rfl c1 rfl t4 ?_
  have hs5 : p_x s0 s2 := t4.1
  show p_Go K l m_Mo_tag 5 [(0, p_r v0), (1, p_i v1), (2, p_i v2), (3, p_i v3)] [p_i r6] s2 _
  refine g_if_eq 14 (dk_Mo_tag 3 rfl) (by decide) (fun b7 => ?_) (fun b7 => ?_)
  · have h := p_ifT b7 h
    refine g_iload_n (i := 2) (j := 2) (dk_Mo_tag 8 rfl) rfl rfl ?_
    refine g_i2l (dk_Mo_tag 9 rfl) ?_
    refine g_lconst (x := 0) (dk_Mo_tag 10 rfl) rfl (by decide) ?_
    refine g_lconst (x := 1) (dk_Mo_tag 11 rfl) rfl (by decide) ?_
    obtain ⟨r12, s8, q9, h⟩ := p_bdE h
    have t10 := tF_Mo_beyond K l v2 0 1 s2 _ q9
    refine g_callS (av := [p_j v2, p_j 0, p_j 1]) (rest := []) [p_i r12] mt_Mo_beyond tw_7_63 tw_7_62 ⟨Nat.le_of_ble_eq_true rfl, Nat.le_of_ble_eq_true rfl⟩ rfl (Nat.le_of_ble_eq_true rfl) (dk_Mo_tag 12 rfl) rfl rfl t10 ?_
    have hs11 : p_x s2 s8 := t10.1
    show p_Go K l m_Mo_tag 21 [(0, p_r v0), (1, p_i v1), (2, p_i v2), (3, p_i v3)] [p_i r12] s8 _
    refine g_if_ne 36 (dk_Mo_tag 13 rfl) (by decide) (fun b13 => ?_) (fun b13 => ?_)
    · have h := p_ifT b13 h
      refine g_sub [(0, p_r v0)] [0] rfl ?_
      exact tB_Mo_tag_36 K l v0 s8 _ h
    · have h := p_ifF b13 h
      refine g_iload_n (i := 3) (j := 3) (dk_Mo_tag 14 rfl) rfl rfl ?_
      refine g_i2l (dk_Mo_tag 15 rfl) ?_
      refine g_lconst (x := 0) (dk_Mo_tag 16 rfl) rfl (by decide) ?_
      refine g_ldc2_w (x := 99) (dk_Mo_tag 17 rfl) tw_7_233 (by decide) (by decide) ?_
      obtain ⟨r18, s14, q15, h⟩ := p_bdE h
      have t16 := tF_Mo_beyond K l v3 0 99 s8 _ q15
      refine g_callS (av := [p_j v3, p_j 0, p_j 99]) (rest := []) [p_i r18] mt_Mo_beyond tw_7_63 tw_7_62 ⟨Nat.le_of_ble_eq_true rfl, Nat.le_of_ble_eq_true rfl⟩ rfl (Nat.le_of_ble_eq_true rfl) (dk_Mo_tag 18 rfl) rfl rfl t16 ?_
      have hs17 : p_x s8 s14 := t16.1
      show p_Go K l m_Mo_tag 33 [(0, p_r v0), (1, p_i v1), (2, p_i v2), (3, p_i v3)] [p_i r18] s14 _
      refine g_if_eq 43 (dk_Mo_tag 19 rfl) (by decide) (fun b19 => ?_) (fun b19 => ?_)
      · have h := p_ifT b19 h
        refine g_aload_n (i := 0) (j := 0) (dk_Mo_tag 24 rfl) rfl rfl ?_
        refine g_iload_n (i := 1) (j := 1) (dk_Mo_tag 25 rfl) rfl rfl ?_
        refine g_iload_n (i := 2) (j := 2) (dk_Mo_tag 26 rfl) rfl rfl ?_
        refine g_iload_n (i := 3) (j := 3) (dk_Mo_tag 27 rfl) rfl rfl ?_
        obtain ⟨s20, q21, h⟩ := p_bvE h
        have t22 := tF_Mo_tags K l v0 v1 v2 v3 s14 _ q21
        refine g_callV (a := v0) (ci := 11) (q0 := (RX11, TX11, 90)) (As := [p_i v1, p_i v2, p_i v3]) (rest := []) [] mt_Mo_tags rfl rfl tw_7_236 ts_64 tw_7_234 ⟨Nat.le_of_ble_eq_true rfl, Nat.le_of_ble_eq_true rfl⟩ rfl (Nat.le_of_ble_eq_true rfl) (dk_Mo_tag 28 rfl) rfl (c1.up (hs5.trans (hs11.trans hs17))) rfl t22 ?_
        have hs23 : p_x s14 s20 := t22.1
        show p_Go K l m_Mo_tag 50 [(0, p_r v0), (1, p_i v1), (2, p_i v2), (3, p_i v3)] [] s20 _
        refine g_aload_n (i := 0) (j := 0) (dk_Mo_tag 29 rfl) rfl rfl ?_
        refine g_aload_n (i := 0) (j := 0) (dk_Mo_tag 30 rfl) rfl rfl ?_
        refine g_getR fl_Mo_93 (Or.inr ⟨_, rfl⟩) (dk_Mo_tag 31 rfl) (c1.up (hs5.trans (hs11.trans (hs17.trans hs23)))) ?_
        refine g_iload_n (i := 1) (j := 1) (dk_Mo_tag 32 rfl) rfl rfl ?_
        obtain ⟨c24, h⟩ := p_gdE h
        obtain ⟨c25, h⟩ := p_gdE h
        refine g_iaload (dk_Mo_tag 33 rfl) c24 c25.1 c25.2 ?_
        obtain ⟨r30, s26, q27, h⟩ := p_bdE h
        have t28 := tF_Mo_well K l v0 (p_Z s20 (p_R s20 v0 31) (v1 : Int).toNat) s20 _ q27
        refine g_callV (a := v0) (ci := 11) (q0 := (RX11, TX11, 90)) (As := [p_i (p_Z s20 (p_R s20 v0 31) (v1 : Int).toNat)]) (rest := []) [p_i r30] mt_Mo_well rfl rfl tw_7_71 ts_44 tw_7_69 ⟨Nat.le_of_ble_eq_true rfl, Nat.le_of_ble_eq_true rfl⟩ rfl (Nat.le_of_ble_eq_true rfl) (dk_Mo_tag 34 rfl) rfl (c1.up (hs5.trans (hs11.trans (hs17.trans hs23)))) rfl t28 ?_
        have hs29 : p_x s20 s26 := t28.1
        show p_Go K l m_Mo_tag 60 [(0, p_r v0), (1, p_i v1), (2, p_i v2), (3, p_i v3)] [p_i r30] s26 _
        cases h
        exact g_ret rfl rfl (dk_Mo_tag 35 rfl) (fun os => ⟨_, rfl, p_okh os⟩)
      · have h := p_ifF b19 h
        refine g_sub [(0, p_r v0)] [0] rfl ?_
        exact tB_Mo_tag_36 K l v0 s14 _ h
  · have h := p_ifF b7 h
    refine g_aload_n (i := 0) (j := 0) (dk_Mo_tag 4 rfl) rfl rfl ?_
    refine g_iconst (dk_Mo_tag 5 rfl) (by decide) ?_
    obtain ⟨r35, s31, q32, h⟩ := p_bdE h
    have t33 := tF_Mo_refused K l v0 (-1) s2 _ q32
    refine g_callV (a := v0) (ci := 11) (q0 := (RX11, TX11, 90)) (As := [p_i (-1)]) (rest := []) [p_i r35] mt_Mo_refused rfl rfl tw_7_67 ts_43 tw_7_65 ⟨Nat.le_of_ble_eq_true rfl, Nat.le_of_ble_eq_true rfl⟩ rfl (Nat.le_of_ble_eq_true rfl) (dk_Mo_tag 6 rfl) rfl (c1.up hs5) rfl t33 ?_
    have hs34 : p_x s2 s31 := t33.1
    show p_Go K l m_Mo_tag 13 [(0, p_r v0), (1, p_i v1), (2, p_i v2), (3, p_i v3)] [p_i r35] s31 _
    cases h
    exact g_ret rfl rfl (dk_Mo_tag 7 rfl) (fun os => ⟨_, rfl, p_okh os⟩)
def m_Mo_door : p_Me := (⟨"SortWorksModel", "door", "(IZ)I"⟩, prog_13_method_48_code, 4, (some .int), 2, 46)
theorem mt_Mo_door : p_Mt m_Mo_door 2 := ⟨p_mem (p_tb8 (List.mem_of_getElem? (i := 1) rfl)) rfl, tw_1_12, by decide +kernel, by decide +kernel, by decide +kernel⟩
def dt_Mo_door : List (Nat × Instr × Nat) := [(0, .aload_n 0, 1), (1, .iload_n 1, 1), (2, .invokevirtual 267, 3), (5, .ifCond .eq 9, 3), (8, .aload_n 0, 1), (9, .iconst (-1), 1), (10, .invokevirtual 240, 3), (13, .ireturn, 1), (14, .aload_n 0, 1), (15, .getfield 16, 3), (18, .aload_n 0, 1), (19, .iload_n 1, 1), (20, .invokevirtual 257, 3), (23, .iaload, 1), (24, .bipush 9, 2), (26, .if_icmp .eq 9, 3), (29, .aload_n 0, 1), (30, .iconst 2, 1), (31, .invokevirtual 270, 3), (34, .ireturn, 1), (35, .aload_n 0, 1), (36, .getfield 44, 3), (39, .aload_n 0, 1), (40, .iload_n 1, 1), (41, .invokevirtual 257, 3), (44, .baload, 1), (45, .ifCond .eq 7, 3), (48, .iconst 1, 1), (49, .goto 4, 3), (52, .iconst 0, 1), (53, .istore_n 3, 1), (54, .aload_n 0, 1), (55, .getfield 44, 3), (58, .aload_n 0, 1), (59, .iload_n 1, 1), (60, .invokevirtual 257, 3), (63, .iload_n 2, 1), (64, .bastore, 1), (65, .aload_n 0, 1), (66, .iload_n 3, 1), (67, .invokevirtual 244, 3), (70, .ireturn, 1)]
theorem dk_Mo_door (i : Nat) {pc : Nat} {ins : Instr} {len : Nat} (h : dt_Mo_door[i]? = some (pc, ins, len)) : decode m_Mo_door.2.1 pc = .ok (ins, len) := p_dk (b := m_Mo_door.2.1) (t := dt_Mo_door) (by decide +kernel) i h
def B_Mo_door_53  (v0 : Nat) (v1 : Int) (v2 : Int) (w0 : Int) (s0 : p_Hp) : Option (Int × p_Hp) :=
  p_gd (p_is s0 v0 11) <|
  p_bd (F_Mo_g v0 v1 s0) fun r6 s2 =>
  p_gd (p_is s2 (p_R s0 v0 14) 102) <|
  p_gd ((0 : Int) ≤ r6 ∧ r6 < (p_L s2 (p_R s0 v0 14) : Int)) <|
  p_gd (v2 = 0 ∨ v2 = 1) <|
  p_bi (p_wZ s2 (p_R s0 v0 14) (r6 : Int).toNat v2) fun s10 =>
  p_bd (F_Mo_well v0 w0 s10) fun r16 s12 =>
  some (r16, s12)
def F_Mo_door (v0 : Nat) (v1 : Int) (v2 : Int) (s0 : p_Hp) : Option (Int × p_Hp) :=
  p_gd (p_is s0 v0 11) <|
  p_bd (F_Mo_noGear v0 v1 s0) fun r6 s2 =>
  if r6 = 0 then
    p_bd (F_Mo_g v0 v1 s2) fun r12 s8 =>
    p_gd (p_is s8 (p_R s2 v0 5) 100) <|
    p_gd ((0 : Int) ≤ r12 ∧ r12 < (p_L s8 (p_R s2 v0 5) : Int)) <|
    if (p_Z s8 (p_R s2 v0 5) (r12 : Int).toNat) = 9 then
      p_bd (F_Mo_g v0 v1 s8) fun r20 s16 =>
      p_gd (p_is s16 (p_R s8 v0 14) 102) <|
      p_gd ((0 : Int) ≤ r20 ∧ r20 < (p_L s16 (p_R s8 v0 14) : Int)) <|
      if (p_Z s16 (p_R s8 v0 14) (r20 : Int).toNat) = 0 then
        B_Mo_door_53 v0 v1 v2 0 s16
      else
        B_Mo_door_53 v0 v1 v2 1 s16
    else
      p_bd (F_Mo_faulted v0 2 s8) fun r28 s24 =>
      some (r28, s24)
  else
    p_bd (F_Mo_refused v0 (-1) s2) fun r33 s29 =>
    some (r33, s29)
set_option maxRecDepth 100000 in
set_option maxHeartbeats 4000000 in
theorem tB_Mo_door_53 (K : p_K) (l : Launch)  (v0 : Nat) (v1 : Int) (v2 : Int) (w0 : Int) (s0 : p_Hp) (r : (Int × p_Hp)) (h : B_Mo_door_53 v0 v1 v2 w0 s0 = some r) : p_Go K l m_Mo_door 53 [(0, p_r v0), (1, p_i v1), (2, p_i v2)] [p_i w0] s0 (some (p_i r.1), r.2) := by
  unfold B_Mo_door_53 at h
  refine g_istore_n (i := 3) [(3, p_i w0), (0, p_r v0), (1, p_i v1), (2, p_i v2)] (dk_Mo_door 30 rfl) rfl (by decide) rfl ?_
  refine g_aload_n (i := 0) (j := 1) (dk_Mo_door 31 rfl) rfl rfl ?_
  obtain ⟨c1, h⟩ := p_gdE h
  refine g_getR fl_Mo_44 (Or.inr ⟨_, rfl⟩) (dk_Mo_door 32 rfl) c1 ?_
  refine g_aload_n (i := 0) (j := 1) (dk_Mo_door 33 rfl) rfl rfl ?_
  refine g_iload_n (i := 1) (j := 2) (dk_Mo_door 34 rfl) rfl rfl ?_
  obtain ⟨r6, s2, q3, h⟩ := p_bdE h
  have t4 := tF_Mo_g K l v0 v1 s0 _ q3
  refine g_callV (a := v0) (ci := 11) (q0 := (RX11, TX11, 90)) (As := [p_i v1]) (rest := [p_r (p_R s0 v0 14)]) [p_i r6, p_r (p_R s0 v0 14)] mt_Mo_g rfl rfl tw_7_84 ts_45 tw_7_82 ⟨Nat.le_of_ble_eq_true rfl, Nat.le_of_ble_eq_true rfl⟩ rfl (Nat.le_of_ble_eq_true rfl) (dk_Mo_door 35 rfl) rfl c1 rfl t4 ?_
  have hs5 : p_x s0 s2 := t4.1
  show p_Go K l m_Mo_door 63 [(3, p_i w0), (0, p_r v0), (1, p_i v1), (2, p_i v2)] [p_i r6, p_r (p_R s0 v0 14)] s2 _
  refine g_iload_n (i := 2) (j := 3) (dk_Mo_door 36 rfl) rfl rfl ?_
  obtain ⟨c7, h⟩ := p_gdE h
  obtain ⟨c8, h⟩ := p_gdE h
  obtain ⟨c9, h⟩ := p_gdE h
  refine g_bastore (dk_Mo_door 37 rfl) c7 c8.1 c8.2 c9 ?_
  refine p_ltS (P := fun q => p_Go K l m_Mo_door 65 [(3, p_i w0), (0, p_r v0), (1, p_i v1), (2, p_i v2)] [] q _) (p_xZ _ _ _ _) ?_ h
  intro s10 hs11 h
  refine g_aload_n (i := 0) (j := 1) (dk_Mo_door 38 rfl) rfl rfl ?_
  refine g_iload_n (i := 3) (j := 0) (dk_Mo_door 39 rfl) rfl rfl ?_
  obtain ⟨r16, s12, q13, h⟩ := p_bdE h
  have t14 := tF_Mo_well K l v0 w0 s10 _ q13
  refine g_callV (a := v0) (ci := 11) (q0 := (RX11, TX11, 90)) (As := [p_i w0]) (rest := []) [p_i r16] mt_Mo_well rfl rfl tw_7_71 ts_44 tw_7_69 ⟨Nat.le_of_ble_eq_true rfl, Nat.le_of_ble_eq_true rfl⟩ rfl (Nat.le_of_ble_eq_true rfl) (dk_Mo_door 40 rfl) rfl (c1.up (hs5.trans hs11)) rfl t14 ?_
  have hs15 : p_x s10 s12 := t14.1
  show p_Go K l m_Mo_door 70 [(3, p_i w0), (0, p_r v0), (1, p_i v1), (2, p_i v2)] [p_i r16] s12 _
  cases h
  exact g_ret rfl rfl (dk_Mo_door 41 rfl) (fun os => ⟨_, rfl, p_okh os⟩)
set_option maxRecDepth 100000 in
set_option maxHeartbeats 4000000 in
theorem tF_Mo_door (K : p_K) (l : Launch) (v0 : Nat) (v1 : Int) (v2 : Int) (s0 : p_Hp) (r : (Int × p_Hp)) (h : F_Mo_door v0 v1 v2 s0 = some r) : p_Ct K l m_Mo_door [p_r v0, p_i v1, p_i v2] s0 (some (p_i r.1), r.2) := by
  refine p_Ct.of (by decide +kernel) (Nat.le_of_ble_eq_true rfl) ?_
  unfold F_Mo_door at h
  show p_Go K l m_Mo_door 0 [(0, p_r v0), (1, p_i v1), (2, p_i v2)] [] s0 _
  refine g_aload_n (i := 0) (j := 0) (dk_Mo_door 0 rfl) rfl rfl ?_
  refine g_iload_n (i := 1) (j := 1) (dk_Mo_door 1 rfl) rfl rfl ?_
  obtain ⟨c1, h⟩ := p_gdE h
  obtain ⟨r6, s2, q3, h⟩ := p_bdE h
  have t4 := tF_Mo_noGear K l v0 v1 s0 _ q3
  refine g_callV (a := v0) (ci := 11) (q0 := (RX11, TX11, 90)) (As := [p_i v1]) (rest := []) [p_i r6] mt_Mo_noGear rfl rfl tw_7_106 ts_48 tw_7_104 ⟨Nat.le_of_ble_eq_true rfl, Nat.le_of_ble_eq_true rfl⟩ rfl (Nat.le_of_ble_eq_true rfl) (dk_Mo_door 2 rfl) rfl c1 rfl t4 ?_
  have hs5 : p_x s0 s2 := t4.1
  show p_Go K l m_Mo_door 5 [(0, p_r v0), (1, p_i v1), (2, p_i v2)] [p_i r6] s2 _
  refine g_if_eq 14 (dk_Mo_door 3 rfl) (by decide) (fun b7 => ?_) (fun b7 => ?_)
  · have h := p_ifT b7 h
    refine g_aload_n (i := 0) (j := 0) (dk_Mo_door 8 rfl) rfl rfl ?_
    refine g_getR fl_Mo_16 (Or.inr ⟨_, rfl⟩) (dk_Mo_door 9 rfl) (c1.up hs5) ?_
    refine g_aload_n (i := 0) (j := 0) (dk_Mo_door 10 rfl) rfl rfl ?_
    refine g_iload_n (i := 1) (j := 1) (dk_Mo_door 11 rfl) rfl rfl ?_
    obtain ⟨r12, s8, q9, h⟩ := p_bdE h
    have t10 := tF_Mo_g K l v0 v1 s2 _ q9
    refine g_callV (a := v0) (ci := 11) (q0 := (RX11, TX11, 90)) (As := [p_i v1]) (rest := [p_r (p_R s2 v0 5)]) [p_i r12, p_r (p_R s2 v0 5)] mt_Mo_g rfl rfl tw_7_84 ts_45 tw_7_82 ⟨Nat.le_of_ble_eq_true rfl, Nat.le_of_ble_eq_true rfl⟩ rfl (Nat.le_of_ble_eq_true rfl) (dk_Mo_door 12 rfl) rfl (c1.up hs5) rfl t10 ?_
    have hs11 : p_x s2 s8 := t10.1
    show p_Go K l m_Mo_door 23 [(0, p_r v0), (1, p_i v1), (2, p_i v2)] [p_i r12, p_r (p_R s2 v0 5)] s8 _
    obtain ⟨c13, h⟩ := p_gdE h
    obtain ⟨c14, h⟩ := p_gdE h
    refine g_iaload (dk_Mo_door 13 rfl) c13 c14.1 c14.2 ?_
    refine g_bipush (dk_Mo_door 14 rfl) (by decide +kernel) (by decide) ?_
    refine g_icmp_eq 35 (dk_Mo_door 15 rfl) (by decide) (fun b15 => ?_) (fun b15 => ?_)
    · have h := p_ifT b15 h
      refine g_aload_n (i := 0) (j := 0) (dk_Mo_door 20 rfl) rfl rfl ?_
      refine g_getR fl_Mo_44 (Or.inr ⟨_, rfl⟩) (dk_Mo_door 21 rfl) (c1.up (hs5.trans hs11)) ?_
      refine g_aload_n (i := 0) (j := 0) (dk_Mo_door 22 rfl) rfl rfl ?_
      refine g_iload_n (i := 1) (j := 1) (dk_Mo_door 23 rfl) rfl rfl ?_
      obtain ⟨r20, s16, q17, h⟩ := p_bdE h
      have t18 := tF_Mo_g K l v0 v1 s8 _ q17
      refine g_callV (a := v0) (ci := 11) (q0 := (RX11, TX11, 90)) (As := [p_i v1]) (rest := [p_r (p_R s8 v0 14)]) [p_i r20, p_r (p_R s8 v0 14)] mt_Mo_g rfl rfl tw_7_84 ts_45 tw_7_82 ⟨Nat.le_of_ble_eq_true rfl, Nat.le_of_ble_eq_true rfl⟩ rfl (Nat.le_of_ble_eq_true rfl) (dk_Mo_door 24 rfl) rfl (c1.up (hs5.trans hs11)) rfl t18 ?_
      have hs19 : p_x s8 s16 := t18.1
      show p_Go K l m_Mo_door 44 [(0, p_r v0), (1, p_i v1), (2, p_i v2)] [p_i r20, p_r (p_R s8 v0 14)] s16 _
      obtain ⟨c21, h⟩ := p_gdE h
      obtain ⟨c22, h⟩ := p_gdE h
      refine g_baload (dk_Mo_door 25 rfl) c21 c22.1 c22.2 ?_
      refine g_if_eq 52 (dk_Mo_door 26 rfl) (by decide) (fun b23 => ?_) (fun b23 => ?_)
      · have h := p_ifT b23 h
        refine g_iconst (dk_Mo_door 29 rfl) (by decide) ?_
        exact tB_Mo_door_53 K l v0 v1 v2 0 s16 _ h
      · have h := p_ifF b23 h
        refine g_iconst (dk_Mo_door 27 rfl) (by decide) ?_
        refine g_goto 53 (dk_Mo_door 28 rfl) (by decide) ?_
        exact tB_Mo_door_53 K l v0 v1 v2 1 s16 _ h
    · have h := p_ifF b15 h
      refine g_aload_n (i := 0) (j := 0) (dk_Mo_door 16 rfl) rfl rfl ?_
      refine g_iconst (dk_Mo_door 17 rfl) (by decide) ?_
      obtain ⟨r28, s24, q25, h⟩ := p_bdE h
      have t26 := tF_Mo_faulted K l v0 2 s8 _ q25
      refine g_callV (a := v0) (ci := 11) (q0 := (RX11, TX11, 90)) (As := [p_i 2]) (rest := []) [p_i r28] mt_Mo_faulted rfl rfl tw_7_110 ts_49 tw_7_108 ⟨Nat.le_of_ble_eq_true rfl, Nat.le_of_ble_eq_true rfl⟩ rfl (Nat.le_of_ble_eq_true rfl) (dk_Mo_door 18 rfl) rfl (c1.up (hs5.trans hs11)) rfl t26 ?_
      have hs27 : p_x s8 s24 := t26.1
      show p_Go K l m_Mo_door 34 [(0, p_r v0), (1, p_i v1), (2, p_i v2)] [p_i r28] s24 _
      cases h
      exact g_ret rfl rfl (dk_Mo_door 19 rfl) (fun os => ⟨_, rfl, p_okh os⟩)
  · have h := p_ifF b7 h
    refine g_aload_n (i := 0) (j := 0) (dk_Mo_door 4 rfl) rfl rfl ?_
    refine g_iconst (dk_Mo_door 5 rfl) (by decide) ?_
    obtain ⟨r33, s29, q30, h⟩ := p_bdE h
    have t31 := tF_Mo_refused K l v0 (-1) s2 _ q30
    refine g_callV (a := v0) (ci := 11) (q0 := (RX11, TX11, 90)) (As := [p_i (-1)]) (rest := []) [p_i r33] mt_Mo_refused rfl rfl tw_7_67 ts_43 tw_7_65 ⟨Nat.le_of_ble_eq_true rfl, Nat.le_of_ble_eq_true rfl⟩ rfl (Nat.le_of_ble_eq_true rfl) (dk_Mo_door 6 rfl) rfl (c1.up hs5) rfl t31 ?_
    have hs32 : p_x s2 s29 := t31.1
    show p_Go K l m_Mo_door 13 [(0, p_r v0), (1, p_i v1), (2, p_i v2)] [p_i r33] s29 _
    cases h
    exact g_ret rfl rfl (dk_Mo_door 7 rfl) (fun os => ⟨_, rfl, p_okh os⟩)
def m_Mo_turn : p_Me := (⟨"SortWorksModel", "turn", "(II)I"⟩, prog_13_method_49_code, 5, (some .int), 2, 46)
theorem mt_Mo_turn : p_Mt m_Mo_turn 2 := ⟨p_mem (p_tb8 (List.mem_of_getElem? (i := 5) rfl)) rfl, tw_1_12, by decide +kernel, by decide +kernel, by decide +kernel⟩
def dt_Mo_turn : List (Nat × Instr × Nat) := [(0, .aload_n 0, 1), (1, .iload_n 1, 1), (2, .invokevirtual 267, 3), (5, .ifCond .eq 9, 3), (8, .aload_n 0, 1), (9, .iconst (-1), 1), (10, .invokevirtual 240, 3), (13, .ireturn, 1), (14, .aload_n 0, 1), (15, .iload_n 1, 1), (16, .invokevirtual 257, 3), (19, .istore_n 3, 1), (20, .aload_n 0, 1), (21, .getfield 16, 3), (24, .iload_n 3, 1), (25, .iaload, 1), (26, .invokestatic 234, 3), (29, .ifCond .eq 24, 3), (32, .iload_n 2, 1), (33, .i2l, 1), (34, .lconst 0, 1), (35, .aload_n 0, 1), (36, .getfield 16, 3), (39, .iload_n 3, 1), (40, .iaload, 1), (41, .invokestatic 277, 3), (44, .iconst 1, 1), (45, .isub, 1), (46, .i2l, 1), (47, .invokestatic 230, 3), (50, .ifCond .eq 25, 3), (53, .aload_n 0, 1), (54, .aload_n 0, 1), (55, .getfield 16, 3), (58, .iload_n 3, 1), (59, .iaload, 1), (60, .invokestatic 234, 3), (63, .ifCond .eq 7, 3), (66, .iconst 3, 1), (67, .goto 4, 3), (70, .iconst 2, 1), (71, .invokevirtual 270, 3), (74, .ireturn, 1), (75, .aload_n 0, 1), (76, .iload_n 3, 1), (77, .invokevirtual 282, 3), (80, .ifCond .le 10, 3), (83, .aload_n 0, 1), (84, .bipush (-3), 2), (86, .invokevirtual 240, 3), (89, .ireturn, 1), (90, .aload_n 0, 1), (91, .getfield 31, 3), (94, .iload_n 3, 1), (95, .iaload, 1), (96, .istore 4, 2), (98, .aload_n 0, 1), (99, .getfield 31, 3), (102, .iload_n 3, 1), (103, .iload_n 2, 1), (104, .iastore, 1), (105, .aload_n 0, 1), (106, .iload 4, 2), (108, .invokevirtual 244, 3), (111, .ireturn, 1)]
theorem dk_Mo_turn (i : Nat) {pc : Nat} {ins : Instr} {len : Nat} (h : dt_Mo_turn[i]? = some (pc, ins, len)) : decode m_Mo_turn.2.1 pc = .ok (ins, len) := p_dk (b := m_Mo_turn.2.1) (t := dt_Mo_turn) (by decide +kernel) i h
def B_Mo_turn_71  (w0 : Int) (w1 : Nat) (s0 : p_Hp) : Option (Int × p_Hp) :=
  p_gd (p_is s0 w1 11) <|
  p_bd (F_Mo_faulted w1 w0 s0) fun r6 s2 =>
  some (r6, s2)
def B_Mo_turn_53  (v0 : Nat) (v3 : Int) (s0 : p_Hp) : Option (Int × p_Hp) :=
  p_gd (p_is s0 v0 11) <|
  p_gd (p_is s0 (p_R s0 v0 5) 100) <|
  p_gd ((0 : Int) ≤ v3 ∧ v3 < (p_L s0 (p_R s0 v0 5) : Int)) <|
  p_bd (F_Mo_isDivert (p_Z s0 (p_R s0 v0 5) (v3 : Int).toNat) s0) fun r8 s4 =>
  if r8 = 0 then
    B_Mo_turn_71 2 v0 s4
  else
    B_Mo_turn_71 3 v0 s4
def F_Mo_turn (v0 : Nat) (v1 : Int) (v2 : Int) (s0 : p_Hp) : Option (Int × p_Hp) :=
  p_gd (p_is s0 v0 11) <|
  p_bd (F_Mo_noGear v0 v1 s0) fun r6 s2 =>
  if r6 = 0 then
    p_bd (F_Mo_g v0 v1 s2) fun r12 s8 =>
    p_gd (p_is s8 (p_R s8 v0 5) 100) <|
    p_gd ((0 : Int) ≤ r12 ∧ r12 < (p_L s8 (p_R s8 v0 5) : Int)) <|
    p_bd (F_Mo_isDivert (p_Z s8 (p_R s8 v0 5) (r12 : Int).toNat) s8) fun r19 s15 =>
    if r19 = 0 then
      B_Mo_turn_53 v0 r12 s15
    else
      p_gd (p_is s15 (p_R s15 v0 5) 100) <|
      p_gd ((0 : Int) ≤ r12 ∧ r12 < (p_L s15 (p_R s15 v0 5) : Int)) <|
      p_bd (F_Mo_sidesOf (p_Z s15 (p_R s15 v0 5) (r12 : Int).toNat) s15) fun r27 s23 =>
      p_bd (F_Mo_beyond v2 0 (p_w (r27 - 1)) s23) fun r32 s28 =>
      if r32 = 0 then
        p_bd (F_Mo_loadOf v0 r12 s28) fun r38 s34 =>
        if r38 ≤ 0 then
          p_gd (p_is s34 (p_R s34 v0 10) 100) <|
          p_gd ((0 : Int) ≤ r12 ∧ r12 < (p_L s34 (p_R s34 v0 10) : Int)) <|
          p_bi ((p_Z s34 (p_R s34 v0 10) (r12 : Int).toNat)) fun x42 =>
          p_gd ((0 : Int) ≤ r12 ∧ r12 < (p_L s34 (p_R s34 v0 10) : Int)) <|
          p_bi (p_wZ s34 (p_R s34 v0 10) (r12 : Int).toNat v2) fun s44 =>
          p_bd (F_Mo_well v0 x42 s44) fun r50 s46 =>
          some (r50, s46)
        else
          p_bd (F_Mo_refused v0 (-3) s34) fun r55 s51 =>
          some (r55, s51)
      else
        B_Mo_turn_53 v0 r12 s28
  else
    p_bd (F_Mo_refused v0 (-1) s2) fun r60 s56 =>
    some (r60, s56)
set_option maxRecDepth 100000 in
set_option maxHeartbeats 4000000 in
theorem tB_Mo_turn_71 (K : p_K) (l : Launch)  (w0 : Int) (w1 : Nat) (s0 : p_Hp) (r : (Int × p_Hp)) (h : B_Mo_turn_71 w0 w1 s0 = some r) : p_Go K l m_Mo_turn 71 [] [p_i w0, p_r w1] s0 (some (p_i r.1), r.2) := by
  unfold B_Mo_turn_71 at h
  obtain ⟨c1, h⟩ := p_gdE h
  obtain ⟨r6, s2, q3, h⟩ := p_bdE h
  have t4 := tF_Mo_faulted K l w1 w0 s0 _ q3
  refine g_callV (a := w1) (ci := 11) (q0 := (RX11, TX11, 90)) (As := [p_i w0]) (rest := []) [p_i r6] mt_Mo_faulted rfl rfl tw_7_110 ts_49 tw_7_108 ⟨Nat.le_of_ble_eq_true rfl, Nat.le_of_ble_eq_true rfl⟩ rfl (Nat.le_of_ble_eq_true rfl) (dk_Mo_turn 41 rfl) rfl c1 rfl t4 ?_
  have hs5 : p_x s0 s2 := t4.1
  show p_Go K l m_Mo_turn 74 [] [p_i r6] s2 _
  cases h
  exact g_ret rfl rfl (dk_Mo_turn 42 rfl) (fun os => ⟨_, rfl, p_okh os⟩)
set_option maxRecDepth 100000 in
set_option maxHeartbeats 4000000 in
theorem tB_Mo_turn_53 (K : p_K) (l : Launch)  (v0 : Nat) (v3 : Int) (s0 : p_Hp) (r : (Int × p_Hp)) (h : B_Mo_turn_53 v0 v3 s0 = some r) : p_Go K l m_Mo_turn 53 [(0, p_r v0), (3, p_i v3)] [] s0 (some (p_i r.1), r.2) := by
  unfold B_Mo_turn_53 at h
  refine g_aload_n (i := 0) (j := 0) (dk_Mo_turn 31 rfl) rfl rfl ?_
  refine g_aload_n (i := 0) (j := 0) (dk_Mo_turn 32 rfl) rfl rfl ?_
  obtain ⟨c1, h⟩ := p_gdE h
  refine g_getR fl_Mo_16 (Or.inr ⟨_, rfl⟩) (dk_Mo_turn 33 rfl) c1 ?_
  refine g_iload_n (i := 3) (j := 1) (dk_Mo_turn 34 rfl) rfl rfl ?_
  obtain ⟨c2, h⟩ := p_gdE h
  obtain ⟨c3, h⟩ := p_gdE h
  refine g_iaload (dk_Mo_turn 35 rfl) c2 c3.1 c3.2 ?_
  obtain ⟨r8, s4, q5, h⟩ := p_bdE h
  have t6 := tF_Mo_isDivert K l (p_Z s0 (p_R s0 v0 5) (v3 : Int).toNat) s0 _ q5
  refine g_callS (av := [p_i (p_Z s0 (p_R s0 v0 5) (v3 : Int).toNat)]) (rest := [p_r v0]) [p_i r8, p_r v0] mt_Mo_isDivert tw_7_94 tw_7_93 ⟨Nat.le_of_ble_eq_true rfl, Nat.le_of_ble_eq_true rfl⟩ rfl (Nat.le_of_ble_eq_true rfl) (dk_Mo_turn 36 rfl) rfl rfl t6 ?_
  have hs7 : p_x s0 s4 := t6.1
  show p_Go K l m_Mo_turn 63 [(0, p_r v0), (3, p_i v3)] [p_i r8, p_r v0] s4 _
  refine g_if_eq 70 (dk_Mo_turn 37 rfl) (by decide) (fun b9 => ?_) (fun b9 => ?_)
  · have h := p_ifT b9 h
    refine g_iconst (dk_Mo_turn 40 rfl) (by decide) ?_
    refine g_sub [] [] rfl ?_
    exact tB_Mo_turn_71 K l 2 v0 s4 _ h
  · have h := p_ifF b9 h
    refine g_iconst (dk_Mo_turn 38 rfl) (by decide) ?_
    refine g_goto 71 (dk_Mo_turn 39 rfl) (by decide) ?_
    refine g_sub [] [] rfl ?_
    exact tB_Mo_turn_71 K l 3 v0 s4 _ h
set_option maxRecDepth 100000 in
set_option maxHeartbeats 4000000 in
theorem tF_Mo_turn (K : p_K) (l : Launch) (v0 : Nat) (v1 : Int) (v2 : Int) (s0 : p_Hp) (r : (Int × p_Hp)) (h : F_Mo_turn v0 v1 v2 s0 = some r) : p_Ct K l m_Mo_turn [p_r v0, p_i v1, p_i v2] s0 (some (p_i r.1), r.2) := by
  refine p_Ct.of (by decide +kernel) (Nat.le_of_ble_eq_true rfl) ?_
  unfold F_Mo_turn at h
  show p_Go K l m_Mo_turn 0 [(0, p_r v0), (1, p_i v1), (2, p_i v2)] [] s0 _
  refine g_aload_n (i := 0) (j := 0) (dk_Mo_turn 0 rfl) rfl rfl ?_
  refine g_iload_n (i := 1) (j := 1) (dk_Mo_turn 1 rfl) rfl rfl ?_
  obtain ⟨c1, h⟩ := p_gdE h
  obtain ⟨r6, s2, q3, h⟩ := p_bdE h
  have t4 := tF_Mo_noGear K l v0 v1 s0 _ q3
  refine g_callV (a := v0) (ci := 11) (q0 := (RX11, TX11, 90)) (As := [p_i v1]) (rest := []) [p_i r6] mt_Mo_noGear rfl rfl tw_7_106 ts_48 tw_7_104 ⟨Nat.le_of_ble_eq_true rfl, Nat.le_of_ble_eq_true rfl⟩ rfl (Nat.le_of_ble_eq_true rfl) (dk_Mo_turn 2 rfl) rfl c1 rfl t4 ?_
  have hs5 : p_x s0 s2 := t4.1
  show p_Go K l m_Mo_turn 5 [(0, p_r v0), (1, p_i v1), (2, p_i v2)] [p_i r6] s2 _
  refine g_if_eq 14 (dk_Mo_turn 3 rfl) (by decide) (fun b7 => ?_) (fun b7 => ?_)
  · have h := p_ifT b7 h
    refine g_aload_n (i := 0) (j := 0) (dk_Mo_turn 8 rfl) rfl rfl ?_
    refine g_iload_n (i := 1) (j := 1) (dk_Mo_turn 9 rfl) rfl rfl ?_
    obtain ⟨r12, s8, q9, h⟩ := p_bdE h
    have t10 := tF_Mo_g K l v0 v1 s2 _ q9
    refine g_callV (a := v0) (ci := 11) (q0 := (RX11, TX11, 90)) (As := [p_i v1]) (rest := []) [p_i r12] mt_Mo_g rfl rfl tw_7_84 ts_45 tw_7_82 ⟨Nat.le_of_ble_eq_true rfl, Nat.le_of_ble_eq_true rfl⟩ rfl (Nat.le_of_ble_eq_true rfl) (dk_Mo_turn 10 rfl) rfl (c1.up hs5) rfl t10 ?_
    have hs11 : p_x s2 s8 := t10.1
    show p_Go K l m_Mo_turn 19 [(0, p_r v0), (1, p_i v1), (2, p_i v2)] [p_i r12] s8 _
    refine g_istore_n (i := 3) [(3, p_i r12), (0, p_r v0), (1, p_i v1), (2, p_i v2)] (dk_Mo_turn 11 rfl) rfl (by decide) rfl ?_
    refine g_aload_n (i := 0) (j := 1) (dk_Mo_turn 12 rfl) rfl rfl ?_
    refine g_getR fl_Mo_16 (Or.inr ⟨_, rfl⟩) (dk_Mo_turn 13 rfl) (c1.up (hs5.trans hs11)) ?_
    refine g_iload_n (i := 3) (j := 0) (dk_Mo_turn 14 rfl) rfl rfl ?_
    obtain ⟨c13, h⟩ := p_gdE h
    obtain ⟨c14, h⟩ := p_gdE h
    refine g_iaload (dk_Mo_turn 15 rfl) c13 c14.1 c14.2 ?_
    obtain ⟨r19, s15, q16, h⟩ := p_bdE h
    have t17 := tF_Mo_isDivert K l (p_Z s8 (p_R s8 v0 5) (r12 : Int).toNat) s8 _ q16
    refine g_callS (av := [p_i (p_Z s8 (p_R s8 v0 5) (r12 : Int).toNat)]) (rest := []) [p_i r19] mt_Mo_isDivert tw_7_94 tw_7_93 ⟨Nat.le_of_ble_eq_true rfl, Nat.le_of_ble_eq_true rfl⟩ rfl (Nat.le_of_ble_eq_true rfl) (dk_Mo_turn 16 rfl) rfl rfl t17 ?_
    have hs18 : p_x s8 s15 := t17.1
    show p_Go K l m_Mo_turn 29 [(3, p_i r12), (0, p_r v0), (1, p_i v1), (2, p_i v2)] [p_i r19] s15 _
    refine g_if_eq 53 (dk_Mo_turn 17 rfl) (by decide) (fun b20 => ?_) (fun b20 => ?_)
    · have h := p_ifT b20 h
      refine g_sub [(0, p_r v0), (3, p_i r12)] [1, 0] rfl ?_
      exact tB_Mo_turn_53 K l v0 r12 s15 _ h
    · have h := p_ifF b20 h
      refine g_iload_n (i := 2) (j := 3) (dk_Mo_turn 18 rfl) rfl rfl ?_
      refine g_i2l (dk_Mo_turn 19 rfl) ?_
      refine g_lconst (x := 0) (dk_Mo_turn 20 rfl) rfl (by decide) ?_
      refine g_aload_n (i := 0) (j := 1) (dk_Mo_turn 21 rfl) rfl rfl ?_
      refine g_getR fl_Mo_16 (Or.inr ⟨_, rfl⟩) (dk_Mo_turn 22 rfl) (c1.up (hs5.trans (hs11.trans hs18))) ?_
      refine g_iload_n (i := 3) (j := 0) (dk_Mo_turn 23 rfl) rfl rfl ?_
      obtain ⟨c21, h⟩ := p_gdE h
      obtain ⟨c22, h⟩ := p_gdE h
      refine g_iaload (dk_Mo_turn 24 rfl) c21 c22.1 c22.2 ?_
      obtain ⟨r27, s23, q24, h⟩ := p_bdE h
      have t25 := tF_Mo_sidesOf K l (p_Z s15 (p_R s15 v0 5) (r12 : Int).toNat) s15 _ q24
      refine g_callS (av := [p_i (p_Z s15 (p_R s15 v0 5) (r12 : Int).toNat)]) (rest := [p_j 0, p_j v2]) [p_i r27, p_j 0, p_j v2] mt_Mo_sidesOf tw_7_123 tw_7_122 ⟨Nat.le_of_ble_eq_true rfl, Nat.le_of_ble_eq_true rfl⟩ rfl (Nat.le_of_ble_eq_true rfl) (dk_Mo_turn 25 rfl) rfl rfl t25 ?_
      have hs26 : p_x s15 s23 := t25.1
      show p_Go K l m_Mo_turn 44 [(3, p_i r12), (0, p_r v0), (1, p_i v1), (2, p_i v2)] [p_i r27, p_j 0, p_j v2] s23 _
      refine g_iconst (dk_Mo_turn 26 rfl) (by decide) ?_
      refine g_isub (dk_Mo_turn 27 rfl) ?_
      refine g_i2l (dk_Mo_turn 28 rfl) ?_
      obtain ⟨r32, s28, q29, h⟩ := p_bdE h
      have t30 := tF_Mo_beyond K l v2 0 (p_w (r27 - 1)) s23 _ q29
      refine g_callS (av := [p_j v2, p_j 0, p_j (p_w (r27 - 1))]) (rest := []) [p_i r32] mt_Mo_beyond tw_7_63 tw_7_62 ⟨Nat.le_of_ble_eq_true rfl, Nat.le_of_ble_eq_true rfl⟩ rfl (Nat.le_of_ble_eq_true rfl) (dk_Mo_turn 29 rfl) rfl rfl t30 ?_
      have hs31 : p_x s23 s28 := t30.1
      show p_Go K l m_Mo_turn 50 [(3, p_i r12), (0, p_r v0), (1, p_i v1), (2, p_i v2)] [p_i r32] s28 _
      refine g_if_eq 75 (dk_Mo_turn 30 rfl) (by decide) (fun b33 => ?_) (fun b33 => ?_)
      · have h := p_ifT b33 h
        refine g_aload_n (i := 0) (j := 1) (dk_Mo_turn 43 rfl) rfl rfl ?_
        refine g_iload_n (i := 3) (j := 0) (dk_Mo_turn 44 rfl) rfl rfl ?_
        obtain ⟨r38, s34, q35, h⟩ := p_bdE h
        have t36 := tF_Mo_loadOf K l v0 r12 s28 _ q35
        refine g_callV (a := v0) (ci := 11) (q0 := (RX11, TX11, 90)) (As := [p_i r12]) (rest := []) [p_i r38] mt_Mo_loadOf rfl rfl tw_7_136 ts_50 tw_7_134 ⟨Nat.le_of_ble_eq_true rfl, Nat.le_of_ble_eq_true rfl⟩ rfl (Nat.le_of_ble_eq_true rfl) (dk_Mo_turn 45 rfl) rfl (c1.up (hs5.trans (hs11.trans (hs18.trans (hs26.trans hs31))))) rfl t36 ?_
        have hs37 : p_x s28 s34 := t36.1
        show p_Go K l m_Mo_turn 80 [(3, p_i r12), (0, p_r v0), (1, p_i v1), (2, p_i v2)] [p_i r38] s34 _
        refine g_if_le 90 (dk_Mo_turn 46 rfl) (by decide) (fun b39 => ?_) (fun b39 => ?_)
        · have h := p_ifT b39 h
          refine g_aload_n (i := 0) (j := 1) (dk_Mo_turn 51 rfl) rfl rfl ?_
          refine g_getR fl_Mo_31 (Or.inr ⟨_, rfl⟩) (dk_Mo_turn 52 rfl) (c1.up (hs5.trans (hs11.trans (hs18.trans (hs26.trans (hs31.trans hs37)))))) ?_
          refine g_iload_n (i := 3) (j := 0) (dk_Mo_turn 53 rfl) rfl rfl ?_
          obtain ⟨c40, h⟩ := p_gdE h
          obtain ⟨c41, h⟩ := p_gdE h
          refine g_iaload (dk_Mo_turn 54 rfl) c40 c41.1 c41.2 ?_
          refine g_istore [(4, p_i (p_Z s34 (p_R s34 v0 10) (r12 : Int).toNat)), (3, p_i r12), (0, p_r v0), (1, p_i v1), (2, p_i v2)] (dk_Mo_turn 55 rfl) (by decide) rfl ?_
          refine p_ltG (P := fun q => p_Go K l m_Mo_turn 98 [(4, p_i q), (3, p_i r12), (0, p_r v0), (1, p_i v1), (2, p_i v2)] [] s34 _) ?_ h
          intro x42 h
          refine g_aload_n (i := 0) (j := 2) (dk_Mo_turn 56 rfl) rfl rfl ?_
          refine g_getR fl_Mo_31 (Or.inr ⟨_, rfl⟩) (dk_Mo_turn 57 rfl) (c1.up (hs5.trans (hs11.trans (hs18.trans (hs26.trans (hs31.trans hs37)))))) ?_
          refine g_iload_n (i := 3) (j := 1) (dk_Mo_turn 58 rfl) rfl rfl ?_
          refine g_iload_n (i := 2) (j := 4) (dk_Mo_turn 59 rfl) rfl rfl ?_
          obtain ⟨c43, h⟩ := p_gdE h
          refine g_iastore (dk_Mo_turn 60 rfl) c40 c43.1 c43.2 ?_
          refine p_ltS (P := fun q => p_Go K l m_Mo_turn 105 [(4, p_i x42), (3, p_i r12), (0, p_r v0), (1, p_i v1), (2, p_i v2)] [] q _) (p_xZ _ _ _ _) ?_ h
          intro s44 hs45 h
          refine g_aload_n (i := 0) (j := 2) (dk_Mo_turn 61 rfl) rfl rfl ?_
          refine g_iload (j := 0) (dk_Mo_turn 62 rfl) rfl ?_
          obtain ⟨r50, s46, q47, h⟩ := p_bdE h
          have t48 := tF_Mo_well K l v0 x42 s44 _ q47
          refine g_callV (a := v0) (ci := 11) (q0 := (RX11, TX11, 90)) (As := [p_i x42]) (rest := []) [p_i r50] mt_Mo_well rfl rfl tw_7_71 ts_44 tw_7_69 ⟨Nat.le_of_ble_eq_true rfl, Nat.le_of_ble_eq_true rfl⟩ rfl (Nat.le_of_ble_eq_true rfl) (dk_Mo_turn 63 rfl) rfl (c1.up (hs5.trans (hs11.trans (hs18.trans (hs26.trans (hs31.trans (hs37.trans hs45))))))) rfl t48 ?_
          have hs49 : p_x s44 s46 := t48.1
          show p_Go K l m_Mo_turn 111 [(4, p_i x42), (3, p_i r12), (0, p_r v0), (1, p_i v1), (2, p_i v2)] [p_i r50] s46 _
          cases h
          exact g_ret rfl rfl (dk_Mo_turn 64 rfl) (fun os => ⟨_, rfl, p_okh os⟩)
        · have h := p_ifF b39 h
          refine g_aload_n (i := 0) (j := 1) (dk_Mo_turn 47 rfl) rfl rfl ?_
          refine g_bipush (dk_Mo_turn 48 rfl) (by decide +kernel) (by decide) ?_
          obtain ⟨r55, s51, q52, h⟩ := p_bdE h
          have t53 := tF_Mo_refused K l v0 (-3) s34 _ q52
          refine g_callV (a := v0) (ci := 11) (q0 := (RX11, TX11, 90)) (As := [p_i (-3)]) (rest := []) [p_i r55] mt_Mo_refused rfl rfl tw_7_67 ts_43 tw_7_65 ⟨Nat.le_of_ble_eq_true rfl, Nat.le_of_ble_eq_true rfl⟩ rfl (Nat.le_of_ble_eq_true rfl) (dk_Mo_turn 49 rfl) rfl (c1.up (hs5.trans (hs11.trans (hs18.trans (hs26.trans (hs31.trans hs37)))))) rfl t53 ?_
          have hs54 : p_x s34 s51 := t53.1
          show p_Go K l m_Mo_turn 89 [(3, p_i r12), (0, p_r v0), (1, p_i v1), (2, p_i v2)] [p_i r55] s51 _
          cases h
          exact g_ret rfl rfl (dk_Mo_turn 50 rfl) (fun os => ⟨_, rfl, p_okh os⟩)
      · have h := p_ifF b33 h
        refine g_sub [(0, p_r v0), (3, p_i r12)] [1, 0] rfl ?_
        exact tB_Mo_turn_53 K l v0 r12 s28 _ h
  · have h := p_ifF b7 h
    refine g_aload_n (i := 0) (j := 0) (dk_Mo_turn 4 rfl) rfl rfl ?_
    refine g_iconst (dk_Mo_turn 5 rfl) (by decide) ?_
    obtain ⟨r60, s56, q57, h⟩ := p_bdE h
    have t58 := tF_Mo_refused K l v0 (-1) s2 _ q57
    refine g_callV (a := v0) (ci := 11) (q0 := (RX11, TX11, 90)) (As := [p_i (-1)]) (rest := []) [p_i r60] mt_Mo_refused rfl rfl tw_7_67 ts_43 tw_7_65 ⟨Nat.le_of_ble_eq_true rfl, Nat.le_of_ble_eq_true rfl⟩ rfl (Nat.le_of_ble_eq_true rfl) (dk_Mo_turn 6 rfl) rfl (c1.up hs5) rfl t58 ?_
    have hs59 : p_x s2 s56 := t58.1
    show p_Go K l m_Mo_turn 13 [(0, p_r v0), (1, p_i v1), (2, p_i v2)] [p_i r60] s56 _
    cases h
    exact g_ret rfl rfl (dk_Mo_turn 7 rfl) (fun os => ⟨_, rfl, p_okh os⟩)
def m_Mo_release : p_Me := (⟨"SortWorksModel", "release", "(II)I"⟩, prog_13_method_50_code, 4, (some .int), 2, 46)
theorem mt_Mo_release : p_Mt m_Mo_release 2 := ⟨p_mem (p_tb8 (List.mem_of_getElem? (i := 9) rfl)) rfl, tw_1_12, by decide +kernel, by decide +kernel, by decide +kernel⟩
def dt_Mo_release : List (Nat × Instr × Nat) := [(0, .aload_n 0, 1), (1, .iload_n 1, 1), (2, .invokevirtual 267, 3), (5, .ifCond .eq 9, 3), (8, .aload_n 0, 1), (9, .iconst (-1), 1), (10, .invokevirtual 240, 3), (13, .ireturn, 1), (14, .iload_n 2, 1), (15, .i2l, 1), (16, .lconst 0, 1), (17, .ldc2_w 364, 3), (20, .invokestatic 230, 3), (23, .ifCond .eq 10, 3), (26, .aload_n 0, 1), (27, .bipush (-2), 2), (29, .invokevirtual 240, 3), (32, .ireturn, 1), (33, .aload_n 0, 1), (34, .getfield 16, 3), (37, .aload_n 0, 1), (38, .iload_n 1, 1), (39, .invokevirtual 257, 3), (42, .iaload, 1), (43, .bipush 8, 2), (45, .if_icmp .eq 9, 3), (48, .aload_n 0, 1), (49, .iconst 2, 1), (50, .invokevirtual 270, 3), (53, .ireturn, 1), (54, .aload_n 0, 1), (55, .getfield 41, 3), (58, .aload_n 0, 1), (59, .iload_n 1, 1), (60, .invokevirtual 257, 3), (63, .iaload, 1), (64, .istore_n 3, 1), (65, .aload_n 0, 1), (66, .getfield 41, 3), (69, .aload_n 0, 1), (70, .iload_n 1, 1), (71, .invokevirtual 257, 3), (74, .iload_n 2, 1), (75, .iastore, 1), (76, .aload_n 0, 1), (77, .iload_n 3, 1), (78, .invokevirtual 244, 3), (81, .ireturn, 1)]
theorem dk_Mo_release (i : Nat) {pc : Nat} {ins : Instr} {len : Nat} (h : dt_Mo_release[i]? = some (pc, ins, len)) : decode m_Mo_release.2.1 pc = .ok (ins, len) := p_dk (b := m_Mo_release.2.1) (t := dt_Mo_release) (by decide +kernel) i h
def F_Mo_release (v0 : Nat) (v1 : Int) (v2 : Int) (s0 : p_Hp) : Option (Int × p_Hp) :=
  p_gd (p_is s0 v0 11) <|
  p_bd (F_Mo_noGear v0 v1 s0) fun r6 s2 =>
  if r6 = 0 then
    p_bd (F_Mo_beyond v2 0 20 s2) fun r12 s8 =>
    if r12 = 0 then
      p_bd (F_Mo_g v0 v1 s8) fun r18 s14 =>
      p_gd (p_is s14 (p_R s8 v0 5) 100) <|
      p_gd ((0 : Int) ≤ r18 ∧ r18 < (p_L s14 (p_R s8 v0 5) : Int)) <|
      if (p_Z s14 (p_R s8 v0 5) (r18 : Int).toNat) = 8 then
        p_bd (F_Mo_g v0 v1 s14) fun r26 s22 =>
        p_gd (p_is s22 (p_R s14 v0 13) 100) <|
        p_gd ((0 : Int) ≤ r26 ∧ r26 < (p_L s22 (p_R s14 v0 13) : Int)) <|
        p_bi ((p_Z s22 (p_R s14 v0 13) (r26 : Int).toNat)) fun x29 =>
        p_bd (F_Mo_g v0 v1 s22) fun r34 s30 =>
        p_gd (p_is s30 (p_R s22 v0 13) 100) <|
        p_gd ((0 : Int) ≤ r34 ∧ r34 < (p_L s30 (p_R s22 v0 13) : Int)) <|
        p_bi (p_wZ s30 (p_R s22 v0 13) (r34 : Int).toNat v2) fun s37 =>
        p_bd (F_Mo_well v0 x29 s37) fun r43 s39 =>
        some (r43, s39)
      else
        p_bd (F_Mo_faulted v0 2 s14) fun r48 s44 =>
        some (r48, s44)
    else
      p_bd (F_Mo_refused v0 (-2) s8) fun r53 s49 =>
      some (r53, s49)
  else
    p_bd (F_Mo_refused v0 (-1) s2) fun r58 s54 =>
    some (r58, s54)
set_option maxRecDepth 100000 in
set_option maxHeartbeats 4000000 in
theorem tF_Mo_release (K : p_K) (l : Launch) (v0 : Nat) (v1 : Int) (v2 : Int) (s0 : p_Hp) (r : (Int × p_Hp)) (h : F_Mo_release v0 v1 v2 s0 = some r) : p_Ct K l m_Mo_release [p_r v0, p_i v1, p_i v2] s0 (some (p_i r.1), r.2) := by
  refine p_Ct.of (by decide +kernel) (Nat.le_of_ble_eq_true rfl) ?_
  unfold F_Mo_release at h
  show p_Go K l m_Mo_release 0 [(0, p_r v0), (1, p_i v1), (2, p_i v2)] [] s0 _
  refine g_aload_n (i := 0) (j := 0) (dk_Mo_release 0 rfl) rfl rfl ?_
  refine g_iload_n (i := 1) (j := 1) (dk_Mo_release 1 rfl) rfl rfl ?_
  obtain ⟨c1, h⟩ := p_gdE h
  obtain ⟨r6, s2, q3, h⟩ := p_bdE h
  have t4 := tF_Mo_noGear K l v0 v1 s0 _ q3
  refine g_callV (a := v0) (ci := 11) (q0 := (RX11, TX11, 90)) (As := [p_i v1]) (rest := []) [p_i r6] mt_Mo_noGear rfl rfl tw_7_106 ts_48 tw_7_104 ⟨Nat.le_of_ble_eq_true rfl, Nat.le_of_ble_eq_true rfl⟩ rfl (Nat.le_of_ble_eq_true rfl) (dk_Mo_release 2 rfl) rfl c1 rfl t4 ?_
  have hs5 : p_x s0 s2 := t4.1
  show p_Go K l m_Mo_release 5 [(0, p_r v0), (1, p_i v1), (2, p_i v2)] [p_i r6] s2 _
  refine g_if_eq 14 (dk_Mo_release 3 rfl) (by decide) (fun b7 => ?_) (fun b7 => ?_)
  · have h := p_ifT b7 h
    refine g_iload_n (i := 2) (j := 2) (dk_Mo_release 8 rfl) rfl rfl ?_
    refine g_i2l (dk_Mo_release 9 rfl) ?_
    refine g_lconst (x := 0) (dk_Mo_release 10 rfl) rfl (by decide) ?_
    refine g_ldc2_w (x := 20) (dk_Mo_release 11 rfl) tw_8_10 (by decide) (by decide) ?_
    obtain ⟨r12, s8, q9, h⟩ := p_bdE h
    have t10 := tF_Mo_beyond K l v2 0 20 s2 _ q9
    refine g_callS (av := [p_j v2, p_j 0, p_j 20]) (rest := []) [p_i r12] mt_Mo_beyond tw_7_63 tw_7_62 ⟨Nat.le_of_ble_eq_true rfl, Nat.le_of_ble_eq_true rfl⟩ rfl (Nat.le_of_ble_eq_true rfl) (dk_Mo_release 12 rfl) rfl rfl t10 ?_
    have hs11 : p_x s2 s8 := t10.1
    show p_Go K l m_Mo_release 23 [(0, p_r v0), (1, p_i v1), (2, p_i v2)] [p_i r12] s8 _
    refine g_if_eq 33 (dk_Mo_release 13 rfl) (by decide) (fun b13 => ?_) (fun b13 => ?_)
    · have h := p_ifT b13 h
      refine g_aload_n (i := 0) (j := 0) (dk_Mo_release 18 rfl) rfl rfl ?_
      refine g_getR fl_Mo_16 (Or.inr ⟨_, rfl⟩) (dk_Mo_release 19 rfl) (c1.up (hs5.trans hs11)) ?_
      refine g_aload_n (i := 0) (j := 0) (dk_Mo_release 20 rfl) rfl rfl ?_
      refine g_iload_n (i := 1) (j := 1) (dk_Mo_release 21 rfl) rfl rfl ?_
      obtain ⟨r18, s14, q15, h⟩ := p_bdE h
      have t16 := tF_Mo_g K l v0 v1 s8 _ q15
      refine g_callV (a := v0) (ci := 11) (q0 := (RX11, TX11, 90)) (As := [p_i v1]) (rest := [p_r (p_R s8 v0 5)]) [p_i r18, p_r (p_R s8 v0 5)] mt_Mo_g rfl rfl tw_7_84 ts_45 tw_7_82 ⟨Nat.le_of_ble_eq_true rfl, Nat.le_of_ble_eq_true rfl⟩ rfl (Nat.le_of_ble_eq_true rfl) (dk_Mo_release 22 rfl) rfl (c1.up (hs5.trans hs11)) rfl t16 ?_
      have hs17 : p_x s8 s14 := t16.1
      show p_Go K l m_Mo_release 42 [(0, p_r v0), (1, p_i v1), (2, p_i v2)] [p_i r18, p_r (p_R s8 v0 5)] s14 _
      obtain ⟨c19, h⟩ := p_gdE h
      obtain ⟨c20, h⟩ := p_gdE h
      refine g_iaload (dk_Mo_release 23 rfl) c19 c20.1 c20.2 ?_
      refine g_bipush (dk_Mo_release 24 rfl) (by decide +kernel) (by decide) ?_
      refine g_icmp_eq 54 (dk_Mo_release 25 rfl) (by decide) (fun b21 => ?_) (fun b21 => ?_)
      · have h := p_ifT b21 h
        refine g_aload_n (i := 0) (j := 0) (dk_Mo_release 30 rfl) rfl rfl ?_
        refine g_getR fl_Mo_41 (Or.inr ⟨_, rfl⟩) (dk_Mo_release 31 rfl) (c1.up (hs5.trans (hs11.trans hs17))) ?_
        refine g_aload_n (i := 0) (j := 0) (dk_Mo_release 32 rfl) rfl rfl ?_
        refine g_iload_n (i := 1) (j := 1) (dk_Mo_release 33 rfl) rfl rfl ?_
        obtain ⟨r26, s22, q23, h⟩ := p_bdE h
        have t24 := tF_Mo_g K l v0 v1 s14 _ q23
        refine g_callV (a := v0) (ci := 11) (q0 := (RX11, TX11, 90)) (As := [p_i v1]) (rest := [p_r (p_R s14 v0 13)]) [p_i r26, p_r (p_R s14 v0 13)] mt_Mo_g rfl rfl tw_7_84 ts_45 tw_7_82 ⟨Nat.le_of_ble_eq_true rfl, Nat.le_of_ble_eq_true rfl⟩ rfl (Nat.le_of_ble_eq_true rfl) (dk_Mo_release 34 rfl) rfl (c1.up (hs5.trans (hs11.trans hs17))) rfl t24 ?_
        have hs25 : p_x s14 s22 := t24.1
        show p_Go K l m_Mo_release 63 [(0, p_r v0), (1, p_i v1), (2, p_i v2)] [p_i r26, p_r (p_R s14 v0 13)] s22 _
        obtain ⟨c27, h⟩ := p_gdE h
        obtain ⟨c28, h⟩ := p_gdE h
        refine g_iaload (dk_Mo_release 35 rfl) c27 c28.1 c28.2 ?_
        refine g_istore_n (i := 3) [(3, p_i (p_Z s22 (p_R s14 v0 13) (r26 : Int).toNat)), (0, p_r v0), (1, p_i v1), (2, p_i v2)] (dk_Mo_release 36 rfl) rfl (by decide) rfl ?_
        refine p_ltG (P := fun q => p_Go K l m_Mo_release 65 [(3, p_i q), (0, p_r v0), (1, p_i v1), (2, p_i v2)] [] s22 _) ?_ h
        intro x29 h
        refine g_aload_n (i := 0) (j := 1) (dk_Mo_release 37 rfl) rfl rfl ?_
        refine g_getR fl_Mo_41 (Or.inr ⟨_, rfl⟩) (dk_Mo_release 38 rfl) (c1.up (hs5.trans (hs11.trans (hs17.trans hs25)))) ?_
        refine g_aload_n (i := 0) (j := 1) (dk_Mo_release 39 rfl) rfl rfl ?_
        refine g_iload_n (i := 1) (j := 2) (dk_Mo_release 40 rfl) rfl rfl ?_
        obtain ⟨r34, s30, q31, h⟩ := p_bdE h
        have t32 := tF_Mo_g K l v0 v1 s22 _ q31
        refine g_callV (a := v0) (ci := 11) (q0 := (RX11, TX11, 90)) (As := [p_i v1]) (rest := [p_r (p_R s22 v0 13)]) [p_i r34, p_r (p_R s22 v0 13)] mt_Mo_g rfl rfl tw_7_84 ts_45 tw_7_82 ⟨Nat.le_of_ble_eq_true rfl, Nat.le_of_ble_eq_true rfl⟩ rfl (Nat.le_of_ble_eq_true rfl) (dk_Mo_release 41 rfl) rfl (c1.up (hs5.trans (hs11.trans (hs17.trans hs25)))) rfl t32 ?_
        have hs33 : p_x s22 s30 := t32.1
        show p_Go K l m_Mo_release 74 [(3, p_i x29), (0, p_r v0), (1, p_i v1), (2, p_i v2)] [p_i r34, p_r (p_R s22 v0 13)] s30 _
        refine g_iload_n (i := 2) (j := 3) (dk_Mo_release 42 rfl) rfl rfl ?_
        obtain ⟨c35, h⟩ := p_gdE h
        obtain ⟨c36, h⟩ := p_gdE h
        refine g_iastore (dk_Mo_release 43 rfl) c35 c36.1 c36.2 ?_
        refine p_ltS (P := fun q => p_Go K l m_Mo_release 76 [(3, p_i x29), (0, p_r v0), (1, p_i v1), (2, p_i v2)] [] q _) (p_xZ _ _ _ _) ?_ h
        intro s37 hs38 h
        refine g_aload_n (i := 0) (j := 1) (dk_Mo_release 44 rfl) rfl rfl ?_
        refine g_iload_n (i := 3) (j := 0) (dk_Mo_release 45 rfl) rfl rfl ?_
        obtain ⟨r43, s39, q40, h⟩ := p_bdE h
        have t41 := tF_Mo_well K l v0 x29 s37 _ q40
        refine g_callV (a := v0) (ci := 11) (q0 := (RX11, TX11, 90)) (As := [p_i x29]) (rest := []) [p_i r43] mt_Mo_well rfl rfl tw_7_71 ts_44 tw_7_69 ⟨Nat.le_of_ble_eq_true rfl, Nat.le_of_ble_eq_true rfl⟩ rfl (Nat.le_of_ble_eq_true rfl) (dk_Mo_release 46 rfl) rfl (c1.up (hs5.trans (hs11.trans (hs17.trans (hs25.trans (hs33.trans hs38)))))) rfl t41 ?_
        have hs42 : p_x s37 s39 := t41.1
        show p_Go K l m_Mo_release 81 [(3, p_i x29), (0, p_r v0), (1, p_i v1), (2, p_i v2)] [p_i r43] s39 _
        cases h
        exact g_ret rfl rfl (dk_Mo_release 47 rfl) (fun os => ⟨_, rfl, p_okh os⟩)
      · have h := p_ifF b21 h
        refine g_aload_n (i := 0) (j := 0) (dk_Mo_release 26 rfl) rfl rfl ?_
        refine g_iconst (dk_Mo_release 27 rfl) (by decide) ?_
        obtain ⟨r48, s44, q45, h⟩ := p_bdE h
        have t46 := tF_Mo_faulted K l v0 2 s14 _ q45
        refine g_callV (a := v0) (ci := 11) (q0 := (RX11, TX11, 90)) (As := [p_i 2]) (rest := []) [p_i r48] mt_Mo_faulted rfl rfl tw_7_110 ts_49 tw_7_108 ⟨Nat.le_of_ble_eq_true rfl, Nat.le_of_ble_eq_true rfl⟩ rfl (Nat.le_of_ble_eq_true rfl) (dk_Mo_release 28 rfl) rfl (c1.up (hs5.trans (hs11.trans hs17))) rfl t46 ?_
        have hs47 : p_x s14 s44 := t46.1
        show p_Go K l m_Mo_release 53 [(0, p_r v0), (1, p_i v1), (2, p_i v2)] [p_i r48] s44 _
        cases h
        exact g_ret rfl rfl (dk_Mo_release 29 rfl) (fun os => ⟨_, rfl, p_okh os⟩)
    · have h := p_ifF b13 h
      refine g_aload_n (i := 0) (j := 0) (dk_Mo_release 14 rfl) rfl rfl ?_
      refine g_bipush (dk_Mo_release 15 rfl) (by decide +kernel) (by decide) ?_
      obtain ⟨r53, s49, q50, h⟩ := p_bdE h
      have t51 := tF_Mo_refused K l v0 (-2) s8 _ q50
      refine g_callV (a := v0) (ci := 11) (q0 := (RX11, TX11, 90)) (As := [p_i (-2)]) (rest := []) [p_i r53] mt_Mo_refused rfl rfl tw_7_67 ts_43 tw_7_65 ⟨Nat.le_of_ble_eq_true rfl, Nat.le_of_ble_eq_true rfl⟩ rfl (Nat.le_of_ble_eq_true rfl) (dk_Mo_release 16 rfl) rfl (c1.up (hs5.trans hs11)) rfl t51 ?_
      have hs52 : p_x s8 s49 := t51.1
      show p_Go K l m_Mo_release 32 [(0, p_r v0), (1, p_i v1), (2, p_i v2)] [p_i r53] s49 _
      cases h
      exact g_ret rfl rfl (dk_Mo_release 17 rfl) (fun os => ⟨_, rfl, p_okh os⟩)
  · have h := p_ifF b7 h
    refine g_aload_n (i := 0) (j := 0) (dk_Mo_release 4 rfl) rfl rfl ?_
    refine g_iconst (dk_Mo_release 5 rfl) (by decide) ?_
    obtain ⟨r58, s54, q55, h⟩ := p_bdE h
    have t56 := tF_Mo_refused K l v0 (-1) s2 _ q55
    refine g_callV (a := v0) (ci := 11) (q0 := (RX11, TX11, 90)) (As := [p_i (-1)]) (rest := []) [p_i r58] mt_Mo_refused rfl rfl tw_7_67 ts_43 tw_7_65 ⟨Nat.le_of_ble_eq_true rfl, Nat.le_of_ble_eq_true rfl⟩ rfl (Nat.le_of_ble_eq_true rfl) (dk_Mo_release 6 rfl) rfl (c1.up hs5) rfl t56 ?_
    have hs57 : p_x s2 s54 := t56.1
    show p_Go K l m_Mo_release 13 [(0, p_r v0), (1, p_i v1), (2, p_i v2)] [p_i r58] s54 _
    cases h
    exact g_ret rfl rfl (dk_Mo_release 7 rfl) (fun os => ⟨_, rfl, p_okh os⟩)
def m_Mo_isJammed : p_Me := (⟨"SortWorksModel", "isJammed", "(I)Z"⟩, prog_13_method_51_code, 2, (some .boolean), 1, 20)
theorem mt_Mo_isJammed : p_Mt m_Mo_isJammed 1 := ⟨p_mem (p_tb8 (List.mem_of_getElem? (i := 18) rfl)) rfl, tw_1_12, by decide +kernel, by decide +kernel, by decide +kernel⟩
def dt_Mo_isJammed : List (Nat × Instr × Nat) := [(0, .aload_n 0, 1), (1, .getfield 16, 3), (4, .iload_n 1, 1), (5, .iaload, 1), (6, .invokestatic 252, 3), (9, .ifCond .eq 18, 3), (12, .aload_n 0, 1), (13, .getfield 51, 3), (16, .iload_n 1, 1), (17, .iaload, 1), (18, .bipush 8, 2), (20, .if_icmp .lt 7, 3), (23, .iconst 1, 1), (24, .goto 4, 3), (27, .iconst 0, 1), (28, .ireturn, 1)]
theorem dk_Mo_isJammed (i : Nat) {pc : Nat} {ins : Instr} {len : Nat} (h : dt_Mo_isJammed[i]? = some (pc, ins, len)) : decode m_Mo_isJammed.2.1 pc = .ok (ins, len) := p_dk (b := m_Mo_isJammed.2.1) (t := dt_Mo_isJammed) (by decide +kernel) i h
def F_Mo_isJammed (v0 : Nat) (v1 : Int) (s0 : p_Hp) : Option (Int × p_Hp) :=
  p_gd (p_is s0 v0 11) <|
  p_gd (p_is s0 (p_R s0 v0 5) 100) <|
  p_gd ((0 : Int) ≤ v1 ∧ v1 < (p_L s0 (p_R s0 v0 5) : Int)) <|
  p_bd (F_Mo_isTaker (p_Z s0 (p_R s0 v0 5) (v1 : Int).toNat) s0) fun r8 s4 =>
  if r8 = 0 then
    some (0, s4)
  else
    p_gd (p_is s4 (p_R s4 v0 16) 100) <|
    p_gd ((0 : Int) ≤ v1 ∧ v1 < (p_L s4 (p_R s4 v0 16) : Int)) <|
    if (p_Z s4 (p_R s4 v0 16) (v1 : Int).toNat) < 8 then
      some (0, s4)
    else
      some (1, s4)
set_option maxRecDepth 100000 in
set_option maxHeartbeats 4000000 in
theorem tF_Mo_isJammed (K : p_K) (l : Launch) (v0 : Nat) (v1 : Int) (s0 : p_Hp) (r : (Int × p_Hp)) (h : F_Mo_isJammed v0 v1 s0 = some r) : p_Ct K l m_Mo_isJammed [p_r v0, p_i v1] s0 (some (p_i r.1), r.2) := by
  refine p_Ct.of (by decide +kernel) (Nat.le_of_ble_eq_true rfl) ?_
  unfold F_Mo_isJammed at h
  show p_Go K l m_Mo_isJammed 0 [(0, p_r v0), (1, p_i v1)] [] s0 _
  refine g_aload_n (i := 0) (j := 0) (dk_Mo_isJammed 0 rfl) rfl rfl ?_
  obtain ⟨c1, h⟩ := p_gdE h
  refine g_getR fl_Mo_16 (Or.inr ⟨_, rfl⟩) (dk_Mo_isJammed 1 rfl) c1 ?_
  refine g_iload_n (i := 1) (j := 1) (dk_Mo_isJammed 2 rfl) rfl rfl ?_
  obtain ⟨c2, h⟩ := p_gdE h
  obtain ⟨c3, h⟩ := p_gdE h
  refine g_iaload (dk_Mo_isJammed 3 rfl) c2 c3.1 c3.2 ?_
  obtain ⟨r8, s4, q5, h⟩ := p_bdE h
  have t6 := tF_Mo_isTaker K l (p_Z s0 (p_R s0 v0 5) (v1 : Int).toNat) s0 _ q5
  refine g_callS (av := [p_i (p_Z s0 (p_R s0 v0 5) (v1 : Int).toNat)]) (rest := []) [p_i r8] mt_Mo_isTaker tw_7_79 tw_7_78 ⟨Nat.le_of_ble_eq_true rfl, Nat.le_of_ble_eq_true rfl⟩ rfl (Nat.le_of_ble_eq_true rfl) (dk_Mo_isJammed 4 rfl) rfl rfl t6 ?_
  have hs7 : p_x s0 s4 := t6.1
  show p_Go K l m_Mo_isJammed 9 [(0, p_r v0), (1, p_i v1)] [p_i r8] s4 _
  refine g_if_eq 27 (dk_Mo_isJammed 5 rfl) (by decide) (fun b9 => ?_) (fun b9 => ?_)
  · have h := p_ifT b9 h
    refine g_iconst (dk_Mo_isJammed 14 rfl) (by decide) ?_
    cases h
    exact g_ret rfl rfl (dk_Mo_isJammed 15 rfl) (fun _ => ⟨_, rfl, Or.inl rfl⟩)
  · have h := p_ifF b9 h
    refine g_aload_n (i := 0) (j := 0) (dk_Mo_isJammed 6 rfl) rfl rfl ?_
    refine g_getR fl_Mo_51 (Or.inr ⟨_, rfl⟩) (dk_Mo_isJammed 7 rfl) (c1.up hs7) ?_
    refine g_iload_n (i := 1) (j := 1) (dk_Mo_isJammed 8 rfl) rfl rfl ?_
    obtain ⟨c10, h⟩ := p_gdE h
    obtain ⟨c11, h⟩ := p_gdE h
    refine g_iaload (dk_Mo_isJammed 9 rfl) c10 c11.1 c11.2 ?_
    refine g_bipush (dk_Mo_isJammed 10 rfl) (by decide +kernel) (by decide) ?_
    refine g_icmp_lt 27 (dk_Mo_isJammed 11 rfl) (by decide) (fun b12 => ?_) (fun b12 => ?_)
    · have h := p_ifT b12 h
      refine g_iconst (dk_Mo_isJammed 14 rfl) (by decide) ?_
      cases h
      exact g_ret rfl rfl (dk_Mo_isJammed 15 rfl) (fun _ => ⟨_, rfl, Or.inl rfl⟩)
    · have h := p_ifF b12 h
      refine g_iconst (dk_Mo_isJammed 12 rfl) (by decide) ?_
      refine g_goto 28 (dk_Mo_isJammed 13 rfl) (by decide) ?_
      cases h
      exact g_ret rfl rfl (dk_Mo_isJammed 15 rfl) (fun _ => ⟨_, rfl, Or.inr rfl⟩)
def m_Mo_leaves : p_Me := (⟨"SortWorksModel", "leaves", "(I)V"⟩, prog_13_method_39_code, 3, none, 1, 21)
theorem mt_Mo_leaves : p_Mt m_Mo_leaves 1 := ⟨p_mem (p_tb8 (List.mem_of_getElem? (i := 22) rfl)) rfl, tw_1_12, by decide +kernel, by decide +kernel, by decide +kernel⟩
def dt_Mo_leaves : List (Nat × Instr × Nat) := [(0, .aload_n 0, 1), (1, .aload_n 0, 1), (2, .getfield 78, 3), (5, .iload_n 1, 1), (6, .iaload, 1), (7, .invokevirtual 257, 3), (10, .istore_n 2, 1), (11, .aload_n 0, 1), (12, .getfield 69, 3), (15, .bipush 8, 2), (17, .iload_n 2, 1), (18, .imul, 1), (19, .aload_n 0, 1), (20, .getfield 81, 3), (23, .iload_n 1, 1), (24, .iaload, 1), (25, .iadd, 1), (26, .iconst 0, 1), (27, .iastore, 1), (28, .aload_n 0, 1), (29, .getfield 60, 3), (32, .iload_n 2, 1), (33, .dup2, 1), (34, .iaload, 1), (35, .iconst 1, 1), (36, .iadd, 1), (37, .iastore, 1), (38, .return_, 1)]
theorem dk_Mo_leaves (i : Nat) {pc : Nat} {ins : Instr} {len : Nat} (h : dt_Mo_leaves[i]? = some (pc, ins, len)) : decode m_Mo_leaves.2.1 pc = .ok (ins, len) := p_dk (b := m_Mo_leaves.2.1) (t := dt_Mo_leaves) (by decide +kernel) i h
def F_Mo_leaves (v0 : Nat) (v1 : Int) (s0 : p_Hp) : Option p_Hp :=
  p_gd (p_is s0 v0 11) <|
  p_gd (p_is s0 (p_R s0 v0 26) 100) <|
  p_gd ((0 : Int) ≤ v1 ∧ v1 < (p_L s0 (p_R s0 v0 26) : Int)) <|
  p_bd (F_Mo_g v0 (p_Z s0 (p_R s0 v0 26) (v1 : Int).toNat) s0) fun r8 s4 =>
  p_gd (p_is s4 (p_R s4 v0 27) 100) <|
  p_gd ((0 : Int) ≤ v1 ∧ v1 < (p_L s4 (p_R s4 v0 27) : Int)) <|
  p_gd (p_is s4 (p_R s4 v0 22) 100) <|
  p_gd ((0 : Int) ≤ (p_w ((p_w (8 * r8)) + (p_Z s4 (p_R s4 v0 27) (v1 : Int).toNat))) ∧ (p_w ((p_w (8 * r8)) + (p_Z s4 (p_R s4 v0 27) (v1 : Int).toNat))) < (p_L s4 (p_R s4 v0 22) : Int)) <|
  p_bi (p_wZ s4 (p_R s4 v0 22) ((p_w ((p_w (8 * r8)) + (p_Z s4 (p_R s4 v0 27) (v1 : Int).toNat))) : Int).toNat 0) fun s13 =>
  p_gd (p_is s13 (p_R s13 v0 19) 100) <|
  p_gd ((0 : Int) ≤ r8 ∧ r8 < (p_L s13 (p_R s13 v0 19) : Int)) <|
  p_gd ((0 : Int) ≤ r8 ∧ r8 < (p_L s13 (p_R s13 v0 19) : Int)) <|
  p_bi (p_wZ s13 (p_R s13 v0 19) (r8 : Int).toNat (p_w ((p_Z s13 (p_R s13 v0 19) (r8 : Int).toNat) + 1))) fun s18 =>
  some s18
set_option maxRecDepth 100000 in
set_option maxHeartbeats 4000000 in
theorem tF_Mo_leaves (K : p_K) (l : Launch) (v0 : Nat) (v1 : Int) (s0 : p_Hp) (r : p_Hp) (h : F_Mo_leaves v0 v1 s0 = some r) : p_Ct K l m_Mo_leaves [p_r v0, p_i v1] s0 (none, r) := by
  refine p_Ct.of (by decide +kernel) (Nat.le_of_ble_eq_true rfl) ?_
  unfold F_Mo_leaves at h
  show p_Go K l m_Mo_leaves 0 [(0, p_r v0), (1, p_i v1)] [] s0 _
  refine g_aload_n (i := 0) (j := 0) (dk_Mo_leaves 0 rfl) rfl rfl ?_
  refine g_aload_n (i := 0) (j := 0) (dk_Mo_leaves 1 rfl) rfl rfl ?_
  obtain ⟨c1, h⟩ := p_gdE h
  refine g_getR fl_Mo_78 (Or.inr ⟨_, rfl⟩) (dk_Mo_leaves 2 rfl) c1 ?_
  refine g_iload_n (i := 1) (j := 1) (dk_Mo_leaves 3 rfl) rfl rfl ?_
  obtain ⟨c2, h⟩ := p_gdE h
  obtain ⟨c3, h⟩ := p_gdE h
  refine g_iaload (dk_Mo_leaves 4 rfl) c2 c3.1 c3.2 ?_
  obtain ⟨r8, s4, q5, h⟩ := p_bdE h
  have t6 := tF_Mo_g K l v0 (p_Z s0 (p_R s0 v0 26) (v1 : Int).toNat) s0 _ q5
  refine g_callV (a := v0) (ci := 11) (q0 := (RX11, TX11, 90)) (As := [p_i (p_Z s0 (p_R s0 v0 26) (v1 : Int).toNat)]) (rest := []) [p_i r8] mt_Mo_g rfl rfl tw_7_84 ts_45 tw_7_82 ⟨Nat.le_of_ble_eq_true rfl, Nat.le_of_ble_eq_true rfl⟩ rfl (Nat.le_of_ble_eq_true rfl) (dk_Mo_leaves 5 rfl) rfl c1 rfl t6 ?_
  have hs7 : p_x s0 s4 := t6.1
  show p_Go K l m_Mo_leaves 10 [(0, p_r v0), (1, p_i v1)] [p_i r8] s4 _
  refine g_istore_n (i := 2) [(2, p_i r8), (0, p_r v0), (1, p_i v1)] (dk_Mo_leaves 6 rfl) rfl (by decide) rfl ?_
  refine g_aload_n (i := 0) (j := 1) (dk_Mo_leaves 7 rfl) rfl rfl ?_
  refine g_getR fl_Mo_69 (Or.inr ⟨_, rfl⟩) (dk_Mo_leaves 8 rfl) (c1.up hs7) ?_
  refine g_bipush (dk_Mo_leaves 9 rfl) (by decide +kernel) (by decide) ?_
  refine g_iload_n (i := 2) (j := 0) (dk_Mo_leaves 10 rfl) rfl rfl ?_
  refine g_imul (dk_Mo_leaves 11 rfl) ?_
  refine g_aload_n (i := 0) (j := 1) (dk_Mo_leaves 12 rfl) rfl rfl ?_
  refine g_getR fl_Mo_81 (Or.inr ⟨_, rfl⟩) (dk_Mo_leaves 13 rfl) (c1.up hs7) ?_
  refine g_iload_n (i := 1) (j := 2) (dk_Mo_leaves 14 rfl) rfl rfl ?_
  obtain ⟨c9, h⟩ := p_gdE h
  obtain ⟨c10, h⟩ := p_gdE h
  refine g_iaload (dk_Mo_leaves 15 rfl) c9 c10.1 c10.2 ?_
  refine g_iadd (dk_Mo_leaves 16 rfl) ?_
  refine g_iconst (dk_Mo_leaves 17 rfl) (by decide) ?_
  obtain ⟨c11, h⟩ := p_gdE h
  obtain ⟨c12, h⟩ := p_gdE h
  refine g_iastore (dk_Mo_leaves 18 rfl) c11 c12.1 c12.2 ?_
  refine p_ltS (P := fun q => p_Go K l m_Mo_leaves 28 [(2, p_i r8), (0, p_r v0), (1, p_i v1)] [] q _) (p_xZ _ _ _ _) ?_ h
  intro s13 hs14 h
  refine g_aload_n (i := 0) (j := 1) (dk_Mo_leaves 19 rfl) rfl rfl ?_
  refine g_getR fl_Mo_60 (Or.inr ⟨_, rfl⟩) (dk_Mo_leaves 20 rfl) (c1.up (hs7.trans hs14)) ?_
  refine g_iload_n (i := 2) (j := 0) (dk_Mo_leaves 21 rfl) rfl rfl ?_
  refine g_dup2 (dk_Mo_leaves 22 rfl) rfl rfl ?_
  obtain ⟨c15, h⟩ := p_gdE h
  obtain ⟨c16, h⟩ := p_gdE h
  refine g_iaload (dk_Mo_leaves 23 rfl) c15 c16.1 c16.2 ?_
  refine g_iconst (dk_Mo_leaves 24 rfl) (by decide) ?_
  refine g_iadd (dk_Mo_leaves 25 rfl) ?_
  obtain ⟨c17, h⟩ := p_gdE h
  refine g_iastore (dk_Mo_leaves 26 rfl) c15 c17.1 c17.2 ?_
  refine p_ltS (P := fun q => p_Go K l m_Mo_leaves 38 [(2, p_i r8), (0, p_r v0), (1, p_i v1)] [] q _) (p_xZ _ _ _ _) ?_ h
  intro s18 hs19 h
  cases h
  exact g_ret rfl rfl (dk_Mo_leaves 27 rfl) (fun _ => rfl)
def m_Mo_clear : p_Me := (⟨"SortWorksModel", "clear", "(I)I"⟩, prog_13_method_52_code, 5, (some .int), 2, 46)
theorem mt_Mo_clear : p_Mt m_Mo_clear 1 := ⟨p_mem (p_tb8 (List.mem_of_getElem? (i := 14) rfl)) rfl, tw_1_12, by decide +kernel, by decide +kernel, by decide +kernel⟩
def dt_Mo_clear : List (Nat × Instr × Nat) := [(0, .aload_n 0, 1), (1, .iload_n 1, 1), (2, .invokevirtual 267, 3), (5, .ifCond .eq 9, 3), (8, .aload_n 0, 1), (9, .iconst (-1), 1), (10, .invokevirtual 240, 3), (13, .ireturn, 1), (14, .aload_n 0, 1), (15, .iload_n 1, 1), (16, .invokevirtual 257, 3), (19, .istore_n 2, 1), (20, .aload_n 0, 1), (21, .getfield 16, 3), (24, .iload_n 2, 1), (25, .iaload, 1), (26, .invokestatic 252, 3), (29, .ifCond .ne 9, 3), (32, .aload_n 0, 1), (33, .iconst 2, 1), (34, .invokevirtual 270, 3), (37, .ireturn, 1), (38, .aload_n 0, 1), (39, .getfield 69, 3), (42, .bipush 8, 2), (44, .iload_n 2, 1), (45, .imul, 1), (46, .aload_n 0, 1), (47, .getfield 19, 3), (50, .iload_n 2, 1), (51, .iaload, 1), (52, .iadd, 1), (53, .iconst 1, 1), (54, .isub, 1), (55, .iaload, 1), (56, .istore_n 3, 1), (57, .aload_n 0, 1), (58, .iload_n 2, 1), (59, .invokevirtual 366, 3), (62, .ifCond .eq 7, 3), (65, .iload_n 3, 1), (66, .ifCond .ne 10, 3), (69, .aload_n 0, 1), (70, .bipush (-3), 2), (72, .invokevirtual 240, 3), (75, .ireturn, 1), (76, .iconst 0, 1), (77, .istore 4, 2), (79, .iload 4, 2), (81, .aload_n 0, 1), (82, .getfield 7, 3), (85, .aload_n 0, 1), (86, .getfield 227, 3), (89, .iaload, 1), (90, .if_icmp .ge 82, 3), (93, .iload 4, 2), (95, .iload_n 1, 1), (96, .if_icmp .eq 70, 3), (99, .aload_n 0, 1), (100, .getfield 16, 3), (103, .aload_n 0, 1), (104, .iload 4, 2), (106, .invokevirtual 257, 3), (109, .iaload, 1), (110, .bipush 8, 2), (112, .if_icmp .ne 54, 3), (115, .aload_n 0, 1), (116, .getfield 69, 3), (119, .bipush 8, 2), (121, .aload_n 0, 1), (122, .iload 4, 2), (124, .invokevirtual 257, 3), (127, .imul, 1), (128, .iaload, 1), (129, .ifCond .ne 37, 3), (132, .aload_n 0, 1), (133, .iload_n 3, 1), (134, .invokevirtual 369, 3), (137, .aload_n 0, 1), (138, .iload_n 3, 1), (139, .iload 4, 2), (141, .invokevirtual 337, 3), (144, .aload_n 0, 1), (145, .getfield 90, 3), (148, .iload_n 3, 1), (149, .bipush (-8), 2), (151, .iastore, 1), (152, .aload_n 0, 1), (153, .getfield 51, 3), (156, .iload_n 2, 1), (157, .iconst 0, 1), (158, .iastore, 1), (159, .aload_n 0, 1), (160, .iload 4, 2), (162, .invokevirtual 244, 3), (165, .ireturn, 1), (166, .iinc 4 1, 3), (169, .goto (-90), 3), (172, .aload_n 0, 1), (173, .bipush (-4), 2), (175, .invokevirtual 240, 3), (178, .ireturn, 1)]
theorem dk_Mo_clear (i : Nat) {pc : Nat} {ins : Instr} {len : Nat} (h : dt_Mo_clear[i]? = some (pc, ins, len)) : decode m_Mo_clear.2.1 pc = .ok (ins, len) := p_dk (b := m_Mo_clear.2.1) (t := dt_Mo_clear) (by decide +kernel) i h
def B_Mo_clear_69  (v0 : Nat) (s0 : p_Hp) : Option (Int × p_Hp) :=
  p_gd (p_is s0 v0 11) <|
  p_bd (F_Mo_refused v0 (-3) s0) fun r6 s2 =>
  some (r6, s2)
def B_Mo_clear_166 (k79 : Nat → Int → Int → Int → Int → p_Hp → Option (Int × p_Hp)) (v0 : Nat) (v1 : Int) (v2 : Int) (v3 : Int) (v4 : Int) (s0 : p_Hp) : Option (Int × p_Hp) :=
  p_bi (p_w (v4 + 1)) fun x1 =>
  k79 v0 v1 v2 v3 x1 s0
def L_Mo_clear_79 (k79 : Nat → Int → Int → Int → Int → p_Hp → Option (Int × p_Hp)) (v0 : Nat) (v1 : Int) (v2 : Int) (v3 : Int) (v4 : Int) (s0 : p_Hp) : Option (Int × p_Hp) :=
  p_gd (p_is s0 v0 11) <|
  p_gd (p_is s0 (p_R s0 v0 3) 100) <|
  p_gd ((0 : Int) ≤ (p_Z s0 v0 0) ∧ (p_Z s0 v0 0) < (p_L s0 (p_R s0 v0 3) : Int)) <|
  if (p_Z s0 (p_R s0 v0 3) ((p_Z s0 v0 0) : Int).toNat) ≤ v4 then
    p_bd (F_Mo_refused v0 (-4) s0) fun r9 s5 =>
    some (r9, s5)
  else
    if v4 = v1 then
      B_Mo_clear_166 k79 v0 v1 v2 v3 v4 s0
    else
      p_bd (F_Mo_g v0 v4 s0) fun r15 s11 =>
      p_gd (p_is s11 (p_R s0 v0 5) 100) <|
      p_gd ((0 : Int) ≤ r15 ∧ r15 < (p_L s11 (p_R s0 v0 5) : Int)) <|
      if (p_Z s11 (p_R s0 v0 5) (r15 : Int).toNat) ≠ 8 then
        B_Mo_clear_166 k79 v0 v1 v2 v3 v4 s11
      else
        p_bd (F_Mo_g v0 v4 s11) fun r23 s19 =>
        p_gd (p_is s19 (p_R s11 v0 22) 100) <|
        p_gd ((0 : Int) ≤ (p_w (8 * r23)) ∧ (p_w (8 * r23)) < (p_L s19 (p_R s11 v0 22) : Int)) <|
        if (p_Z s19 (p_R s11 v0 22) ((p_w (8 * r23)) : Int).toNat) ≠ 0 then
          B_Mo_clear_166 k79 v0 v1 v2 v3 v4 s19
        else
          p_bv (F_Mo_leaves v0 v3 s19) fun s27 =>
          p_bv (F_Mo_enters v0 v3 v4 s27) fun s31 =>
          p_gd (p_is s31 (p_R s31 v0 30) 100) <|
          p_gd ((0 : Int) ≤ v3 ∧ v3 < (p_L s31 (p_R s31 v0 30) : Int)) <|
          p_bi (p_wZ s31 (p_R s31 v0 30) (v3 : Int).toNat (-8)) fun s37 =>
          p_gd (p_is s37 (p_R s37 v0 16) 100) <|
          p_gd ((0 : Int) ≤ v2 ∧ v2 < (p_L s37 (p_R s37 v0 16) : Int)) <|
          p_bi (p_wZ s37 (p_R s37 v0 16) (v2 : Int).toNat 0) fun s41 =>
          p_bd (F_Mo_well v0 v4 s41) fun r47 s43 =>
          some (r47, s43)
def O_Mo_clear_79  : Nat → Nat → Int → Int → Int → Int → p_Hp → Option (Int × p_Hp)
  | 0 => fun _ _ _ _ _ _ => none
  | n + 1 => L_Mo_clear_79 (O_Mo_clear_79 n)
def F_Mo_clear (v0 : Nat) (v1 : Int) (s0 : p_Hp) : Option (Int × p_Hp) :=
  p_gd (p_is s0 v0 11) <|
  p_bd (F_Mo_noGear v0 v1 s0) fun r6 s2 =>
  if r6 = 0 then
    p_bd (F_Mo_g v0 v1 s2) fun r12 s8 =>
    p_gd (p_is s8 (p_R s8 v0 5) 100) <|
    p_gd ((0 : Int) ≤ r12 ∧ r12 < (p_L s8 (p_R s8 v0 5) : Int)) <|
    p_bd (F_Mo_isTaker (p_Z s8 (p_R s8 v0 5) (r12 : Int).toNat) s8) fun r19 s15 =>
    if r19 ≠ 0 then
      p_gd (p_is s15 (p_R s15 v0 6) 100) <|
      p_gd ((0 : Int) ≤ r12 ∧ r12 < (p_L s15 (p_R s15 v0 6) : Int)) <|
      p_gd (p_is s15 (p_R s15 v0 22) 100) <|
      p_gd ((0 : Int) ≤ (p_w ((p_w ((p_w (8 * r12)) + (p_Z s15 (p_R s15 v0 6) (r12 : Int).toNat))) - 1)) ∧ (p_w ((p_w ((p_w (8 * r12)) + (p_Z s15 (p_R s15 v0 6) (r12 : Int).toNat))) - 1)) < (p_L s15 (p_R s15 v0 22) : Int)) <|
      p_bi ((p_Z s15 (p_R s15 v0 22) ((p_w ((p_w ((p_w (8 * r12)) + (p_Z s15 (p_R s15 v0 6) (r12 : Int).toNat))) - 1)) : Int).toNat)) fun x25 =>
      p_bd (F_Mo_isJammed v0 r12 s15) fun r30 s26 =>
      if r30 = 0 then
        B_Mo_clear_69 v0 s26
      else
        if x25 ≠ 0 then
          O_Mo_clear_79 3000 v0 v1 r12 x25 0 s26
        else
          B_Mo_clear_69 v0 s26
    else
      p_bd (F_Mo_faulted v0 2 s15) fun r37 s33 =>
      some (r37, s33)
  else
    p_bd (F_Mo_refused v0 (-1) s2) fun r42 s38 =>
    some (r42, s38)
set_option maxRecDepth 100000 in
set_option maxHeartbeats 4000000 in
theorem tB_Mo_clear_69 (K : p_K) (l : Launch)  (v0 : Nat) (s0 : p_Hp) (r : (Int × p_Hp)) (h : B_Mo_clear_69 v0 s0 = some r) : p_Go K l m_Mo_clear 69 [(0, p_r v0)] [] s0 (some (p_i r.1), r.2) := by
  unfold B_Mo_clear_69 at h
  refine g_aload_n (i := 0) (j := 0) (dk_Mo_clear 42 rfl) rfl rfl ?_
  refine g_bipush (dk_Mo_clear 43 rfl) (by decide +kernel) (by decide) ?_
  obtain ⟨c1, h⟩ := p_gdE h
  obtain ⟨r6, s2, q3, h⟩ := p_bdE h
  have t4 := tF_Mo_refused K l v0 (-3) s0 _ q3
  refine g_callV (a := v0) (ci := 11) (q0 := (RX11, TX11, 90)) (As := [p_i (-3)]) (rest := []) [p_i r6] mt_Mo_refused rfl rfl tw_7_67 ts_43 tw_7_65 ⟨Nat.le_of_ble_eq_true rfl, Nat.le_of_ble_eq_true rfl⟩ rfl (Nat.le_of_ble_eq_true rfl) (dk_Mo_clear 44 rfl) rfl c1 rfl t4 ?_
  have hs5 : p_x s0 s2 := t4.1
  show p_Go K l m_Mo_clear 75 [(0, p_r v0)] [p_i r6] s2 _
  cases h
  exact g_ret rfl rfl (dk_Mo_clear 45 rfl) (fun os => ⟨_, rfl, p_okh os⟩)
set_option maxRecDepth 100000 in
set_option maxHeartbeats 4000000 in
theorem tB_Mo_clear_166 (K : p_K) (l : Launch) (k79 : Nat → Int → Int → Int → Int → p_Hp → Option (Int × p_Hp)) (hk79 : ∀ (v0 : Nat) (v1 : Int) (v2 : Int) (v3 : Int) (v4 : Int)  (s0 : p_Hp) (r : (Int × p_Hp)), k79 v0 v1 v2 v3 v4 s0 = some r → p_Go K l m_Mo_clear 79 [(0, p_r v0), (1, p_i v1), (2, p_i v2), (3, p_i v3), (4, p_i v4)] [] s0 (some (p_i r.1), r.2)) (v0 : Nat) (v1 : Int) (v2 : Int) (v3 : Int) (v4 : Int) (s0 : p_Hp) (r : (Int × p_Hp)) (h : B_Mo_clear_166 k79 v0 v1 v2 v3 v4 s0 = some r) : p_Go K l m_Mo_clear 166 [(0, p_r v0), (1, p_i v1), (2, p_i v2), (3, p_i v3), (4, p_i v4)] [] s0 (some (p_i r.1), r.2) := by
  unfold B_Mo_clear_166 at h
  refine g_iinc (j := 4) [(4, p_i (p_w (v4 + 1))), (0, p_r v0), (1, p_i v1), (2, p_i v2), (3, p_i v3)] (dk_Mo_clear 96 rfl) rfl (by decide) rfl ?_
  refine p_ltG (P := fun q => p_Go K l m_Mo_clear 169 [(4, p_i q), (0, p_r v0), (1, p_i v1), (2, p_i v2), (3, p_i v3)] [] s0 _) ?_ h
  intro x1 h
  refine g_goto 79 (dk_Mo_clear 97 rfl) (by decide) ?_
  refine g_sub [(0, p_r v0), (1, p_i v1), (2, p_i v2), (3, p_i v3), (4, p_i x1)] [1, 2, 3, 4, 0] rfl ?_
  exact hk79 v0 v1 v2 v3 x1 s0 _ h
set_option maxRecDepth 100000 in
set_option maxHeartbeats 4000000 in
theorem tL_Mo_clear_79 (K : p_K) (l : Launch) (k79 : Nat → Int → Int → Int → Int → p_Hp → Option (Int × p_Hp)) (hk79 : ∀ (v0 : Nat) (v1 : Int) (v2 : Int) (v3 : Int) (v4 : Int)  (s0 : p_Hp) (r : (Int × p_Hp)), k79 v0 v1 v2 v3 v4 s0 = some r → p_Go K l m_Mo_clear 79 [(0, p_r v0), (1, p_i v1), (2, p_i v2), (3, p_i v3), (4, p_i v4)] [] s0 (some (p_i r.1), r.2)) (v0 : Nat) (v1 : Int) (v2 : Int) (v3 : Int) (v4 : Int) (s0 : p_Hp) (r : (Int × p_Hp)) (h : L_Mo_clear_79 k79 v0 v1 v2 v3 v4 s0 = some r) : p_Go K l m_Mo_clear 79 [(0, p_r v0), (1, p_i v1), (2, p_i v2), (3, p_i v3), (4, p_i v4)] [] s0 (some (p_i r.1), r.2) := by
  unfold L_Mo_clear_79 at h
  refine g_iload (j := 4) (dk_Mo_clear 48 rfl) rfl ?_
  refine g_aload_n (i := 0) (j := 0) (dk_Mo_clear 49 rfl) rfl rfl ?_
  obtain ⟨c1, h⟩ := p_gdE h
  refine g_getR fl_Mo_7 (Or.inr ⟨_, rfl⟩) (dk_Mo_clear 50 rfl) c1 ?_
  refine g_aload_n (i := 0) (j := 0) (dk_Mo_clear 51 rfl) rfl rfl ?_
  refine g_getI fl_Mo_227 (Or.inl rfl) (dk_Mo_clear 52 rfl) c1 ?_
  obtain ⟨c2, h⟩ := p_gdE h
  obtain ⟨c3, h⟩ := p_gdE h
  refine g_iaload (dk_Mo_clear 53 rfl) c2 c3.1 c3.2 ?_
  refine g_icmp_ge 172 (dk_Mo_clear 54 rfl) (by decide) (fun b4 => ?_) (fun b4 => ?_)
  · have h := p_ifT b4 h
    refine g_aload_n (i := 0) (j := 0) (dk_Mo_clear 98 rfl) rfl rfl ?_
    refine g_bipush (dk_Mo_clear 99 rfl) (by decide +kernel) (by decide) ?_
    obtain ⟨r9, s5, q6, h⟩ := p_bdE h
    have t7 := tF_Mo_refused K l v0 (-4) s0 _ q6
    refine g_callV (a := v0) (ci := 11) (q0 := (RX11, TX11, 90)) (As := [p_i (-4)]) (rest := []) [p_i r9] mt_Mo_refused rfl rfl tw_7_67 ts_43 tw_7_65 ⟨Nat.le_of_ble_eq_true rfl, Nat.le_of_ble_eq_true rfl⟩ rfl (Nat.le_of_ble_eq_true rfl) (dk_Mo_clear 100 rfl) rfl c1 rfl t7 ?_
    have hs8 : p_x s0 s5 := t7.1
    show p_Go K l m_Mo_clear 178 [(0, p_r v0), (1, p_i v1), (2, p_i v2), (3, p_i v3), (4, p_i v4)] [p_i r9] s5 _
    cases h
    exact g_ret rfl rfl (dk_Mo_clear 101 rfl) (fun os => ⟨_, rfl, p_okh os⟩)
  · have h := p_ifF b4 h
    refine g_iload (j := 4) (dk_Mo_clear 55 rfl) rfl ?_
    refine g_iload_n (i := 1) (j := 1) (dk_Mo_clear 56 rfl) rfl rfl ?_
    refine g_icmp_eq 166 (dk_Mo_clear 57 rfl) (by decide) (fun b10 => ?_) (fun b10 => ?_)
    · have h := p_ifT b10 h
      exact tB_Mo_clear_166 K l k79 hk79 v0 v1 v2 v3 v4 s0 _ h
    · have h := p_ifF b10 h
      refine g_aload_n (i := 0) (j := 0) (dk_Mo_clear 58 rfl) rfl rfl ?_
      refine g_getR fl_Mo_16 (Or.inr ⟨_, rfl⟩) (dk_Mo_clear 59 rfl) c1 ?_
      refine g_aload_n (i := 0) (j := 0) (dk_Mo_clear 60 rfl) rfl rfl ?_
      refine g_iload (j := 4) (dk_Mo_clear 61 rfl) rfl ?_
      obtain ⟨r15, s11, q12, h⟩ := p_bdE h
      have t13 := tF_Mo_g K l v0 v4 s0 _ q12
      refine g_callV (a := v0) (ci := 11) (q0 := (RX11, TX11, 90)) (As := [p_i v4]) (rest := [p_r (p_R s0 v0 5)]) [p_i r15, p_r (p_R s0 v0 5)] mt_Mo_g rfl rfl tw_7_84 ts_45 tw_7_82 ⟨Nat.le_of_ble_eq_true rfl, Nat.le_of_ble_eq_true rfl⟩ rfl (Nat.le_of_ble_eq_true rfl) (dk_Mo_clear 62 rfl) rfl c1 rfl t13 ?_
      have hs14 : p_x s0 s11 := t13.1
      show p_Go K l m_Mo_clear 109 [(0, p_r v0), (1, p_i v1), (2, p_i v2), (3, p_i v3), (4, p_i v4)] [p_i r15, p_r (p_R s0 v0 5)] s11 _
      obtain ⟨c16, h⟩ := p_gdE h
      obtain ⟨c17, h⟩ := p_gdE h
      refine g_iaload (dk_Mo_clear 63 rfl) c16 c17.1 c17.2 ?_
      refine g_bipush (dk_Mo_clear 64 rfl) (by decide +kernel) (by decide) ?_
      refine g_icmp_ne 166 (dk_Mo_clear 65 rfl) (by decide) (fun b18 => ?_) (fun b18 => ?_)
      · have h := p_ifT b18 h
        exact tB_Mo_clear_166 K l k79 hk79 v0 v1 v2 v3 v4 s11 _ h
      · have h := p_ifF b18 h
        refine g_aload_n (i := 0) (j := 0) (dk_Mo_clear 66 rfl) rfl rfl ?_
        refine g_getR fl_Mo_69 (Or.inr ⟨_, rfl⟩) (dk_Mo_clear 67 rfl) (c1.up hs14) ?_
        refine g_bipush (dk_Mo_clear 68 rfl) (by decide +kernel) (by decide) ?_
        refine g_aload_n (i := 0) (j := 0) (dk_Mo_clear 69 rfl) rfl rfl ?_
        refine g_iload (j := 4) (dk_Mo_clear 70 rfl) rfl ?_
        obtain ⟨r23, s19, q20, h⟩ := p_bdE h
        have t21 := tF_Mo_g K l v0 v4 s11 _ q20
        refine g_callV (a := v0) (ci := 11) (q0 := (RX11, TX11, 90)) (As := [p_i v4]) (rest := [p_i 8, p_r (p_R s11 v0 22)]) [p_i r23, p_i 8, p_r (p_R s11 v0 22)] mt_Mo_g rfl rfl tw_7_84 ts_45 tw_7_82 ⟨Nat.le_of_ble_eq_true rfl, Nat.le_of_ble_eq_true rfl⟩ rfl (Nat.le_of_ble_eq_true rfl) (dk_Mo_clear 71 rfl) rfl (c1.up hs14) rfl t21 ?_
        have hs22 : p_x s11 s19 := t21.1
        show p_Go K l m_Mo_clear 127 [(0, p_r v0), (1, p_i v1), (2, p_i v2), (3, p_i v3), (4, p_i v4)] [p_i r23, p_i 8, p_r (p_R s11 v0 22)] s19 _
        refine g_imul (dk_Mo_clear 72 rfl) ?_
        obtain ⟨c24, h⟩ := p_gdE h
        obtain ⟨c25, h⟩ := p_gdE h
        refine g_iaload (dk_Mo_clear 73 rfl) c24 c25.1 c25.2 ?_
        refine g_if_ne 166 (dk_Mo_clear 74 rfl) (by decide) (fun b26 => ?_) (fun b26 => ?_)
        · have h := p_ifT b26 h
          exact tB_Mo_clear_166 K l k79 hk79 v0 v1 v2 v3 v4 s19 _ h
        · have h := p_ifF b26 h
          refine g_aload_n (i := 0) (j := 0) (dk_Mo_clear 75 rfl) rfl rfl ?_
          refine g_iload_n (i := 3) (j := 3) (dk_Mo_clear 76 rfl) rfl rfl ?_
          obtain ⟨s27, q28, h⟩ := p_bvE h
          have t29 := tF_Mo_leaves K l v0 v3 s19 _ q28
          refine g_callV (a := v0) (ci := 11) (q0 := (RX11, TX11, 90)) (As := [p_i v3]) (rest := []) [] mt_Mo_leaves rfl rfl tw_8_21 ts_66 tw_8_19 ⟨Nat.le_of_ble_eq_true rfl, Nat.le_of_ble_eq_true rfl⟩ rfl (Nat.le_of_ble_eq_true rfl) (dk_Mo_clear 77 rfl) rfl (c1.up (hs14.trans hs22)) rfl t29 ?_
          have hs30 : p_x s19 s27 := t29.1
          show p_Go K l m_Mo_clear 137 [(0, p_r v0), (1, p_i v1), (2, p_i v2), (3, p_i v3), (4, p_i v4)] [] s27 _
          refine g_aload_n (i := 0) (j := 0) (dk_Mo_clear 78 rfl) rfl rfl ?_
          refine g_iload_n (i := 3) (j := 3) (dk_Mo_clear 79 rfl) rfl rfl ?_
          refine g_iload (j := 4) (dk_Mo_clear 80 rfl) rfl ?_
          obtain ⟨s31, q32, h⟩ := p_bvE h
          have t33 := tF_Mo_enters K l v0 v3 v4 s27 _ q32
          refine g_callV (a := v0) (ci := 11) (q0 := (RX11, TX11, 90)) (As := [p_i v3, p_i v4]) (rest := []) [] mt_Mo_enters rfl rfl tw_7_211 ts_61 tw_7_209 ⟨Nat.le_of_ble_eq_true rfl, Nat.le_of_ble_eq_true rfl⟩ rfl (Nat.le_of_ble_eq_true rfl) (dk_Mo_clear 81 rfl) rfl (c1.up (hs14.trans (hs22.trans hs30))) rfl t33 ?_
          have hs34 : p_x s27 s31 := t33.1
          show p_Go K l m_Mo_clear 144 [(0, p_r v0), (1, p_i v1), (2, p_i v2), (3, p_i v3), (4, p_i v4)] [] s31 _
          refine g_aload_n (i := 0) (j := 0) (dk_Mo_clear 82 rfl) rfl rfl ?_
          refine g_getR fl_Mo_90 (Or.inr ⟨_, rfl⟩) (dk_Mo_clear 83 rfl) (c1.up (hs14.trans (hs22.trans (hs30.trans hs34)))) ?_
          refine g_iload_n (i := 3) (j := 3) (dk_Mo_clear 84 rfl) rfl rfl ?_
          refine g_bipush (dk_Mo_clear 85 rfl) (by decide +kernel) (by decide) ?_
          obtain ⟨c35, h⟩ := p_gdE h
          obtain ⟨c36, h⟩ := p_gdE h
          refine g_iastore (dk_Mo_clear 86 rfl) c35 c36.1 c36.2 ?_
          refine p_ltS (P := fun q => p_Go K l m_Mo_clear 152 [(0, p_r v0), (1, p_i v1), (2, p_i v2), (3, p_i v3), (4, p_i v4)] [] q _) (p_xZ _ _ _ _) ?_ h
          intro s37 hs38 h
          refine g_aload_n (i := 0) (j := 0) (dk_Mo_clear 87 rfl) rfl rfl ?_
          refine g_getR fl_Mo_51 (Or.inr ⟨_, rfl⟩) (dk_Mo_clear 88 rfl) (c1.up (hs14.trans (hs22.trans (hs30.trans (hs34.trans hs38))))) ?_
          refine g_iload_n (i := 2) (j := 2) (dk_Mo_clear 89 rfl) rfl rfl ?_
          refine g_iconst (dk_Mo_clear 90 rfl) (by decide) ?_
          obtain ⟨c39, h⟩ := p_gdE h
          obtain ⟨c40, h⟩ := p_gdE h
          refine g_iastore (dk_Mo_clear 91 rfl) c39 c40.1 c40.2 ?_
          refine p_ltS (P := fun q => p_Go K l m_Mo_clear 159 [(0, p_r v0), (1, p_i v1), (2, p_i v2), (3, p_i v3), (4, p_i v4)] [] q _) (p_xZ _ _ _ _) ?_ h
          intro s41 hs42 h
          refine g_aload_n (i := 0) (j := 0) (dk_Mo_clear 92 rfl) rfl rfl ?_
          refine g_iload (j := 4) (dk_Mo_clear 93 rfl) rfl ?_
          obtain ⟨r47, s43, q44, h⟩ := p_bdE h
          have t45 := tF_Mo_well K l v0 v4 s41 _ q44
          refine g_callV (a := v0) (ci := 11) (q0 := (RX11, TX11, 90)) (As := [p_i v4]) (rest := []) [p_i r47] mt_Mo_well rfl rfl tw_7_71 ts_44 tw_7_69 ⟨Nat.le_of_ble_eq_true rfl, Nat.le_of_ble_eq_true rfl⟩ rfl (Nat.le_of_ble_eq_true rfl) (dk_Mo_clear 94 rfl) rfl (c1.up (hs14.trans (hs22.trans (hs30.trans (hs34.trans (hs38.trans hs42)))))) rfl t45 ?_
          have hs46 : p_x s41 s43 := t45.1
          show p_Go K l m_Mo_clear 165 [(0, p_r v0), (1, p_i v1), (2, p_i v2), (3, p_i v3), (4, p_i v4)] [p_i r47] s43 _
          cases h
          exact g_ret rfl rfl (dk_Mo_clear 95 rfl) (fun os => ⟨_, rfl, p_okh os⟩)
set_option maxRecDepth 100000 in
set_option maxHeartbeats 4000000 in
theorem tO_Mo_clear_79 (K : p_K) (l : Launch)  : ∀ (n : Nat) (v0 : Nat) (v1 : Int) (v2 : Int) (v3 : Int) (v4 : Int) (s0 : p_Hp) (r : (Int × p_Hp)), O_Mo_clear_79 n v0 v1 v2 v3 v4 s0 = some r → p_Go K l m_Mo_clear 79 [(0, p_r v0), (1, p_i v1), (2, p_i v2), (3, p_i v3), (4, p_i v4)] [] s0 (some (p_i r.1), r.2) := by
  intro n
  induction n with
  | zero => intro v0 v1 v2 v3 v4 s0 r h; cases (show (none : Option (Int × p_Hp)) = some r from h)
  | succ n ih => intro v0 v1 v2 v3 v4 s0 r h; exact tL_Mo_clear_79 K l _ ih v0 v1 v2 v3 v4 s0 r h
set_option maxRecDepth 100000 in
set_option maxHeartbeats 4000000 in
theorem tF_Mo_clear (K : p_K) (l : Launch) (v0 : Nat) (v1 : Int) (s0 : p_Hp) (r : (Int × p_Hp)) (h : F_Mo_clear v0 v1 s0 = some r) : p_Ct K l m_Mo_clear [p_r v0, p_i v1] s0 (some (p_i r.1), r.2) := by
  refine p_Ct.of (by decide +kernel) (Nat.le_of_ble_eq_true rfl) ?_
  unfold F_Mo_clear at h
  show p_Go K l m_Mo_clear 0 [(0, p_r v0), (1, p_i v1)] [] s0 _
  refine g_aload_n (i := 0) (j := 0) (dk_Mo_clear 0 rfl) rfl rfl ?_
  refine g_iload_n (i := 1) (j := 1) (dk_Mo_clear 1 rfl) rfl rfl ?_
  obtain ⟨c1, h⟩ := p_gdE h
  obtain ⟨r6, s2, q3, h⟩ := p_bdE h
  have t4 := tF_Mo_noGear K l v0 v1 s0 _ q3
  refine g_callV (a := v0) (ci := 11) (q0 := (RX11, TX11, 90)) (As := [p_i v1]) (rest := []) [p_i r6] mt_Mo_noGear rfl rfl tw_7_106 ts_48 tw_7_104 ⟨Nat.le_of_ble_eq_true rfl, Nat.le_of_ble_eq_true rfl⟩ rfl (Nat.le_of_ble_eq_true rfl) (dk_Mo_clear 2 rfl) rfl c1 rfl t4 ?_
  have hs5 : p_x s0 s2 := t4.1
  show p_Go K l m_Mo_clear 5 [(0, p_r v0), (1, p_i v1)] [p_i r6] s2 _
  refine g_if_eq 14 (dk_Mo_clear 3 rfl) (by decide) (fun b7 => ?_) (fun b7 => ?_)
  · have h := p_ifT b7 h
    refine g_aload_n (i := 0) (j := 0) (dk_Mo_clear 8 rfl) rfl rfl ?_
    refine g_iload_n (i := 1) (j := 1) (dk_Mo_clear 9 rfl) rfl rfl ?_
    obtain ⟨r12, s8, q9, h⟩ := p_bdE h
    have t10 := tF_Mo_g K l v0 v1 s2 _ q9
    refine g_callV (a := v0) (ci := 11) (q0 := (RX11, TX11, 90)) (As := [p_i v1]) (rest := []) [p_i r12] mt_Mo_g rfl rfl tw_7_84 ts_45 tw_7_82 ⟨Nat.le_of_ble_eq_true rfl, Nat.le_of_ble_eq_true rfl⟩ rfl (Nat.le_of_ble_eq_true rfl) (dk_Mo_clear 10 rfl) rfl (c1.up hs5) rfl t10 ?_
    have hs11 : p_x s2 s8 := t10.1
    show p_Go K l m_Mo_clear 19 [(0, p_r v0), (1, p_i v1)] [p_i r12] s8 _
    refine g_istore_n (i := 2) [(2, p_i r12), (0, p_r v0), (1, p_i v1)] (dk_Mo_clear 11 rfl) rfl (by decide) rfl ?_
    refine g_aload_n (i := 0) (j := 1) (dk_Mo_clear 12 rfl) rfl rfl ?_
    refine g_getR fl_Mo_16 (Or.inr ⟨_, rfl⟩) (dk_Mo_clear 13 rfl) (c1.up (hs5.trans hs11)) ?_
    refine g_iload_n (i := 2) (j := 0) (dk_Mo_clear 14 rfl) rfl rfl ?_
    obtain ⟨c13, h⟩ := p_gdE h
    obtain ⟨c14, h⟩ := p_gdE h
    refine g_iaload (dk_Mo_clear 15 rfl) c13 c14.1 c14.2 ?_
    obtain ⟨r19, s15, q16, h⟩ := p_bdE h
    have t17 := tF_Mo_isTaker K l (p_Z s8 (p_R s8 v0 5) (r12 : Int).toNat) s8 _ q16
    refine g_callS (av := [p_i (p_Z s8 (p_R s8 v0 5) (r12 : Int).toNat)]) (rest := []) [p_i r19] mt_Mo_isTaker tw_7_79 tw_7_78 ⟨Nat.le_of_ble_eq_true rfl, Nat.le_of_ble_eq_true rfl⟩ rfl (Nat.le_of_ble_eq_true rfl) (dk_Mo_clear 16 rfl) rfl rfl t17 ?_
    have hs18 : p_x s8 s15 := t17.1
    show p_Go K l m_Mo_clear 29 [(2, p_i r12), (0, p_r v0), (1, p_i v1)] [p_i r19] s15 _
    refine g_if_ne 38 (dk_Mo_clear 17 rfl) (by decide) (fun b20 => ?_) (fun b20 => ?_)
    · have h := p_ifT b20 h
      refine g_aload_n (i := 0) (j := 1) (dk_Mo_clear 22 rfl) rfl rfl ?_
      refine g_getR fl_Mo_69 (Or.inr ⟨_, rfl⟩) (dk_Mo_clear 23 rfl) (c1.up (hs5.trans (hs11.trans hs18))) ?_
      refine g_bipush (dk_Mo_clear 24 rfl) (by decide +kernel) (by decide) ?_
      refine g_iload_n (i := 2) (j := 0) (dk_Mo_clear 25 rfl) rfl rfl ?_
      refine g_imul (dk_Mo_clear 26 rfl) ?_
      refine g_aload_n (i := 0) (j := 1) (dk_Mo_clear 27 rfl) rfl rfl ?_
      refine g_getR fl_Mo_19 (Or.inr ⟨_, rfl⟩) (dk_Mo_clear 28 rfl) (c1.up (hs5.trans (hs11.trans hs18))) ?_
      refine g_iload_n (i := 2) (j := 0) (dk_Mo_clear 29 rfl) rfl rfl ?_
      obtain ⟨c21, h⟩ := p_gdE h
      obtain ⟨c22, h⟩ := p_gdE h
      refine g_iaload (dk_Mo_clear 30 rfl) c21 c22.1 c22.2 ?_
      refine g_iadd (dk_Mo_clear 31 rfl) ?_
      refine g_iconst (dk_Mo_clear 32 rfl) (by decide) ?_
      refine g_isub (dk_Mo_clear 33 rfl) ?_
      obtain ⟨c23, h⟩ := p_gdE h
      obtain ⟨c24, h⟩ := p_gdE h
      refine g_iaload (dk_Mo_clear 34 rfl) c23 c24.1 c24.2 ?_
      refine g_istore_n (i := 3) [(3, p_i (p_Z s15 (p_R s15 v0 22) ((p_w ((p_w ((p_w (8 * r12)) + (p_Z s15 (p_R s15 v0 6) (r12 : Int).toNat))) - 1)) : Int).toNat)), (2, p_i r12), (0, p_r v0), (1, p_i v1)] (dk_Mo_clear 35 rfl) rfl (by decide) rfl ?_
      refine p_ltG (P := fun q => p_Go K l m_Mo_clear 57 [(3, p_i q), (2, p_i r12), (0, p_r v0), (1, p_i v1)] [] s15 _) ?_ h
      intro x25 h
      refine g_aload_n (i := 0) (j := 2) (dk_Mo_clear 36 rfl) rfl rfl ?_
      refine g_iload_n (i := 2) (j := 1) (dk_Mo_clear 37 rfl) rfl rfl ?_
      obtain ⟨r30, s26, q27, h⟩ := p_bdE h
      have t28 := tF_Mo_isJammed K l v0 r12 s15 _ q27
      refine g_callV (a := v0) (ci := 11) (q0 := (RX11, TX11, 90)) (As := [p_i r12]) (rest := []) [p_i r30] mt_Mo_isJammed rfl rfl tw_8_17 ts_65 tw_8_15 ⟨Nat.le_of_ble_eq_true rfl, Nat.le_of_ble_eq_true rfl⟩ rfl (Nat.le_of_ble_eq_true rfl) (dk_Mo_clear 38 rfl) rfl (c1.up (hs5.trans (hs11.trans hs18))) rfl t28 ?_
      have hs29 : p_x s15 s26 := t28.1
      show p_Go K l m_Mo_clear 62 [(3, p_i x25), (2, p_i r12), (0, p_r v0), (1, p_i v1)] [p_i r30] s26 _
      refine g_if_eq 69 (dk_Mo_clear 39 rfl) (by decide) (fun b31 => ?_) (fun b31 => ?_)
      · have h := p_ifT b31 h
        refine g_sub [(0, p_r v0)] [2] rfl ?_
        exact tB_Mo_clear_69 K l v0 s26 _ h
      · have h := p_ifF b31 h
        refine g_iload_n (i := 3) (j := 0) (dk_Mo_clear 40 rfl) rfl rfl ?_
        refine g_if_ne 76 (dk_Mo_clear 41 rfl) (by decide) (fun b32 => ?_) (fun b32 => ?_)
        · have h := p_ifT b32 h
          refine g_iconst (dk_Mo_clear 46 rfl) (by decide) ?_
          refine g_istore [(4, p_i 0), (3, p_i x25), (2, p_i r12), (0, p_r v0), (1, p_i v1)] (dk_Mo_clear 47 rfl) (by decide) rfl ?_
          refine g_sub [(0, p_r v0), (1, p_i v1), (2, p_i r12), (3, p_i x25), (4, p_i 0)] [3, 4, 2, 1, 0] rfl ?_
          exact tO_Mo_clear_79 K l 3000 v0 v1 r12 x25 0 s26 _ h
        · have h := p_ifF b32 h
          refine g_sub [(0, p_r v0)] [2] rfl ?_
          exact tB_Mo_clear_69 K l v0 s26 _ h
    · have h := p_ifF b20 h
      refine g_aload_n (i := 0) (j := 1) (dk_Mo_clear 18 rfl) rfl rfl ?_
      refine g_iconst (dk_Mo_clear 19 rfl) (by decide) ?_
      obtain ⟨r37, s33, q34, h⟩ := p_bdE h
      have t35 := tF_Mo_faulted K l v0 2 s15 _ q34
      refine g_callV (a := v0) (ci := 11) (q0 := (RX11, TX11, 90)) (As := [p_i 2]) (rest := []) [p_i r37] mt_Mo_faulted rfl rfl tw_7_110 ts_49 tw_7_108 ⟨Nat.le_of_ble_eq_true rfl, Nat.le_of_ble_eq_true rfl⟩ rfl (Nat.le_of_ble_eq_true rfl) (dk_Mo_clear 20 rfl) rfl (c1.up (hs5.trans (hs11.trans hs18))) rfl t35 ?_
      have hs36 : p_x s15 s33 := t35.1
      show p_Go K l m_Mo_clear 37 [(2, p_i r12), (0, p_r v0), (1, p_i v1)] [p_i r37] s33 _
      cases h
      exact g_ret rfl rfl (dk_Mo_clear 21 rfl) (fun os => ⟨_, rfl, p_okh os⟩)
  · have h := p_ifF b7 h
    refine g_aload_n (i := 0) (j := 0) (dk_Mo_clear 4 rfl) rfl rfl ?_
    refine g_iconst (dk_Mo_clear 5 rfl) (by decide) ?_
    obtain ⟨r42, s38, q39, h⟩ := p_bdE h
    have t40 := tF_Mo_refused K l v0 (-1) s2 _ q39
    refine g_callV (a := v0) (ci := 11) (q0 := (RX11, TX11, 90)) (As := [p_i (-1)]) (rest := []) [p_i r42] mt_Mo_refused rfl rfl tw_7_67 ts_43 tw_7_65 ⟨Nat.le_of_ble_eq_true rfl, Nat.le_of_ble_eq_true rfl⟩ rfl (Nat.le_of_ble_eq_true rfl) (dk_Mo_clear 6 rfl) rfl (c1.up hs5) rfl t40 ?_
    have hs41 : p_x s2 s38 := t40.1
    show p_Go K l m_Mo_clear 13 [(0, p_r v0), (1, p_i v1)] [p_i r42] s38 _
    cases h
    exact g_ret rfl rfl (dk_Mo_clear 7 rfl) (fun os => ⟨_, rfl, p_okh os⟩)
def m_Mo_carry : p_Me := (⟨"SortWorksModel", "carry", "(II)I"⟩, prog_13_method_53_code, 5, (some .int), 2, 46)
theorem mt_Mo_carry : p_Mt m_Mo_carry 2 := ⟨p_mem (p_tb8 (List.mem_of_getElem? (i := 26) rfl)) rfl, tw_1_12, by decide +kernel, by decide +kernel, by decide +kernel⟩
def dt_Mo_carry : List (Nat × Instr × Nat) := [(0, .aload_n 0, 1), (1, .iload_n 1, 1), (2, .invokevirtual 352, 3), (5, .ifCond .ne 11, 3), (8, .aload_n 0, 1), (9, .iload_n 2, 1), (10, .invokevirtual 267, 3), (13, .ifCond .eq 9, 3), (16, .aload_n 0, 1), (17, .iconst (-1), 1), (18, .invokevirtual 240, 3), (21, .ireturn, 1), (22, .aload_n 0, 1), (23, .iload_n 2, 1), (24, .invokevirtual 257, 3), (27, .istore_n 3, 1), (28, .aload_n 0, 1), (29, .getfield 16, 3), (32, .iload_n 3, 1), (33, .iaload, 1), (34, .invokestatic 252, 3), (37, .ifCond .ne 9, 3), (40, .aload_n 0, 1), (41, .iconst 2, 1), (42, .invokevirtual 270, 3), (45, .ireturn, 1), (46, .aload_n 0, 1), (47, .getfield 69, 3), (50, .bipush 8, 2), (52, .iload_n 3, 1), (53, .imul, 1), (54, .iaload, 1), (55, .ifCond .gt 46, 3), (58, .aload_n 0, 1), (59, .getfield 16, 3), (62, .iload_n 3, 1), (63, .iaload, 1), (64, .bipush 7, 2), (66, .if_icmp .ne 13, 3), (69, .aload_n 0, 1), (70, .getfield 90, 3), (73, .iload_n 1, 1), (74, .iaload, 1), (75, .iload_n 2, 1), (76, .if_icmp .ne 25, 3), (79, .aload_n 0, 1), (80, .getfield 16, 3), (83, .iload_n 3, 1), (84, .iaload, 1), (85, .bipush 8, 2), (87, .if_icmp .ne 21, 3), (90, .aload_n 0, 1), (91, .getfield 90, 3), (94, .iload_n 1, 1), (95, .iaload, 1), (96, .bipush (-8), 2), (98, .if_icmp .eq 10, 3), (101, .aload_n 0, 1), (102, .bipush (-3), 2), (104, .invokevirtual 240, 3), (107, .ireturn, 1), (108, .aload_n 0, 1), (109, .getfield 78, 3), (112, .iload_n 1, 1), (113, .iaload, 1), (114, .istore 4, 2), (116, .aload_n 0, 1), (117, .iload_n 1, 1), (118, .invokevirtual 369, 3), (121, .aload_n 0, 1), (122, .iload_n 1, 1), (123, .iload_n 2, 1), (124, .invokevirtual 337, 3), (127, .aload_n 0, 1), (128, .iload 4, 2), (130, .invokevirtual 244, 3), (133, .ireturn, 1)]
theorem dk_Mo_carry (i : Nat) {pc : Nat} {ins : Instr} {len : Nat} (h : dt_Mo_carry[i]? = some (pc, ins, len)) : decode m_Mo_carry.2.1 pc = .ok (ins, len) := p_dk (b := m_Mo_carry.2.1) (t := dt_Mo_carry) (by decide +kernel) i h
def B_Mo_carry_16  (v0 : Nat) (s0 : p_Hp) : Option (Int × p_Hp) :=
  p_gd (p_is s0 v0 11) <|
  p_bd (F_Mo_refused v0 (-1) s0) fun r6 s2 =>
  some (r6, s2)
def B_Mo_carry_101  (v0 : Nat) (s0 : p_Hp) : Option (Int × p_Hp) :=
  p_gd (p_is s0 v0 11) <|
  p_bd (F_Mo_refused v0 (-3) s0) fun r6 s2 =>
  some (r6, s2)
def B_Mo_carry_108  (v0 : Nat) (v1 : Int) (v2 : Int) (s0 : p_Hp) : Option (Int × p_Hp) :=
  p_gd (p_is s0 v0 11) <|
  p_gd (p_is s0 (p_R s0 v0 26) 100) <|
  p_gd ((0 : Int) ≤ v1 ∧ v1 < (p_L s0 (p_R s0 v0 26) : Int)) <|
  p_bi ((p_Z s0 (p_R s0 v0 26) (v1 : Int).toNat)) fun x4 =>
  p_bv (F_Mo_leaves v0 v1 s0) fun s5 =>
  p_bv (F_Mo_enters v0 v1 v2 s5) fun s9 =>
  p_bd (F_Mo_well v0 x4 s9) fun r17 s13 =>
  some (r17, s13)
def B_Mo_carry_79  (v0 : Nat) (v1 : Int) (v2 : Int) (v3 : Int) (s0 : p_Hp) : Option (Int × p_Hp) :=
  p_gd (p_is s0 v0 11) <|
  p_gd (p_is s0 (p_R s0 v0 5) 100) <|
  p_gd ((0 : Int) ≤ v3 ∧ v3 < (p_L s0 (p_R s0 v0 5) : Int)) <|
  if (p_Z s0 (p_R s0 v0 5) (v3 : Int).toNat) ≠ 8 then
    B_Mo_carry_108 v0 v1 v2 s0
  else
    p_gd (p_is s0 (p_R s0 v0 30) 100) <|
    p_gd ((0 : Int) ≤ v1 ∧ v1 < (p_L s0 (p_R s0 v0 30) : Int)) <|
    if (p_Z s0 (p_R s0 v0 30) (v1 : Int).toNat) = (-8) then
      B_Mo_carry_108 v0 v1 v2 s0
    else
      B_Mo_carry_101 v0 s0
def F_Mo_carry (v0 : Nat) (v1 : Int) (v2 : Int) (s0 : p_Hp) : Option (Int × p_Hp) :=
  p_gd (p_is s0 v0 11) <|
  p_bd (F_Mo_noParcel v0 v1 s0) fun r6 s2 =>
  if r6 ≠ 0 then
    B_Mo_carry_16 v0 s2
  else
    p_bd (F_Mo_noGear v0 v2 s2) fun r12 s8 =>
    if r12 = 0 then
      p_bd (F_Mo_g v0 v2 s8) fun r18 s14 =>
      p_gd (p_is s14 (p_R s14 v0 5) 100) <|
      p_gd ((0 : Int) ≤ r18 ∧ r18 < (p_L s14 (p_R s14 v0 5) : Int)) <|
      p_bd (F_Mo_isTaker (p_Z s14 (p_R s14 v0 5) (r18 : Int).toNat) s14) fun r25 s21 =>
      if r25 ≠ 0 then
        p_gd (p_is s21 (p_R s21 v0 22) 100) <|
        p_gd ((0 : Int) ≤ (p_w (8 * r18)) ∧ (p_w (8 * r18)) < (p_L s21 (p_R s21 v0 22) : Int)) <|
        if 0 < (p_Z s21 (p_R s21 v0 22) ((p_w (8 * r18)) : Int).toNat) then
          B_Mo_carry_101 v0 s21
        else
          p_gd (p_is s21 (p_R s21 v0 5) 100) <|
          p_gd ((0 : Int) ≤ r18 ∧ r18 < (p_L s21 (p_R s21 v0 5) : Int)) <|
          if (p_Z s21 (p_R s21 v0 5) (r18 : Int).toNat) ≠ 7 then
            B_Mo_carry_79 v0 v1 v2 r18 s21
          else
            p_gd (p_is s21 (p_R s21 v0 30) 100) <|
            p_gd ((0 : Int) ≤ v1 ∧ v1 < (p_L s21 (p_R s21 v0 30) : Int)) <|
            if (p_Z s21 (p_R s21 v0 30) (v1 : Int).toNat) ≠ v2 then
              B_Mo_carry_101 v0 s21
            else
              B_Mo_carry_79 v0 v1 v2 r18 s21
      else
        p_bd (F_Mo_faulted v0 2 s21) fun r40 s36 =>
        some (r40, s36)
    else
      B_Mo_carry_16 v0 s8
set_option maxRecDepth 100000 in
set_option maxHeartbeats 4000000 in
theorem tB_Mo_carry_16 (K : p_K) (l : Launch)  (v0 : Nat) (s0 : p_Hp) (r : (Int × p_Hp)) (h : B_Mo_carry_16 v0 s0 = some r) : p_Go K l m_Mo_carry 16 [(0, p_r v0)] [] s0 (some (p_i r.1), r.2) := by
  unfold B_Mo_carry_16 at h
  refine g_aload_n (i := 0) (j := 0) (dk_Mo_carry 8 rfl) rfl rfl ?_
  refine g_iconst (dk_Mo_carry 9 rfl) (by decide) ?_
  obtain ⟨c1, h⟩ := p_gdE h
  obtain ⟨r6, s2, q3, h⟩ := p_bdE h
  have t4 := tF_Mo_refused K l v0 (-1) s0 _ q3
  refine g_callV (a := v0) (ci := 11) (q0 := (RX11, TX11, 90)) (As := [p_i (-1)]) (rest := []) [p_i r6] mt_Mo_refused rfl rfl tw_7_67 ts_43 tw_7_65 ⟨Nat.le_of_ble_eq_true rfl, Nat.le_of_ble_eq_true rfl⟩ rfl (Nat.le_of_ble_eq_true rfl) (dk_Mo_carry 10 rfl) rfl c1 rfl t4 ?_
  have hs5 : p_x s0 s2 := t4.1
  show p_Go K l m_Mo_carry 21 [(0, p_r v0)] [p_i r6] s2 _
  cases h
  exact g_ret rfl rfl (dk_Mo_carry 11 rfl) (fun os => ⟨_, rfl, p_okh os⟩)
set_option maxRecDepth 100000 in
set_option maxHeartbeats 4000000 in
theorem tB_Mo_carry_101 (K : p_K) (l : Launch)  (v0 : Nat) (s0 : p_Hp) (r : (Int × p_Hp)) (h : B_Mo_carry_101 v0 s0 = some r) : p_Go K l m_Mo_carry 101 [(0, p_r v0)] [] s0 (some (p_i r.1), r.2) := by
  unfold B_Mo_carry_101 at h
  refine g_aload_n (i := 0) (j := 0) (dk_Mo_carry 57 rfl) rfl rfl ?_
  refine g_bipush (dk_Mo_carry 58 rfl) (by decide +kernel) (by decide) ?_
  obtain ⟨c1, h⟩ := p_gdE h
  obtain ⟨r6, s2, q3, h⟩ := p_bdE h
  have t4 := tF_Mo_refused K l v0 (-3) s0 _ q3
  refine g_callV (a := v0) (ci := 11) (q0 := (RX11, TX11, 90)) (As := [p_i (-3)]) (rest := []) [p_i r6] mt_Mo_refused rfl rfl tw_7_67 ts_43 tw_7_65 ⟨Nat.le_of_ble_eq_true rfl, Nat.le_of_ble_eq_true rfl⟩ rfl (Nat.le_of_ble_eq_true rfl) (dk_Mo_carry 59 rfl) rfl c1 rfl t4 ?_
  have hs5 : p_x s0 s2 := t4.1
  show p_Go K l m_Mo_carry 107 [(0, p_r v0)] [p_i r6] s2 _
  cases h
  exact g_ret rfl rfl (dk_Mo_carry 60 rfl) (fun os => ⟨_, rfl, p_okh os⟩)
set_option maxRecDepth 100000 in
set_option maxHeartbeats 4000000 in
theorem tB_Mo_carry_108 (K : p_K) (l : Launch)  (v0 : Nat) (v1 : Int) (v2 : Int) (s0 : p_Hp) (r : (Int × p_Hp)) (h : B_Mo_carry_108 v0 v1 v2 s0 = some r) : p_Go K l m_Mo_carry 108 [(0, p_r v0), (1, p_i v1), (2, p_i v2)] [] s0 (some (p_i r.1), r.2) := by
  unfold B_Mo_carry_108 at h
  refine g_aload_n (i := 0) (j := 0) (dk_Mo_carry 61 rfl) rfl rfl ?_
  obtain ⟨c1, h⟩ := p_gdE h
  refine g_getR fl_Mo_78 (Or.inr ⟨_, rfl⟩) (dk_Mo_carry 62 rfl) c1 ?_
  refine g_iload_n (i := 1) (j := 1) (dk_Mo_carry 63 rfl) rfl rfl ?_
  obtain ⟨c2, h⟩ := p_gdE h
  obtain ⟨c3, h⟩ := p_gdE h
  refine g_iaload (dk_Mo_carry 64 rfl) c2 c3.1 c3.2 ?_
  refine g_istore [(4, p_i (p_Z s0 (p_R s0 v0 26) (v1 : Int).toNat)), (0, p_r v0), (1, p_i v1), (2, p_i v2)] (dk_Mo_carry 65 rfl) (by decide) rfl ?_
  refine p_ltG (P := fun q => p_Go K l m_Mo_carry 116 [(4, p_i q), (0, p_r v0), (1, p_i v1), (2, p_i v2)] [] s0 _) ?_ h
  intro x4 h
  refine g_aload_n (i := 0) (j := 1) (dk_Mo_carry 66 rfl) rfl rfl ?_
  refine g_iload_n (i := 1) (j := 2) (dk_Mo_carry 67 rfl) rfl rfl ?_
  obtain ⟨s5, q6, h⟩ := p_bvE h
  have t7 := tF_Mo_leaves K l v0 v1 s0 _ q6
  refine g_callV (a := v0) (ci := 11) (q0 := (RX11, TX11, 90)) (As := [p_i v1]) (rest := []) [] mt_Mo_leaves rfl rfl tw_8_21 ts_66 tw_8_19 ⟨Nat.le_of_ble_eq_true rfl, Nat.le_of_ble_eq_true rfl⟩ rfl (Nat.le_of_ble_eq_true rfl) (dk_Mo_carry 68 rfl) rfl c1 rfl t7 ?_
  have hs8 : p_x s0 s5 := t7.1
  show p_Go K l m_Mo_carry 121 [(4, p_i x4), (0, p_r v0), (1, p_i v1), (2, p_i v2)] [] s5 _
  refine g_aload_n (i := 0) (j := 1) (dk_Mo_carry 69 rfl) rfl rfl ?_
  refine g_iload_n (i := 1) (j := 2) (dk_Mo_carry 70 rfl) rfl rfl ?_
  refine g_iload_n (i := 2) (j := 3) (dk_Mo_carry 71 rfl) rfl rfl ?_
  obtain ⟨s9, q10, h⟩ := p_bvE h
  have t11 := tF_Mo_enters K l v0 v1 v2 s5 _ q10
  refine g_callV (a := v0) (ci := 11) (q0 := (RX11, TX11, 90)) (As := [p_i v1, p_i v2]) (rest := []) [] mt_Mo_enters rfl rfl tw_7_211 ts_61 tw_7_209 ⟨Nat.le_of_ble_eq_true rfl, Nat.le_of_ble_eq_true rfl⟩ rfl (Nat.le_of_ble_eq_true rfl) (dk_Mo_carry 72 rfl) rfl (c1.up hs8) rfl t11 ?_
  have hs12 : p_x s5 s9 := t11.1
  show p_Go K l m_Mo_carry 127 [(4, p_i x4), (0, p_r v0), (1, p_i v1), (2, p_i v2)] [] s9 _
  refine g_aload_n (i := 0) (j := 1) (dk_Mo_carry 73 rfl) rfl rfl ?_
  refine g_iload (j := 0) (dk_Mo_carry 74 rfl) rfl ?_
  obtain ⟨r17, s13, q14, h⟩ := p_bdE h
  have t15 := tF_Mo_well K l v0 x4 s9 _ q14
  refine g_callV (a := v0) (ci := 11) (q0 := (RX11, TX11, 90)) (As := [p_i x4]) (rest := []) [p_i r17] mt_Mo_well rfl rfl tw_7_71 ts_44 tw_7_69 ⟨Nat.le_of_ble_eq_true rfl, Nat.le_of_ble_eq_true rfl⟩ rfl (Nat.le_of_ble_eq_true rfl) (dk_Mo_carry 75 rfl) rfl (c1.up (hs8.trans hs12)) rfl t15 ?_
  have hs16 : p_x s9 s13 := t15.1
  show p_Go K l m_Mo_carry 133 [(4, p_i x4), (0, p_r v0), (1, p_i v1), (2, p_i v2)] [p_i r17] s13 _
  cases h
  exact g_ret rfl rfl (dk_Mo_carry 76 rfl) (fun os => ⟨_, rfl, p_okh os⟩)
set_option maxRecDepth 100000 in
set_option maxHeartbeats 4000000 in
theorem tB_Mo_carry_79 (K : p_K) (l : Launch)  (v0 : Nat) (v1 : Int) (v2 : Int) (v3 : Int) (s0 : p_Hp) (r : (Int × p_Hp)) (h : B_Mo_carry_79 v0 v1 v2 v3 s0 = some r) : p_Go K l m_Mo_carry 79 [(0, p_r v0), (1, p_i v1), (2, p_i v2), (3, p_i v3)] [] s0 (some (p_i r.1), r.2) := by
  unfold B_Mo_carry_79 at h
  refine g_aload_n (i := 0) (j := 0) (dk_Mo_carry 45 rfl) rfl rfl ?_
  obtain ⟨c1, h⟩ := p_gdE h
  refine g_getR fl_Mo_16 (Or.inr ⟨_, rfl⟩) (dk_Mo_carry 46 rfl) c1 ?_
  refine g_iload_n (i := 3) (j := 3) (dk_Mo_carry 47 rfl) rfl rfl ?_
  obtain ⟨c2, h⟩ := p_gdE h
  obtain ⟨c3, h⟩ := p_gdE h
  refine g_iaload (dk_Mo_carry 48 rfl) c2 c3.1 c3.2 ?_
  refine g_bipush (dk_Mo_carry 49 rfl) (by decide +kernel) (by decide) ?_
  refine g_icmp_ne 108 (dk_Mo_carry 50 rfl) (by decide) (fun b4 => ?_) (fun b4 => ?_)
  · have h := p_ifT b4 h
    refine g_sub [(0, p_r v0), (1, p_i v1), (2, p_i v2)] [0, 1, 2] rfl ?_
    exact tB_Mo_carry_108 K l v0 v1 v2 s0 _ h
  · have h := p_ifF b4 h
    refine g_aload_n (i := 0) (j := 0) (dk_Mo_carry 51 rfl) rfl rfl ?_
    refine g_getR fl_Mo_90 (Or.inr ⟨_, rfl⟩) (dk_Mo_carry 52 rfl) c1 ?_
    refine g_iload_n (i := 1) (j := 1) (dk_Mo_carry 53 rfl) rfl rfl ?_
    obtain ⟨c5, h⟩ := p_gdE h
    obtain ⟨c6, h⟩ := p_gdE h
    refine g_iaload (dk_Mo_carry 54 rfl) c5 c6.1 c6.2 ?_
    refine g_bipush (dk_Mo_carry 55 rfl) (by decide +kernel) (by decide) ?_
    refine g_icmp_eq 108 (dk_Mo_carry 56 rfl) (by decide) (fun b7 => ?_) (fun b7 => ?_)
    · have h := p_ifT b7 h
      refine g_sub [(0, p_r v0), (1, p_i v1), (2, p_i v2)] [0, 1, 2] rfl ?_
      exact tB_Mo_carry_108 K l v0 v1 v2 s0 _ h
    · have h := p_ifF b7 h
      refine g_sub [(0, p_r v0)] [0] rfl ?_
      exact tB_Mo_carry_101 K l v0 s0 _ h
set_option maxRecDepth 100000 in
set_option maxHeartbeats 4000000 in
theorem tF_Mo_carry (K : p_K) (l : Launch) (v0 : Nat) (v1 : Int) (v2 : Int) (s0 : p_Hp) (r : (Int × p_Hp)) (h : F_Mo_carry v0 v1 v2 s0 = some r) : p_Ct K l m_Mo_carry [p_r v0, p_i v1, p_i v2] s0 (some (p_i r.1), r.2) := by
  refine p_Ct.of (by decide +kernel) (Nat.le_of_ble_eq_true rfl) ?_
  unfold F_Mo_carry at h
  show p_Go K l m_Mo_carry 0 [(0, p_r v0), (1, p_i v1), (2, p_i v2)] [] s0 _
  refine g_aload_n (i := 0) (j := 0) (dk_Mo_carry 0 rfl) rfl rfl ?_
  refine g_iload_n (i := 1) (j := 1) (dk_Mo_carry 1 rfl) rfl rfl ?_
  obtain ⟨c1, h⟩ := p_gdE h
  obtain ⟨r6, s2, q3, h⟩ := p_bdE h
  have t4 := tF_Mo_noParcel K l v0 v1 s0 _ q3
  refine g_callV (a := v0) (ci := 11) (q0 := (RX11, TX11, 90)) (As := [p_i v1]) (rest := []) [p_i r6] mt_Mo_noParcel rfl rfl tw_7_219 ts_62 tw_7_217 ⟨Nat.le_of_ble_eq_true rfl, Nat.le_of_ble_eq_true rfl⟩ rfl (Nat.le_of_ble_eq_true rfl) (dk_Mo_carry 2 rfl) rfl c1 rfl t4 ?_
  have hs5 : p_x s0 s2 := t4.1
  show p_Go K l m_Mo_carry 5 [(0, p_r v0), (1, p_i v1), (2, p_i v2)] [p_i r6] s2 _
  refine g_if_ne 16 (dk_Mo_carry 3 rfl) (by decide) (fun b7 => ?_) (fun b7 => ?_)
  · have h := p_ifT b7 h
    refine g_sub [(0, p_r v0)] [0] rfl ?_
    exact tB_Mo_carry_16 K l v0 s2 _ h
  · have h := p_ifF b7 h
    refine g_aload_n (i := 0) (j := 0) (dk_Mo_carry 4 rfl) rfl rfl ?_
    refine g_iload_n (i := 2) (j := 2) (dk_Mo_carry 5 rfl) rfl rfl ?_
    obtain ⟨r12, s8, q9, h⟩ := p_bdE h
    have t10 := tF_Mo_noGear K l v0 v2 s2 _ q9
    refine g_callV (a := v0) (ci := 11) (q0 := (RX11, TX11, 90)) (As := [p_i v2]) (rest := []) [p_i r12] mt_Mo_noGear rfl rfl tw_7_106 ts_48 tw_7_104 ⟨Nat.le_of_ble_eq_true rfl, Nat.le_of_ble_eq_true rfl⟩ rfl (Nat.le_of_ble_eq_true rfl) (dk_Mo_carry 6 rfl) rfl (c1.up hs5) rfl t10 ?_
    have hs11 : p_x s2 s8 := t10.1
    show p_Go K l m_Mo_carry 13 [(0, p_r v0), (1, p_i v1), (2, p_i v2)] [p_i r12] s8 _
    refine g_if_eq 22 (dk_Mo_carry 7 rfl) (by decide) (fun b13 => ?_) (fun b13 => ?_)
    · have h := p_ifT b13 h
      refine g_aload_n (i := 0) (j := 0) (dk_Mo_carry 12 rfl) rfl rfl ?_
      refine g_iload_n (i := 2) (j := 2) (dk_Mo_carry 13 rfl) rfl rfl ?_
      obtain ⟨r18, s14, q15, h⟩ := p_bdE h
      have t16 := tF_Mo_g K l v0 v2 s8 _ q15
      refine g_callV (a := v0) (ci := 11) (q0 := (RX11, TX11, 90)) (As := [p_i v2]) (rest := []) [p_i r18] mt_Mo_g rfl rfl tw_7_84 ts_45 tw_7_82 ⟨Nat.le_of_ble_eq_true rfl, Nat.le_of_ble_eq_true rfl⟩ rfl (Nat.le_of_ble_eq_true rfl) (dk_Mo_carry 14 rfl) rfl (c1.up (hs5.trans hs11)) rfl t16 ?_
      have hs17 : p_x s8 s14 := t16.1
      show p_Go K l m_Mo_carry 27 [(0, p_r v0), (1, p_i v1), (2, p_i v2)] [p_i r18] s14 _
      refine g_istore_n (i := 3) [(3, p_i r18), (0, p_r v0), (1, p_i v1), (2, p_i v2)] (dk_Mo_carry 15 rfl) rfl (by decide) rfl ?_
      refine g_aload_n (i := 0) (j := 1) (dk_Mo_carry 16 rfl) rfl rfl ?_
      refine g_getR fl_Mo_16 (Or.inr ⟨_, rfl⟩) (dk_Mo_carry 17 rfl) (c1.up (hs5.trans (hs11.trans hs17))) ?_
      refine g_iload_n (i := 3) (j := 0) (dk_Mo_carry 18 rfl) rfl rfl ?_
      obtain ⟨c19, h⟩ := p_gdE h
      obtain ⟨c20, h⟩ := p_gdE h
      refine g_iaload (dk_Mo_carry 19 rfl) c19 c20.1 c20.2 ?_
      obtain ⟨r25, s21, q22, h⟩ := p_bdE h
      have t23 := tF_Mo_isTaker K l (p_Z s14 (p_R s14 v0 5) (r18 : Int).toNat) s14 _ q22
      refine g_callS (av := [p_i (p_Z s14 (p_R s14 v0 5) (r18 : Int).toNat)]) (rest := []) [p_i r25] mt_Mo_isTaker tw_7_79 tw_7_78 ⟨Nat.le_of_ble_eq_true rfl, Nat.le_of_ble_eq_true rfl⟩ rfl (Nat.le_of_ble_eq_true rfl) (dk_Mo_carry 20 rfl) rfl rfl t23 ?_
      have hs24 : p_x s14 s21 := t23.1
      show p_Go K l m_Mo_carry 37 [(3, p_i r18), (0, p_r v0), (1, p_i v1), (2, p_i v2)] [p_i r25] s21 _
      refine g_if_ne 46 (dk_Mo_carry 21 rfl) (by decide) (fun b26 => ?_) (fun b26 => ?_)
      · have h := p_ifT b26 h
        refine g_aload_n (i := 0) (j := 1) (dk_Mo_carry 26 rfl) rfl rfl ?_
        refine g_getR fl_Mo_69 (Or.inr ⟨_, rfl⟩) (dk_Mo_carry 27 rfl) (c1.up (hs5.trans (hs11.trans (hs17.trans hs24)))) ?_
        refine g_bipush (dk_Mo_carry 28 rfl) (by decide +kernel) (by decide) ?_
        refine g_iload_n (i := 3) (j := 0) (dk_Mo_carry 29 rfl) rfl rfl ?_
        refine g_imul (dk_Mo_carry 30 rfl) ?_
        obtain ⟨c27, h⟩ := p_gdE h
        obtain ⟨c28, h⟩ := p_gdE h
        refine g_iaload (dk_Mo_carry 31 rfl) c27 c28.1 c28.2 ?_
        refine g_if_gt 101 (dk_Mo_carry 32 rfl) (by decide) (fun b29 => ?_) (fun b29 => ?_)
        · have h := p_ifT b29 h
          refine g_sub [(0, p_r v0)] [1] rfl ?_
          exact tB_Mo_carry_101 K l v0 s21 _ h
        · have h := p_ifF b29 h
          refine g_aload_n (i := 0) (j := 1) (dk_Mo_carry 33 rfl) rfl rfl ?_
          refine g_getR fl_Mo_16 (Or.inr ⟨_, rfl⟩) (dk_Mo_carry 34 rfl) (c1.up (hs5.trans (hs11.trans (hs17.trans hs24)))) ?_
          refine g_iload_n (i := 3) (j := 0) (dk_Mo_carry 35 rfl) rfl rfl ?_
          obtain ⟨c30, h⟩ := p_gdE h
          obtain ⟨c31, h⟩ := p_gdE h
          refine g_iaload (dk_Mo_carry 36 rfl) c30 c31.1 c31.2 ?_
          refine g_bipush (dk_Mo_carry 37 rfl) (by decide +kernel) (by decide) ?_
          refine g_icmp_ne 79 (dk_Mo_carry 38 rfl) (by decide) (fun b32 => ?_) (fun b32 => ?_)
          · have h := p_ifT b32 h
            refine g_sub [(0, p_r v0), (1, p_i v1), (2, p_i v2), (3, p_i r18)] [1, 2, 3, 0] rfl ?_
            exact tB_Mo_carry_79 K l v0 v1 v2 r18 s21 _ h
          · have h := p_ifF b32 h
            refine g_aload_n (i := 0) (j := 1) (dk_Mo_carry 39 rfl) rfl rfl ?_
            refine g_getR fl_Mo_90 (Or.inr ⟨_, rfl⟩) (dk_Mo_carry 40 rfl) (c1.up (hs5.trans (hs11.trans (hs17.trans hs24)))) ?_
            refine g_iload_n (i := 1) (j := 2) (dk_Mo_carry 41 rfl) rfl rfl ?_
            obtain ⟨c33, h⟩ := p_gdE h
            obtain ⟨c34, h⟩ := p_gdE h
            refine g_iaload (dk_Mo_carry 42 rfl) c33 c34.1 c34.2 ?_
            refine g_iload_n (i := 2) (j := 3) (dk_Mo_carry 43 rfl) rfl rfl ?_
            refine g_icmp_ne 101 (dk_Mo_carry 44 rfl) (by decide) (fun b35 => ?_) (fun b35 => ?_)
            · have h := p_ifT b35 h
              refine g_sub [(0, p_r v0)] [1] rfl ?_
              exact tB_Mo_carry_101 K l v0 s21 _ h
            · have h := p_ifF b35 h
              refine g_sub [(0, p_r v0), (1, p_i v1), (2, p_i v2), (3, p_i r18)] [1, 2, 3, 0] rfl ?_
              exact tB_Mo_carry_79 K l v0 v1 v2 r18 s21 _ h
      · have h := p_ifF b26 h
        refine g_aload_n (i := 0) (j := 1) (dk_Mo_carry 22 rfl) rfl rfl ?_
        refine g_iconst (dk_Mo_carry 23 rfl) (by decide) ?_
        obtain ⟨r40, s36, q37, h⟩ := p_bdE h
        have t38 := tF_Mo_faulted K l v0 2 s21 _ q37
        refine g_callV (a := v0) (ci := 11) (q0 := (RX11, TX11, 90)) (As := [p_i 2]) (rest := []) [p_i r40] mt_Mo_faulted rfl rfl tw_7_110 ts_49 tw_7_108 ⟨Nat.le_of_ble_eq_true rfl, Nat.le_of_ble_eq_true rfl⟩ rfl (Nat.le_of_ble_eq_true rfl) (dk_Mo_carry 24 rfl) rfl (c1.up (hs5.trans (hs11.trans (hs17.trans hs24)))) rfl t38 ?_
        have hs39 : p_x s21 s36 := t38.1
        show p_Go K l m_Mo_carry 45 [(3, p_i r18), (0, p_r v0), (1, p_i v1), (2, p_i v2)] [p_i r40] s36 _
        cases h
        exact g_ret rfl rfl (dk_Mo_carry 25 rfl) (fun os => ⟨_, rfl, p_okh os⟩)
    · have h := p_ifF b13 h
      refine g_sub [(0, p_r v0)] [0] rfl ?_
      exact tB_Mo_carry_16 K l v0 s8 _ h
def m_Mo_group : p_Me := (⟨"SortWorksModel", "group", "(III)I"⟩, prog_13_method_54_code, 6, (some .int), 1, 25)
theorem mt_Mo_group : p_Mt m_Mo_group 3 := ⟨p_mem (p_tb8 (List.mem_of_getElem? (i := 30) rfl)) rfl, tw_1_12, by decide +kernel, by decide +kernel, by decide +kernel⟩
def dt_Mo_group : List (Nat × Instr × Nat) := [(0, .iload_n 1, 1), (1, .i2l, 1), (2, .lconst 0, 1), (3, .ldc2_w 373, 3), (6, .invokestatic 230, 3), (9, .ifCond .eq 9, 3), (12, .aload_n 0, 1), (13, .iconst (-1), 1), (14, .invokevirtual 240, 3), (17, .ireturn, 1), (18, .iload_n 2, 1), (19, .i2l, 1), (20, .lconst 0, 1), (21, .ldc2_w 373, 3), (24, .invokestatic 230, 3), (27, .ifCond .ne 9, 3), (30, .iload_n 3, 1), (31, .bipush 8, 2), (33, .if_icmp .le 10, 3), (36, .aload_n 0, 1), (37, .bipush (-2), 2), (39, .invokevirtual 240, 3), (42, .ireturn, 1), (43, .iload_n 3, 1), (44, .ifCond .ge 9, 3), (47, .aload_n 0, 1), (48, .iconst 5, 1), (49, .invokevirtual 270, 3), (52, .ireturn, 1), (53, .iconst 4, 1), (54, .aload_n 0, 1), (55, .getfield 227, 3), (58, .imul, 1), (59, .iload_n 1, 1), (60, .iadd, 1), (61, .istore 4, 2), (63, .aload_n 0, 1), (64, .getfield 174, 3), (67, .iload 4, 2), (69, .iload_n 3, 1), (70, .iastore, 1), (71, .aload_n 0, 1), (72, .getfield 177, 3), (75, .iload 4, 2), (77, .iload_n 2, 1), (78, .iastore, 1), (79, .iconst 0, 1), (80, .istore 5, 2), (82, .iload 5, 2), (84, .bipush 8, 2), (86, .if_icmp .ge 23, 3), (89, .aload_n 0, 1), (90, .getfield 180, 3), (93, .bipush 8, 2), (95, .iload 4, 2), (97, .imul, 1), (98, .iload 5, 2), (100, .iadd, 1), (101, .iconst 0, 1), (102, .iastore, 1), (103, .iinc 5 1, 3), (106, .goto (-24), 3), (109, .aload_n 0, 1), (110, .iload_n 3, 1), (111, .invokevirtual 244, 3), (114, .ireturn, 1)]
theorem dk_Mo_group (i : Nat) {pc : Nat} {ins : Instr} {len : Nat} (h : dt_Mo_group[i]? = some (pc, ins, len)) : decode m_Mo_group.2.1 pc = .ok (ins, len) := p_dk (b := m_Mo_group.2.1) (t := dt_Mo_group) (by decide +kernel) i h
def B_Mo_group_36  (v0 : Nat) (s0 : p_Hp) : Option (Int × p_Hp) :=
  p_gd (p_is s0 v0 11) <|
  p_bd (F_Mo_refused v0 (-2) s0) fun r6 s2 =>
  some (r6, s2)
def L_Mo_group_82 (k82 : Nat → Int → Int → Int → p_Hp → Option (Int × p_Hp)) (v0 : Nat) (v3 : Int) (v4 : Int) (v5 : Int) (s0 : p_Hp) : Option (Int × p_Hp) :=
  if 8 ≤ v5 then
    p_gd (p_is s0 v0 11) <|
    p_bd (F_Mo_well v0 v3 s0) fun r7 s3 =>
    some (r7, s3)
  else
    p_gd (p_is s0 v0 11) <|
    p_gd (p_is s0 (p_R s0 v0 61) 100) <|
    p_gd ((0 : Int) ≤ (p_w ((p_w (8 * v4)) + v5)) ∧ (p_w ((p_w (8 * v4)) + v5)) < (p_L s0 (p_R s0 v0 61) : Int)) <|
    p_bi (p_wZ s0 (p_R s0 v0 61) ((p_w ((p_w (8 * v4)) + v5)) : Int).toNat 0) fun s11 =>
    p_bi (p_w (v5 + 1)) fun x13 =>
    k82 v0 v3 v4 x13 s11
def O_Mo_group_82  : Nat → Nat → Int → Int → Int → p_Hp → Option (Int × p_Hp)
  | 0 => fun _ _ _ _ _ => none
  | n + 1 => L_Mo_group_82 (O_Mo_group_82 n)
def F_Mo_group (v0 : Nat) (v1 : Int) (v2 : Int) (v3 : Int) (s0 : p_Hp) : Option (Int × p_Hp) :=
  p_bd (F_Mo_beyond v1 0 3 s0) fun r5 s1 =>
  if r5 = 0 then
    p_bd (F_Mo_beyond v2 0 3 s1) fun r11 s7 =>
    if r11 ≠ 0 then
      B_Mo_group_36 v0 s7
    else
      if v3 ≤ 8 then
        if 0 ≤ v3 then
          p_gd (p_is s7 v0 11) <|
          p_bi ((p_w ((p_w (4 * (p_Z s7 v0 0))) + v1))) fun x16 =>
          p_gd (p_is s7 (p_R s7 v0 59) 100) <|
          p_gd ((0 : Int) ≤ x16 ∧ x16 < (p_L s7 (p_R s7 v0 59) : Int)) <|
          p_bi (p_wZ s7 (p_R s7 v0 59) (x16 : Int).toNat v3) fun s19 =>
          p_gd (p_is s19 (p_R s19 v0 60) 100) <|
          p_gd ((0 : Int) ≤ x16 ∧ x16 < (p_L s19 (p_R s19 v0 60) : Int)) <|
          p_bi (p_wZ s19 (p_R s19 v0 60) (x16 : Int).toNat v2) fun s23 =>
          O_Mo_group_82 3000 v0 v3 x16 0 s23
        else
          p_gd (p_is s7 v0 11) <|
          p_bd (F_Mo_faulted v0 5 s7) fun r30 s26 =>
          some (r30, s26)
      else
        B_Mo_group_36 v0 s7
  else
    p_gd (p_is s1 v0 11) <|
    p_bd (F_Mo_refused v0 (-1) s1) fun r36 s32 =>
    some (r36, s32)
set_option maxRecDepth 100000 in
set_option maxHeartbeats 4000000 in
theorem tB_Mo_group_36 (K : p_K) (l : Launch)  (v0 : Nat) (s0 : p_Hp) (r : (Int × p_Hp)) (h : B_Mo_group_36 v0 s0 = some r) : p_Go K l m_Mo_group 36 [(0, p_r v0)] [] s0 (some (p_i r.1), r.2) := by
  unfold B_Mo_group_36 at h
  refine g_aload_n (i := 0) (j := 0) (dk_Mo_group 19 rfl) rfl rfl ?_
  refine g_bipush (dk_Mo_group 20 rfl) (by decide +kernel) (by decide) ?_
  obtain ⟨c1, h⟩ := p_gdE h
  obtain ⟨r6, s2, q3, h⟩ := p_bdE h
  have t4 := tF_Mo_refused K l v0 (-2) s0 _ q3
  refine g_callV (a := v0) (ci := 11) (q0 := (RX11, TX11, 90)) (As := [p_i (-2)]) (rest := []) [p_i r6] mt_Mo_refused rfl rfl tw_7_67 ts_43 tw_7_65 ⟨Nat.le_of_ble_eq_true rfl, Nat.le_of_ble_eq_true rfl⟩ rfl (Nat.le_of_ble_eq_true rfl) (dk_Mo_group 21 rfl) rfl c1 rfl t4 ?_
  have hs5 : p_x s0 s2 := t4.1
  show p_Go K l m_Mo_group 42 [(0, p_r v0)] [p_i r6] s2 _
  cases h
  exact g_ret rfl rfl (dk_Mo_group 22 rfl) (fun os => ⟨_, rfl, p_okh os⟩)
set_option maxRecDepth 100000 in
set_option maxHeartbeats 4000000 in
theorem tL_Mo_group_82 (K : p_K) (l : Launch) (k82 : Nat → Int → Int → Int → p_Hp → Option (Int × p_Hp)) (hk82 : ∀ (v0 : Nat) (v3 : Int) (v4 : Int) (v5 : Int)  (s0 : p_Hp) (r : (Int × p_Hp)), k82 v0 v3 v4 v5 s0 = some r → p_Go K l m_Mo_group 82 [(0, p_r v0), (3, p_i v3), (4, p_i v4), (5, p_i v5)] [] s0 (some (p_i r.1), r.2)) (v0 : Nat) (v3 : Int) (v4 : Int) (v5 : Int) (s0 : p_Hp) (r : (Int × p_Hp)) (h : L_Mo_group_82 k82 v0 v3 v4 v5 s0 = some r) : p_Go K l m_Mo_group 82 [(0, p_r v0), (3, p_i v3), (4, p_i v4), (5, p_i v5)] [] s0 (some (p_i r.1), r.2) := by
  unfold L_Mo_group_82 at h
  refine g_iload (j := 3) (dk_Mo_group 48 rfl) rfl ?_
  refine g_bipush (dk_Mo_group 49 rfl) (by decide +kernel) (by decide) ?_
  refine g_icmp_ge 109 (dk_Mo_group 50 rfl) (by decide) (fun b1 => ?_) (fun b1 => ?_)
  · have h := p_ifT b1 h
    refine g_aload_n (i := 0) (j := 0) (dk_Mo_group 62 rfl) rfl rfl ?_
    refine g_iload_n (i := 3) (j := 1) (dk_Mo_group 63 rfl) rfl rfl ?_
    obtain ⟨c2, h⟩ := p_gdE h
    obtain ⟨r7, s3, q4, h⟩ := p_bdE h
    have t5 := tF_Mo_well K l v0 v3 s0 _ q4
    refine g_callV (a := v0) (ci := 11) (q0 := (RX11, TX11, 90)) (As := [p_i v3]) (rest := []) [p_i r7] mt_Mo_well rfl rfl tw_7_71 ts_44 tw_7_69 ⟨Nat.le_of_ble_eq_true rfl, Nat.le_of_ble_eq_true rfl⟩ rfl (Nat.le_of_ble_eq_true rfl) (dk_Mo_group 64 rfl) rfl c2 rfl t5 ?_
    have hs6 : p_x s0 s3 := t5.1
    show p_Go K l m_Mo_group 114 [(0, p_r v0), (3, p_i v3), (4, p_i v4), (5, p_i v5)] [p_i r7] s3 _
    cases h
    exact g_ret rfl rfl (dk_Mo_group 65 rfl) (fun os => ⟨_, rfl, p_okh os⟩)
  · have h := p_ifF b1 h
    refine g_aload_n (i := 0) (j := 0) (dk_Mo_group 51 rfl) rfl rfl ?_
    obtain ⟨c8, h⟩ := p_gdE h
    refine g_getR fl_Mo_180 (Or.inr ⟨_, rfl⟩) (dk_Mo_group 52 rfl) c8 ?_
    refine g_bipush (dk_Mo_group 53 rfl) (by decide +kernel) (by decide) ?_
    refine g_iload (j := 2) (dk_Mo_group 54 rfl) rfl ?_
    refine g_imul (dk_Mo_group 55 rfl) ?_
    refine g_iload (j := 3) (dk_Mo_group 56 rfl) rfl ?_
    refine g_iadd (dk_Mo_group 57 rfl) ?_
    refine g_iconst (dk_Mo_group 58 rfl) (by decide) ?_
    obtain ⟨c9, h⟩ := p_gdE h
    obtain ⟨c10, h⟩ := p_gdE h
    refine g_iastore (dk_Mo_group 59 rfl) c9 c10.1 c10.2 ?_
    refine p_ltS (P := fun q => p_Go K l m_Mo_group 103 [(0, p_r v0), (3, p_i v3), (4, p_i v4), (5, p_i v5)] [] q _) (p_xZ _ _ _ _) ?_ h
    intro s11 hs12 h
    refine g_iinc (j := 3) [(5, p_i (p_w (v5 + 1))), (0, p_r v0), (3, p_i v3), (4, p_i v4)] (dk_Mo_group 60 rfl) rfl (by decide) rfl ?_
    refine p_ltG (P := fun q => p_Go K l m_Mo_group 106 [(5, p_i q), (0, p_r v0), (3, p_i v3), (4, p_i v4)] [] s11 _) ?_ h
    intro x13 h
    refine g_goto 82 (dk_Mo_group 61 rfl) (by decide) ?_
    refine g_sub [(0, p_r v0), (3, p_i v3), (4, p_i v4), (5, p_i x13)] [1, 2, 3, 0] rfl ?_
    exact hk82 v0 v3 v4 x13 s11 _ h
set_option maxRecDepth 100000 in
set_option maxHeartbeats 4000000 in
theorem tO_Mo_group_82 (K : p_K) (l : Launch)  : ∀ (n : Nat) (v0 : Nat) (v3 : Int) (v4 : Int) (v5 : Int) (s0 : p_Hp) (r : (Int × p_Hp)), O_Mo_group_82 n v0 v3 v4 v5 s0 = some r → p_Go K l m_Mo_group 82 [(0, p_r v0), (3, p_i v3), (4, p_i v4), (5, p_i v5)] [] s0 (some (p_i r.1), r.2) := by
  intro n
  induction n with
  | zero => intro v0 v3 v4 v5 s0 r h; cases (show (none : Option (Int × p_Hp)) = some r from h)
  | succ n ih => intro v0 v3 v4 v5 s0 r h; exact tL_Mo_group_82 K l _ ih v0 v3 v4 v5 s0 r h
set_option maxRecDepth 100000 in
set_option maxHeartbeats 4000000 in
theorem tF_Mo_group (K : p_K) (l : Launch) (v0 : Nat) (v1 : Int) (v2 : Int) (v3 : Int) (s0 : p_Hp) (r : (Int × p_Hp)) (h : F_Mo_group v0 v1 v2 v3 s0 = some r) : p_Ct K l m_Mo_group [p_r v0, p_i v1, p_i v2, p_i v3] s0 (some (p_i r.1), r.2) := by
  refine p_Ct.of (by decide +kernel) (Nat.le_of_ble_eq_true rfl) ?_
  unfold F_Mo_group at h
  show p_Go K l m_Mo_group 0 [(0, p_r v0), (1, p_i v1), (2, p_i v2), (3, p_i v3)] [] s0 _
  refine g_iload_n (i := 1) (j := 1) (dk_Mo_group 0 rfl) rfl rfl ?_
  refine g_i2l (dk_Mo_group 1 rfl) ?_
  refine g_lconst (x := 0) (dk_Mo_group 2 rfl) rfl (by decide) ?_
  refine g_ldc2_w (x := 3) (dk_Mo_group 3 rfl) tw_8_31 (by decide) (by decide) ?_
  obtain ⟨r5, s1, q2, h⟩ := p_bdE h
  have t3 := tF_Mo_beyond K l v1 0 3 s0 _ q2
  refine g_callS (av := [p_j v1, p_j 0, p_j 3]) (rest := []) [p_i r5] mt_Mo_beyond tw_7_63 tw_7_62 ⟨Nat.le_of_ble_eq_true rfl, Nat.le_of_ble_eq_true rfl⟩ rfl (Nat.le_of_ble_eq_true rfl) (dk_Mo_group 4 rfl) rfl rfl t3 ?_
  have hs4 : p_x s0 s1 := t3.1
  show p_Go K l m_Mo_group 9 [(0, p_r v0), (1, p_i v1), (2, p_i v2), (3, p_i v3)] [p_i r5] s1 _
  refine g_if_eq 18 (dk_Mo_group 5 rfl) (by decide) (fun b6 => ?_) (fun b6 => ?_)
  · have h := p_ifT b6 h
    refine g_iload_n (i := 2) (j := 2) (dk_Mo_group 10 rfl) rfl rfl ?_
    refine g_i2l (dk_Mo_group 11 rfl) ?_
    refine g_lconst (x := 0) (dk_Mo_group 12 rfl) rfl (by decide) ?_
    refine g_ldc2_w (x := 3) (dk_Mo_group 13 rfl) tw_8_31 (by decide) (by decide) ?_
    obtain ⟨r11, s7, q8, h⟩ := p_bdE h
    have t9 := tF_Mo_beyond K l v2 0 3 s1 _ q8
    refine g_callS (av := [p_j v2, p_j 0, p_j 3]) (rest := []) [p_i r11] mt_Mo_beyond tw_7_63 tw_7_62 ⟨Nat.le_of_ble_eq_true rfl, Nat.le_of_ble_eq_true rfl⟩ rfl (Nat.le_of_ble_eq_true rfl) (dk_Mo_group 14 rfl) rfl rfl t9 ?_
    have hs10 : p_x s1 s7 := t9.1
    show p_Go K l m_Mo_group 27 [(0, p_r v0), (1, p_i v1), (2, p_i v2), (3, p_i v3)] [p_i r11] s7 _
    refine g_if_ne 36 (dk_Mo_group 15 rfl) (by decide) (fun b12 => ?_) (fun b12 => ?_)
    · have h := p_ifT b12 h
      refine g_sub [(0, p_r v0)] [0] rfl ?_
      exact tB_Mo_group_36 K l v0 s7 _ h
    · have h := p_ifF b12 h
      refine g_iload_n (i := 3) (j := 3) (dk_Mo_group 16 rfl) rfl rfl ?_
      refine g_bipush (dk_Mo_group 17 rfl) (by decide +kernel) (by decide) ?_
      refine g_icmp_le 43 (dk_Mo_group 18 rfl) (by decide) (fun b13 => ?_) (fun b13 => ?_)
      · have h := p_ifT b13 h
        refine g_iload_n (i := 3) (j := 3) (dk_Mo_group 23 rfl) rfl rfl ?_
        refine g_if_ge 53 (dk_Mo_group 24 rfl) (by decide) (fun b14 => ?_) (fun b14 => ?_)
        · have h := p_ifT b14 h
          refine g_iconst (dk_Mo_group 29 rfl) (by decide) ?_
          refine g_aload_n (i := 0) (j := 0) (dk_Mo_group 30 rfl) rfl rfl ?_
          obtain ⟨c15, h⟩ := p_gdE h
          refine g_getI fl_Mo_227 (Or.inl rfl) (dk_Mo_group 31 rfl) c15 ?_
          refine g_imul (dk_Mo_group 32 rfl) ?_
          refine g_iload_n (i := 1) (j := 1) (dk_Mo_group 33 rfl) rfl rfl ?_
          refine g_iadd (dk_Mo_group 34 rfl) ?_
          refine g_istore [(4, p_i (p_w ((p_w (4 * (p_Z s7 v0 0))) + v1))), (0, p_r v0), (1, p_i v1), (2, p_i v2), (3, p_i v3)] (dk_Mo_group 35 rfl) (by decide) rfl ?_
          refine p_ltG (P := fun q => p_Go K l m_Mo_group 63 [(4, p_i q), (0, p_r v0), (1, p_i v1), (2, p_i v2), (3, p_i v3)] [] s7 _) ?_ h
          intro x16 h
          refine g_aload_n (i := 0) (j := 1) (dk_Mo_group 36 rfl) rfl rfl ?_
          refine g_getR fl_Mo_174 (Or.inr ⟨_, rfl⟩) (dk_Mo_group 37 rfl) c15 ?_
          refine g_iload (j := 0) (dk_Mo_group 38 rfl) rfl ?_
          refine g_iload_n (i := 3) (j := 4) (dk_Mo_group 39 rfl) rfl rfl ?_
          obtain ⟨c17, h⟩ := p_gdE h
          obtain ⟨c18, h⟩ := p_gdE h
          refine g_iastore (dk_Mo_group 40 rfl) c17 c18.1 c18.2 ?_
          refine p_ltS (P := fun q => p_Go K l m_Mo_group 71 [(4, p_i x16), (0, p_r v0), (1, p_i v1), (2, p_i v2), (3, p_i v3)] [] q _) (p_xZ _ _ _ _) ?_ h
          intro s19 hs20 h
          refine g_aload_n (i := 0) (j := 1) (dk_Mo_group 41 rfl) rfl rfl ?_
          refine g_getR fl_Mo_177 (Or.inr ⟨_, rfl⟩) (dk_Mo_group 42 rfl) (c15.up hs20) ?_
          refine g_iload (j := 0) (dk_Mo_group 43 rfl) rfl ?_
          refine g_iload_n (i := 2) (j := 3) (dk_Mo_group 44 rfl) rfl rfl ?_
          obtain ⟨c21, h⟩ := p_gdE h
          obtain ⟨c22, h⟩ := p_gdE h
          refine g_iastore (dk_Mo_group 45 rfl) c21 c22.1 c22.2 ?_
          refine p_ltS (P := fun q => p_Go K l m_Mo_group 79 [(4, p_i x16), (0, p_r v0), (1, p_i v1), (2, p_i v2), (3, p_i v3)] [] q _) (p_xZ _ _ _ _) ?_ h
          intro s23 hs24 h
          refine g_iconst (dk_Mo_group 46 rfl) (by decide) ?_
          refine g_istore [(5, p_i 0), (4, p_i x16), (0, p_r v0), (1, p_i v1), (2, p_i v2), (3, p_i v3)] (dk_Mo_group 47 rfl) (by decide) rfl ?_
          refine g_sub [(0, p_r v0), (3, p_i v3), (4, p_i x16), (5, p_i 0)] [2, 5, 1, 0] rfl ?_
          exact tO_Mo_group_82 K l 3000 v0 v3 x16 0 s23 _ h
        · have h := p_ifF b14 h
          refine g_aload_n (i := 0) (j := 0) (dk_Mo_group 25 rfl) rfl rfl ?_
          refine g_iconst (dk_Mo_group 26 rfl) (by decide) ?_
          obtain ⟨c25, h⟩ := p_gdE h
          obtain ⟨r30, s26, q27, h⟩ := p_bdE h
          have t28 := tF_Mo_faulted K l v0 5 s7 _ q27
          refine g_callV (a := v0) (ci := 11) (q0 := (RX11, TX11, 90)) (As := [p_i 5]) (rest := []) [p_i r30] mt_Mo_faulted rfl rfl tw_7_110 ts_49 tw_7_108 ⟨Nat.le_of_ble_eq_true rfl, Nat.le_of_ble_eq_true rfl⟩ rfl (Nat.le_of_ble_eq_true rfl) (dk_Mo_group 27 rfl) rfl c25 rfl t28 ?_
          have hs29 : p_x s7 s26 := t28.1
          show p_Go K l m_Mo_group 52 [(0, p_r v0), (1, p_i v1), (2, p_i v2), (3, p_i v3)] [p_i r30] s26 _
          cases h
          exact g_ret rfl rfl (dk_Mo_group 28 rfl) (fun os => ⟨_, rfl, p_okh os⟩)
      · have h := p_ifF b13 h
        refine g_sub [(0, p_r v0)] [0] rfl ?_
        exact tB_Mo_group_36 K l v0 s7 _ h
  · have h := p_ifF b6 h
    refine g_aload_n (i := 0) (j := 0) (dk_Mo_group 6 rfl) rfl rfl ?_
    refine g_iconst (dk_Mo_group 7 rfl) (by decide) ?_
    obtain ⟨c31, h⟩ := p_gdE h
    obtain ⟨r36, s32, q33, h⟩ := p_bdE h
    have t34 := tF_Mo_refused K l v0 (-1) s1 _ q33
    refine g_callV (a := v0) (ci := 11) (q0 := (RX11, TX11, 90)) (As := [p_i (-1)]) (rest := []) [p_i r36] mt_Mo_refused rfl rfl tw_7_67 ts_43 tw_7_65 ⟨Nat.le_of_ble_eq_true rfl, Nat.le_of_ble_eq_true rfl⟩ rfl (Nat.le_of_ble_eq_true rfl) (dk_Mo_group 8 rfl) rfl c31 rfl t34 ?_
    have hs35 : p_x s1 s32 := t34.1
    show p_Go K l m_Mo_group 17 [(0, p_r v0), (1, p_i v1), (2, p_i v2), (3, p_i v3)] [p_i r36] s32 _
    cases h
    exact g_ret rfl rfl (dk_Mo_group 9 rfl) (fun os => ⟨_, rfl, p_okh os⟩)
def m_Mo_isOfType : p_Me := (⟨"SortWorksModel", "isOfType", "(II)Z"⟩, prog_13_method_55_code, 2, (some .boolean), 1, 20)
theorem mt_Mo_isOfType : p_Mt m_Mo_isOfType 2 := ⟨p_mem (p_tb8 (List.mem_of_getElem? (i := 38) rfl)) rfl, tw_1_12, by decide +kernel, by decide +kernel, by decide +kernel⟩
def dt_Mo_isOfType : List (Nat × Instr × Nat) := [(0, .iload_n 0, 1), (1, .ifCond .eq 40, 3), (4, .iload_n 0, 1), (5, .iconst 1, 1), (6, .if_icmp .ne 8, 3), (9, .iload_n 1, 1), (10, .iconst 5, 1), (11, .if_icmp .lt 30, 3), (14, .iload_n 0, 1), (15, .iconst 2, 1), (16, .if_icmp .ne 13, 3), (19, .iload_n 1, 1), (20, .iconst 3, 1), (21, .if_icmp .eq 20, 3), (24, .iload_n 1, 1), (25, .iconst 4, 1), (26, .if_icmp .eq 15, 3), (29, .iload_n 0, 1), (30, .iconst 3, 1), (31, .if_icmp .ne 14, 3), (34, .iload_n 1, 1), (35, .invokestatic 342, 3), (38, .ifCond .eq 7, 3), (41, .iconst 1, 1), (42, .goto 4, 3), (45, .iconst 0, 1), (46, .ireturn, 1)]
theorem dk_Mo_isOfType (i : Nat) {pc : Nat} {ins : Instr} {len : Nat} (h : dt_Mo_isOfType[i]? = some (pc, ins, len)) : decode m_Mo_isOfType.2.1 pc = .ok (ins, len) := p_dk (b := m_Mo_isOfType.2.1) (t := dt_Mo_isOfType) (by decide +kernel) i h
def B_Mo_isOfType_41   (s0 : p_Hp) : Option (Int × p_Hp) :=
  some (1, s0)
def B_Mo_isOfType_29  (v0 : Int) (v1 : Int) (s0 : p_Hp) : Option (Int × p_Hp) :=
  if v0 ≠ 3 then
    some (0, s0)
  else
    p_bd (F_Mo_isChute v1 s0) fun r6 s2 =>
    if r6 = 0 then
      some (0, s2)
    else
      B_Mo_isOfType_41 s2
def B_Mo_isOfType_14  (v0 : Int) (v1 : Int) (s0 : p_Hp) : Option (Int × p_Hp) :=
  if v0 ≠ 2 then
    B_Mo_isOfType_29 v0 v1 s0
  else
    if v1 = 3 then
      B_Mo_isOfType_41 s0
    else
      if v1 = 4 then
        B_Mo_isOfType_41 s0
      else
        B_Mo_isOfType_29 v0 v1 s0
def F_Mo_isOfType (v0 : Int) (v1 : Int) (s0 : p_Hp) : Option (Int × p_Hp) :=
  if v0 = 0 then
    B_Mo_isOfType_41 s0
  else
    if v0 ≠ 1 then
      B_Mo_isOfType_14 v0 v1 s0
    else
      if v1 < 5 then
        B_Mo_isOfType_41 s0
      else
        B_Mo_isOfType_14 v0 v1 s0
set_option maxRecDepth 100000 in
set_option maxHeartbeats 4000000 in
theorem tB_Mo_isOfType_41 (K : p_K) (l : Launch)   (s0 : p_Hp) (r : (Int × p_Hp)) (h : B_Mo_isOfType_41  s0 = some r) : p_Go K l m_Mo_isOfType 41 [] [] s0 (some (p_i r.1), r.2) := by
  unfold B_Mo_isOfType_41 at h
  refine g_iconst (dk_Mo_isOfType 23 rfl) (by decide) ?_
  refine g_goto 46 (dk_Mo_isOfType 24 rfl) (by decide) ?_
  cases h
  exact g_ret rfl rfl (dk_Mo_isOfType 26 rfl) (fun _ => ⟨_, rfl, Or.inr rfl⟩)
set_option maxRecDepth 100000 in
set_option maxHeartbeats 4000000 in
theorem tB_Mo_isOfType_29 (K : p_K) (l : Launch)  (v0 : Int) (v1 : Int) (s0 : p_Hp) (r : (Int × p_Hp)) (h : B_Mo_isOfType_29 v0 v1 s0 = some r) : p_Go K l m_Mo_isOfType 29 [(0, p_i v0), (1, p_i v1)] [] s0 (some (p_i r.1), r.2) := by
  unfold B_Mo_isOfType_29 at h
  refine g_iload_n (i := 0) (j := 0) (dk_Mo_isOfType 17 rfl) rfl rfl ?_
  refine g_iconst (dk_Mo_isOfType 18 rfl) (by decide) ?_
  refine g_icmp_ne 45 (dk_Mo_isOfType 19 rfl) (by decide) (fun b1 => ?_) (fun b1 => ?_)
  · have h := p_ifT b1 h
    refine g_iconst (dk_Mo_isOfType 25 rfl) (by decide) ?_
    cases h
    exact g_ret rfl rfl (dk_Mo_isOfType 26 rfl) (fun _ => ⟨_, rfl, Or.inl rfl⟩)
  · have h := p_ifF b1 h
    refine g_iload_n (i := 1) (j := 1) (dk_Mo_isOfType 20 rfl) rfl rfl ?_
    obtain ⟨r6, s2, q3, h⟩ := p_bdE h
    have t4 := tF_Mo_isChute K l v1 s0 _ q3
    refine g_callS (av := [p_i v1]) (rest := []) [p_i r6] mt_Mo_isChute tw_7_199 tw_7_198 ⟨Nat.le_of_ble_eq_true rfl, Nat.le_of_ble_eq_true rfl⟩ rfl (Nat.le_of_ble_eq_true rfl) (dk_Mo_isOfType 21 rfl) rfl rfl t4 ?_
    have hs5 : p_x s0 s2 := t4.1
    show p_Go K l m_Mo_isOfType 38 [(0, p_i v0), (1, p_i v1)] [p_i r6] s2 _
    refine g_if_eq 45 (dk_Mo_isOfType 22 rfl) (by decide) (fun b7 => ?_) (fun b7 => ?_)
    · have h := p_ifT b7 h
      refine g_iconst (dk_Mo_isOfType 25 rfl) (by decide) ?_
      cases h
      exact g_ret rfl rfl (dk_Mo_isOfType 26 rfl) (fun _ => ⟨_, rfl, Or.inl rfl⟩)
    · have h := p_ifF b7 h
      refine g_sub [] [] rfl ?_
      exact tB_Mo_isOfType_41 K l s2 _ h
set_option maxRecDepth 100000 in
set_option maxHeartbeats 4000000 in
theorem tB_Mo_isOfType_14 (K : p_K) (l : Launch)  (v0 : Int) (v1 : Int) (s0 : p_Hp) (r : (Int × p_Hp)) (h : B_Mo_isOfType_14 v0 v1 s0 = some r) : p_Go K l m_Mo_isOfType 14 [(0, p_i v0), (1, p_i v1)] [] s0 (some (p_i r.1), r.2) := by
  unfold B_Mo_isOfType_14 at h
  refine g_iload_n (i := 0) (j := 0) (dk_Mo_isOfType 8 rfl) rfl rfl ?_
  refine g_iconst (dk_Mo_isOfType 9 rfl) (by decide) ?_
  refine g_icmp_ne 29 (dk_Mo_isOfType 10 rfl) (by decide) (fun b1 => ?_) (fun b1 => ?_)
  · have h := p_ifT b1 h
    exact tB_Mo_isOfType_29 K l v0 v1 s0 _ h
  · have h := p_ifF b1 h
    refine g_iload_n (i := 1) (j := 1) (dk_Mo_isOfType 11 rfl) rfl rfl ?_
    refine g_iconst (dk_Mo_isOfType 12 rfl) (by decide) ?_
    refine g_icmp_eq 41 (dk_Mo_isOfType 13 rfl) (by decide) (fun b2 => ?_) (fun b2 => ?_)
    · have h := p_ifT b2 h
      refine g_sub [] [] rfl ?_
      exact tB_Mo_isOfType_41 K l s0 _ h
    · have h := p_ifF b2 h
      refine g_iload_n (i := 1) (j := 1) (dk_Mo_isOfType 14 rfl) rfl rfl ?_
      refine g_iconst (dk_Mo_isOfType 15 rfl) (by decide) ?_
      refine g_icmp_eq 41 (dk_Mo_isOfType 16 rfl) (by decide) (fun b3 => ?_) (fun b3 => ?_)
      · have h := p_ifT b3 h
        refine g_sub [] [] rfl ?_
        exact tB_Mo_isOfType_41 K l s0 _ h
      · have h := p_ifF b3 h
        exact tB_Mo_isOfType_29 K l v0 v1 s0 _ h
set_option maxRecDepth 100000 in
set_option maxHeartbeats 4000000 in
theorem tF_Mo_isOfType (K : p_K) (l : Launch) (v0 : Int) (v1 : Int) (s0 : p_Hp) (r : (Int × p_Hp)) (h : F_Mo_isOfType v0 v1 s0 = some r) : p_Ct K l m_Mo_isOfType [p_i v0, p_i v1] s0 (some (p_i r.1), r.2) := by
  refine p_Ct.of (by decide +kernel) (Nat.le_of_ble_eq_true rfl) ?_
  unfold F_Mo_isOfType at h
  show p_Go K l m_Mo_isOfType 0 [(0, p_i v0), (1, p_i v1)] [] s0 _
  refine g_iload_n (i := 0) (j := 0) (dk_Mo_isOfType 0 rfl) rfl rfl ?_
  refine g_if_eq 41 (dk_Mo_isOfType 1 rfl) (by decide) (fun b1 => ?_) (fun b1 => ?_)
  · have h := p_ifT b1 h
    refine g_sub [] [] rfl ?_
    exact tB_Mo_isOfType_41 K l s0 _ h
  · have h := p_ifF b1 h
    refine g_iload_n (i := 0) (j := 0) (dk_Mo_isOfType 2 rfl) rfl rfl ?_
    refine g_iconst (dk_Mo_isOfType 3 rfl) (by decide) ?_
    refine g_icmp_ne 14 (dk_Mo_isOfType 4 rfl) (by decide) (fun b2 => ?_) (fun b2 => ?_)
    · have h := p_ifT b2 h
      exact tB_Mo_isOfType_14 K l v0 v1 s0 _ h
    · have h := p_ifF b2 h
      refine g_iload_n (i := 1) (j := 1) (dk_Mo_isOfType 5 rfl) rfl rfl ?_
      refine g_iconst (dk_Mo_isOfType 6 rfl) (by decide) ?_
      refine g_icmp_lt 41 (dk_Mo_isOfType 7 rfl) (by decide) (fun b3 => ?_) (fun b3 => ?_)
      · have h := p_ifT b3 h
        refine g_sub [] [] rfl ?_
        exact tB_Mo_isOfType_41 K l s0 _ h
      · have h := p_ifF b3 h
        exact tB_Mo_isOfType_14 K l v0 v1 s0 _ h
def m_Mo_enter : p_Me := (⟨"SortWorksModel", "enter", "(III)I"⟩, prog_13_method_56_code, 6, (some .int), 2, 46)
theorem mt_Mo_enter : p_Mt m_Mo_enter 3 := ⟨p_mem (p_tb8 (List.mem_of_getElem? (i := 35) rfl)) rfl, tw_1_12, by decide +kernel, by decide +kernel, by decide +kernel⟩
def dt_Mo_enter : List (Nat × Instr × Nat) := [(0, .iload_n 1, 1), (1, .i2l, 1), (2, .lconst 0, 1), (3, .ldc2_w 373, 3), (6, .invokestatic 230, 3), (9, .ifCond .ne 11, 3), (12, .aload_n 0, 1), (13, .iload_n 3, 1), (14, .invokevirtual 267, 3), (17, .ifCond .eq 9, 3), (20, .aload_n 0, 1), (21, .iconst (-1), 1), (22, .invokevirtual 240, 3), (25, .ireturn, 1), (26, .iconst 4, 1), (27, .aload_n 0, 1), (28, .getfield 227, 3), (31, .imul, 1), (32, .iload_n 1, 1), (33, .iadd, 1), (34, .istore 4, 2), (36, .aload_n 0, 1), (37, .getfield 174, 3), (40, .iload 4, 2), (42, .iaload, 1), (43, .ifCond .ge 7, 3), (46, .iconst 1, 1), (47, .goto 54, 3), (50, .iload_n 2, 1), (51, .i2l, 1), (52, .lconst 0, 1), (53, .aload_n 0, 1), (54, .getfield 174, 3), (57, .iload 4, 2), (59, .iaload, 1), (60, .iconst 1, 1), (61, .isub, 1), (62, .i2l, 1), (63, .invokestatic 230, 3), (66, .ifCond .eq 7, 3), (69, .iconst 3, 1), (70, .goto 31, 3), (73, .aload_n 0, 1), (74, .getfield 177, 3), (77, .iload 4, 2), (79, .iaload, 1), (80, .aload_n 0, 1), (81, .getfield 16, 3), (84, .aload_n 0, 1), (85, .iload_n 3, 1), (86, .invokevirtual 257, 3), (89, .iaload, 1), (90, .invokestatic 375, 3), (93, .ifCond .ne 7, 3), (96, .iconst 4, 1), (97, .goto 4, 3), (100, .iconst 0, 1), (101, .istore 5, 2), (103, .iload 5, 2), (105, .ifCond .le 10, 3), (108, .aload_n 0, 1), (109, .iload 5, 2), (111, .invokevirtual 270, 3), (114, .ireturn, 1), (115, .aload_n 0, 1), (116, .getfield 180, 3), (119, .bipush 8, 2), (121, .iload 4, 2), (123, .imul, 1), (124, .iload_n 2, 1), (125, .iadd, 1), (126, .iconst 1, 1), (127, .iload_n 3, 1), (128, .iadd, 1), (129, .iastore, 1), (130, .aload_n 0, 1), (131, .iconst 1, 1), (132, .invokevirtual 244, 3), (135, .ireturn, 1)]
theorem dk_Mo_enter (i : Nat) {pc : Nat} {ins : Instr} {len : Nat} (h : dt_Mo_enter[i]? = some (pc, ins, len)) : decode m_Mo_enter.2.1 pc = .ok (ins, len) := p_dk (b := m_Mo_enter.2.1) (t := dt_Mo_enter) (by decide +kernel) i h
def B_Mo_enter_20  (v0 : Nat) (s0 : p_Hp) : Option (Int × p_Hp) :=
  p_gd (p_is s0 v0 11) <|
  p_bd (F_Mo_refused v0 (-1) s0) fun r6 s2 =>
  some (r6, s2)
def B_Mo_enter_101  (v0 : Nat) (v2 : Int) (v3 : Int) (v4 : Int) (w0 : Int) (s0 : p_Hp) : Option (Int × p_Hp) :=
  if w0 ≤ 0 then
    p_gd (p_is s0 v0 11) <|
    p_gd (p_is s0 (p_R s0 v0 61) 100) <|
    p_gd ((0 : Int) ≤ (p_w ((p_w (8 * v4)) + v2)) ∧ (p_w ((p_w (8 * v4)) + v2)) < (p_L s0 (p_R s0 v0 61) : Int)) <|
    p_bi (p_wZ s0 (p_R s0 v0 61) ((p_w ((p_w (8 * v4)) + v2)) : Int).toNat (p_w (1 + v3))) fun s5 =>
    p_bd (F_Mo_well v0 1 s5) fun r11 s7 =>
    some (r11, s7)
  else
    p_gd (p_is s0 v0 11) <|
    p_bd (F_Mo_faulted v0 w0 s0) fun r17 s13 =>
    some (r17, s13)
def F_Mo_enter (v0 : Nat) (v1 : Int) (v2 : Int) (v3 : Int) (s0 : p_Hp) : Option (Int × p_Hp) :=
  p_bd (F_Mo_beyond v1 0 3 s0) fun r5 s1 =>
  if r5 ≠ 0 then
    B_Mo_enter_20 v0 s1
  else
    p_gd (p_is s1 v0 11) <|
    p_bd (F_Mo_noGear v0 v3 s1) fun r12 s8 =>
    if r12 = 0 then
      p_bi ((p_w ((p_w (4 * (p_Z s8 v0 0))) + v1))) fun x14 =>
      p_gd (p_is s8 (p_R s8 v0 59) 100) <|
      p_gd ((0 : Int) ≤ x14 ∧ x14 < (p_L s8 (p_R s8 v0 59) : Int)) <|
      if 0 ≤ (p_Z s8 (p_R s8 v0 59) (x14 : Int).toNat) then
        p_gd ((0 : Int) ≤ x14 ∧ x14 < (p_L s8 (p_R s8 v0 59) : Int)) <|
        p_bd (F_Mo_beyond v2 0 (p_w ((p_Z s8 (p_R s8 v0 59) (x14 : Int).toNat) - 1)) s8) fun r23 s19 =>
        if r23 = 0 then
          p_gd (p_is s19 (p_R s19 v0 60) 100) <|
          p_gd ((0 : Int) ≤ x14 ∧ x14 < (p_L s19 (p_R s19 v0 60) : Int)) <|
          p_bd (F_Mo_g v0 v3 s19) fun r31 s27 =>
          p_gd (p_is s27 (p_R s19 v0 5) 100) <|
          p_gd ((0 : Int) ≤ r31 ∧ r31 < (p_L s27 (p_R s19 v0 5) : Int)) <|
          p_bd (F_Mo_isOfType (p_Z s19 (p_R s19 v0 60) (x14 : Int).toNat) (p_Z s27 (p_R s19 v0 5) (r31 : Int).toNat) s27) fun r38 s34 =>
          if r38 ≠ 0 then
            B_Mo_enter_101 v0 v2 v3 x14 0 s34
          else
            B_Mo_enter_101 v0 v2 v3 x14 4 s34
        else
          B_Mo_enter_101 v0 v2 v3 x14 3 s19
      else
        B_Mo_enter_101 v0 v2 v3 x14 1 s8
    else
      B_Mo_enter_20 v0 s8
set_option maxRecDepth 100000 in
set_option maxHeartbeats 4000000 in
theorem tB_Mo_enter_20 (K : p_K) (l : Launch)  (v0 : Nat) (s0 : p_Hp) (r : (Int × p_Hp)) (h : B_Mo_enter_20 v0 s0 = some r) : p_Go K l m_Mo_enter 20 [(0, p_r v0)] [] s0 (some (p_i r.1), r.2) := by
  unfold B_Mo_enter_20 at h
  refine g_aload_n (i := 0) (j := 0) (dk_Mo_enter 10 rfl) rfl rfl ?_
  refine g_iconst (dk_Mo_enter 11 rfl) (by decide) ?_
  obtain ⟨c1, h⟩ := p_gdE h
  obtain ⟨r6, s2, q3, h⟩ := p_bdE h
  have t4 := tF_Mo_refused K l v0 (-1) s0 _ q3
  refine g_callV (a := v0) (ci := 11) (q0 := (RX11, TX11, 90)) (As := [p_i (-1)]) (rest := []) [p_i r6] mt_Mo_refused rfl rfl tw_7_67 ts_43 tw_7_65 ⟨Nat.le_of_ble_eq_true rfl, Nat.le_of_ble_eq_true rfl⟩ rfl (Nat.le_of_ble_eq_true rfl) (dk_Mo_enter 12 rfl) rfl c1 rfl t4 ?_
  have hs5 : p_x s0 s2 := t4.1
  show p_Go K l m_Mo_enter 25 [(0, p_r v0)] [p_i r6] s2 _
  cases h
  exact g_ret rfl rfl (dk_Mo_enter 13 rfl) (fun os => ⟨_, rfl, p_okh os⟩)
set_option maxRecDepth 100000 in
set_option maxHeartbeats 4000000 in
theorem tB_Mo_enter_101 (K : p_K) (l : Launch)  (v0 : Nat) (v2 : Int) (v3 : Int) (v4 : Int) (w0 : Int) (s0 : p_Hp) (r : (Int × p_Hp)) (h : B_Mo_enter_101 v0 v2 v3 v4 w0 s0 = some r) : p_Go K l m_Mo_enter 101 [(0, p_r v0), (2, p_i v2), (3, p_i v3), (4, p_i v4)] [p_i w0] s0 (some (p_i r.1), r.2) := by
  unfold B_Mo_enter_101 at h
  refine g_istore [(5, p_i w0), (0, p_r v0), (2, p_i v2), (3, p_i v3), (4, p_i v4)] (dk_Mo_enter 57 rfl) (by decide) rfl ?_
  refine g_iload (j := 0) (dk_Mo_enter 58 rfl) rfl ?_
  refine g_if_le 115 (dk_Mo_enter 59 rfl) (by decide) (fun b1 => ?_) (fun b1 => ?_)
  · have h := p_ifT b1 h
    refine g_aload_n (i := 0) (j := 1) (dk_Mo_enter 64 rfl) rfl rfl ?_
    obtain ⟨c2, h⟩ := p_gdE h
    refine g_getR fl_Mo_180 (Or.inr ⟨_, rfl⟩) (dk_Mo_enter 65 rfl) c2 ?_
    refine g_bipush (dk_Mo_enter 66 rfl) (by decide +kernel) (by decide) ?_
    refine g_iload (j := 4) (dk_Mo_enter 67 rfl) rfl ?_
    refine g_imul (dk_Mo_enter 68 rfl) ?_
    refine g_iload_n (i := 2) (j := 2) (dk_Mo_enter 69 rfl) rfl rfl ?_
    refine g_iadd (dk_Mo_enter 70 rfl) ?_
    refine g_iconst (dk_Mo_enter 71 rfl) (by decide) ?_
    refine g_iload_n (i := 3) (j := 3) (dk_Mo_enter 72 rfl) rfl rfl ?_
    refine g_iadd (dk_Mo_enter 73 rfl) ?_
    obtain ⟨c3, h⟩ := p_gdE h
    obtain ⟨c4, h⟩ := p_gdE h
    refine g_iastore (dk_Mo_enter 74 rfl) c3 c4.1 c4.2 ?_
    refine p_ltS (P := fun q => p_Go K l m_Mo_enter 130 [(5, p_i w0), (0, p_r v0), (2, p_i v2), (3, p_i v3), (4, p_i v4)] [] q _) (p_xZ _ _ _ _) ?_ h
    intro s5 hs6 h
    refine g_aload_n (i := 0) (j := 1) (dk_Mo_enter 75 rfl) rfl rfl ?_
    refine g_iconst (dk_Mo_enter 76 rfl) (by decide) ?_
    obtain ⟨r11, s7, q8, h⟩ := p_bdE h
    have t9 := tF_Mo_well K l v0 1 s5 _ q8
    refine g_callV (a := v0) (ci := 11) (q0 := (RX11, TX11, 90)) (As := [p_i 1]) (rest := []) [p_i r11] mt_Mo_well rfl rfl tw_7_71 ts_44 tw_7_69 ⟨Nat.le_of_ble_eq_true rfl, Nat.le_of_ble_eq_true rfl⟩ rfl (Nat.le_of_ble_eq_true rfl) (dk_Mo_enter 77 rfl) rfl (c2.up hs6) rfl t9 ?_
    have hs10 : p_x s5 s7 := t9.1
    show p_Go K l m_Mo_enter 135 [(5, p_i w0), (0, p_r v0), (2, p_i v2), (3, p_i v3), (4, p_i v4)] [p_i r11] s7 _
    cases h
    exact g_ret rfl rfl (dk_Mo_enter 78 rfl) (fun os => ⟨_, rfl, p_okh os⟩)
  · have h := p_ifF b1 h
    refine g_aload_n (i := 0) (j := 1) (dk_Mo_enter 60 rfl) rfl rfl ?_
    refine g_iload (j := 0) (dk_Mo_enter 61 rfl) rfl ?_
    obtain ⟨c12, h⟩ := p_gdE h
    obtain ⟨r17, s13, q14, h⟩ := p_bdE h
    have t15 := tF_Mo_faulted K l v0 w0 s0 _ q14
    refine g_callV (a := v0) (ci := 11) (q0 := (RX11, TX11, 90)) (As := [p_i w0]) (rest := []) [p_i r17] mt_Mo_faulted rfl rfl tw_7_110 ts_49 tw_7_108 ⟨Nat.le_of_ble_eq_true rfl, Nat.le_of_ble_eq_true rfl⟩ rfl (Nat.le_of_ble_eq_true rfl) (dk_Mo_enter 62 rfl) rfl c12 rfl t15 ?_
    have hs16 : p_x s0 s13 := t15.1
    show p_Go K l m_Mo_enter 114 [(5, p_i w0), (0, p_r v0), (2, p_i v2), (3, p_i v3), (4, p_i v4)] [p_i r17] s13 _
    cases h
    exact g_ret rfl rfl (dk_Mo_enter 63 rfl) (fun os => ⟨_, rfl, p_okh os⟩)
set_option maxRecDepth 100000 in
set_option maxHeartbeats 4000000 in
theorem tF_Mo_enter (K : p_K) (l : Launch) (v0 : Nat) (v1 : Int) (v2 : Int) (v3 : Int) (s0 : p_Hp) (r : (Int × p_Hp)) (h : F_Mo_enter v0 v1 v2 v3 s0 = some r) : p_Ct K l m_Mo_enter [p_r v0, p_i v1, p_i v2, p_i v3] s0 (some (p_i r.1), r.2) := by
  refine p_Ct.of (by decide +kernel) (Nat.le_of_ble_eq_true rfl) ?_
  unfold F_Mo_enter at h
  show p_Go K l m_Mo_enter 0 [(0, p_r v0), (1, p_i v1), (2, p_i v2), (3, p_i v3)] [] s0 _
  refine g_iload_n (i := 1) (j := 1) (dk_Mo_enter 0 rfl) rfl rfl ?_
  refine g_i2l (dk_Mo_enter 1 rfl) ?_
  refine g_lconst (x := 0) (dk_Mo_enter 2 rfl) rfl (by decide) ?_
  refine g_ldc2_w (x := 3) (dk_Mo_enter 3 rfl) tw_8_31 (by decide) (by decide) ?_
  obtain ⟨r5, s1, q2, h⟩ := p_bdE h
  have t3 := tF_Mo_beyond K l v1 0 3 s0 _ q2
  refine g_callS (av := [p_j v1, p_j 0, p_j 3]) (rest := []) [p_i r5] mt_Mo_beyond tw_7_63 tw_7_62 ⟨Nat.le_of_ble_eq_true rfl, Nat.le_of_ble_eq_true rfl⟩ rfl (Nat.le_of_ble_eq_true rfl) (dk_Mo_enter 4 rfl) rfl rfl t3 ?_
  have hs4 : p_x s0 s1 := t3.1
  show p_Go K l m_Mo_enter 9 [(0, p_r v0), (1, p_i v1), (2, p_i v2), (3, p_i v3)] [p_i r5] s1 _
  refine g_if_ne 20 (dk_Mo_enter 5 rfl) (by decide) (fun b6 => ?_) (fun b6 => ?_)
  · have h := p_ifT b6 h
    refine g_sub [(0, p_r v0)] [0] rfl ?_
    exact tB_Mo_enter_20 K l v0 s1 _ h
  · have h := p_ifF b6 h
    refine g_aload_n (i := 0) (j := 0) (dk_Mo_enter 6 rfl) rfl rfl ?_
    refine g_iload_n (i := 3) (j := 3) (dk_Mo_enter 7 rfl) rfl rfl ?_
    obtain ⟨c7, h⟩ := p_gdE h
    obtain ⟨r12, s8, q9, h⟩ := p_bdE h
    have t10 := tF_Mo_noGear K l v0 v3 s1 _ q9
    refine g_callV (a := v0) (ci := 11) (q0 := (RX11, TX11, 90)) (As := [p_i v3]) (rest := []) [p_i r12] mt_Mo_noGear rfl rfl tw_7_106 ts_48 tw_7_104 ⟨Nat.le_of_ble_eq_true rfl, Nat.le_of_ble_eq_true rfl⟩ rfl (Nat.le_of_ble_eq_true rfl) (dk_Mo_enter 8 rfl) rfl c7 rfl t10 ?_
    have hs11 : p_x s1 s8 := t10.1
    show p_Go K l m_Mo_enter 17 [(0, p_r v0), (1, p_i v1), (2, p_i v2), (3, p_i v3)] [p_i r12] s8 _
    refine g_if_eq 26 (dk_Mo_enter 9 rfl) (by decide) (fun b13 => ?_) (fun b13 => ?_)
    · have h := p_ifT b13 h
      refine g_iconst (dk_Mo_enter 14 rfl) (by decide) ?_
      refine g_aload_n (i := 0) (j := 0) (dk_Mo_enter 15 rfl) rfl rfl ?_
      refine g_getI fl_Mo_227 (Or.inl rfl) (dk_Mo_enter 16 rfl) (c7.up hs11) ?_
      refine g_imul (dk_Mo_enter 17 rfl) ?_
      refine g_iload_n (i := 1) (j := 1) (dk_Mo_enter 18 rfl) rfl rfl ?_
      refine g_iadd (dk_Mo_enter 19 rfl) ?_
      refine g_istore [(4, p_i (p_w ((p_w (4 * (p_Z s8 v0 0))) + v1))), (0, p_r v0), (1, p_i v1), (2, p_i v2), (3, p_i v3)] (dk_Mo_enter 20 rfl) (by decide) rfl ?_
      refine p_ltG (P := fun q => p_Go K l m_Mo_enter 36 [(4, p_i q), (0, p_r v0), (1, p_i v1), (2, p_i v2), (3, p_i v3)] [] s8 _) ?_ h
      intro x14 h
      refine g_aload_n (i := 0) (j := 1) (dk_Mo_enter 21 rfl) rfl rfl ?_
      refine g_getR fl_Mo_174 (Or.inr ⟨_, rfl⟩) (dk_Mo_enter 22 rfl) (c7.up hs11) ?_
      refine g_iload (j := 0) (dk_Mo_enter 23 rfl) rfl ?_
      obtain ⟨c15, h⟩ := p_gdE h
      obtain ⟨c16, h⟩ := p_gdE h
      refine g_iaload (dk_Mo_enter 24 rfl) c15 c16.1 c16.2 ?_
      refine g_if_ge 50 (dk_Mo_enter 25 rfl) (by decide) (fun b17 => ?_) (fun b17 => ?_)
      · have h := p_ifT b17 h
        refine g_iload_n (i := 2) (j := 3) (dk_Mo_enter 28 rfl) rfl rfl ?_
        refine g_i2l (dk_Mo_enter 29 rfl) ?_
        refine g_lconst (x := 0) (dk_Mo_enter 30 rfl) rfl (by decide) ?_
        refine g_aload_n (i := 0) (j := 1) (dk_Mo_enter 31 rfl) rfl rfl ?_
        refine g_getR fl_Mo_174 (Or.inr ⟨_, rfl⟩) (dk_Mo_enter 32 rfl) (c7.up hs11) ?_
        refine g_iload (j := 0) (dk_Mo_enter 33 rfl) rfl ?_
        obtain ⟨c18, h⟩ := p_gdE h
        refine g_iaload (dk_Mo_enter 34 rfl) c15 c18.1 c18.2 ?_
        refine g_iconst (dk_Mo_enter 35 rfl) (by decide) ?_
        refine g_isub (dk_Mo_enter 36 rfl) ?_
        refine g_i2l (dk_Mo_enter 37 rfl) ?_
        obtain ⟨r23, s19, q20, h⟩ := p_bdE h
        have t21 := tF_Mo_beyond K l v2 0 (p_w ((p_Z s8 (p_R s8 v0 59) (x14 : Int).toNat) - 1)) s8 _ q20
        refine g_callS (av := [p_j v2, p_j 0, p_j (p_w ((p_Z s8 (p_R s8 v0 59) (x14 : Int).toNat) - 1))]) (rest := []) [p_i r23] mt_Mo_beyond tw_7_63 tw_7_62 ⟨Nat.le_of_ble_eq_true rfl, Nat.le_of_ble_eq_true rfl⟩ rfl (Nat.le_of_ble_eq_true rfl) (dk_Mo_enter 38 rfl) rfl rfl t21 ?_
        have hs22 : p_x s8 s19 := t21.1
        show p_Go K l m_Mo_enter 66 [(4, p_i x14), (0, p_r v0), (1, p_i v1), (2, p_i v2), (3, p_i v3)] [p_i r23] s19 _
        refine g_if_eq 73 (dk_Mo_enter 39 rfl) (by decide) (fun b24 => ?_) (fun b24 => ?_)
        · have h := p_ifT b24 h
          refine g_aload_n (i := 0) (j := 1) (dk_Mo_enter 42 rfl) rfl rfl ?_
          refine g_getR fl_Mo_177 (Or.inr ⟨_, rfl⟩) (dk_Mo_enter 43 rfl) (c7.up (hs11.trans hs22)) ?_
          refine g_iload (j := 0) (dk_Mo_enter 44 rfl) rfl ?_
          obtain ⟨c25, h⟩ := p_gdE h
          obtain ⟨c26, h⟩ := p_gdE h
          refine g_iaload (dk_Mo_enter 45 rfl) c25 c26.1 c26.2 ?_
          refine g_aload_n (i := 0) (j := 1) (dk_Mo_enter 46 rfl) rfl rfl ?_
          refine g_getR fl_Mo_16 (Or.inr ⟨_, rfl⟩) (dk_Mo_enter 47 rfl) (c7.up (hs11.trans hs22)) ?_
          refine g_aload_n (i := 0) (j := 1) (dk_Mo_enter 48 rfl) rfl rfl ?_
          refine g_iload_n (i := 3) (j := 4) (dk_Mo_enter 49 rfl) rfl rfl ?_
          obtain ⟨r31, s27, q28, h⟩ := p_bdE h
          have t29 := tF_Mo_g K l v0 v3 s19 _ q28
          refine g_callV (a := v0) (ci := 11) (q0 := (RX11, TX11, 90)) (As := [p_i v3]) (rest := [p_r (p_R s19 v0 5), p_i (p_Z s19 (p_R s19 v0 60) (x14 : Int).toNat)]) [p_i r31, p_r (p_R s19 v0 5), p_i (p_Z s19 (p_R s19 v0 60) (x14 : Int).toNat)] mt_Mo_g rfl rfl tw_7_84 ts_45 tw_7_82 ⟨Nat.le_of_ble_eq_true rfl, Nat.le_of_ble_eq_true rfl⟩ rfl (Nat.le_of_ble_eq_true rfl) (dk_Mo_enter 50 rfl) rfl (c7.up (hs11.trans hs22)) rfl t29 ?_
          have hs30 : p_x s19 s27 := t29.1
          show p_Go K l m_Mo_enter 89 [(4, p_i x14), (0, p_r v0), (1, p_i v1), (2, p_i v2), (3, p_i v3)] [p_i r31, p_r (p_R s19 v0 5), p_i (p_Z s19 (p_R s19 v0 60) (x14 : Int).toNat)] s27 _
          obtain ⟨c32, h⟩ := p_gdE h
          obtain ⟨c33, h⟩ := p_gdE h
          refine g_iaload (dk_Mo_enter 51 rfl) c32 c33.1 c33.2 ?_
          obtain ⟨r38, s34, q35, h⟩ := p_bdE h
          have t36 := tF_Mo_isOfType K l (p_Z s19 (p_R s19 v0 60) (x14 : Int).toNat) (p_Z s27 (p_R s19 v0 5) (r31 : Int).toNat) s27 _ q35
          refine g_callS (av := [p_i (p_Z s19 (p_R s19 v0 60) (x14 : Int).toNat), p_i (p_Z s27 (p_R s19 v0 5) (r31 : Int).toNat)]) (rest := []) [p_i r38] mt_Mo_isOfType tw_8_37 tw_8_36 ⟨Nat.le_of_ble_eq_true rfl, Nat.le_of_ble_eq_true rfl⟩ rfl (Nat.le_of_ble_eq_true rfl) (dk_Mo_enter 52 rfl) rfl rfl t36 ?_
          have hs37 : p_x s27 s34 := t36.1
          show p_Go K l m_Mo_enter 93 [(4, p_i x14), (0, p_r v0), (1, p_i v1), (2, p_i v2), (3, p_i v3)] [p_i r38] s34 _
          refine g_if_ne 100 (dk_Mo_enter 53 rfl) (by decide) (fun b39 => ?_) (fun b39 => ?_)
          · have h := p_ifT b39 h
            refine g_iconst (dk_Mo_enter 56 rfl) (by decide) ?_
            refine g_sub [(0, p_r v0), (2, p_i v2), (3, p_i v3), (4, p_i x14)] [1, 3, 4, 0] rfl ?_
            exact tB_Mo_enter_101 K l v0 v2 v3 x14 0 s34 _ h
          · have h := p_ifF b39 h
            refine g_iconst (dk_Mo_enter 54 rfl) (by decide) ?_
            refine g_goto 101 (dk_Mo_enter 55 rfl) (by decide) ?_
            refine g_sub [(0, p_r v0), (2, p_i v2), (3, p_i v3), (4, p_i x14)] [1, 3, 4, 0] rfl ?_
            exact tB_Mo_enter_101 K l v0 v2 v3 x14 4 s34 _ h
        · have h := p_ifF b24 h
          refine g_iconst (dk_Mo_enter 40 rfl) (by decide) ?_
          refine g_goto 101 (dk_Mo_enter 41 rfl) (by decide) ?_
          refine g_sub [(0, p_r v0), (2, p_i v2), (3, p_i v3), (4, p_i x14)] [1, 3, 4, 0] rfl ?_
          exact tB_Mo_enter_101 K l v0 v2 v3 x14 3 s19 _ h
      · have h := p_ifF b17 h
        refine g_iconst (dk_Mo_enter 26 rfl) (by decide) ?_
        refine g_goto 101 (dk_Mo_enter 27 rfl) (by decide) ?_
        refine g_sub [(0, p_r v0), (2, p_i v2), (3, p_i v3), (4, p_i x14)] [1, 3, 4, 0] rfl ?_
        exact tB_Mo_enter_101 K l v0 v2 v3 x14 1 s8 _ h
    · have h := p_ifF b13 h
      refine g_sub [(0, p_r v0)] [0] rfl ?_
      exact tB_Mo_enter_20 K l v0 s8 _ h
def m_Mo_tally : p_Me := (⟨"SortWorksModel", "tally", "(II)I"⟩, prog_13_method_57_code, 7, (some .int), 1, 25)
theorem mt_Mo_tally : p_Mt m_Mo_tally 2 := ⟨p_mem (p_tb8 (List.mem_of_getElem? (i := 42) rfl)) rfl, tw_1_12, by decide +kernel, by decide +kernel, by decide +kernel⟩
def dt_Mo_tally : List (Nat × Instr × Nat) := [(0, .iload_n 1, 1), (1, .i2l, 1), (2, .lconst 0, 1), (3, .ldc2_w 373, 3), (6, .invokestatic 230, 3), (9, .ifCond .eq 9, 3), (12, .aload_n 0, 1), (13, .iconst (-1), 1), (14, .invokevirtual 240, 3), (17, .ireturn, 1), (18, .iload_n 2, 1), (19, .i2l, 1), (20, .lconst 0, 1), (21, .ldc2_w 238, 3), (24, .invokestatic 230, 3), (27, .ifCond .eq 10, 3), (30, .aload_n 0, 1), (31, .bipush (-2), 2), (33, .invokevirtual 240, 3), (36, .ireturn, 1), (37, .iconst 4, 1), (38, .aload_n 0, 1), (39, .getfield 227, 3), (42, .imul, 1), (43, .iload_n 1, 1), (44, .iadd, 1), (45, .istore_n 3, 1), (46, .aload_n 0, 1), (47, .getfield 174, 3), (50, .iload_n 3, 1), (51, .iaload, 1), (52, .ifCond .ge 9, 3), (55, .aload_n 0, 1), (56, .iconst 1, 1), (57, .invokevirtual 270, 3), (60, .ireturn, 1), (61, .iconst 0, 1), (62, .istore 4, 2), (64, .iconst 0, 1), (65, .istore 5, 2), (67, .iload 5, 2), (69, .aload_n 0, 1), (70, .getfield 174, 3), (73, .iload_n 3, 1), (74, .iaload, 1), (75, .if_icmp .ge 88, 3), (78, .aload_n 0, 1), (79, .getfield 180, 3), (82, .bipush 8, 2), (84, .iload_n 3, 1), (85, .imul, 1), (86, .iload 5, 2), (88, .iadd, 1), (89, .iaload, 1), (90, .iconst 1, 1), (91, .isub, 1), (92, .istore 6, 2), (94, .iload 6, 2), (96, .ifCond .ge 9, 3), (99, .aload_n 0, 1), (100, .iconst 1, 1), (101, .invokevirtual 270, 3), (104, .ireturn, 1), (105, .iload 4, 2), (107, .iload_n 2, 1), (108, .ifCond .ne 16, 3), (111, .aload_n 0, 1), (112, .aload_n 0, 1), (113, .iload 6, 2), (115, .invokevirtual 257, 3), (118, .invokevirtual 282, 3), (121, .goto 33, 3), (124, .iload_n 2, 1), (125, .iconst 1, 1), (126, .if_icmp .ne 17, 3), (129, .aload_n 0, 1), (130, .getfield 57, 3), (133, .aload_n 0, 1), (134, .iload 6, 2), (136, .invokevirtual 257, 3), (139, .iaload, 1), (140, .goto 14, 3), (143, .aload_n 0, 1), (144, .getfield 60, 3), (147, .aload_n 0, 1), (148, .iload 6, 2), (150, .invokevirtual 257, 3), (153, .iaload, 1), (154, .iadd, 1), (155, .istore 4, 2), (157, .iinc 5 1, 3), (160, .goto (-93), 3), (163, .aload_n 0, 1), (164, .iload 4, 2), (166, .invokevirtual 244, 3), (169, .ireturn, 1)]
theorem dk_Mo_tally (i : Nat) {pc : Nat} {ins : Instr} {len : Nat} (h : dt_Mo_tally[i]? = some (pc, ins, len)) : decode m_Mo_tally.2.1 pc = .ok (ins, len) := p_dk (b := m_Mo_tally.2.1) (t := dt_Mo_tally) (by decide +kernel) i h
def B_Mo_tally_154 (k67 : Nat → Int → Int → Int → Int → p_Hp → Option (Int × p_Hp)) (v0 : Nat) (v2 : Int) (v3 : Int) (v5 : Int) (w0 : Int) (w1 : Int) (s0 : p_Hp) : Option (Int × p_Hp) :=
  p_bi ((p_w (w1 + w0))) fun x1 =>
  p_bi (p_w (v5 + 1)) fun x2 =>
  k67 v0 v2 v3 x1 x2 s0
def L_Mo_tally_67 (k67 : Nat → Int → Int → Int → Int → p_Hp → Option (Int × p_Hp)) (v0 : Nat) (v2 : Int) (v3 : Int) (v4 : Int) (v5 : Int) (s0 : p_Hp) : Option (Int × p_Hp) :=
  p_gd (p_is s0 v0 11) <|
  p_gd (p_is s0 (p_R s0 v0 59) 100) <|
  p_gd ((0 : Int) ≤ v3 ∧ v3 < (p_L s0 (p_R s0 v0 59) : Int)) <|
  if (p_Z s0 (p_R s0 v0 59) (v3 : Int).toNat) ≤ v5 then
    p_bd (F_Mo_well v0 v4 s0) fun r9 s5 =>
    some (r9, s5)
  else
    p_gd (p_is s0 (p_R s0 v0 61) 100) <|
    p_gd ((0 : Int) ≤ (p_w ((p_w (8 * v3)) + v5)) ∧ (p_w ((p_w (8 * v3)) + v5)) < (p_L s0 (p_R s0 v0 61) : Int)) <|
    p_bi ((p_w ((p_Z s0 (p_R s0 v0 61) ((p_w ((p_w (8 * v3)) + v5)) : Int).toNat) - 1))) fun x12 =>
    if 0 ≤ x12 then
      if v2 ≠ 0 then
        if v2 ≠ 1 then
          p_bd (F_Mo_g v0 x12 s0) fun r20 s16 =>
          p_gd (p_is s16 (p_R s0 v0 19) 100) <|
          p_gd ((0 : Int) ≤ r20 ∧ r20 < (p_L s16 (p_R s0 v0 19) : Int)) <|
          B_Mo_tally_154 k67 v0 v2 v3 v5 (p_Z s16 (p_R s0 v0 19) (r20 : Int).toNat) v4 s16
        else
          p_bd (F_Mo_g v0 x12 s0) fun r27 s23 =>
          p_gd (p_is s23 (p_R s0 v0 18) 100) <|
          p_gd ((0 : Int) ≤ r27 ∧ r27 < (p_L s23 (p_R s0 v0 18) : Int)) <|
          B_Mo_tally_154 k67 v0 v2 v3 v5 (p_Z s23 (p_R s0 v0 18) (r27 : Int).toNat) v4 s23
      else
        p_bd (F_Mo_g v0 x12 s0) fun r34 s30 =>
        p_bd (F_Mo_loadOf v0 r34 s30) fun r39 s35 =>
        B_Mo_tally_154 k67 v0 v2 v3 v5 r39 v4 s35
    else
      p_bd (F_Mo_faulted v0 1 s0) fun r44 s40 =>
      some (r44, s40)
def O_Mo_tally_67  : Nat → Nat → Int → Int → Int → Int → p_Hp → Option (Int × p_Hp)
  | 0 => fun _ _ _ _ _ _ => none
  | n + 1 => L_Mo_tally_67 (O_Mo_tally_67 n)
def F_Mo_tally (v0 : Nat) (v1 : Int) (v2 : Int) (s0 : p_Hp) : Option (Int × p_Hp) :=
  p_bd (F_Mo_beyond v1 0 3 s0) fun r5 s1 =>
  if r5 = 0 then
    p_bd (F_Mo_beyond v2 0 2 s1) fun r11 s7 =>
    if r11 = 0 then
      p_gd (p_is s7 v0 11) <|
      p_bi ((p_w ((p_w (4 * (p_Z s7 v0 0))) + v1))) fun x14 =>
      p_gd (p_is s7 (p_R s7 v0 59) 100) <|
      p_gd ((0 : Int) ≤ x14 ∧ x14 < (p_L s7 (p_R s7 v0 59) : Int)) <|
      if 0 ≤ (p_Z s7 (p_R s7 v0 59) (x14 : Int).toNat) then
        O_Mo_tally_67 3000 v0 v2 x14 0 0 s7
      else
        p_bd (F_Mo_faulted v0 1 s7) fun r22 s18 =>
        some (r22, s18)
    else
      p_gd (p_is s7 v0 11) <|
      p_bd (F_Mo_refused v0 (-2) s7) fun r28 s24 =>
      some (r28, s24)
  else
    p_gd (p_is s1 v0 11) <|
    p_bd (F_Mo_refused v0 (-1) s1) fun r34 s30 =>
    some (r34, s30)
set_option maxRecDepth 100000 in
set_option maxHeartbeats 4000000 in
theorem tB_Mo_tally_154 (K : p_K) (l : Launch) (k67 : Nat → Int → Int → Int → Int → p_Hp → Option (Int × p_Hp)) (hk67 : ∀ (v0 : Nat) (v2 : Int) (v3 : Int) (v4 : Int) (v5 : Int)  (s0 : p_Hp) (r : (Int × p_Hp)), k67 v0 v2 v3 v4 v5 s0 = some r → p_Go K l m_Mo_tally 67 [(0, p_r v0), (2, p_i v2), (3, p_i v3), (4, p_i v4), (5, p_i v5)] [] s0 (some (p_i r.1), r.2)) (v0 : Nat) (v2 : Int) (v3 : Int) (v5 : Int) (w0 : Int) (w1 : Int) (s0 : p_Hp) (r : (Int × p_Hp)) (h : B_Mo_tally_154 k67 v0 v2 v3 v5 w0 w1 s0 = some r) : p_Go K l m_Mo_tally 154 [(0, p_r v0), (2, p_i v2), (3, p_i v3), (5, p_i v5)] [p_i w0, p_i w1] s0 (some (p_i r.1), r.2) := by
  unfold B_Mo_tally_154 at h
  refine g_iadd (dk_Mo_tally 88 rfl) ?_
  refine g_istore [(4, p_i (p_w (w1 + w0))), (0, p_r v0), (2, p_i v2), (3, p_i v3), (5, p_i v5)] (dk_Mo_tally 89 rfl) (by decide) rfl ?_
  refine p_ltG (P := fun q => p_Go K l m_Mo_tally 157 [(4, p_i q), (0, p_r v0), (2, p_i v2), (3, p_i v3), (5, p_i v5)] [] s0 _) ?_ h
  intro x1 h
  refine g_iinc (j := 4) [(5, p_i (p_w (v5 + 1))), (4, p_i x1), (0, p_r v0), (2, p_i v2), (3, p_i v3)] (dk_Mo_tally 90 rfl) rfl (by decide) rfl ?_
  refine p_ltG (P := fun q => p_Go K l m_Mo_tally 160 [(5, p_i q), (4, p_i x1), (0, p_r v0), (2, p_i v2), (3, p_i v3)] [] s0 _) ?_ h
  intro x2 h
  refine g_goto 67 (dk_Mo_tally 91 rfl) (by decide) ?_
  refine g_sub [(0, p_r v0), (2, p_i v2), (3, p_i v3), (4, p_i x1), (5, p_i x2)] [2, 3, 4, 1, 0] rfl ?_
  exact hk67 v0 v2 v3 x1 x2 s0 _ h
set_option maxRecDepth 100000 in
set_option maxHeartbeats 4000000 in
theorem tL_Mo_tally_67 (K : p_K) (l : Launch) (k67 : Nat → Int → Int → Int → Int → p_Hp → Option (Int × p_Hp)) (hk67 : ∀ (v0 : Nat) (v2 : Int) (v3 : Int) (v4 : Int) (v5 : Int)  (s0 : p_Hp) (r : (Int × p_Hp)), k67 v0 v2 v3 v4 v5 s0 = some r → p_Go K l m_Mo_tally 67 [(0, p_r v0), (2, p_i v2), (3, p_i v3), (4, p_i v4), (5, p_i v5)] [] s0 (some (p_i r.1), r.2)) (v0 : Nat) (v2 : Int) (v3 : Int) (v4 : Int) (v5 : Int) (s0 : p_Hp) (r : (Int × p_Hp)) (h : L_Mo_tally_67 k67 v0 v2 v3 v4 v5 s0 = some r) : p_Go K l m_Mo_tally 67 [(0, p_r v0), (2, p_i v2), (3, p_i v3), (4, p_i v4), (5, p_i v5)] [] s0 (some (p_i r.1), r.2) := by
  unfold L_Mo_tally_67 at h
  refine g_iload (j := 4) (dk_Mo_tally 40 rfl) rfl ?_
  refine g_aload_n (i := 0) (j := 0) (dk_Mo_tally 41 rfl) rfl rfl ?_
  obtain ⟨c1, h⟩ := p_gdE h
  refine g_getR fl_Mo_174 (Or.inr ⟨_, rfl⟩) (dk_Mo_tally 42 rfl) c1 ?_
  refine g_iload_n (i := 3) (j := 2) (dk_Mo_tally 43 rfl) rfl rfl ?_
  obtain ⟨c2, h⟩ := p_gdE h
  obtain ⟨c3, h⟩ := p_gdE h
  refine g_iaload (dk_Mo_tally 44 rfl) c2 c3.1 c3.2 ?_
  refine g_icmp_ge 163 (dk_Mo_tally 45 rfl) (by decide) (fun b4 => ?_) (fun b4 => ?_)
  · have h := p_ifT b4 h
    refine g_aload_n (i := 0) (j := 0) (dk_Mo_tally 92 rfl) rfl rfl ?_
    refine g_iload (j := 3) (dk_Mo_tally 93 rfl) rfl ?_
    obtain ⟨r9, s5, q6, h⟩ := p_bdE h
    have t7 := tF_Mo_well K l v0 v4 s0 _ q6
    refine g_callV (a := v0) (ci := 11) (q0 := (RX11, TX11, 90)) (As := [p_i v4]) (rest := []) [p_i r9] mt_Mo_well rfl rfl tw_7_71 ts_44 tw_7_69 ⟨Nat.le_of_ble_eq_true rfl, Nat.le_of_ble_eq_true rfl⟩ rfl (Nat.le_of_ble_eq_true rfl) (dk_Mo_tally 94 rfl) rfl c1 rfl t7 ?_
    have hs8 : p_x s0 s5 := t7.1
    show p_Go K l m_Mo_tally 169 [(0, p_r v0), (2, p_i v2), (3, p_i v3), (4, p_i v4), (5, p_i v5)] [p_i r9] s5 _
    cases h
    exact g_ret rfl rfl (dk_Mo_tally 95 rfl) (fun os => ⟨_, rfl, p_okh os⟩)
  · have h := p_ifF b4 h
    refine g_aload_n (i := 0) (j := 0) (dk_Mo_tally 46 rfl) rfl rfl ?_
    refine g_getR fl_Mo_180 (Or.inr ⟨_, rfl⟩) (dk_Mo_tally 47 rfl) c1 ?_
    refine g_bipush (dk_Mo_tally 48 rfl) (by decide +kernel) (by decide) ?_
    refine g_iload_n (i := 3) (j := 2) (dk_Mo_tally 49 rfl) rfl rfl ?_
    refine g_imul (dk_Mo_tally 50 rfl) ?_
    refine g_iload (j := 4) (dk_Mo_tally 51 rfl) rfl ?_
    refine g_iadd (dk_Mo_tally 52 rfl) ?_
    obtain ⟨c10, h⟩ := p_gdE h
    obtain ⟨c11, h⟩ := p_gdE h
    refine g_iaload (dk_Mo_tally 53 rfl) c10 c11.1 c11.2 ?_
    refine g_iconst (dk_Mo_tally 54 rfl) (by decide) ?_
    refine g_isub (dk_Mo_tally 55 rfl) ?_
    refine g_istore [(6, p_i (p_w ((p_Z s0 (p_R s0 v0 61) ((p_w ((p_w (8 * v3)) + v5)) : Int).toNat) - 1))), (0, p_r v0), (2, p_i v2), (3, p_i v3), (4, p_i v4), (5, p_i v5)] (dk_Mo_tally 56 rfl) (by decide) rfl ?_
    refine p_ltG (P := fun q => p_Go K l m_Mo_tally 94 [(6, p_i q), (0, p_r v0), (2, p_i v2), (3, p_i v3), (4, p_i v4), (5, p_i v5)] [] s0 _) ?_ h
    intro x12 h
    refine g_iload (j := 0) (dk_Mo_tally 57 rfl) rfl ?_
    refine g_if_ge 105 (dk_Mo_tally 58 rfl) (by decide) (fun b13 => ?_) (fun b13 => ?_)
    · have h := p_ifT b13 h
      refine g_iload (j := 4) (dk_Mo_tally 63 rfl) rfl ?_
      refine g_iload_n (i := 2) (j := 2) (dk_Mo_tally 64 rfl) rfl rfl ?_
      refine g_if_ne 124 (dk_Mo_tally 65 rfl) (by decide) (fun b14 => ?_) (fun b14 => ?_)
      · have h := p_ifT b14 h
        refine g_iload_n (i := 2) (j := 2) (dk_Mo_tally 72 rfl) rfl rfl ?_
        refine g_iconst (dk_Mo_tally 73 rfl) (by decide) ?_
        refine g_icmp_ne 143 (dk_Mo_tally 74 rfl) (by decide) (fun b15 => ?_) (fun b15 => ?_)
        · have h := p_ifT b15 h
          refine g_aload_n (i := 0) (j := 1) (dk_Mo_tally 82 rfl) rfl rfl ?_
          refine g_getR fl_Mo_60 (Or.inr ⟨_, rfl⟩) (dk_Mo_tally 83 rfl) c1 ?_
          refine g_aload_n (i := 0) (j := 1) (dk_Mo_tally 84 rfl) rfl rfl ?_
          refine g_iload (j := 0) (dk_Mo_tally 85 rfl) rfl ?_
          obtain ⟨r20, s16, q17, h⟩ := p_bdE h
          have t18 := tF_Mo_g K l v0 x12 s0 _ q17
          refine g_callV (a := v0) (ci := 11) (q0 := (RX11, TX11, 90)) (As := [p_i x12]) (rest := [p_r (p_R s0 v0 19), p_i v4]) [p_i r20, p_r (p_R s0 v0 19), p_i v4] mt_Mo_g rfl rfl tw_7_84 ts_45 tw_7_82 ⟨Nat.le_of_ble_eq_true rfl, Nat.le_of_ble_eq_true rfl⟩ rfl (Nat.le_of_ble_eq_true rfl) (dk_Mo_tally 86 rfl) rfl c1 rfl t18 ?_
          have hs19 : p_x s0 s16 := t18.1
          show p_Go K l m_Mo_tally 153 [(6, p_i x12), (0, p_r v0), (2, p_i v2), (3, p_i v3), (4, p_i v4), (5, p_i v5)] [p_i r20, p_r (p_R s0 v0 19), p_i v4] s16 _
          obtain ⟨c21, h⟩ := p_gdE h
          obtain ⟨c22, h⟩ := p_gdE h
          refine g_iaload (dk_Mo_tally 87 rfl) c21 c22.1 c22.2 ?_
          refine g_sub [(0, p_r v0), (2, p_i v2), (3, p_i v3), (5, p_i v5)] [1, 2, 3, 5] rfl ?_
          exact tB_Mo_tally_154 K l k67 hk67 v0 v2 v3 v5 (p_Z s16 (p_R s0 v0 19) (r20 : Int).toNat) v4 s16 _ h
        · have h := p_ifF b15 h
          refine g_aload_n (i := 0) (j := 1) (dk_Mo_tally 75 rfl) rfl rfl ?_
          refine g_getR fl_Mo_57 (Or.inr ⟨_, rfl⟩) (dk_Mo_tally 76 rfl) c1 ?_
          refine g_aload_n (i := 0) (j := 1) (dk_Mo_tally 77 rfl) rfl rfl ?_
          refine g_iload (j := 0) (dk_Mo_tally 78 rfl) rfl ?_
          obtain ⟨r27, s23, q24, h⟩ := p_bdE h
          have t25 := tF_Mo_g K l v0 x12 s0 _ q24
          refine g_callV (a := v0) (ci := 11) (q0 := (RX11, TX11, 90)) (As := [p_i x12]) (rest := [p_r (p_R s0 v0 18), p_i v4]) [p_i r27, p_r (p_R s0 v0 18), p_i v4] mt_Mo_g rfl rfl tw_7_84 ts_45 tw_7_82 ⟨Nat.le_of_ble_eq_true rfl, Nat.le_of_ble_eq_true rfl⟩ rfl (Nat.le_of_ble_eq_true rfl) (dk_Mo_tally 79 rfl) rfl c1 rfl t25 ?_
          have hs26 : p_x s0 s23 := t25.1
          show p_Go K l m_Mo_tally 139 [(6, p_i x12), (0, p_r v0), (2, p_i v2), (3, p_i v3), (4, p_i v4), (5, p_i v5)] [p_i r27, p_r (p_R s0 v0 18), p_i v4] s23 _
          obtain ⟨c28, h⟩ := p_gdE h
          obtain ⟨c29, h⟩ := p_gdE h
          refine g_iaload (dk_Mo_tally 80 rfl) c28 c29.1 c29.2 ?_
          refine g_goto 154 (dk_Mo_tally 81 rfl) (by decide) ?_
          refine g_sub [(0, p_r v0), (2, p_i v2), (3, p_i v3), (5, p_i v5)] [1, 2, 3, 5] rfl ?_
          exact tB_Mo_tally_154 K l k67 hk67 v0 v2 v3 v5 (p_Z s23 (p_R s0 v0 18) (r27 : Int).toNat) v4 s23 _ h
      · have h := p_ifF b14 h
        refine g_aload_n (i := 0) (j := 1) (dk_Mo_tally 66 rfl) rfl rfl ?_
        refine g_aload_n (i := 0) (j := 1) (dk_Mo_tally 67 rfl) rfl rfl ?_
        refine g_iload (j := 0) (dk_Mo_tally 68 rfl) rfl ?_
        obtain ⟨r34, s30, q31, h⟩ := p_bdE h
        have t32 := tF_Mo_g K l v0 x12 s0 _ q31
        refine g_callV (a := v0) (ci := 11) (q0 := (RX11, TX11, 90)) (As := [p_i x12]) (rest := [p_r v0, p_i v4]) [p_i r34, p_r v0, p_i v4] mt_Mo_g rfl rfl tw_7_84 ts_45 tw_7_82 ⟨Nat.le_of_ble_eq_true rfl, Nat.le_of_ble_eq_true rfl⟩ rfl (Nat.le_of_ble_eq_true rfl) (dk_Mo_tally 69 rfl) rfl c1 rfl t32 ?_
        have hs33 : p_x s0 s30 := t32.1
        show p_Go K l m_Mo_tally 118 [(6, p_i x12), (0, p_r v0), (2, p_i v2), (3, p_i v3), (4, p_i v4), (5, p_i v5)] [p_i r34, p_r v0, p_i v4] s30 _
        obtain ⟨r39, s35, q36, h⟩ := p_bdE h
        have t37 := tF_Mo_loadOf K l v0 r34 s30 _ q36
        refine g_callV (a := v0) (ci := 11) (q0 := (RX11, TX11, 90)) (As := [p_i r34]) (rest := [p_i v4]) [p_i r39, p_i v4] mt_Mo_loadOf rfl rfl tw_7_136 ts_50 tw_7_134 ⟨Nat.le_of_ble_eq_true rfl, Nat.le_of_ble_eq_true rfl⟩ rfl (Nat.le_of_ble_eq_true rfl) (dk_Mo_tally 70 rfl) rfl (c1.up hs33) rfl t37 ?_
        have hs38 : p_x s30 s35 := t37.1
        show p_Go K l m_Mo_tally 121 [(6, p_i x12), (0, p_r v0), (2, p_i v2), (3, p_i v3), (4, p_i v4), (5, p_i v5)] [p_i r39, p_i v4] s35 _
        refine g_goto 154 (dk_Mo_tally 71 rfl) (by decide) ?_
        refine g_sub [(0, p_r v0), (2, p_i v2), (3, p_i v3), (5, p_i v5)] [1, 2, 3, 5] rfl ?_
        exact tB_Mo_tally_154 K l k67 hk67 v0 v2 v3 v5 r39 v4 s35 _ h
    · have h := p_ifF b13 h
      refine g_aload_n (i := 0) (j := 1) (dk_Mo_tally 59 rfl) rfl rfl ?_
      refine g_iconst (dk_Mo_tally 60 rfl) (by decide) ?_
      obtain ⟨r44, s40, q41, h⟩ := p_bdE h
      have t42 := tF_Mo_faulted K l v0 1 s0 _ q41
      refine g_callV (a := v0) (ci := 11) (q0 := (RX11, TX11, 90)) (As := [p_i 1]) (rest := []) [p_i r44] mt_Mo_faulted rfl rfl tw_7_110 ts_49 tw_7_108 ⟨Nat.le_of_ble_eq_true rfl, Nat.le_of_ble_eq_true rfl⟩ rfl (Nat.le_of_ble_eq_true rfl) (dk_Mo_tally 61 rfl) rfl c1 rfl t42 ?_
      have hs43 : p_x s0 s40 := t42.1
      show p_Go K l m_Mo_tally 104 [(6, p_i x12), (0, p_r v0), (2, p_i v2), (3, p_i v3), (4, p_i v4), (5, p_i v5)] [p_i r44] s40 _
      cases h
      exact g_ret rfl rfl (dk_Mo_tally 62 rfl) (fun os => ⟨_, rfl, p_okh os⟩)
set_option maxRecDepth 100000 in
set_option maxHeartbeats 4000000 in
theorem tO_Mo_tally_67 (K : p_K) (l : Launch)  : ∀ (n : Nat) (v0 : Nat) (v2 : Int) (v3 : Int) (v4 : Int) (v5 : Int) (s0 : p_Hp) (r : (Int × p_Hp)), O_Mo_tally_67 n v0 v2 v3 v4 v5 s0 = some r → p_Go K l m_Mo_tally 67 [(0, p_r v0), (2, p_i v2), (3, p_i v3), (4, p_i v4), (5, p_i v5)] [] s0 (some (p_i r.1), r.2) := by
  intro n
  induction n with
  | zero => intro v0 v2 v3 v4 v5 s0 r h; cases (show (none : Option (Int × p_Hp)) = some r from h)
  | succ n ih => intro v0 v2 v3 v4 v5 s0 r h; exact tL_Mo_tally_67 K l _ ih v0 v2 v3 v4 v5 s0 r h
set_option maxRecDepth 100000 in
set_option maxHeartbeats 4000000 in
theorem tF_Mo_tally (K : p_K) (l : Launch) (v0 : Nat) (v1 : Int) (v2 : Int) (s0 : p_Hp) (r : (Int × p_Hp)) (h : F_Mo_tally v0 v1 v2 s0 = some r) : p_Ct K l m_Mo_tally [p_r v0, p_i v1, p_i v2] s0 (some (p_i r.1), r.2) := by
  refine p_Ct.of (by decide +kernel) (Nat.le_of_ble_eq_true rfl) ?_
  unfold F_Mo_tally at h
  show p_Go K l m_Mo_tally 0 [(0, p_r v0), (1, p_i v1), (2, p_i v2)] [] s0 _
  refine g_iload_n (i := 1) (j := 1) (dk_Mo_tally 0 rfl) rfl rfl ?_
  refine g_i2l (dk_Mo_tally 1 rfl) ?_
  refine g_lconst (x := 0) (dk_Mo_tally 2 rfl) rfl (by decide) ?_
  refine g_ldc2_w (x := 3) (dk_Mo_tally 3 rfl) tw_8_31 (by decide) (by decide) ?_
  obtain ⟨r5, s1, q2, h⟩ := p_bdE h
  have t3 := tF_Mo_beyond K l v1 0 3 s0 _ q2
  refine g_callS (av := [p_j v1, p_j 0, p_j 3]) (rest := []) [p_i r5] mt_Mo_beyond tw_7_63 tw_7_62 ⟨Nat.le_of_ble_eq_true rfl, Nat.le_of_ble_eq_true rfl⟩ rfl (Nat.le_of_ble_eq_true rfl) (dk_Mo_tally 4 rfl) rfl rfl t3 ?_
  have hs4 : p_x s0 s1 := t3.1
  show p_Go K l m_Mo_tally 9 [(0, p_r v0), (1, p_i v1), (2, p_i v2)] [p_i r5] s1 _
  refine g_if_eq 18 (dk_Mo_tally 5 rfl) (by decide) (fun b6 => ?_) (fun b6 => ?_)
  · have h := p_ifT b6 h
    refine g_iload_n (i := 2) (j := 2) (dk_Mo_tally 10 rfl) rfl rfl ?_
    refine g_i2l (dk_Mo_tally 11 rfl) ?_
    refine g_lconst (x := 0) (dk_Mo_tally 12 rfl) rfl (by decide) ?_
    refine g_ldc2_w (x := 2) (dk_Mo_tally 13 rfl) tw_7_61 (by decide) (by decide) ?_
    obtain ⟨r11, s7, q8, h⟩ := p_bdE h
    have t9 := tF_Mo_beyond K l v2 0 2 s1 _ q8
    refine g_callS (av := [p_j v2, p_j 0, p_j 2]) (rest := []) [p_i r11] mt_Mo_beyond tw_7_63 tw_7_62 ⟨Nat.le_of_ble_eq_true rfl, Nat.le_of_ble_eq_true rfl⟩ rfl (Nat.le_of_ble_eq_true rfl) (dk_Mo_tally 14 rfl) rfl rfl t9 ?_
    have hs10 : p_x s1 s7 := t9.1
    show p_Go K l m_Mo_tally 27 [(0, p_r v0), (1, p_i v1), (2, p_i v2)] [p_i r11] s7 _
    refine g_if_eq 37 (dk_Mo_tally 15 rfl) (by decide) (fun b12 => ?_) (fun b12 => ?_)
    · have h := p_ifT b12 h
      refine g_iconst (dk_Mo_tally 20 rfl) (by decide) ?_
      refine g_aload_n (i := 0) (j := 0) (dk_Mo_tally 21 rfl) rfl rfl ?_
      obtain ⟨c13, h⟩ := p_gdE h
      refine g_getI fl_Mo_227 (Or.inl rfl) (dk_Mo_tally 22 rfl) c13 ?_
      refine g_imul (dk_Mo_tally 23 rfl) ?_
      refine g_iload_n (i := 1) (j := 1) (dk_Mo_tally 24 rfl) rfl rfl ?_
      refine g_iadd (dk_Mo_tally 25 rfl) ?_
      refine g_istore_n (i := 3) [(3, p_i (p_w ((p_w (4 * (p_Z s7 v0 0))) + v1))), (0, p_r v0), (1, p_i v1), (2, p_i v2)] (dk_Mo_tally 26 rfl) rfl (by decide) rfl ?_
      refine p_ltG (P := fun q => p_Go K l m_Mo_tally 46 [(3, p_i q), (0, p_r v0), (1, p_i v1), (2, p_i v2)] [] s7 _) ?_ h
      intro x14 h
      refine g_aload_n (i := 0) (j := 1) (dk_Mo_tally 27 rfl) rfl rfl ?_
      refine g_getR fl_Mo_174 (Or.inr ⟨_, rfl⟩) (dk_Mo_tally 28 rfl) c13 ?_
      refine g_iload_n (i := 3) (j := 0) (dk_Mo_tally 29 rfl) rfl rfl ?_
      obtain ⟨c15, h⟩ := p_gdE h
      obtain ⟨c16, h⟩ := p_gdE h
      refine g_iaload (dk_Mo_tally 30 rfl) c15 c16.1 c16.2 ?_
      refine g_if_ge 61 (dk_Mo_tally 31 rfl) (by decide) (fun b17 => ?_) (fun b17 => ?_)
      · have h := p_ifT b17 h
        refine g_iconst (dk_Mo_tally 36 rfl) (by decide) ?_
        refine g_istore [(4, p_i 0), (3, p_i x14), (0, p_r v0), (1, p_i v1), (2, p_i v2)] (dk_Mo_tally 37 rfl) (by decide) rfl ?_
        refine g_iconst (dk_Mo_tally 38 rfl) (by decide) ?_
        refine g_istore [(5, p_i 0), (4, p_i 0), (3, p_i x14), (0, p_r v0), (1, p_i v1), (2, p_i v2)] (dk_Mo_tally 39 rfl) (by decide) rfl ?_
        refine g_sub [(0, p_r v0), (2, p_i v2), (3, p_i x14), (4, p_i 0), (5, p_i 0)] [3, 5, 2, 1, 0] rfl ?_
        exact tO_Mo_tally_67 K l 3000 v0 v2 x14 0 0 s7 _ h
      · have h := p_ifF b17 h
        refine g_aload_n (i := 0) (j := 1) (dk_Mo_tally 32 rfl) rfl rfl ?_
        refine g_iconst (dk_Mo_tally 33 rfl) (by decide) ?_
        obtain ⟨r22, s18, q19, h⟩ := p_bdE h
        have t20 := tF_Mo_faulted K l v0 1 s7 _ q19
        refine g_callV (a := v0) (ci := 11) (q0 := (RX11, TX11, 90)) (As := [p_i 1]) (rest := []) [p_i r22] mt_Mo_faulted rfl rfl tw_7_110 ts_49 tw_7_108 ⟨Nat.le_of_ble_eq_true rfl, Nat.le_of_ble_eq_true rfl⟩ rfl (Nat.le_of_ble_eq_true rfl) (dk_Mo_tally 34 rfl) rfl c13 rfl t20 ?_
        have hs21 : p_x s7 s18 := t20.1
        show p_Go K l m_Mo_tally 60 [(3, p_i x14), (0, p_r v0), (1, p_i v1), (2, p_i v2)] [p_i r22] s18 _
        cases h
        exact g_ret rfl rfl (dk_Mo_tally 35 rfl) (fun os => ⟨_, rfl, p_okh os⟩)
    · have h := p_ifF b12 h
      refine g_aload_n (i := 0) (j := 0) (dk_Mo_tally 16 rfl) rfl rfl ?_
      refine g_bipush (dk_Mo_tally 17 rfl) (by decide +kernel) (by decide) ?_
      obtain ⟨c23, h⟩ := p_gdE h
      obtain ⟨r28, s24, q25, h⟩ := p_bdE h
      have t26 := tF_Mo_refused K l v0 (-2) s7 _ q25
      refine g_callV (a := v0) (ci := 11) (q0 := (RX11, TX11, 90)) (As := [p_i (-2)]) (rest := []) [p_i r28] mt_Mo_refused rfl rfl tw_7_67 ts_43 tw_7_65 ⟨Nat.le_of_ble_eq_true rfl, Nat.le_of_ble_eq_true rfl⟩ rfl (Nat.le_of_ble_eq_true rfl) (dk_Mo_tally 18 rfl) rfl c23 rfl t26 ?_
      have hs27 : p_x s7 s24 := t26.1
      show p_Go K l m_Mo_tally 36 [(0, p_r v0), (1, p_i v1), (2, p_i v2)] [p_i r28] s24 _
      cases h
      exact g_ret rfl rfl (dk_Mo_tally 19 rfl) (fun os => ⟨_, rfl, p_okh os⟩)
  · have h := p_ifF b6 h
    refine g_aload_n (i := 0) (j := 0) (dk_Mo_tally 6 rfl) rfl rfl ?_
    refine g_iconst (dk_Mo_tally 7 rfl) (by decide) ?_
    obtain ⟨c29, h⟩ := p_gdE h
    obtain ⟨r34, s30, q31, h⟩ := p_bdE h
    have t32 := tF_Mo_refused K l v0 (-1) s1 _ q31
    refine g_callV (a := v0) (ci := 11) (q0 := (RX11, TX11, 90)) (As := [p_i (-1)]) (rest := []) [p_i r34] mt_Mo_refused rfl rfl tw_7_67 ts_43 tw_7_65 ⟨Nat.le_of_ble_eq_true rfl, Nat.le_of_ble_eq_true rfl⟩ rfl (Nat.le_of_ble_eq_true rfl) (dk_Mo_tally 8 rfl) rfl c29 rfl t32 ?_
    have hs33 : p_x s1 s30 := t32.1
    show p_Go K l m_Mo_tally 17 [(0, p_r v0), (1, p_i v1), (2, p_i v2)] [p_i r34] s30 _
    cases h
    exact g_ret rfl rfl (dk_Mo_tally 9 rfl) (fun os => ⟨_, rfl, p_okh os⟩)
