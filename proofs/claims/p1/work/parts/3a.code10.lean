def m_Mo_doPlans : p_Me := (⟨"SortWorksModel", "doPlans", "()V"⟩, prog_13_method_64_code, 3, none, 3, 72)
theorem mt_Mo_doPlans : p_Mt m_Mo_doPlans 0 := ⟨p_mem (p_tb8 (List.mem_of_getElem? (i := 57) rfl)) rfl, tw_1_12, by decide +kernel, by decide +kernel, by decide +kernel⟩
def dt_Mo_doPlans : List (Nat × Instr × Nat) := [(0, .aload_n 0, 1), (1, .iconst (-1), 1), (2, .putfield 379, 3), (5, .iconst 0, 1), (6, .istore_n 1, 1), (7, .iload_n 1, 1), (8, .aload_n 0, 1), (9, .getfield 165, 3), (12, .aload_n 0, 1), (13, .getfield 227, 3), (16, .iaload, 1), (17, .if_icmp .ge 62, 3), (20, .aload_n 0, 1), (21, .getfield 171, 3), (24, .bipush 64, 2), (26, .aload_n 0, 1), (27, .getfield 227, 3), (30, .imul, 1), (31, .iconst 4, 1), (32, .iload_n 1, 1), (33, .imul, 1), (34, .iadd, 1), (35, .iaload, 1), (36, .aload_n 0, 1), (37, .getfield 13, 3), (40, .aload_n 0, 1), (41, .getfield 227, 3), (44, .iaload, 1), (45, .if_icmp .ne 28, 3), (48, .aload_n 0, 1), (49, .bipush 16, 2), (51, .aload_n 0, 1), (52, .getfield 227, 3), (55, .imul, 1), (56, .iload_n 1, 1), (57, .iadd, 1), (58, .invokevirtual 392, 3), (61, .istore_n 2, 1), (62, .iload_n 2, 1), (63, .ifCond .le 10, 3), (66, .aload_n 0, 1), (67, .iconst 5, 1), (68, .iload_n 2, 1), (69, .iload_n 1, 1), (70, .invokevirtual 395, 3), (73, .iinc 1 1, 3), (76, .goto (-69), 3), (79, .return_, 1)]
theorem dk_Mo_doPlans (i : Nat) {pc : Nat} {ins : Instr} {len : Nat} (h : dt_Mo_doPlans[i]? = some (pc, ins, len)) : decode m_Mo_doPlans.2.1 pc = .ok (ins, len) := p_dk (b := m_Mo_doPlans.2.1) (t := dt_Mo_doPlans) (by decide +kernel) i h
def B_Mo_doPlans_73 (k7 : Nat → Int → p_Hp → Option p_Hp) (v0 : Nat) (v1 : Int) (s0 : p_Hp) : Option p_Hp :=
  p_bi (p_w (v1 + 1)) fun x1 =>
  k7 v0 x1 s0
def L_Mo_doPlans_7 (k7 : Nat → Int → p_Hp → Option p_Hp) (v0 : Nat) (v1 : Int) (s0 : p_Hp) : Option p_Hp :=
  p_gd (p_is s0 v0 11) <|
  p_gd (p_is s0 (p_R s0 v0 56) 100) <|
  p_gd (0 ≤ (p_Z s0 v0 0) ∧ (p_Z s0 v0 0) < (p_L s0 (p_R s0 v0 56) : Int)) <|
  if (p_Z s0 (p_R s0 v0 56) ((p_Z s0 v0 0)).toNat) ≤ v1 then
    some s0
  else
    p_gd (p_is s0 (p_R s0 v0 58) 100) <|
    p_gd (0 ≤ (p_w ((p_w (64 * (p_Z s0 v0 0))) + (p_w (4 * v1)))) ∧ (p_w ((p_w (64 * (p_Z s0 v0 0))) + (p_w (4 * v1)))) < (p_L s0 (p_R s0 v0 58) : Int)) <|
    p_gd (p_is s0 (p_R s0 v0 4) 100) <|
    p_gd (0 ≤ (p_Z s0 v0 0) ∧ (p_Z s0 v0 0) < (p_L s0 (p_R s0 v0 4) : Int)) <|
    if (p_Z s0 (p_R s0 v0 58) ((p_w ((p_w (64 * (p_Z s0 v0 0))) + (p_w (4 * v1))))).toNat) ≠ (p_Z s0 (p_R s0 v0 4) ((p_Z s0 v0 0)).toNat) then
      B_Mo_doPlans_73 k7 v0 v1 s0
    else
      p_bd (F_Mo_planFault v0 (p_w ((p_w (16 * (p_Z s0 v0 0))) + v1)) s0) fun r14 s10 =>
      if r14 ≤ 0 then
        B_Mo_doPlans_73 k7 v0 v1 s10
      else
        p_bv (F_Mo_find v0 5 r14 v1 s10) fun s16 =>
        B_Mo_doPlans_73 k7 v0 v1 s16
def O_Mo_doPlans_7  : Nat → Nat → Int → p_Hp → Option p_Hp
  | 0 => fun _ _ _ => none
  | n + 1 => L_Mo_doPlans_7 (O_Mo_doPlans_7 n)
def F_Mo_doPlans (v0 : Nat) (s0 : p_Hp) : Option p_Hp :=
  p_gd (p_is s0 v0 11) <|
  p_bi (p_wZ s0 v0 71 (-1)) fun s2 =>
  O_Mo_doPlans_7 3000 v0 0 s2
set_option maxRecDepth 100000 in
set_option maxHeartbeats 4000000 in
theorem tB_Mo_doPlans_73 (K : p_K) (l : Launch) (k7 : Nat → Int → p_Hp → Option p_Hp) (hk7 : ∀ (v0 : Nat) (v1 : Int)  (s0 : p_Hp) (r : p_Hp), k7 v0 v1 s0 = some r → p_Go K l m_Mo_doPlans 7 [(0, p_r v0), (1, p_i v1)] [] s0 (none, r)) (v0 : Nat) (v1 : Int) (s0 : p_Hp) (r : p_Hp) (h : B_Mo_doPlans_73 k7 v0 v1 s0 = some r) : p_Go K l m_Mo_doPlans 73 [(0, p_r v0), (1, p_i v1)] [] s0 (none, r) := by
  unfold B_Mo_doPlans_73 at h
  refine g_iinc (j := 1) [(1, p_i (p_w (v1 + 1))), (0, p_r v0)] (dk_Mo_doPlans 45 rfl) rfl (by decide) rfl ?_
  refine p_ltG (P := fun q => p_Go K l m_Mo_doPlans 76 [(1, p_i q), (0, p_r v0)] [] s0 _) ?_ h
  intro x1 h
  refine g_goto 7 (dk_Mo_doPlans 46 rfl) (by decide) ?_
  refine g_sub [(0, p_r v0), (1, p_i x1)] [1, 0] rfl ?_
  exact hk7 v0 x1 s0 _ h
set_option maxRecDepth 100000 in
set_option maxHeartbeats 4000000 in
theorem tL_Mo_doPlans_7 (K : p_K) (l : Launch) (k7 : Nat → Int → p_Hp → Option p_Hp) (hk7 : ∀ (v0 : Nat) (v1 : Int)  (s0 : p_Hp) (r : p_Hp), k7 v0 v1 s0 = some r → p_Go K l m_Mo_doPlans 7 [(0, p_r v0), (1, p_i v1)] [] s0 (none, r)) (v0 : Nat) (v1 : Int) (s0 : p_Hp) (r : p_Hp) (h : L_Mo_doPlans_7 k7 v0 v1 s0 = some r) : p_Go K l m_Mo_doPlans 7 [(0, p_r v0), (1, p_i v1)] [] s0 (none, r) := by
  unfold L_Mo_doPlans_7 at h
  refine g_iload_n (i := 1) (j := 1) (dk_Mo_doPlans 5 rfl) rfl rfl ?_
  refine g_aload_n (i := 0) (j := 0) (dk_Mo_doPlans 6 rfl) rfl rfl ?_
  obtain ⟨c1, h⟩ := p_gdE h
  refine g_getR fl_Mo_165 (Or.inr ⟨_, rfl⟩) (dk_Mo_doPlans 7 rfl) c1 ?_
  refine g_aload_n (i := 0) (j := 0) (dk_Mo_doPlans 8 rfl) rfl rfl ?_
  refine g_getI fl_Mo_227 (Or.inl rfl) (dk_Mo_doPlans 9 rfl) c1 ?_
  obtain ⟨c2, h⟩ := p_gdE h
  obtain ⟨c3, h⟩ := p_gdE h
  refine g_iaload (dk_Mo_doPlans 10 rfl) c2 c3.1 c3.2 ?_
  refine g_icmp_ge 79 (dk_Mo_doPlans 11 rfl) (by decide) (fun b4 => ?_) (fun b4 => ?_)
  · have h := p_ifT b4 h
    cases h
    exact g_ret rfl rfl (dk_Mo_doPlans 47 rfl) (fun _ => rfl)
  · have h := p_ifF b4 h
    refine g_aload_n (i := 0) (j := 0) (dk_Mo_doPlans 12 rfl) rfl rfl ?_
    refine g_getR fl_Mo_171 (Or.inr ⟨_, rfl⟩) (dk_Mo_doPlans 13 rfl) c1 ?_
    refine g_bipush (dk_Mo_doPlans 14 rfl) rfl (by decide) ?_
    refine g_aload_n (i := 0) (j := 0) (dk_Mo_doPlans 15 rfl) rfl rfl ?_
    refine g_getI fl_Mo_227 (Or.inl rfl) (dk_Mo_doPlans 16 rfl) c1 ?_
    refine g_imul (dk_Mo_doPlans 17 rfl) ?_
    refine g_iconst (dk_Mo_doPlans 18 rfl) (by decide) ?_
    refine g_iload_n (i := 1) (j := 1) (dk_Mo_doPlans 19 rfl) rfl rfl ?_
    refine g_imul (dk_Mo_doPlans 20 rfl) ?_
    refine g_iadd (dk_Mo_doPlans 21 rfl) ?_
    obtain ⟨c5, h⟩ := p_gdE h
    obtain ⟨c6, h⟩ := p_gdE h
    refine g_iaload (dk_Mo_doPlans 22 rfl) c5 c6.1 c6.2 ?_
    refine g_aload_n (i := 0) (j := 0) (dk_Mo_doPlans 23 rfl) rfl rfl ?_
    refine g_getR fl_Mo_13 (Or.inr ⟨_, rfl⟩) (dk_Mo_doPlans 24 rfl) c1 ?_
    refine g_aload_n (i := 0) (j := 0) (dk_Mo_doPlans 25 rfl) rfl rfl ?_
    refine g_getI fl_Mo_227 (Or.inl rfl) (dk_Mo_doPlans 26 rfl) c1 ?_
    obtain ⟨c7, h⟩ := p_gdE h
    obtain ⟨c8, h⟩ := p_gdE h
    refine g_iaload (dk_Mo_doPlans 27 rfl) c7 c8.1 c8.2 ?_
    refine g_icmp_ne 73 (dk_Mo_doPlans 28 rfl) (by decide) (fun b9 => ?_) (fun b9 => ?_)
    · have h := p_ifT b9 h
      exact tB_Mo_doPlans_73 K l k7 hk7 v0 v1 s0 _ h
    · have h := p_ifF b9 h
      refine g_aload_n (i := 0) (j := 0) (dk_Mo_doPlans 29 rfl) rfl rfl ?_
      refine g_bipush (dk_Mo_doPlans 30 rfl) rfl (by decide) ?_
      refine g_aload_n (i := 0) (j := 0) (dk_Mo_doPlans 31 rfl) rfl rfl ?_
      refine g_getI fl_Mo_227 (Or.inl rfl) (dk_Mo_doPlans 32 rfl) c1 ?_
      refine g_imul (dk_Mo_doPlans 33 rfl) ?_
      refine g_iload_n (i := 1) (j := 1) (dk_Mo_doPlans 34 rfl) rfl rfl ?_
      refine g_iadd (dk_Mo_doPlans 35 rfl) ?_
      obtain ⟨r14, s10, q11, h⟩ := p_bdE h
      have t12 := tF_Mo_planFault K l v0 (p_w ((p_w (16 * (p_Z s0 v0 0))) + v1)) s0 _ q11
      refine g_callV (a := v0) (ci := 11) (q0 := (RX11, TX11, 90)) (As := [p_i (p_w ((p_w (16 * (p_Z s0 v0 0))) + v1))]) (rest := []) [p_i r14] mt_Mo_planFault rfl rfl tw_8_60 ts_75 tw_8_58 ⟨Nat.le_of_ble_eq_true rfl, Nat.le_of_ble_eq_true rfl⟩ rfl (Nat.le_of_ble_eq_true rfl) (dk_Mo_doPlans 36 rfl) rfl c1 rfl t12 ?_
      have hs13 : p_x s0 s10 := t12.1
      show p_Go K l m_Mo_doPlans 61 [(0, p_r v0), (1, p_i v1)] [p_i r14] s10 _
      refine g_istore_n (i := 2) [(2, p_i r14), (0, p_r v0), (1, p_i v1)] (dk_Mo_doPlans 37 rfl) rfl (by decide) rfl ?_
      refine g_iload_n (i := 2) (j := 0) (dk_Mo_doPlans 38 rfl) rfl rfl ?_
      refine g_if_le 73 (dk_Mo_doPlans 39 rfl) (by decide) (fun b15 => ?_) (fun b15 => ?_)
      · have h := p_ifT b15 h
        refine g_sub [(0, p_r v0), (1, p_i v1)] [1, 2] rfl ?_
        exact tB_Mo_doPlans_73 K l k7 hk7 v0 v1 s10 _ h
      · have h := p_ifF b15 h
        refine g_aload_n (i := 0) (j := 1) (dk_Mo_doPlans 40 rfl) rfl rfl ?_
        refine g_iconst (dk_Mo_doPlans 41 rfl) (by decide) ?_
        refine g_iload_n (i := 2) (j := 0) (dk_Mo_doPlans 42 rfl) rfl rfl ?_
        refine g_iload_n (i := 1) (j := 2) (dk_Mo_doPlans 43 rfl) rfl rfl ?_
        obtain ⟨s16, q17, h⟩ := p_bvE h
        have t18 := tF_Mo_find K l v0 5 r14 v1 s10 _ q17
        refine g_callV (a := v0) (ci := 11) (q0 := (RX11, TX11, 90)) (As := [p_i 5, p_i r14, p_i v1]) (rest := []) [] mt_Mo_find rfl rfl tw_8_64 ts_76 tw_8_62 ⟨Nat.le_of_ble_eq_true rfl, Nat.le_of_ble_eq_true rfl⟩ rfl (Nat.le_of_ble_eq_true rfl) (dk_Mo_doPlans 44 rfl) rfl (c1.up hs13) rfl t18 ?_
        have hs19 : p_x s10 s16 := t18.1
        show p_Go K l m_Mo_doPlans 73 [(2, p_i r14), (0, p_r v0), (1, p_i v1)] [] s16 _
        refine g_sub [(0, p_r v0), (1, p_i v1)] [1, 2] rfl ?_
        exact tB_Mo_doPlans_73 K l k7 hk7 v0 v1 s16 _ h
set_option maxRecDepth 100000 in
set_option maxHeartbeats 4000000 in
theorem tO_Mo_doPlans_7 (K : p_K) (l : Launch)  : ∀ (n : Nat) (v0 : Nat) (v1 : Int) (s0 : p_Hp) (r : p_Hp), O_Mo_doPlans_7 n v0 v1 s0 = some r → p_Go K l m_Mo_doPlans 7 [(0, p_r v0), (1, p_i v1)] [] s0 (none, r) := by
  intro n
  induction n with
  | zero => intro v0 v1 s0 r h; cases (show (none : Option p_Hp) = some r from h)
  | succ n ih => intro v0 v1 s0 r h; exact tL_Mo_doPlans_7 K l _ ih v0 v1 s0 r h
set_option maxRecDepth 100000 in
set_option maxHeartbeats 4000000 in
theorem tF_Mo_doPlans (K : p_K) (l : Launch) (v0 : Nat) (s0 : p_Hp) (r : p_Hp) (h : F_Mo_doPlans v0 s0 = some r) : p_Ct K l m_Mo_doPlans [p_r v0] s0 (none, r) := by
  refine p_Ct.of (by decide) (Nat.le_of_ble_eq_true rfl) ?_
  unfold F_Mo_doPlans at h
  show p_Go K l m_Mo_doPlans 0 [(0, p_r v0)] [] s0 _
  refine g_aload_n (i := 0) (j := 0) (dk_Mo_doPlans 0 rfl) rfl rfl ?_
  refine g_iconst (dk_Mo_doPlans 1 rfl) (by decide) ?_
  obtain ⟨c1, h⟩ := p_gdE h
  refine g_putI fl_Mo_379 (Or.inl rfl) (dk_Mo_doPlans 2 rfl) c1 ?_
  refine p_ltS (P := fun q => p_Go K l m_Mo_doPlans 5 [(0, p_r v0)] [] q _) (p_xZ _ _ _ _) ?_ h
  intro s2 hs3 h
  refine g_iconst (dk_Mo_doPlans 3 rfl) (by decide) ?_
  refine g_istore_n (i := 1) [(1, p_i 0), (0, p_r v0)] (dk_Mo_doPlans 4 rfl) rfl (by decide) rfl ?_
  refine g_sub [(0, p_r v0), (1, p_i 0)] [1, 0] rfl ?_
  exact tO_Mo_doPlans_7 K l 3000 v0 0 s2 _ h
def m_Mo_both : p_Me := (⟨"SortWorksModel", "both", "(I)I"⟩, prog_13_method_88_code, 3, (some .int), 0, 0)
theorem mt_Mo_both : p_Mt m_Mo_both 1 := ⟨p_mem (p_tb8 (List.mem_of_getElem? (i := 45) rfl)) rfl, tw_1_12, by decide +kernel, by decide +kernel, by decide +kernel⟩
def dt_Mo_both : List (Nat × Instr × Nat) := [(0, .aload_n 0, 1), (1, .getfield 496, 3), (4, .ifCond .eq 13, 3), (7, .aload_n 0, 1), (8, .getfield 214, 3), (11, .aload_n 0, 1), (12, .getfield 500, 3), (15, .iload_n 1, 1), (16, .iastore, 1), (17, .aload_n 0, 1), (18, .getfield 214, 3), (21, .aload_n 0, 1), (22, .getfield 500, 3), (25, .iaload, 1), (26, .istore_n 2, 1), (27, .aload_n 0, 1), (28, .dup, 1), (29, .getfield 500, 3), (32, .iconst 1, 1), (33, .iadd, 1), (34, .putfield 500, 3), (37, .iload_n 2, 1), (38, .ireturn, 1)]
theorem dk_Mo_both (i : Nat) {pc : Nat} {ins : Instr} {len : Nat} (h : dt_Mo_both[i]? = some (pc, ins, len)) : decode m_Mo_both.2.1 pc = .ok (ins, len) := p_dk (b := m_Mo_both.2.1) (t := dt_Mo_both) (by decide +kernel) i h
def B_Mo_both_17  (v0 : Nat) (s0 : p_Hp) : Option (Int × p_Hp) :=
  p_gd (p_is s0 v0 11) <|
  p_gd (p_is s0 (p_R s0 v0 83) 100) <|
  p_gd (0 ≤ (p_Z s0 v0 84) ∧ (p_Z s0 v0 84) < (p_L s0 (p_R s0 v0 83) : Int)) <|
  p_bi ((p_Z s0 (p_R s0 v0 83) ((p_Z s0 v0 84)).toNat)) fun x4 =>
  p_bi (p_wZ s0 v0 84 (p_w ((p_Z s0 v0 84) + 1))) fun s5 =>
  some (x4, s5)
def F_Mo_both (v0 : Nat) (v1 : Int) (s0 : p_Hp) : Option (Int × p_Hp) :=
  p_gd (p_is s0 v0 11) <|
  if (p_Z s0 v0 85) = 0 then
    B_Mo_both_17 v0 s0
  else
    p_gd (p_is s0 (p_R s0 v0 83) 100) <|
    p_gd (0 ≤ (p_Z s0 v0 84) ∧ (p_Z s0 v0 84) < (p_L s0 (p_R s0 v0 83) : Int)) <|
    p_bi (p_wZ s0 (p_R s0 v0 83) ((p_Z s0 v0 84)).toNat v1) fun s5 =>
    B_Mo_both_17 v0 s5
set_option maxRecDepth 100000 in
set_option maxHeartbeats 4000000 in
theorem tB_Mo_both_17 (K : p_K) (l : Launch)  (v0 : Nat) (s0 : p_Hp) (r : (Int × p_Hp)) (h : B_Mo_both_17 v0 s0 = some r) : p_Go K l m_Mo_both 17 [(0, p_r v0)] [] s0 (some (p_i r.1), r.2) := by
  unfold B_Mo_both_17 at h
  refine g_aload_n (i := 0) (j := 0) (dk_Mo_both 9 rfl) rfl rfl ?_
  obtain ⟨c1, h⟩ := p_gdE h
  refine g_getR fl_Mo_214 (Or.inr ⟨_, rfl⟩) (dk_Mo_both 10 rfl) c1 ?_
  refine g_aload_n (i := 0) (j := 0) (dk_Mo_both 11 rfl) rfl rfl ?_
  refine g_getI fl_Mo_500 (Or.inl rfl) (dk_Mo_both 12 rfl) c1 ?_
  obtain ⟨c2, h⟩ := p_gdE h
  obtain ⟨c3, h⟩ := p_gdE h
  refine g_iaload (dk_Mo_both 13 rfl) c2 c3.1 c3.2 ?_
  refine g_istore_n (i := 2) [(2, p_i (p_Z s0 (p_R s0 v0 83) ((p_Z s0 v0 84)).toNat)), (0, p_r v0)] (dk_Mo_both 14 rfl) rfl (by decide) rfl ?_
  refine p_ltG (P := fun q => p_Go K l m_Mo_both 27 [(2, p_i q), (0, p_r v0)] [] s0 _) ?_ h
  intro x4 h
  refine g_aload_n (i := 0) (j := 1) (dk_Mo_both 15 rfl) rfl rfl ?_
  refine g_dup (dk_Mo_both 16 rfl) rfl ?_
  refine g_getI fl_Mo_500 (Or.inl rfl) (dk_Mo_both 17 rfl) c1 ?_
  refine g_iconst (dk_Mo_both 18 rfl) (by decide) ?_
  refine g_iadd (dk_Mo_both 19 rfl) ?_
  refine g_putI fl_Mo_500 (Or.inl rfl) (dk_Mo_both 20 rfl) c1 ?_
  refine p_ltS (P := fun q => p_Go K l m_Mo_both 37 [(2, p_i x4), (0, p_r v0)] [] q _) (p_xZ _ _ _ _) ?_ h
  intro s5 hs6 h
  refine g_iload_n (i := 2) (j := 0) (dk_Mo_both 21 rfl) rfl rfl ?_
  cases h
  exact g_ret rfl rfl (dk_Mo_both 22 rfl) (fun os => ⟨_, rfl, p_okh os⟩)
set_option maxRecDepth 100000 in
set_option maxHeartbeats 4000000 in
theorem tF_Mo_both (K : p_K) (l : Launch) (v0 : Nat) (v1 : Int) (s0 : p_Hp) (r : (Int × p_Hp)) (h : F_Mo_both v0 v1 s0 = some r) : p_Ct K l m_Mo_both [p_r v0, p_i v1] s0 (some (p_i r.1), r.2) := by
  refine p_Ct.of (by decide) (Nat.le_of_ble_eq_true rfl) ?_
  unfold F_Mo_both at h
  show p_Go K l m_Mo_both 0 [(0, p_r v0), (1, p_i v1)] [] s0 _
  refine g_aload_n (i := 0) (j := 0) (dk_Mo_both 0 rfl) rfl rfl ?_
  obtain ⟨c1, h⟩ := p_gdE h
  refine g_getI fl_Mo_496 (Or.inr rfl) (dk_Mo_both 1 rfl) c1 ?_
  refine g_if_eq 17 (dk_Mo_both 2 rfl) (by decide) (fun b2 => ?_) (fun b2 => ?_)
  · have h := p_ifT b2 h
    refine g_sub [(0, p_r v0)] [0] rfl ?_
    exact tB_Mo_both_17 K l v0 s0 _ h
  · have h := p_ifF b2 h
    refine g_aload_n (i := 0) (j := 0) (dk_Mo_both 3 rfl) rfl rfl ?_
    refine g_getR fl_Mo_214 (Or.inr ⟨_, rfl⟩) (dk_Mo_both 4 rfl) c1 ?_
    refine g_aload_n (i := 0) (j := 0) (dk_Mo_both 5 rfl) rfl rfl ?_
    refine g_getI fl_Mo_500 (Or.inl rfl) (dk_Mo_both 6 rfl) c1 ?_
    refine g_iload_n (i := 1) (j := 1) (dk_Mo_both 7 rfl) rfl rfl ?_
    obtain ⟨c3, h⟩ := p_gdE h
    obtain ⟨c4, h⟩ := p_gdE h
    refine g_iastore (dk_Mo_both 8 rfl) c3 c4.1 c4.2 ?_
    refine p_ltS (P := fun q => p_Go K l m_Mo_both 17 [(0, p_r v0), (1, p_i v1)] [] q _) (p_xZ _ _ _ _) ?_ h
    intro s5 hs6 h
    refine g_sub [(0, p_r v0)] [0] rfl ?_
    exact tB_Mo_both_17 K l v0 s5 _ h
def m_Mo_goOverGear : p_Me := (⟨"SortWorksModel", "goOverGear", "(I)V"⟩, prog_13_method_91_code, 3, none, 1, 22)
theorem mt_Mo_goOverGear : p_Mt m_Mo_goOverGear 1 := ⟨p_mem (p_tb8 (List.mem_of_getElem? (i := 49) rfl)) rfl, tw_1_12, by decide +kernel, by decide +kernel, by decide +kernel⟩
def dt_Mo_goOverGear : List (Nat × Instr × Nat) := [(0, .aload_n 0, 1), (1, .getfield 31, 3), (4, .iload_n 1, 1), (5, .aload_n 0, 1), (6, .aload_n 0, 1), (7, .getfield 31, 3), (10, .iload_n 1, 1), (11, .iaload, 1), (12, .invokevirtual 506, 3), (15, .iastore, 1), (16, .aload_n 0, 1), (17, .getfield 38, 3), (20, .iload_n 1, 1), (21, .aload_n 0, 1), (22, .aload_n 0, 1), (23, .getfield 38, 3), (26, .iload_n 1, 1), (27, .iaload, 1), (28, .invokevirtual 506, 3), (31, .iastore, 1), (32, .aload_n 0, 1), (33, .getfield 41, 3), (36, .iload_n 1, 1), (37, .aload_n 0, 1), (38, .aload_n 0, 1), (39, .getfield 41, 3), (42, .iload_n 1, 1), (43, .iaload, 1), (44, .invokevirtual 506, 3), (47, .iastore, 1), (48, .aload_n 0, 1), (49, .getfield 44, 3), (52, .iload_n 1, 1), (53, .aload_n 0, 1), (54, .aload_n 0, 1), (55, .getfield 44, 3), (58, .iload_n 1, 1), (59, .baload, 1), (60, .ifCond .eq 7, 3), (63, .iconst 1, 1), (64, .goto 4, 3), (67, .iconst 0, 1), (68, .invokevirtual 506, 3), (71, .iconst 1, 1), (72, .if_icmp .ne 7, 3), (75, .iconst 1, 1), (76, .goto 4, 3), (79, .iconst 0, 1), (80, .bastore, 1), (81, .aload_n 0, 1), (82, .getfield 48, 3), (85, .iload_n 1, 1), (86, .aload_n 0, 1), (87, .aload_n 0, 1), (88, .getfield 48, 3), (91, .iload_n 1, 1), (92, .iaload, 1), (93, .invokevirtual 506, 3), (96, .iastore, 1), (97, .aload_n 0, 1), (98, .getfield 51, 3), (101, .iload_n 1, 1), (102, .aload_n 0, 1), (103, .aload_n 0, 1), (104, .getfield 51, 3), (107, .iload_n 1, 1), (108, .iaload, 1), (109, .invokevirtual 506, 3), (112, .iastore, 1), (113, .aload_n 0, 1), (114, .getfield 54, 3), (117, .iload_n 1, 1), (118, .aload_n 0, 1), (119, .aload_n 0, 1), (120, .getfield 54, 3), (123, .iload_n 1, 1), (124, .iaload, 1), (125, .invokevirtual 506, 3), (128, .iastore, 1), (129, .aload_n 0, 1), (130, .getfield 57, 3), (133, .iload_n 1, 1), (134, .aload_n 0, 1), (135, .aload_n 0, 1), (136, .getfield 57, 3), (139, .iload_n 1, 1), (140, .iaload, 1), (141, .invokevirtual 506, 3), (144, .iastore, 1), (145, .aload_n 0, 1), (146, .getfield 60, 3), (149, .iload_n 1, 1), (150, .aload_n 0, 1), (151, .aload_n 0, 1), (152, .getfield 60, 3), (155, .iload_n 1, 1), (156, .iaload, 1), (157, .invokevirtual 506, 3), (160, .iastore, 1), (161, .aload_n 0, 1), (162, .getfield 63, 3), (165, .iload_n 1, 1), (166, .aload_n 0, 1), (167, .aload_n 0, 1), (168, .getfield 63, 3), (171, .iload_n 1, 1), (172, .iaload, 1), (173, .invokevirtual 506, 3), (176, .iastore, 1), (177, .aload_n 0, 1), (178, .getfield 66, 3), (181, .iload_n 1, 1), (182, .aload_n 0, 1), (183, .aload_n 0, 1), (184, .getfield 66, 3), (187, .iload_n 1, 1), (188, .iaload, 1), (189, .invokevirtual 506, 3), (192, .iastore, 1), (193, .bipush 8, 2), (195, .iload_n 1, 1), (196, .imul, 1), (197, .istore_n 2, 1), (198, .iload_n 2, 1), (199, .bipush 8, 2), (201, .iload_n 1, 1), (202, .imul, 1), (203, .bipush 8, 2), (205, .iadd, 1), (206, .if_icmp .ge 25, 3), (209, .aload_n 0, 1), (210, .getfield 69, 3), (213, .iload_n 2, 1), (214, .aload_n 0, 1), (215, .aload_n 0, 1), (216, .getfield 69, 3), (219, .iload_n 2, 1), (220, .iaload, 1), (221, .invokevirtual 506, 3), (224, .iastore, 1), (225, .iinc 2 1, 3), (228, .goto (-30), 3), (231, .return_, 1)]
theorem dk_Mo_goOverGear (i : Nat) {pc : Nat} {ins : Instr} {len : Nat} (h : dt_Mo_goOverGear[i]? = some (pc, ins, len)) : decode m_Mo_goOverGear.2.1 pc = .ok (ins, len) := p_dk (b := m_Mo_goOverGear.2.1) (t := dt_Mo_goOverGear) (by decide +kernel) i h
def L_Mo_goOverGear_198 (k198 : Nat → Int → Int → p_Hp → Option p_Hp) (v0 : Nat) (v1 : Int) (v2 : Int) (s0 : p_Hp) : Option p_Hp :=
  if (p_w ((p_w (8 * v1)) + 8)) ≤ v2 then
    some s0
  else
    p_gd (p_is s0 v0 11) <|
    p_gd (p_is s0 (p_R s0 v0 22) 100) <|
    p_gd (0 ≤ v2 ∧ v2 < (p_L s0 (p_R s0 v0 22) : Int)) <|
    p_bd (F_Mo_both v0 (p_Z s0 (p_R s0 v0 22) (v2).toNat) s0) fun r9 s5 =>
    p_gd (0 ≤ v2 ∧ v2 < (p_L s5 (p_R s0 v0 22) : Int)) <|
    p_bi (p_wZ s5 (p_R s0 v0 22) (v2).toNat r9) fun s11 =>
    p_bi (p_w (v2 + 1)) fun x13 =>
    k198 v0 v1 x13 s11
def O_Mo_goOverGear_198  : Nat → Nat → Int → Int → p_Hp → Option p_Hp
  | 0 => fun _ _ _ _ => none
  | n + 1 => L_Mo_goOverGear_198 (O_Mo_goOverGear_198 n)
def B_Mo_goOverGear_80  (v0 : Nat) (v1 : Int) (w0 : Int) (w1 : Int) (w2 : Nat) (s0 : p_Hp) : Option p_Hp :=
  p_gd (p_is s0 w2 102) <|
  p_gd (0 ≤ w1 ∧ w1 < (p_L s0 w2 : Int)) <|
  p_gd (w0 = 0 ∨ w0 = 1) <|
  p_bi (p_wZ s0 w2 (w1).toNat w0) fun s4 =>
  p_gd (p_is s4 v0 11) <|
  p_gd (p_is s4 (p_R s4 v0 15) 100) <|
  p_gd (0 ≤ v1 ∧ v1 < (p_L s4 (p_R s4 v0 15) : Int)) <|
  p_bd (F_Mo_both v0 (p_Z s4 (p_R s4 v0 15) (v1).toNat) s4) fun r13 s9 =>
  p_gd (0 ≤ v1 ∧ v1 < (p_L s9 (p_R s4 v0 15) : Int)) <|
  p_bi (p_wZ s9 (p_R s4 v0 15) (v1).toNat r13) fun s15 =>
  p_gd (p_is s15 (p_R s15 v0 16) 100) <|
  p_gd (0 ≤ v1 ∧ v1 < (p_L s15 (p_R s15 v0 16) : Int)) <|
  p_bd (F_Mo_both v0 (p_Z s15 (p_R s15 v0 16) (v1).toNat) s15) fun r23 s19 =>
  p_gd (0 ≤ v1 ∧ v1 < (p_L s19 (p_R s15 v0 16) : Int)) <|
  p_bi (p_wZ s19 (p_R s15 v0 16) (v1).toNat r23) fun s25 =>
  p_gd (p_is s25 (p_R s25 v0 17) 100) <|
  p_gd (0 ≤ v1 ∧ v1 < (p_L s25 (p_R s25 v0 17) : Int)) <|
  p_bd (F_Mo_both v0 (p_Z s25 (p_R s25 v0 17) (v1).toNat) s25) fun r33 s29 =>
  p_gd (0 ≤ v1 ∧ v1 < (p_L s29 (p_R s25 v0 17) : Int)) <|
  p_bi (p_wZ s29 (p_R s25 v0 17) (v1).toNat r33) fun s35 =>
  p_gd (p_is s35 (p_R s35 v0 18) 100) <|
  p_gd (0 ≤ v1 ∧ v1 < (p_L s35 (p_R s35 v0 18) : Int)) <|
  p_bd (F_Mo_both v0 (p_Z s35 (p_R s35 v0 18) (v1).toNat) s35) fun r43 s39 =>
  p_gd (0 ≤ v1 ∧ v1 < (p_L s39 (p_R s35 v0 18) : Int)) <|
  p_bi (p_wZ s39 (p_R s35 v0 18) (v1).toNat r43) fun s45 =>
  p_gd (p_is s45 (p_R s45 v0 19) 100) <|
  p_gd (0 ≤ v1 ∧ v1 < (p_L s45 (p_R s45 v0 19) : Int)) <|
  p_bd (F_Mo_both v0 (p_Z s45 (p_R s45 v0 19) (v1).toNat) s45) fun r53 s49 =>
  p_gd (0 ≤ v1 ∧ v1 < (p_L s49 (p_R s45 v0 19) : Int)) <|
  p_bi (p_wZ s49 (p_R s45 v0 19) (v1).toNat r53) fun s55 =>
  p_gd (p_is s55 (p_R s55 v0 20) 100) <|
  p_gd (0 ≤ v1 ∧ v1 < (p_L s55 (p_R s55 v0 20) : Int)) <|
  p_bd (F_Mo_both v0 (p_Z s55 (p_R s55 v0 20) (v1).toNat) s55) fun r63 s59 =>
  p_gd (0 ≤ v1 ∧ v1 < (p_L s59 (p_R s55 v0 20) : Int)) <|
  p_bi (p_wZ s59 (p_R s55 v0 20) (v1).toNat r63) fun s65 =>
  p_gd (p_is s65 (p_R s65 v0 21) 100) <|
  p_gd (0 ≤ v1 ∧ v1 < (p_L s65 (p_R s65 v0 21) : Int)) <|
  p_bd (F_Mo_both v0 (p_Z s65 (p_R s65 v0 21) (v1).toNat) s65) fun r73 s69 =>
  p_gd (0 ≤ v1 ∧ v1 < (p_L s69 (p_R s65 v0 21) : Int)) <|
  p_bi (p_wZ s69 (p_R s65 v0 21) (v1).toNat r73) fun s75 =>
  p_bi ((p_w (8 * v1))) fun x77 =>
  O_Mo_goOverGear_198 3000 v0 v1 x77 s75
def B_Mo_goOverGear_68  (v0 : Nat) (v1 : Int) (w0 : Int) (w1 : Nat) (w2 : Int) (w3 : Nat) (s0 : p_Hp) : Option p_Hp :=
  p_gd (p_is s0 w1 11) <|
  p_bd (F_Mo_both w1 w0 s0) fun r6 s2 =>
  if r6 ≠ 1 then
    B_Mo_goOverGear_80 v0 v1 0 w2 w3 s2
  else
    B_Mo_goOverGear_80 v0 v1 1 w2 w3 s2
def F_Mo_goOverGear (v0 : Nat) (v1 : Int) (s0 : p_Hp) : Option p_Hp :=
  p_gd (p_is s0 v0 11) <|
  p_gd (p_is s0 (p_R s0 v0 10) 100) <|
  p_gd (0 ≤ v1 ∧ v1 < (p_L s0 (p_R s0 v0 10) : Int)) <|
  p_bd (F_Mo_both v0 (p_Z s0 (p_R s0 v0 10) (v1).toNat) s0) fun r8 s4 =>
  p_gd (0 ≤ v1 ∧ v1 < (p_L s4 (p_R s0 v0 10) : Int)) <|
  p_bi (p_wZ s4 (p_R s0 v0 10) (v1).toNat r8) fun s10 =>
  p_gd (p_is s10 (p_R s10 v0 12) 100) <|
  p_gd (0 ≤ v1 ∧ v1 < (p_L s10 (p_R s10 v0 12) : Int)) <|
  p_bd (F_Mo_both v0 (p_Z s10 (p_R s10 v0 12) (v1).toNat) s10) fun r18 s14 =>
  p_gd (0 ≤ v1 ∧ v1 < (p_L s14 (p_R s10 v0 12) : Int)) <|
  p_bi (p_wZ s14 (p_R s10 v0 12) (v1).toNat r18) fun s20 =>
  p_gd (p_is s20 (p_R s20 v0 13) 100) <|
  p_gd (0 ≤ v1 ∧ v1 < (p_L s20 (p_R s20 v0 13) : Int)) <|
  p_bd (F_Mo_both v0 (p_Z s20 (p_R s20 v0 13) (v1).toNat) s20) fun r28 s24 =>
  p_gd (0 ≤ v1 ∧ v1 < (p_L s24 (p_R s20 v0 13) : Int)) <|
  p_bi (p_wZ s24 (p_R s20 v0 13) (v1).toNat r28) fun s30 =>
  p_gd (p_is s30 (p_R s30 v0 14) 102) <|
  p_gd (0 ≤ v1 ∧ v1 < (p_L s30 (p_R s30 v0 14) : Int)) <|
  if (p_Z s30 (p_R s30 v0 14) (v1).toNat) = 0 then
    B_Mo_goOverGear_68 v0 v1 0 v0 v1 (p_R s30 v0 14) s30
  else
    B_Mo_goOverGear_68 v0 v1 1 v0 v1 (p_R s30 v0 14) s30
set_option maxRecDepth 100000 in
set_option maxHeartbeats 4000000 in
theorem tL_Mo_goOverGear_198 (K : p_K) (l : Launch) (k198 : Nat → Int → Int → p_Hp → Option p_Hp) (hk198 : ∀ (v0 : Nat) (v1 : Int) (v2 : Int)  (s0 : p_Hp) (r : p_Hp), k198 v0 v1 v2 s0 = some r → p_Go K l m_Mo_goOverGear 198 [(0, p_r v0), (1, p_i v1), (2, p_i v2)] [] s0 (none, r)) (v0 : Nat) (v1 : Int) (v2 : Int) (s0 : p_Hp) (r : p_Hp) (h : L_Mo_goOverGear_198 k198 v0 v1 v2 s0 = some r) : p_Go K l m_Mo_goOverGear 198 [(0, p_r v0), (1, p_i v1), (2, p_i v2)] [] s0 (none, r) := by
  unfold L_Mo_goOverGear_198 at h
  refine g_iload_n (i := 2) (j := 2) (dk_Mo_goOverGear 123 rfl) rfl rfl ?_
  refine g_bipush (dk_Mo_goOverGear 124 rfl) rfl (by decide) ?_
  refine g_iload_n (i := 1) (j := 1) (dk_Mo_goOverGear 125 rfl) rfl rfl ?_
  refine g_imul (dk_Mo_goOverGear 126 rfl) ?_
  refine g_bipush (dk_Mo_goOverGear 127 rfl) rfl (by decide) ?_
  refine g_iadd (dk_Mo_goOverGear 128 rfl) ?_
  refine g_icmp_ge 231 (dk_Mo_goOverGear 129 rfl) (by decide) (fun b1 => ?_) (fun b1 => ?_)
  · have h := p_ifT b1 h
    cases h
    exact g_ret rfl rfl (dk_Mo_goOverGear 142 rfl) (fun _ => rfl)
  · have h := p_ifF b1 h
    refine g_aload_n (i := 0) (j := 0) (dk_Mo_goOverGear 130 rfl) rfl rfl ?_
    obtain ⟨c2, h⟩ := p_gdE h
    refine g_getR fl_Mo_69 (Or.inr ⟨_, rfl⟩) (dk_Mo_goOverGear 131 rfl) c2 ?_
    refine g_iload_n (i := 2) (j := 2) (dk_Mo_goOverGear 132 rfl) rfl rfl ?_
    refine g_aload_n (i := 0) (j := 0) (dk_Mo_goOverGear 133 rfl) rfl rfl ?_
    refine g_aload_n (i := 0) (j := 0) (dk_Mo_goOverGear 134 rfl) rfl rfl ?_
    refine g_getR fl_Mo_69 (Or.inr ⟨_, rfl⟩) (dk_Mo_goOverGear 135 rfl) c2 ?_
    refine g_iload_n (i := 2) (j := 2) (dk_Mo_goOverGear 136 rfl) rfl rfl ?_
    obtain ⟨c3, h⟩ := p_gdE h
    obtain ⟨c4, h⟩ := p_gdE h
    refine g_iaload (dk_Mo_goOverGear 137 rfl) c3 c4.1 c4.2 ?_
    obtain ⟨r9, s5, q6, h⟩ := p_bdE h
    have t7 := tF_Mo_both K l v0 (p_Z s0 (p_R s0 v0 22) (v2).toNat) s0 _ q6
    refine g_callV (a := v0) (ci := 11) (q0 := (RX11, TX11, 90)) (As := [p_i (p_Z s0 (p_R s0 v0 22) (v2).toNat)]) (rest := [p_i v2, p_r (p_R s0 v0 22)]) [p_i r9, p_i v2, p_r (p_R s0 v0 22)] mt_Mo_both rfl rfl tw_8_44 ts_71 tw_8_42 ⟨Nat.le_of_ble_eq_true rfl, Nat.le_of_ble_eq_true rfl⟩ rfl (Nat.le_of_ble_eq_true rfl) (dk_Mo_goOverGear 138 rfl) rfl c2 rfl t7 ?_
    have hs8 : p_x s0 s5 := t7.1
    show p_Go K l m_Mo_goOverGear 224 [(0, p_r v0), (1, p_i v1), (2, p_i v2)] [p_i r9, p_i v2, p_r (p_R s0 v0 22)] s5 _
    obtain ⟨c10, h⟩ := p_gdE h
    refine g_iastore (dk_Mo_goOverGear 139 rfl) (c3.up hs8) c10.1 c10.2 ?_
    refine p_ltS (P := fun q => p_Go K l m_Mo_goOverGear 225 [(0, p_r v0), (1, p_i v1), (2, p_i v2)] [] q _) (p_xZ _ _ _ _) ?_ h
    intro s11 hs12 h
    refine g_iinc (j := 2) [(2, p_i (p_w (v2 + 1))), (0, p_r v0), (1, p_i v1)] (dk_Mo_goOverGear 140 rfl) rfl (by decide) rfl ?_
    refine p_ltG (P := fun q => p_Go K l m_Mo_goOverGear 228 [(2, p_i q), (0, p_r v0), (1, p_i v1)] [] s11 _) ?_ h
    intro x13 h
    refine g_goto 198 (dk_Mo_goOverGear 141 rfl) (by decide) ?_
    refine g_sub [(0, p_r v0), (1, p_i v1), (2, p_i x13)] [1, 2, 0] rfl ?_
    exact hk198 v0 v1 x13 s11 _ h
set_option maxRecDepth 100000 in
set_option maxHeartbeats 4000000 in
theorem tO_Mo_goOverGear_198 (K : p_K) (l : Launch)  : ∀ (n : Nat) (v0 : Nat) (v1 : Int) (v2 : Int) (s0 : p_Hp) (r : p_Hp), O_Mo_goOverGear_198 n v0 v1 v2 s0 = some r → p_Go K l m_Mo_goOverGear 198 [(0, p_r v0), (1, p_i v1), (2, p_i v2)] [] s0 (none, r) := by
  intro n
  induction n with
  | zero => intro v0 v1 v2 s0 r h; cases (show (none : Option p_Hp) = some r from h)
  | succ n ih => intro v0 v1 v2 s0 r h; exact tL_Mo_goOverGear_198 K l _ ih v0 v1 v2 s0 r h
set_option maxRecDepth 100000 in
set_option maxHeartbeats 4000000 in
theorem tB_Mo_goOverGear_80 (K : p_K) (l : Launch)  (v0 : Nat) (v1 : Int) (w0 : Int) (w1 : Int) (w2 : Nat) (s0 : p_Hp) (r : p_Hp) (h : B_Mo_goOverGear_80 v0 v1 w0 w1 w2 s0 = some r) : p_Go K l m_Mo_goOverGear 80 [(0, p_r v0), (1, p_i v1)] [p_i w0, p_i w1, p_r w2] s0 (none, r) := by
  unfold B_Mo_goOverGear_80 at h
  obtain ⟨c1, h⟩ := p_gdE h
  obtain ⟨c2, h⟩ := p_gdE h
  obtain ⟨c3, h⟩ := p_gdE h
  refine g_bastore (dk_Mo_goOverGear 48 rfl) c1 c2.1 c2.2 c3 ?_
  refine p_ltS (P := fun q => p_Go K l m_Mo_goOverGear 81 [(0, p_r v0), (1, p_i v1)] [] q _) (p_xZ _ _ _ _) ?_ h
  intro s4 hs5 h
  refine g_aload_n (i := 0) (j := 0) (dk_Mo_goOverGear 49 rfl) rfl rfl ?_
  obtain ⟨c6, h⟩ := p_gdE h
  refine g_getR fl_Mo_48 (Or.inr ⟨_, rfl⟩) (dk_Mo_goOverGear 50 rfl) c6 ?_
  refine g_iload_n (i := 1) (j := 1) (dk_Mo_goOverGear 51 rfl) rfl rfl ?_
  refine g_aload_n (i := 0) (j := 0) (dk_Mo_goOverGear 52 rfl) rfl rfl ?_
  refine g_aload_n (i := 0) (j := 0) (dk_Mo_goOverGear 53 rfl) rfl rfl ?_
  refine g_getR fl_Mo_48 (Or.inr ⟨_, rfl⟩) (dk_Mo_goOverGear 54 rfl) c6 ?_
  refine g_iload_n (i := 1) (j := 1) (dk_Mo_goOverGear 55 rfl) rfl rfl ?_
  obtain ⟨c7, h⟩ := p_gdE h
  obtain ⟨c8, h⟩ := p_gdE h
  refine g_iaload (dk_Mo_goOverGear 56 rfl) c7 c8.1 c8.2 ?_
  obtain ⟨r13, s9, q10, h⟩ := p_bdE h
  have t11 := tF_Mo_both K l v0 (p_Z s4 (p_R s4 v0 15) (v1).toNat) s4 _ q10
  refine g_callV (a := v0) (ci := 11) (q0 := (RX11, TX11, 90)) (As := [p_i (p_Z s4 (p_R s4 v0 15) (v1).toNat)]) (rest := [p_i v1, p_r (p_R s4 v0 15)]) [p_i r13, p_i v1, p_r (p_R s4 v0 15)] mt_Mo_both rfl rfl tw_8_44 ts_71 tw_8_42 ⟨Nat.le_of_ble_eq_true rfl, Nat.le_of_ble_eq_true rfl⟩ rfl (Nat.le_of_ble_eq_true rfl) (dk_Mo_goOverGear 57 rfl) rfl c6 rfl t11 ?_
  have hs12 : p_x s4 s9 := t11.1
  show p_Go K l m_Mo_goOverGear 96 [(0, p_r v0), (1, p_i v1)] [p_i r13, p_i v1, p_r (p_R s4 v0 15)] s9 _
  obtain ⟨c14, h⟩ := p_gdE h
  refine g_iastore (dk_Mo_goOverGear 58 rfl) (c7.up hs12) c14.1 c14.2 ?_
  refine p_ltS (P := fun q => p_Go K l m_Mo_goOverGear 97 [(0, p_r v0), (1, p_i v1)] [] q _) (p_xZ _ _ _ _) ?_ h
  intro s15 hs16 h
  refine g_aload_n (i := 0) (j := 0) (dk_Mo_goOverGear 59 rfl) rfl rfl ?_
  refine g_getR fl_Mo_51 (Or.inr ⟨_, rfl⟩) (dk_Mo_goOverGear 60 rfl) (c6.up (hs12.trans hs16)) ?_
  refine g_iload_n (i := 1) (j := 1) (dk_Mo_goOverGear 61 rfl) rfl rfl ?_
  refine g_aload_n (i := 0) (j := 0) (dk_Mo_goOverGear 62 rfl) rfl rfl ?_
  refine g_aload_n (i := 0) (j := 0) (dk_Mo_goOverGear 63 rfl) rfl rfl ?_
  refine g_getR fl_Mo_51 (Or.inr ⟨_, rfl⟩) (dk_Mo_goOverGear 64 rfl) (c6.up (hs12.trans hs16)) ?_
  refine g_iload_n (i := 1) (j := 1) (dk_Mo_goOverGear 65 rfl) rfl rfl ?_
  obtain ⟨c17, h⟩ := p_gdE h
  obtain ⟨c18, h⟩ := p_gdE h
  refine g_iaload (dk_Mo_goOverGear 66 rfl) c17 c18.1 c18.2 ?_
  obtain ⟨r23, s19, q20, h⟩ := p_bdE h
  have t21 := tF_Mo_both K l v0 (p_Z s15 (p_R s15 v0 16) (v1).toNat) s15 _ q20
  refine g_callV (a := v0) (ci := 11) (q0 := (RX11, TX11, 90)) (As := [p_i (p_Z s15 (p_R s15 v0 16) (v1).toNat)]) (rest := [p_i v1, p_r (p_R s15 v0 16)]) [p_i r23, p_i v1, p_r (p_R s15 v0 16)] mt_Mo_both rfl rfl tw_8_44 ts_71 tw_8_42 ⟨Nat.le_of_ble_eq_true rfl, Nat.le_of_ble_eq_true rfl⟩ rfl (Nat.le_of_ble_eq_true rfl) (dk_Mo_goOverGear 67 rfl) rfl (c6.up (hs12.trans hs16)) rfl t21 ?_
  have hs22 : p_x s15 s19 := t21.1
  show p_Go K l m_Mo_goOverGear 112 [(0, p_r v0), (1, p_i v1)] [p_i r23, p_i v1, p_r (p_R s15 v0 16)] s19 _
  obtain ⟨c24, h⟩ := p_gdE h
  refine g_iastore (dk_Mo_goOverGear 68 rfl) (c17.up hs22) c24.1 c24.2 ?_
  refine p_ltS (P := fun q => p_Go K l m_Mo_goOverGear 113 [(0, p_r v0), (1, p_i v1)] [] q _) (p_xZ _ _ _ _) ?_ h
  intro s25 hs26 h
  refine g_aload_n (i := 0) (j := 0) (dk_Mo_goOverGear 69 rfl) rfl rfl ?_
  refine g_getR fl_Mo_54 (Or.inr ⟨_, rfl⟩) (dk_Mo_goOverGear 70 rfl) (c6.up (hs12.trans (hs16.trans (hs22.trans hs26)))) ?_
  refine g_iload_n (i := 1) (j := 1) (dk_Mo_goOverGear 71 rfl) rfl rfl ?_
  refine g_aload_n (i := 0) (j := 0) (dk_Mo_goOverGear 72 rfl) rfl rfl ?_
  refine g_aload_n (i := 0) (j := 0) (dk_Mo_goOverGear 73 rfl) rfl rfl ?_
  refine g_getR fl_Mo_54 (Or.inr ⟨_, rfl⟩) (dk_Mo_goOverGear 74 rfl) (c6.up (hs12.trans (hs16.trans (hs22.trans hs26)))) ?_
  refine g_iload_n (i := 1) (j := 1) (dk_Mo_goOverGear 75 rfl) rfl rfl ?_
  obtain ⟨c27, h⟩ := p_gdE h
  obtain ⟨c28, h⟩ := p_gdE h
  refine g_iaload (dk_Mo_goOverGear 76 rfl) c27 c28.1 c28.2 ?_
  obtain ⟨r33, s29, q30, h⟩ := p_bdE h
  have t31 := tF_Mo_both K l v0 (p_Z s25 (p_R s25 v0 17) (v1).toNat) s25 _ q30
  refine g_callV (a := v0) (ci := 11) (q0 := (RX11, TX11, 90)) (As := [p_i (p_Z s25 (p_R s25 v0 17) (v1).toNat)]) (rest := [p_i v1, p_r (p_R s25 v0 17)]) [p_i r33, p_i v1, p_r (p_R s25 v0 17)] mt_Mo_both rfl rfl tw_8_44 ts_71 tw_8_42 ⟨Nat.le_of_ble_eq_true rfl, Nat.le_of_ble_eq_true rfl⟩ rfl (Nat.le_of_ble_eq_true rfl) (dk_Mo_goOverGear 77 rfl) rfl (c6.up (hs12.trans (hs16.trans (hs22.trans hs26)))) rfl t31 ?_
  have hs32 : p_x s25 s29 := t31.1
  show p_Go K l m_Mo_goOverGear 128 [(0, p_r v0), (1, p_i v1)] [p_i r33, p_i v1, p_r (p_R s25 v0 17)] s29 _
  obtain ⟨c34, h⟩ := p_gdE h
  refine g_iastore (dk_Mo_goOverGear 78 rfl) (c27.up hs32) c34.1 c34.2 ?_
  refine p_ltS (P := fun q => p_Go K l m_Mo_goOverGear 129 [(0, p_r v0), (1, p_i v1)] [] q _) (p_xZ _ _ _ _) ?_ h
  intro s35 hs36 h
  refine g_aload_n (i := 0) (j := 0) (dk_Mo_goOverGear 79 rfl) rfl rfl ?_
  refine g_getR fl_Mo_57 (Or.inr ⟨_, rfl⟩) (dk_Mo_goOverGear 80 rfl) (c6.up (hs12.trans (hs16.trans (hs22.trans (hs26.trans (hs32.trans hs36)))))) ?_
  refine g_iload_n (i := 1) (j := 1) (dk_Mo_goOverGear 81 rfl) rfl rfl ?_
  refine g_aload_n (i := 0) (j := 0) (dk_Mo_goOverGear 82 rfl) rfl rfl ?_
  refine g_aload_n (i := 0) (j := 0) (dk_Mo_goOverGear 83 rfl) rfl rfl ?_
  refine g_getR fl_Mo_57 (Or.inr ⟨_, rfl⟩) (dk_Mo_goOverGear 84 rfl) (c6.up (hs12.trans (hs16.trans (hs22.trans (hs26.trans (hs32.trans hs36)))))) ?_
  refine g_iload_n (i := 1) (j := 1) (dk_Mo_goOverGear 85 rfl) rfl rfl ?_
  obtain ⟨c37, h⟩ := p_gdE h
  obtain ⟨c38, h⟩ := p_gdE h
  refine g_iaload (dk_Mo_goOverGear 86 rfl) c37 c38.1 c38.2 ?_
  obtain ⟨r43, s39, q40, h⟩ := p_bdE h
  have t41 := tF_Mo_both K l v0 (p_Z s35 (p_R s35 v0 18) (v1).toNat) s35 _ q40
  refine g_callV (a := v0) (ci := 11) (q0 := (RX11, TX11, 90)) (As := [p_i (p_Z s35 (p_R s35 v0 18) (v1).toNat)]) (rest := [p_i v1, p_r (p_R s35 v0 18)]) [p_i r43, p_i v1, p_r (p_R s35 v0 18)] mt_Mo_both rfl rfl tw_8_44 ts_71 tw_8_42 ⟨Nat.le_of_ble_eq_true rfl, Nat.le_of_ble_eq_true rfl⟩ rfl (Nat.le_of_ble_eq_true rfl) (dk_Mo_goOverGear 87 rfl) rfl (c6.up (hs12.trans (hs16.trans (hs22.trans (hs26.trans (hs32.trans hs36)))))) rfl t41 ?_
  have hs42 : p_x s35 s39 := t41.1
  show p_Go K l m_Mo_goOverGear 144 [(0, p_r v0), (1, p_i v1)] [p_i r43, p_i v1, p_r (p_R s35 v0 18)] s39 _
  obtain ⟨c44, h⟩ := p_gdE h
  refine g_iastore (dk_Mo_goOverGear 88 rfl) (c37.up hs42) c44.1 c44.2 ?_
  refine p_ltS (P := fun q => p_Go K l m_Mo_goOverGear 145 [(0, p_r v0), (1, p_i v1)] [] q _) (p_xZ _ _ _ _) ?_ h
  intro s45 hs46 h
  refine g_aload_n (i := 0) (j := 0) (dk_Mo_goOverGear 89 rfl) rfl rfl ?_
  refine g_getR fl_Mo_60 (Or.inr ⟨_, rfl⟩) (dk_Mo_goOverGear 90 rfl) (c6.up (hs12.trans (hs16.trans (hs22.trans (hs26.trans (hs32.trans (hs36.trans (hs42.trans hs46)))))))) ?_
  refine g_iload_n (i := 1) (j := 1) (dk_Mo_goOverGear 91 rfl) rfl rfl ?_
  refine g_aload_n (i := 0) (j := 0) (dk_Mo_goOverGear 92 rfl) rfl rfl ?_
  refine g_aload_n (i := 0) (j := 0) (dk_Mo_goOverGear 93 rfl) rfl rfl ?_
  refine g_getR fl_Mo_60 (Or.inr ⟨_, rfl⟩) (dk_Mo_goOverGear 94 rfl) (c6.up (hs12.trans (hs16.trans (hs22.trans (hs26.trans (hs32.trans (hs36.trans (hs42.trans hs46)))))))) ?_
  refine g_iload_n (i := 1) (j := 1) (dk_Mo_goOverGear 95 rfl) rfl rfl ?_
  obtain ⟨c47, h⟩ := p_gdE h
  obtain ⟨c48, h⟩ := p_gdE h
  refine g_iaload (dk_Mo_goOverGear 96 rfl) c47 c48.1 c48.2 ?_
  obtain ⟨r53, s49, q50, h⟩ := p_bdE h
  have t51 := tF_Mo_both K l v0 (p_Z s45 (p_R s45 v0 19) (v1).toNat) s45 _ q50
  refine g_callV (a := v0) (ci := 11) (q0 := (RX11, TX11, 90)) (As := [p_i (p_Z s45 (p_R s45 v0 19) (v1).toNat)]) (rest := [p_i v1, p_r (p_R s45 v0 19)]) [p_i r53, p_i v1, p_r (p_R s45 v0 19)] mt_Mo_both rfl rfl tw_8_44 ts_71 tw_8_42 ⟨Nat.le_of_ble_eq_true rfl, Nat.le_of_ble_eq_true rfl⟩ rfl (Nat.le_of_ble_eq_true rfl) (dk_Mo_goOverGear 97 rfl) rfl (c6.up (hs12.trans (hs16.trans (hs22.trans (hs26.trans (hs32.trans (hs36.trans (hs42.trans hs46)))))))) rfl t51 ?_
  have hs52 : p_x s45 s49 := t51.1
  show p_Go K l m_Mo_goOverGear 160 [(0, p_r v0), (1, p_i v1)] [p_i r53, p_i v1, p_r (p_R s45 v0 19)] s49 _
  obtain ⟨c54, h⟩ := p_gdE h
  refine g_iastore (dk_Mo_goOverGear 98 rfl) (c47.up hs52) c54.1 c54.2 ?_
  refine p_ltS (P := fun q => p_Go K l m_Mo_goOverGear 161 [(0, p_r v0), (1, p_i v1)] [] q _) (p_xZ _ _ _ _) ?_ h
  intro s55 hs56 h
  refine g_aload_n (i := 0) (j := 0) (dk_Mo_goOverGear 99 rfl) rfl rfl ?_
  refine g_getR fl_Mo_63 (Or.inr ⟨_, rfl⟩) (dk_Mo_goOverGear 100 rfl) (c6.up (hs12.trans (hs16.trans (hs22.trans (hs26.trans (hs32.trans (hs36.trans (hs42.trans (hs46.trans (hs52.trans hs56)))))))))) ?_
  refine g_iload_n (i := 1) (j := 1) (dk_Mo_goOverGear 101 rfl) rfl rfl ?_
  refine g_aload_n (i := 0) (j := 0) (dk_Mo_goOverGear 102 rfl) rfl rfl ?_
  refine g_aload_n (i := 0) (j := 0) (dk_Mo_goOverGear 103 rfl) rfl rfl ?_
  refine g_getR fl_Mo_63 (Or.inr ⟨_, rfl⟩) (dk_Mo_goOverGear 104 rfl) (c6.up (hs12.trans (hs16.trans (hs22.trans (hs26.trans (hs32.trans (hs36.trans (hs42.trans (hs46.trans (hs52.trans hs56)))))))))) ?_
  refine g_iload_n (i := 1) (j := 1) (dk_Mo_goOverGear 105 rfl) rfl rfl ?_
  obtain ⟨c57, h⟩ := p_gdE h
  obtain ⟨c58, h⟩ := p_gdE h
  refine g_iaload (dk_Mo_goOverGear 106 rfl) c57 c58.1 c58.2 ?_
  obtain ⟨r63, s59, q60, h⟩ := p_bdE h
  have t61 := tF_Mo_both K l v0 (p_Z s55 (p_R s55 v0 20) (v1).toNat) s55 _ q60
  refine g_callV (a := v0) (ci := 11) (q0 := (RX11, TX11, 90)) (As := [p_i (p_Z s55 (p_R s55 v0 20) (v1).toNat)]) (rest := [p_i v1, p_r (p_R s55 v0 20)]) [p_i r63, p_i v1, p_r (p_R s55 v0 20)] mt_Mo_both rfl rfl tw_8_44 ts_71 tw_8_42 ⟨Nat.le_of_ble_eq_true rfl, Nat.le_of_ble_eq_true rfl⟩ rfl (Nat.le_of_ble_eq_true rfl) (dk_Mo_goOverGear 107 rfl) rfl (c6.up (hs12.trans (hs16.trans (hs22.trans (hs26.trans (hs32.trans (hs36.trans (hs42.trans (hs46.trans (hs52.trans hs56)))))))))) rfl t61 ?_
  have hs62 : p_x s55 s59 := t61.1
  show p_Go K l m_Mo_goOverGear 176 [(0, p_r v0), (1, p_i v1)] [p_i r63, p_i v1, p_r (p_R s55 v0 20)] s59 _
  obtain ⟨c64, h⟩ := p_gdE h
  refine g_iastore (dk_Mo_goOverGear 108 rfl) (c57.up hs62) c64.1 c64.2 ?_
  refine p_ltS (P := fun q => p_Go K l m_Mo_goOverGear 177 [(0, p_r v0), (1, p_i v1)] [] q _) (p_xZ _ _ _ _) ?_ h
  intro s65 hs66 h
  refine g_aload_n (i := 0) (j := 0) (dk_Mo_goOverGear 109 rfl) rfl rfl ?_
  refine g_getR fl_Mo_66 (Or.inr ⟨_, rfl⟩) (dk_Mo_goOverGear 110 rfl) (c6.up (hs12.trans (hs16.trans (hs22.trans (hs26.trans (hs32.trans (hs36.trans (hs42.trans (hs46.trans (hs52.trans (hs56.trans (hs62.trans hs66)))))))))))) ?_
  refine g_iload_n (i := 1) (j := 1) (dk_Mo_goOverGear 111 rfl) rfl rfl ?_
  refine g_aload_n (i := 0) (j := 0) (dk_Mo_goOverGear 112 rfl) rfl rfl ?_
  refine g_aload_n (i := 0) (j := 0) (dk_Mo_goOverGear 113 rfl) rfl rfl ?_
  refine g_getR fl_Mo_66 (Or.inr ⟨_, rfl⟩) (dk_Mo_goOverGear 114 rfl) (c6.up (hs12.trans (hs16.trans (hs22.trans (hs26.trans (hs32.trans (hs36.trans (hs42.trans (hs46.trans (hs52.trans (hs56.trans (hs62.trans hs66)))))))))))) ?_
  refine g_iload_n (i := 1) (j := 1) (dk_Mo_goOverGear 115 rfl) rfl rfl ?_
  obtain ⟨c67, h⟩ := p_gdE h
  obtain ⟨c68, h⟩ := p_gdE h
  refine g_iaload (dk_Mo_goOverGear 116 rfl) c67 c68.1 c68.2 ?_
  obtain ⟨r73, s69, q70, h⟩ := p_bdE h
  have t71 := tF_Mo_both K l v0 (p_Z s65 (p_R s65 v0 21) (v1).toNat) s65 _ q70
  refine g_callV (a := v0) (ci := 11) (q0 := (RX11, TX11, 90)) (As := [p_i (p_Z s65 (p_R s65 v0 21) (v1).toNat)]) (rest := [p_i v1, p_r (p_R s65 v0 21)]) [p_i r73, p_i v1, p_r (p_R s65 v0 21)] mt_Mo_both rfl rfl tw_8_44 ts_71 tw_8_42 ⟨Nat.le_of_ble_eq_true rfl, Nat.le_of_ble_eq_true rfl⟩ rfl (Nat.le_of_ble_eq_true rfl) (dk_Mo_goOverGear 117 rfl) rfl (c6.up (hs12.trans (hs16.trans (hs22.trans (hs26.trans (hs32.trans (hs36.trans (hs42.trans (hs46.trans (hs52.trans (hs56.trans (hs62.trans hs66)))))))))))) rfl t71 ?_
  have hs72 : p_x s65 s69 := t71.1
  show p_Go K l m_Mo_goOverGear 192 [(0, p_r v0), (1, p_i v1)] [p_i r73, p_i v1, p_r (p_R s65 v0 21)] s69 _
  obtain ⟨c74, h⟩ := p_gdE h
  refine g_iastore (dk_Mo_goOverGear 118 rfl) (c67.up hs72) c74.1 c74.2 ?_
  refine p_ltS (P := fun q => p_Go K l m_Mo_goOverGear 193 [(0, p_r v0), (1, p_i v1)] [] q _) (p_xZ _ _ _ _) ?_ h
  intro s75 hs76 h
  refine g_bipush (dk_Mo_goOverGear 119 rfl) rfl (by decide) ?_
  refine g_iload_n (i := 1) (j := 1) (dk_Mo_goOverGear 120 rfl) rfl rfl ?_
  refine g_imul (dk_Mo_goOverGear 121 rfl) ?_
  refine g_istore_n (i := 2) [(2, p_i (p_w (8 * v1))), (0, p_r v0), (1, p_i v1)] (dk_Mo_goOverGear 122 rfl) rfl (by decide) rfl ?_
  refine p_ltG (P := fun q => p_Go K l m_Mo_goOverGear 198 [(2, p_i q), (0, p_r v0), (1, p_i v1)] [] s75 _) ?_ h
  intro x77 h
  refine g_sub [(0, p_r v0), (1, p_i v1), (2, p_i x77)] [1, 2, 0] rfl ?_
  exact tO_Mo_goOverGear_198 K l 3000 v0 v1 x77 s75 _ h
set_option maxRecDepth 100000 in
set_option maxHeartbeats 4000000 in
theorem tB_Mo_goOverGear_68 (K : p_K) (l : Launch)  (v0 : Nat) (v1 : Int) (w0 : Int) (w1 : Nat) (w2 : Int) (w3 : Nat) (s0 : p_Hp) (r : p_Hp) (h : B_Mo_goOverGear_68 v0 v1 w0 w1 w2 w3 s0 = some r) : p_Go K l m_Mo_goOverGear 68 [(0, p_r v0), (1, p_i v1)] [p_i w0, p_r w1, p_i w2, p_r w3] s0 (none, r) := by
  unfold B_Mo_goOverGear_68 at h
  obtain ⟨c1, h⟩ := p_gdE h
  obtain ⟨r6, s2, q3, h⟩ := p_bdE h
  have t4 := tF_Mo_both K l w1 w0 s0 _ q3
  refine g_callV (a := w1) (ci := 11) (q0 := (RX11, TX11, 90)) (As := [p_i w0]) (rest := [p_i w2, p_r w3]) [p_i r6, p_i w2, p_r w3] mt_Mo_both rfl rfl tw_8_44 ts_71 tw_8_42 ⟨Nat.le_of_ble_eq_true rfl, Nat.le_of_ble_eq_true rfl⟩ rfl (Nat.le_of_ble_eq_true rfl) (dk_Mo_goOverGear 42 rfl) rfl c1 rfl t4 ?_
  have hs5 : p_x s0 s2 := t4.1
  show p_Go K l m_Mo_goOverGear 71 [(0, p_r v0), (1, p_i v1)] [p_i r6, p_i w2, p_r w3] s2 _
  refine g_iconst (dk_Mo_goOverGear 43 rfl) (by decide) ?_
  refine g_icmp_ne 79 (dk_Mo_goOverGear 44 rfl) (by decide) (fun b7 => ?_) (fun b7 => ?_)
  · have h := p_ifT b7 h
    refine g_iconst (dk_Mo_goOverGear 47 rfl) (by decide) ?_
    exact tB_Mo_goOverGear_80 K l v0 v1 0 w2 w3 s2 _ h
  · have h := p_ifF b7 h
    refine g_iconst (dk_Mo_goOverGear 45 rfl) (by decide) ?_
    refine g_goto 80 (dk_Mo_goOverGear 46 rfl) (by decide) ?_
    exact tB_Mo_goOverGear_80 K l v0 v1 1 w2 w3 s2 _ h
set_option maxRecDepth 100000 in
set_option maxHeartbeats 4000000 in
theorem tF_Mo_goOverGear (K : p_K) (l : Launch) (v0 : Nat) (v1 : Int) (s0 : p_Hp) (r : p_Hp) (h : F_Mo_goOverGear v0 v1 s0 = some r) : p_Ct K l m_Mo_goOverGear [p_r v0, p_i v1] s0 (none, r) := by
  refine p_Ct.of (by decide) (Nat.le_of_ble_eq_true rfl) ?_
  unfold F_Mo_goOverGear at h
  show p_Go K l m_Mo_goOverGear 0 [(0, p_r v0), (1, p_i v1)] [] s0 _
  refine g_aload_n (i := 0) (j := 0) (dk_Mo_goOverGear 0 rfl) rfl rfl ?_
  obtain ⟨c1, h⟩ := p_gdE h
  refine g_getR fl_Mo_31 (Or.inr ⟨_, rfl⟩) (dk_Mo_goOverGear 1 rfl) c1 ?_
  refine g_iload_n (i := 1) (j := 1) (dk_Mo_goOverGear 2 rfl) rfl rfl ?_
  refine g_aload_n (i := 0) (j := 0) (dk_Mo_goOverGear 3 rfl) rfl rfl ?_
  refine g_aload_n (i := 0) (j := 0) (dk_Mo_goOverGear 4 rfl) rfl rfl ?_
  refine g_getR fl_Mo_31 (Or.inr ⟨_, rfl⟩) (dk_Mo_goOverGear 5 rfl) c1 ?_
  refine g_iload_n (i := 1) (j := 1) (dk_Mo_goOverGear 6 rfl) rfl rfl ?_
  obtain ⟨c2, h⟩ := p_gdE h
  obtain ⟨c3, h⟩ := p_gdE h
  refine g_iaload (dk_Mo_goOverGear 7 rfl) c2 c3.1 c3.2 ?_
  obtain ⟨r8, s4, q5, h⟩ := p_bdE h
  have t6 := tF_Mo_both K l v0 (p_Z s0 (p_R s0 v0 10) (v1).toNat) s0 _ q5
  refine g_callV (a := v0) (ci := 11) (q0 := (RX11, TX11, 90)) (As := [p_i (p_Z s0 (p_R s0 v0 10) (v1).toNat)]) (rest := [p_i v1, p_r (p_R s0 v0 10)]) [p_i r8, p_i v1, p_r (p_R s0 v0 10)] mt_Mo_both rfl rfl tw_8_44 ts_71 tw_8_42 ⟨Nat.le_of_ble_eq_true rfl, Nat.le_of_ble_eq_true rfl⟩ rfl (Nat.le_of_ble_eq_true rfl) (dk_Mo_goOverGear 8 rfl) rfl c1 rfl t6 ?_
  have hs7 : p_x s0 s4 := t6.1
  show p_Go K l m_Mo_goOverGear 15 [(0, p_r v0), (1, p_i v1)] [p_i r8, p_i v1, p_r (p_R s0 v0 10)] s4 _
  obtain ⟨c9, h⟩ := p_gdE h
  refine g_iastore (dk_Mo_goOverGear 9 rfl) (c2.up hs7) c9.1 c9.2 ?_
  refine p_ltS (P := fun q => p_Go K l m_Mo_goOverGear 16 [(0, p_r v0), (1, p_i v1)] [] q _) (p_xZ _ _ _ _) ?_ h
  intro s10 hs11 h
  refine g_aload_n (i := 0) (j := 0) (dk_Mo_goOverGear 10 rfl) rfl rfl ?_
  refine g_getR fl_Mo_38 (Or.inr ⟨_, rfl⟩) (dk_Mo_goOverGear 11 rfl) (c1.up (hs7.trans hs11)) ?_
  refine g_iload_n (i := 1) (j := 1) (dk_Mo_goOverGear 12 rfl) rfl rfl ?_
  refine g_aload_n (i := 0) (j := 0) (dk_Mo_goOverGear 13 rfl) rfl rfl ?_
  refine g_aload_n (i := 0) (j := 0) (dk_Mo_goOverGear 14 rfl) rfl rfl ?_
  refine g_getR fl_Mo_38 (Or.inr ⟨_, rfl⟩) (dk_Mo_goOverGear 15 rfl) (c1.up (hs7.trans hs11)) ?_
  refine g_iload_n (i := 1) (j := 1) (dk_Mo_goOverGear 16 rfl) rfl rfl ?_
  obtain ⟨c12, h⟩ := p_gdE h
  obtain ⟨c13, h⟩ := p_gdE h
  refine g_iaload (dk_Mo_goOverGear 17 rfl) c12 c13.1 c13.2 ?_
  obtain ⟨r18, s14, q15, h⟩ := p_bdE h
  have t16 := tF_Mo_both K l v0 (p_Z s10 (p_R s10 v0 12) (v1).toNat) s10 _ q15
  refine g_callV (a := v0) (ci := 11) (q0 := (RX11, TX11, 90)) (As := [p_i (p_Z s10 (p_R s10 v0 12) (v1).toNat)]) (rest := [p_i v1, p_r (p_R s10 v0 12)]) [p_i r18, p_i v1, p_r (p_R s10 v0 12)] mt_Mo_both rfl rfl tw_8_44 ts_71 tw_8_42 ⟨Nat.le_of_ble_eq_true rfl, Nat.le_of_ble_eq_true rfl⟩ rfl (Nat.le_of_ble_eq_true rfl) (dk_Mo_goOverGear 18 rfl) rfl (c1.up (hs7.trans hs11)) rfl t16 ?_
  have hs17 : p_x s10 s14 := t16.1
  show p_Go K l m_Mo_goOverGear 31 [(0, p_r v0), (1, p_i v1)] [p_i r18, p_i v1, p_r (p_R s10 v0 12)] s14 _
  obtain ⟨c19, h⟩ := p_gdE h
  refine g_iastore (dk_Mo_goOverGear 19 rfl) (c12.up hs17) c19.1 c19.2 ?_
  refine p_ltS (P := fun q => p_Go K l m_Mo_goOverGear 32 [(0, p_r v0), (1, p_i v1)] [] q _) (p_xZ _ _ _ _) ?_ h
  intro s20 hs21 h
  refine g_aload_n (i := 0) (j := 0) (dk_Mo_goOverGear 20 rfl) rfl rfl ?_
  refine g_getR fl_Mo_41 (Or.inr ⟨_, rfl⟩) (dk_Mo_goOverGear 21 rfl) (c1.up (hs7.trans (hs11.trans (hs17.trans hs21)))) ?_
  refine g_iload_n (i := 1) (j := 1) (dk_Mo_goOverGear 22 rfl) rfl rfl ?_
  refine g_aload_n (i := 0) (j := 0) (dk_Mo_goOverGear 23 rfl) rfl rfl ?_
  refine g_aload_n (i := 0) (j := 0) (dk_Mo_goOverGear 24 rfl) rfl rfl ?_
  refine g_getR fl_Mo_41 (Or.inr ⟨_, rfl⟩) (dk_Mo_goOverGear 25 rfl) (c1.up (hs7.trans (hs11.trans (hs17.trans hs21)))) ?_
  refine g_iload_n (i := 1) (j := 1) (dk_Mo_goOverGear 26 rfl) rfl rfl ?_
  obtain ⟨c22, h⟩ := p_gdE h
  obtain ⟨c23, h⟩ := p_gdE h
  refine g_iaload (dk_Mo_goOverGear 27 rfl) c22 c23.1 c23.2 ?_
  obtain ⟨r28, s24, q25, h⟩ := p_bdE h
  have t26 := tF_Mo_both K l v0 (p_Z s20 (p_R s20 v0 13) (v1).toNat) s20 _ q25
  refine g_callV (a := v0) (ci := 11) (q0 := (RX11, TX11, 90)) (As := [p_i (p_Z s20 (p_R s20 v0 13) (v1).toNat)]) (rest := [p_i v1, p_r (p_R s20 v0 13)]) [p_i r28, p_i v1, p_r (p_R s20 v0 13)] mt_Mo_both rfl rfl tw_8_44 ts_71 tw_8_42 ⟨Nat.le_of_ble_eq_true rfl, Nat.le_of_ble_eq_true rfl⟩ rfl (Nat.le_of_ble_eq_true rfl) (dk_Mo_goOverGear 28 rfl) rfl (c1.up (hs7.trans (hs11.trans (hs17.trans hs21)))) rfl t26 ?_
  have hs27 : p_x s20 s24 := t26.1
  show p_Go K l m_Mo_goOverGear 47 [(0, p_r v0), (1, p_i v1)] [p_i r28, p_i v1, p_r (p_R s20 v0 13)] s24 _
  obtain ⟨c29, h⟩ := p_gdE h
  refine g_iastore (dk_Mo_goOverGear 29 rfl) (c22.up hs27) c29.1 c29.2 ?_
  refine p_ltS (P := fun q => p_Go K l m_Mo_goOverGear 48 [(0, p_r v0), (1, p_i v1)] [] q _) (p_xZ _ _ _ _) ?_ h
  intro s30 hs31 h
  refine g_aload_n (i := 0) (j := 0) (dk_Mo_goOverGear 30 rfl) rfl rfl ?_
  refine g_getR fl_Mo_44 (Or.inr ⟨_, rfl⟩) (dk_Mo_goOverGear 31 rfl) (c1.up (hs7.trans (hs11.trans (hs17.trans (hs21.trans (hs27.trans hs31)))))) ?_
  refine g_iload_n (i := 1) (j := 1) (dk_Mo_goOverGear 32 rfl) rfl rfl ?_
  refine g_aload_n (i := 0) (j := 0) (dk_Mo_goOverGear 33 rfl) rfl rfl ?_
  refine g_aload_n (i := 0) (j := 0) (dk_Mo_goOverGear 34 rfl) rfl rfl ?_
  refine g_getR fl_Mo_44 (Or.inr ⟨_, rfl⟩) (dk_Mo_goOverGear 35 rfl) (c1.up (hs7.trans (hs11.trans (hs17.trans (hs21.trans (hs27.trans hs31)))))) ?_
  refine g_iload_n (i := 1) (j := 1) (dk_Mo_goOverGear 36 rfl) rfl rfl ?_
  obtain ⟨c32, h⟩ := p_gdE h
  obtain ⟨c33, h⟩ := p_gdE h
  refine g_baload (dk_Mo_goOverGear 37 rfl) c32 c33.1 c33.2 ?_
  refine g_if_eq 67 (dk_Mo_goOverGear 38 rfl) (by decide) (fun b34 => ?_) (fun b34 => ?_)
  · have h := p_ifT b34 h
    refine g_iconst (dk_Mo_goOverGear 41 rfl) (by decide) ?_
    exact tB_Mo_goOverGear_68 K l v0 v1 0 v0 v1 (p_R s30 v0 14) s30 _ h
  · have h := p_ifF b34 h
    refine g_iconst (dk_Mo_goOverGear 39 rfl) (by decide) ?_
    refine g_goto 68 (dk_Mo_goOverGear 40 rfl) (by decide) ?_
    exact tB_Mo_goOverGear_68 K l v0 v1 1 v0 v1 (p_R s30 v0 14) s30 _ h
def m_Mo_goOverParcels : p_Me := (⟨"SortWorksModel", "goOverParcels", "()V"⟩, prog_13_method_92_code, 4, none, 1, 22)
theorem mt_Mo_goOverParcels : p_Mt m_Mo_goOverParcels 0 := ⟨p_mem (p_tb8 (List.mem_of_getElem? (i := 53) rfl)) rfl, tw_1_12, by decide +kernel, by decide +kernel, by decide +kernel⟩
def dt_Mo_goOverParcels : List (Nat × Instr × Nat) := [(0, .sipush 320, 3), (3, .aload_n 0, 1), (4, .getfield 227, 3), (7, .imul, 1), (8, .istore_n 1, 1), (9, .iload_n 1, 1), (10, .sipush 320, 3), (13, .aload_n 0, 1), (14, .getfield 227, 3), (17, .imul, 1), (18, .bipush 8, 2), (20, .aload_n 0, 1), (21, .getfield 7, 3), (24, .aload_n 0, 1), (25, .getfield 227, 3), (28, .iaload, 1), (29, .imul, 1), (30, .iadd, 1), (31, .if_icmp .ge 216, 3), (34, .aload_n 0, 1), (35, .getfield 69, 3), (38, .iload_n 1, 1), (39, .iaload, 1), (40, .istore_n 2, 1), (41, .iload_n 2, 1), (42, .ifCond .le 199, 3), (45, .aload_n 0, 1), (46, .getfield 75, 3), (49, .iload_n 2, 1), (50, .iconst 1, 1), (51, .iastore, 1), (52, .aload_n 0, 1), (53, .getfield 78, 3), (56, .iload_n 2, 1), (57, .aload_n 0, 1), (58, .aload_n 0, 1), (59, .getfield 78, 3), (62, .iload_n 2, 1), (63, .iaload, 1), (64, .invokevirtual 506, 3), (67, .iastore, 1), (68, .aload_n 0, 1), (69, .getfield 81, 3), (72, .iload_n 2, 1), (73, .aload_n 0, 1), (74, .aload_n 0, 1), (75, .getfield 81, 3), (78, .iload_n 2, 1), (79, .iaload, 1), (80, .invokevirtual 506, 3), (83, .iastore, 1), (84, .aload_n 0, 1), (85, .getfield 90, 3), (88, .iload_n 2, 1), (89, .aload_n 0, 1), (90, .aload_n 0, 1), (91, .getfield 90, 3), (94, .iload_n 2, 1), (95, .iaload, 1), (96, .invokevirtual 506, 3), (99, .iastore, 1), (100, .aload_n 0, 1), (101, .getfield 93, 3), (104, .iload_n 2, 1), (105, .aload_n 0, 1), (106, .aload_n 0, 1), (107, .getfield 93, 3), (110, .iload_n 2, 1), (111, .iaload, 1), (112, .invokevirtual 506, 3), (115, .iastore, 1), (116, .aload_n 0, 1), (117, .getfield 99, 3), (120, .iload_n 2, 1), (121, .aload_n 0, 1), (122, .aload_n 0, 1), (123, .getfield 99, 3), (126, .iload_n 2, 1), (127, .iaload, 1), (128, .invokevirtual 506, 3), (131, .iastore, 1), (132, .aload_n 0, 1), (133, .getfield 105, 3), (136, .iload_n 2, 1), (137, .aload_n 0, 1), (138, .aload_n 0, 1), (139, .getfield 105, 3), (142, .iload_n 2, 1), (143, .baload, 1), (144, .ifCond .eq 7, 3), (147, .iconst 1, 1), (148, .goto 4, 3), (151, .iconst 0, 1), (152, .invokevirtual 506, 3), (155, .iconst 1, 1), (156, .if_icmp .ne 7, 3), (159, .iconst 1, 1), (160, .goto 4, 3), (163, .iconst 0, 1), (164, .bastore, 1), (165, .bipush 12, 2), (167, .iload_n 2, 1), (168, .imul, 1), (169, .istore_n 3, 1), (170, .iload_n 3, 1), (171, .bipush 12, 2), (173, .iload_n 2, 1), (174, .imul, 1), (175, .bipush 12, 2), (177, .iadd, 1), (178, .if_icmp .ge 25, 3), (181, .aload_n 0, 1), (182, .getfield 96, 3), (185, .iload_n 3, 1), (186, .aload_n 0, 1), (187, .aload_n 0, 1), (188, .getfield 96, 3), (191, .iload_n 3, 1), (192, .iaload, 1), (193, .invokevirtual 506, 3), (196, .iastore, 1), (197, .iinc 3 1, 3), (200, .goto (-30), 3), (203, .bipush 16, 2), (205, .iload_n 2, 1), (206, .imul, 1), (207, .istore_n 3, 1), (208, .iload_n 3, 1), (209, .bipush 16, 2), (211, .iload_n 2, 1), (212, .imul, 1), (213, .bipush 16, 2), (215, .iadd, 1), (216, .if_icmp .ge 25, 3), (219, .aload_n 0, 1), (220, .getfield 102, 3), (223, .iload_n 3, 1), (224, .aload_n 0, 1), (225, .aload_n 0, 1), (226, .getfield 102, 3), (229, .iload_n 3, 1), (230, .iaload, 1), (231, .invokevirtual 506, 3), (234, .iastore, 1), (235, .iinc 3 1, 3), (238, .goto (-30), 3), (241, .iinc 1 1, 3), (244, .goto (-235), 3), (247, .return_, 1)]
theorem dk_Mo_goOverParcels (i : Nat) {pc : Nat} {ins : Instr} {len : Nat} (h : dt_Mo_goOverParcels[i]? = some (pc, ins, len)) : decode m_Mo_goOverParcels.2.1 pc = .ok (ins, len) := p_dk (b := m_Mo_goOverParcels.2.1) (t := dt_Mo_goOverParcels) (by decide +kernel) i h
def B_Mo_goOverParcels_241 (k9 : Nat → Int → p_Hp → Option p_Hp) (v0 : Nat) (v1 : Int) (s0 : p_Hp) : Option p_Hp :=
  p_bi (p_w (v1 + 1)) fun x1 =>
  k9 v0 x1 s0
def L_Mo_goOverParcels_208 (k9 : Nat → Int → p_Hp → Option p_Hp) (k208 : Nat → Int → Int → Int → p_Hp → Option p_Hp) (v0 : Nat) (v1 : Int) (v2 : Int) (v3 : Int) (s0 : p_Hp) : Option p_Hp :=
  if (p_w ((p_w (16 * v2)) + 16)) ≤ v3 then
    B_Mo_goOverParcels_241 k9 v0 v1 s0
  else
    p_gd (p_is s0 v0 11) <|
    p_gd (p_is s0 (p_R s0 v0 34) 100) <|
    p_gd (0 ≤ v3 ∧ v3 < (p_L s0 (p_R s0 v0 34) : Int)) <|
    p_bd (F_Mo_both v0 (p_Z s0 (p_R s0 v0 34) (v3).toNat) s0) fun r9 s5 =>
    p_gd (0 ≤ v3 ∧ v3 < (p_L s5 (p_R s0 v0 34) : Int)) <|
    p_bi (p_wZ s5 (p_R s0 v0 34) (v3).toNat r9) fun s11 =>
    p_bi (p_w (v3 + 1)) fun x13 =>
    k208 v0 v1 v2 x13 s11
def O_Mo_goOverParcels_208 (k9 : Nat → Int → p_Hp → Option p_Hp) : Nat → Nat → Int → Int → Int → p_Hp → Option p_Hp
  | 0 => fun _ _ _ _ _ => none
  | n + 1 => L_Mo_goOverParcels_208 k9 (O_Mo_goOverParcels_208 k9 n)
def L_Mo_goOverParcels_170 (k9 : Nat → Int → p_Hp → Option p_Hp) (k170 : Nat → Int → Int → Int → p_Hp → Option p_Hp) (v0 : Nat) (v1 : Int) (v2 : Int) (v3 : Int) (s0 : p_Hp) : Option p_Hp :=
  if (p_w ((p_w (12 * v2)) + 12)) ≤ v3 then
    p_bi ((p_w (16 * v2))) fun x2 =>
    O_Mo_goOverParcels_208 k9 3000 v0 v1 v2 x2 s0
  else
    p_gd (p_is s0 v0 11) <|
    p_gd (p_is s0 (p_R s0 v0 32) 100) <|
    p_gd (0 ≤ v3 ∧ v3 < (p_L s0 (p_R s0 v0 32) : Int)) <|
    p_bd (F_Mo_both v0 (p_Z s0 (p_R s0 v0 32) (v3).toNat) s0) fun r10 s6 =>
    p_gd (0 ≤ v3 ∧ v3 < (p_L s6 (p_R s0 v0 32) : Int)) <|
    p_bi (p_wZ s6 (p_R s0 v0 32) (v3).toNat r10) fun s12 =>
    p_bi (p_w (v3 + 1)) fun x14 =>
    k170 v0 v1 v2 x14 s12
def O_Mo_goOverParcels_170 (k9 : Nat → Int → p_Hp → Option p_Hp) : Nat → Nat → Int → Int → Int → p_Hp → Option p_Hp
  | 0 => fun _ _ _ _ _ => none
  | n + 1 => L_Mo_goOverParcels_170 k9 (O_Mo_goOverParcels_170 k9 n)
def B_Mo_goOverParcels_164 (k9 : Nat → Int → p_Hp → Option p_Hp) (v0 : Nat) (v1 : Int) (v2 : Int) (w0 : Int) (w1 : Int) (w2 : Nat) (s0 : p_Hp) : Option p_Hp :=
  p_gd (p_is s0 w2 102) <|
  p_gd (0 ≤ w1 ∧ w1 < (p_L s0 w2 : Int)) <|
  p_gd (w0 = 0 ∨ w0 = 1) <|
  p_bi (p_wZ s0 w2 (w1).toNat w0) fun s4 =>
  p_bi ((p_w (12 * v2))) fun x6 =>
  O_Mo_goOverParcels_170 k9 3000 v0 v1 v2 x6 s4
def B_Mo_goOverParcels_152 (k9 : Nat → Int → p_Hp → Option p_Hp) (v0 : Nat) (v1 : Int) (v2 : Int) (w0 : Int) (w1 : Nat) (w2 : Int) (w3 : Nat) (s0 : p_Hp) : Option p_Hp :=
  p_gd (p_is s0 w1 11) <|
  p_bd (F_Mo_both w1 w0 s0) fun r6 s2 =>
  if r6 ≠ 1 then
    B_Mo_goOverParcels_164 k9 v0 v1 v2 0 w2 w3 s2
  else
    B_Mo_goOverParcels_164 k9 v0 v1 v2 1 w2 w3 s2
def L_Mo_goOverParcels_9 (k9 : Nat → Int → p_Hp → Option p_Hp) (v0 : Nat) (v1 : Int) (s0 : p_Hp) : Option p_Hp :=
  p_gd (p_is s0 v0 11) <|
  p_gd (p_is s0 (p_R s0 v0 3) 100) <|
  p_gd (0 ≤ (p_Z s0 v0 0) ∧ (p_Z s0 v0 0) < (p_L s0 (p_R s0 v0 3) : Int)) <|
  if (p_w ((p_w (320 * (p_Z s0 v0 0))) + (p_w (8 * (p_Z s0 (p_R s0 v0 3) ((p_Z s0 v0 0)).toNat))))) ≤ v1 then
    some s0
  else
    p_gd (p_is s0 (p_R s0 v0 22) 100) <|
    p_gd (0 ≤ v1 ∧ v1 < (p_L s0 (p_R s0 v0 22) : Int)) <|
    p_bi ((p_Z s0 (p_R s0 v0 22) (v1).toNat)) fun x7 =>
    if x7 ≤ 0 then
      B_Mo_goOverParcels_241 k9 v0 v1 s0
    else
      p_gd (p_is s0 (p_R s0 v0 25) 100) <|
      p_gd (0 ≤ x7 ∧ x7 < (p_L s0 (p_R s0 v0 25) : Int)) <|
      p_bi (p_wZ s0 (p_R s0 v0 25) (x7).toNat 1) fun s11 =>
      p_gd (p_is s11 (p_R s11 v0 26) 100) <|
      p_gd (0 ≤ x7 ∧ x7 < (p_L s11 (p_R s11 v0 26) : Int)) <|
      p_bd (F_Mo_both v0 (p_Z s11 (p_R s11 v0 26) (x7).toNat) s11) fun r19 s15 =>
      p_gd (0 ≤ x7 ∧ x7 < (p_L s15 (p_R s11 v0 26) : Int)) <|
      p_bi (p_wZ s15 (p_R s11 v0 26) (x7).toNat r19) fun s21 =>
      p_gd (p_is s21 (p_R s21 v0 27) 100) <|
      p_gd (0 ≤ x7 ∧ x7 < (p_L s21 (p_R s21 v0 27) : Int)) <|
      p_bd (F_Mo_both v0 (p_Z s21 (p_R s21 v0 27) (x7).toNat) s21) fun r29 s25 =>
      p_gd (0 ≤ x7 ∧ x7 < (p_L s25 (p_R s21 v0 27) : Int)) <|
      p_bi (p_wZ s25 (p_R s21 v0 27) (x7).toNat r29) fun s31 =>
      p_gd (p_is s31 (p_R s31 v0 30) 100) <|
      p_gd (0 ≤ x7 ∧ x7 < (p_L s31 (p_R s31 v0 30) : Int)) <|
      p_bd (F_Mo_both v0 (p_Z s31 (p_R s31 v0 30) (x7).toNat) s31) fun r39 s35 =>
      p_gd (0 ≤ x7 ∧ x7 < (p_L s35 (p_R s31 v0 30) : Int)) <|
      p_bi (p_wZ s35 (p_R s31 v0 30) (x7).toNat r39) fun s41 =>
      p_gd (p_is s41 (p_R s41 v0 31) 100) <|
      p_gd (0 ≤ x7 ∧ x7 < (p_L s41 (p_R s41 v0 31) : Int)) <|
      p_bd (F_Mo_both v0 (p_Z s41 (p_R s41 v0 31) (x7).toNat) s41) fun r49 s45 =>
      p_gd (0 ≤ x7 ∧ x7 < (p_L s45 (p_R s41 v0 31) : Int)) <|
      p_bi (p_wZ s45 (p_R s41 v0 31) (x7).toNat r49) fun s51 =>
      p_gd (p_is s51 (p_R s51 v0 33) 100) <|
      p_gd (0 ≤ x7 ∧ x7 < (p_L s51 (p_R s51 v0 33) : Int)) <|
      p_bd (F_Mo_both v0 (p_Z s51 (p_R s51 v0 33) (x7).toNat) s51) fun r59 s55 =>
      p_gd (0 ≤ x7 ∧ x7 < (p_L s55 (p_R s51 v0 33) : Int)) <|
      p_bi (p_wZ s55 (p_R s51 v0 33) (x7).toNat r59) fun s61 =>
      p_gd (p_is s61 (p_R s61 v0 35) 102) <|
      p_gd (0 ≤ x7 ∧ x7 < (p_L s61 (p_R s61 v0 35) : Int)) <|
      if (p_Z s61 (p_R s61 v0 35) (x7).toNat) = 0 then
        B_Mo_goOverParcels_152 k9 v0 v1 x7 0 v0 x7 (p_R s61 v0 35) s61
      else
        B_Mo_goOverParcels_152 k9 v0 v1 x7 1 v0 x7 (p_R s61 v0 35) s61
def O_Mo_goOverParcels_9  : Nat → Nat → Int → p_Hp → Option p_Hp
  | 0 => fun _ _ _ => none
  | n + 1 => L_Mo_goOverParcels_9 (O_Mo_goOverParcels_9 n)
def F_Mo_goOverParcels (v0 : Nat) (s0 : p_Hp) : Option p_Hp :=
  p_gd (p_is s0 v0 11) <|
  p_bi ((p_w (320 * (p_Z s0 v0 0)))) fun x2 =>
  O_Mo_goOverParcels_9 3000 v0 x2 s0
set_option maxRecDepth 100000 in
set_option maxHeartbeats 4000000 in
theorem tB_Mo_goOverParcels_241 (K : p_K) (l : Launch) (k9 : Nat → Int → p_Hp → Option p_Hp) (hk9 : ∀ (v0 : Nat) (v1 : Int)  (s0 : p_Hp) (r : p_Hp), k9 v0 v1 s0 = some r → p_Go K l m_Mo_goOverParcels 9 [(0, p_r v0), (1, p_i v1)] [] s0 (none, r)) (v0 : Nat) (v1 : Int) (s0 : p_Hp) (r : p_Hp) (h : B_Mo_goOverParcels_241 k9 v0 v1 s0 = some r) : p_Go K l m_Mo_goOverParcels 241 [(0, p_r v0), (1, p_i v1)] [] s0 (none, r) := by
  unfold B_Mo_goOverParcels_241 at h
  refine g_iinc (j := 1) [(1, p_i (p_w (v1 + 1))), (0, p_r v0)] (dk_Mo_goOverParcels 146 rfl) rfl (by decide) rfl ?_
  refine p_ltG (P := fun q => p_Go K l m_Mo_goOverParcels 244 [(1, p_i q), (0, p_r v0)] [] s0 _) ?_ h
  intro x1 h
  refine g_goto 9 (dk_Mo_goOverParcels 147 rfl) (by decide) ?_
  refine g_sub [(0, p_r v0), (1, p_i x1)] [1, 0] rfl ?_
  exact hk9 v0 x1 s0 _ h
set_option maxRecDepth 100000 in
set_option maxHeartbeats 4000000 in
theorem tL_Mo_goOverParcels_208 (K : p_K) (l : Launch) (k9 : Nat → Int → p_Hp → Option p_Hp) (hk9 : ∀ (v0 : Nat) (v1 : Int)  (s0 : p_Hp) (r : p_Hp), k9 v0 v1 s0 = some r → p_Go K l m_Mo_goOverParcels 9 [(0, p_r v0), (1, p_i v1)] [] s0 (none, r)) (k208 : Nat → Int → Int → Int → p_Hp → Option p_Hp) (hk208 : ∀ (v0 : Nat) (v1 : Int) (v2 : Int) (v3 : Int)  (s0 : p_Hp) (r : p_Hp), k208 v0 v1 v2 v3 s0 = some r → p_Go K l m_Mo_goOverParcels 208 [(0, p_r v0), (1, p_i v1), (2, p_i v2), (3, p_i v3)] [] s0 (none, r)) (v0 : Nat) (v1 : Int) (v2 : Int) (v3 : Int) (s0 : p_Hp) (r : p_Hp) (h : L_Mo_goOverParcels_208 k9 k208 v0 v1 v2 v3 s0 = some r) : p_Go K l m_Mo_goOverParcels 208 [(0, p_r v0), (1, p_i v1), (2, p_i v2), (3, p_i v3)] [] s0 (none, r) := by
  unfold L_Mo_goOverParcels_208 at h
  refine g_iload_n (i := 3) (j := 3) (dk_Mo_goOverParcels 127 rfl) rfl rfl ?_
  refine g_bipush (dk_Mo_goOverParcels 128 rfl) rfl (by decide) ?_
  refine g_iload_n (i := 2) (j := 2) (dk_Mo_goOverParcels 129 rfl) rfl rfl ?_
  refine g_imul (dk_Mo_goOverParcels 130 rfl) ?_
  refine g_bipush (dk_Mo_goOverParcels 131 rfl) rfl (by decide) ?_
  refine g_iadd (dk_Mo_goOverParcels 132 rfl) ?_
  refine g_icmp_ge 241 (dk_Mo_goOverParcels 133 rfl) (by decide) (fun b1 => ?_) (fun b1 => ?_)
  · have h := p_ifT b1 h
    refine g_sub [(0, p_r v0), (1, p_i v1)] [0, 1] rfl ?_
    exact tB_Mo_goOverParcels_241 K l k9 hk9 v0 v1 s0 _ h
  · have h := p_ifF b1 h
    refine g_aload_n (i := 0) (j := 0) (dk_Mo_goOverParcels 134 rfl) rfl rfl ?_
    obtain ⟨c2, h⟩ := p_gdE h
    refine g_getR fl_Mo_102 (Or.inr ⟨_, rfl⟩) (dk_Mo_goOverParcels 135 rfl) c2 ?_
    refine g_iload_n (i := 3) (j := 3) (dk_Mo_goOverParcels 136 rfl) rfl rfl ?_
    refine g_aload_n (i := 0) (j := 0) (dk_Mo_goOverParcels 137 rfl) rfl rfl ?_
    refine g_aload_n (i := 0) (j := 0) (dk_Mo_goOverParcels 138 rfl) rfl rfl ?_
    refine g_getR fl_Mo_102 (Or.inr ⟨_, rfl⟩) (dk_Mo_goOverParcels 139 rfl) c2 ?_
    refine g_iload_n (i := 3) (j := 3) (dk_Mo_goOverParcels 140 rfl) rfl rfl ?_
    obtain ⟨c3, h⟩ := p_gdE h
    obtain ⟨c4, h⟩ := p_gdE h
    refine g_iaload (dk_Mo_goOverParcels 141 rfl) c3 c4.1 c4.2 ?_
    obtain ⟨r9, s5, q6, h⟩ := p_bdE h
    have t7 := tF_Mo_both K l v0 (p_Z s0 (p_R s0 v0 34) (v3).toNat) s0 _ q6
    refine g_callV (a := v0) (ci := 11) (q0 := (RX11, TX11, 90)) (As := [p_i (p_Z s0 (p_R s0 v0 34) (v3).toNat)]) (rest := [p_i v3, p_r (p_R s0 v0 34)]) [p_i r9, p_i v3, p_r (p_R s0 v0 34)] mt_Mo_both rfl rfl tw_8_44 ts_71 tw_8_42 ⟨Nat.le_of_ble_eq_true rfl, Nat.le_of_ble_eq_true rfl⟩ rfl (Nat.le_of_ble_eq_true rfl) (dk_Mo_goOverParcels 142 rfl) rfl c2 rfl t7 ?_
    have hs8 : p_x s0 s5 := t7.1
    show p_Go K l m_Mo_goOverParcels 234 [(0, p_r v0), (1, p_i v1), (2, p_i v2), (3, p_i v3)] [p_i r9, p_i v3, p_r (p_R s0 v0 34)] s5 _
    obtain ⟨c10, h⟩ := p_gdE h
    refine g_iastore (dk_Mo_goOverParcels 143 rfl) (c3.up hs8) c10.1 c10.2 ?_
    refine p_ltS (P := fun q => p_Go K l m_Mo_goOverParcels 235 [(0, p_r v0), (1, p_i v1), (2, p_i v2), (3, p_i v3)] [] q _) (p_xZ _ _ _ _) ?_ h
    intro s11 hs12 h
    refine g_iinc (j := 3) [(3, p_i (p_w (v3 + 1))), (0, p_r v0), (1, p_i v1), (2, p_i v2)] (dk_Mo_goOverParcels 144 rfl) rfl (by decide) rfl ?_
    refine p_ltG (P := fun q => p_Go K l m_Mo_goOverParcels 238 [(3, p_i q), (0, p_r v0), (1, p_i v1), (2, p_i v2)] [] s11 _) ?_ h
    intro x13 h
    refine g_goto 208 (dk_Mo_goOverParcels 145 rfl) (by decide) ?_
    refine g_sub [(0, p_r v0), (1, p_i v1), (2, p_i v2), (3, p_i x13)] [1, 2, 3, 0] rfl ?_
    exact hk208 v0 v1 v2 x13 s11 _ h
set_option maxRecDepth 100000 in
set_option maxHeartbeats 4000000 in
theorem tO_Mo_goOverParcels_208 (K : p_K) (l : Launch) (k9 : Nat → Int → p_Hp → Option p_Hp) (hk9 : ∀ (v0 : Nat) (v1 : Int)  (s0 : p_Hp) (r : p_Hp), k9 v0 v1 s0 = some r → p_Go K l m_Mo_goOverParcels 9 [(0, p_r v0), (1, p_i v1)] [] s0 (none, r)) : ∀ (n : Nat) (v0 : Nat) (v1 : Int) (v2 : Int) (v3 : Int) (s0 : p_Hp) (r : p_Hp), O_Mo_goOverParcels_208 k9 n v0 v1 v2 v3 s0 = some r → p_Go K l m_Mo_goOverParcels 208 [(0, p_r v0), (1, p_i v1), (2, p_i v2), (3, p_i v3)] [] s0 (none, r) := by
  intro n
  induction n with
  | zero => intro v0 v1 v2 v3 s0 r h; cases (show (none : Option p_Hp) = some r from h)
  | succ n ih => intro v0 v1 v2 v3 s0 r h; exact tL_Mo_goOverParcels_208 K l k9 hk9 _ ih v0 v1 v2 v3 s0 r h
set_option maxRecDepth 100000 in
set_option maxHeartbeats 4000000 in
theorem tL_Mo_goOverParcels_170 (K : p_K) (l : Launch) (k9 : Nat → Int → p_Hp → Option p_Hp) (hk9 : ∀ (v0 : Nat) (v1 : Int)  (s0 : p_Hp) (r : p_Hp), k9 v0 v1 s0 = some r → p_Go K l m_Mo_goOverParcels 9 [(0, p_r v0), (1, p_i v1)] [] s0 (none, r)) (k170 : Nat → Int → Int → Int → p_Hp → Option p_Hp) (hk170 : ∀ (v0 : Nat) (v1 : Int) (v2 : Int) (v3 : Int)  (s0 : p_Hp) (r : p_Hp), k170 v0 v1 v2 v3 s0 = some r → p_Go K l m_Mo_goOverParcels 170 [(0, p_r v0), (1, p_i v1), (2, p_i v2), (3, p_i v3)] [] s0 (none, r)) (v0 : Nat) (v1 : Int) (v2 : Int) (v3 : Int) (s0 : p_Hp) (r : p_Hp) (h : L_Mo_goOverParcels_170 k9 k170 v0 v1 v2 v3 s0 = some r) : p_Go K l m_Mo_goOverParcels 170 [(0, p_r v0), (1, p_i v1), (2, p_i v2), (3, p_i v3)] [] s0 (none, r) := by
  unfold L_Mo_goOverParcels_170 at h
  refine g_iload_n (i := 3) (j := 3) (dk_Mo_goOverParcels 104 rfl) rfl rfl ?_
  refine g_bipush (dk_Mo_goOverParcels 105 rfl) rfl (by decide) ?_
  refine g_iload_n (i := 2) (j := 2) (dk_Mo_goOverParcels 106 rfl) rfl rfl ?_
  refine g_imul (dk_Mo_goOverParcels 107 rfl) ?_
  refine g_bipush (dk_Mo_goOverParcels 108 rfl) rfl (by decide) ?_
  refine g_iadd (dk_Mo_goOverParcels 109 rfl) ?_
  refine g_icmp_ge 203 (dk_Mo_goOverParcels 110 rfl) (by decide) (fun b1 => ?_) (fun b1 => ?_)
  · have h := p_ifT b1 h
    refine g_bipush (dk_Mo_goOverParcels 123 rfl) rfl (by decide) ?_
    refine g_iload_n (i := 2) (j := 2) (dk_Mo_goOverParcels 124 rfl) rfl rfl ?_
    refine g_imul (dk_Mo_goOverParcels 125 rfl) ?_
    refine g_istore_n (i := 3) [(3, p_i (p_w (16 * v2))), (0, p_r v0), (1, p_i v1), (2, p_i v2)] (dk_Mo_goOverParcels 126 rfl) rfl (by decide) rfl ?_
    refine p_ltG (P := fun q => p_Go K l m_Mo_goOverParcels 208 [(3, p_i q), (0, p_r v0), (1, p_i v1), (2, p_i v2)] [] s0 _) ?_ h
    intro x2 h
    refine g_sub [(0, p_r v0), (1, p_i v1), (2, p_i v2), (3, p_i x2)] [1, 2, 3, 0] rfl ?_
    exact tO_Mo_goOverParcels_208 K l k9 hk9 3000 v0 v1 v2 x2 s0 _ h
  · have h := p_ifF b1 h
    refine g_aload_n (i := 0) (j := 0) (dk_Mo_goOverParcels 111 rfl) rfl rfl ?_
    obtain ⟨c3, h⟩ := p_gdE h
    refine g_getR fl_Mo_96 (Or.inr ⟨_, rfl⟩) (dk_Mo_goOverParcels 112 rfl) c3 ?_
    refine g_iload_n (i := 3) (j := 3) (dk_Mo_goOverParcels 113 rfl) rfl rfl ?_
    refine g_aload_n (i := 0) (j := 0) (dk_Mo_goOverParcels 114 rfl) rfl rfl ?_
    refine g_aload_n (i := 0) (j := 0) (dk_Mo_goOverParcels 115 rfl) rfl rfl ?_
    refine g_getR fl_Mo_96 (Or.inr ⟨_, rfl⟩) (dk_Mo_goOverParcels 116 rfl) c3 ?_
    refine g_iload_n (i := 3) (j := 3) (dk_Mo_goOverParcels 117 rfl) rfl rfl ?_
    obtain ⟨c4, h⟩ := p_gdE h
    obtain ⟨c5, h⟩ := p_gdE h
    refine g_iaload (dk_Mo_goOverParcels 118 rfl) c4 c5.1 c5.2 ?_
    obtain ⟨r10, s6, q7, h⟩ := p_bdE h
    have t8 := tF_Mo_both K l v0 (p_Z s0 (p_R s0 v0 32) (v3).toNat) s0 _ q7
    refine g_callV (a := v0) (ci := 11) (q0 := (RX11, TX11, 90)) (As := [p_i (p_Z s0 (p_R s0 v0 32) (v3).toNat)]) (rest := [p_i v3, p_r (p_R s0 v0 32)]) [p_i r10, p_i v3, p_r (p_R s0 v0 32)] mt_Mo_both rfl rfl tw_8_44 ts_71 tw_8_42 ⟨Nat.le_of_ble_eq_true rfl, Nat.le_of_ble_eq_true rfl⟩ rfl (Nat.le_of_ble_eq_true rfl) (dk_Mo_goOverParcels 119 rfl) rfl c3 rfl t8 ?_
    have hs9 : p_x s0 s6 := t8.1
    show p_Go K l m_Mo_goOverParcels 196 [(0, p_r v0), (1, p_i v1), (2, p_i v2), (3, p_i v3)] [p_i r10, p_i v3, p_r (p_R s0 v0 32)] s6 _
    obtain ⟨c11, h⟩ := p_gdE h
    refine g_iastore (dk_Mo_goOverParcels 120 rfl) (c4.up hs9) c11.1 c11.2 ?_
    refine p_ltS (P := fun q => p_Go K l m_Mo_goOverParcels 197 [(0, p_r v0), (1, p_i v1), (2, p_i v2), (3, p_i v3)] [] q _) (p_xZ _ _ _ _) ?_ h
    intro s12 hs13 h
    refine g_iinc (j := 3) [(3, p_i (p_w (v3 + 1))), (0, p_r v0), (1, p_i v1), (2, p_i v2)] (dk_Mo_goOverParcels 121 rfl) rfl (by decide) rfl ?_
    refine p_ltG (P := fun q => p_Go K l m_Mo_goOverParcels 200 [(3, p_i q), (0, p_r v0), (1, p_i v1), (2, p_i v2)] [] s12 _) ?_ h
    intro x14 h
    refine g_goto 170 (dk_Mo_goOverParcels 122 rfl) (by decide) ?_
    refine g_sub [(0, p_r v0), (1, p_i v1), (2, p_i v2), (3, p_i x14)] [1, 2, 3, 0] rfl ?_
    exact hk170 v0 v1 v2 x14 s12 _ h
set_option maxRecDepth 100000 in
set_option maxHeartbeats 4000000 in
theorem tO_Mo_goOverParcels_170 (K : p_K) (l : Launch) (k9 : Nat → Int → p_Hp → Option p_Hp) (hk9 : ∀ (v0 : Nat) (v1 : Int)  (s0 : p_Hp) (r : p_Hp), k9 v0 v1 s0 = some r → p_Go K l m_Mo_goOverParcels 9 [(0, p_r v0), (1, p_i v1)] [] s0 (none, r)) : ∀ (n : Nat) (v0 : Nat) (v1 : Int) (v2 : Int) (v3 : Int) (s0 : p_Hp) (r : p_Hp), O_Mo_goOverParcels_170 k9 n v0 v1 v2 v3 s0 = some r → p_Go K l m_Mo_goOverParcels 170 [(0, p_r v0), (1, p_i v1), (2, p_i v2), (3, p_i v3)] [] s0 (none, r) := by
  intro n
  induction n with
  | zero => intro v0 v1 v2 v3 s0 r h; cases (show (none : Option p_Hp) = some r from h)
  | succ n ih => intro v0 v1 v2 v3 s0 r h; exact tL_Mo_goOverParcels_170 K l k9 hk9 _ ih v0 v1 v2 v3 s0 r h
set_option maxRecDepth 100000 in
set_option maxHeartbeats 4000000 in
theorem tB_Mo_goOverParcels_164 (K : p_K) (l : Launch) (k9 : Nat → Int → p_Hp → Option p_Hp) (hk9 : ∀ (v0 : Nat) (v1 : Int)  (s0 : p_Hp) (r : p_Hp), k9 v0 v1 s0 = some r → p_Go K l m_Mo_goOverParcels 9 [(0, p_r v0), (1, p_i v1)] [] s0 (none, r)) (v0 : Nat) (v1 : Int) (v2 : Int) (w0 : Int) (w1 : Int) (w2 : Nat) (s0 : p_Hp) (r : p_Hp) (h : B_Mo_goOverParcels_164 k9 v0 v1 v2 w0 w1 w2 s0 = some r) : p_Go K l m_Mo_goOverParcels 164 [(0, p_r v0), (1, p_i v1), (2, p_i v2)] [p_i w0, p_i w1, p_r w2] s0 (none, r) := by
  unfold B_Mo_goOverParcels_164 at h
  obtain ⟨c1, h⟩ := p_gdE h
  obtain ⟨c2, h⟩ := p_gdE h
  obtain ⟨c3, h⟩ := p_gdE h
  refine g_bastore (dk_Mo_goOverParcels 99 rfl) c1 c2.1 c2.2 c3 ?_
  refine p_ltS (P := fun q => p_Go K l m_Mo_goOverParcels 165 [(0, p_r v0), (1, p_i v1), (2, p_i v2)] [] q _) (p_xZ _ _ _ _) ?_ h
  intro s4 hs5 h
  refine g_bipush (dk_Mo_goOverParcels 100 rfl) rfl (by decide) ?_
  refine g_iload_n (i := 2) (j := 2) (dk_Mo_goOverParcels 101 rfl) rfl rfl ?_
  refine g_imul (dk_Mo_goOverParcels 102 rfl) ?_
  refine g_istore_n (i := 3) [(3, p_i (p_w (12 * v2))), (0, p_r v0), (1, p_i v1), (2, p_i v2)] (dk_Mo_goOverParcels 103 rfl) rfl (by decide) rfl ?_
  refine p_ltG (P := fun q => p_Go K l m_Mo_goOverParcels 170 [(3, p_i q), (0, p_r v0), (1, p_i v1), (2, p_i v2)] [] s4 _) ?_ h
  intro x6 h
  refine g_sub [(0, p_r v0), (1, p_i v1), (2, p_i v2), (3, p_i x6)] [1, 2, 3, 0] rfl ?_
  exact tO_Mo_goOverParcels_170 K l k9 hk9 3000 v0 v1 v2 x6 s4 _ h
set_option maxRecDepth 100000 in
set_option maxHeartbeats 4000000 in
theorem tB_Mo_goOverParcels_152 (K : p_K) (l : Launch) (k9 : Nat → Int → p_Hp → Option p_Hp) (hk9 : ∀ (v0 : Nat) (v1 : Int)  (s0 : p_Hp) (r : p_Hp), k9 v0 v1 s0 = some r → p_Go K l m_Mo_goOverParcels 9 [(0, p_r v0), (1, p_i v1)] [] s0 (none, r)) (v0 : Nat) (v1 : Int) (v2 : Int) (w0 : Int) (w1 : Nat) (w2 : Int) (w3 : Nat) (s0 : p_Hp) (r : p_Hp) (h : B_Mo_goOverParcels_152 k9 v0 v1 v2 w0 w1 w2 w3 s0 = some r) : p_Go K l m_Mo_goOverParcels 152 [(0, p_r v0), (1, p_i v1), (2, p_i v2)] [p_i w0, p_r w1, p_i w2, p_r w3] s0 (none, r) := by
  unfold B_Mo_goOverParcels_152 at h
  obtain ⟨c1, h⟩ := p_gdE h
  obtain ⟨r6, s2, q3, h⟩ := p_bdE h
  have t4 := tF_Mo_both K l w1 w0 s0 _ q3
  refine g_callV (a := w1) (ci := 11) (q0 := (RX11, TX11, 90)) (As := [p_i w0]) (rest := [p_i w2, p_r w3]) [p_i r6, p_i w2, p_r w3] mt_Mo_both rfl rfl tw_8_44 ts_71 tw_8_42 ⟨Nat.le_of_ble_eq_true rfl, Nat.le_of_ble_eq_true rfl⟩ rfl (Nat.le_of_ble_eq_true rfl) (dk_Mo_goOverParcels 93 rfl) rfl c1 rfl t4 ?_
  have hs5 : p_x s0 s2 := t4.1
  show p_Go K l m_Mo_goOverParcels 155 [(0, p_r v0), (1, p_i v1), (2, p_i v2)] [p_i r6, p_i w2, p_r w3] s2 _
  refine g_iconst (dk_Mo_goOverParcels 94 rfl) (by decide) ?_
  refine g_icmp_ne 163 (dk_Mo_goOverParcels 95 rfl) (by decide) (fun b7 => ?_) (fun b7 => ?_)
  · have h := p_ifT b7 h
    refine g_iconst (dk_Mo_goOverParcels 98 rfl) (by decide) ?_
    exact tB_Mo_goOverParcels_164 K l k9 hk9 v0 v1 v2 0 w2 w3 s2 _ h
  · have h := p_ifF b7 h
    refine g_iconst (dk_Mo_goOverParcels 96 rfl) (by decide) ?_
    refine g_goto 164 (dk_Mo_goOverParcels 97 rfl) (by decide) ?_
    exact tB_Mo_goOverParcels_164 K l k9 hk9 v0 v1 v2 1 w2 w3 s2 _ h
set_option maxRecDepth 100000 in
set_option maxHeartbeats 4000000 in
theorem tL_Mo_goOverParcels_9 (K : p_K) (l : Launch) (k9 : Nat → Int → p_Hp → Option p_Hp) (hk9 : ∀ (v0 : Nat) (v1 : Int)  (s0 : p_Hp) (r : p_Hp), k9 v0 v1 s0 = some r → p_Go K l m_Mo_goOverParcels 9 [(0, p_r v0), (1, p_i v1)] [] s0 (none, r)) (v0 : Nat) (v1 : Int) (s0 : p_Hp) (r : p_Hp) (h : L_Mo_goOverParcels_9 k9 v0 v1 s0 = some r) : p_Go K l m_Mo_goOverParcels 9 [(0, p_r v0), (1, p_i v1)] [] s0 (none, r) := by
  unfold L_Mo_goOverParcels_9 at h
  refine g_iload_n (i := 1) (j := 1) (dk_Mo_goOverParcels 5 rfl) rfl rfl ?_
  refine g_sipush (dk_Mo_goOverParcels 6 rfl) rfl (by decide) ?_
  refine g_aload_n (i := 0) (j := 0) (dk_Mo_goOverParcels 7 rfl) rfl rfl ?_
  obtain ⟨c1, h⟩ := p_gdE h
  refine g_getI fl_Mo_227 (Or.inl rfl) (dk_Mo_goOverParcels 8 rfl) c1 ?_
  refine g_imul (dk_Mo_goOverParcels 9 rfl) ?_
  refine g_bipush (dk_Mo_goOverParcels 10 rfl) rfl (by decide) ?_
  refine g_aload_n (i := 0) (j := 0) (dk_Mo_goOverParcels 11 rfl) rfl rfl ?_
  refine g_getR fl_Mo_7 (Or.inr ⟨_, rfl⟩) (dk_Mo_goOverParcels 12 rfl) c1 ?_
  refine g_aload_n (i := 0) (j := 0) (dk_Mo_goOverParcels 13 rfl) rfl rfl ?_
  refine g_getI fl_Mo_227 (Or.inl rfl) (dk_Mo_goOverParcels 14 rfl) c1 ?_
  obtain ⟨c2, h⟩ := p_gdE h
  obtain ⟨c3, h⟩ := p_gdE h
  refine g_iaload (dk_Mo_goOverParcels 15 rfl) c2 c3.1 c3.2 ?_
  refine g_imul (dk_Mo_goOverParcels 16 rfl) ?_
  refine g_iadd (dk_Mo_goOverParcels 17 rfl) ?_
  refine g_icmp_ge 247 (dk_Mo_goOverParcels 18 rfl) (by decide) (fun b4 => ?_) (fun b4 => ?_)
  · have h := p_ifT b4 h
    cases h
    exact g_ret rfl rfl (dk_Mo_goOverParcels 148 rfl) (fun _ => rfl)
  · have h := p_ifF b4 h
    refine g_aload_n (i := 0) (j := 0) (dk_Mo_goOverParcels 19 rfl) rfl rfl ?_
    refine g_getR fl_Mo_69 (Or.inr ⟨_, rfl⟩) (dk_Mo_goOverParcels 20 rfl) c1 ?_
    refine g_iload_n (i := 1) (j := 1) (dk_Mo_goOverParcels 21 rfl) rfl rfl ?_
    obtain ⟨c5, h⟩ := p_gdE h
    obtain ⟨c6, h⟩ := p_gdE h
    refine g_iaload (dk_Mo_goOverParcels 22 rfl) c5 c6.1 c6.2 ?_
    refine g_istore_n (i := 2) [(2, p_i (p_Z s0 (p_R s0 v0 22) (v1).toNat)), (0, p_r v0), (1, p_i v1)] (dk_Mo_goOverParcels 23 rfl) rfl (by decide) rfl ?_
    refine p_ltG (P := fun q => p_Go K l m_Mo_goOverParcels 41 [(2, p_i q), (0, p_r v0), (1, p_i v1)] [] s0 _) ?_ h
    intro x7 h
    refine g_iload_n (i := 2) (j := 0) (dk_Mo_goOverParcels 24 rfl) rfl rfl ?_
    refine g_if_le 241 (dk_Mo_goOverParcels 25 rfl) (by decide) (fun b8 => ?_) (fun b8 => ?_)
    · have h := p_ifT b8 h
      refine g_sub [(0, p_r v0), (1, p_i v1)] [1, 2] rfl ?_
      exact tB_Mo_goOverParcels_241 K l k9 hk9 v0 v1 s0 _ h
    · have h := p_ifF b8 h
      refine g_aload_n (i := 0) (j := 1) (dk_Mo_goOverParcels 26 rfl) rfl rfl ?_
      refine g_getR fl_Mo_75 (Or.inr ⟨_, rfl⟩) (dk_Mo_goOverParcels 27 rfl) c1 ?_
      refine g_iload_n (i := 2) (j := 0) (dk_Mo_goOverParcels 28 rfl) rfl rfl ?_
      refine g_iconst (dk_Mo_goOverParcels 29 rfl) (by decide) ?_
      obtain ⟨c9, h⟩ := p_gdE h
      obtain ⟨c10, h⟩ := p_gdE h
      refine g_iastore (dk_Mo_goOverParcels 30 rfl) c9 c10.1 c10.2 ?_
      refine p_ltS (P := fun q => p_Go K l m_Mo_goOverParcels 52 [(2, p_i x7), (0, p_r v0), (1, p_i v1)] [] q _) (p_xZ _ _ _ _) ?_ h
      intro s11 hs12 h
      refine g_aload_n (i := 0) (j := 1) (dk_Mo_goOverParcels 31 rfl) rfl rfl ?_
      refine g_getR fl_Mo_78 (Or.inr ⟨_, rfl⟩) (dk_Mo_goOverParcels 32 rfl) (c1.up hs12) ?_
      refine g_iload_n (i := 2) (j := 0) (dk_Mo_goOverParcels 33 rfl) rfl rfl ?_
      refine g_aload_n (i := 0) (j := 1) (dk_Mo_goOverParcels 34 rfl) rfl rfl ?_
      refine g_aload_n (i := 0) (j := 1) (dk_Mo_goOverParcels 35 rfl) rfl rfl ?_
      refine g_getR fl_Mo_78 (Or.inr ⟨_, rfl⟩) (dk_Mo_goOverParcels 36 rfl) (c1.up hs12) ?_
      refine g_iload_n (i := 2) (j := 0) (dk_Mo_goOverParcels 37 rfl) rfl rfl ?_
      obtain ⟨c13, h⟩ := p_gdE h
      obtain ⟨c14, h⟩ := p_gdE h
      refine g_iaload (dk_Mo_goOverParcels 38 rfl) c13 c14.1 c14.2 ?_
      obtain ⟨r19, s15, q16, h⟩ := p_bdE h
      have t17 := tF_Mo_both K l v0 (p_Z s11 (p_R s11 v0 26) (x7).toNat) s11 _ q16
      refine g_callV (a := v0) (ci := 11) (q0 := (RX11, TX11, 90)) (As := [p_i (p_Z s11 (p_R s11 v0 26) (x7).toNat)]) (rest := [p_i x7, p_r (p_R s11 v0 26)]) [p_i r19, p_i x7, p_r (p_R s11 v0 26)] mt_Mo_both rfl rfl tw_8_44 ts_71 tw_8_42 ⟨Nat.le_of_ble_eq_true rfl, Nat.le_of_ble_eq_true rfl⟩ rfl (Nat.le_of_ble_eq_true rfl) (dk_Mo_goOverParcels 39 rfl) rfl (c1.up hs12) rfl t17 ?_
      have hs18 : p_x s11 s15 := t17.1
      show p_Go K l m_Mo_goOverParcels 67 [(2, p_i x7), (0, p_r v0), (1, p_i v1)] [p_i r19, p_i x7, p_r (p_R s11 v0 26)] s15 _
      obtain ⟨c20, h⟩ := p_gdE h
      refine g_iastore (dk_Mo_goOverParcels 40 rfl) (c13.up hs18) c20.1 c20.2 ?_
      refine p_ltS (P := fun q => p_Go K l m_Mo_goOverParcels 68 [(2, p_i x7), (0, p_r v0), (1, p_i v1)] [] q _) (p_xZ _ _ _ _) ?_ h
      intro s21 hs22 h
      refine g_aload_n (i := 0) (j := 1) (dk_Mo_goOverParcels 41 rfl) rfl rfl ?_
      refine g_getR fl_Mo_81 (Or.inr ⟨_, rfl⟩) (dk_Mo_goOverParcels 42 rfl) (c1.up (hs12.trans (hs18.trans hs22))) ?_
      refine g_iload_n (i := 2) (j := 0) (dk_Mo_goOverParcels 43 rfl) rfl rfl ?_
      refine g_aload_n (i := 0) (j := 1) (dk_Mo_goOverParcels 44 rfl) rfl rfl ?_
      refine g_aload_n (i := 0) (j := 1) (dk_Mo_goOverParcels 45 rfl) rfl rfl ?_
      refine g_getR fl_Mo_81 (Or.inr ⟨_, rfl⟩) (dk_Mo_goOverParcels 46 rfl) (c1.up (hs12.trans (hs18.trans hs22))) ?_
      refine g_iload_n (i := 2) (j := 0) (dk_Mo_goOverParcels 47 rfl) rfl rfl ?_
      obtain ⟨c23, h⟩ := p_gdE h
      obtain ⟨c24, h⟩ := p_gdE h
      refine g_iaload (dk_Mo_goOverParcels 48 rfl) c23 c24.1 c24.2 ?_
      obtain ⟨r29, s25, q26, h⟩ := p_bdE h
      have t27 := tF_Mo_both K l v0 (p_Z s21 (p_R s21 v0 27) (x7).toNat) s21 _ q26
      refine g_callV (a := v0) (ci := 11) (q0 := (RX11, TX11, 90)) (As := [p_i (p_Z s21 (p_R s21 v0 27) (x7).toNat)]) (rest := [p_i x7, p_r (p_R s21 v0 27)]) [p_i r29, p_i x7, p_r (p_R s21 v0 27)] mt_Mo_both rfl rfl tw_8_44 ts_71 tw_8_42 ⟨Nat.le_of_ble_eq_true rfl, Nat.le_of_ble_eq_true rfl⟩ rfl (Nat.le_of_ble_eq_true rfl) (dk_Mo_goOverParcels 49 rfl) rfl (c1.up (hs12.trans (hs18.trans hs22))) rfl t27 ?_
      have hs28 : p_x s21 s25 := t27.1
      show p_Go K l m_Mo_goOverParcels 83 [(2, p_i x7), (0, p_r v0), (1, p_i v1)] [p_i r29, p_i x7, p_r (p_R s21 v0 27)] s25 _
      obtain ⟨c30, h⟩ := p_gdE h
      refine g_iastore (dk_Mo_goOverParcels 50 rfl) (c23.up hs28) c30.1 c30.2 ?_
      refine p_ltS (P := fun q => p_Go K l m_Mo_goOverParcels 84 [(2, p_i x7), (0, p_r v0), (1, p_i v1)] [] q _) (p_xZ _ _ _ _) ?_ h
      intro s31 hs32 h
      refine g_aload_n (i := 0) (j := 1) (dk_Mo_goOverParcels 51 rfl) rfl rfl ?_
      refine g_getR fl_Mo_90 (Or.inr ⟨_, rfl⟩) (dk_Mo_goOverParcels 52 rfl) (c1.up (hs12.trans (hs18.trans (hs22.trans (hs28.trans hs32))))) ?_
      refine g_iload_n (i := 2) (j := 0) (dk_Mo_goOverParcels 53 rfl) rfl rfl ?_
      refine g_aload_n (i := 0) (j := 1) (dk_Mo_goOverParcels 54 rfl) rfl rfl ?_
      refine g_aload_n (i := 0) (j := 1) (dk_Mo_goOverParcels 55 rfl) rfl rfl ?_
      refine g_getR fl_Mo_90 (Or.inr ⟨_, rfl⟩) (dk_Mo_goOverParcels 56 rfl) (c1.up (hs12.trans (hs18.trans (hs22.trans (hs28.trans hs32))))) ?_
      refine g_iload_n (i := 2) (j := 0) (dk_Mo_goOverParcels 57 rfl) rfl rfl ?_
      obtain ⟨c33, h⟩ := p_gdE h
      obtain ⟨c34, h⟩ := p_gdE h
      refine g_iaload (dk_Mo_goOverParcels 58 rfl) c33 c34.1 c34.2 ?_
      obtain ⟨r39, s35, q36, h⟩ := p_bdE h
      have t37 := tF_Mo_both K l v0 (p_Z s31 (p_R s31 v0 30) (x7).toNat) s31 _ q36
      refine g_callV (a := v0) (ci := 11) (q0 := (RX11, TX11, 90)) (As := [p_i (p_Z s31 (p_R s31 v0 30) (x7).toNat)]) (rest := [p_i x7, p_r (p_R s31 v0 30)]) [p_i r39, p_i x7, p_r (p_R s31 v0 30)] mt_Mo_both rfl rfl tw_8_44 ts_71 tw_8_42 ⟨Nat.le_of_ble_eq_true rfl, Nat.le_of_ble_eq_true rfl⟩ rfl (Nat.le_of_ble_eq_true rfl) (dk_Mo_goOverParcels 59 rfl) rfl (c1.up (hs12.trans (hs18.trans (hs22.trans (hs28.trans hs32))))) rfl t37 ?_
      have hs38 : p_x s31 s35 := t37.1
      show p_Go K l m_Mo_goOverParcels 99 [(2, p_i x7), (0, p_r v0), (1, p_i v1)] [p_i r39, p_i x7, p_r (p_R s31 v0 30)] s35 _
      obtain ⟨c40, h⟩ := p_gdE h
      refine g_iastore (dk_Mo_goOverParcels 60 rfl) (c33.up hs38) c40.1 c40.2 ?_
      refine p_ltS (P := fun q => p_Go K l m_Mo_goOverParcels 100 [(2, p_i x7), (0, p_r v0), (1, p_i v1)] [] q _) (p_xZ _ _ _ _) ?_ h
      intro s41 hs42 h
      refine g_aload_n (i := 0) (j := 1) (dk_Mo_goOverParcels 61 rfl) rfl rfl ?_
      refine g_getR fl_Mo_93 (Or.inr ⟨_, rfl⟩) (dk_Mo_goOverParcels 62 rfl) (c1.up (hs12.trans (hs18.trans (hs22.trans (hs28.trans (hs32.trans (hs38.trans hs42))))))) ?_
      refine g_iload_n (i := 2) (j := 0) (dk_Mo_goOverParcels 63 rfl) rfl rfl ?_
      refine g_aload_n (i := 0) (j := 1) (dk_Mo_goOverParcels 64 rfl) rfl rfl ?_
      refine g_aload_n (i := 0) (j := 1) (dk_Mo_goOverParcels 65 rfl) rfl rfl ?_
      refine g_getR fl_Mo_93 (Or.inr ⟨_, rfl⟩) (dk_Mo_goOverParcels 66 rfl) (c1.up (hs12.trans (hs18.trans (hs22.trans (hs28.trans (hs32.trans (hs38.trans hs42))))))) ?_
      refine g_iload_n (i := 2) (j := 0) (dk_Mo_goOverParcels 67 rfl) rfl rfl ?_
      obtain ⟨c43, h⟩ := p_gdE h
      obtain ⟨c44, h⟩ := p_gdE h
      refine g_iaload (dk_Mo_goOverParcels 68 rfl) c43 c44.1 c44.2 ?_
      obtain ⟨r49, s45, q46, h⟩ := p_bdE h
      have t47 := tF_Mo_both K l v0 (p_Z s41 (p_R s41 v0 31) (x7).toNat) s41 _ q46
      refine g_callV (a := v0) (ci := 11) (q0 := (RX11, TX11, 90)) (As := [p_i (p_Z s41 (p_R s41 v0 31) (x7).toNat)]) (rest := [p_i x7, p_r (p_R s41 v0 31)]) [p_i r49, p_i x7, p_r (p_R s41 v0 31)] mt_Mo_both rfl rfl tw_8_44 ts_71 tw_8_42 ⟨Nat.le_of_ble_eq_true rfl, Nat.le_of_ble_eq_true rfl⟩ rfl (Nat.le_of_ble_eq_true rfl) (dk_Mo_goOverParcels 69 rfl) rfl (c1.up (hs12.trans (hs18.trans (hs22.trans (hs28.trans (hs32.trans (hs38.trans hs42))))))) rfl t47 ?_
      have hs48 : p_x s41 s45 := t47.1
      show p_Go K l m_Mo_goOverParcels 115 [(2, p_i x7), (0, p_r v0), (1, p_i v1)] [p_i r49, p_i x7, p_r (p_R s41 v0 31)] s45 _
      obtain ⟨c50, h⟩ := p_gdE h
      refine g_iastore (dk_Mo_goOverParcels 70 rfl) (c43.up hs48) c50.1 c50.2 ?_
      refine p_ltS (P := fun q => p_Go K l m_Mo_goOverParcels 116 [(2, p_i x7), (0, p_r v0), (1, p_i v1)] [] q _) (p_xZ _ _ _ _) ?_ h
      intro s51 hs52 h
      refine g_aload_n (i := 0) (j := 1) (dk_Mo_goOverParcels 71 rfl) rfl rfl ?_
      refine g_getR fl_Mo_99 (Or.inr ⟨_, rfl⟩) (dk_Mo_goOverParcels 72 rfl) (c1.up (hs12.trans (hs18.trans (hs22.trans (hs28.trans (hs32.trans (hs38.trans (hs42.trans (hs48.trans hs52))))))))) ?_
      refine g_iload_n (i := 2) (j := 0) (dk_Mo_goOverParcels 73 rfl) rfl rfl ?_
      refine g_aload_n (i := 0) (j := 1) (dk_Mo_goOverParcels 74 rfl) rfl rfl ?_
      refine g_aload_n (i := 0) (j := 1) (dk_Mo_goOverParcels 75 rfl) rfl rfl ?_
      refine g_getR fl_Mo_99 (Or.inr ⟨_, rfl⟩) (dk_Mo_goOverParcels 76 rfl) (c1.up (hs12.trans (hs18.trans (hs22.trans (hs28.trans (hs32.trans (hs38.trans (hs42.trans (hs48.trans hs52))))))))) ?_
      refine g_iload_n (i := 2) (j := 0) (dk_Mo_goOverParcels 77 rfl) rfl rfl ?_
      obtain ⟨c53, h⟩ := p_gdE h
      obtain ⟨c54, h⟩ := p_gdE h
      refine g_iaload (dk_Mo_goOverParcels 78 rfl) c53 c54.1 c54.2 ?_
      obtain ⟨r59, s55, q56, h⟩ := p_bdE h
      have t57 := tF_Mo_both K l v0 (p_Z s51 (p_R s51 v0 33) (x7).toNat) s51 _ q56
      refine g_callV (a := v0) (ci := 11) (q0 := (RX11, TX11, 90)) (As := [p_i (p_Z s51 (p_R s51 v0 33) (x7).toNat)]) (rest := [p_i x7, p_r (p_R s51 v0 33)]) [p_i r59, p_i x7, p_r (p_R s51 v0 33)] mt_Mo_both rfl rfl tw_8_44 ts_71 tw_8_42 ⟨Nat.le_of_ble_eq_true rfl, Nat.le_of_ble_eq_true rfl⟩ rfl (Nat.le_of_ble_eq_true rfl) (dk_Mo_goOverParcels 79 rfl) rfl (c1.up (hs12.trans (hs18.trans (hs22.trans (hs28.trans (hs32.trans (hs38.trans (hs42.trans (hs48.trans hs52))))))))) rfl t57 ?_
      have hs58 : p_x s51 s55 := t57.1
      show p_Go K l m_Mo_goOverParcels 131 [(2, p_i x7), (0, p_r v0), (1, p_i v1)] [p_i r59, p_i x7, p_r (p_R s51 v0 33)] s55 _
      obtain ⟨c60, h⟩ := p_gdE h
      refine g_iastore (dk_Mo_goOverParcels 80 rfl) (c53.up hs58) c60.1 c60.2 ?_
      refine p_ltS (P := fun q => p_Go K l m_Mo_goOverParcels 132 [(2, p_i x7), (0, p_r v0), (1, p_i v1)] [] q _) (p_xZ _ _ _ _) ?_ h
      intro s61 hs62 h
      refine g_aload_n (i := 0) (j := 1) (dk_Mo_goOverParcels 81 rfl) rfl rfl ?_
      refine g_getR fl_Mo_105 (Or.inr ⟨_, rfl⟩) (dk_Mo_goOverParcels 82 rfl) (c1.up (hs12.trans (hs18.trans (hs22.trans (hs28.trans (hs32.trans (hs38.trans (hs42.trans (hs48.trans (hs52.trans (hs58.trans hs62))))))))))) ?_
      refine g_iload_n (i := 2) (j := 0) (dk_Mo_goOverParcels 83 rfl) rfl rfl ?_
      refine g_aload_n (i := 0) (j := 1) (dk_Mo_goOverParcels 84 rfl) rfl rfl ?_
      refine g_aload_n (i := 0) (j := 1) (dk_Mo_goOverParcels 85 rfl) rfl rfl ?_
      refine g_getR fl_Mo_105 (Or.inr ⟨_, rfl⟩) (dk_Mo_goOverParcels 86 rfl) (c1.up (hs12.trans (hs18.trans (hs22.trans (hs28.trans (hs32.trans (hs38.trans (hs42.trans (hs48.trans (hs52.trans (hs58.trans hs62))))))))))) ?_
      refine g_iload_n (i := 2) (j := 0) (dk_Mo_goOverParcels 87 rfl) rfl rfl ?_
      obtain ⟨c63, h⟩ := p_gdE h
      obtain ⟨c64, h⟩ := p_gdE h
      refine g_baload (dk_Mo_goOverParcels 88 rfl) c63 c64.1 c64.2 ?_
      refine g_if_eq 151 (dk_Mo_goOverParcels 89 rfl) (by decide) (fun b65 => ?_) (fun b65 => ?_)
      · have h := p_ifT b65 h
        refine g_iconst (dk_Mo_goOverParcels 92 rfl) (by decide) ?_
        refine g_sub [(0, p_r v0), (1, p_i v1), (2, p_i x7)] [1, 2, 0] rfl ?_
        exact tB_Mo_goOverParcels_152 K l k9 hk9 v0 v1 x7 0 v0 x7 (p_R s61 v0 35) s61 _ h
      · have h := p_ifF b65 h
        refine g_iconst (dk_Mo_goOverParcels 90 rfl) (by decide) ?_
        refine g_goto 152 (dk_Mo_goOverParcels 91 rfl) (by decide) ?_
        refine g_sub [(0, p_r v0), (1, p_i v1), (2, p_i x7)] [1, 2, 0] rfl ?_
        exact tB_Mo_goOverParcels_152 K l k9 hk9 v0 v1 x7 1 v0 x7 (p_R s61 v0 35) s61 _ h
set_option maxRecDepth 100000 in
set_option maxHeartbeats 4000000 in
theorem tO_Mo_goOverParcels_9 (K : p_K) (l : Launch)  : ∀ (n : Nat) (v0 : Nat) (v1 : Int) (s0 : p_Hp) (r : p_Hp), O_Mo_goOverParcels_9 n v0 v1 s0 = some r → p_Go K l m_Mo_goOverParcels 9 [(0, p_r v0), (1, p_i v1)] [] s0 (none, r) := by
  intro n
  induction n with
  | zero => intro v0 v1 s0 r h; cases (show (none : Option p_Hp) = some r from h)
  | succ n ih => intro v0 v1 s0 r h; exact tL_Mo_goOverParcels_9 K l _ ih v0 v1 s0 r h
set_option maxRecDepth 100000 in
set_option maxHeartbeats 4000000 in
theorem tF_Mo_goOverParcels (K : p_K) (l : Launch) (v0 : Nat) (s0 : p_Hp) (r : p_Hp) (h : F_Mo_goOverParcels v0 s0 = some r) : p_Ct K l m_Mo_goOverParcels [p_r v0] s0 (none, r) := by
  refine p_Ct.of (by decide) (Nat.le_of_ble_eq_true rfl) ?_
  unfold F_Mo_goOverParcels at h
  show p_Go K l m_Mo_goOverParcels 0 [(0, p_r v0)] [] s0 _
  refine g_sipush (dk_Mo_goOverParcels 0 rfl) rfl (by decide) ?_
  refine g_aload_n (i := 0) (j := 0) (dk_Mo_goOverParcels 1 rfl) rfl rfl ?_
  obtain ⟨c1, h⟩ := p_gdE h
  refine g_getI fl_Mo_227 (Or.inl rfl) (dk_Mo_goOverParcels 2 rfl) c1 ?_
  refine g_imul (dk_Mo_goOverParcels 3 rfl) ?_
  refine g_istore_n (i := 1) [(1, p_i (p_w (320 * (p_Z s0 v0 0)))), (0, p_r v0)] (dk_Mo_goOverParcels 4 rfl) rfl (by decide) rfl ?_
  refine p_ltG (P := fun q => p_Go K l m_Mo_goOverParcels 9 [(1, p_i q), (0, p_r v0)] [] s0 _) ?_ h
  intro x2 h
  refine g_sub [(0, p_r v0), (1, p_i x2)] [1, 0] rfl ?_
  exact tO_Mo_goOverParcels_9 K l 3000 v0 x2 s0 _ h
def m_Mo_goOver : p_Me := (⟨"SortWorksModel", "goOver", "(I)V"⟩, prog_13_method_90_code, 4, none, 2, 45)
theorem mt_Mo_goOver : p_Mt m_Mo_goOver 1 := ⟨p_mem (p_tb8 (List.mem_of_getElem? (i := 41) rfl)) rfl, tw_1_12, by decide +kernel, by decide +kernel, by decide +kernel⟩
def dt_Mo_goOver : List (Nat × Instr × Nat) := [(0, .aload_n 0, 1), (1, .sipush 2600, 3), (4, .bipush 30, 2), (6, .aload_n 0, 1), (7, .getfield 227, 3), (10, .imul, 1), (11, .iload_n 1, 1), (12, .iadd, 1), (13, .imul, 1), (14, .putfield 500, 3), (17, .aload_n 0, 1), (18, .getfield 13, 3), (21, .aload_n 0, 1), (22, .getfield 227, 3), (25, .aload_n 0, 1), (26, .aload_n 0, 1), (27, .getfield 13, 3), (30, .aload_n 0, 1), (31, .getfield 227, 3), (34, .iaload, 1), (35, .invokevirtual 506, 3), (38, .iastore, 1), (39, .aload_n 0, 1), (40, .getfield 114, 3), (43, .aload_n 0, 1), (44, .getfield 227, 3), (47, .aload_n 0, 1), (48, .aload_n 0, 1), (49, .getfield 114, 3), (52, .aload_n 0, 1), (53, .getfield 227, 3), (56, .iaload, 1), (57, .invokevirtual 506, 3), (60, .iastore, 1), (61, .aload_n 0, 1), (62, .getfield 117, 3), (65, .aload_n 0, 1), (66, .getfield 227, 3), (69, .aload_n 0, 1), (70, .aload_n 0, 1), (71, .getfield 117, 3), (74, .aload_n 0, 1), (75, .getfield 227, 3), (78, .iaload, 1), (79, .invokevirtual 506, 3), (82, .iastore, 1), (83, .aload_n 0, 1), (84, .getfield 120, 3), (87, .aload_n 0, 1), (88, .getfield 227, 3), (91, .aload_n 0, 1), (92, .aload_n 0, 1), (93, .getfield 120, 3), (96, .aload_n 0, 1), (97, .getfield 227, 3), (100, .iaload, 1), (101, .invokevirtual 506, 3), (104, .iastore, 1), (105, .aload_n 0, 1), (106, .getfield 126, 3), (109, .aload_n 0, 1), (110, .getfield 227, 3), (113, .aload_n 0, 1), (114, .aload_n 0, 1), (115, .getfield 126, 3), (118, .aload_n 0, 1), (119, .getfield 227, 3), (122, .iaload, 1), (123, .invokevirtual 506, 3), (126, .iastore, 1), (127, .aload_n 0, 1), (128, .aload_n 0, 1), (129, .getfield 334, 3), (132, .invokevirtual 506, 3), (135, .istore_n 2, 1), (136, .bipush 40, 2), (138, .aload_n 0, 1), (139, .getfield 227, 3), (142, .imul, 1), (143, .istore_n 3, 1), (144, .iload_n 3, 1), (145, .bipush 40, 2), (147, .aload_n 0, 1), (148, .getfield 227, 3), (151, .imul, 1), (152, .aload_n 0, 1), (153, .getfield 7, 3), (156, .aload_n 0, 1), (157, .getfield 227, 3), (160, .iaload, 1), (161, .iadd, 1), (162, .if_icmp .ge 14, 3), (165, .aload_n 0, 1), (166, .iload_n 3, 1), (167, .invokevirtual 509, 3), (170, .iinc 3 1, 3), (173, .goto (-29), 3), (176, .bipush 120, 2), (178, .aload_n 0, 1), (179, .getfield 227, 3), (182, .imul, 1), (183, .istore_n 3, 1), (184, .iload_n 3, 1), (185, .bipush 120, 2), (187, .aload_n 0, 1), (188, .getfield 227, 3), (191, .imul, 1), (192, .bipush 120, 2), (194, .iadd, 1), (195, .if_icmp .ge 25, 3), (198, .aload_n 0, 1), (199, .getfield 123, 3), (202, .iload_n 3, 1), (203, .aload_n 0, 1), (204, .aload_n 0, 1), (205, .getfield 123, 3), (208, .iload_n 3, 1), (209, .iaload, 1), (210, .invokevirtual 506, 3), (213, .iastore, 1), (214, .iinc 3 1, 3), (217, .goto (-33), 3), (220, .sipush 200, 3), (223, .aload_n 0, 1), (224, .getfield 227, 3), (227, .imul, 1), (228, .istore_n 3, 1), (229, .iload_n 3, 1), (230, .sipush 200, 3), (233, .aload_n 0, 1), (234, .getfield 227, 3), (237, .imul, 1), (238, .sipush 200, 3), (241, .iadd, 1), (242, .if_icmp .ge 25, 3), (245, .aload_n 0, 1), (246, .getfield 129, 3), (249, .iload_n 3, 1), (250, .aload_n 0, 1), (251, .aload_n 0, 1), (252, .getfield 129, 3), (255, .iload_n 3, 1), (256, .iaload, 1), (257, .invokevirtual 506, 3), (260, .iastore, 1), (261, .iinc 3 1, 3), (264, .goto (-35), 3), (267, .bipush 12, 2), (269, .aload_n 0, 1), (270, .getfield 227, 3), (273, .imul, 1), (274, .istore_n 3, 1), (275, .iload_n 3, 1), (276, .bipush 12, 2), (278, .aload_n 0, 1), (279, .getfield 227, 3), (282, .imul, 1), (283, .bipush 12, 2), (285, .iadd, 1), (286, .if_icmp .ge 25, 3), (289, .aload_n 0, 1), (290, .getfield 150, 3), (293, .iload_n 3, 1), (294, .aload_n 0, 1), (295, .aload_n 0, 1), (296, .getfield 150, 3), (299, .iload_n 3, 1), (300, .iaload, 1), (301, .invokevirtual 506, 3), (304, .iastore, 1), (305, .iinc 3 1, 3), (308, .goto (-33), 3), (311, .aload_n 0, 1), (312, .getfield 496, 3), (315, .ifCond .ne 54, 3), (318, .iconst 1, 1), (319, .istore_n 3, 1), (320, .iload_n 3, 1), (321, .aload_n 0, 1), (322, .getfield 334, 3), (325, .if_icmp .gt 44, 3), (328, .aload_n 0, 1), (329, .getfield 72, 3), (332, .iload_n 3, 1), (333, .iaload, 1), (334, .aload_n 0, 1), (335, .getfield 227, 3), (338, .if_icmp .ne 25, 3), (341, .iload_n 3, 1), (342, .iload_n 2, 1), (343, .if_icmp .gt 13, 3), (346, .aload_n 0, 1), (347, .getfield 75, 3), (350, .iload_n 3, 1), (351, .iaload, 1), (352, .iconst 1, 1), (353, .if_icmp .ne 10, 3), (356, .aload_n 0, 1), (357, .getfield 75, 3), (360, .iload_n 3, 1), (361, .iconst 0, 1), (362, .iastore, 1), (363, .iinc 3 1, 3), (366, .goto (-46), 3), (369, .aload_n 0, 1), (370, .invokevirtual 512, 3), (373, .return_, 1)]
theorem dk_Mo_goOver (i : Nat) {pc : Nat} {ins : Instr} {len : Nat} (h : dt_Mo_goOver[i]? = some (pc, ins, len)) : decode m_Mo_goOver.2.1 pc = .ok (ins, len) := p_dk (b := m_Mo_goOver.2.1) (t := dt_Mo_goOver) (by decide +kernel) i h
def B_Mo_goOver_363 (k320 : Nat → Int → Int → p_Hp → Option p_Hp) (v0 : Nat) (v2 : Int) (v3 : Int) (s0 : p_Hp) : Option p_Hp :=
  p_bi (p_w (v3 + 1)) fun x1 =>
  k320 v0 v2 x1 s0
def B_Mo_goOver_356 (k320 : Nat → Int → Int → p_Hp → Option p_Hp) (v0 : Nat) (v2 : Int) (v3 : Int) (s0 : p_Hp) : Option p_Hp :=
  p_gd (p_is s0 v0 11) <|
  p_gd (p_is s0 (p_R s0 v0 25) 100) <|
  p_gd (0 ≤ v3 ∧ v3 < (p_L s0 (p_R s0 v0 25) : Int)) <|
  p_bi (p_wZ s0 (p_R s0 v0 25) (v3).toNat 0) fun s4 =>
  B_Mo_goOver_363 k320 v0 v2 v3 s4
def B_Mo_goOver_369  (v0 : Nat) (s0 : p_Hp) : Option p_Hp :=
  p_gd (p_is s0 v0 11) <|
  p_bv (F_Mo_goOverParcels v0 s0) fun s2 =>
  some s2
def L_Mo_goOver_320 (k320 : Nat → Int → Int → p_Hp → Option p_Hp) (v0 : Nat) (v2 : Int) (v3 : Int) (s0 : p_Hp) : Option p_Hp :=
  p_gd (p_is s0 v0 11) <|
  if (p_Z s0 v0 23) < v3 then
    B_Mo_goOver_369 v0 s0
  else
    p_gd (p_is s0 (p_R s0 v0 24) 100) <|
    p_gd (0 ≤ v3 ∧ v3 < (p_L s0 (p_R s0 v0 24) : Int)) <|
    if (p_Z s0 (p_R s0 v0 24) (v3).toNat) ≠ (p_Z s0 v0 0) then
      B_Mo_goOver_363 k320 v0 v2 v3 s0
    else
      if v2 < v3 then
        B_Mo_goOver_356 k320 v0 v2 v3 s0
      else
        p_gd (p_is s0 (p_R s0 v0 25) 100) <|
        p_gd (0 ≤ v3 ∧ v3 < (p_L s0 (p_R s0 v0 25) : Int)) <|
        if (p_Z s0 (p_R s0 v0 25) (v3).toNat) ≠ 1 then
          B_Mo_goOver_363 k320 v0 v2 v3 s0
        else
          B_Mo_goOver_356 k320 v0 v2 v3 s0
def O_Mo_goOver_320  : Nat → Nat → Int → Int → p_Hp → Option p_Hp
  | 0 => fun _ _ _ _ => none
  | n + 1 => L_Mo_goOver_320 (O_Mo_goOver_320 n)
def L_Mo_goOver_275 (k275 : Nat → Int → Int → p_Hp → Option p_Hp) (v0 : Nat) (v2 : Int) (v3 : Int) (s0 : p_Hp) : Option p_Hp :=
  p_gd (p_is s0 v0 11) <|
  if (p_w ((p_w (12 * (p_Z s0 v0 0))) + 12)) ≤ v3 then
    if (p_Z s0 v0 85) ≠ 0 then
      B_Mo_goOver_369 v0 s0
    else
      O_Mo_goOver_320 3000 v0 v2 1 s0
  else
    p_gd (p_is s0 (p_R s0 v0 51) 100) <|
    p_gd (0 ≤ v3 ∧ v3 < (p_L s0 (p_R s0 v0 51) : Int)) <|
    p_bd (F_Mo_both v0 (p_Z s0 (p_R s0 v0 51) (v3).toNat) s0) fun r10 s6 =>
    p_gd (0 ≤ v3 ∧ v3 < (p_L s6 (p_R s0 v0 51) : Int)) <|
    p_bi (p_wZ s6 (p_R s0 v0 51) (v3).toNat r10) fun s12 =>
    p_bi (p_w (v3 + 1)) fun x14 =>
    k275 v0 v2 x14 s12
def O_Mo_goOver_275  : Nat → Nat → Int → Int → p_Hp → Option p_Hp
  | 0 => fun _ _ _ _ => none
  | n + 1 => L_Mo_goOver_275 (O_Mo_goOver_275 n)
def L_Mo_goOver_229 (k229 : Nat → Int → Int → p_Hp → Option p_Hp) (v0 : Nat) (v2 : Int) (v3 : Int) (s0 : p_Hp) : Option p_Hp :=
  p_gd (p_is s0 v0 11) <|
  if (p_w ((p_w (200 * (p_Z s0 v0 0))) + 200)) ≤ v3 then
    p_bi ((p_w (12 * (p_Z s0 v0 0)))) fun x3 =>
    O_Mo_goOver_275 3000 v0 v2 x3 s0
  else
    p_gd (p_is s0 (p_R s0 v0 43) 100) <|
    p_gd (0 ≤ v3 ∧ v3 < (p_L s0 (p_R s0 v0 43) : Int)) <|
    p_bd (F_Mo_both v0 (p_Z s0 (p_R s0 v0 43) (v3).toNat) s0) fun r10 s6 =>
    p_gd (0 ≤ v3 ∧ v3 < (p_L s6 (p_R s0 v0 43) : Int)) <|
    p_bi (p_wZ s6 (p_R s0 v0 43) (v3).toNat r10) fun s12 =>
    p_bi (p_w (v3 + 1)) fun x14 =>
    k229 v0 v2 x14 s12
def O_Mo_goOver_229  : Nat → Nat → Int → Int → p_Hp → Option p_Hp
  | 0 => fun _ _ _ _ => none
  | n + 1 => L_Mo_goOver_229 (O_Mo_goOver_229 n)
def L_Mo_goOver_184 (k184 : Nat → Int → Int → p_Hp → Option p_Hp) (v0 : Nat) (v2 : Int) (v3 : Int) (s0 : p_Hp) : Option p_Hp :=
  p_gd (p_is s0 v0 11) <|
  if (p_w ((p_w (120 * (p_Z s0 v0 0))) + 120)) ≤ v3 then
    p_bi ((p_w (200 * (p_Z s0 v0 0)))) fun x3 =>
    O_Mo_goOver_229 3000 v0 v2 x3 s0
  else
    p_gd (p_is s0 (p_R s0 v0 41) 100) <|
    p_gd (0 ≤ v3 ∧ v3 < (p_L s0 (p_R s0 v0 41) : Int)) <|
    p_bd (F_Mo_both v0 (p_Z s0 (p_R s0 v0 41) (v3).toNat) s0) fun r10 s6 =>
    p_gd (0 ≤ v3 ∧ v3 < (p_L s6 (p_R s0 v0 41) : Int)) <|
    p_bi (p_wZ s6 (p_R s0 v0 41) (v3).toNat r10) fun s12 =>
    p_bi (p_w (v3 + 1)) fun x14 =>
    k184 v0 v2 x14 s12
def O_Mo_goOver_184  : Nat → Nat → Int → Int → p_Hp → Option p_Hp
  | 0 => fun _ _ _ _ => none
  | n + 1 => L_Mo_goOver_184 (O_Mo_goOver_184 n)
def L_Mo_goOver_144 (k144 : Nat → Int → Int → p_Hp → Option p_Hp) (v0 : Nat) (v2 : Int) (v3 : Int) (s0 : p_Hp) : Option p_Hp :=
  p_gd (p_is s0 v0 11) <|
  p_gd (p_is s0 (p_R s0 v0 3) 100) <|
  p_gd (0 ≤ (p_Z s0 v0 0) ∧ (p_Z s0 v0 0) < (p_L s0 (p_R s0 v0 3) : Int)) <|
  if (p_w ((p_w (40 * (p_Z s0 v0 0))) + (p_Z s0 (p_R s0 v0 3) ((p_Z s0 v0 0)).toNat))) ≤ v3 then
    p_bi ((p_w (120 * (p_Z s0 v0 0)))) fun x5 =>
    O_Mo_goOver_184 3000 v0 v2 x5 s0
  else
    p_bv (F_Mo_goOverGear v0 v3 s0) fun s6 =>
    p_bi (p_w (v3 + 1)) fun x10 =>
    k144 v0 v2 x10 s6
def O_Mo_goOver_144  : Nat → Nat → Int → Int → p_Hp → Option p_Hp
  | 0 => fun _ _ _ _ => none
  | n + 1 => L_Mo_goOver_144 (O_Mo_goOver_144 n)
def F_Mo_goOver (v0 : Nat) (v1 : Int) (s0 : p_Hp) : Option p_Hp :=
  p_gd (p_is s0 v0 11) <|
  p_bi (p_wZ s0 v0 84 (p_w (2600 * (p_w ((p_w (30 * (p_Z s0 v0 0))) + v1))))) fun s2 =>
  p_gd (p_is s2 (p_R s2 v0 4) 100) <|
  p_gd (0 ≤ (p_Z s2 v0 0) ∧ (p_Z s2 v0 0) < (p_L s2 (p_R s2 v0 4) : Int)) <|
  p_bd (F_Mo_both v0 (p_Z s2 (p_R s2 v0 4) ((p_Z s2 v0 0)).toNat) s2) fun r10 s6 =>
  p_gd (0 ≤ (p_Z s2 v0 0) ∧ (p_Z s2 v0 0) < (p_L s6 (p_R s2 v0 4) : Int)) <|
  p_bi (p_wZ s6 (p_R s2 v0 4) ((p_Z s2 v0 0)).toNat r10) fun s12 =>
  p_gd (p_is s12 (p_R s12 v0 38) 100) <|
  p_gd (0 ≤ (p_Z s12 v0 0) ∧ (p_Z s12 v0 0) < (p_L s12 (p_R s12 v0 38) : Int)) <|
  p_bd (F_Mo_both v0 (p_Z s12 (p_R s12 v0 38) ((p_Z s12 v0 0)).toNat) s12) fun r20 s16 =>
  p_gd (0 ≤ (p_Z s12 v0 0) ∧ (p_Z s12 v0 0) < (p_L s16 (p_R s12 v0 38) : Int)) <|
  p_bi (p_wZ s16 (p_R s12 v0 38) ((p_Z s12 v0 0)).toNat r20) fun s22 =>
  p_gd (p_is s22 (p_R s22 v0 39) 100) <|
  p_gd (0 ≤ (p_Z s22 v0 0) ∧ (p_Z s22 v0 0) < (p_L s22 (p_R s22 v0 39) : Int)) <|
  p_bd (F_Mo_both v0 (p_Z s22 (p_R s22 v0 39) ((p_Z s22 v0 0)).toNat) s22) fun r30 s26 =>
  p_gd (0 ≤ (p_Z s22 v0 0) ∧ (p_Z s22 v0 0) < (p_L s26 (p_R s22 v0 39) : Int)) <|
  p_bi (p_wZ s26 (p_R s22 v0 39) ((p_Z s22 v0 0)).toNat r30) fun s32 =>
  p_gd (p_is s32 (p_R s32 v0 40) 100) <|
  p_gd (0 ≤ (p_Z s32 v0 0) ∧ (p_Z s32 v0 0) < (p_L s32 (p_R s32 v0 40) : Int)) <|
  p_bd (F_Mo_both v0 (p_Z s32 (p_R s32 v0 40) ((p_Z s32 v0 0)).toNat) s32) fun r40 s36 =>
  p_gd (0 ≤ (p_Z s32 v0 0) ∧ (p_Z s32 v0 0) < (p_L s36 (p_R s32 v0 40) : Int)) <|
  p_bi (p_wZ s36 (p_R s32 v0 40) ((p_Z s32 v0 0)).toNat r40) fun s42 =>
  p_gd (p_is s42 (p_R s42 v0 42) 100) <|
  p_gd (0 ≤ (p_Z s42 v0 0) ∧ (p_Z s42 v0 0) < (p_L s42 (p_R s42 v0 42) : Int)) <|
  p_bd (F_Mo_both v0 (p_Z s42 (p_R s42 v0 42) ((p_Z s42 v0 0)).toNat) s42) fun r50 s46 =>
  p_gd (0 ≤ (p_Z s42 v0 0) ∧ (p_Z s42 v0 0) < (p_L s46 (p_R s42 v0 42) : Int)) <|
  p_bi (p_wZ s46 (p_R s42 v0 42) ((p_Z s42 v0 0)).toNat r50) fun s52 =>
  p_bd (F_Mo_both v0 (p_Z s52 v0 23) s52) fun r58 s54 =>
  p_bi ((p_w (40 * (p_Z s54 v0 0)))) fun x59 =>
  O_Mo_goOver_144 3000 v0 r58 x59 s54
set_option maxRecDepth 100000 in
set_option maxHeartbeats 4000000 in
theorem tB_Mo_goOver_363 (K : p_K) (l : Launch) (k320 : Nat → Int → Int → p_Hp → Option p_Hp) (hk320 : ∀ (v0 : Nat) (v2 : Int) (v3 : Int)  (s0 : p_Hp) (r : p_Hp), k320 v0 v2 v3 s0 = some r → p_Go K l m_Mo_goOver 320 [(0, p_r v0), (2, p_i v2), (3, p_i v3)] [] s0 (none, r)) (v0 : Nat) (v2 : Int) (v3 : Int) (s0 : p_Hp) (r : p_Hp) (h : B_Mo_goOver_363 k320 v0 v2 v3 s0 = some r) : p_Go K l m_Mo_goOver 363 [(0, p_r v0), (2, p_i v2), (3, p_i v3)] [] s0 (none, r) := by
  unfold B_Mo_goOver_363 at h
  refine g_iinc (j := 2) [(3, p_i (p_w (v3 + 1))), (0, p_r v0), (2, p_i v2)] (dk_Mo_goOver 202 rfl) rfl (by decide) rfl ?_
  refine p_ltG (P := fun q => p_Go K l m_Mo_goOver 366 [(3, p_i q), (0, p_r v0), (2, p_i v2)] [] s0 _) ?_ h
  intro x1 h
  refine g_goto 320 (dk_Mo_goOver 203 rfl) (by decide) ?_
  refine g_sub [(0, p_r v0), (2, p_i v2), (3, p_i x1)] [1, 2, 0] rfl ?_
  exact hk320 v0 v2 x1 s0 _ h
set_option maxRecDepth 100000 in
set_option maxHeartbeats 4000000 in
theorem tB_Mo_goOver_356 (K : p_K) (l : Launch) (k320 : Nat → Int → Int → p_Hp → Option p_Hp) (hk320 : ∀ (v0 : Nat) (v2 : Int) (v3 : Int)  (s0 : p_Hp) (r : p_Hp), k320 v0 v2 v3 s0 = some r → p_Go K l m_Mo_goOver 320 [(0, p_r v0), (2, p_i v2), (3, p_i v3)] [] s0 (none, r)) (v0 : Nat) (v2 : Int) (v3 : Int) (s0 : p_Hp) (r : p_Hp) (h : B_Mo_goOver_356 k320 v0 v2 v3 s0 = some r) : p_Go K l m_Mo_goOver 356 [(0, p_r v0), (2, p_i v2), (3, p_i v3)] [] s0 (none, r) := by
  unfold B_Mo_goOver_356 at h
  refine g_aload_n (i := 0) (j := 0) (dk_Mo_goOver 197 rfl) rfl rfl ?_
  obtain ⟨c1, h⟩ := p_gdE h
  refine g_getR fl_Mo_75 (Or.inr ⟨_, rfl⟩) (dk_Mo_goOver 198 rfl) c1 ?_
  refine g_iload_n (i := 3) (j := 2) (dk_Mo_goOver 199 rfl) rfl rfl ?_
  refine g_iconst (dk_Mo_goOver 200 rfl) (by decide) ?_
  obtain ⟨c2, h⟩ := p_gdE h
  obtain ⟨c3, h⟩ := p_gdE h
  refine g_iastore (dk_Mo_goOver 201 rfl) c2 c3.1 c3.2 ?_
  refine p_ltS (P := fun q => p_Go K l m_Mo_goOver 363 [(0, p_r v0), (2, p_i v2), (3, p_i v3)] [] q _) (p_xZ _ _ _ _) ?_ h
  intro s4 hs5 h
  exact tB_Mo_goOver_363 K l k320 hk320 v0 v2 v3 s4 _ h
set_option maxRecDepth 100000 in
set_option maxHeartbeats 4000000 in
theorem tB_Mo_goOver_369 (K : p_K) (l : Launch)  (v0 : Nat) (s0 : p_Hp) (r : p_Hp) (h : B_Mo_goOver_369 v0 s0 = some r) : p_Go K l m_Mo_goOver 369 [(0, p_r v0)] [] s0 (none, r) := by
  unfold B_Mo_goOver_369 at h
  refine g_aload_n (i := 0) (j := 0) (dk_Mo_goOver 204 rfl) rfl rfl ?_
  obtain ⟨c1, h⟩ := p_gdE h
  obtain ⟨s2, q3, h⟩ := p_bvE h
  have t4 := tF_Mo_goOverParcels K l v0 s0 _ q3
  refine g_callV (a := v0) (ci := 11) (q0 := (RX11, TX11, 90)) (As := []) (rest := []) [] mt_Mo_goOverParcels rfl rfl tw_8_52 ts_73 tw_8_50 ⟨Nat.le_of_ble_eq_true rfl, Nat.le_of_ble_eq_true rfl⟩ rfl (Nat.le_of_ble_eq_true rfl) (dk_Mo_goOver 205 rfl) rfl c1 rfl t4 ?_
  have hs5 : p_x s0 s2 := t4.1
  show p_Go K l m_Mo_goOver 373 [(0, p_r v0)] [] s2 _
  cases h
  exact g_ret rfl rfl (dk_Mo_goOver 206 rfl) (fun _ => rfl)
set_option maxRecDepth 100000 in
set_option maxHeartbeats 4000000 in
theorem tL_Mo_goOver_320 (K : p_K) (l : Launch) (k320 : Nat → Int → Int → p_Hp → Option p_Hp) (hk320 : ∀ (v0 : Nat) (v2 : Int) (v3 : Int)  (s0 : p_Hp) (r : p_Hp), k320 v0 v2 v3 s0 = some r → p_Go K l m_Mo_goOver 320 [(0, p_r v0), (2, p_i v2), (3, p_i v3)] [] s0 (none, r)) (v0 : Nat) (v2 : Int) (v3 : Int) (s0 : p_Hp) (r : p_Hp) (h : L_Mo_goOver_320 k320 v0 v2 v3 s0 = some r) : p_Go K l m_Mo_goOver 320 [(0, p_r v0), (2, p_i v2), (3, p_i v3)] [] s0 (none, r) := by
  unfold L_Mo_goOver_320 at h
  refine g_iload_n (i := 3) (j := 2) (dk_Mo_goOver 177 rfl) rfl rfl ?_
  refine g_aload_n (i := 0) (j := 0) (dk_Mo_goOver 178 rfl) rfl rfl ?_
  obtain ⟨c1, h⟩ := p_gdE h
  refine g_getI fl_Mo_334 (Or.inl rfl) (dk_Mo_goOver 179 rfl) c1 ?_
  refine g_icmp_gt 369 (dk_Mo_goOver 180 rfl) (by decide) (fun b2 => ?_) (fun b2 => ?_)
  · have h := p_ifT b2 h
    refine g_sub [(0, p_r v0)] [0] rfl ?_
    exact tB_Mo_goOver_369 K l v0 s0 _ h
  · have h := p_ifF b2 h
    refine g_aload_n (i := 0) (j := 0) (dk_Mo_goOver 181 rfl) rfl rfl ?_
    refine g_getR fl_Mo_72 (Or.inr ⟨_, rfl⟩) (dk_Mo_goOver 182 rfl) c1 ?_
    refine g_iload_n (i := 3) (j := 2) (dk_Mo_goOver 183 rfl) rfl rfl ?_
    obtain ⟨c3, h⟩ := p_gdE h
    obtain ⟨c4, h⟩ := p_gdE h
    refine g_iaload (dk_Mo_goOver 184 rfl) c3 c4.1 c4.2 ?_
    refine g_aload_n (i := 0) (j := 0) (dk_Mo_goOver 185 rfl) rfl rfl ?_
    refine g_getI fl_Mo_227 (Or.inl rfl) (dk_Mo_goOver 186 rfl) c1 ?_
    refine g_icmp_ne 363 (dk_Mo_goOver 187 rfl) (by decide) (fun b5 => ?_) (fun b5 => ?_)
    · have h := p_ifT b5 h
      exact tB_Mo_goOver_363 K l k320 hk320 v0 v2 v3 s0 _ h
    · have h := p_ifF b5 h
      refine g_iload_n (i := 3) (j := 2) (dk_Mo_goOver 188 rfl) rfl rfl ?_
      refine g_iload_n (i := 2) (j := 1) (dk_Mo_goOver 189 rfl) rfl rfl ?_
      refine g_icmp_gt 356 (dk_Mo_goOver 190 rfl) (by decide) (fun b6 => ?_) (fun b6 => ?_)
      · have h := p_ifT b6 h
        exact tB_Mo_goOver_356 K l k320 hk320 v0 v2 v3 s0 _ h
      · have h := p_ifF b6 h
        refine g_aload_n (i := 0) (j := 0) (dk_Mo_goOver 191 rfl) rfl rfl ?_
        refine g_getR fl_Mo_75 (Or.inr ⟨_, rfl⟩) (dk_Mo_goOver 192 rfl) c1 ?_
        refine g_iload_n (i := 3) (j := 2) (dk_Mo_goOver 193 rfl) rfl rfl ?_
        obtain ⟨c7, h⟩ := p_gdE h
        obtain ⟨c8, h⟩ := p_gdE h
        refine g_iaload (dk_Mo_goOver 194 rfl) c7 c8.1 c8.2 ?_
        refine g_iconst (dk_Mo_goOver 195 rfl) (by decide) ?_
        refine g_icmp_ne 363 (dk_Mo_goOver 196 rfl) (by decide) (fun b9 => ?_) (fun b9 => ?_)
        · have h := p_ifT b9 h
          exact tB_Mo_goOver_363 K l k320 hk320 v0 v2 v3 s0 _ h
        · have h := p_ifF b9 h
          exact tB_Mo_goOver_356 K l k320 hk320 v0 v2 v3 s0 _ h
set_option maxRecDepth 100000 in
set_option maxHeartbeats 4000000 in
theorem tO_Mo_goOver_320 (K : p_K) (l : Launch)  : ∀ (n : Nat) (v0 : Nat) (v2 : Int) (v3 : Int) (s0 : p_Hp) (r : p_Hp), O_Mo_goOver_320 n v0 v2 v3 s0 = some r → p_Go K l m_Mo_goOver 320 [(0, p_r v0), (2, p_i v2), (3, p_i v3)] [] s0 (none, r) := by
  intro n
  induction n with
  | zero => intro v0 v2 v3 s0 r h; cases (show (none : Option p_Hp) = some r from h)
  | succ n ih => intro v0 v2 v3 s0 r h; exact tL_Mo_goOver_320 K l _ ih v0 v2 v3 s0 r h
set_option maxRecDepth 100000 in
set_option maxHeartbeats 4000000 in
theorem tL_Mo_goOver_275 (K : p_K) (l : Launch) (k275 : Nat → Int → Int → p_Hp → Option p_Hp) (hk275 : ∀ (v0 : Nat) (v2 : Int) (v3 : Int)  (s0 : p_Hp) (r : p_Hp), k275 v0 v2 v3 s0 = some r → p_Go K l m_Mo_goOver 275 [(0, p_r v0), (2, p_i v2), (3, p_i v3)] [] s0 (none, r)) (v0 : Nat) (v2 : Int) (v3 : Int) (s0 : p_Hp) (r : p_Hp) (h : L_Mo_goOver_275 k275 v0 v2 v3 s0 = some r) : p_Go K l m_Mo_goOver 275 [(0, p_r v0), (2, p_i v2), (3, p_i v3)] [] s0 (none, r) := by
  unfold L_Mo_goOver_275 at h
  refine g_iload_n (i := 3) (j := 2) (dk_Mo_goOver 152 rfl) rfl rfl ?_
  refine g_bipush (dk_Mo_goOver 153 rfl) rfl (by decide) ?_
  refine g_aload_n (i := 0) (j := 0) (dk_Mo_goOver 154 rfl) rfl rfl ?_
  obtain ⟨c1, h⟩ := p_gdE h
  refine g_getI fl_Mo_227 (Or.inl rfl) (dk_Mo_goOver 155 rfl) c1 ?_
  refine g_imul (dk_Mo_goOver 156 rfl) ?_
  refine g_bipush (dk_Mo_goOver 157 rfl) rfl (by decide) ?_
  refine g_iadd (dk_Mo_goOver 158 rfl) ?_
  refine g_icmp_ge 311 (dk_Mo_goOver 159 rfl) (by decide) (fun b2 => ?_) (fun b2 => ?_)
  · have h := p_ifT b2 h
    refine g_aload_n (i := 0) (j := 0) (dk_Mo_goOver 172 rfl) rfl rfl ?_
    refine g_getI fl_Mo_496 (Or.inr rfl) (dk_Mo_goOver 173 rfl) c1 ?_
    refine g_if_ne 369 (dk_Mo_goOver 174 rfl) (by decide) (fun b3 => ?_) (fun b3 => ?_)
    · have h := p_ifT b3 h
      refine g_sub [(0, p_r v0)] [0] rfl ?_
      exact tB_Mo_goOver_369 K l v0 s0 _ h
    · have h := p_ifF b3 h
      refine g_iconst (dk_Mo_goOver 175 rfl) (by decide) ?_
      refine g_istore_n (i := 3) [(3, p_i 1), (0, p_r v0), (2, p_i v2)] (dk_Mo_goOver 176 rfl) rfl (by decide) rfl ?_
      refine g_sub [(0, p_r v0), (2, p_i v2), (3, p_i 1)] [1, 2, 0] rfl ?_
      exact tO_Mo_goOver_320 K l 3000 v0 v2 1 s0 _ h
  · have h := p_ifF b2 h
    refine g_aload_n (i := 0) (j := 0) (dk_Mo_goOver 160 rfl) rfl rfl ?_
    refine g_getR fl_Mo_150 (Or.inr ⟨_, rfl⟩) (dk_Mo_goOver 161 rfl) c1 ?_
    refine g_iload_n (i := 3) (j := 2) (dk_Mo_goOver 162 rfl) rfl rfl ?_
    refine g_aload_n (i := 0) (j := 0) (dk_Mo_goOver 163 rfl) rfl rfl ?_
    refine g_aload_n (i := 0) (j := 0) (dk_Mo_goOver 164 rfl) rfl rfl ?_
    refine g_getR fl_Mo_150 (Or.inr ⟨_, rfl⟩) (dk_Mo_goOver 165 rfl) c1 ?_
    refine g_iload_n (i := 3) (j := 2) (dk_Mo_goOver 166 rfl) rfl rfl ?_
    obtain ⟨c4, h⟩ := p_gdE h
    obtain ⟨c5, h⟩ := p_gdE h
    refine g_iaload (dk_Mo_goOver 167 rfl) c4 c5.1 c5.2 ?_
    obtain ⟨r10, s6, q7, h⟩ := p_bdE h
    have t8 := tF_Mo_both K l v0 (p_Z s0 (p_R s0 v0 51) (v3).toNat) s0 _ q7
    refine g_callV (a := v0) (ci := 11) (q0 := (RX11, TX11, 90)) (As := [p_i (p_Z s0 (p_R s0 v0 51) (v3).toNat)]) (rest := [p_i v3, p_r (p_R s0 v0 51)]) [p_i r10, p_i v3, p_r (p_R s0 v0 51)] mt_Mo_both rfl rfl tw_8_44 ts_71 tw_8_42 ⟨Nat.le_of_ble_eq_true rfl, Nat.le_of_ble_eq_true rfl⟩ rfl (Nat.le_of_ble_eq_true rfl) (dk_Mo_goOver 168 rfl) rfl c1 rfl t8 ?_
    have hs9 : p_x s0 s6 := t8.1
    show p_Go K l m_Mo_goOver 304 [(0, p_r v0), (2, p_i v2), (3, p_i v3)] [p_i r10, p_i v3, p_r (p_R s0 v0 51)] s6 _
    obtain ⟨c11, h⟩ := p_gdE h
    refine g_iastore (dk_Mo_goOver 169 rfl) (c4.up hs9) c11.1 c11.2 ?_
    refine p_ltS (P := fun q => p_Go K l m_Mo_goOver 305 [(0, p_r v0), (2, p_i v2), (3, p_i v3)] [] q _) (p_xZ _ _ _ _) ?_ h
    intro s12 hs13 h
    refine g_iinc (j := 2) [(3, p_i (p_w (v3 + 1))), (0, p_r v0), (2, p_i v2)] (dk_Mo_goOver 170 rfl) rfl (by decide) rfl ?_
    refine p_ltG (P := fun q => p_Go K l m_Mo_goOver 308 [(3, p_i q), (0, p_r v0), (2, p_i v2)] [] s12 _) ?_ h
    intro x14 h
    refine g_goto 275 (dk_Mo_goOver 171 rfl) (by decide) ?_
    refine g_sub [(0, p_r v0), (2, p_i v2), (3, p_i x14)] [1, 2, 0] rfl ?_
    exact hk275 v0 v2 x14 s12 _ h
set_option maxRecDepth 100000 in
set_option maxHeartbeats 4000000 in
theorem tO_Mo_goOver_275 (K : p_K) (l : Launch)  : ∀ (n : Nat) (v0 : Nat) (v2 : Int) (v3 : Int) (s0 : p_Hp) (r : p_Hp), O_Mo_goOver_275 n v0 v2 v3 s0 = some r → p_Go K l m_Mo_goOver 275 [(0, p_r v0), (2, p_i v2), (3, p_i v3)] [] s0 (none, r) := by
  intro n
  induction n with
  | zero => intro v0 v2 v3 s0 r h; cases (show (none : Option p_Hp) = some r from h)
  | succ n ih => intro v0 v2 v3 s0 r h; exact tL_Mo_goOver_275 K l _ ih v0 v2 v3 s0 r h
set_option maxRecDepth 100000 in
set_option maxHeartbeats 4000000 in
theorem tL_Mo_goOver_229 (K : p_K) (l : Launch) (k229 : Nat → Int → Int → p_Hp → Option p_Hp) (hk229 : ∀ (v0 : Nat) (v2 : Int) (v3 : Int)  (s0 : p_Hp) (r : p_Hp), k229 v0 v2 v3 s0 = some r → p_Go K l m_Mo_goOver 229 [(0, p_r v0), (2, p_i v2), (3, p_i v3)] [] s0 (none, r)) (v0 : Nat) (v2 : Int) (v3 : Int) (s0 : p_Hp) (r : p_Hp) (h : L_Mo_goOver_229 k229 v0 v2 v3 s0 = some r) : p_Go K l m_Mo_goOver 229 [(0, p_r v0), (2, p_i v2), (3, p_i v3)] [] s0 (none, r) := by
  unfold L_Mo_goOver_229 at h
  refine g_iload_n (i := 3) (j := 2) (dk_Mo_goOver 127 rfl) rfl rfl ?_
  refine g_sipush (dk_Mo_goOver 128 rfl) rfl (by decide) ?_
  refine g_aload_n (i := 0) (j := 0) (dk_Mo_goOver 129 rfl) rfl rfl ?_
  obtain ⟨c1, h⟩ := p_gdE h
  refine g_getI fl_Mo_227 (Or.inl rfl) (dk_Mo_goOver 130 rfl) c1 ?_
  refine g_imul (dk_Mo_goOver 131 rfl) ?_
  refine g_sipush (dk_Mo_goOver 132 rfl) rfl (by decide) ?_
  refine g_iadd (dk_Mo_goOver 133 rfl) ?_
  refine g_icmp_ge 267 (dk_Mo_goOver 134 rfl) (by decide) (fun b2 => ?_) (fun b2 => ?_)
  · have h := p_ifT b2 h
    refine g_bipush (dk_Mo_goOver 147 rfl) rfl (by decide) ?_
    refine g_aload_n (i := 0) (j := 0) (dk_Mo_goOver 148 rfl) rfl rfl ?_
    refine g_getI fl_Mo_227 (Or.inl rfl) (dk_Mo_goOver 149 rfl) c1 ?_
    refine g_imul (dk_Mo_goOver 150 rfl) ?_
    refine g_istore_n (i := 3) [(3, p_i (p_w (12 * (p_Z s0 v0 0)))), (0, p_r v0), (2, p_i v2)] (dk_Mo_goOver 151 rfl) rfl (by decide) rfl ?_
    refine p_ltG (P := fun q => p_Go K l m_Mo_goOver 275 [(3, p_i q), (0, p_r v0), (2, p_i v2)] [] s0 _) ?_ h
    intro x3 h
    refine g_sub [(0, p_r v0), (2, p_i v2), (3, p_i x3)] [1, 2, 0] rfl ?_
    exact tO_Mo_goOver_275 K l 3000 v0 v2 x3 s0 _ h
  · have h := p_ifF b2 h
    refine g_aload_n (i := 0) (j := 0) (dk_Mo_goOver 135 rfl) rfl rfl ?_
    refine g_getR fl_Mo_129 (Or.inr ⟨_, rfl⟩) (dk_Mo_goOver 136 rfl) c1 ?_
    refine g_iload_n (i := 3) (j := 2) (dk_Mo_goOver 137 rfl) rfl rfl ?_
    refine g_aload_n (i := 0) (j := 0) (dk_Mo_goOver 138 rfl) rfl rfl ?_
    refine g_aload_n (i := 0) (j := 0) (dk_Mo_goOver 139 rfl) rfl rfl ?_
    refine g_getR fl_Mo_129 (Or.inr ⟨_, rfl⟩) (dk_Mo_goOver 140 rfl) c1 ?_
    refine g_iload_n (i := 3) (j := 2) (dk_Mo_goOver 141 rfl) rfl rfl ?_
    obtain ⟨c4, h⟩ := p_gdE h
    obtain ⟨c5, h⟩ := p_gdE h
    refine g_iaload (dk_Mo_goOver 142 rfl) c4 c5.1 c5.2 ?_
    obtain ⟨r10, s6, q7, h⟩ := p_bdE h
    have t8 := tF_Mo_both K l v0 (p_Z s0 (p_R s0 v0 43) (v3).toNat) s0 _ q7
    refine g_callV (a := v0) (ci := 11) (q0 := (RX11, TX11, 90)) (As := [p_i (p_Z s0 (p_R s0 v0 43) (v3).toNat)]) (rest := [p_i v3, p_r (p_R s0 v0 43)]) [p_i r10, p_i v3, p_r (p_R s0 v0 43)] mt_Mo_both rfl rfl tw_8_44 ts_71 tw_8_42 ⟨Nat.le_of_ble_eq_true rfl, Nat.le_of_ble_eq_true rfl⟩ rfl (Nat.le_of_ble_eq_true rfl) (dk_Mo_goOver 143 rfl) rfl c1 rfl t8 ?_
    have hs9 : p_x s0 s6 := t8.1
    show p_Go K l m_Mo_goOver 260 [(0, p_r v0), (2, p_i v2), (3, p_i v3)] [p_i r10, p_i v3, p_r (p_R s0 v0 43)] s6 _
    obtain ⟨c11, h⟩ := p_gdE h
    refine g_iastore (dk_Mo_goOver 144 rfl) (c4.up hs9) c11.1 c11.2 ?_
    refine p_ltS (P := fun q => p_Go K l m_Mo_goOver 261 [(0, p_r v0), (2, p_i v2), (3, p_i v3)] [] q _) (p_xZ _ _ _ _) ?_ h
    intro s12 hs13 h
    refine g_iinc (j := 2) [(3, p_i (p_w (v3 + 1))), (0, p_r v0), (2, p_i v2)] (dk_Mo_goOver 145 rfl) rfl (by decide) rfl ?_
    refine p_ltG (P := fun q => p_Go K l m_Mo_goOver 264 [(3, p_i q), (0, p_r v0), (2, p_i v2)] [] s12 _) ?_ h
    intro x14 h
    refine g_goto 229 (dk_Mo_goOver 146 rfl) (by decide) ?_
    refine g_sub [(0, p_r v0), (2, p_i v2), (3, p_i x14)] [1, 2, 0] rfl ?_
    exact hk229 v0 v2 x14 s12 _ h
set_option maxRecDepth 100000 in
set_option maxHeartbeats 4000000 in
theorem tO_Mo_goOver_229 (K : p_K) (l : Launch)  : ∀ (n : Nat) (v0 : Nat) (v2 : Int) (v3 : Int) (s0 : p_Hp) (r : p_Hp), O_Mo_goOver_229 n v0 v2 v3 s0 = some r → p_Go K l m_Mo_goOver 229 [(0, p_r v0), (2, p_i v2), (3, p_i v3)] [] s0 (none, r) := by
  intro n
  induction n with
  | zero => intro v0 v2 v3 s0 r h; cases (show (none : Option p_Hp) = some r from h)
  | succ n ih => intro v0 v2 v3 s0 r h; exact tL_Mo_goOver_229 K l _ ih v0 v2 v3 s0 r h
set_option maxRecDepth 100000 in
set_option maxHeartbeats 4000000 in
theorem tL_Mo_goOver_184 (K : p_K) (l : Launch) (k184 : Nat → Int → Int → p_Hp → Option p_Hp) (hk184 : ∀ (v0 : Nat) (v2 : Int) (v3 : Int)  (s0 : p_Hp) (r : p_Hp), k184 v0 v2 v3 s0 = some r → p_Go K l m_Mo_goOver 184 [(0, p_r v0), (2, p_i v2), (3, p_i v3)] [] s0 (none, r)) (v0 : Nat) (v2 : Int) (v3 : Int) (s0 : p_Hp) (r : p_Hp) (h : L_Mo_goOver_184 k184 v0 v2 v3 s0 = some r) : p_Go K l m_Mo_goOver 184 [(0, p_r v0), (2, p_i v2), (3, p_i v3)] [] s0 (none, r) := by
  unfold L_Mo_goOver_184 at h
  refine g_iload_n (i := 3) (j := 2) (dk_Mo_goOver 102 rfl) rfl rfl ?_
  refine g_bipush (dk_Mo_goOver 103 rfl) rfl (by decide) ?_
  refine g_aload_n (i := 0) (j := 0) (dk_Mo_goOver 104 rfl) rfl rfl ?_
  obtain ⟨c1, h⟩ := p_gdE h
  refine g_getI fl_Mo_227 (Or.inl rfl) (dk_Mo_goOver 105 rfl) c1 ?_
  refine g_imul (dk_Mo_goOver 106 rfl) ?_
  refine g_bipush (dk_Mo_goOver 107 rfl) rfl (by decide) ?_
  refine g_iadd (dk_Mo_goOver 108 rfl) ?_
  refine g_icmp_ge 220 (dk_Mo_goOver 109 rfl) (by decide) (fun b2 => ?_) (fun b2 => ?_)
  · have h := p_ifT b2 h
    refine g_sipush (dk_Mo_goOver 122 rfl) rfl (by decide) ?_
    refine g_aload_n (i := 0) (j := 0) (dk_Mo_goOver 123 rfl) rfl rfl ?_
    refine g_getI fl_Mo_227 (Or.inl rfl) (dk_Mo_goOver 124 rfl) c1 ?_
    refine g_imul (dk_Mo_goOver 125 rfl) ?_
    refine g_istore_n (i := 3) [(3, p_i (p_w (200 * (p_Z s0 v0 0)))), (0, p_r v0), (2, p_i v2)] (dk_Mo_goOver 126 rfl) rfl (by decide) rfl ?_
    refine p_ltG (P := fun q => p_Go K l m_Mo_goOver 229 [(3, p_i q), (0, p_r v0), (2, p_i v2)] [] s0 _) ?_ h
    intro x3 h
    refine g_sub [(0, p_r v0), (2, p_i v2), (3, p_i x3)] [1, 2, 0] rfl ?_
    exact tO_Mo_goOver_229 K l 3000 v0 v2 x3 s0 _ h
  · have h := p_ifF b2 h
    refine g_aload_n (i := 0) (j := 0) (dk_Mo_goOver 110 rfl) rfl rfl ?_
    refine g_getR fl_Mo_123 (Or.inr ⟨_, rfl⟩) (dk_Mo_goOver 111 rfl) c1 ?_
    refine g_iload_n (i := 3) (j := 2) (dk_Mo_goOver 112 rfl) rfl rfl ?_
    refine g_aload_n (i := 0) (j := 0) (dk_Mo_goOver 113 rfl) rfl rfl ?_
    refine g_aload_n (i := 0) (j := 0) (dk_Mo_goOver 114 rfl) rfl rfl ?_
    refine g_getR fl_Mo_123 (Or.inr ⟨_, rfl⟩) (dk_Mo_goOver 115 rfl) c1 ?_
    refine g_iload_n (i := 3) (j := 2) (dk_Mo_goOver 116 rfl) rfl rfl ?_
    obtain ⟨c4, h⟩ := p_gdE h
    obtain ⟨c5, h⟩ := p_gdE h
    refine g_iaload (dk_Mo_goOver 117 rfl) c4 c5.1 c5.2 ?_
    obtain ⟨r10, s6, q7, h⟩ := p_bdE h
    have t8 := tF_Mo_both K l v0 (p_Z s0 (p_R s0 v0 41) (v3).toNat) s0 _ q7
    refine g_callV (a := v0) (ci := 11) (q0 := (RX11, TX11, 90)) (As := [p_i (p_Z s0 (p_R s0 v0 41) (v3).toNat)]) (rest := [p_i v3, p_r (p_R s0 v0 41)]) [p_i r10, p_i v3, p_r (p_R s0 v0 41)] mt_Mo_both rfl rfl tw_8_44 ts_71 tw_8_42 ⟨Nat.le_of_ble_eq_true rfl, Nat.le_of_ble_eq_true rfl⟩ rfl (Nat.le_of_ble_eq_true rfl) (dk_Mo_goOver 118 rfl) rfl c1 rfl t8 ?_
    have hs9 : p_x s0 s6 := t8.1
    show p_Go K l m_Mo_goOver 213 [(0, p_r v0), (2, p_i v2), (3, p_i v3)] [p_i r10, p_i v3, p_r (p_R s0 v0 41)] s6 _
    obtain ⟨c11, h⟩ := p_gdE h
    refine g_iastore (dk_Mo_goOver 119 rfl) (c4.up hs9) c11.1 c11.2 ?_
    refine p_ltS (P := fun q => p_Go K l m_Mo_goOver 214 [(0, p_r v0), (2, p_i v2), (3, p_i v3)] [] q _) (p_xZ _ _ _ _) ?_ h
    intro s12 hs13 h
    refine g_iinc (j := 2) [(3, p_i (p_w (v3 + 1))), (0, p_r v0), (2, p_i v2)] (dk_Mo_goOver 120 rfl) rfl (by decide) rfl ?_
    refine p_ltG (P := fun q => p_Go K l m_Mo_goOver 217 [(3, p_i q), (0, p_r v0), (2, p_i v2)] [] s12 _) ?_ h
    intro x14 h
    refine g_goto 184 (dk_Mo_goOver 121 rfl) (by decide) ?_
    refine g_sub [(0, p_r v0), (2, p_i v2), (3, p_i x14)] [1, 2, 0] rfl ?_
    exact hk184 v0 v2 x14 s12 _ h
set_option maxRecDepth 100000 in
set_option maxHeartbeats 4000000 in
theorem tO_Mo_goOver_184 (K : p_K) (l : Launch)  : ∀ (n : Nat) (v0 : Nat) (v2 : Int) (v3 : Int) (s0 : p_Hp) (r : p_Hp), O_Mo_goOver_184 n v0 v2 v3 s0 = some r → p_Go K l m_Mo_goOver 184 [(0, p_r v0), (2, p_i v2), (3, p_i v3)] [] s0 (none, r) := by
  intro n
  induction n with
  | zero => intro v0 v2 v3 s0 r h; cases (show (none : Option p_Hp) = some r from h)
  | succ n ih => intro v0 v2 v3 s0 r h; exact tL_Mo_goOver_184 K l _ ih v0 v2 v3 s0 r h
set_option maxRecDepth 100000 in
set_option maxHeartbeats 4000000 in
theorem tL_Mo_goOver_144 (K : p_K) (l : Launch) (k144 : Nat → Int → Int → p_Hp → Option p_Hp) (hk144 : ∀ (v0 : Nat) (v2 : Int) (v3 : Int)  (s0 : p_Hp) (r : p_Hp), k144 v0 v2 v3 s0 = some r → p_Go K l m_Mo_goOver 144 [(0, p_r v0), (2, p_i v2), (3, p_i v3)] [] s0 (none, r)) (v0 : Nat) (v2 : Int) (v3 : Int) (s0 : p_Hp) (r : p_Hp) (h : L_Mo_goOver_144 k144 v0 v2 v3 s0 = some r) : p_Go K l m_Mo_goOver 144 [(0, p_r v0), (2, p_i v2), (3, p_i v3)] [] s0 (none, r) := by
  unfold L_Mo_goOver_144 at h
  refine g_iload_n (i := 3) (j := 2) (dk_Mo_goOver 80 rfl) rfl rfl ?_
  refine g_bipush (dk_Mo_goOver 81 rfl) rfl (by decide) ?_
  refine g_aload_n (i := 0) (j := 0) (dk_Mo_goOver 82 rfl) rfl rfl ?_
  obtain ⟨c1, h⟩ := p_gdE h
  refine g_getI fl_Mo_227 (Or.inl rfl) (dk_Mo_goOver 83 rfl) c1 ?_
  refine g_imul (dk_Mo_goOver 84 rfl) ?_
  refine g_aload_n (i := 0) (j := 0) (dk_Mo_goOver 85 rfl) rfl rfl ?_
  refine g_getR fl_Mo_7 (Or.inr ⟨_, rfl⟩) (dk_Mo_goOver 86 rfl) c1 ?_
  refine g_aload_n (i := 0) (j := 0) (dk_Mo_goOver 87 rfl) rfl rfl ?_
  refine g_getI fl_Mo_227 (Or.inl rfl) (dk_Mo_goOver 88 rfl) c1 ?_
  obtain ⟨c2, h⟩ := p_gdE h
  obtain ⟨c3, h⟩ := p_gdE h
  refine g_iaload (dk_Mo_goOver 89 rfl) c2 c3.1 c3.2 ?_
  refine g_iadd (dk_Mo_goOver 90 rfl) ?_
  refine g_icmp_ge 176 (dk_Mo_goOver 91 rfl) (by decide) (fun b4 => ?_) (fun b4 => ?_)
  · have h := p_ifT b4 h
    refine g_bipush (dk_Mo_goOver 97 rfl) rfl (by decide) ?_
    refine g_aload_n (i := 0) (j := 0) (dk_Mo_goOver 98 rfl) rfl rfl ?_
    refine g_getI fl_Mo_227 (Or.inl rfl) (dk_Mo_goOver 99 rfl) c1 ?_
    refine g_imul (dk_Mo_goOver 100 rfl) ?_
    refine g_istore_n (i := 3) [(3, p_i (p_w (120 * (p_Z s0 v0 0)))), (0, p_r v0), (2, p_i v2)] (dk_Mo_goOver 101 rfl) rfl (by decide) rfl ?_
    refine p_ltG (P := fun q => p_Go K l m_Mo_goOver 184 [(3, p_i q), (0, p_r v0), (2, p_i v2)] [] s0 _) ?_ h
    intro x5 h
    refine g_sub [(0, p_r v0), (2, p_i v2), (3, p_i x5)] [1, 2, 0] rfl ?_
    exact tO_Mo_goOver_184 K l 3000 v0 v2 x5 s0 _ h
  · have h := p_ifF b4 h
    refine g_aload_n (i := 0) (j := 0) (dk_Mo_goOver 92 rfl) rfl rfl ?_
    refine g_iload_n (i := 3) (j := 2) (dk_Mo_goOver 93 rfl) rfl rfl ?_
    obtain ⟨s6, q7, h⟩ := p_bvE h
    have t8 := tF_Mo_goOverGear K l v0 v3 s0 _ q7
    refine g_callV (a := v0) (ci := 11) (q0 := (RX11, TX11, 90)) (As := [p_i v3]) (rest := []) [] mt_Mo_goOverGear rfl rfl tw_8_48 ts_72 tw_8_46 ⟨Nat.le_of_ble_eq_true rfl, Nat.le_of_ble_eq_true rfl⟩ rfl (Nat.le_of_ble_eq_true rfl) (dk_Mo_goOver 94 rfl) rfl c1 rfl t8 ?_
    have hs9 : p_x s0 s6 := t8.1
    show p_Go K l m_Mo_goOver 170 [(0, p_r v0), (2, p_i v2), (3, p_i v3)] [] s6 _
    refine g_iinc (j := 2) [(3, p_i (p_w (v3 + 1))), (0, p_r v0), (2, p_i v2)] (dk_Mo_goOver 95 rfl) rfl (by decide) rfl ?_
    refine p_ltG (P := fun q => p_Go K l m_Mo_goOver 173 [(3, p_i q), (0, p_r v0), (2, p_i v2)] [] s6 _) ?_ h
    intro x10 h
    refine g_goto 144 (dk_Mo_goOver 96 rfl) (by decide) ?_
    refine g_sub [(0, p_r v0), (2, p_i v2), (3, p_i x10)] [1, 2, 0] rfl ?_
    exact hk144 v0 v2 x10 s6 _ h
set_option maxRecDepth 100000 in
set_option maxHeartbeats 4000000 in
theorem tO_Mo_goOver_144 (K : p_K) (l : Launch)  : ∀ (n : Nat) (v0 : Nat) (v2 : Int) (v3 : Int) (s0 : p_Hp) (r : p_Hp), O_Mo_goOver_144 n v0 v2 v3 s0 = some r → p_Go K l m_Mo_goOver 144 [(0, p_r v0), (2, p_i v2), (3, p_i v3)] [] s0 (none, r) := by
  intro n
  induction n with
  | zero => intro v0 v2 v3 s0 r h; cases (show (none : Option p_Hp) = some r from h)
  | succ n ih => intro v0 v2 v3 s0 r h; exact tL_Mo_goOver_144 K l _ ih v0 v2 v3 s0 r h
set_option maxRecDepth 100000 in
set_option maxHeartbeats 4000000 in
theorem tF_Mo_goOver (K : p_K) (l : Launch) (v0 : Nat) (v1 : Int) (s0 : p_Hp) (r : p_Hp) (h : F_Mo_goOver v0 v1 s0 = some r) : p_Ct K l m_Mo_goOver [p_r v0, p_i v1] s0 (none, r) := by
  refine p_Ct.of (by decide) (Nat.le_of_ble_eq_true rfl) ?_
  unfold F_Mo_goOver at h
  show p_Go K l m_Mo_goOver 0 [(0, p_r v0), (1, p_i v1)] [] s0 _
  refine g_aload_n (i := 0) (j := 0) (dk_Mo_goOver 0 rfl) rfl rfl ?_
  refine g_sipush (dk_Mo_goOver 1 rfl) rfl (by decide) ?_
  refine g_bipush (dk_Mo_goOver 2 rfl) rfl (by decide) ?_
  refine g_aload_n (i := 0) (j := 0) (dk_Mo_goOver 3 rfl) rfl rfl ?_
  obtain ⟨c1, h⟩ := p_gdE h
  refine g_getI fl_Mo_227 (Or.inl rfl) (dk_Mo_goOver 4 rfl) c1 ?_
  refine g_imul (dk_Mo_goOver 5 rfl) ?_
  refine g_iload_n (i := 1) (j := 1) (dk_Mo_goOver 6 rfl) rfl rfl ?_
  refine g_iadd (dk_Mo_goOver 7 rfl) ?_
  refine g_imul (dk_Mo_goOver 8 rfl) ?_
  refine g_putI fl_Mo_500 (Or.inl rfl) (dk_Mo_goOver 9 rfl) c1 ?_
  refine p_ltS (P := fun q => p_Go K l m_Mo_goOver 17 [(0, p_r v0), (1, p_i v1)] [] q _) (p_xZ _ _ _ _) ?_ h
  intro s2 hs3 h
  refine g_aload_n (i := 0) (j := 0) (dk_Mo_goOver 10 rfl) rfl rfl ?_
  refine g_getR fl_Mo_13 (Or.inr ⟨_, rfl⟩) (dk_Mo_goOver 11 rfl) (c1.up hs3) ?_
  refine g_aload_n (i := 0) (j := 0) (dk_Mo_goOver 12 rfl) rfl rfl ?_
  refine g_getI fl_Mo_227 (Or.inl rfl) (dk_Mo_goOver 13 rfl) (c1.up hs3) ?_
  refine g_aload_n (i := 0) (j := 0) (dk_Mo_goOver 14 rfl) rfl rfl ?_
  refine g_aload_n (i := 0) (j := 0) (dk_Mo_goOver 15 rfl) rfl rfl ?_
  refine g_getR fl_Mo_13 (Or.inr ⟨_, rfl⟩) (dk_Mo_goOver 16 rfl) (c1.up hs3) ?_
  refine g_aload_n (i := 0) (j := 0) (dk_Mo_goOver 17 rfl) rfl rfl ?_
  refine g_getI fl_Mo_227 (Or.inl rfl) (dk_Mo_goOver 18 rfl) (c1.up hs3) ?_
  obtain ⟨c4, h⟩ := p_gdE h
  obtain ⟨c5, h⟩ := p_gdE h
  refine g_iaload (dk_Mo_goOver 19 rfl) c4 c5.1 c5.2 ?_
  obtain ⟨r10, s6, q7, h⟩ := p_bdE h
  have t8 := tF_Mo_both K l v0 (p_Z s2 (p_R s2 v0 4) ((p_Z s2 v0 0)).toNat) s2 _ q7
  refine g_callV (a := v0) (ci := 11) (q0 := (RX11, TX11, 90)) (As := [p_i (p_Z s2 (p_R s2 v0 4) ((p_Z s2 v0 0)).toNat)]) (rest := [p_i (p_Z s2 v0 0), p_r (p_R s2 v0 4)]) [p_i r10, p_i (p_Z s2 v0 0), p_r (p_R s2 v0 4)] mt_Mo_both rfl rfl tw_8_44 ts_71 tw_8_42 ⟨Nat.le_of_ble_eq_true rfl, Nat.le_of_ble_eq_true rfl⟩ rfl (Nat.le_of_ble_eq_true rfl) (dk_Mo_goOver 20 rfl) rfl (c1.up hs3) rfl t8 ?_
  have hs9 : p_x s2 s6 := t8.1
  show p_Go K l m_Mo_goOver 38 [(0, p_r v0), (1, p_i v1)] [p_i r10, p_i (p_Z s2 v0 0), p_r (p_R s2 v0 4)] s6 _
  obtain ⟨c11, h⟩ := p_gdE h
  refine g_iastore (dk_Mo_goOver 21 rfl) (c4.up hs9) c11.1 c11.2 ?_
  refine p_ltS (P := fun q => p_Go K l m_Mo_goOver 39 [(0, p_r v0), (1, p_i v1)] [] q _) (p_xZ _ _ _ _) ?_ h
  intro s12 hs13 h
  refine g_aload_n (i := 0) (j := 0) (dk_Mo_goOver 22 rfl) rfl rfl ?_
  refine g_getR fl_Mo_114 (Or.inr ⟨_, rfl⟩) (dk_Mo_goOver 23 rfl) (c1.up (hs3.trans (hs9.trans hs13))) ?_
  refine g_aload_n (i := 0) (j := 0) (dk_Mo_goOver 24 rfl) rfl rfl ?_
  refine g_getI fl_Mo_227 (Or.inl rfl) (dk_Mo_goOver 25 rfl) (c1.up (hs3.trans (hs9.trans hs13))) ?_
  refine g_aload_n (i := 0) (j := 0) (dk_Mo_goOver 26 rfl) rfl rfl ?_
  refine g_aload_n (i := 0) (j := 0) (dk_Mo_goOver 27 rfl) rfl rfl ?_
  refine g_getR fl_Mo_114 (Or.inr ⟨_, rfl⟩) (dk_Mo_goOver 28 rfl) (c1.up (hs3.trans (hs9.trans hs13))) ?_
  refine g_aload_n (i := 0) (j := 0) (dk_Mo_goOver 29 rfl) rfl rfl ?_
  refine g_getI fl_Mo_227 (Or.inl rfl) (dk_Mo_goOver 30 rfl) (c1.up (hs3.trans (hs9.trans hs13))) ?_
  obtain ⟨c14, h⟩ := p_gdE h
  obtain ⟨c15, h⟩ := p_gdE h
  refine g_iaload (dk_Mo_goOver 31 rfl) c14 c15.1 c15.2 ?_
  obtain ⟨r20, s16, q17, h⟩ := p_bdE h
  have t18 := tF_Mo_both K l v0 (p_Z s12 (p_R s12 v0 38) ((p_Z s12 v0 0)).toNat) s12 _ q17
  refine g_callV (a := v0) (ci := 11) (q0 := (RX11, TX11, 90)) (As := [p_i (p_Z s12 (p_R s12 v0 38) ((p_Z s12 v0 0)).toNat)]) (rest := [p_i (p_Z s12 v0 0), p_r (p_R s12 v0 38)]) [p_i r20, p_i (p_Z s12 v0 0), p_r (p_R s12 v0 38)] mt_Mo_both rfl rfl tw_8_44 ts_71 tw_8_42 ⟨Nat.le_of_ble_eq_true rfl, Nat.le_of_ble_eq_true rfl⟩ rfl (Nat.le_of_ble_eq_true rfl) (dk_Mo_goOver 32 rfl) rfl (c1.up (hs3.trans (hs9.trans hs13))) rfl t18 ?_
  have hs19 : p_x s12 s16 := t18.1
  show p_Go K l m_Mo_goOver 60 [(0, p_r v0), (1, p_i v1)] [p_i r20, p_i (p_Z s12 v0 0), p_r (p_R s12 v0 38)] s16 _
  obtain ⟨c21, h⟩ := p_gdE h
  refine g_iastore (dk_Mo_goOver 33 rfl) (c14.up hs19) c21.1 c21.2 ?_
  refine p_ltS (P := fun q => p_Go K l m_Mo_goOver 61 [(0, p_r v0), (1, p_i v1)] [] q _) (p_xZ _ _ _ _) ?_ h
  intro s22 hs23 h
  refine g_aload_n (i := 0) (j := 0) (dk_Mo_goOver 34 rfl) rfl rfl ?_
  refine g_getR fl_Mo_117 (Or.inr ⟨_, rfl⟩) (dk_Mo_goOver 35 rfl) (c1.up (hs3.trans (hs9.trans (hs13.trans (hs19.trans hs23))))) ?_
  refine g_aload_n (i := 0) (j := 0) (dk_Mo_goOver 36 rfl) rfl rfl ?_
  refine g_getI fl_Mo_227 (Or.inl rfl) (dk_Mo_goOver 37 rfl) (c1.up (hs3.trans (hs9.trans (hs13.trans (hs19.trans hs23))))) ?_
  refine g_aload_n (i := 0) (j := 0) (dk_Mo_goOver 38 rfl) rfl rfl ?_
  refine g_aload_n (i := 0) (j := 0) (dk_Mo_goOver 39 rfl) rfl rfl ?_
  refine g_getR fl_Mo_117 (Or.inr ⟨_, rfl⟩) (dk_Mo_goOver 40 rfl) (c1.up (hs3.trans (hs9.trans (hs13.trans (hs19.trans hs23))))) ?_
  refine g_aload_n (i := 0) (j := 0) (dk_Mo_goOver 41 rfl) rfl rfl ?_
  refine g_getI fl_Mo_227 (Or.inl rfl) (dk_Mo_goOver 42 rfl) (c1.up (hs3.trans (hs9.trans (hs13.trans (hs19.trans hs23))))) ?_
  obtain ⟨c24, h⟩ := p_gdE h
  obtain ⟨c25, h⟩ := p_gdE h
  refine g_iaload (dk_Mo_goOver 43 rfl) c24 c25.1 c25.2 ?_
  obtain ⟨r30, s26, q27, h⟩ := p_bdE h
  have t28 := tF_Mo_both K l v0 (p_Z s22 (p_R s22 v0 39) ((p_Z s22 v0 0)).toNat) s22 _ q27
  refine g_callV (a := v0) (ci := 11) (q0 := (RX11, TX11, 90)) (As := [p_i (p_Z s22 (p_R s22 v0 39) ((p_Z s22 v0 0)).toNat)]) (rest := [p_i (p_Z s22 v0 0), p_r (p_R s22 v0 39)]) [p_i r30, p_i (p_Z s22 v0 0), p_r (p_R s22 v0 39)] mt_Mo_both rfl rfl tw_8_44 ts_71 tw_8_42 ⟨Nat.le_of_ble_eq_true rfl, Nat.le_of_ble_eq_true rfl⟩ rfl (Nat.le_of_ble_eq_true rfl) (dk_Mo_goOver 44 rfl) rfl (c1.up (hs3.trans (hs9.trans (hs13.trans (hs19.trans hs23))))) rfl t28 ?_
  have hs29 : p_x s22 s26 := t28.1
  show p_Go K l m_Mo_goOver 82 [(0, p_r v0), (1, p_i v1)] [p_i r30, p_i (p_Z s22 v0 0), p_r (p_R s22 v0 39)] s26 _
  obtain ⟨c31, h⟩ := p_gdE h
  refine g_iastore (dk_Mo_goOver 45 rfl) (c24.up hs29) c31.1 c31.2 ?_
  refine p_ltS (P := fun q => p_Go K l m_Mo_goOver 83 [(0, p_r v0), (1, p_i v1)] [] q _) (p_xZ _ _ _ _) ?_ h
  intro s32 hs33 h
  refine g_aload_n (i := 0) (j := 0) (dk_Mo_goOver 46 rfl) rfl rfl ?_
  refine g_getR fl_Mo_120 (Or.inr ⟨_, rfl⟩) (dk_Mo_goOver 47 rfl) (c1.up (hs3.trans (hs9.trans (hs13.trans (hs19.trans (hs23.trans (hs29.trans hs33))))))) ?_
  refine g_aload_n (i := 0) (j := 0) (dk_Mo_goOver 48 rfl) rfl rfl ?_
  refine g_getI fl_Mo_227 (Or.inl rfl) (dk_Mo_goOver 49 rfl) (c1.up (hs3.trans (hs9.trans (hs13.trans (hs19.trans (hs23.trans (hs29.trans hs33))))))) ?_
  refine g_aload_n (i := 0) (j := 0) (dk_Mo_goOver 50 rfl) rfl rfl ?_
  refine g_aload_n (i := 0) (j := 0) (dk_Mo_goOver 51 rfl) rfl rfl ?_
  refine g_getR fl_Mo_120 (Or.inr ⟨_, rfl⟩) (dk_Mo_goOver 52 rfl) (c1.up (hs3.trans (hs9.trans (hs13.trans (hs19.trans (hs23.trans (hs29.trans hs33))))))) ?_
  refine g_aload_n (i := 0) (j := 0) (dk_Mo_goOver 53 rfl) rfl rfl ?_
  refine g_getI fl_Mo_227 (Or.inl rfl) (dk_Mo_goOver 54 rfl) (c1.up (hs3.trans (hs9.trans (hs13.trans (hs19.trans (hs23.trans (hs29.trans hs33))))))) ?_
  obtain ⟨c34, h⟩ := p_gdE h
  obtain ⟨c35, h⟩ := p_gdE h
  refine g_iaload (dk_Mo_goOver 55 rfl) c34 c35.1 c35.2 ?_
  obtain ⟨r40, s36, q37, h⟩ := p_bdE h
  have t38 := tF_Mo_both K l v0 (p_Z s32 (p_R s32 v0 40) ((p_Z s32 v0 0)).toNat) s32 _ q37
  refine g_callV (a := v0) (ci := 11) (q0 := (RX11, TX11, 90)) (As := [p_i (p_Z s32 (p_R s32 v0 40) ((p_Z s32 v0 0)).toNat)]) (rest := [p_i (p_Z s32 v0 0), p_r (p_R s32 v0 40)]) [p_i r40, p_i (p_Z s32 v0 0), p_r (p_R s32 v0 40)] mt_Mo_both rfl rfl tw_8_44 ts_71 tw_8_42 ⟨Nat.le_of_ble_eq_true rfl, Nat.le_of_ble_eq_true rfl⟩ rfl (Nat.le_of_ble_eq_true rfl) (dk_Mo_goOver 56 rfl) rfl (c1.up (hs3.trans (hs9.trans (hs13.trans (hs19.trans (hs23.trans (hs29.trans hs33))))))) rfl t38 ?_
  have hs39 : p_x s32 s36 := t38.1
  show p_Go K l m_Mo_goOver 104 [(0, p_r v0), (1, p_i v1)] [p_i r40, p_i (p_Z s32 v0 0), p_r (p_R s32 v0 40)] s36 _
  obtain ⟨c41, h⟩ := p_gdE h
  refine g_iastore (dk_Mo_goOver 57 rfl) (c34.up hs39) c41.1 c41.2 ?_
  refine p_ltS (P := fun q => p_Go K l m_Mo_goOver 105 [(0, p_r v0), (1, p_i v1)] [] q _) (p_xZ _ _ _ _) ?_ h
  intro s42 hs43 h
  refine g_aload_n (i := 0) (j := 0) (dk_Mo_goOver 58 rfl) rfl rfl ?_
  refine g_getR fl_Mo_126 (Or.inr ⟨_, rfl⟩) (dk_Mo_goOver 59 rfl) (c1.up (hs3.trans (hs9.trans (hs13.trans (hs19.trans (hs23.trans (hs29.trans (hs33.trans (hs39.trans hs43))))))))) ?_
  refine g_aload_n (i := 0) (j := 0) (dk_Mo_goOver 60 rfl) rfl rfl ?_
  refine g_getI fl_Mo_227 (Or.inl rfl) (dk_Mo_goOver 61 rfl) (c1.up (hs3.trans (hs9.trans (hs13.trans (hs19.trans (hs23.trans (hs29.trans (hs33.trans (hs39.trans hs43))))))))) ?_
  refine g_aload_n (i := 0) (j := 0) (dk_Mo_goOver 62 rfl) rfl rfl ?_
  refine g_aload_n (i := 0) (j := 0) (dk_Mo_goOver 63 rfl) rfl rfl ?_
  refine g_getR fl_Mo_126 (Or.inr ⟨_, rfl⟩) (dk_Mo_goOver 64 rfl) (c1.up (hs3.trans (hs9.trans (hs13.trans (hs19.trans (hs23.trans (hs29.trans (hs33.trans (hs39.trans hs43))))))))) ?_
  refine g_aload_n (i := 0) (j := 0) (dk_Mo_goOver 65 rfl) rfl rfl ?_
  refine g_getI fl_Mo_227 (Or.inl rfl) (dk_Mo_goOver 66 rfl) (c1.up (hs3.trans (hs9.trans (hs13.trans (hs19.trans (hs23.trans (hs29.trans (hs33.trans (hs39.trans hs43))))))))) ?_
  obtain ⟨c44, h⟩ := p_gdE h
  obtain ⟨c45, h⟩ := p_gdE h
  refine g_iaload (dk_Mo_goOver 67 rfl) c44 c45.1 c45.2 ?_
  obtain ⟨r50, s46, q47, h⟩ := p_bdE h
  have t48 := tF_Mo_both K l v0 (p_Z s42 (p_R s42 v0 42) ((p_Z s42 v0 0)).toNat) s42 _ q47
  refine g_callV (a := v0) (ci := 11) (q0 := (RX11, TX11, 90)) (As := [p_i (p_Z s42 (p_R s42 v0 42) ((p_Z s42 v0 0)).toNat)]) (rest := [p_i (p_Z s42 v0 0), p_r (p_R s42 v0 42)]) [p_i r50, p_i (p_Z s42 v0 0), p_r (p_R s42 v0 42)] mt_Mo_both rfl rfl tw_8_44 ts_71 tw_8_42 ⟨Nat.le_of_ble_eq_true rfl, Nat.le_of_ble_eq_true rfl⟩ rfl (Nat.le_of_ble_eq_true rfl) (dk_Mo_goOver 68 rfl) rfl (c1.up (hs3.trans (hs9.trans (hs13.trans (hs19.trans (hs23.trans (hs29.trans (hs33.trans (hs39.trans hs43))))))))) rfl t48 ?_
  have hs49 : p_x s42 s46 := t48.1
  show p_Go K l m_Mo_goOver 126 [(0, p_r v0), (1, p_i v1)] [p_i r50, p_i (p_Z s42 v0 0), p_r (p_R s42 v0 42)] s46 _
  obtain ⟨c51, h⟩ := p_gdE h
  refine g_iastore (dk_Mo_goOver 69 rfl) (c44.up hs49) c51.1 c51.2 ?_
  refine p_ltS (P := fun q => p_Go K l m_Mo_goOver 127 [(0, p_r v0), (1, p_i v1)] [] q _) (p_xZ _ _ _ _) ?_ h
  intro s52 hs53 h
  refine g_aload_n (i := 0) (j := 0) (dk_Mo_goOver 70 rfl) rfl rfl ?_
  refine g_aload_n (i := 0) (j := 0) (dk_Mo_goOver 71 rfl) rfl rfl ?_
  refine g_getI fl_Mo_334 (Or.inl rfl) (dk_Mo_goOver 72 rfl) (c1.up (hs3.trans (hs9.trans (hs13.trans (hs19.trans (hs23.trans (hs29.trans (hs33.trans (hs39.trans (hs43.trans (hs49.trans hs53))))))))))) ?_
  obtain ⟨r58, s54, q55, h⟩ := p_bdE h
  have t56 := tF_Mo_both K l v0 (p_Z s52 v0 23) s52 _ q55
  refine g_callV (a := v0) (ci := 11) (q0 := (RX11, TX11, 90)) (As := [p_i (p_Z s52 v0 23)]) (rest := []) [p_i r58] mt_Mo_both rfl rfl tw_8_44 ts_71 tw_8_42 ⟨Nat.le_of_ble_eq_true rfl, Nat.le_of_ble_eq_true rfl⟩ rfl (Nat.le_of_ble_eq_true rfl) (dk_Mo_goOver 73 rfl) rfl (c1.up (hs3.trans (hs9.trans (hs13.trans (hs19.trans (hs23.trans (hs29.trans (hs33.trans (hs39.trans (hs43.trans (hs49.trans hs53))))))))))) rfl t56 ?_
  have hs57 : p_x s52 s54 := t56.1
  show p_Go K l m_Mo_goOver 135 [(0, p_r v0), (1, p_i v1)] [p_i r58] s54 _
  refine g_istore_n (i := 2) [(2, p_i r58), (0, p_r v0), (1, p_i v1)] (dk_Mo_goOver 74 rfl) rfl (by decide) rfl ?_
  refine g_bipush (dk_Mo_goOver 75 rfl) rfl (by decide) ?_
  refine g_aload_n (i := 0) (j := 1) (dk_Mo_goOver 76 rfl) rfl rfl ?_
  refine g_getI fl_Mo_227 (Or.inl rfl) (dk_Mo_goOver 77 rfl) (c1.up (hs3.trans (hs9.trans (hs13.trans (hs19.trans (hs23.trans (hs29.trans (hs33.trans (hs39.trans (hs43.trans (hs49.trans (hs53.trans hs57)))))))))))) ?_
  refine g_imul (dk_Mo_goOver 78 rfl) ?_
  refine g_istore_n (i := 3) [(3, p_i (p_w (40 * (p_Z s54 v0 0)))), (2, p_i r58), (0, p_r v0), (1, p_i v1)] (dk_Mo_goOver 79 rfl) rfl (by decide) rfl ?_
  refine p_ltG (P := fun q => p_Go K l m_Mo_goOver 144 [(3, p_i q), (2, p_i r58), (0, p_r v0), (1, p_i v1)] [] s54 _) ?_ h
  intro x59 h
  refine g_sub [(0, p_r v0), (2, p_i r58), (3, p_i x59)] [2, 1, 0] rfl ?_
  exact tO_Mo_goOver_144 K l 3000 v0 r58 x59 s54 _ h
def m_Mo_keep : p_Me := (⟨"SortWorksModel", "keep", "()V"⟩, prog_13_method_89_code, 1, none, 3, 68)
theorem mt_Mo_keep : p_Mt m_Mo_keep 0 := ⟨p_mem (p_tb8 (List.mem_of_getElem? (i := 37) rfl)) rfl, tw_1_12, by decide +kernel, by decide +kernel, by decide +kernel⟩
def dt_Mo_keep : List (Nat × Instr × Nat) := [(0, .aload_n 0, 1), (1, .getfield 207, 3), (4, .aload_n 0, 1), (5, .getfield 227, 3), (8, .iaload, 1), (9, .bipush 30, 2), (11, .if_icmp .ne 39, 3), (14, .aload_n 0, 1), (15, .getfield 210, 3), (18, .aload_n 0, 1), (19, .getfield 227, 3), (22, .aload_n 0, 1), (23, .getfield 210, 3), (26, .aload_n 0, 1), (27, .getfield 227, 3), (30, .iaload, 1), (31, .iconst 1, 1), (32, .iadd, 1), (33, .bipush 30, 2), (35, .irem, 1), (36, .iastore, 1), (37, .aload_n 0, 1), (38, .getfield 207, 3), (41, .aload_n 0, 1), (42, .getfield 227, 3), (45, .dup2, 1), (46, .iaload, 1), (47, .iconst 1, 1), (48, .isub, 1), (49, .iastore, 1), (50, .aload_n 0, 1), (51, .iconst 1, 1), (52, .putfield 496, 3), (55, .aload_n 0, 1), (56, .aload_n 0, 1), (57, .getfield 210, 3), (60, .aload_n 0, 1), (61, .getfield 227, 3), (64, .iaload, 1), (65, .aload_n 0, 1), (66, .getfield 207, 3), (69, .aload_n 0, 1), (70, .getfield 227, 3), (73, .iaload, 1), (74, .iadd, 1), (75, .bipush 30, 2), (77, .irem, 1), (78, .invokevirtual 503, 3), (81, .aload_n 0, 1), (82, .getfield 207, 3), (85, .aload_n 0, 1), (86, .getfield 227, 3), (89, .dup2, 1), (90, .iaload, 1), (91, .iconst 1, 1), (92, .iadd, 1), (93, .iastore, 1), (94, .return_, 1)]
theorem dk_Mo_keep (i : Nat) {pc : Nat} {ins : Instr} {len : Nat} (h : dt_Mo_keep[i]? = some (pc, ins, len)) : decode m_Mo_keep.2.1 pc = .ok (ins, len) := p_dk (b := m_Mo_keep.2.1) (t := dt_Mo_keep) (by decide +kernel) i h
def B_Mo_keep_50  (v0 : Nat) (s0 : p_Hp) : Option p_Hp :=
  p_gd (p_is s0 v0 11) <|
  p_bi (p_wZ s0 v0 85 1) fun s2 =>
  p_gd (p_is s2 (p_R s2 v0 82) 100) <|
  p_gd (0 ≤ (p_Z s2 v0 0) ∧ (p_Z s2 v0 0) < (p_L s2 (p_R s2 v0 82) : Int)) <|
  p_gd (p_is s2 (p_R s2 v0 81) 100) <|
  p_gd (0 ≤ (p_Z s2 v0 0) ∧ (p_Z s2 v0 0) < (p_L s2 (p_R s2 v0 81) : Int)) <|
  p_bv (F_Mo_goOver v0 (p_rem (p_w ((p_Z s2 (p_R s2 v0 82) ((p_Z s2 v0 0)).toNat) + (p_Z s2 (p_R s2 v0 81) ((p_Z s2 v0 0)).toNat))) 30) s2) fun s8 =>
  p_gd (p_is s8 (p_R s8 v0 81) 100) <|
  p_gd (0 ≤ (p_Z s8 v0 0) ∧ (p_Z s8 v0 0) < (p_L s8 (p_R s8 v0 81) : Int)) <|
  p_gd (0 ≤ (p_Z s8 v0 0) ∧ (p_Z s8 v0 0) < (p_L s8 (p_R s8 v0 81) : Int)) <|
  p_bi (p_wZ s8 (p_R s8 v0 81) ((p_Z s8 v0 0)).toNat (p_w ((p_Z s8 (p_R s8 v0 81) ((p_Z s8 v0 0)).toNat) + 1))) fun s15 =>
  some s15
def F_Mo_keep (v0 : Nat) (s0 : p_Hp) : Option p_Hp :=
  p_gd (p_is s0 v0 11) <|
  p_gd (p_is s0 (p_R s0 v0 81) 100) <|
  p_gd (0 ≤ (p_Z s0 v0 0) ∧ (p_Z s0 v0 0) < (p_L s0 (p_R s0 v0 81) : Int)) <|
  if (p_Z s0 (p_R s0 v0 81) ((p_Z s0 v0 0)).toNat) ≠ 30 then
    B_Mo_keep_50 v0 s0
  else
    p_gd (p_is s0 (p_R s0 v0 82) 100) <|
    p_gd (0 ≤ (p_Z s0 v0 0) ∧ (p_Z s0 v0 0) < (p_L s0 (p_R s0 v0 82) : Int)) <|
    p_gd (0 ≤ (p_Z s0 v0 0) ∧ (p_Z s0 v0 0) < (p_L s0 (p_R s0 v0 82) : Int)) <|
    p_bi (p_wZ s0 (p_R s0 v0 82) ((p_Z s0 v0 0)).toNat (p_rem (p_w ((p_Z s0 (p_R s0 v0 82) ((p_Z s0 v0 0)).toNat) + 1)) 30)) fun s8 =>
    p_gd (p_is s8 (p_R s8 v0 81) 100) <|
    p_gd (0 ≤ (p_Z s8 v0 0) ∧ (p_Z s8 v0 0) < (p_L s8 (p_R s8 v0 81) : Int)) <|
    p_gd (0 ≤ (p_Z s8 v0 0) ∧ (p_Z s8 v0 0) < (p_L s8 (p_R s8 v0 81) : Int)) <|
    p_bi (p_wZ s8 (p_R s8 v0 81) ((p_Z s8 v0 0)).toNat (p_w ((p_Z s8 (p_R s8 v0 81) ((p_Z s8 v0 0)).toNat) - 1))) fun s13 =>
    B_Mo_keep_50 v0 s13
set_option maxRecDepth 100000 in
set_option maxHeartbeats 4000000 in
theorem tB_Mo_keep_50 (K : p_K) (l : Launch)  (v0 : Nat) (s0 : p_Hp) (r : p_Hp) (h : B_Mo_keep_50 v0 s0 = some r) : p_Go K l m_Mo_keep 50 [(0, p_r v0)] [] s0 (none, r) := by
  unfold B_Mo_keep_50 at h
  refine g_aload_n (i := 0) (j := 0) (dk_Mo_keep 30 rfl) rfl rfl ?_
  refine g_iconst (dk_Mo_keep 31 rfl) (by decide) ?_
  obtain ⟨c1, h⟩ := p_gdE h
  refine g_putB fl_Mo_496 (Or.inl rfl) (dk_Mo_keep 32 rfl) c1 (Or.inr rfl) ?_
  refine p_ltS (P := fun q => p_Go K l m_Mo_keep 55 [(0, p_r v0)] [] q _) (p_xZ _ _ _ _) ?_ h
  intro s2 hs3 h
  refine g_aload_n (i := 0) (j := 0) (dk_Mo_keep 33 rfl) rfl rfl ?_
  refine g_aload_n (i := 0) (j := 0) (dk_Mo_keep 34 rfl) rfl rfl ?_
  refine g_getR fl_Mo_210 (Or.inr ⟨_, rfl⟩) (dk_Mo_keep 35 rfl) (c1.up hs3) ?_
  refine g_aload_n (i := 0) (j := 0) (dk_Mo_keep 36 rfl) rfl rfl ?_
  refine g_getI fl_Mo_227 (Or.inl rfl) (dk_Mo_keep 37 rfl) (c1.up hs3) ?_
  obtain ⟨c4, h⟩ := p_gdE h
  obtain ⟨c5, h⟩ := p_gdE h
  refine g_iaload (dk_Mo_keep 38 rfl) c4 c5.1 c5.2 ?_
  refine g_aload_n (i := 0) (j := 0) (dk_Mo_keep 39 rfl) rfl rfl ?_
  refine g_getR fl_Mo_207 (Or.inr ⟨_, rfl⟩) (dk_Mo_keep 40 rfl) (c1.up hs3) ?_
  refine g_aload_n (i := 0) (j := 0) (dk_Mo_keep 41 rfl) rfl rfl ?_
  refine g_getI fl_Mo_227 (Or.inl rfl) (dk_Mo_keep 42 rfl) (c1.up hs3) ?_
  obtain ⟨c6, h⟩ := p_gdE h
  obtain ⟨c7, h⟩ := p_gdE h
  refine g_iaload (dk_Mo_keep 43 rfl) c6 c7.1 c7.2 ?_
  refine g_iadd (dk_Mo_keep 44 rfl) ?_
  refine g_bipush (dk_Mo_keep 45 rfl) rfl (by decide) ?_
  refine g_irem (dk_Mo_keep 46 rfl) (by decide) ?_
  obtain ⟨s8, q9, h⟩ := p_bvE h
  have t10 := tF_Mo_goOver K l v0 (p_rem (p_w ((p_Z s2 (p_R s2 v0 82) ((p_Z s2 v0 0)).toNat) + (p_Z s2 (p_R s2 v0 81) ((p_Z s2 v0 0)).toNat))) 30) s2 _ q9
  refine g_callV (a := v0) (ci := 11) (q0 := (RX11, TX11, 90)) (As := [p_i (p_rem (p_w ((p_Z s2 (p_R s2 v0 82) ((p_Z s2 v0 0)).toNat) + (p_Z s2 (p_R s2 v0 81) ((p_Z s2 v0 0)).toNat))) 30)]) (rest := []) [] mt_Mo_goOver rfl rfl tw_8_40 ts_70 tw_8_38 ⟨Nat.le_of_ble_eq_true rfl, Nat.le_of_ble_eq_true rfl⟩ rfl (Nat.le_of_ble_eq_true rfl) (dk_Mo_keep 47 rfl) rfl (c1.up hs3) rfl t10 ?_
  have hs11 : p_x s2 s8 := t10.1
  show p_Go K l m_Mo_keep 81 [(0, p_r v0)] [] s8 _
  refine g_aload_n (i := 0) (j := 0) (dk_Mo_keep 48 rfl) rfl rfl ?_
  refine g_getR fl_Mo_207 (Or.inr ⟨_, rfl⟩) (dk_Mo_keep 49 rfl) (c1.up (hs3.trans hs11)) ?_
  refine g_aload_n (i := 0) (j := 0) (dk_Mo_keep 50 rfl) rfl rfl ?_
  refine g_getI fl_Mo_227 (Or.inl rfl) (dk_Mo_keep 51 rfl) (c1.up (hs3.trans hs11)) ?_
  refine g_dup2 (dk_Mo_keep 52 rfl) rfl rfl ?_
  obtain ⟨c12, h⟩ := p_gdE h
  obtain ⟨c13, h⟩ := p_gdE h
  refine g_iaload (dk_Mo_keep 53 rfl) c12 c13.1 c13.2 ?_
  refine g_iconst (dk_Mo_keep 54 rfl) (by decide) ?_
  refine g_iadd (dk_Mo_keep 55 rfl) ?_
  obtain ⟨c14, h⟩ := p_gdE h
  refine g_iastore (dk_Mo_keep 56 rfl) c12 c14.1 c14.2 ?_
  refine p_ltS (P := fun q => p_Go K l m_Mo_keep 94 [(0, p_r v0)] [] q _) (p_xZ _ _ _ _) ?_ h
  intro s15 hs16 h
  cases h
  exact g_ret rfl rfl (dk_Mo_keep 57 rfl) (fun _ => rfl)
set_option maxRecDepth 100000 in
set_option maxHeartbeats 4000000 in
theorem tF_Mo_keep (K : p_K) (l : Launch) (v0 : Nat) (s0 : p_Hp) (r : p_Hp) (h : F_Mo_keep v0 s0 = some r) : p_Ct K l m_Mo_keep [p_r v0] s0 (none, r) := by
  refine p_Ct.of (by decide) (Nat.le_of_ble_eq_true rfl) ?_
  unfold F_Mo_keep at h
  show p_Go K l m_Mo_keep 0 [(0, p_r v0)] [] s0 _
  refine g_aload_n (i := 0) (j := 0) (dk_Mo_keep 0 rfl) rfl rfl ?_
  obtain ⟨c1, h⟩ := p_gdE h
  refine g_getR fl_Mo_207 (Or.inr ⟨_, rfl⟩) (dk_Mo_keep 1 rfl) c1 ?_
  refine g_aload_n (i := 0) (j := 0) (dk_Mo_keep 2 rfl) rfl rfl ?_
  refine g_getI fl_Mo_227 (Or.inl rfl) (dk_Mo_keep 3 rfl) c1 ?_
  obtain ⟨c2, h⟩ := p_gdE h
  obtain ⟨c3, h⟩ := p_gdE h
  refine g_iaload (dk_Mo_keep 4 rfl) c2 c3.1 c3.2 ?_
  refine g_bipush (dk_Mo_keep 5 rfl) rfl (by decide) ?_
  refine g_icmp_ne 50 (dk_Mo_keep 6 rfl) (by decide) (fun b4 => ?_) (fun b4 => ?_)
  · have h := p_ifT b4 h
    exact tB_Mo_keep_50 K l v0 s0 _ h
  · have h := p_ifF b4 h
    refine g_aload_n (i := 0) (j := 0) (dk_Mo_keep 7 rfl) rfl rfl ?_
    refine g_getR fl_Mo_210 (Or.inr ⟨_, rfl⟩) (dk_Mo_keep 8 rfl) c1 ?_
    refine g_aload_n (i := 0) (j := 0) (dk_Mo_keep 9 rfl) rfl rfl ?_
    refine g_getI fl_Mo_227 (Or.inl rfl) (dk_Mo_keep 10 rfl) c1 ?_
    refine g_aload_n (i := 0) (j := 0) (dk_Mo_keep 11 rfl) rfl rfl ?_
    refine g_getR fl_Mo_210 (Or.inr ⟨_, rfl⟩) (dk_Mo_keep 12 rfl) c1 ?_
    refine g_aload_n (i := 0) (j := 0) (dk_Mo_keep 13 rfl) rfl rfl ?_
    refine g_getI fl_Mo_227 (Or.inl rfl) (dk_Mo_keep 14 rfl) c1 ?_
    obtain ⟨c5, h⟩ := p_gdE h
    obtain ⟨c6, h⟩ := p_gdE h
    refine g_iaload (dk_Mo_keep 15 rfl) c5 c6.1 c6.2 ?_
    refine g_iconst (dk_Mo_keep 16 rfl) (by decide) ?_
    refine g_iadd (dk_Mo_keep 17 rfl) ?_
    refine g_bipush (dk_Mo_keep 18 rfl) rfl (by decide) ?_
    refine g_irem (dk_Mo_keep 19 rfl) (by decide) ?_
    obtain ⟨c7, h⟩ := p_gdE h
    refine g_iastore (dk_Mo_keep 20 rfl) c5 c7.1 c7.2 ?_
    refine p_ltS (P := fun q => p_Go K l m_Mo_keep 37 [(0, p_r v0)] [] q _) (p_xZ _ _ _ _) ?_ h
    intro s8 hs9 h
    refine g_aload_n (i := 0) (j := 0) (dk_Mo_keep 21 rfl) rfl rfl ?_
    refine g_getR fl_Mo_207 (Or.inr ⟨_, rfl⟩) (dk_Mo_keep 22 rfl) (c1.up hs9) ?_
    refine g_aload_n (i := 0) (j := 0) (dk_Mo_keep 23 rfl) rfl rfl ?_
    refine g_getI fl_Mo_227 (Or.inl rfl) (dk_Mo_keep 24 rfl) (c1.up hs9) ?_
    refine g_dup2 (dk_Mo_keep 25 rfl) rfl rfl ?_
    obtain ⟨c10, h⟩ := p_gdE h
    obtain ⟨c11, h⟩ := p_gdE h
    refine g_iaload (dk_Mo_keep 26 rfl) c10 c11.1 c11.2 ?_
    refine g_iconst (dk_Mo_keep 27 rfl) (by decide) ?_
    refine g_isub (dk_Mo_keep 28 rfl) ?_
    obtain ⟨c12, h⟩ := p_gdE h
    refine g_iastore (dk_Mo_keep 29 rfl) c10 c12.1 c12.2 ?_
    refine p_ltS (P := fun q => p_Go K l m_Mo_keep 50 [(0, p_r v0)] [] q _) (p_xZ _ _ _ _) ?_ h
    intro s13 hs14 h
    exact tB_Mo_keep_50 K l v0 s13 _ h
def m_Mo_steps : p_Me := (⟨"SortWorksModel", "steps", "()V"⟩, prog_13_method_84_code, 2, none, 8, 195)
theorem mt_Mo_steps : p_Mt m_Mo_steps 0 := ⟨p_mem (p_tb8 (List.mem_of_getElem? (i := 33) rfl)) rfl, tw_1_12, by decide +kernel, by decide +kernel, by decide +kernel⟩
def dt_Mo_steps : List (Nat × Instr × Nat) := [(0, .aload_n 0, 1), (1, .invokevirtual 474, 3), (4, .aload_n 0, 1), (5, .getfield 13, 3), (8, .aload_n 0, 1), (9, .getfield 227, 3), (12, .dup2, 1), (13, .iaload, 1), (14, .iconst 1, 1), (15, .iadd, 1), (16, .iastore, 1), (17, .aload_n 0, 1), (18, .getfield 132, 3), (21, .aload_n 0, 1), (22, .getfield 227, 3), (25, .iconst 0, 1), (26, .iastore, 1), (27, .iconst 1, 1), (28, .istore_n 1, 1), (29, .iload_n 1, 1), (30, .aload_n 0, 1), (31, .getfield 334, 3), (34, .if_icmp .gt 29, 3), (37, .aload_n 0, 1), (38, .getfield 72, 3), (41, .iload_n 1, 1), (42, .iaload, 1), (43, .aload_n 0, 1), (44, .getfield 227, 3), (47, .if_icmp .ne 10, 3), (50, .aload_n 0, 1), (51, .getfield 108, 3), (54, .iload_n 1, 1), (55, .iconst 0, 1), (56, .bastore, 1), (57, .iinc 1 1, 3), (60, .goto (-31), 3), (63, .aload_n 0, 1), (64, .invokevirtual 477, 3), (67, .aload_n 0, 1), (68, .invokevirtual 480, 3), (71, .iconst 0, 1), (72, .istore_n 1, 1), (73, .iload_n 1, 1), (74, .aload_n 0, 1), (75, .getfield 7, 3), (78, .aload_n 0, 1), (79, .getfield 227, 3), (82, .iaload, 1), (83, .if_icmp .ge 26, 3), (86, .aload_n 0, 1), (87, .aload_n 0, 1), (88, .iload_n 1, 1), (89, .invokevirtual 257, 3), (92, .invokevirtual 404, 3), (95, .ifCond .eq 8, 3), (98, .aload_n 0, 1), (99, .iload_n 1, 1), (100, .invokevirtual 483, 3), (103, .iinc 1 1, 3), (106, .goto (-33), 3), (109, .return_, 1)]
theorem dk_Mo_steps (i : Nat) {pc : Nat} {ins : Instr} {len : Nat} (h : dt_Mo_steps[i]? = some (pc, ins, len)) : decode m_Mo_steps.2.1 pc = .ok (ins, len) := p_dk (b := m_Mo_steps.2.1) (t := dt_Mo_steps) (by decide +kernel) i h
def B_Mo_steps_57 (k29 : Nat → Int → p_Hp → Option p_Hp) (v0 : Nat) (v1 : Int) (s0 : p_Hp) : Option p_Hp :=
  p_bi (p_w (v1 + 1)) fun x1 =>
  k29 v0 x1 s0
def B_Mo_steps_103 (k73 : Nat → Int → p_Hp → Option p_Hp) (v0 : Nat) (v1 : Int) (s0 : p_Hp) : Option p_Hp :=
  p_bi (p_w (v1 + 1)) fun x1 =>
  k73 v0 x1 s0
def L_Mo_steps_73 (k73 : Nat → Int → p_Hp → Option p_Hp) (v0 : Nat) (v1 : Int) (s0 : p_Hp) : Option p_Hp :=
  p_gd (p_is s0 v0 11) <|
  p_gd (p_is s0 (p_R s0 v0 3) 100) <|
  p_gd (0 ≤ (p_Z s0 v0 0) ∧ (p_Z s0 v0 0) < (p_L s0 (p_R s0 v0 3) : Int)) <|
  if (p_Z s0 (p_R s0 v0 3) ((p_Z s0 v0 0)).toNat) ≤ v1 then
    some s0
  else
    p_bd (F_Mo_g v0 v1 s0) fun r9 s5 =>
    p_bd (F_Mo_isActing v0 r9 s5) fun r14 s10 =>
    if r14 = 0 then
      B_Mo_steps_103 k73 v0 v1 s10
    else
      p_bv (F_Mo_act v0 v1 s10) fun s16 =>
      B_Mo_steps_103 k73 v0 v1 s16
def O_Mo_steps_73  : Nat → Nat → Int → p_Hp → Option p_Hp
  | 0 => fun _ _ _ => none
  | n + 1 => L_Mo_steps_73 (O_Mo_steps_73 n)
def L_Mo_steps_29 (k29 : Nat → Int → p_Hp → Option p_Hp) (v0 : Nat) (v1 : Int) (s0 : p_Hp) : Option p_Hp :=
  p_gd (p_is s0 v0 11) <|
  if (p_Z s0 v0 23) < v1 then
    p_bv (F_Mo_doPlans v0 s0) fun s3 =>
    p_bv (F_Mo_choose v0 s3) fun s7 =>
    O_Mo_steps_73 3000 v0 0 s7
  else
    p_gd (p_is s0 (p_R s0 v0 24) 100) <|
    p_gd (0 ≤ v1 ∧ v1 < (p_L s0 (p_R s0 v0 24) : Int)) <|
    if (p_Z s0 (p_R s0 v0 24) (v1).toNat) ≠ (p_Z s0 v0 0) then
      B_Mo_steps_57 k29 v0 v1 s0
    else
      p_gd (p_is s0 (p_R s0 v0 36) 102) <|
      p_gd (0 ≤ v1 ∧ v1 < (p_L s0 (p_R s0 v0 36) : Int)) <|
      p_bi (p_wZ s0 (p_R s0 v0 36) (v1).toNat 0) fun s16 =>
      B_Mo_steps_57 k29 v0 v1 s16
def O_Mo_steps_29  : Nat → Nat → Int → p_Hp → Option p_Hp
  | 0 => fun _ _ _ => none
  | n + 1 => L_Mo_steps_29 (O_Mo_steps_29 n)
def F_Mo_steps (v0 : Nat) (s0 : p_Hp) : Option p_Hp :=
  p_gd (p_is s0 v0 11) <|
  p_bv (F_Mo_keep v0 s0) fun s2 =>
  p_gd (p_is s2 (p_R s2 v0 4) 100) <|
  p_gd (0 ≤ (p_Z s2 v0 0) ∧ (p_Z s2 v0 0) < (p_L s2 (p_R s2 v0 4) : Int)) <|
  p_gd (0 ≤ (p_Z s2 v0 0) ∧ (p_Z s2 v0 0) < (p_L s2 (p_R s2 v0 4) : Int)) <|
  p_bi (p_wZ s2 (p_R s2 v0 4) ((p_Z s2 v0 0)).toNat (p_w ((p_Z s2 (p_R s2 v0 4) ((p_Z s2 v0 0)).toNat) + 1))) fun s9 =>
  p_gd (p_is s9 (p_R s9 v0 44) 100) <|
  p_gd (0 ≤ (p_Z s9 v0 0) ∧ (p_Z s9 v0 0) < (p_L s9 (p_R s9 v0 44) : Int)) <|
  p_bi (p_wZ s9 (p_R s9 v0 44) ((p_Z s9 v0 0)).toNat 0) fun s13 =>
  O_Mo_steps_29 3000 v0 1 s13
set_option maxRecDepth 100000 in
set_option maxHeartbeats 4000000 in
theorem tB_Mo_steps_57 (K : p_K) (l : Launch) (k29 : Nat → Int → p_Hp → Option p_Hp) (hk29 : ∀ (v0 : Nat) (v1 : Int)  (s0 : p_Hp) (r : p_Hp), k29 v0 v1 s0 = some r → p_Go K l m_Mo_steps 29 [(0, p_r v0), (1, p_i v1)] [] s0 (none, r)) (v0 : Nat) (v1 : Int) (s0 : p_Hp) (r : p_Hp) (h : B_Mo_steps_57 k29 v0 v1 s0 = some r) : p_Go K l m_Mo_steps 57 [(0, p_r v0), (1, p_i v1)] [] s0 (none, r) := by
  unfold B_Mo_steps_57 at h
  refine g_iinc (j := 1) [(1, p_i (p_w (v1 + 1))), (0, p_r v0)] (dk_Mo_steps 35 rfl) rfl (by decide) rfl ?_
  refine p_ltG (P := fun q => p_Go K l m_Mo_steps 60 [(1, p_i q), (0, p_r v0)] [] s0 _) ?_ h
  intro x1 h
  refine g_goto 29 (dk_Mo_steps 36 rfl) (by decide) ?_
  refine g_sub [(0, p_r v0), (1, p_i x1)] [1, 0] rfl ?_
  exact hk29 v0 x1 s0 _ h
set_option maxRecDepth 100000 in
set_option maxHeartbeats 4000000 in
theorem tB_Mo_steps_103 (K : p_K) (l : Launch) (k73 : Nat → Int → p_Hp → Option p_Hp) (hk73 : ∀ (v0 : Nat) (v1 : Int)  (s0 : p_Hp) (r : p_Hp), k73 v0 v1 s0 = some r → p_Go K l m_Mo_steps 73 [(0, p_r v0), (1, p_i v1)] [] s0 (none, r)) (v0 : Nat) (v1 : Int) (s0 : p_Hp) (r : p_Hp) (h : B_Mo_steps_103 k73 v0 v1 s0 = some r) : p_Go K l m_Mo_steps 103 [(0, p_r v0), (1, p_i v1)] [] s0 (none, r) := by
  unfold B_Mo_steps_103 at h
  refine g_iinc (j := 1) [(1, p_i (p_w (v1 + 1))), (0, p_r v0)] (dk_Mo_steps 59 rfl) rfl (by decide) rfl ?_
  refine p_ltG (P := fun q => p_Go K l m_Mo_steps 106 [(1, p_i q), (0, p_r v0)] [] s0 _) ?_ h
  intro x1 h
  refine g_goto 73 (dk_Mo_steps 60 rfl) (by decide) ?_
  refine g_sub [(0, p_r v0), (1, p_i x1)] [1, 0] rfl ?_
  exact hk73 v0 x1 s0 _ h
set_option maxRecDepth 100000 in
set_option maxHeartbeats 4000000 in
theorem tL_Mo_steps_73 (K : p_K) (l : Launch) (k73 : Nat → Int → p_Hp → Option p_Hp) (hk73 : ∀ (v0 : Nat) (v1 : Int)  (s0 : p_Hp) (r : p_Hp), k73 v0 v1 s0 = some r → p_Go K l m_Mo_steps 73 [(0, p_r v0), (1, p_i v1)] [] s0 (none, r)) (v0 : Nat) (v1 : Int) (s0 : p_Hp) (r : p_Hp) (h : L_Mo_steps_73 k73 v0 v1 s0 = some r) : p_Go K l m_Mo_steps 73 [(0, p_r v0), (1, p_i v1)] [] s0 (none, r) := by
  unfold L_Mo_steps_73 at h
  refine g_iload_n (i := 1) (j := 1) (dk_Mo_steps 43 rfl) rfl rfl ?_
  refine g_aload_n (i := 0) (j := 0) (dk_Mo_steps 44 rfl) rfl rfl ?_
  obtain ⟨c1, h⟩ := p_gdE h
  refine g_getR fl_Mo_7 (Or.inr ⟨_, rfl⟩) (dk_Mo_steps 45 rfl) c1 ?_
  refine g_aload_n (i := 0) (j := 0) (dk_Mo_steps 46 rfl) rfl rfl ?_
  refine g_getI fl_Mo_227 (Or.inl rfl) (dk_Mo_steps 47 rfl) c1 ?_
  obtain ⟨c2, h⟩ := p_gdE h
  obtain ⟨c3, h⟩ := p_gdE h
  refine g_iaload (dk_Mo_steps 48 rfl) c2 c3.1 c3.2 ?_
  refine g_icmp_ge 109 (dk_Mo_steps 49 rfl) (by decide) (fun b4 => ?_) (fun b4 => ?_)
  · have h := p_ifT b4 h
    cases h
    exact g_ret rfl rfl (dk_Mo_steps 61 rfl) (fun _ => rfl)
  · have h := p_ifF b4 h
    refine g_aload_n (i := 0) (j := 0) (dk_Mo_steps 50 rfl) rfl rfl ?_
    refine g_aload_n (i := 0) (j := 0) (dk_Mo_steps 51 rfl) rfl rfl ?_
    refine g_iload_n (i := 1) (j := 1) (dk_Mo_steps 52 rfl) rfl rfl ?_
    obtain ⟨r9, s5, q6, h⟩ := p_bdE h
    have t7 := tF_Mo_g K l v0 v1 s0 _ q6
    refine g_callV (a := v0) (ci := 11) (q0 := (RX11, TX11, 90)) (As := [p_i v1]) (rest := [p_r v0]) [p_i r9, p_r v0] mt_Mo_g rfl rfl tw_7_63 ts_45 tw_7_61 ⟨Nat.le_of_ble_eq_true rfl, Nat.le_of_ble_eq_true rfl⟩ rfl (Nat.le_of_ble_eq_true rfl) (dk_Mo_steps 53 rfl) rfl c1 rfl t7 ?_
    have hs8 : p_x s0 s5 := t7.1
    show p_Go K l m_Mo_steps 92 [(0, p_r v0), (1, p_i v1)] [p_i r9, p_r v0] s5 _
    obtain ⟨r14, s10, q11, h⟩ := p_bdE h
    have t12 := tF_Mo_isActing K l v0 r9 s5 _ q11
    refine g_callV (a := v0) (ci := 11) (q0 := (RX11, TX11, 90)) (As := [p_i r9]) (rest := []) [p_i r14] mt_Mo_isActing rfl rfl tw_8_76 ts_79 tw_8_74 ⟨Nat.le_of_ble_eq_true rfl, Nat.le_of_ble_eq_true rfl⟩ rfl (Nat.le_of_ble_eq_true rfl) (dk_Mo_steps 54 rfl) rfl (c1.up hs8) rfl t12 ?_
    have hs13 : p_x s5 s10 := t12.1
    show p_Go K l m_Mo_steps 95 [(0, p_r v0), (1, p_i v1)] [p_i r14] s10 _
    refine g_if_eq 103 (dk_Mo_steps 55 rfl) (by decide) (fun b15 => ?_) (fun b15 => ?_)
    · have h := p_ifT b15 h
      exact tB_Mo_steps_103 K l k73 hk73 v0 v1 s10 _ h
    · have h := p_ifF b15 h
      refine g_aload_n (i := 0) (j := 0) (dk_Mo_steps 56 rfl) rfl rfl ?_
      refine g_iload_n (i := 1) (j := 1) (dk_Mo_steps 57 rfl) rfl rfl ?_
      obtain ⟨s16, q17, h⟩ := p_bvE h
      have t18 := tF_Mo_act K l v0 v1 s10 _ q17
      refine g_callV (a := v0) (ci := 11) (q0 := (RX11, TX11, 90)) (As := [p_i v1]) (rest := []) [] mt_Mo_act rfl rfl tw_8_95 ts_83 tw_8_93 ⟨Nat.le_of_ble_eq_true rfl, Nat.le_of_ble_eq_true rfl⟩ rfl (Nat.le_of_ble_eq_true rfl) (dk_Mo_steps 58 rfl) rfl (c1.up (hs8.trans hs13)) rfl t18 ?_
      have hs19 : p_x s10 s16 := t18.1
      show p_Go K l m_Mo_steps 103 [(0, p_r v0), (1, p_i v1)] [] s16 _
      exact tB_Mo_steps_103 K l k73 hk73 v0 v1 s16 _ h
set_option maxRecDepth 100000 in
set_option maxHeartbeats 4000000 in
theorem tO_Mo_steps_73 (K : p_K) (l : Launch)  : ∀ (n : Nat) (v0 : Nat) (v1 : Int) (s0 : p_Hp) (r : p_Hp), O_Mo_steps_73 n v0 v1 s0 = some r → p_Go K l m_Mo_steps 73 [(0, p_r v0), (1, p_i v1)] [] s0 (none, r) := by
  intro n
  induction n with
  | zero => intro v0 v1 s0 r h; cases (show (none : Option p_Hp) = some r from h)
  | succ n ih => intro v0 v1 s0 r h; exact tL_Mo_steps_73 K l _ ih v0 v1 s0 r h
set_option maxRecDepth 100000 in
set_option maxHeartbeats 4000000 in
theorem tL_Mo_steps_29 (K : p_K) (l : Launch) (k29 : Nat → Int → p_Hp → Option p_Hp) (hk29 : ∀ (v0 : Nat) (v1 : Int)  (s0 : p_Hp) (r : p_Hp), k29 v0 v1 s0 = some r → p_Go K l m_Mo_steps 29 [(0, p_r v0), (1, p_i v1)] [] s0 (none, r)) (v0 : Nat) (v1 : Int) (s0 : p_Hp) (r : p_Hp) (h : L_Mo_steps_29 k29 v0 v1 s0 = some r) : p_Go K l m_Mo_steps 29 [(0, p_r v0), (1, p_i v1)] [] s0 (none, r) := by
  unfold L_Mo_steps_29 at h
  refine g_iload_n (i := 1) (j := 1) (dk_Mo_steps 19 rfl) rfl rfl ?_
  refine g_aload_n (i := 0) (j := 0) (dk_Mo_steps 20 rfl) rfl rfl ?_
  obtain ⟨c1, h⟩ := p_gdE h
  refine g_getI fl_Mo_334 (Or.inl rfl) (dk_Mo_steps 21 rfl) c1 ?_
  refine g_icmp_gt 63 (dk_Mo_steps 22 rfl) (by decide) (fun b2 => ?_) (fun b2 => ?_)
  · have h := p_ifT b2 h
    refine g_aload_n (i := 0) (j := 0) (dk_Mo_steps 37 rfl) rfl rfl ?_
    obtain ⟨s3, q4, h⟩ := p_bvE h
    have t5 := tF_Mo_doPlans K l v0 s0 _ q4
    refine g_callV (a := v0) (ci := 11) (q0 := (RX11, TX11, 90)) (As := []) (rest := []) [] mt_Mo_doPlans rfl rfl tw_8_56 ts_74 tw_8_54 ⟨Nat.le_of_ble_eq_true rfl, Nat.le_of_ble_eq_true rfl⟩ rfl (Nat.le_of_ble_eq_true rfl) (dk_Mo_steps 38 rfl) rfl c1 rfl t5 ?_
    have hs6 : p_x s0 s3 := t5.1
    show p_Go K l m_Mo_steps 67 [(0, p_r v0), (1, p_i v1)] [] s3 _
    refine g_aload_n (i := 0) (j := 0) (dk_Mo_steps 39 rfl) rfl rfl ?_
    obtain ⟨s7, q8, h⟩ := p_bvE h
    have t9 := tF_Mo_choose K l v0 s3 _ q8
    refine g_callV (a := v0) (ci := 11) (q0 := (RX11, TX11, 90)) (As := []) (rest := []) [] mt_Mo_choose rfl rfl tw_8_68 ts_77 tw_8_66 ⟨Nat.le_of_ble_eq_true rfl, Nat.le_of_ble_eq_true rfl⟩ rfl (Nat.le_of_ble_eq_true rfl) (dk_Mo_steps 40 rfl) rfl (c1.up hs6) rfl t9 ?_
    have hs10 : p_x s3 s7 := t9.1
    show p_Go K l m_Mo_steps 71 [(0, p_r v0), (1, p_i v1)] [] s7 _
    refine g_iconst (dk_Mo_steps 41 rfl) (by decide) ?_
    refine g_istore_n (i := 1) [(1, p_i 0), (0, p_r v0)] (dk_Mo_steps 42 rfl) rfl (by decide) rfl ?_
    refine g_sub [(0, p_r v0), (1, p_i 0)] [1, 0] rfl ?_
    exact tO_Mo_steps_73 K l 3000 v0 0 s7 _ h
  · have h := p_ifF b2 h
    refine g_aload_n (i := 0) (j := 0) (dk_Mo_steps 23 rfl) rfl rfl ?_
    refine g_getR fl_Mo_72 (Or.inr ⟨_, rfl⟩) (dk_Mo_steps 24 rfl) c1 ?_
    refine g_iload_n (i := 1) (j := 1) (dk_Mo_steps 25 rfl) rfl rfl ?_
    obtain ⟨c11, h⟩ := p_gdE h
    obtain ⟨c12, h⟩ := p_gdE h
    refine g_iaload (dk_Mo_steps 26 rfl) c11 c12.1 c12.2 ?_
    refine g_aload_n (i := 0) (j := 0) (dk_Mo_steps 27 rfl) rfl rfl ?_
    refine g_getI fl_Mo_227 (Or.inl rfl) (dk_Mo_steps 28 rfl) c1 ?_
    refine g_icmp_ne 57 (dk_Mo_steps 29 rfl) (by decide) (fun b13 => ?_) (fun b13 => ?_)
    · have h := p_ifT b13 h
      exact tB_Mo_steps_57 K l k29 hk29 v0 v1 s0 _ h
    · have h := p_ifF b13 h
      refine g_aload_n (i := 0) (j := 0) (dk_Mo_steps 30 rfl) rfl rfl ?_
      refine g_getR fl_Mo_108 (Or.inr ⟨_, rfl⟩) (dk_Mo_steps 31 rfl) c1 ?_
      refine g_iload_n (i := 1) (j := 1) (dk_Mo_steps 32 rfl) rfl rfl ?_
      refine g_iconst (dk_Mo_steps 33 rfl) (by decide) ?_
      obtain ⟨c14, h⟩ := p_gdE h
      obtain ⟨c15, h⟩ := p_gdE h
      refine g_bastore (dk_Mo_steps 34 rfl) c14 c15.1 c15.2 (Or.inl rfl) ?_
      refine p_ltS (P := fun q => p_Go K l m_Mo_steps 57 [(0, p_r v0), (1, p_i v1)] [] q _) (p_xZ _ _ _ _) ?_ h
      intro s16 hs17 h
      exact tB_Mo_steps_57 K l k29 hk29 v0 v1 s16 _ h
set_option maxRecDepth 100000 in
set_option maxHeartbeats 4000000 in
theorem tO_Mo_steps_29 (K : p_K) (l : Launch)  : ∀ (n : Nat) (v0 : Nat) (v1 : Int) (s0 : p_Hp) (r : p_Hp), O_Mo_steps_29 n v0 v1 s0 = some r → p_Go K l m_Mo_steps 29 [(0, p_r v0), (1, p_i v1)] [] s0 (none, r) := by
  intro n
  induction n with
  | zero => intro v0 v1 s0 r h; cases (show (none : Option p_Hp) = some r from h)
  | succ n ih => intro v0 v1 s0 r h; exact tL_Mo_steps_29 K l _ ih v0 v1 s0 r h
set_option maxRecDepth 100000 in
set_option maxHeartbeats 4000000 in
theorem tF_Mo_steps (K : p_K) (l : Launch) (v0 : Nat) (s0 : p_Hp) (r : p_Hp) (h : F_Mo_steps v0 s0 = some r) : p_Ct K l m_Mo_steps [p_r v0] s0 (none, r) := by
  refine p_Ct.of (by decide) (Nat.le_of_ble_eq_true rfl) ?_
  unfold F_Mo_steps at h
  show p_Go K l m_Mo_steps 0 [(0, p_r v0)] [] s0 _
  refine g_aload_n (i := 0) (j := 0) (dk_Mo_steps 0 rfl) rfl rfl ?_
  obtain ⟨c1, h⟩ := p_gdE h
  obtain ⟨s2, q3, h⟩ := p_bvE h
  have t4 := tF_Mo_keep K l v0 s0 _ q3
  refine g_callV (a := v0) (ci := 11) (q0 := (RX11, TX11, 90)) (As := []) (rest := []) [] mt_Mo_keep rfl rfl tw_8_36 ts_69 tw_8_34 ⟨Nat.le_of_ble_eq_true rfl, Nat.le_of_ble_eq_true rfl⟩ rfl (Nat.le_of_ble_eq_true rfl) (dk_Mo_steps 1 rfl) rfl c1 rfl t4 ?_
  have hs5 : p_x s0 s2 := t4.1
  show p_Go K l m_Mo_steps 4 [(0, p_r v0)] [] s2 _
  refine g_aload_n (i := 0) (j := 0) (dk_Mo_steps 2 rfl) rfl rfl ?_
  refine g_getR fl_Mo_13 (Or.inr ⟨_, rfl⟩) (dk_Mo_steps 3 rfl) (c1.up hs5) ?_
  refine g_aload_n (i := 0) (j := 0) (dk_Mo_steps 4 rfl) rfl rfl ?_
  refine g_getI fl_Mo_227 (Or.inl rfl) (dk_Mo_steps 5 rfl) (c1.up hs5) ?_
  refine g_dup2 (dk_Mo_steps 6 rfl) rfl rfl ?_
  obtain ⟨c6, h⟩ := p_gdE h
  obtain ⟨c7, h⟩ := p_gdE h
  refine g_iaload (dk_Mo_steps 7 rfl) c6 c7.1 c7.2 ?_
  refine g_iconst (dk_Mo_steps 8 rfl) (by decide) ?_
  refine g_iadd (dk_Mo_steps 9 rfl) ?_
  obtain ⟨c8, h⟩ := p_gdE h
  refine g_iastore (dk_Mo_steps 10 rfl) c6 c8.1 c8.2 ?_
  refine p_ltS (P := fun q => p_Go K l m_Mo_steps 17 [(0, p_r v0)] [] q _) (p_xZ _ _ _ _) ?_ h
  intro s9 hs10 h
  refine g_aload_n (i := 0) (j := 0) (dk_Mo_steps 11 rfl) rfl rfl ?_
  refine g_getR fl_Mo_132 (Or.inr ⟨_, rfl⟩) (dk_Mo_steps 12 rfl) (c1.up (hs5.trans hs10)) ?_
  refine g_aload_n (i := 0) (j := 0) (dk_Mo_steps 13 rfl) rfl rfl ?_
  refine g_getI fl_Mo_227 (Or.inl rfl) (dk_Mo_steps 14 rfl) (c1.up (hs5.trans hs10)) ?_
  refine g_iconst (dk_Mo_steps 15 rfl) (by decide) ?_
  obtain ⟨c11, h⟩ := p_gdE h
  obtain ⟨c12, h⟩ := p_gdE h
  refine g_iastore (dk_Mo_steps 16 rfl) c11 c12.1 c12.2 ?_
  refine p_ltS (P := fun q => p_Go K l m_Mo_steps 27 [(0, p_r v0)] [] q _) (p_xZ _ _ _ _) ?_ h
  intro s13 hs14 h
  refine g_iconst (dk_Mo_steps 17 rfl) (by decide) ?_
  refine g_istore_n (i := 1) [(1, p_i 1), (0, p_r v0)] (dk_Mo_steps 18 rfl) rfl (by decide) rfl ?_
  refine g_sub [(0, p_r v0), (1, p_i 1)] [1, 0] rfl ?_
  exact tO_Mo_steps_29 K l 3000 v0 1 s13 _ h
def m_Mo_step : p_Me := (⟨"SortWorksModel", "step", "()I"⟩, prog_13_method_85_code, 1, (some .int), 9, 216)
theorem mt_Mo_step : p_Mt m_Mo_step 0 := ⟨p_mem (p_tb8 (List.mem_of_getElem? (i := 25) rfl)) rfl, tw_1_12, by decide +kernel, by decide +kernel, by decide +kernel⟩
def dt_Mo_step : List (Nat × Instr × Nat) := [(0, .aload_n 0, 1), (1, .invokevirtual 486, 3), (4, .ifCond .eq 10, 3), (7, .aload_n 0, 1), (8, .bipush (-4), 2), (10, .invokevirtual 240, 3), (13, .ireturn, 1), (14, .aload_n 0, 1), (15, .invokevirtual 489, 3), (18, .aload_n 0, 1), (19, .aload_n 0, 1), (20, .getfield 13, 3), (23, .aload_n 0, 1), (24, .getfield 227, 3), (27, .iaload, 1), (28, .invokevirtual 244, 3), (31, .ireturn, 1)]
theorem dk_Mo_step (i : Nat) {pc : Nat} {ins : Instr} {len : Nat} (h : dt_Mo_step[i]? = some (pc, ins, len)) : decode m_Mo_step.2.1 pc = .ok (ins, len) := p_dk (b := m_Mo_step.2.1) (t := dt_Mo_step) (by decide +kernel) i h
def F_Mo_step (v0 : Nat) (s0 : p_Hp) : Option (Int × p_Hp) :=
  p_gd (p_is s0 v0 11) <|
  p_bd (F_Mo_isFull v0 s0) fun r6 s2 =>
  if r6 = 0 then
    p_bv (F_Mo_steps v0 s2) fun s8 =>
    p_gd (p_is s8 (p_R s8 v0 4) 100) <|
    p_gd (0 ≤ (p_Z s8 v0 0) ∧ (p_Z s8 v0 0) < (p_L s8 (p_R s8 v0 4) : Int)) <|
    p_bd (F_Mo_well v0 (p_Z s8 (p_R s8 v0 4) ((p_Z s8 v0 0)).toNat) s8) fun r18 s14 =>
    some (r18, s14)
  else
    p_bd (F_Mo_refused v0 (-4) s2) fun r23 s19 =>
    some (r23, s19)
set_option maxRecDepth 100000 in
set_option maxHeartbeats 4000000 in
theorem tF_Mo_step (K : p_K) (l : Launch) (v0 : Nat) (s0 : p_Hp) (r : (Int × p_Hp)) (h : F_Mo_step v0 s0 = some r) : p_Ct K l m_Mo_step [p_r v0] s0 (some (p_i r.1), r.2) := by
  refine p_Ct.of (by decide) (Nat.le_of_ble_eq_true rfl) ?_
  unfold F_Mo_step at h
  show p_Go K l m_Mo_step 0 [(0, p_r v0)] [] s0 _
  refine g_aload_n (i := 0) (j := 0) (dk_Mo_step 0 rfl) rfl rfl ?_
  obtain ⟨c1, h⟩ := p_gdE h
  obtain ⟨r6, s2, q3, h⟩ := p_bdE h
  have t4 := tF_Mo_isFull K l v0 s0 _ q3
  refine g_callV (a := v0) (ci := 11) (q0 := (RX11, TX11, 90)) (As := []) (rest := []) [p_i r6] mt_Mo_isFull rfl rfl tw_8_28 ts_67 tw_8_26 ⟨Nat.le_of_ble_eq_true rfl, Nat.le_of_ble_eq_true rfl⟩ rfl (Nat.le_of_ble_eq_true rfl) (dk_Mo_step 1 rfl) rfl c1 rfl t4 ?_
  have hs5 : p_x s0 s2 := t4.1
  show p_Go K l m_Mo_step 4 [(0, p_r v0)] [p_i r6] s2 _
  refine g_if_eq 14 (dk_Mo_step 2 rfl) (by decide) (fun b7 => ?_) (fun b7 => ?_)
  · have h := p_ifT b7 h
    refine g_aload_n (i := 0) (j := 0) (dk_Mo_step 7 rfl) rfl rfl ?_
    obtain ⟨s8, q9, h⟩ := p_bvE h
    have t10 := tF_Mo_steps K l v0 s2 _ q9
    refine g_callV (a := v0) (ci := 11) (q0 := (RX11, TX11, 90)) (As := []) (rest := []) [] mt_Mo_steps rfl rfl tw_8_32 ts_68 tw_8_30 ⟨Nat.le_of_ble_eq_true rfl, Nat.le_of_ble_eq_true rfl⟩ rfl (Nat.le_of_ble_eq_true rfl) (dk_Mo_step 8 rfl) rfl (c1.up hs5) rfl t10 ?_
    have hs11 : p_x s2 s8 := t10.1
    show p_Go K l m_Mo_step 18 [(0, p_r v0)] [] s8 _
    refine g_aload_n (i := 0) (j := 0) (dk_Mo_step 9 rfl) rfl rfl ?_
    refine g_aload_n (i := 0) (j := 0) (dk_Mo_step 10 rfl) rfl rfl ?_
    refine g_getR fl_Mo_13 (Or.inr ⟨_, rfl⟩) (dk_Mo_step 11 rfl) (c1.up (hs5.trans hs11)) ?_
    refine g_aload_n (i := 0) (j := 0) (dk_Mo_step 12 rfl) rfl rfl ?_
    refine g_getI fl_Mo_227 (Or.inl rfl) (dk_Mo_step 13 rfl) (c1.up (hs5.trans hs11)) ?_
    obtain ⟨c12, h⟩ := p_gdE h
    obtain ⟨c13, h⟩ := p_gdE h
    refine g_iaload (dk_Mo_step 14 rfl) c12 c13.1 c13.2 ?_
    obtain ⟨r18, s14, q15, h⟩ := p_bdE h
    have t16 := tF_Mo_well K l v0 (p_Z s8 (p_R s8 v0 4) ((p_Z s8 v0 0)).toNat) s8 _ q15
    refine g_callV (a := v0) (ci := 11) (q0 := (RX11, TX11, 90)) (As := [p_i (p_Z s8 (p_R s8 v0 4) ((p_Z s8 v0 0)).toNat)]) (rest := []) [p_i r18] mt_Mo_well rfl rfl tw_7_50 ts_44 tw_7_48 ⟨Nat.le_of_ble_eq_true rfl, Nat.le_of_ble_eq_true rfl⟩ rfl (Nat.le_of_ble_eq_true rfl) (dk_Mo_step 15 rfl) rfl (c1.up (hs5.trans hs11)) rfl t16 ?_
    have hs17 : p_x s8 s14 := t16.1
    show p_Go K l m_Mo_step 31 [(0, p_r v0)] [p_i r18] s14 _
    cases h
    exact g_ret rfl rfl (dk_Mo_step 16 rfl) (fun os => ⟨_, rfl, p_okh os⟩)
  · have h := p_ifF b7 h
    refine g_aload_n (i := 0) (j := 0) (dk_Mo_step 3 rfl) rfl rfl ?_
    refine g_bipush (dk_Mo_step 4 rfl) rfl (by decide) ?_
    obtain ⟨r23, s19, q20, h⟩ := p_bdE h
    have t21 := tF_Mo_refused K l v0 (-4) s2 _ q20
    refine g_callV (a := v0) (ci := 11) (q0 := (RX11, TX11, 90)) (As := [p_i (-4)]) (rest := []) [p_i r23] mt_Mo_refused rfl rfl tw_7_46 ts_43 tw_7_44 ⟨Nat.le_of_ble_eq_true rfl, Nat.le_of_ble_eq_true rfl⟩ rfl (Nat.le_of_ble_eq_true rfl) (dk_Mo_step 5 rfl) rfl (c1.up hs5) rfl t21 ?_
    have hs22 : p_x s2 s19 := t21.1
    show p_Go K l m_Mo_step 13 [(0, p_r v0)] [p_i r23] s19 _
    cases h
    exact g_ret rfl rfl (dk_Mo_step 6 rfl) (fun os => ⟨_, rfl, p_okh os⟩)
def m_Mo_spoils : p_Me := (⟨"SortWorksModel", "spoils", "(II)V"⟩, prog_13_method_87_code, 6, none, 1, 23)
theorem mt_Mo_spoils : p_Mt m_Mo_spoils 2 := ⟨p_mem (p_tb8 (List.mem_of_getElem? (i := 165) rfl)) rfl, tw_1_12, by decide +kernel, by decide +kernel, by decide +kernel⟩
def dt_Mo_spoils : List (Nat × Instr × Nat) := [(0, .bipush 12, 2), (2, .iload_n 1, 1), (3, .imul, 1), (4, .istore_n 3, 1), (5, .iload_n 2, 1), (6, .bipush 8, 2), (8, .irem, 1), (9, .tableswitch 122 0 2 #[27, 36, 83], 27), (36, .aload_n 0, 1), (37, .iload_n 1, 1), (38, .iconst (-1), 1), (39, .invokevirtual 355, 3), (42, .goto 89, 3), (45, .iload_n 2, 1), (46, .bipush 8, 2), (48, .idiv, 1), (49, .bipush 6, 2), (51, .irem, 1), (52, .istore 4, 2), (54, .iload 4, 2), (56, .istore 5, 2), (58, .iload 5, 2), (60, .bipush 12, 2), (62, .if_icmp .ge 19, 3), (65, .aload_n 0, 1), (66, .getfield 96, 3), (69, .iload_n 3, 1), (70, .iload 5, 2), (72, .iadd, 1), (73, .iconst 0, 1), (74, .iastore, 1), (75, .iinc 5 1, 3), (78, .goto (-20), 3), (81, .aload_n 0, 1), (82, .getfield 93, 3), (85, .iload_n 1, 1), (86, .iload 4, 2), (88, .iastore, 1), (89, .goto 42, 3), (92, .aload_n 0, 1), (93, .getfield 96, 3), (96, .iload_n 3, 1), (97, .aload_n 0, 1), (98, .getfield 93, 3), (101, .iload_n 1, 1), (102, .iaload, 1), (103, .iadd, 1), (104, .iconst 1, 1), (105, .isub, 1), (106, .aload_n 0, 1), (107, .getfield 96, 3), (110, .iload_n 3, 1), (111, .aload_n 0, 1), (112, .getfield 93, 3), (115, .iload_n 1, 1), (116, .iaload, 1), (117, .iadd, 1), (118, .iconst 1, 1), (119, .isub, 1), (120, .iaload, 1), (121, .iconst 1, 1), (122, .iadd, 1), (123, .sipush 255, 3), (126, .iand, 1), (127, .iastore, 1), (128, .goto 3, 3), (131, .return_, 1)]
theorem dk_Mo_spoils (i : Nat) {pc : Nat} {ins : Instr} {len : Nat} (h : dt_Mo_spoils[i]? = some (pc, ins, len)) : decode m_Mo_spoils.2.1 pc = .ok (ins, len) := p_dk (b := m_Mo_spoils.2.1) (t := dt_Mo_spoils) (by decide +kernel) i h
def L_Mo_spoils_58 (k58 : Nat → Int → Int → Int → Int → p_Hp → Option p_Hp) (v0 : Nat) (v1 : Int) (v3 : Int) (v4 : Int) (v5 : Int) (s0 : p_Hp) : Option p_Hp :=
  if 12 ≤ v5 then
    p_gd (p_is s0 v0 11) <|
    p_gd (p_is s0 (p_R s0 v0 31) 100) <|
    p_gd (0 ≤ v1 ∧ v1 < (p_L s0 (p_R s0 v0 31) : Int)) <|
    p_bi (p_wZ s0 (p_R s0 v0 31) (v1).toNat v4) fun s5 =>
    some s5
  else
    p_gd (p_is s0 v0 11) <|
    p_gd (p_is s0 (p_R s0 v0 32) 100) <|
    p_gd (0 ≤ (p_w (v3 + v5)) ∧ (p_w (v3 + v5)) < (p_L s0 (p_R s0 v0 32) : Int)) <|
    p_bi (p_wZ s0 (p_R s0 v0 32) ((p_w (v3 + v5))).toNat 0) fun s10 =>
    p_bi (p_w (v5 + 1)) fun x12 =>
    k58 v0 v1 v3 v4 x12 s10
def O_Mo_spoils_58  : Nat → Nat → Int → Int → Int → Int → p_Hp → Option p_Hp
  | 0 => fun _ _ _ _ _ _ => none
  | n + 1 => L_Mo_spoils_58 (O_Mo_spoils_58 n)
def F_Mo_spoils (v0 : Nat) (v1 : Int) (v2 : Int) (s0 : p_Hp) : Option p_Hp :=
  p_bi ((p_w (12 * v1))) fun x1 =>
  if (p_rem v2 8) = 0 then
    p_gd (p_is s0 v0 11) <|
    p_bv (F_Mo_newLabel v0 v1 (-1) s0) fun s4 =>
    some s4
  else if (p_rem v2 8) = 1 then
    p_bi ((p_rem (p_div v2 8) 6)) fun x9 =>
    O_Mo_spoils_58 3000 v0 v1 x1 x9 x9 s0
  else if (p_rem v2 8) = 2 then
    p_gd (p_is s0 v0 11) <|
    p_gd (p_is s0 (p_R s0 v0 31) 100) <|
    p_gd (0 ≤ v1 ∧ v1 < (p_L s0 (p_R s0 v0 31) : Int)) <|
    p_gd (0 ≤ v1 ∧ v1 < (p_L s0 (p_R s0 v0 31) : Int)) <|
    p_gd (p_is s0 (p_R s0 v0 32) 100) <|
    p_gd (0 ≤ (p_w ((p_w (x1 + (p_Z s0 (p_R s0 v0 31) (v1).toNat))) - 1)) ∧ (p_w ((p_w (x1 + (p_Z s0 (p_R s0 v0 31) (v1).toNat))) - 1)) < (p_L s0 (p_R s0 v0 32) : Int)) <|
    p_gd (0 ≤ (p_w ((p_w (x1 + (p_Z s0 (p_R s0 v0 31) (v1).toNat))) - 1)) ∧ (p_w ((p_w (x1 + (p_Z s0 (p_R s0 v0 31) (v1).toNat))) - 1)) < (p_L s0 (p_R s0 v0 32) : Int)) <|
    p_bi (p_wZ s0 (p_R s0 v0 32) ((p_w ((p_w (x1 + (p_Z s0 (p_R s0 v0 31) (v1).toNat))) - 1))).toNat (p_and (p_w ((p_Z s0 (p_R s0 v0 32) ((p_w ((p_w (x1 + (p_Z s0 (p_R s0 v0 31) (v1).toNat))) - 1))).toNat) + 1)) 255)) fun s18 =>
    some s18
  else 
  some s0
set_option maxRecDepth 100000 in
set_option maxHeartbeats 4000000 in
theorem tL_Mo_spoils_58 (K : p_K) (l : Launch) (k58 : Nat → Int → Int → Int → Int → p_Hp → Option p_Hp) (hk58 : ∀ (v0 : Nat) (v1 : Int) (v3 : Int) (v4 : Int) (v5 : Int)  (s0 : p_Hp) (r : p_Hp), k58 v0 v1 v3 v4 v5 s0 = some r → p_Go K l m_Mo_spoils 58 [(0, p_r v0), (1, p_i v1), (3, p_i v3), (4, p_i v4), (5, p_i v5)] [] s0 (none, r)) (v0 : Nat) (v1 : Int) (v3 : Int) (v4 : Int) (v5 : Int) (s0 : p_Hp) (r : p_Hp) (h : L_Mo_spoils_58 k58 v0 v1 v3 v4 v5 s0 = some r) : p_Go K l m_Mo_spoils 58 [(0, p_r v0), (1, p_i v1), (3, p_i v3), (4, p_i v4), (5, p_i v5)] [] s0 (none, r) := by
  unfold L_Mo_spoils_58 at h
  refine g_iload (j := 4) (dk_Mo_spoils 21 rfl) rfl ?_
  refine g_bipush (dk_Mo_spoils 22 rfl) rfl (by decide) ?_
  refine g_icmp_ge 81 (dk_Mo_spoils 23 rfl) (by decide) (fun b1 => ?_) (fun b1 => ?_)
  · have h := p_ifT b1 h
    refine g_aload_n (i := 0) (j := 0) (dk_Mo_spoils 33 rfl) rfl rfl ?_
    obtain ⟨c2, h⟩ := p_gdE h
    refine g_getR fl_Mo_93 (Or.inr ⟨_, rfl⟩) (dk_Mo_spoils 34 rfl) c2 ?_
    refine g_iload_n (i := 1) (j := 1) (dk_Mo_spoils 35 rfl) rfl rfl ?_
    refine g_iload (j := 3) (dk_Mo_spoils 36 rfl) rfl ?_
    obtain ⟨c3, h⟩ := p_gdE h
    obtain ⟨c4, h⟩ := p_gdE h
    refine g_iastore (dk_Mo_spoils 37 rfl) c3 c4.1 c4.2 ?_
    refine p_ltS (P := fun q => p_Go K l m_Mo_spoils 89 [(0, p_r v0), (1, p_i v1), (3, p_i v3), (4, p_i v4), (5, p_i v5)] [] q _) (p_xZ _ _ _ _) ?_ h
    intro s5 hs6 h
    refine g_goto 131 (dk_Mo_spoils 38 rfl) (by decide) ?_
    cases h
    exact g_ret rfl rfl (dk_Mo_spoils 66 rfl) (fun _ => rfl)
  · have h := p_ifF b1 h
    refine g_aload_n (i := 0) (j := 0) (dk_Mo_spoils 24 rfl) rfl rfl ?_
    obtain ⟨c7, h⟩ := p_gdE h
    refine g_getR fl_Mo_96 (Or.inr ⟨_, rfl⟩) (dk_Mo_spoils 25 rfl) c7 ?_
    refine g_iload_n (i := 3) (j := 2) (dk_Mo_spoils 26 rfl) rfl rfl ?_
    refine g_iload (j := 4) (dk_Mo_spoils 27 rfl) rfl ?_
    refine g_iadd (dk_Mo_spoils 28 rfl) ?_
    refine g_iconst (dk_Mo_spoils 29 rfl) (by decide) ?_
    obtain ⟨c8, h⟩ := p_gdE h
    obtain ⟨c9, h⟩ := p_gdE h
    refine g_iastore (dk_Mo_spoils 30 rfl) c8 c9.1 c9.2 ?_
    refine p_ltS (P := fun q => p_Go K l m_Mo_spoils 75 [(0, p_r v0), (1, p_i v1), (3, p_i v3), (4, p_i v4), (5, p_i v5)] [] q _) (p_xZ _ _ _ _) ?_ h
    intro s10 hs11 h
    refine g_iinc (j := 4) [(5, p_i (p_w (v5 + 1))), (0, p_r v0), (1, p_i v1), (3, p_i v3), (4, p_i v4)] (dk_Mo_spoils 31 rfl) rfl (by decide) rfl ?_
    refine p_ltG (P := fun q => p_Go K l m_Mo_spoils 78 [(5, p_i q), (0, p_r v0), (1, p_i v1), (3, p_i v3), (4, p_i v4)] [] s10 _) ?_ h
    intro x12 h
    refine g_goto 58 (dk_Mo_spoils 32 rfl) (by decide) ?_
    refine g_sub [(0, p_r v0), (1, p_i v1), (3, p_i v3), (4, p_i v4), (5, p_i x12)] [1, 2, 3, 4, 0] rfl ?_
    exact hk58 v0 v1 v3 v4 x12 s10 _ h
set_option maxRecDepth 100000 in
set_option maxHeartbeats 4000000 in
theorem tO_Mo_spoils_58 (K : p_K) (l : Launch)  : ∀ (n : Nat) (v0 : Nat) (v1 : Int) (v3 : Int) (v4 : Int) (v5 : Int) (s0 : p_Hp) (r : p_Hp), O_Mo_spoils_58 n v0 v1 v3 v4 v5 s0 = some r → p_Go K l m_Mo_spoils 58 [(0, p_r v0), (1, p_i v1), (3, p_i v3), (4, p_i v4), (5, p_i v5)] [] s0 (none, r) := by
  intro n
  induction n with
  | zero => intro v0 v1 v3 v4 v5 s0 r h; cases (show (none : Option p_Hp) = some r from h)
  | succ n ih => intro v0 v1 v3 v4 v5 s0 r h; exact tL_Mo_spoils_58 K l _ ih v0 v1 v3 v4 v5 s0 r h
set_option maxRecDepth 100000 in
set_option maxHeartbeats 4000000 in
theorem tF_Mo_spoils (K : p_K) (l : Launch) (v0 : Nat) (v1 : Int) (v2 : Int) (s0 : p_Hp) (r : p_Hp) (h : F_Mo_spoils v0 v1 v2 s0 = some r) : p_Ct K l m_Mo_spoils [p_r v0, p_i v1, p_i v2] s0 (none, r) := by
  refine p_Ct.of (by decide) (Nat.le_of_ble_eq_true rfl) ?_
  unfold F_Mo_spoils at h
  show p_Go K l m_Mo_spoils 0 [(0, p_r v0), (1, p_i v1), (2, p_i v2)] [] s0 _
  refine g_bipush (dk_Mo_spoils 0 rfl) rfl (by decide) ?_
  refine g_iload_n (i := 1) (j := 1) (dk_Mo_spoils 1 rfl) rfl rfl ?_
  refine g_imul (dk_Mo_spoils 2 rfl) ?_
  refine g_istore_n (i := 3) [(3, p_i (p_w (12 * v1))), (0, p_r v0), (1, p_i v1), (2, p_i v2)] (dk_Mo_spoils 3 rfl) rfl (by decide) rfl ?_
  refine p_ltG (P := fun q => p_Go K l m_Mo_spoils 5 [(3, p_i q), (0, p_r v0), (1, p_i v1), (2, p_i v2)] [] s0 _) ?_ h
  intro x1 h
  refine g_iload_n (i := 2) (j := 3) (dk_Mo_spoils 4 rfl) rfl rfl ?_
  refine g_bipush (dk_Mo_spoils 5 rfl) rfl (by decide) ?_
  refine g_irem (dk_Mo_spoils 6 rfl) (by decide) ?_
  rcases p_iteE h with ⟨b2, h⟩ | ⟨b2, h⟩
  · refine g_tableIn 36 (dk_Mo_spoils 7 rfl) (by omega) (by omega) (by rw [b2]; rfl) (by decide) ?_
    refine g_aload_n (i := 0) (j := 1) (dk_Mo_spoils 8 rfl) rfl rfl ?_
    refine g_iload_n (i := 1) (j := 2) (dk_Mo_spoils 9 rfl) rfl rfl ?_
    refine g_iconst (dk_Mo_spoils 10 rfl) (by decide) ?_
    obtain ⟨c3, h⟩ := p_gdE h
    obtain ⟨s4, q5, h⟩ := p_bvE h
    have t6 := tF_Mo_newLabel K l v0 v1 (-1) s0 _ q5
    refine g_callV (a := v0) (ci := 11) (q0 := (RX11, TX11, 90)) (As := [p_i v1, p_i (-1)]) (rest := []) [] mt_Mo_newLabel rfl rfl tw_7_202 ts_63 tw_7_200 ⟨Nat.le_of_ble_eq_true rfl, Nat.le_of_ble_eq_true rfl⟩ rfl (Nat.le_of_ble_eq_true rfl) (dk_Mo_spoils 11 rfl) rfl c3 rfl t6 ?_
    have hs7 : p_x s0 s4 := t6.1
    show p_Go K l m_Mo_spoils 42 [(3, p_i x1), (0, p_r v0), (1, p_i v1), (2, p_i v2)] [] s4 _
    refine g_goto 131 (dk_Mo_spoils 12 rfl) (by decide) ?_
    cases h
    exact g_ret rfl rfl (dk_Mo_spoils 66 rfl) (fun _ => rfl)
  rcases p_iteE h with ⟨b8, h⟩ | ⟨b8, h⟩
  · refine g_tableIn 45 (dk_Mo_spoils 7 rfl) (by omega) (by omega) (by rw [b8]; rfl) (by decide) ?_
    refine g_iload_n (i := 2) (j := 3) (dk_Mo_spoils 13 rfl) rfl rfl ?_
    refine g_bipush (dk_Mo_spoils 14 rfl) rfl (by decide) ?_
    refine g_idiv (dk_Mo_spoils 15 rfl) (by decide) ?_
    refine g_bipush (dk_Mo_spoils 16 rfl) rfl (by decide) ?_
    refine g_irem (dk_Mo_spoils 17 rfl) (by decide) ?_
    refine g_istore [(4, p_i (p_rem (p_div v2 8) 6)), (3, p_i x1), (0, p_r v0), (1, p_i v1), (2, p_i v2)] (dk_Mo_spoils 18 rfl) (by decide) rfl ?_
    refine p_ltG (P := fun q => p_Go K l m_Mo_spoils 54 [(4, p_i q), (3, p_i x1), (0, p_r v0), (1, p_i v1), (2, p_i v2)] [] s0 _) ?_ h
    intro x9 h
    refine g_iload (j := 0) (dk_Mo_spoils 19 rfl) rfl ?_
    refine g_istore [(5, p_i x9), (4, p_i x9), (3, p_i x1), (0, p_r v0), (1, p_i v1), (2, p_i v2)] (dk_Mo_spoils 20 rfl) (by decide) rfl ?_
    refine g_sub [(0, p_r v0), (1, p_i v1), (3, p_i x1), (4, p_i x9), (5, p_i x9)] [3, 4, 2, 1, 0] rfl ?_
    exact tO_Mo_spoils_58 K l 3000 v0 v1 x1 x9 x9 s0 _ h
  rcases p_iteE h with ⟨b10, h⟩ | ⟨b10, h⟩
  · refine g_tableIn 92 (dk_Mo_spoils 7 rfl) (by omega) (by omega) (by rw [b10]; rfl) (by decide) ?_
    refine g_aload_n (i := 0) (j := 1) (dk_Mo_spoils 39 rfl) rfl rfl ?_
    obtain ⟨c11, h⟩ := p_gdE h
    refine g_getR fl_Mo_96 (Or.inr ⟨_, rfl⟩) (dk_Mo_spoils 40 rfl) c11 ?_
    refine g_iload_n (i := 3) (j := 0) (dk_Mo_spoils 41 rfl) rfl rfl ?_
    refine g_aload_n (i := 0) (j := 1) (dk_Mo_spoils 42 rfl) rfl rfl ?_
    refine g_getR fl_Mo_93 (Or.inr ⟨_, rfl⟩) (dk_Mo_spoils 43 rfl) c11 ?_
    refine g_iload_n (i := 1) (j := 2) (dk_Mo_spoils 44 rfl) rfl rfl ?_
    obtain ⟨c12, h⟩ := p_gdE h
    obtain ⟨c13, h⟩ := p_gdE h
    refine g_iaload (dk_Mo_spoils 45 rfl) c12 c13.1 c13.2 ?_
    refine g_iadd (dk_Mo_spoils 46 rfl) ?_
    refine g_iconst (dk_Mo_spoils 47 rfl) (by decide) ?_
    refine g_isub (dk_Mo_spoils 48 rfl) ?_
    refine g_aload_n (i := 0) (j := 1) (dk_Mo_spoils 49 rfl) rfl rfl ?_
    refine g_getR fl_Mo_96 (Or.inr ⟨_, rfl⟩) (dk_Mo_spoils 50 rfl) c11 ?_
    refine g_iload_n (i := 3) (j := 0) (dk_Mo_spoils 51 rfl) rfl rfl ?_
    refine g_aload_n (i := 0) (j := 1) (dk_Mo_spoils 52 rfl) rfl rfl ?_
    refine g_getR fl_Mo_93 (Or.inr ⟨_, rfl⟩) (dk_Mo_spoils 53 rfl) c11 ?_
    refine g_iload_n (i := 1) (j := 2) (dk_Mo_spoils 54 rfl) rfl rfl ?_
    obtain ⟨c14, h⟩ := p_gdE h
    refine g_iaload (dk_Mo_spoils 55 rfl) c12 c14.1 c14.2 ?_
    refine g_iadd (dk_Mo_spoils 56 rfl) ?_
    refine g_iconst (dk_Mo_spoils 57 rfl) (by decide) ?_
    refine g_isub (dk_Mo_spoils 58 rfl) ?_
    obtain ⟨c15, h⟩ := p_gdE h
    obtain ⟨c16, h⟩ := p_gdE h
    refine g_iaload (dk_Mo_spoils 59 rfl) c15 c16.1 c16.2 ?_
    refine g_iconst (dk_Mo_spoils 60 rfl) (by decide) ?_
    refine g_iadd (dk_Mo_spoils 61 rfl) ?_
    refine g_sipush (dk_Mo_spoils 62 rfl) rfl (by decide) ?_
    refine g_iand (dk_Mo_spoils 63 rfl) ?_
    obtain ⟨c17, h⟩ := p_gdE h
    refine g_iastore (dk_Mo_spoils 64 rfl) c15 c17.1 c17.2 ?_
    refine p_ltS (P := fun q => p_Go K l m_Mo_spoils 128 [(3, p_i x1), (0, p_r v0), (1, p_i v1), (2, p_i v2)] [] q _) (p_xZ _ _ _ _) ?_ h
    intro s18 hs19 h
    refine g_goto 131 (dk_Mo_spoils 65 rfl) (by decide) ?_
    cases h
    exact g_ret rfl rfl (dk_Mo_spoils 66 rfl) (fun _ => rfl)
  refine g_tableOut 131 (dk_Mo_spoils 7 rfl) (by omega) (by decide) ?_
  cases h
  exact g_ret rfl rfl (dk_Mo_spoils 66 rfl) (fun _ => rfl)
def m_Mo_night : p_Me := (⟨"SortWorksModel", "night", "(II)I"⟩, prog_13_method_86_code, 10, (some .int), 9, 216)
theorem mt_Mo_night : p_Mt m_Mo_night 2 := ⟨p_mem (p_tb8 (List.mem_of_getElem? (i := 160) rfl)) rfl, tw_1_12, by decide +kernel, by decide +kernel, by decide +kernel⟩
def dt_Mo_night : List (Nat × Instr × Nat) := [(0, .iload_n 2, 1), (1, .i2l, 1), (2, .lconst 1, 1), (3, .ldc2_w 364, 3), (6, .invokestatic 230, 3), (9, .ifCond .eq 10, 3), (12, .aload_n 0, 1), (13, .bipush (-2), 2), (15, .invokevirtual 240, 3), (18, .ireturn, 1), (19, .iload_n 1, 1), (20, .istore_n 3, 1), (21, .iconst 0, 1), (22, .istore 4, 2), (24, .iconst 0, 1), (25, .istore 5, 2), (27, .iload 5, 2), (29, .iload_n 2, 1), (30, .if_icmp .ge 195, 3), (33, .iload_n 3, 1), (34, .ldc_w 492, 3), (37, .imul, 1), (38, .sipush 12345, 3), (41, .iadd, 1), (42, .istore_n 3, 1), (43, .iload_n 3, 1), (44, .bipush 16, 2), (46, .iushr, 1), (47, .istore 6, 2), (49, .iload_n 3, 1), (50, .ldc_w 492, 3), (53, .imul, 1), (54, .sipush 12345, 3), (57, .iadd, 1), (58, .istore_n 3, 1), (59, .iload_n 3, 1), (60, .bipush 16, 2), (62, .iushr, 1), (63, .istore 7, 2), (65, .iload_n 3, 1), (66, .ldc_w 492, 3), (69, .imul, 1), (70, .sipush 12345, 3), (73, .iadd, 1), (74, .istore_n 3, 1), (75, .iload_n 3, 1), (76, .bipush 16, 2), (78, .iushr, 1), (79, .istore 8, 2), (81, .aload_n 0, 1), (82, .getfield 7, 3), (85, .aload_n 0, 1), (86, .getfield 227, 3), (89, .iaload, 1), (90, .ifCond .le 111, 3), (93, .aload_n 0, 1), (94, .getfield 16, 3), (97, .aload_n 0, 1), (98, .iconst 0, 1), (99, .invokevirtual 257, 3), (102, .iaload, 1), (103, .invokestatic 252, 3), (106, .ifCond .eq 95, 3), (109, .aload_n 0, 1), (110, .getfield 16, 3), (113, .aload_n 0, 1), (114, .iconst 0, 1), (115, .invokevirtual 257, 3), (118, .iaload, 1), (119, .invokestatic 342, 3), (122, .ifCond .ne 79, 3), (125, .aload_n 0, 1), (126, .getfield 69, 3), (129, .bipush 8, 2), (131, .aload_n 0, 1), (132, .iconst 0, 1), (133, .invokevirtual 257, 3), (136, .imul, 1), (137, .iaload, 1), (138, .ifCond .ne 63, 3), (141, .aload_n 0, 1), (142, .invokevirtual 345, 3), (145, .ifCond .ne 56, 3), (148, .aload_n 0, 1), (149, .iconst 0, 1), (150, .iconst 1, 1), (151, .iload 6, 2), (153, .sipush 200, 3), (156, .irem, 1), (157, .iadd, 1), (158, .iload 6, 2), (160, .sipush 200, 3), (163, .idiv, 1), (164, .bipush 10, 2), (166, .irem, 1), (167, .invokevirtual 348, 3), (170, .istore 9, 2), (172, .iinc 4 1, 3), (175, .aload_n 0, 1), (176, .iload 9, 2), (178, .iload 7, 2), (180, .bipush 100, 2), (182, .idiv, 1), (183, .iconst 2, 1), (184, .irem, 1), (185, .iload 7, 2), (187, .bipush 100, 2), (189, .irem, 1), (190, .invokevirtual 360, 3), (193, .aload_n 0, 1), (194, .iload 9, 2), (196, .iload 8, 2), (198, .invokevirtual 493, 3), (201, .aload_n 0, 1), (202, .invokevirtual 486, 3), (205, .ifCond .eq 10, 3), (208, .aload_n 0, 1), (209, .iload 4, 2), (211, .invokevirtual 244, 3), (214, .ireturn, 1), (215, .aload_n 0, 1), (216, .invokevirtual 489, 3), (219, .iinc 5 1, 3), (222, .goto (-195), 3), (225, .aload_n 0, 1), (226, .iload 4, 2), (228, .invokevirtual 244, 3), (231, .ireturn, 1)]
theorem dk_Mo_night (i : Nat) {pc : Nat} {ins : Instr} {len : Nat} (h : dt_Mo_night[i]? = some (pc, ins, len)) : decode m_Mo_night.2.1 pc = .ok (ins, len) := p_dk (b := m_Mo_night.2.1) (t := dt_Mo_night) (by decide +kernel) i h
def B_Mo_night_201 (k27 : Nat → Int → Int → Int → Int → p_Hp → Option (Int × p_Hp)) (v0 : Nat) (v2 : Int) (v3 : Int) (v4 : Int) (v5 : Int) (s0 : p_Hp) : Option (Int × p_Hp) :=
  p_gd (p_is s0 v0 11) <|
  p_bd (F_Mo_isFull v0 s0) fun r6 s2 =>
  if r6 = 0 then
    p_bv (F_Mo_steps v0 s2) fun s8 =>
    p_bi (p_w (v5 + 1)) fun x12 =>
    k27 v0 v2 v3 v4 x12 s8
  else
    p_bd (F_Mo_well v0 v4 s2) fun r17 s13 =>
    some (r17, s13)
def L_Mo_night_27 (k27 : Nat → Int → Int → Int → Int → p_Hp → Option (Int × p_Hp)) (v0 : Nat) (v2 : Int) (v3 : Int) (v4 : Int) (v5 : Int) (s0 : p_Hp) : Option (Int × p_Hp) :=
  if v2 ≤ v5 then
    p_gd (p_is s0 v0 11) <|
    p_bd (F_Mo_well v0 v4 s0) fun r7 s3 =>
    some (r7, s3)
  else
    p_bi ((p_w ((p_w (v3 * 1103515245)) + 12345))) fun x8 =>
    p_bi ((p_ushr x8 16)) fun x9 =>
    p_bi ((p_w ((p_w (x8 * 1103515245)) + 12345))) fun x10 =>
    p_bi ((p_ushr x10 16)) fun x11 =>
    p_bi ((p_w ((p_w (x10 * 1103515245)) + 12345))) fun x12 =>
    p_bi ((p_ushr x12 16)) fun x13 =>
    p_gd (p_is s0 v0 11) <|
    p_gd (p_is s0 (p_R s0 v0 3) 100) <|
    p_gd (0 ≤ (p_Z s0 v0 0) ∧ (p_Z s0 v0 0) < (p_L s0 (p_R s0 v0 3) : Int)) <|
    if (p_Z s0 (p_R s0 v0 3) ((p_Z s0 v0 0)).toNat) ≤ 0 then
      B_Mo_night_201 k27 v0 v2 x12 v4 v5 s0
    else
      p_bd (F_Mo_g v0 0 s0) fun r22 s18 =>
      p_gd (p_is s18 (p_R s0 v0 5) 100) <|
      p_gd (0 ≤ r22 ∧ r22 < (p_L s18 (p_R s0 v0 5) : Int)) <|
      p_bd (F_Mo_isTaker (p_Z s18 (p_R s0 v0 5) (r22).toNat) s18) fun r29 s25 =>
      if r29 = 0 then
        B_Mo_night_201 k27 v0 v2 x12 v4 v5 s25
      else
        p_bd (F_Mo_g v0 0 s25) fun r35 s31 =>
        p_gd (p_is s31 (p_R s25 v0 5) 100) <|
        p_gd (0 ≤ r35 ∧ r35 < (p_L s31 (p_R s25 v0 5) : Int)) <|
        p_bd (F_Mo_isChute (p_Z s31 (p_R s25 v0 5) (r35).toNat) s31) fun r42 s38 =>
        if r42 ≠ 0 then
          B_Mo_night_201 k27 v0 v2 x12 v4 v5 s38
        else
          p_bd (F_Mo_g v0 0 s38) fun r48 s44 =>
          p_gd (p_is s44 (p_R s38 v0 22) 100) <|
          p_gd (0 ≤ (p_w (8 * r48)) ∧ (p_w (8 * r48)) < (p_L s44 (p_R s38 v0 22) : Int)) <|
          if (p_Z s44 (p_R s38 v0 22) ((p_w (8 * r48))).toNat) ≠ 0 then
            B_Mo_night_201 k27 v0 v2 x12 v4 v5 s44
          else
            p_bd (F_Mo_comesFull v0 s44) fun r56 s52 =>
            if r56 ≠ 0 then
              B_Mo_night_201 k27 v0 v2 x12 v4 v5 s52
            else
              p_bd (F_Mo_newParcel v0 0 (p_w (1 + (p_rem x9 200))) (p_rem (p_div x9 200) 10) s52) fun r62 s58 =>
              p_bi (p_w (v4 + 1)) fun x63 =>
              p_bv (F_Mo_tags v0 r62 (p_rem (p_div x11 100) 2) (p_rem x11 100) s58) fun s64 =>
              p_bv (F_Mo_spoils v0 r62 x13 s64) fun s68 =>
              B_Mo_night_201 k27 v0 v2 x12 x63 v5 s68
def O_Mo_night_27  : Nat → Nat → Int → Int → Int → Int → p_Hp → Option (Int × p_Hp)
  | 0 => fun _ _ _ _ _ _ => none
  | n + 1 => L_Mo_night_27 (O_Mo_night_27 n)
def F_Mo_night (v0 : Nat) (v1 : Int) (v2 : Int) (s0 : p_Hp) : Option (Int × p_Hp) :=
  p_bd (F_Mo_beyond v2 1 20 s0) fun r5 s1 =>
  if r5 = 0 then
    O_Mo_night_27 3000 v0 v2 v1 0 0 s1
  else
    p_gd (p_is s1 v0 11) <|
    p_bd (F_Mo_refused v0 (-2) s1) fun r12 s8 =>
    some (r12, s8)
set_option maxRecDepth 100000 in
set_option maxHeartbeats 4000000 in
theorem tB_Mo_night_201 (K : p_K) (l : Launch) (k27 : Nat → Int → Int → Int → Int → p_Hp → Option (Int × p_Hp)) (hk27 : ∀ (v0 : Nat) (v2 : Int) (v3 : Int) (v4 : Int) (v5 : Int)  (s0 : p_Hp) (r : (Int × p_Hp)), k27 v0 v2 v3 v4 v5 s0 = some r → p_Go K l m_Mo_night 27 [(0, p_r v0), (2, p_i v2), (3, p_i v3), (4, p_i v4), (5, p_i v5)] [] s0 (some (p_i r.1), r.2)) (v0 : Nat) (v2 : Int) (v3 : Int) (v4 : Int) (v5 : Int) (s0 : p_Hp) (r : (Int × p_Hp)) (h : B_Mo_night_201 k27 v0 v2 v3 v4 v5 s0 = some r) : p_Go K l m_Mo_night 201 [(0, p_r v0), (2, p_i v2), (3, p_i v3), (4, p_i v4), (5, p_i v5)] [] s0 (some (p_i r.1), r.2) := by
  unfold B_Mo_night_201 at h
  refine g_aload_n (i := 0) (j := 0) (dk_Mo_night 113 rfl) rfl rfl ?_
  obtain ⟨c1, h⟩ := p_gdE h
  obtain ⟨r6, s2, q3, h⟩ := p_bdE h
  have t4 := tF_Mo_isFull K l v0 s0 _ q3
  refine g_callV (a := v0) (ci := 11) (q0 := (RX11, TX11, 90)) (As := []) (rest := []) [p_i r6] mt_Mo_isFull rfl rfl tw_8_28 ts_67 tw_8_26 ⟨Nat.le_of_ble_eq_true rfl, Nat.le_of_ble_eq_true rfl⟩ rfl (Nat.le_of_ble_eq_true rfl) (dk_Mo_night 114 rfl) rfl c1 rfl t4 ?_
  have hs5 : p_x s0 s2 := t4.1
  show p_Go K l m_Mo_night 205 [(0, p_r v0), (2, p_i v2), (3, p_i v3), (4, p_i v4), (5, p_i v5)] [p_i r6] s2 _
  refine g_if_eq 215 (dk_Mo_night 115 rfl) (by decide) (fun b7 => ?_) (fun b7 => ?_)
  · have h := p_ifT b7 h
    refine g_aload_n (i := 0) (j := 0) (dk_Mo_night 120 rfl) rfl rfl ?_
    obtain ⟨s8, q9, h⟩ := p_bvE h
    have t10 := tF_Mo_steps K l v0 s2 _ q9
    refine g_callV (a := v0) (ci := 11) (q0 := (RX11, TX11, 90)) (As := []) (rest := []) [] mt_Mo_steps rfl rfl tw_8_32 ts_68 tw_8_30 ⟨Nat.le_of_ble_eq_true rfl, Nat.le_of_ble_eq_true rfl⟩ rfl (Nat.le_of_ble_eq_true rfl) (dk_Mo_night 121 rfl) rfl (c1.up hs5) rfl t10 ?_
    have hs11 : p_x s2 s8 := t10.1
    show p_Go K l m_Mo_night 219 [(0, p_r v0), (2, p_i v2), (3, p_i v3), (4, p_i v4), (5, p_i v5)] [] s8 _
    refine g_iinc (j := 4) [(5, p_i (p_w (v5 + 1))), (0, p_r v0), (2, p_i v2), (3, p_i v3), (4, p_i v4)] (dk_Mo_night 122 rfl) rfl (by decide) rfl ?_
    refine p_ltG (P := fun q => p_Go K l m_Mo_night 222 [(5, p_i q), (0, p_r v0), (2, p_i v2), (3, p_i v3), (4, p_i v4)] [] s8 _) ?_ h
    intro x12 h
    refine g_goto 27 (dk_Mo_night 123 rfl) (by decide) ?_
    refine g_sub [(0, p_r v0), (2, p_i v2), (3, p_i v3), (4, p_i v4), (5, p_i x12)] [1, 2, 3, 4, 0] rfl ?_
    exact hk27 v0 v2 v3 v4 x12 s8 _ h
  · have h := p_ifF b7 h
    refine g_aload_n (i := 0) (j := 0) (dk_Mo_night 116 rfl) rfl rfl ?_
    refine g_iload (j := 3) (dk_Mo_night 117 rfl) rfl ?_
    obtain ⟨r17, s13, q14, h⟩ := p_bdE h
    have t15 := tF_Mo_well K l v0 v4 s2 _ q14
    refine g_callV (a := v0) (ci := 11) (q0 := (RX11, TX11, 90)) (As := [p_i v4]) (rest := []) [p_i r17] mt_Mo_well rfl rfl tw_7_50 ts_44 tw_7_48 ⟨Nat.le_of_ble_eq_true rfl, Nat.le_of_ble_eq_true rfl⟩ rfl (Nat.le_of_ble_eq_true rfl) (dk_Mo_night 118 rfl) rfl (c1.up hs5) rfl t15 ?_
    have hs16 : p_x s2 s13 := t15.1
    show p_Go K l m_Mo_night 214 [(0, p_r v0), (2, p_i v2), (3, p_i v3), (4, p_i v4), (5, p_i v5)] [p_i r17] s13 _
    cases h
    exact g_ret rfl rfl (dk_Mo_night 119 rfl) (fun os => ⟨_, rfl, p_okh os⟩)
set_option maxRecDepth 100000 in
set_option maxHeartbeats 4000000 in
theorem tL_Mo_night_27 (K : p_K) (l : Launch) (k27 : Nat → Int → Int → Int → Int → p_Hp → Option (Int × p_Hp)) (hk27 : ∀ (v0 : Nat) (v2 : Int) (v3 : Int) (v4 : Int) (v5 : Int)  (s0 : p_Hp) (r : (Int × p_Hp)), k27 v0 v2 v3 v4 v5 s0 = some r → p_Go K l m_Mo_night 27 [(0, p_r v0), (2, p_i v2), (3, p_i v3), (4, p_i v4), (5, p_i v5)] [] s0 (some (p_i r.1), r.2)) (v0 : Nat) (v2 : Int) (v3 : Int) (v4 : Int) (v5 : Int) (s0 : p_Hp) (r : (Int × p_Hp)) (h : L_Mo_night_27 k27 v0 v2 v3 v4 v5 s0 = some r) : p_Go K l m_Mo_night 27 [(0, p_r v0), (2, p_i v2), (3, p_i v3), (4, p_i v4), (5, p_i v5)] [] s0 (some (p_i r.1), r.2) := by
  unfold L_Mo_night_27 at h
  refine g_iload (j := 4) (dk_Mo_night 16 rfl) rfl ?_
  refine g_iload_n (i := 2) (j := 1) (dk_Mo_night 17 rfl) rfl rfl ?_
  refine g_icmp_ge 225 (dk_Mo_night 18 rfl) (by decide) (fun b1 => ?_) (fun b1 => ?_)
  · have h := p_ifT b1 h
    refine g_aload_n (i := 0) (j := 0) (dk_Mo_night 124 rfl) rfl rfl ?_
    refine g_iload (j := 3) (dk_Mo_night 125 rfl) rfl ?_
    obtain ⟨c2, h⟩ := p_gdE h
    obtain ⟨r7, s3, q4, h⟩ := p_bdE h
    have t5 := tF_Mo_well K l v0 v4 s0 _ q4
    refine g_callV (a := v0) (ci := 11) (q0 := (RX11, TX11, 90)) (As := [p_i v4]) (rest := []) [p_i r7] mt_Mo_well rfl rfl tw_7_50 ts_44 tw_7_48 ⟨Nat.le_of_ble_eq_true rfl, Nat.le_of_ble_eq_true rfl⟩ rfl (Nat.le_of_ble_eq_true rfl) (dk_Mo_night 126 rfl) rfl c2 rfl t5 ?_
    have hs6 : p_x s0 s3 := t5.1
    show p_Go K l m_Mo_night 231 [(0, p_r v0), (2, p_i v2), (3, p_i v3), (4, p_i v4), (5, p_i v5)] [p_i r7] s3 _
    cases h
    exact g_ret rfl rfl (dk_Mo_night 127 rfl) (fun os => ⟨_, rfl, p_okh os⟩)
  · have h := p_ifF b1 h
    refine g_iload_n (i := 3) (j := 2) (dk_Mo_night 19 rfl) rfl rfl ?_
    refine g_ldc_w (x := 1103515245) (dk_Mo_night 20 rfl) tw_8_161 (by decide) ?_
    refine g_imul (dk_Mo_night 21 rfl) ?_
    refine g_sipush (dk_Mo_night 22 rfl) rfl (by decide) ?_
    refine g_iadd (dk_Mo_night 23 rfl) ?_
    refine g_istore_n (i := 3) [(3, p_i (p_w ((p_w (v3 * 1103515245)) + 12345))), (0, p_r v0), (2, p_i v2), (4, p_i v4), (5, p_i v5)] (dk_Mo_night 24 rfl) rfl (by decide) rfl ?_
    refine p_ltG (P := fun q => p_Go K l m_Mo_night 43 [(3, p_i q), (0, p_r v0), (2, p_i v2), (4, p_i v4), (5, p_i v5)] [] s0 _) ?_ h
    intro x8 h
    refine g_iload_n (i := 3) (j := 0) (dk_Mo_night 25 rfl) rfl rfl ?_
    refine g_bipush (dk_Mo_night 26 rfl) rfl (by decide) ?_
    refine g_iushr (dk_Mo_night 27 rfl) ?_
    refine g_istore [(6, p_i (p_ushr x8 16)), (3, p_i x8), (0, p_r v0), (2, p_i v2), (4, p_i v4), (5, p_i v5)] (dk_Mo_night 28 rfl) (by decide) rfl ?_
    refine p_ltG (P := fun q => p_Go K l m_Mo_night 49 [(6, p_i q), (3, p_i x8), (0, p_r v0), (2, p_i v2), (4, p_i v4), (5, p_i v5)] [] s0 _) ?_ h
    intro x9 h
    refine g_iload_n (i := 3) (j := 1) (dk_Mo_night 29 rfl) rfl rfl ?_
    refine g_ldc_w (x := 1103515245) (dk_Mo_night 30 rfl) tw_8_161 (by decide) ?_
    refine g_imul (dk_Mo_night 31 rfl) ?_
    refine g_sipush (dk_Mo_night 32 rfl) rfl (by decide) ?_
    refine g_iadd (dk_Mo_night 33 rfl) ?_
    refine g_istore_n (i := 3) [(3, p_i (p_w ((p_w (x8 * 1103515245)) + 12345))), (6, p_i x9), (0, p_r v0), (2, p_i v2), (4, p_i v4), (5, p_i v5)] (dk_Mo_night 34 rfl) rfl (by decide) rfl ?_
    refine p_ltG (P := fun q => p_Go K l m_Mo_night 59 [(3, p_i q), (6, p_i x9), (0, p_r v0), (2, p_i v2), (4, p_i v4), (5, p_i v5)] [] s0 _) ?_ h
    intro x10 h
    refine g_iload_n (i := 3) (j := 0) (dk_Mo_night 35 rfl) rfl rfl ?_
    refine g_bipush (dk_Mo_night 36 rfl) rfl (by decide) ?_
    refine g_iushr (dk_Mo_night 37 rfl) ?_
    refine g_istore [(7, p_i (p_ushr x10 16)), (3, p_i x10), (6, p_i x9), (0, p_r v0), (2, p_i v2), (4, p_i v4), (5, p_i v5)] (dk_Mo_night 38 rfl) (by decide) rfl ?_
    refine p_ltG (P := fun q => p_Go K l m_Mo_night 65 [(7, p_i q), (3, p_i x10), (6, p_i x9), (0, p_r v0), (2, p_i v2), (4, p_i v4), (5, p_i v5)] [] s0 _) ?_ h
    intro x11 h
    refine g_iload_n (i := 3) (j := 1) (dk_Mo_night 39 rfl) rfl rfl ?_
    refine g_ldc_w (x := 1103515245) (dk_Mo_night 40 rfl) tw_8_161 (by decide) ?_
    refine g_imul (dk_Mo_night 41 rfl) ?_
    refine g_sipush (dk_Mo_night 42 rfl) rfl (by decide) ?_
    refine g_iadd (dk_Mo_night 43 rfl) ?_
    refine g_istore_n (i := 3) [(3, p_i (p_w ((p_w (x10 * 1103515245)) + 12345))), (7, p_i x11), (6, p_i x9), (0, p_r v0), (2, p_i v2), (4, p_i v4), (5, p_i v5)] (dk_Mo_night 44 rfl) rfl (by decide) rfl ?_
    refine p_ltG (P := fun q => p_Go K l m_Mo_night 75 [(3, p_i q), (7, p_i x11), (6, p_i x9), (0, p_r v0), (2, p_i v2), (4, p_i v4), (5, p_i v5)] [] s0 _) ?_ h
    intro x12 h
    refine g_iload_n (i := 3) (j := 0) (dk_Mo_night 45 rfl) rfl rfl ?_
    refine g_bipush (dk_Mo_night 46 rfl) rfl (by decide) ?_
    refine g_iushr (dk_Mo_night 47 rfl) ?_
    refine g_istore [(8, p_i (p_ushr x12 16)), (3, p_i x12), (7, p_i x11), (6, p_i x9), (0, p_r v0), (2, p_i v2), (4, p_i v4), (5, p_i v5)] (dk_Mo_night 48 rfl) (by decide) rfl ?_
    refine p_ltG (P := fun q => p_Go K l m_Mo_night 81 [(8, p_i q), (3, p_i x12), (7, p_i x11), (6, p_i x9), (0, p_r v0), (2, p_i v2), (4, p_i v4), (5, p_i v5)] [] s0 _) ?_ h
    intro x13 h
    refine g_aload_n (i := 0) (j := 4) (dk_Mo_night 49 rfl) rfl rfl ?_
    obtain ⟨c14, h⟩ := p_gdE h
    refine g_getR fl_Mo_7 (Or.inr ⟨_, rfl⟩) (dk_Mo_night 50 rfl) c14 ?_
    refine g_aload_n (i := 0) (j := 4) (dk_Mo_night 51 rfl) rfl rfl ?_
    refine g_getI fl_Mo_227 (Or.inl rfl) (dk_Mo_night 52 rfl) c14 ?_
    obtain ⟨c15, h⟩ := p_gdE h
    obtain ⟨c16, h⟩ := p_gdE h
    refine g_iaload (dk_Mo_night 53 rfl) c15 c16.1 c16.2 ?_
    refine g_if_le 201 (dk_Mo_night 54 rfl) (by decide) (fun b17 => ?_) (fun b17 => ?_)
    · have h := p_ifT b17 h
      refine g_sub [(0, p_r v0), (2, p_i v2), (3, p_i x12), (4, p_i v4), (5, p_i v5)] [4, 5, 1, 6, 7] rfl ?_
      exact tB_Mo_night_201 K l k27 hk27 v0 v2 x12 v4 v5 s0 _ h
    · have h := p_ifF b17 h
      refine g_aload_n (i := 0) (j := 4) (dk_Mo_night 55 rfl) rfl rfl ?_
      refine g_getR fl_Mo_16 (Or.inr ⟨_, rfl⟩) (dk_Mo_night 56 rfl) c14 ?_
      refine g_aload_n (i := 0) (j := 4) (dk_Mo_night 57 rfl) rfl rfl ?_
      refine g_iconst (dk_Mo_night 58 rfl) (by decide) ?_
      obtain ⟨r22, s18, q19, h⟩ := p_bdE h
      have t20 := tF_Mo_g K l v0 0 s0 _ q19
      refine g_callV (a := v0) (ci := 11) (q0 := (RX11, TX11, 90)) (As := [p_i 0]) (rest := [p_r (p_R s0 v0 5)]) [p_i r22, p_r (p_R s0 v0 5)] mt_Mo_g rfl rfl tw_7_63 ts_45 tw_7_61 ⟨Nat.le_of_ble_eq_true rfl, Nat.le_of_ble_eq_true rfl⟩ rfl (Nat.le_of_ble_eq_true rfl) (dk_Mo_night 59 rfl) rfl c14 rfl t20 ?_
      have hs21 : p_x s0 s18 := t20.1
      show p_Go K l m_Mo_night 102 [(8, p_i x13), (3, p_i x12), (7, p_i x11), (6, p_i x9), (0, p_r v0), (2, p_i v2), (4, p_i v4), (5, p_i v5)] [p_i r22, p_r (p_R s0 v0 5)] s18 _
      obtain ⟨c23, h⟩ := p_gdE h
      obtain ⟨c24, h⟩ := p_gdE h
      refine g_iaload (dk_Mo_night 60 rfl) c23 c24.1 c24.2 ?_
      obtain ⟨r29, s25, q26, h⟩ := p_bdE h
      have t27 := tF_Mo_isTaker K l (p_Z s18 (p_R s0 v0 5) (r22).toNat) s18 _ q26
      refine g_callS (av := [p_i (p_Z s18 (p_R s0 v0 5) (r22).toNat)]) (rest := []) [p_i r29] mt_Mo_isTaker tw_7_58 tw_7_57 ⟨Nat.le_of_ble_eq_true rfl, Nat.le_of_ble_eq_true rfl⟩ rfl (Nat.le_of_ble_eq_true rfl) (dk_Mo_night 61 rfl) rfl rfl t27 ?_
      have hs28 : p_x s18 s25 := t27.1
      show p_Go K l m_Mo_night 106 [(8, p_i x13), (3, p_i x12), (7, p_i x11), (6, p_i x9), (0, p_r v0), (2, p_i v2), (4, p_i v4), (5, p_i v5)] [p_i r29] s25 _
      refine g_if_eq 201 (dk_Mo_night 62 rfl) (by decide) (fun b30 => ?_) (fun b30 => ?_)
      · have h := p_ifT b30 h
        refine g_sub [(0, p_r v0), (2, p_i v2), (3, p_i x12), (4, p_i v4), (5, p_i v5)] [4, 5, 1, 6, 7] rfl ?_
        exact tB_Mo_night_201 K l k27 hk27 v0 v2 x12 v4 v5 s25 _ h
      · have h := p_ifF b30 h
        refine g_aload_n (i := 0) (j := 4) (dk_Mo_night 63 rfl) rfl rfl ?_
        refine g_getR fl_Mo_16 (Or.inr ⟨_, rfl⟩) (dk_Mo_night 64 rfl) (c14.up (hs21.trans hs28)) ?_
        refine g_aload_n (i := 0) (j := 4) (dk_Mo_night 65 rfl) rfl rfl ?_
        refine g_iconst (dk_Mo_night 66 rfl) (by decide) ?_
        obtain ⟨r35, s31, q32, h⟩ := p_bdE h
        have t33 := tF_Mo_g K l v0 0 s25 _ q32
        refine g_callV (a := v0) (ci := 11) (q0 := (RX11, TX11, 90)) (As := [p_i 0]) (rest := [p_r (p_R s25 v0 5)]) [p_i r35, p_r (p_R s25 v0 5)] mt_Mo_g rfl rfl tw_7_63 ts_45 tw_7_61 ⟨Nat.le_of_ble_eq_true rfl, Nat.le_of_ble_eq_true rfl⟩ rfl (Nat.le_of_ble_eq_true rfl) (dk_Mo_night 67 rfl) rfl (c14.up (hs21.trans hs28)) rfl t33 ?_
        have hs34 : p_x s25 s31 := t33.1
        show p_Go K l m_Mo_night 118 [(8, p_i x13), (3, p_i x12), (7, p_i x11), (6, p_i x9), (0, p_r v0), (2, p_i v2), (4, p_i v4), (5, p_i v5)] [p_i r35, p_r (p_R s25 v0 5)] s31 _
        obtain ⟨c36, h⟩ := p_gdE h
        obtain ⟨c37, h⟩ := p_gdE h
        refine g_iaload (dk_Mo_night 68 rfl) c36 c37.1 c37.2 ?_
        obtain ⟨r42, s38, q39, h⟩ := p_bdE h
        have t40 := tF_Mo_isChute K l (p_Z s31 (p_R s25 v0 5) (r35).toNat) s31 _ q39
        refine g_callS (av := [p_i (p_Z s31 (p_R s25 v0 5) (r35).toNat)]) (rest := []) [p_i r42] mt_Mo_isChute tw_7_178 tw_7_177 ⟨Nat.le_of_ble_eq_true rfl, Nat.le_of_ble_eq_true rfl⟩ rfl (Nat.le_of_ble_eq_true rfl) (dk_Mo_night 69 rfl) rfl rfl t40 ?_
        have hs41 : p_x s31 s38 := t40.1
        show p_Go K l m_Mo_night 122 [(8, p_i x13), (3, p_i x12), (7, p_i x11), (6, p_i x9), (0, p_r v0), (2, p_i v2), (4, p_i v4), (5, p_i v5)] [p_i r42] s38 _
        refine g_if_ne 201 (dk_Mo_night 70 rfl) (by decide) (fun b43 => ?_) (fun b43 => ?_)
        · have h := p_ifT b43 h
          refine g_sub [(0, p_r v0), (2, p_i v2), (3, p_i x12), (4, p_i v4), (5, p_i v5)] [4, 5, 1, 6, 7] rfl ?_
          exact tB_Mo_night_201 K l k27 hk27 v0 v2 x12 v4 v5 s38 _ h
        · have h := p_ifF b43 h
          refine g_aload_n (i := 0) (j := 4) (dk_Mo_night 71 rfl) rfl rfl ?_
          refine g_getR fl_Mo_69 (Or.inr ⟨_, rfl⟩) (dk_Mo_night 72 rfl) (c14.up (hs21.trans (hs28.trans (hs34.trans hs41)))) ?_
          refine g_bipush (dk_Mo_night 73 rfl) rfl (by decide) ?_
          refine g_aload_n (i := 0) (j := 4) (dk_Mo_night 74 rfl) rfl rfl ?_
          refine g_iconst (dk_Mo_night 75 rfl) (by decide) ?_
          obtain ⟨r48, s44, q45, h⟩ := p_bdE h
          have t46 := tF_Mo_g K l v0 0 s38 _ q45
          refine g_callV (a := v0) (ci := 11) (q0 := (RX11, TX11, 90)) (As := [p_i 0]) (rest := [p_i 8, p_r (p_R s38 v0 22)]) [p_i r48, p_i 8, p_r (p_R s38 v0 22)] mt_Mo_g rfl rfl tw_7_63 ts_45 tw_7_61 ⟨Nat.le_of_ble_eq_true rfl, Nat.le_of_ble_eq_true rfl⟩ rfl (Nat.le_of_ble_eq_true rfl) (dk_Mo_night 76 rfl) rfl (c14.up (hs21.trans (hs28.trans (hs34.trans hs41)))) rfl t46 ?_
          have hs47 : p_x s38 s44 := t46.1
          show p_Go K l m_Mo_night 136 [(8, p_i x13), (3, p_i x12), (7, p_i x11), (6, p_i x9), (0, p_r v0), (2, p_i v2), (4, p_i v4), (5, p_i v5)] [p_i r48, p_i 8, p_r (p_R s38 v0 22)] s44 _
          refine g_imul (dk_Mo_night 77 rfl) ?_
          obtain ⟨c49, h⟩ := p_gdE h
          obtain ⟨c50, h⟩ := p_gdE h
          refine g_iaload (dk_Mo_night 78 rfl) c49 c50.1 c50.2 ?_
          refine g_if_ne 201 (dk_Mo_night 79 rfl) (by decide) (fun b51 => ?_) (fun b51 => ?_)
          · have h := p_ifT b51 h
            refine g_sub [(0, p_r v0), (2, p_i v2), (3, p_i x12), (4, p_i v4), (5, p_i v5)] [4, 5, 1, 6, 7] rfl ?_
            exact tB_Mo_night_201 K l k27 hk27 v0 v2 x12 v4 v5 s44 _ h
          · have h := p_ifF b51 h
            refine g_aload_n (i := 0) (j := 4) (dk_Mo_night 80 rfl) rfl rfl ?_
            obtain ⟨r56, s52, q53, h⟩ := p_bdE h
            have t54 := tF_Mo_comesFull K l v0 s44 _ q53
            refine g_callV (a := v0) (ci := 11) (q0 := (RX11, TX11, 90)) (As := []) (rest := []) [p_i r56] mt_Mo_comesFull rfl rfl tw_7_182 ts_59 tw_7_180 ⟨Nat.le_of_ble_eq_true rfl, Nat.le_of_ble_eq_true rfl⟩ rfl (Nat.le_of_ble_eq_true rfl) (dk_Mo_night 81 rfl) rfl (c14.up (hs21.trans (hs28.trans (hs34.trans (hs41.trans hs47))))) rfl t54 ?_
            have hs55 : p_x s44 s52 := t54.1
            show p_Go K l m_Mo_night 145 [(8, p_i x13), (3, p_i x12), (7, p_i x11), (6, p_i x9), (0, p_r v0), (2, p_i v2), (4, p_i v4), (5, p_i v5)] [p_i r56] s52 _
            refine g_if_ne 201 (dk_Mo_night 82 rfl) (by decide) (fun b57 => ?_) (fun b57 => ?_)
            · have h := p_ifT b57 h
              refine g_sub [(0, p_r v0), (2, p_i v2), (3, p_i x12), (4, p_i v4), (5, p_i v5)] [4, 5, 1, 6, 7] rfl ?_
              exact tB_Mo_night_201 K l k27 hk27 v0 v2 x12 v4 v5 s52 _ h
            · have h := p_ifF b57 h
              refine g_aload_n (i := 0) (j := 4) (dk_Mo_night 83 rfl) rfl rfl ?_
              refine g_iconst (dk_Mo_night 84 rfl) (by decide) ?_
              refine g_iconst (dk_Mo_night 85 rfl) (by decide) ?_
              refine g_iload (j := 3) (dk_Mo_night 86 rfl) rfl ?_
              refine g_sipush (dk_Mo_night 87 rfl) rfl (by decide) ?_
              refine g_irem (dk_Mo_night 88 rfl) (by decide) ?_
              refine g_iadd (dk_Mo_night 89 rfl) ?_
              refine g_iload (j := 3) (dk_Mo_night 90 rfl) rfl ?_
              refine g_sipush (dk_Mo_night 91 rfl) rfl (by decide) ?_
              refine g_idiv (dk_Mo_night 92 rfl) (by decide) ?_
              refine g_bipush (dk_Mo_night 93 rfl) rfl (by decide) ?_
              refine g_irem (dk_Mo_night 94 rfl) (by decide) ?_
              obtain ⟨r62, s58, q59, h⟩ := p_bdE h
              have t60 := tF_Mo_newParcel K l v0 0 (p_w (1 + (p_rem x9 200))) (p_rem (p_div x9 200) 10) s52 _ q59
              refine g_callV (a := v0) (ci := 11) (q0 := (RX11, TX11, 90)) (As := [p_i 0, p_i (p_w (1 + (p_rem x9 200))), p_i (p_rem (p_div x9 200) 10)]) (rest := []) [p_i r62] mt_Mo_newParcel rfl rfl tw_7_186 ts_60 tw_7_184 ⟨Nat.le_of_ble_eq_true rfl, Nat.le_of_ble_eq_true rfl⟩ rfl (Nat.le_of_ble_eq_true rfl) (dk_Mo_night 95 rfl) rfl (c14.up (hs21.trans (hs28.trans (hs34.trans (hs41.trans (hs47.trans hs55)))))) rfl t60 ?_
              have hs61 : p_x s52 s58 := t60.1
              show p_Go K l m_Mo_night 170 [(8, p_i x13), (3, p_i x12), (7, p_i x11), (6, p_i x9), (0, p_r v0), (2, p_i v2), (4, p_i v4), (5, p_i v5)] [p_i r62] s58 _
              refine g_istore [(9, p_i r62), (8, p_i x13), (3, p_i x12), (7, p_i x11), (6, p_i x9), (0, p_r v0), (2, p_i v2), (4, p_i v4), (5, p_i v5)] (dk_Mo_night 96 rfl) (by decide) rfl ?_
              refine g_iinc (j := 7) [(4, p_i (p_w (v4 + 1))), (9, p_i r62), (8, p_i x13), (3, p_i x12), (7, p_i x11), (6, p_i x9), (0, p_r v0), (2, p_i v2), (5, p_i v5)] (dk_Mo_night 97 rfl) rfl (by decide) rfl ?_
              refine p_ltG (P := fun q => p_Go K l m_Mo_night 175 [(4, p_i q), (9, p_i r62), (8, p_i x13), (3, p_i x12), (7, p_i x11), (6, p_i x9), (0, p_r v0), (2, p_i v2), (5, p_i v5)] [] s58 _) ?_ h
              intro x63 h
              refine g_aload_n (i := 0) (j := 6) (dk_Mo_night 98 rfl) rfl rfl ?_
              refine g_iload (j := 1) (dk_Mo_night 99 rfl) rfl ?_
              refine g_iload (j := 4) (dk_Mo_night 100 rfl) rfl ?_
              refine g_bipush (dk_Mo_night 101 rfl) rfl (by decide) ?_
              refine g_idiv (dk_Mo_night 102 rfl) (by decide) ?_
              refine g_iconst (dk_Mo_night 103 rfl) (by decide) ?_
              refine g_irem (dk_Mo_night 104 rfl) (by decide) ?_
              refine g_iload (j := 4) (dk_Mo_night 105 rfl) rfl ?_
              refine g_bipush (dk_Mo_night 106 rfl) rfl (by decide) ?_
              refine g_irem (dk_Mo_night 107 rfl) (by decide) ?_
              obtain ⟨s64, q65, h⟩ := p_bvE h
              have t66 := tF_Mo_tags K l v0 r62 (p_rem (p_div x11 100) 2) (p_rem x11 100) s58 _ q65
              refine g_callV (a := v0) (ci := 11) (q0 := (RX11, TX11, 90)) (As := [p_i r62, p_i (p_rem (p_div x11 100) 2), p_i (p_rem x11 100)]) (rest := []) [] mt_Mo_tags rfl rfl tw_7_215 ts_64 tw_7_213 ⟨Nat.le_of_ble_eq_true rfl, Nat.le_of_ble_eq_true rfl⟩ rfl (Nat.le_of_ble_eq_true rfl) (dk_Mo_night 108 rfl) rfl (c14.up (hs21.trans (hs28.trans (hs34.trans (hs41.trans (hs47.trans (hs55.trans hs61))))))) rfl t66 ?_
              have hs67 : p_x s58 s64 := t66.1
              show p_Go K l m_Mo_night 193 [(4, p_i x63), (9, p_i r62), (8, p_i x13), (3, p_i x12), (7, p_i x11), (6, p_i x9), (0, p_r v0), (2, p_i v2), (5, p_i v5)] [] s64 _
              refine g_aload_n (i := 0) (j := 6) (dk_Mo_night 109 rfl) rfl rfl ?_
              refine g_iload (j := 1) (dk_Mo_night 110 rfl) rfl ?_
              refine g_iload (j := 2) (dk_Mo_night 111 rfl) rfl ?_
              obtain ⟨s68, q69, h⟩ := p_bvE h
              have t70 := tF_Mo_spoils K l v0 r62 x13 s64 _ q69
              refine g_callV (a := v0) (ci := 11) (q0 := (RX11, TX11, 90)) (As := [p_i r62, p_i x13]) (rest := []) [] mt_Mo_spoils rfl rfl tw_8_164 ts_99 tw_8_162 ⟨Nat.le_of_ble_eq_true rfl, Nat.le_of_ble_eq_true rfl⟩ rfl (Nat.le_of_ble_eq_true rfl) (dk_Mo_night 112 rfl) rfl (c14.up (hs21.trans (hs28.trans (hs34.trans (hs41.trans (hs47.trans (hs55.trans (hs61.trans hs67)))))))) rfl t70 ?_
              have hs71 : p_x s64 s68 := t70.1
              show p_Go K l m_Mo_night 201 [(4, p_i x63), (9, p_i r62), (8, p_i x13), (3, p_i x12), (7, p_i x11), (6, p_i x9), (0, p_r v0), (2, p_i v2), (5, p_i v5)] [] s68 _
              refine g_sub [(0, p_r v0), (2, p_i v2), (3, p_i x12), (4, p_i x63), (5, p_i v5)] [6, 7, 3, 0, 8] rfl ?_
              exact tB_Mo_night_201 K l k27 hk27 v0 v2 x12 x63 v5 s68 _ h
set_option maxRecDepth 100000 in
set_option maxHeartbeats 4000000 in
theorem tO_Mo_night_27 (K : p_K) (l : Launch)  : ∀ (n : Nat) (v0 : Nat) (v2 : Int) (v3 : Int) (v4 : Int) (v5 : Int) (s0 : p_Hp) (r : (Int × p_Hp)), O_Mo_night_27 n v0 v2 v3 v4 v5 s0 = some r → p_Go K l m_Mo_night 27 [(0, p_r v0), (2, p_i v2), (3, p_i v3), (4, p_i v4), (5, p_i v5)] [] s0 (some (p_i r.1), r.2) := by
  intro n
  induction n with
  | zero => intro v0 v2 v3 v4 v5 s0 r h; cases (show (none : Option (Int × p_Hp)) = some r from h)
  | succ n ih => intro v0 v2 v3 v4 v5 s0 r h; exact tL_Mo_night_27 K l _ ih v0 v2 v3 v4 v5 s0 r h
set_option maxRecDepth 100000 in
set_option maxHeartbeats 4000000 in
theorem tF_Mo_night (K : p_K) (l : Launch) (v0 : Nat) (v1 : Int) (v2 : Int) (s0 : p_Hp) (r : (Int × p_Hp)) (h : F_Mo_night v0 v1 v2 s0 = some r) : p_Ct K l m_Mo_night [p_r v0, p_i v1, p_i v2] s0 (some (p_i r.1), r.2) := by
  refine p_Ct.of (by decide) (Nat.le_of_ble_eq_true rfl) ?_
  unfold F_Mo_night at h
  show p_Go K l m_Mo_night 0 [(0, p_r v0), (1, p_i v1), (2, p_i v2)] [] s0 _
  refine g_iload_n (i := 2) (j := 2) (dk_Mo_night 0 rfl) rfl rfl ?_
  refine g_i2l (dk_Mo_night 1 rfl) ?_
  refine g_lconst (x := 1) (dk_Mo_night 2 rfl) rfl (by decide) ?_
  refine g_ldc2_w (x := 20) (dk_Mo_night 3 rfl) tw_7_229 (by decide) ?_
  obtain ⟨r5, s1, q2, h⟩ := p_bdE h
  have t3 := tF_Mo_beyond K l v2 1 20 s0 _ q2
  refine g_callS (av := [p_j v2, p_j 1, p_j 20]) (rest := []) [p_i r5] mt_Mo_beyond tw_7_42 tw_7_41 ⟨Nat.le_of_ble_eq_true rfl, Nat.le_of_ble_eq_true rfl⟩ rfl (Nat.le_of_ble_eq_true rfl) (dk_Mo_night 4 rfl) rfl rfl t3 ?_
  have hs4 : p_x s0 s1 := t3.1
  show p_Go K l m_Mo_night 9 [(0, p_r v0), (1, p_i v1), (2, p_i v2)] [p_i r5] s1 _
  refine g_if_eq 19 (dk_Mo_night 5 rfl) (by decide) (fun b6 => ?_) (fun b6 => ?_)
  · have h := p_ifT b6 h
    refine g_iload_n (i := 1) (j := 1) (dk_Mo_night 10 rfl) rfl rfl ?_
    refine g_istore_n (i := 3) [(3, p_i v1), (0, p_r v0), (1, p_i v1), (2, p_i v2)] (dk_Mo_night 11 rfl) rfl (by decide) rfl ?_
    refine g_iconst (dk_Mo_night 12 rfl) (by decide) ?_
    refine g_istore [(4, p_i 0), (3, p_i v1), (0, p_r v0), (1, p_i v1), (2, p_i v2)] (dk_Mo_night 13 rfl) (by decide) rfl ?_
    refine g_iconst (dk_Mo_night 14 rfl) (by decide) ?_
    refine g_istore [(5, p_i 0), (4, p_i 0), (3, p_i v1), (0, p_r v0), (1, p_i v1), (2, p_i v2)] (dk_Mo_night 15 rfl) (by decide) rfl ?_
    refine g_sub [(0, p_r v0), (2, p_i v2), (3, p_i v1), (4, p_i 0), (5, p_i 0)] [3, 5, 2, 1, 0] rfl ?_
    exact tO_Mo_night_27 K l 3000 v0 v2 v1 0 0 s1 _ h
  · have h := p_ifF b6 h
    refine g_aload_n (i := 0) (j := 0) (dk_Mo_night 6 rfl) rfl rfl ?_
    refine g_bipush (dk_Mo_night 7 rfl) rfl (by decide) ?_
    obtain ⟨c7, h⟩ := p_gdE h
    obtain ⟨r12, s8, q9, h⟩ := p_bdE h
    have t10 := tF_Mo_refused K l v0 (-2) s1 _ q9
    refine g_callV (a := v0) (ci := 11) (q0 := (RX11, TX11, 90)) (As := [p_i (-2)]) (rest := []) [p_i r12] mt_Mo_refused rfl rfl tw_7_46 ts_43 tw_7_44 ⟨Nat.le_of_ble_eq_true rfl, Nat.le_of_ble_eq_true rfl⟩ rfl (Nat.le_of_ble_eq_true rfl) (dk_Mo_night 8 rfl) rfl c7 rfl t10 ?_
    have hs11 : p_x s1 s8 := t10.1
    show p_Go K l m_Mo_night 18 [(0, p_r v0), (1, p_i v1), (2, p_i v2)] [p_i r12] s8 _
    cases h
    exact g_ret rfl rfl (dk_Mo_night 9 rfl) (fun os => ⟨_, rfl, p_okh os⟩)
def m_Mo_back : p_Me := (⟨"SortWorksModel", "back", "(I)I"⟩, prog_13_method_93_code, 2, (some .int), 3, 68)
theorem mt_Mo_back : p_Mt m_Mo_back 1 := ⟨p_mem (p_tb8 (List.mem_of_getElem? (i := 169) rfl)) rfl, tw_1_12, by decide +kernel, by decide +kernel, by decide +kernel⟩
def dt_Mo_back : List (Nat × Instr × Nat) := [(0, .iload_n 1, 1), (1, .i2l, 1), (2, .lconst 1, 1), (3, .ldc2_w 515, 3), (6, .invokestatic 230, 3), (9, .ifCond .eq 10, 3), (12, .aload_n 0, 1), (13, .bipush (-2), 2), (15, .invokevirtual 240, 3), (18, .ireturn, 1), (19, .iload_n 1, 1), (20, .aload_n 0, 1), (21, .getfield 207, 3), (24, .aload_n 0, 1), (25, .getfield 227, 3), (28, .iaload, 1), (29, .if_icmp .le 10, 3), (32, .aload_n 0, 1), (33, .bipush (-3), 2), (35, .invokevirtual 240, 3), (38, .ireturn, 1), (39, .aload_n 0, 1), (40, .getfield 207, 3), (43, .aload_n 0, 1), (44, .getfield 227, 3), (47, .dup2, 1), (48, .iaload, 1), (49, .iload_n 1, 1), (50, .isub, 1), (51, .iastore, 1), (52, .aload_n 0, 1), (53, .iconst 0, 1), (54, .putfield 496, 3), (57, .aload_n 0, 1), (58, .aload_n 0, 1), (59, .getfield 210, 3), (62, .aload_n 0, 1), (63, .getfield 227, 3), (66, .iaload, 1), (67, .aload_n 0, 1), (68, .getfield 207, 3), (71, .aload_n 0, 1), (72, .getfield 227, 3), (75, .iaload, 1), (76, .iadd, 1), (77, .bipush 30, 2), (79, .irem, 1), (80, .invokevirtual 503, 3), (83, .aload_n 0, 1), (84, .getfield 132, 3), (87, .aload_n 0, 1), (88, .getfield 227, 3), (91, .iconst 0, 1), (92, .iastore, 1), (93, .aload_n 0, 1), (94, .aload_n 0, 1), (95, .getfield 13, 3), (98, .aload_n 0, 1), (99, .getfield 227, 3), (102, .iaload, 1), (103, .invokevirtual 244, 3), (106, .ireturn, 1)]
theorem dk_Mo_back (i : Nat) {pc : Nat} {ins : Instr} {len : Nat} (h : dt_Mo_back[i]? = some (pc, ins, len)) : decode m_Mo_back.2.1 pc = .ok (ins, len) := p_dk (b := m_Mo_back.2.1) (t := dt_Mo_back) (by decide +kernel) i h
def F_Mo_back (v0 : Nat) (v1 : Int) (s0 : p_Hp) : Option (Int × p_Hp) :=
  p_bd (F_Mo_beyond v1 1 30 s0) fun r5 s1 =>
  if r5 = 0 then
    p_gd (p_is s1 v0 11) <|
    p_gd (p_is s1 (p_R s1 v0 81) 100) <|
    p_gd (0 ≤ (p_Z s1 v0 0) ∧ (p_Z s1 v0 0) < (p_L s1 (p_R s1 v0 81) : Int)) <|
    if v1 ≤ (p_Z s1 (p_R s1 v0 81) ((p_Z s1 v0 0)).toNat) then
      p_gd (0 ≤ (p_Z s1 v0 0) ∧ (p_Z s1 v0 0) < (p_L s1 (p_R s1 v0 81) : Int)) <|
      p_gd (0 ≤ (p_Z s1 v0 0) ∧ (p_Z s1 v0 0) < (p_L s1 (p_R s1 v0 81) : Int)) <|
      p_bi (p_wZ s1 (p_R s1 v0 81) ((p_Z s1 v0 0)).toNat (p_w ((p_Z s1 (p_R s1 v0 81) ((p_Z s1 v0 0)).toNat) - v1))) fun s13 =>
      p_bi (p_wZ s13 v0 85 0) fun s15 =>
      p_gd (p_is s15 (p_R s15 v0 82) 100) <|
      p_gd (0 ≤ (p_Z s15 v0 0) ∧ (p_Z s15 v0 0) < (p_L s15 (p_R s15 v0 82) : Int)) <|
      p_gd (p_is s15 (p_R s15 v0 81) 100) <|
      p_gd (0 ≤ (p_Z s15 v0 0) ∧ (p_Z s15 v0 0) < (p_L s15 (p_R s15 v0 81) : Int)) <|
      p_bv (F_Mo_goOver v0 (p_rem (p_w ((p_Z s15 (p_R s15 v0 82) ((p_Z s15 v0 0)).toNat) + (p_Z s15 (p_R s15 v0 81) ((p_Z s15 v0 0)).toNat))) 30) s15) fun s21 =>
      p_gd (p_is s21 (p_R s21 v0 44) 100) <|
      p_gd (0 ≤ (p_Z s21 v0 0) ∧ (p_Z s21 v0 0) < (p_L s21 (p_R s21 v0 44) : Int)) <|
      p_bi (p_wZ s21 (p_R s21 v0 44) ((p_Z s21 v0 0)).toNat 0) fun s27 =>
      p_gd (p_is s27 (p_R s27 v0 4) 100) <|
      p_gd (0 ≤ (p_Z s27 v0 0) ∧ (p_Z s27 v0 0) < (p_L s27 (p_R s27 v0 4) : Int)) <|
      p_bd (F_Mo_well v0 (p_Z s27 (p_R s27 v0 4) ((p_Z s27 v0 0)).toNat) s27) fun r35 s31 =>
      some (r35, s31)
    else
      p_bd (F_Mo_refused v0 (-3) s1) fun r40 s36 =>
      some (r40, s36)
  else
    p_gd (p_is s1 v0 11) <|
    p_bd (F_Mo_refused v0 (-2) s1) fun r46 s42 =>
    some (r46, s42)
set_option maxRecDepth 100000 in
set_option maxHeartbeats 4000000 in
theorem tF_Mo_back (K : p_K) (l : Launch) (v0 : Nat) (v1 : Int) (s0 : p_Hp) (r : (Int × p_Hp)) (h : F_Mo_back v0 v1 s0 = some r) : p_Ct K l m_Mo_back [p_r v0, p_i v1] s0 (some (p_i r.1), r.2) := by
  refine p_Ct.of (by decide) (Nat.le_of_ble_eq_true rfl) ?_
  unfold F_Mo_back at h
  show p_Go K l m_Mo_back 0 [(0, p_r v0), (1, p_i v1)] [] s0 _
  refine g_iload_n (i := 1) (j := 1) (dk_Mo_back 0 rfl) rfl rfl ?_
  refine g_i2l (dk_Mo_back 1 rfl) ?_
  refine g_lconst (x := 1) (dk_Mo_back 2 rfl) rfl (by decide) ?_
  refine g_ldc2_w (x := 30) (dk_Mo_back 3 rfl) tw_8_170 (by decide) ?_
  obtain ⟨r5, s1, q2, h⟩ := p_bdE h
  have t3 := tF_Mo_beyond K l v1 1 30 s0 _ q2
  refine g_callS (av := [p_j v1, p_j 1, p_j 30]) (rest := []) [p_i r5] mt_Mo_beyond tw_7_42 tw_7_41 ⟨Nat.le_of_ble_eq_true rfl, Nat.le_of_ble_eq_true rfl⟩ rfl (Nat.le_of_ble_eq_true rfl) (dk_Mo_back 4 rfl) rfl rfl t3 ?_
  have hs4 : p_x s0 s1 := t3.1
  show p_Go K l m_Mo_back 9 [(0, p_r v0), (1, p_i v1)] [p_i r5] s1 _
  refine g_if_eq 19 (dk_Mo_back 5 rfl) (by decide) (fun b6 => ?_) (fun b6 => ?_)
  · have h := p_ifT b6 h
    refine g_iload_n (i := 1) (j := 1) (dk_Mo_back 10 rfl) rfl rfl ?_
    refine g_aload_n (i := 0) (j := 0) (dk_Mo_back 11 rfl) rfl rfl ?_
    obtain ⟨c7, h⟩ := p_gdE h
    refine g_getR fl_Mo_207 (Or.inr ⟨_, rfl⟩) (dk_Mo_back 12 rfl) c7 ?_
    refine g_aload_n (i := 0) (j := 0) (dk_Mo_back 13 rfl) rfl rfl ?_
    refine g_getI fl_Mo_227 (Or.inl rfl) (dk_Mo_back 14 rfl) c7 ?_
    obtain ⟨c8, h⟩ := p_gdE h
    obtain ⟨c9, h⟩ := p_gdE h
    refine g_iaload (dk_Mo_back 15 rfl) c8 c9.1 c9.2 ?_
    refine g_icmp_le 39 (dk_Mo_back 16 rfl) (by decide) (fun b10 => ?_) (fun b10 => ?_)
    · have h := p_ifT b10 h
      refine g_aload_n (i := 0) (j := 0) (dk_Mo_back 21 rfl) rfl rfl ?_
      refine g_getR fl_Mo_207 (Or.inr ⟨_, rfl⟩) (dk_Mo_back 22 rfl) c7 ?_
      refine g_aload_n (i := 0) (j := 0) (dk_Mo_back 23 rfl) rfl rfl ?_
      refine g_getI fl_Mo_227 (Or.inl rfl) (dk_Mo_back 24 rfl) c7 ?_
      refine g_dup2 (dk_Mo_back 25 rfl) rfl rfl ?_
      obtain ⟨c11, h⟩ := p_gdE h
      refine g_iaload (dk_Mo_back 26 rfl) c8 c11.1 c11.2 ?_
      refine g_iload_n (i := 1) (j := 1) (dk_Mo_back 27 rfl) rfl rfl ?_
      refine g_isub (dk_Mo_back 28 rfl) ?_
      obtain ⟨c12, h⟩ := p_gdE h
      refine g_iastore (dk_Mo_back 29 rfl) c8 c12.1 c12.2 ?_
      refine p_ltS (P := fun q => p_Go K l m_Mo_back 52 [(0, p_r v0), (1, p_i v1)] [] q _) (p_xZ _ _ _ _) ?_ h
      intro s13 hs14 h
      refine g_aload_n (i := 0) (j := 0) (dk_Mo_back 30 rfl) rfl rfl ?_
      refine g_iconst (dk_Mo_back 31 rfl) (by decide) ?_
      refine g_putB fl_Mo_496 (Or.inl rfl) (dk_Mo_back 32 rfl) (c7.up hs14) (Or.inl rfl) ?_
      refine p_ltS (P := fun q => p_Go K l m_Mo_back 57 [(0, p_r v0), (1, p_i v1)] [] q _) (p_xZ _ _ _ _) ?_ h
      intro s15 hs16 h
      refine g_aload_n (i := 0) (j := 0) (dk_Mo_back 33 rfl) rfl rfl ?_
      refine g_aload_n (i := 0) (j := 0) (dk_Mo_back 34 rfl) rfl rfl ?_
      refine g_getR fl_Mo_210 (Or.inr ⟨_, rfl⟩) (dk_Mo_back 35 rfl) (c7.up (hs14.trans hs16)) ?_
      refine g_aload_n (i := 0) (j := 0) (dk_Mo_back 36 rfl) rfl rfl ?_
      refine g_getI fl_Mo_227 (Or.inl rfl) (dk_Mo_back 37 rfl) (c7.up (hs14.trans hs16)) ?_
      obtain ⟨c17, h⟩ := p_gdE h
      obtain ⟨c18, h⟩ := p_gdE h
      refine g_iaload (dk_Mo_back 38 rfl) c17 c18.1 c18.2 ?_
      refine g_aload_n (i := 0) (j := 0) (dk_Mo_back 39 rfl) rfl rfl ?_
      refine g_getR fl_Mo_207 (Or.inr ⟨_, rfl⟩) (dk_Mo_back 40 rfl) (c7.up (hs14.trans hs16)) ?_
      refine g_aload_n (i := 0) (j := 0) (dk_Mo_back 41 rfl) rfl rfl ?_
      refine g_getI fl_Mo_227 (Or.inl rfl) (dk_Mo_back 42 rfl) (c7.up (hs14.trans hs16)) ?_
      obtain ⟨c19, h⟩ := p_gdE h
      obtain ⟨c20, h⟩ := p_gdE h
      refine g_iaload (dk_Mo_back 43 rfl) c19 c20.1 c20.2 ?_
      refine g_iadd (dk_Mo_back 44 rfl) ?_
      refine g_bipush (dk_Mo_back 45 rfl) rfl (by decide) ?_
      refine g_irem (dk_Mo_back 46 rfl) (by decide) ?_
      obtain ⟨s21, q22, h⟩ := p_bvE h
      have t23 := tF_Mo_goOver K l v0 (p_rem (p_w ((p_Z s15 (p_R s15 v0 82) ((p_Z s15 v0 0)).toNat) + (p_Z s15 (p_R s15 v0 81) ((p_Z s15 v0 0)).toNat))) 30) s15 _ q22
      refine g_callV (a := v0) (ci := 11) (q0 := (RX11, TX11, 90)) (As := [p_i (p_rem (p_w ((p_Z s15 (p_R s15 v0 82) ((p_Z s15 v0 0)).toNat) + (p_Z s15 (p_R s15 v0 81) ((p_Z s15 v0 0)).toNat))) 30)]) (rest := []) [] mt_Mo_goOver rfl rfl tw_8_40 ts_70 tw_8_38 ⟨Nat.le_of_ble_eq_true rfl, Nat.le_of_ble_eq_true rfl⟩ rfl (Nat.le_of_ble_eq_true rfl) (dk_Mo_back 47 rfl) rfl (c7.up (hs14.trans hs16)) rfl t23 ?_
      have hs24 : p_x s15 s21 := t23.1
      show p_Go K l m_Mo_back 83 [(0, p_r v0), (1, p_i v1)] [] s21 _
      refine g_aload_n (i := 0) (j := 0) (dk_Mo_back 48 rfl) rfl rfl ?_
      refine g_getR fl_Mo_132 (Or.inr ⟨_, rfl⟩) (dk_Mo_back 49 rfl) (c7.up (hs14.trans (hs16.trans hs24))) ?_
      refine g_aload_n (i := 0) (j := 0) (dk_Mo_back 50 rfl) rfl rfl ?_
      refine g_getI fl_Mo_227 (Or.inl rfl) (dk_Mo_back 51 rfl) (c7.up (hs14.trans (hs16.trans hs24))) ?_
      refine g_iconst (dk_Mo_back 52 rfl) (by decide) ?_
      obtain ⟨c25, h⟩ := p_gdE h
      obtain ⟨c26, h⟩ := p_gdE h
      refine g_iastore (dk_Mo_back 53 rfl) c25 c26.1 c26.2 ?_
      refine p_ltS (P := fun q => p_Go K l m_Mo_back 93 [(0, p_r v0), (1, p_i v1)] [] q _) (p_xZ _ _ _ _) ?_ h
      intro s27 hs28 h
      refine g_aload_n (i := 0) (j := 0) (dk_Mo_back 54 rfl) rfl rfl ?_
      refine g_aload_n (i := 0) (j := 0) (dk_Mo_back 55 rfl) rfl rfl ?_
      refine g_getR fl_Mo_13 (Or.inr ⟨_, rfl⟩) (dk_Mo_back 56 rfl) (c7.up (hs14.trans (hs16.trans (hs24.trans hs28)))) ?_
      refine g_aload_n (i := 0) (j := 0) (dk_Mo_back 57 rfl) rfl rfl ?_
      refine g_getI fl_Mo_227 (Or.inl rfl) (dk_Mo_back 58 rfl) (c7.up (hs14.trans (hs16.trans (hs24.trans hs28)))) ?_
      obtain ⟨c29, h⟩ := p_gdE h
      obtain ⟨c30, h⟩ := p_gdE h
      refine g_iaload (dk_Mo_back 59 rfl) c29 c30.1 c30.2 ?_
      obtain ⟨r35, s31, q32, h⟩ := p_bdE h
      have t33 := tF_Mo_well K l v0 (p_Z s27 (p_R s27 v0 4) ((p_Z s27 v0 0)).toNat) s27 _ q32
      refine g_callV (a := v0) (ci := 11) (q0 := (RX11, TX11, 90)) (As := [p_i (p_Z s27 (p_R s27 v0 4) ((p_Z s27 v0 0)).toNat)]) (rest := []) [p_i r35] mt_Mo_well rfl rfl tw_7_50 ts_44 tw_7_48 ⟨Nat.le_of_ble_eq_true rfl, Nat.le_of_ble_eq_true rfl⟩ rfl (Nat.le_of_ble_eq_true rfl) (dk_Mo_back 60 rfl) rfl (c7.up (hs14.trans (hs16.trans (hs24.trans hs28)))) rfl t33 ?_
      have hs34 : p_x s27 s31 := t33.1
      show p_Go K l m_Mo_back 106 [(0, p_r v0), (1, p_i v1)] [p_i r35] s31 _
      cases h
      exact g_ret rfl rfl (dk_Mo_back 61 rfl) (fun os => ⟨_, rfl, p_okh os⟩)
    · have h := p_ifF b10 h
      refine g_aload_n (i := 0) (j := 0) (dk_Mo_back 17 rfl) rfl rfl ?_
      refine g_bipush (dk_Mo_back 18 rfl) rfl (by decide) ?_
      obtain ⟨r40, s36, q37, h⟩ := p_bdE h
      have t38 := tF_Mo_refused K l v0 (-3) s1 _ q37
      refine g_callV (a := v0) (ci := 11) (q0 := (RX11, TX11, 90)) (As := [p_i (-3)]) (rest := []) [p_i r40] mt_Mo_refused rfl rfl tw_7_46 ts_43 tw_7_44 ⟨Nat.le_of_ble_eq_true rfl, Nat.le_of_ble_eq_true rfl⟩ rfl (Nat.le_of_ble_eq_true rfl) (dk_Mo_back 19 rfl) rfl c7 rfl t38 ?_
      have hs39 : p_x s1 s36 := t38.1
      show p_Go K l m_Mo_back 38 [(0, p_r v0), (1, p_i v1)] [p_i r40] s36 _
      cases h
      exact g_ret rfl rfl (dk_Mo_back 20 rfl) (fun os => ⟨_, rfl, p_okh os⟩)
  · have h := p_ifF b6 h
    refine g_aload_n (i := 0) (j := 0) (dk_Mo_back 6 rfl) rfl rfl ?_
    refine g_bipush (dk_Mo_back 7 rfl) rfl (by decide) ?_
    obtain ⟨c41, h⟩ := p_gdE h
    obtain ⟨r46, s42, q43, h⟩ := p_bdE h
    have t44 := tF_Mo_refused K l v0 (-2) s1 _ q43
    refine g_callV (a := v0) (ci := 11) (q0 := (RX11, TX11, 90)) (As := [p_i (-2)]) (rest := []) [p_i r46] mt_Mo_refused rfl rfl tw_7_46 ts_43 tw_7_44 ⟨Nat.le_of_ble_eq_true rfl, Nat.le_of_ble_eq_true rfl⟩ rfl (Nat.le_of_ble_eq_true rfl) (dk_Mo_back 8 rfl) rfl c41 rfl t44 ?_
    have hs45 : p_x s1 s42 := t44.1
    show p_Go K l m_Mo_back 18 [(0, p_r v0), (1, p_i v1)] [p_i r46] s42 _
    cases h
    exact g_ret rfl rfl (dk_Mo_back 9 rfl) (fun os => ⟨_, rfl, p_okh os⟩)
def m_Mo_status : p_Me := (⟨"SortWorksModel", "status", "()I"⟩, prog_13_method_94_code, 1, (some .int), 0, 0)
theorem mt_Mo_status : p_Mt m_Mo_status 0 := ⟨p_mem (p_tb8 (List.mem_of_getElem? (i := 174) rfl)) rfl, tw_1_12, by decide +kernel, by decide +kernel, by decide +kernel⟩
def dt_Mo_status : List (Nat × Instr × Nat) := [(0, .aload_n 0, 1), (1, .getfield 220, 3), (4, .ireturn, 1)]
theorem dk_Mo_status (i : Nat) {pc : Nat} {ins : Instr} {len : Nat} (h : dt_Mo_status[i]? = some (pc, ins, len)) : decode m_Mo_status.2.1 pc = .ok (ins, len) := p_dk (b := m_Mo_status.2.1) (t := dt_Mo_status) (by decide +kernel) i h
def F_Mo_status (v0 : Nat) (s0 : p_Hp) : Option (Int × p_Hp) :=
  p_gd (p_is s0 v0 11) <|
  some ((p_Z s0 v0 1), s0)
set_option maxRecDepth 100000 in
set_option maxHeartbeats 4000000 in
theorem tF_Mo_status (K : p_K) (l : Launch) (v0 : Nat) (s0 : p_Hp) (r : (Int × p_Hp)) (h : F_Mo_status v0 s0 = some r) : p_Ct K l m_Mo_status [p_r v0] s0 (some (p_i r.1), r.2) := by
  refine p_Ct.of (by decide) (Nat.le_of_ble_eq_true rfl) ?_
  unfold F_Mo_status at h
  show p_Go K l m_Mo_status 0 [(0, p_r v0)] [] s0 _
  refine g_aload_n (i := 0) (j := 0) (dk_Mo_status 0 rfl) rfl rfl ?_
  obtain ⟨c1, h⟩ := p_gdE h
  refine g_getI fl_Mo_220 (Or.inl rfl) (dk_Mo_status 1 rfl) c1 ?_
  cases h
  exact g_ret rfl rfl (dk_Mo_status 2 rfl) (fun os => ⟨_, rfl, p_okh os⟩)
def m_Mo_toldMore : p_Me := (⟨"SortWorksModel", "toldMore", "(II)I"⟩, prog_13_method_96_code, 3, (some .int), 1, 23)
theorem mt_Mo_toldMore : p_Mt m_Mo_toldMore 2 := ⟨p_mem (p_tb8 (List.mem_of_getElem? (i := 182) rfl)) rfl, tw_1_12, by decide +kernel, by decide +kernel, by decide +kernel⟩
def dt_Mo_toldMore : List (Nat × Instr × Nat) := [(0, .iload_n 2, 1), (1, .tableswitch 137 8 15 #[47, 54, 60, 67, 90, 100, 109, 116], 47), (48, .aload_n 0, 1), (49, .getfield 66, 3), (52, .iload_n 1, 1), (53, .iaload, 1), (54, .ireturn, 1), (55, .aload_n 0, 1), (56, .iload_n 1, 1), (57, .invokevirtual 282, 3), (60, .ireturn, 1), (61, .aload_n 0, 1), (62, .getfield 41, 3), (65, .iload_n 1, 1), (66, .iaload, 1), (67, .ireturn, 1), (68, .aload_n 0, 1), (69, .getfield 16, 3), (72, .iload_n 1, 1), (73, .iaload, 1), (74, .invokestatic 252, 3), (77, .ifCond .eq 12, 3), (80, .aload_n 0, 1), (81, .getfield 28, 3), (84, .iload_n 1, 1), (85, .iaload, 1), (86, .goto 4, 3), (89, .iconst 0, 1), (90, .ireturn, 1), (91, .aload_n 0, 1), (92, .getfield 16, 3), (95, .iload_n 1, 1), (96, .iaload, 1), (97, .invokestatic 398, 3), (100, .ireturn, 1), (101, .aload_n 0, 1), (102, .getfield 38, 3), (105, .iload_n 1, 1), (106, .iaload, 1), (107, .iconst 1, 1), (108, .iadd, 1), (109, .ireturn, 1), (110, .aload_n 0, 1), (111, .getfield 48, 3), (114, .iload_n 1, 1), (115, .iaload, 1), (116, .ireturn, 1), (117, .aload_n 0, 1), (118, .getfield 22, 3), (121, .iload_n 1, 1), (122, .iaload, 1), (123, .ifCond .ge 8, 3), (126, .bipush (-9), 2), (128, .goto 9, 3), (131, .aload_n 0, 1), (132, .getfield 22, 3), (135, .iload_n 1, 1), (136, .iaload, 1), (137, .ireturn, 1), (138, .bipush (-2), 2), (140, .ireturn, 1)]
theorem dk_Mo_toldMore (i : Nat) {pc : Nat} {ins : Instr} {len : Nat} (h : dt_Mo_toldMore[i]? = some (pc, ins, len)) : decode m_Mo_toldMore.2.1 pc = .ok (ins, len) := p_dk (b := m_Mo_toldMore.2.1) (t := dt_Mo_toldMore) (by decide +kernel) i h
def F_Mo_toldMore (v0 : Nat) (v1 : Int) (v2 : Int) (s0 : p_Hp) : Option (Int × p_Hp) :=
  if v2 = 8 then
    p_gd (p_is s0 v0 11) <|
    p_gd (p_is s0 (p_R s0 v0 21) 100) <|
    p_gd (0 ≤ v1 ∧ v1 < (p_L s0 (p_R s0 v0 21) : Int)) <|
    some ((p_Z s0 (p_R s0 v0 21) (v1).toNat), s0)
  else if v2 = 9 then
    p_gd (p_is s0 v0 11) <|
    p_bd (F_Mo_loadOf v0 v1 s0) fun r11 s7 =>
    some (r11, s7)
  else if v2 = 10 then
    p_gd (p_is s0 v0 11) <|
    p_gd (p_is s0 (p_R s0 v0 13) 100) <|
    p_gd (0 ≤ v1 ∧ v1 < (p_L s0 (p_R s0 v0 13) : Int)) <|
    some ((p_Z s0 (p_R s0 v0 13) (v1).toNat), s0)
  else if v2 = 11 then
    p_gd (p_is s0 v0 11) <|
    p_gd (p_is s0 (p_R s0 v0 5) 100) <|
    p_gd (0 ≤ v1 ∧ v1 < (p_L s0 (p_R s0 v0 5) : Int)) <|
    p_bd (F_Mo_isTaker (p_Z s0 (p_R s0 v0 5) (v1).toNat) s0) fun r24 s20 =>
    if r24 = 0 then
      some (0, s20)
    else
      p_gd (p_is s20 (p_R s20 v0 9) 100) <|
      p_gd (0 ≤ v1 ∧ v1 < (p_L s20 (p_R s20 v0 9) : Int)) <|
      some ((p_Z s20 (p_R s20 v0 9) (v1).toNat), s20)
  else if v2 = 12 then
    p_gd (p_is s0 v0 11) <|
    p_gd (p_is s0 (p_R s0 v0 5) 100) <|
    p_gd (0 ≤ v1 ∧ v1 < (p_L s0 (p_R s0 v0 5) : Int)) <|
    p_bd (F_Mo_paceOf (p_Z s0 (p_R s0 v0 5) (v1).toNat) s0) fun r36 s32 =>
    some (r36, s32)
  else if v2 = 13 then
    p_gd (p_is s0 v0 11) <|
    p_gd (p_is s0 (p_R s0 v0 12) 100) <|
    p_gd (0 ≤ v1 ∧ v1 < (p_L s0 (p_R s0 v0 12) : Int)) <|
    some ((p_w ((p_Z s0 (p_R s0 v0 12) (v1).toNat) + 1)), s0)
  else if v2 = 14 then
    p_gd (p_is s0 v0 11) <|
    p_gd (p_is s0 (p_R s0 v0 15) 100) <|
    p_gd (0 ≤ v1 ∧ v1 < (p_L s0 (p_R s0 v0 15) : Int)) <|
    some ((p_Z s0 (p_R s0 v0 15) (v1).toNat), s0)
  else if v2 = 15 then
    p_gd (p_is s0 v0 11) <|
    p_gd (p_is s0 (p_R s0 v0 7) 100) <|
    p_gd (0 ≤ v1 ∧ v1 < (p_L s0 (p_R s0 v0 7) : Int)) <|
    if 0 ≤ (p_Z s0 (p_R s0 v0 7) (v1).toNat) then
      p_gd (0 ≤ v1 ∧ v1 < (p_L s0 (p_R s0 v0 7) : Int)) <|
      some ((p_Z s0 (p_R s0 v0 7) (v1).toNat), s0)
    else
      some ((-9), s0)
  else 
  some ((-2), s0)
set_option maxRecDepth 100000 in
set_option maxHeartbeats 4000000 in
theorem tF_Mo_toldMore (K : p_K) (l : Launch) (v0 : Nat) (v1 : Int) (v2 : Int) (s0 : p_Hp) (r : (Int × p_Hp)) (h : F_Mo_toldMore v0 v1 v2 s0 = some r) : p_Ct K l m_Mo_toldMore [p_r v0, p_i v1, p_i v2] s0 (some (p_i r.1), r.2) := by
  refine p_Ct.of (by decide) (Nat.le_of_ble_eq_true rfl) ?_
  unfold F_Mo_toldMore at h
  show p_Go K l m_Mo_toldMore 0 [(0, p_r v0), (1, p_i v1), (2, p_i v2)] [] s0 _
  refine g_iload_n (i := 2) (j := 2) (dk_Mo_toldMore 0 rfl) rfl rfl ?_
  rcases p_iteE h with ⟨b1, h⟩ | ⟨b1, h⟩
  · refine g_tableIn 48 (dk_Mo_toldMore 1 rfl) (by omega) (by omega) (by rw [b1]; rfl) (by decide) ?_
    refine g_aload_n (i := 0) (j := 0) (dk_Mo_toldMore 2 rfl) rfl rfl ?_
    obtain ⟨c2, h⟩ := p_gdE h
    refine g_getR fl_Mo_66 (Or.inr ⟨_, rfl⟩) (dk_Mo_toldMore 3 rfl) c2 ?_
    refine g_iload_n (i := 1) (j := 1) (dk_Mo_toldMore 4 rfl) rfl rfl ?_
    obtain ⟨c3, h⟩ := p_gdE h
    obtain ⟨c4, h⟩ := p_gdE h
    refine g_iaload (dk_Mo_toldMore 5 rfl) c3 c4.1 c4.2 ?_
    cases h
    exact g_ret rfl rfl (dk_Mo_toldMore 6 rfl) (fun os => ⟨_, rfl, p_okh os⟩)
  rcases p_iteE h with ⟨b5, h⟩ | ⟨b5, h⟩
  · refine g_tableIn 55 (dk_Mo_toldMore 1 rfl) (by omega) (by omega) (by rw [b5]; rfl) (by decide) ?_
    refine g_aload_n (i := 0) (j := 0) (dk_Mo_toldMore 7 rfl) rfl rfl ?_
    refine g_iload_n (i := 1) (j := 1) (dk_Mo_toldMore 8 rfl) rfl rfl ?_
    obtain ⟨c6, h⟩ := p_gdE h
    obtain ⟨r11, s7, q8, h⟩ := p_bdE h
    have t9 := tF_Mo_loadOf K l v0 v1 s0 _ q8
    refine g_callV (a := v0) (ci := 11) (q0 := (RX11, TX11, 90)) (As := [p_i v1]) (rest := []) [p_i r11] mt_Mo_loadOf rfl rfl tw_7_115 ts_50 tw_7_113 ⟨Nat.le_of_ble_eq_true rfl, Nat.le_of_ble_eq_true rfl⟩ rfl (Nat.le_of_ble_eq_true rfl) (dk_Mo_toldMore 9 rfl) rfl c6 rfl t9 ?_
    have hs10 : p_x s0 s7 := t9.1
    show p_Go K l m_Mo_toldMore 60 [(0, p_r v0), (1, p_i v1), (2, p_i v2)] [p_i r11] s7 _
    cases h
    exact g_ret rfl rfl (dk_Mo_toldMore 10 rfl) (fun os => ⟨_, rfl, p_okh os⟩)
  rcases p_iteE h with ⟨b12, h⟩ | ⟨b12, h⟩
  · refine g_tableIn 61 (dk_Mo_toldMore 1 rfl) (by omega) (by omega) (by rw [b12]; rfl) (by decide) ?_
    refine g_aload_n (i := 0) (j := 0) (dk_Mo_toldMore 11 rfl) rfl rfl ?_
    obtain ⟨c13, h⟩ := p_gdE h
    refine g_getR fl_Mo_41 (Or.inr ⟨_, rfl⟩) (dk_Mo_toldMore 12 rfl) c13 ?_
    refine g_iload_n (i := 1) (j := 1) (dk_Mo_toldMore 13 rfl) rfl rfl ?_
    obtain ⟨c14, h⟩ := p_gdE h
    obtain ⟨c15, h⟩ := p_gdE h
    refine g_iaload (dk_Mo_toldMore 14 rfl) c14 c15.1 c15.2 ?_
    cases h
    exact g_ret rfl rfl (dk_Mo_toldMore 15 rfl) (fun os => ⟨_, rfl, p_okh os⟩)
  rcases p_iteE h with ⟨b16, h⟩ | ⟨b16, h⟩
  · refine g_tableIn 68 (dk_Mo_toldMore 1 rfl) (by omega) (by omega) (by rw [b16]; rfl) (by decide) ?_
    refine g_aload_n (i := 0) (j := 0) (dk_Mo_toldMore 16 rfl) rfl rfl ?_
    obtain ⟨c17, h⟩ := p_gdE h
    refine g_getR fl_Mo_16 (Or.inr ⟨_, rfl⟩) (dk_Mo_toldMore 17 rfl) c17 ?_
    refine g_iload_n (i := 1) (j := 1) (dk_Mo_toldMore 18 rfl) rfl rfl ?_
    obtain ⟨c18, h⟩ := p_gdE h
    obtain ⟨c19, h⟩ := p_gdE h
    refine g_iaload (dk_Mo_toldMore 19 rfl) c18 c19.1 c19.2 ?_
    obtain ⟨r24, s20, q21, h⟩ := p_bdE h
    have t22 := tF_Mo_isTaker K l (p_Z s0 (p_R s0 v0 5) (v1).toNat) s0 _ q21
    refine g_callS (av := [p_i (p_Z s0 (p_R s0 v0 5) (v1).toNat)]) (rest := []) [p_i r24] mt_Mo_isTaker tw_7_58 tw_7_57 ⟨Nat.le_of_ble_eq_true rfl, Nat.le_of_ble_eq_true rfl⟩ rfl (Nat.le_of_ble_eq_true rfl) (dk_Mo_toldMore 20 rfl) rfl rfl t22 ?_
    have hs23 : p_x s0 s20 := t22.1
    show p_Go K l m_Mo_toldMore 77 [(0, p_r v0), (1, p_i v1), (2, p_i v2)] [p_i r24] s20 _
    refine g_if_eq 89 (dk_Mo_toldMore 21 rfl) (by decide) (fun b25 => ?_) (fun b25 => ?_)
    · have h := p_ifT b25 h
      refine g_iconst (dk_Mo_toldMore 27 rfl) (by decide) ?_
      cases h
      exact g_ret rfl rfl (dk_Mo_toldMore 28 rfl) (fun os => ⟨_, rfl, p_okh os⟩)
    · have h := p_ifF b25 h
      refine g_aload_n (i := 0) (j := 0) (dk_Mo_toldMore 22 rfl) rfl rfl ?_
      refine g_getR fl_Mo_28 (Or.inr ⟨_, rfl⟩) (dk_Mo_toldMore 23 rfl) (c17.up hs23) ?_
      refine g_iload_n (i := 1) (j := 1) (dk_Mo_toldMore 24 rfl) rfl rfl ?_
      obtain ⟨c26, h⟩ := p_gdE h
      obtain ⟨c27, h⟩ := p_gdE h
      refine g_iaload (dk_Mo_toldMore 25 rfl) c26 c27.1 c27.2 ?_
      refine g_goto 90 (dk_Mo_toldMore 26 rfl) (by decide) ?_
      cases h
      exact g_ret rfl rfl (dk_Mo_toldMore 28 rfl) (fun os => ⟨_, rfl, p_okh os⟩)
  rcases p_iteE h with ⟨b28, h⟩ | ⟨b28, h⟩
  · refine g_tableIn 91 (dk_Mo_toldMore 1 rfl) (by omega) (by omega) (by rw [b28]; rfl) (by decide) ?_
    refine g_aload_n (i := 0) (j := 0) (dk_Mo_toldMore 29 rfl) rfl rfl ?_
    obtain ⟨c29, h⟩ := p_gdE h
    refine g_getR fl_Mo_16 (Or.inr ⟨_, rfl⟩) (dk_Mo_toldMore 30 rfl) c29 ?_
    refine g_iload_n (i := 1) (j := 1) (dk_Mo_toldMore 31 rfl) rfl rfl ?_
    obtain ⟨c30, h⟩ := p_gdE h
    obtain ⟨c31, h⟩ := p_gdE h
    refine g_iaload (dk_Mo_toldMore 32 rfl) c30 c31.1 c31.2 ?_
    obtain ⟨r36, s32, q33, h⟩ := p_bdE h
    have t34 := tF_Mo_paceOf K l (p_Z s0 (p_R s0 v0 5) (v1).toNat) s0 _ q33
    refine g_callS (av := [p_i (p_Z s0 (p_R s0 v0 5) (v1).toNat)]) (rest := []) [p_i r36] mt_Mo_paceOf tw_8_79 tw_8_78 ⟨Nat.le_of_ble_eq_true rfl, Nat.le_of_ble_eq_true rfl⟩ rfl (Nat.le_of_ble_eq_true rfl) (dk_Mo_toldMore 33 rfl) rfl rfl t34 ?_
    have hs35 : p_x s0 s32 := t34.1
    show p_Go K l m_Mo_toldMore 100 [(0, p_r v0), (1, p_i v1), (2, p_i v2)] [p_i r36] s32 _
    cases h
    exact g_ret rfl rfl (dk_Mo_toldMore 34 rfl) (fun os => ⟨_, rfl, p_okh os⟩)
  rcases p_iteE h with ⟨b37, h⟩ | ⟨b37, h⟩
  · refine g_tableIn 101 (dk_Mo_toldMore 1 rfl) (by omega) (by omega) (by rw [b37]; rfl) (by decide) ?_
    refine g_aload_n (i := 0) (j := 0) (dk_Mo_toldMore 35 rfl) rfl rfl ?_
    obtain ⟨c38, h⟩ := p_gdE h
    refine g_getR fl_Mo_38 (Or.inr ⟨_, rfl⟩) (dk_Mo_toldMore 36 rfl) c38 ?_
    refine g_iload_n (i := 1) (j := 1) (dk_Mo_toldMore 37 rfl) rfl rfl ?_
    obtain ⟨c39, h⟩ := p_gdE h
    obtain ⟨c40, h⟩ := p_gdE h
    refine g_iaload (dk_Mo_toldMore 38 rfl) c39 c40.1 c40.2 ?_
    refine g_iconst (dk_Mo_toldMore 39 rfl) (by decide) ?_
    refine g_iadd (dk_Mo_toldMore 40 rfl) ?_
    cases h
    exact g_ret rfl rfl (dk_Mo_toldMore 41 rfl) (fun os => ⟨_, rfl, p_okh os⟩)
  rcases p_iteE h with ⟨b41, h⟩ | ⟨b41, h⟩
  · refine g_tableIn 110 (dk_Mo_toldMore 1 rfl) (by omega) (by omega) (by rw [b41]; rfl) (by decide) ?_
    refine g_aload_n (i := 0) (j := 0) (dk_Mo_toldMore 42 rfl) rfl rfl ?_
    obtain ⟨c42, h⟩ := p_gdE h
    refine g_getR fl_Mo_48 (Or.inr ⟨_, rfl⟩) (dk_Mo_toldMore 43 rfl) c42 ?_
    refine g_iload_n (i := 1) (j := 1) (dk_Mo_toldMore 44 rfl) rfl rfl ?_
    obtain ⟨c43, h⟩ := p_gdE h
    obtain ⟨c44, h⟩ := p_gdE h
    refine g_iaload (dk_Mo_toldMore 45 rfl) c43 c44.1 c44.2 ?_
    cases h
    exact g_ret rfl rfl (dk_Mo_toldMore 46 rfl) (fun os => ⟨_, rfl, p_okh os⟩)
  rcases p_iteE h with ⟨b45, h⟩ | ⟨b45, h⟩
  · refine g_tableIn 117 (dk_Mo_toldMore 1 rfl) (by omega) (by omega) (by rw [b45]; rfl) (by decide) ?_
    refine g_aload_n (i := 0) (j := 0) (dk_Mo_toldMore 47 rfl) rfl rfl ?_
    obtain ⟨c46, h⟩ := p_gdE h
    refine g_getR fl_Mo_22 (Or.inr ⟨_, rfl⟩) (dk_Mo_toldMore 48 rfl) c46 ?_
    refine g_iload_n (i := 1) (j := 1) (dk_Mo_toldMore 49 rfl) rfl rfl ?_
    obtain ⟨c47, h⟩ := p_gdE h
    obtain ⟨c48, h⟩ := p_gdE h
    refine g_iaload (dk_Mo_toldMore 50 rfl) c47 c48.1 c48.2 ?_
    refine g_if_ge 131 (dk_Mo_toldMore 51 rfl) (by decide) (fun b49 => ?_) (fun b49 => ?_)
    · have h := p_ifT b49 h
      refine g_aload_n (i := 0) (j := 0) (dk_Mo_toldMore 54 rfl) rfl rfl ?_
      refine g_getR fl_Mo_22 (Or.inr ⟨_, rfl⟩) (dk_Mo_toldMore 55 rfl) c46 ?_
      refine g_iload_n (i := 1) (j := 1) (dk_Mo_toldMore 56 rfl) rfl rfl ?_
      obtain ⟨c50, h⟩ := p_gdE h
      refine g_iaload (dk_Mo_toldMore 57 rfl) c47 c50.1 c50.2 ?_
      cases h
      exact g_ret rfl rfl (dk_Mo_toldMore 58 rfl) (fun os => ⟨_, rfl, p_okh os⟩)
    · have h := p_ifF b49 h
      refine g_bipush (dk_Mo_toldMore 52 rfl) rfl (by decide) ?_
      refine g_goto 137 (dk_Mo_toldMore 53 rfl) (by decide) ?_
      cases h
      exact g_ret rfl rfl (dk_Mo_toldMore 58 rfl) (fun os => ⟨_, rfl, p_okh os⟩)
  refine g_tableOut 138 (dk_Mo_toldMore 1 rfl) (by omega) (by decide) ?_
  refine g_bipush (dk_Mo_toldMore 59 rfl) rfl (by decide) ?_
  cases h
  exact g_ret rfl rfl (dk_Mo_toldMore 60 rfl) (fun os => ⟨_, rfl, p_okh os⟩)
