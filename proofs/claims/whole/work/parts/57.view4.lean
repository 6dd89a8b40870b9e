def G_Mo_isJammed (v1 : Int) (m0 : h_M) : Option Int :=
  p_gd ((0 : Int) ≤ v1 ∧ v1 < (120 : Int)) <|
  q_bv (G_Mo_isTaker (m0 5 (v1 : Int).toNat) m0) fun r4 =>
  if r4 = 0 then
    some 0
  else
    if (m0 16 (v1 : Int).toNat) < 8 then
      some 0
    else
      some 1
set_option maxRecDepth 100000 in
set_option maxHeartbeats 4000000 in
theorem u_Mo_isJammed (c : h_C) (v1 : Int) (m0 : h_M) (r : Int) (h : G_Mo_isJammed v1 m0 = some r) : F_Mo_isJammed 1125 v1 (h_H c m0) = some (r, (h_H c m0)) := by
  unfold G_Mo_isJammed at h
  unfold F_Mo_isJammed
  refine gdT (miS c m0) ?_
  try rw [mr5 c m0]
  refine gdT (miA c m0 e5) ?_
  obtain ⟨g1, h⟩ := p_gdE h
  refine gdT ⟨g1.1, by rw [mlA c m0 e5]; exact g1.2⟩ ?_
  try rw [mzA c m0 e5 (v1 : Int).toNat]
  obtain ⟨r4, q2, h⟩ := q_bvE h
  refine bdC (u_Mo_isTaker c (m0 5 (v1 : Int).toNat) m0 _ q2) ?_
  refine iteC Iff.rfl h (fun b6 h => ?_) (fun b6 h => ?_)
  · cases h
    rfl
  · try rw [mr16 c m0]
    refine gdT (miA c m0 e16) ?_
    refine gdT ⟨g1.1, by rw [mlA c m0 e16]; exact g1.2⟩ ?_
    try rw [mzA c m0 e16 (v1 : Int).toNat]
    refine iteC Iff.rfl h (fun b7 h => ?_) (fun b7 h => ?_)
    · cases h
      rfl
    · cases h
      rfl
def G_Mo_leaves (v1 : Int) (m0 : h_M) : Option h_M :=
  p_gd ((0 : Int) ≤ v1 ∧ v1 < (2001 : Int)) <|
  q_bv (G_Mo_g (m0 26 (v1 : Int).toNat) m0) fun r4 =>
  p_gd ((0 : Int) ≤ (p_w ((p_w (8 * r4)) + (m0 27 (v1 : Int).toNat))) ∧ (p_w ((p_w (8 * r4)) + (m0 27 (v1 : Int).toNat))) < (960 : Int)) <|
  p_bi (wm m0 22 ((p_w ((p_w (8 * r4)) + (m0 27 (v1 : Int).toNat))) : Int).toNat 0) fun m7 =>
  p_gd ((0 : Int) ≤ r4 ∧ r4 < (120 : Int)) <|
  p_bi (wm m7 19 (r4 : Int).toNat (p_w ((m7 19 (r4 : Int).toNat) + 1))) fun m10 =>
  some m10
set_option maxRecDepth 100000 in
set_option maxHeartbeats 4000000 in
theorem u_Mo_leaves (c : h_C) (v1 : Int) (m0 : h_M) (r : h_M) (h : G_Mo_leaves v1 m0 = some r) : F_Mo_leaves 1125 v1 (h_H c m0) = some (h_H c r) := by
  unfold G_Mo_leaves at h
  unfold F_Mo_leaves
  refine gdT (miS c m0) ?_
  try rw [mr26 c m0]
  refine gdT (miA c m0 e26) ?_
  obtain ⟨g1, h⟩ := p_gdE h
  refine gdT ⟨g1.1, by rw [mlA c m0 e26]; exact g1.2⟩ ?_
  try rw [mzA c m0 e26 (v1 : Int).toNat]
  obtain ⟨r4, q2, h⟩ := q_bvE h
  refine bdC (u_Mo_g c (m0 26 (v1 : Int).toNat) m0 _ q2) ?_
  try rw [mr22 c m0]
  try rw [mr27 c m0]
  refine gdT (miA c m0 e27) ?_
  refine gdT ⟨g1.1, by rw [mlA c m0 e27]; exact g1.2⟩ ?_
  try rw [mzA c m0 e27 (v1 : Int).toNat]
  refine gdT (miA c m0 e22) ?_
  obtain ⟨g6, h⟩ := p_gdE h
  refine gdT ⟨g6.1, by rw [mlA c m0 e22]; exact g6.2⟩ ?_
  refine bM (mwA c m0 e22 _ _) h ?_
  intro m7 h
  try rw [mr19 c m7]
  refine gdT (miA c m7 e19) ?_
  obtain ⟨g9, h⟩ := p_gdE h
  refine gdT ⟨g9.1, by rw [mlA c m7 e19]; exact g9.2⟩ ?_
  try rw [mzA c m7 e19 (r4 : Int).toNat]
  refine gdT ⟨g9.1, by rw [mlA c m7 e19]; exact g9.2⟩ ?_
  refine bM (mwA c m7 e19 _ _) h ?_
  intro m10 h
  cases h
  rfl
def GB_Mo_clear_69   (m0 : h_M) : Option (Int × h_M) :=
  q_bd (G_Mo_refused (-3) m0) fun r3 m4 =>
  some (r3, m4)
def GB_Mo_clear_166 (k79 : Int → Int → Int → Int → h_M → Option (Int × h_M)) (v1 : Int) (v2 : Int) (v3 : Int) (v4 : Int) (m0 : h_M) : Option (Int × h_M) :=
  p_bi (p_w (v4 + 1)) fun x1 =>
  k79 v1 v2 v3 x1 m0
def GL_Mo_clear_79 (k79 : Int → Int → Int → Int → h_M → Option (Int × h_M)) (v1 : Int) (v2 : Int) (v3 : Int) (v4 : Int) (m0 : h_M) : Option (Int × h_M) :=
  p_gd ((0 : Int) ≤ (m0 100 0) ∧ (m0 100 0) < (3 : Int)) <|
  if (m0 3 ((m0 100 0) : Int).toNat) ≤ v4 then
    q_bd (G_Mo_refused (-4) m0) fun r5 m6 =>
    some (r5, m6)
  else
    if v4 = v1 then
      GB_Mo_clear_166 k79 v1 v2 v3 v4 m0
    else
      q_bv (G_Mo_g v4 m0) fun r11 =>
      p_gd ((0 : Int) ≤ r11 ∧ r11 < (120 : Int)) <|
      if (m0 5 (r11 : Int).toNat) ≠ 8 then
        GB_Mo_clear_166 k79 v1 v2 v3 v4 m0
      else
        q_bv (G_Mo_g v4 m0) fun r17 =>
        p_gd ((0 : Int) ≤ (p_w (8 * r17)) ∧ (p_w (8 * r17)) < (960 : Int)) <|
        if (m0 22 ((p_w (8 * r17)) : Int).toNat) ≠ 0 then
          GB_Mo_clear_166 k79 v1 v2 v3 v4 m0
        else
          q_bv (G_Mo_leaves v3 m0) fun m23 =>
          q_bv (G_Mo_enters v3 v4 m23) fun m26 =>
          p_gd ((0 : Int) ≤ v3 ∧ v3 < (2001 : Int)) <|
          p_bi (wm m26 30 (v3 : Int).toNat (-8)) fun m28 =>
          p_gd ((0 : Int) ≤ v2 ∧ v2 < (120 : Int)) <|
          p_bi (wm m28 16 (v2 : Int).toNat 0) fun m31 =>
          q_bd (G_Mo_well v4 m31) fun r35 m36 =>
          some (r35, m36)
def GO_Mo_clear_79  : Nat → Int → Int → Int → Int → h_M → Option (Int × h_M)
  | 0 => fun _ _ _ _ _ => none
  | n + 1 => GL_Mo_clear_79 (GO_Mo_clear_79 n)
def G_Mo_clear (v1 : Int) (m0 : h_M) : Option (Int × h_M) :=
  q_bv (G_Mo_noGear v1 m0) fun r3 =>
  if r3 = 0 then
    q_bv (G_Mo_g v1 m0) fun r8 =>
    p_gd ((0 : Int) ≤ r8 ∧ r8 < (120 : Int)) <|
    q_bv (G_Mo_isTaker (m0 5 (r8 : Int).toNat) m0) fun r13 =>
    if r13 ≠ 0 then
      p_gd ((0 : Int) ≤ (p_w ((p_w ((p_w (8 * r8)) + (m0 6 (r8 : Int).toNat))) - 1)) ∧ (p_w ((p_w ((p_w (8 * r8)) + (m0 6 (r8 : Int).toNat))) - 1)) < (960 : Int)) <|
      p_bi ((m0 22 ((p_w ((p_w ((p_w (8 * r8)) + (m0 6 (r8 : Int).toNat))) - 1)) : Int).toNat)) fun x18 =>
      q_bv (G_Mo_isJammed r8 m0) fun r21 =>
      if r21 = 0 then
        GB_Mo_clear_69 m0
      else
        if x18 ≠ 0 then
          GO_Mo_clear_79 3000 v1 r8 x18 0 m0
        else
          GB_Mo_clear_69 m0
    else
      q_bd (G_Mo_faulted 2 m0) fun r27 m28 =>
      some (r27, m28)
  else
    q_bd (G_Mo_refused (-1) m0) fun r32 m33 =>
    some (r32, m33)
set_option maxRecDepth 100000 in
set_option maxHeartbeats 4000000 in
theorem uB_Mo_clear_69 (c : h_C)   (m0 : h_M) (r : (Int × h_M)) (h : GB_Mo_clear_69  m0 = some r) : B_Mo_clear_69 1125 (h_H c m0) = some (r.1, (h_H c r.2)) := by
  unfold GB_Mo_clear_69 at h
  unfold B_Mo_clear_69
  refine gdT (miS c m0) ?_
  obtain ⟨r3, m4, q1, h⟩ := q_bdE h
  refine bdC (u_Mo_refused c (-3) m0 _ q1) ?_
  cases h
  rfl
set_option maxRecDepth 100000 in
set_option maxHeartbeats 4000000 in
theorem uB_Mo_clear_166 (c : h_C) (j79 : Nat → Int → Int → Int → Int → p_Hp → Option (Int × p_Hp)) (k79 : Int → Int → Int → Int → h_M → Option (Int × h_M)) (hk79 : ∀ (v1 : Int) (v2 : Int) (v3 : Int) (v4 : Int) (m0 : h_M) (r : (Int × h_M)), k79 v1 v2 v3 v4 m0 = some r → j79 1125 v1 v2 v3 v4 (h_H c m0) = some (r.1, (h_H c r.2))) (v1 : Int) (v2 : Int) (v3 : Int) (v4 : Int) (m0 : h_M) (r : (Int × h_M)) (h : GB_Mo_clear_166 k79 v1 v2 v3 v4 m0 = some r) : B_Mo_clear_166 j79 1125 v1 v2 v3 v4 (h_H c m0) = some (r.1, (h_H c r.2)) := by
  unfold GB_Mo_clear_166 at h
  unfold B_Mo_clear_166
  refine bV h ?_
  intro x1 h
  exact hk79 v1 v2 v3 x1 m0 _ h
set_option maxRecDepth 100000 in
set_option maxHeartbeats 4000000 in
theorem uL_Mo_clear_79 (c : h_C) (j79 : Nat → Int → Int → Int → Int → p_Hp → Option (Int × p_Hp)) (k79 : Int → Int → Int → Int → h_M → Option (Int × h_M)) (hk79 : ∀ (v1 : Int) (v2 : Int) (v3 : Int) (v4 : Int) (m0 : h_M) (r : (Int × h_M)), k79 v1 v2 v3 v4 m0 = some r → j79 1125 v1 v2 v3 v4 (h_H c m0) = some (r.1, (h_H c r.2))) (v1 : Int) (v2 : Int) (v3 : Int) (v4 : Int) (m0 : h_M) (r : (Int × h_M)) (h : GL_Mo_clear_79 k79 v1 v2 v3 v4 m0 = some r) : L_Mo_clear_79 j79 1125 v1 v2 v3 v4 (h_H c m0) = some (r.1, (h_H c r.2)) := by
  unfold GL_Mo_clear_79 at h
  unfold L_Mo_clear_79
  refine gdT (miS c m0) ?_
  try rw [mr3 c m0]
  try rw [zs0 c m0]
  refine gdT (miA c m0 e3) ?_
  obtain ⟨g1, h⟩ := p_gdE h
  refine gdT ⟨g1.1, by rw [mlA c m0 e3]; exact g1.2⟩ ?_
  try rw [mzA c m0 e3 ((m0 100 0) : Int).toNat]
  refine iteC Iff.rfl h (fun b2 h => ?_) (fun b2 h => ?_)
  · obtain ⟨r5, m6, q3, h⟩ := q_bdE h
    refine bdC (u_Mo_refused c (-4) m0 _ q3) ?_
    cases h
    rfl
  · refine iteC Iff.rfl h (fun b8 h => ?_) (fun b8 h => ?_)
    · exact uB_Mo_clear_166 c j79 k79 hk79 v1 v2 v3 v4 m0 _ h
    · try rw [mr5 c m0]
      obtain ⟨r11, q9, h⟩ := q_bvE h
      refine bdC (u_Mo_g c v4 m0 _ q9) ?_
      refine gdT (miA c m0 e5) ?_
      obtain ⟨g13, h⟩ := p_gdE h
      refine gdT ⟨g13.1, by rw [mlA c m0 e5]; exact g13.2⟩ ?_
      try rw [mzA c m0 e5 (r11 : Int).toNat]
      refine iteC Iff.rfl h (fun b14 h => ?_) (fun b14 h => ?_)
      · exact uB_Mo_clear_166 c j79 k79 hk79 v1 v2 v3 v4 m0 _ h
      · try rw [mr22 c m0]
        obtain ⟨r17, q15, h⟩ := q_bvE h
        refine bdC (u_Mo_g c v4 m0 _ q15) ?_
        refine gdT (miA c m0 e22) ?_
        obtain ⟨g19, h⟩ := p_gdE h
        refine gdT ⟨g19.1, by rw [mlA c m0 e22]; exact g19.2⟩ ?_
        try rw [mzA c m0 e22 ((p_w (8 * r17)) : Int).toNat]
        refine iteC Iff.rfl h (fun b20 h => ?_) (fun b20 h => ?_)
        · exact uB_Mo_clear_166 c j79 k79 hk79 v1 v2 v3 v4 m0 _ h
        · obtain ⟨m23, q21, h⟩ := q_bvE h
          refine bvC (u_Mo_leaves c v3 m0 _ q21) ?_
          obtain ⟨m26, q24, h⟩ := q_bvE h
          refine bvC (u_Mo_enters c v3 v4 m23 _ q24) ?_
          try rw [mr30 c m26]
          refine gdT (miA c m26 e30) ?_
          obtain ⟨g27, h⟩ := p_gdE h
          refine gdT ⟨g27.1, by rw [mlA c m26 e30]; exact g27.2⟩ ?_
          refine bM (mwA c m26 e30 _ _) h ?_
          intro m28 h
          try rw [mr16 c m28]
          refine gdT (miA c m28 e16) ?_
          obtain ⟨g30, h⟩ := p_gdE h
          refine gdT ⟨g30.1, by rw [mlA c m28 e16]; exact g30.2⟩ ?_
          refine bM (mwA c m28 e16 _ _) h ?_
          intro m31 h
          obtain ⟨r35, m36, q33, h⟩ := q_bdE h
          refine bdC (u_Mo_well c v4 m31 _ q33) ?_
          cases h
          rfl
set_option maxRecDepth 100000 in
set_option maxHeartbeats 4000000 in
theorem uO_Mo_clear_79 (c : h_C)  : ∀ (n : Nat) (v1 : Int) (v2 : Int) (v3 : Int) (v4 : Int) (m0 : h_M) (r : (Int × h_M)), GO_Mo_clear_79 n v1 v2 v3 v4 m0 = some r → O_Mo_clear_79 n 1125 v1 v2 v3 v4 (h_H c m0) = some (r.1, (h_H c r.2)) := by
  intro n
  induction n with
  | zero => intro v1 v2 v3 v4 m0 r h; cases h
  | succ n ih => intro v1 v2 v3 v4 m0 r h; exact uL_Mo_clear_79 c (O_Mo_clear_79 n) (GO_Mo_clear_79 n) ih v1 v2 v3 v4 m0 r h
set_option maxRecDepth 100000 in
set_option maxHeartbeats 4000000 in
theorem u_Mo_clear (c : h_C) (v1 : Int) (m0 : h_M) (r : (Int × h_M)) (h : G_Mo_clear v1 m0 = some r) : F_Mo_clear 1125 v1 (h_H c m0) = some (r.1, (h_H c r.2)) := by
  unfold G_Mo_clear at h
  unfold F_Mo_clear
  refine gdT (miS c m0) ?_
  obtain ⟨r3, q1, h⟩ := q_bvE h
  refine bdC (u_Mo_noGear c v1 m0 _ q1) ?_
  refine iteC Iff.rfl h (fun b5 h => ?_) (fun b5 h => ?_)
  · obtain ⟨r8, q6, h⟩ := q_bvE h
    refine bdC (u_Mo_g c v1 m0 _ q6) ?_
    try rw [mr5 c m0]
    refine gdT (miA c m0 e5) ?_
    obtain ⟨g10, h⟩ := p_gdE h
    refine gdT ⟨g10.1, by rw [mlA c m0 e5]; exact g10.2⟩ ?_
    try rw [mzA c m0 e5 (r8 : Int).toNat]
    obtain ⟨r13, q11, h⟩ := q_bvE h
    refine bdC (u_Mo_isTaker c (m0 5 (r8 : Int).toNat) m0 _ q11) ?_
    refine iteC Iff.rfl h (fun b15 h => ?_) (fun b15 h => ?_)
    · try rw [mr22 c m0]
      try rw [mr6 c m0]
      refine gdT (miA c m0 e6) ?_
      refine gdT ⟨g10.1, by rw [mlA c m0 e6]; exact g10.2⟩ ?_
      try rw [mzA c m0 e6 (r8 : Int).toNat]
      refine gdT (miA c m0 e22) ?_
      obtain ⟨g16, h⟩ := p_gdE h
      refine gdT ⟨g16.1, by rw [mlA c m0 e22]; exact g16.2⟩ ?_
      try rw [mzA c m0 e22 ((p_w ((p_w ((p_w (8 * r8)) + (m0 6 (r8 : Int).toNat))) - 1)) : Int).toNat]
      refine bV h ?_
      intro x18 h
      obtain ⟨r21, q19, h⟩ := q_bvE h
      refine bdC (u_Mo_isJammed c r8 m0 _ q19) ?_
      refine iteC Iff.rfl h (fun b23 h => ?_) (fun b23 h => ?_)
      · exact uB_Mo_clear_69 c m0 _ h
      · refine iteC Iff.rfl h (fun b24 h => ?_) (fun b24 h => ?_)
        · exact uO_Mo_clear_79 c 3000 v1 r8 x18 0 m0 _ h
        · exact uB_Mo_clear_69 c m0 _ h
    · obtain ⟨r27, m28, q25, h⟩ := q_bdE h
      refine bdC (u_Mo_faulted c 2 m0 _ q25) ?_
      cases h
      rfl
  · obtain ⟨r32, m33, q30, h⟩ := q_bdE h
    refine bdC (u_Mo_refused c (-1) m0 _ q30) ?_
    cases h
    rfl
def GB_Mo_carry_16   (m0 : h_M) : Option (Int × h_M) :=
  q_bd (G_Mo_refused (-1) m0) fun r3 m4 =>
  some (r3, m4)
def GB_Mo_carry_101   (m0 : h_M) : Option (Int × h_M) :=
  q_bd (G_Mo_refused (-3) m0) fun r3 m4 =>
  some (r3, m4)
def GB_Mo_carry_108  (v1 : Int) (v2 : Int) (m0 : h_M) : Option (Int × h_M) :=
  p_gd ((0 : Int) ≤ v1 ∧ v1 < (2001 : Int)) <|
  p_bi ((m0 26 (v1 : Int).toNat)) fun x3 =>
  q_bv (G_Mo_leaves v1 m0) fun m6 =>
  q_bv (G_Mo_enters v1 v2 m6) fun m9 =>
  q_bd (G_Mo_well x3 m9) fun r12 m13 =>
  some (r12, m13)
def GB_Mo_carry_79  (v1 : Int) (v2 : Int) (v3 : Int) (m0 : h_M) : Option (Int × h_M) :=
  p_gd ((0 : Int) ≤ v3 ∧ v3 < (120 : Int)) <|
  if (m0 5 (v3 : Int).toNat) ≠ 8 then
    GB_Mo_carry_108 v1 v2 m0
  else
    p_gd ((0 : Int) ≤ v1 ∧ v1 < (2001 : Int)) <|
    if (m0 30 (v1 : Int).toNat) = (-8) then
      GB_Mo_carry_108 v1 v2 m0
    else
      GB_Mo_carry_101 m0
def G_Mo_carry (v1 : Int) (v2 : Int) (m0 : h_M) : Option (Int × h_M) :=
  q_bv (G_Mo_noParcel v1 m0) fun r3 =>
  if r3 ≠ 0 then
    GB_Mo_carry_16 m0
  else
    q_bv (G_Mo_noGear v2 m0) fun r8 =>
    if r8 = 0 then
      q_bv (G_Mo_g v2 m0) fun r13 =>
      p_gd ((0 : Int) ≤ r13 ∧ r13 < (120 : Int)) <|
      q_bv (G_Mo_isTaker (m0 5 (r13 : Int).toNat) m0) fun r18 =>
      if r18 ≠ 0 then
        p_gd ((0 : Int) ≤ (p_w (8 * r13)) ∧ (p_w (8 * r13)) < (960 : Int)) <|
        if 0 < (m0 22 ((p_w (8 * r13)) : Int).toNat) then
          GB_Mo_carry_101 m0
        else
          if (m0 5 (r13 : Int).toNat) ≠ 7 then
            GB_Mo_carry_79 v1 v2 r13 m0
          else
            p_gd ((0 : Int) ≤ v1 ∧ v1 < (2001 : Int)) <|
            if (m0 30 (v1 : Int).toNat) ≠ v2 then
              GB_Mo_carry_101 m0
            else
              GB_Mo_carry_79 v1 v2 r13 m0
      else
        q_bd (G_Mo_faulted 2 m0) fun r28 m29 =>
        some (r28, m29)
    else
      GB_Mo_carry_16 m0
set_option maxRecDepth 100000 in
set_option maxHeartbeats 4000000 in
theorem uB_Mo_carry_16 (c : h_C)   (m0 : h_M) (r : (Int × h_M)) (h : GB_Mo_carry_16  m0 = some r) : B_Mo_carry_16 1125 (h_H c m0) = some (r.1, (h_H c r.2)) := by
  unfold GB_Mo_carry_16 at h
  unfold B_Mo_carry_16
  refine gdT (miS c m0) ?_
  obtain ⟨r3, m4, q1, h⟩ := q_bdE h
  refine bdC (u_Mo_refused c (-1) m0 _ q1) ?_
  cases h
  rfl
set_option maxRecDepth 100000 in
set_option maxHeartbeats 4000000 in
theorem uB_Mo_carry_101 (c : h_C)   (m0 : h_M) (r : (Int × h_M)) (h : GB_Mo_carry_101  m0 = some r) : B_Mo_carry_101 1125 (h_H c m0) = some (r.1, (h_H c r.2)) := by
  unfold GB_Mo_carry_101 at h
  unfold B_Mo_carry_101
  refine gdT (miS c m0) ?_
  obtain ⟨r3, m4, q1, h⟩ := q_bdE h
  refine bdC (u_Mo_refused c (-3) m0 _ q1) ?_
  cases h
  rfl
set_option maxRecDepth 100000 in
set_option maxHeartbeats 4000000 in
theorem uB_Mo_carry_108 (c : h_C)  (v1 : Int) (v2 : Int) (m0 : h_M) (r : (Int × h_M)) (h : GB_Mo_carry_108 v1 v2 m0 = some r) : B_Mo_carry_108 1125 v1 v2 (h_H c m0) = some (r.1, (h_H c r.2)) := by
  unfold GB_Mo_carry_108 at h
  unfold B_Mo_carry_108
  refine gdT (miS c m0) ?_
  try rw [mr26 c m0]
  refine gdT (miA c m0 e26) ?_
  obtain ⟨g1, h⟩ := p_gdE h
  refine gdT ⟨g1.1, by rw [mlA c m0 e26]; exact g1.2⟩ ?_
  try rw [mzA c m0 e26 (v1 : Int).toNat]
  refine bV h ?_
  intro x3 h
  obtain ⟨m6, q4, h⟩ := q_bvE h
  refine bvC (u_Mo_leaves c v1 m0 _ q4) ?_
  obtain ⟨m9, q7, h⟩ := q_bvE h
  refine bvC (u_Mo_enters c v1 v2 m6 _ q7) ?_
  obtain ⟨r12, m13, q10, h⟩ := q_bdE h
  refine bdC (u_Mo_well c x3 m9 _ q10) ?_
  cases h
  rfl
set_option maxRecDepth 100000 in
set_option maxHeartbeats 4000000 in
theorem uB_Mo_carry_79 (c : h_C)  (v1 : Int) (v2 : Int) (v3 : Int) (m0 : h_M) (r : (Int × h_M)) (h : GB_Mo_carry_79 v1 v2 v3 m0 = some r) : B_Mo_carry_79 1125 v1 v2 v3 (h_H c m0) = some (r.1, (h_H c r.2)) := by
  unfold GB_Mo_carry_79 at h
  unfold B_Mo_carry_79
  refine gdT (miS c m0) ?_
  try rw [mr5 c m0]
  refine gdT (miA c m0 e5) ?_
  obtain ⟨g1, h⟩ := p_gdE h
  refine gdT ⟨g1.1, by rw [mlA c m0 e5]; exact g1.2⟩ ?_
  try rw [mzA c m0 e5 (v3 : Int).toNat]
  refine iteC Iff.rfl h (fun b2 h => ?_) (fun b2 h => ?_)
  · exact uB_Mo_carry_108 c v1 v2 m0 _ h
  · try rw [mr30 c m0]
    refine gdT (miA c m0 e30) ?_
    obtain ⟨g3, h⟩ := p_gdE h
    refine gdT ⟨g3.1, by rw [mlA c m0 e30]; exact g3.2⟩ ?_
    try rw [mzA c m0 e30 (v1 : Int).toNat]
    refine iteC Iff.rfl h (fun b4 h => ?_) (fun b4 h => ?_)
    · exact uB_Mo_carry_108 c v1 v2 m0 _ h
    · exact uB_Mo_carry_101 c m0 _ h
set_option maxRecDepth 100000 in
set_option maxHeartbeats 4000000 in
theorem u_Mo_carry (c : h_C) (v1 : Int) (v2 : Int) (m0 : h_M) (r : (Int × h_M)) (h : G_Mo_carry v1 v2 m0 = some r) : F_Mo_carry 1125 v1 v2 (h_H c m0) = some (r.1, (h_H c r.2)) := by
  unfold G_Mo_carry at h
  unfold F_Mo_carry
  refine gdT (miS c m0) ?_
  obtain ⟨r3, q1, h⟩ := q_bvE h
  refine bdC (u_Mo_noParcel c v1 m0 _ q1) ?_
  refine iteC Iff.rfl h (fun b5 h => ?_) (fun b5 h => ?_)
  · exact uB_Mo_carry_16 c m0 _ h
  · obtain ⟨r8, q6, h⟩ := q_bvE h
    refine bdC (u_Mo_noGear c v2 m0 _ q6) ?_
    refine iteC Iff.rfl h (fun b10 h => ?_) (fun b10 h => ?_)
    · obtain ⟨r13, q11, h⟩ := q_bvE h
      refine bdC (u_Mo_g c v2 m0 _ q11) ?_
      try rw [mr5 c m0]
      refine gdT (miA c m0 e5) ?_
      obtain ⟨g15, h⟩ := p_gdE h
      refine gdT ⟨g15.1, by rw [mlA c m0 e5]; exact g15.2⟩ ?_
      try rw [mzA c m0 e5 (r13 : Int).toNat]
      obtain ⟨r18, q16, h⟩ := q_bvE h
      refine bdC (u_Mo_isTaker c (m0 5 (r13 : Int).toNat) m0 _ q16) ?_
      refine iteC Iff.rfl h (fun b20 h => ?_) (fun b20 h => ?_)
      · try rw [mr22 c m0]
        refine gdT (miA c m0 e22) ?_
        obtain ⟨g21, h⟩ := p_gdE h
        refine gdT ⟨g21.1, by rw [mlA c m0 e22]; exact g21.2⟩ ?_
        try rw [mzA c m0 e22 ((p_w (8 * r13)) : Int).toNat]
        refine iteC Iff.rfl h (fun b22 h => ?_) (fun b22 h => ?_)
        · exact uB_Mo_carry_101 c m0 _ h
        · try rw [mr5 c m0]
          refine gdT (miA c m0 e5) ?_
          refine gdT ⟨g15.1, by rw [mlA c m0 e5]; exact g15.2⟩ ?_
          try rw [mzA c m0 e5 (r13 : Int).toNat]
          refine iteC Iff.rfl h (fun b23 h => ?_) (fun b23 h => ?_)
          · exact uB_Mo_carry_79 c v1 v2 r13 m0 _ h
          · try rw [mr30 c m0]
            refine gdT (miA c m0 e30) ?_
            obtain ⟨g24, h⟩ := p_gdE h
            refine gdT ⟨g24.1, by rw [mlA c m0 e30]; exact g24.2⟩ ?_
            try rw [mzA c m0 e30 (v1 : Int).toNat]
            refine iteC Iff.rfl h (fun b25 h => ?_) (fun b25 h => ?_)
            · exact uB_Mo_carry_101 c m0 _ h
            · exact uB_Mo_carry_79 c v1 v2 r13 m0 _ h
      · obtain ⟨r28, m29, q26, h⟩ := q_bdE h
        refine bdC (u_Mo_faulted c 2 m0 _ q26) ?_
        cases h
        rfl
    · exact uB_Mo_carry_16 c m0 _ h
def GB_Mo_group_36   (m0 : h_M) : Option (Int × h_M) :=
  q_bd (G_Mo_refused (-2) m0) fun r3 m4 =>
  some (r3, m4)
def GL_Mo_group_82 (k82 : Int → Int → Int → h_M → Option (Int × h_M)) (v3 : Int) (v4 : Int) (v5 : Int) (m0 : h_M) : Option (Int × h_M) :=
  if 8 ≤ v5 then
    q_bd (G_Mo_well v3 m0) fun r4 m5 =>
    some (r4, m5)
  else
    p_gd ((0 : Int) ≤ (p_w ((p_w (8 * v4)) + v5)) ∧ (p_w ((p_w (8 * v4)) + v5)) < (96 : Int)) <|
    p_bi (wm m0 61 ((p_w ((p_w (8 * v4)) + v5)) : Int).toNat 0) fun m8 =>
    p_bi (p_w (v5 + 1)) fun x10 =>
    k82 v3 v4 x10 m8
def GO_Mo_group_82  : Nat → Int → Int → Int → h_M → Option (Int × h_M)
  | 0 => fun _ _ _ _ => none
  | n + 1 => GL_Mo_group_82 (GO_Mo_group_82 n)
def G_Mo_group (v1 : Int) (v2 : Int) (v3 : Int) (m0 : h_M) : Option (Int × h_M) :=
  q_bv (G_Mo_beyond v1 0 3 m0) fun r3 =>
  if r3 = 0 then
    q_bv (G_Mo_beyond v2 0 3 m0) fun r8 =>
    if r8 ≠ 0 then
      GB_Mo_group_36 m0
    else
      if v3 ≤ 8 then
        if 0 ≤ v3 then
          p_bi ((p_w ((p_w (4 * (m0 100 0))) + v1))) fun x14 =>
          p_gd ((0 : Int) ≤ x14 ∧ x14 < (12 : Int)) <|
          p_bi (wm m0 59 (x14 : Int).toNat v3) fun m16 =>
          p_bi (wm m16 60 (x14 : Int).toNat v2) fun m18 =>
          GO_Mo_group_82 3000 v3 x14 0 m18
        else
          q_bd (G_Mo_faulted 5 m0) fun r22 m23 =>
          some (r22, m23)
      else
        GB_Mo_group_36 m0
  else
    q_bd (G_Mo_refused (-1) m0) fun r27 m28 =>
    some (r27, m28)
set_option maxRecDepth 100000 in
set_option maxHeartbeats 4000000 in
theorem uB_Mo_group_36 (c : h_C)   (m0 : h_M) (r : (Int × h_M)) (h : GB_Mo_group_36  m0 = some r) : B_Mo_group_36 1125 (h_H c m0) = some (r.1, (h_H c r.2)) := by
  unfold GB_Mo_group_36 at h
  unfold B_Mo_group_36
  refine gdT (miS c m0) ?_
  obtain ⟨r3, m4, q1, h⟩ := q_bdE h
  refine bdC (u_Mo_refused c (-2) m0 _ q1) ?_
  cases h
  rfl
set_option maxRecDepth 100000 in
set_option maxHeartbeats 4000000 in
theorem uL_Mo_group_82 (c : h_C) (j82 : Nat → Int → Int → Int → p_Hp → Option (Int × p_Hp)) (k82 : Int → Int → Int → h_M → Option (Int × h_M)) (hk82 : ∀ (v3 : Int) (v4 : Int) (v5 : Int) (m0 : h_M) (r : (Int × h_M)), k82 v3 v4 v5 m0 = some r → j82 1125 v3 v4 v5 (h_H c m0) = some (r.1, (h_H c r.2))) (v3 : Int) (v4 : Int) (v5 : Int) (m0 : h_M) (r : (Int × h_M)) (h : GL_Mo_group_82 k82 v3 v4 v5 m0 = some r) : L_Mo_group_82 j82 1125 v3 v4 v5 (h_H c m0) = some (r.1, (h_H c r.2)) := by
  unfold GL_Mo_group_82 at h
  unfold L_Mo_group_82
  refine iteC Iff.rfl h (fun b1 h => ?_) (fun b1 h => ?_)
  · refine gdT (miS c m0) ?_
    obtain ⟨r4, m5, q2, h⟩ := q_bdE h
    refine bdC (u_Mo_well c v3 m0 _ q2) ?_
    cases h
    rfl
  · refine gdT (miS c m0) ?_
    try rw [mr61 c m0]
    refine gdT (miA c m0 e61) ?_
    obtain ⟨g7, h⟩ := p_gdE h
    refine gdT ⟨g7.1, by rw [mlA c m0 e61]; exact g7.2⟩ ?_
    refine bM (mwA c m0 e61 _ _) h ?_
    intro m8 h
    refine bV h ?_
    intro x10 h
    exact hk82 v3 v4 x10 m8 _ h
set_option maxRecDepth 100000 in
set_option maxHeartbeats 4000000 in
theorem uO_Mo_group_82 (c : h_C)  : ∀ (n : Nat) (v3 : Int) (v4 : Int) (v5 : Int) (m0 : h_M) (r : (Int × h_M)), GO_Mo_group_82 n v3 v4 v5 m0 = some r → O_Mo_group_82 n 1125 v3 v4 v5 (h_H c m0) = some (r.1, (h_H c r.2)) := by
  intro n
  induction n with
  | zero => intro v3 v4 v5 m0 r h; cases h
  | succ n ih => intro v3 v4 v5 m0 r h; exact uL_Mo_group_82 c (O_Mo_group_82 n) (GO_Mo_group_82 n) ih v3 v4 v5 m0 r h
set_option maxRecDepth 100000 in
set_option maxHeartbeats 4000000 in
theorem u_Mo_group (c : h_C) (v1 : Int) (v2 : Int) (v3 : Int) (m0 : h_M) (r : (Int × h_M)) (h : G_Mo_group v1 v2 v3 m0 = some r) : F_Mo_group 1125 v1 v2 v3 (h_H c m0) = some (r.1, (h_H c r.2)) := by
  unfold G_Mo_group at h
  unfold F_Mo_group
  obtain ⟨r3, q1, h⟩ := q_bvE h
  refine bdC (u_Mo_beyond c v1 0 3 m0 _ q1) ?_
  refine iteC Iff.rfl h (fun b5 h => ?_) (fun b5 h => ?_)
  · obtain ⟨r8, q6, h⟩ := q_bvE h
    refine bdC (u_Mo_beyond c v2 0 3 m0 _ q6) ?_
    refine iteC Iff.rfl h (fun b10 h => ?_) (fun b10 h => ?_)
    · exact uB_Mo_group_36 c m0 _ h
    · refine iteC Iff.rfl h (fun b11 h => ?_) (fun b11 h => ?_)
      · refine iteC Iff.rfl h (fun b12 h => ?_) (fun b12 h => ?_)
        · refine gdT (miS c m0) ?_
          try rw [zs0 c m0]
          refine bV h ?_
          intro x14 h
          try rw [mr59 c m0]
          refine gdT (miA c m0 e59) ?_
          obtain ⟨g15, h⟩ := p_gdE h
          refine gdT ⟨g15.1, by rw [mlA c m0 e59]; exact g15.2⟩ ?_
          refine bM (mwA c m0 e59 _ _) h ?_
          intro m16 h
          try rw [mr60 c m16]
          refine gdT (miA c m16 e60) ?_
          refine gdT ⟨g15.1, by rw [mlA c m16 e60]; exact g15.2⟩ ?_
          refine bM (mwA c m16 e60 _ _) h ?_
          intro m18 h
          exact uO_Mo_group_82 c 3000 v3 x14 0 m18 _ h
        · refine gdT (miS c m0) ?_
          obtain ⟨r22, m23, q20, h⟩ := q_bdE h
          refine bdC (u_Mo_faulted c 5 m0 _ q20) ?_
          cases h
          rfl
      · exact uB_Mo_group_36 c m0 _ h
  · refine gdT (miS c m0) ?_
    obtain ⟨r27, m28, q25, h⟩ := q_bdE h
    refine bdC (u_Mo_refused c (-1) m0 _ q25) ?_
    cases h
    rfl
def GB_Mo_isOfType_41   (m0 : h_M) : Option Int :=
  some 1
def GB_Mo_isOfType_29  (v0 : Int) (v1 : Int) (m0 : h_M) : Option Int :=
  if v0 ≠ 3 then
    some 0
  else
    q_bv (G_Mo_isChute v1 m0) fun r4 =>
    if r4 = 0 then
      some 0
    else
      GB_Mo_isOfType_41 m0
def GB_Mo_isOfType_14  (v0 : Int) (v1 : Int) (m0 : h_M) : Option Int :=
  if v0 ≠ 2 then
    GB_Mo_isOfType_29 v0 v1 m0
  else
    if v1 = 3 then
      GB_Mo_isOfType_41 m0
    else
      if v1 = 4 then
        GB_Mo_isOfType_41 m0
      else
        GB_Mo_isOfType_29 v0 v1 m0
def G_Mo_isOfType (v0 : Int) (v1 : Int) (m0 : h_M) : Option Int :=
  if v0 = 0 then
    GB_Mo_isOfType_41 m0
  else
    if v0 ≠ 1 then
      GB_Mo_isOfType_14 v0 v1 m0
    else
      if v1 < 5 then
        GB_Mo_isOfType_41 m0
      else
        GB_Mo_isOfType_14 v0 v1 m0
set_option maxRecDepth 100000 in
set_option maxHeartbeats 4000000 in
theorem uB_Mo_isOfType_41 (c : h_C)   (m0 : h_M) (r : Int) (h : GB_Mo_isOfType_41  m0 = some r) : B_Mo_isOfType_41  (h_H c m0) = some (r, (h_H c m0)) := by
  unfold GB_Mo_isOfType_41 at h
  unfold B_Mo_isOfType_41
  cases h
  rfl
set_option maxRecDepth 100000 in
set_option maxHeartbeats 4000000 in
theorem uB_Mo_isOfType_29 (c : h_C)  (v0 : Int) (v1 : Int) (m0 : h_M) (r : Int) (h : GB_Mo_isOfType_29 v0 v1 m0 = some r) : B_Mo_isOfType_29 v0 v1 (h_H c m0) = some (r, (h_H c m0)) := by
  unfold GB_Mo_isOfType_29 at h
  unfold B_Mo_isOfType_29
  refine iteC Iff.rfl h (fun b1 h => ?_) (fun b1 h => ?_)
  · cases h
    rfl
  · obtain ⟨r4, q2, h⟩ := q_bvE h
    refine bdC (u_Mo_isChute c v1 m0 _ q2) ?_
    refine iteC Iff.rfl h (fun b6 h => ?_) (fun b6 h => ?_)
    · cases h
      rfl
    · exact uB_Mo_isOfType_41 c m0 _ h
set_option maxRecDepth 100000 in
set_option maxHeartbeats 4000000 in
theorem uB_Mo_isOfType_14 (c : h_C)  (v0 : Int) (v1 : Int) (m0 : h_M) (r : Int) (h : GB_Mo_isOfType_14 v0 v1 m0 = some r) : B_Mo_isOfType_14 v0 v1 (h_H c m0) = some (r, (h_H c m0)) := by
  unfold GB_Mo_isOfType_14 at h
  unfold B_Mo_isOfType_14
  refine iteC Iff.rfl h (fun b1 h => ?_) (fun b1 h => ?_)
  · exact uB_Mo_isOfType_29 c v0 v1 m0 _ h
  · refine iteC Iff.rfl h (fun b2 h => ?_) (fun b2 h => ?_)
    · exact uB_Mo_isOfType_41 c m0 _ h
    · refine iteC Iff.rfl h (fun b3 h => ?_) (fun b3 h => ?_)
      · exact uB_Mo_isOfType_41 c m0 _ h
      · exact uB_Mo_isOfType_29 c v0 v1 m0 _ h
set_option maxRecDepth 100000 in
set_option maxHeartbeats 4000000 in
theorem u_Mo_isOfType (c : h_C) (v0 : Int) (v1 : Int) (m0 : h_M) (r : Int) (h : G_Mo_isOfType v0 v1 m0 = some r) : F_Mo_isOfType v0 v1 (h_H c m0) = some (r, (h_H c m0)) := by
  unfold G_Mo_isOfType at h
  unfold F_Mo_isOfType
  refine iteC Iff.rfl h (fun b1 h => ?_) (fun b1 h => ?_)
  · exact uB_Mo_isOfType_41 c m0 _ h
  · refine iteC Iff.rfl h (fun b2 h => ?_) (fun b2 h => ?_)
    · exact uB_Mo_isOfType_14 c v0 v1 m0 _ h
    · refine iteC Iff.rfl h (fun b3 h => ?_) (fun b3 h => ?_)
      · exact uB_Mo_isOfType_41 c m0 _ h
      · exact uB_Mo_isOfType_14 c v0 v1 m0 _ h
def GB_Mo_enter_20   (m0 : h_M) : Option (Int × h_M) :=
  q_bd (G_Mo_refused (-1) m0) fun r3 m4 =>
  some (r3, m4)
def GB_Mo_enter_101  (v2 : Int) (v3 : Int) (v4 : Int) (w0 : Int) (m0 : h_M) : Option (Int × h_M) :=
  if w0 ≤ 0 then
    p_gd ((0 : Int) ≤ (p_w ((p_w (8 * v4)) + v2)) ∧ (p_w ((p_w (8 * v4)) + v2)) < (96 : Int)) <|
    p_bi (wm m0 61 ((p_w ((p_w (8 * v4)) + v2)) : Int).toNat (p_w (1 + v3))) fun m3 =>
    q_bd (G_Mo_well 1 m3) fun r7 m8 =>
    some (r7, m8)
  else
    q_bd (G_Mo_faulted w0 m0) fun r12 m13 =>
    some (r12, m13)
def G_Mo_enter (v1 : Int) (v2 : Int) (v3 : Int) (m0 : h_M) : Option (Int × h_M) :=
  q_bv (G_Mo_beyond v1 0 3 m0) fun r3 =>
  if r3 ≠ 0 then
    GB_Mo_enter_20 m0
  else
    q_bv (G_Mo_noGear v3 m0) fun r8 =>
    if r8 = 0 then
      p_bi ((p_w ((p_w (4 * (m0 100 0))) + v1))) fun x12 =>
      p_gd ((0 : Int) ≤ x12 ∧ x12 < (12 : Int)) <|
      if 0 ≤ (m0 59 (x12 : Int).toNat) then
        q_bv (G_Mo_beyond v2 0 (p_w ((m0 59 (x12 : Int).toNat) - 1)) m0) fun r17 =>
        if r17 = 0 then
          q_bv (G_Mo_g v3 m0) fun r22 =>
          p_gd ((0 : Int) ≤ r22 ∧ r22 < (120 : Int)) <|
          q_bv (G_Mo_isOfType (m0 60 (x12 : Int).toNat) (m0 5 (r22 : Int).toNat) m0) fun r27 =>
          if r27 ≠ 0 then
            GB_Mo_enter_101 v2 v3 x12 0 m0
          else
            GB_Mo_enter_101 v2 v3 x12 4 m0
        else
          GB_Mo_enter_101 v2 v3 x12 3 m0
      else
        GB_Mo_enter_101 v2 v3 x12 1 m0
    else
      GB_Mo_enter_20 m0
set_option maxRecDepth 100000 in
set_option maxHeartbeats 4000000 in
theorem uB_Mo_enter_20 (c : h_C)   (m0 : h_M) (r : (Int × h_M)) (h : GB_Mo_enter_20  m0 = some r) : B_Mo_enter_20 1125 (h_H c m0) = some (r.1, (h_H c r.2)) := by
  unfold GB_Mo_enter_20 at h
  unfold B_Mo_enter_20
  refine gdT (miS c m0) ?_
  obtain ⟨r3, m4, q1, h⟩ := q_bdE h
  refine bdC (u_Mo_refused c (-1) m0 _ q1) ?_
  cases h
  rfl
set_option maxRecDepth 100000 in
set_option maxHeartbeats 4000000 in
theorem uB_Mo_enter_101 (c : h_C)  (v2 : Int) (v3 : Int) (v4 : Int) (w0 : Int) (m0 : h_M) (r : (Int × h_M)) (h : GB_Mo_enter_101 v2 v3 v4 w0 m0 = some r) : B_Mo_enter_101 1125 v2 v3 v4 w0 (h_H c m0) = some (r.1, (h_H c r.2)) := by
  unfold GB_Mo_enter_101 at h
  unfold B_Mo_enter_101
  refine iteC Iff.rfl h (fun b1 h => ?_) (fun b1 h => ?_)
  · refine gdT (miS c m0) ?_
    try rw [mr61 c m0]
    refine gdT (miA c m0 e61) ?_
    obtain ⟨g2, h⟩ := p_gdE h
    refine gdT ⟨g2.1, by rw [mlA c m0 e61]; exact g2.2⟩ ?_
    refine bM (mwA c m0 e61 _ _) h ?_
    intro m3 h
    obtain ⟨r7, m8, q5, h⟩ := q_bdE h
    refine bdC (u_Mo_well c 1 m3 _ q5) ?_
    cases h
    rfl
  · refine gdT (miS c m0) ?_
    obtain ⟨r12, m13, q10, h⟩ := q_bdE h
    refine bdC (u_Mo_faulted c w0 m0 _ q10) ?_
    cases h
    rfl
set_option maxRecDepth 100000 in
set_option maxHeartbeats 4000000 in
theorem u_Mo_enter (c : h_C) (v1 : Int) (v2 : Int) (v3 : Int) (m0 : h_M) (r : (Int × h_M)) (h : G_Mo_enter v1 v2 v3 m0 = some r) : F_Mo_enter 1125 v1 v2 v3 (h_H c m0) = some (r.1, (h_H c r.2)) := by
  unfold G_Mo_enter at h
  unfold F_Mo_enter
  obtain ⟨r3, q1, h⟩ := q_bvE h
  refine bdC (u_Mo_beyond c v1 0 3 m0 _ q1) ?_
  refine iteC Iff.rfl h (fun b5 h => ?_) (fun b5 h => ?_)
  · exact uB_Mo_enter_20 c m0 _ h
  · refine gdT (miS c m0) ?_
    obtain ⟨r8, q6, h⟩ := q_bvE h
    refine bdC (u_Mo_noGear c v3 m0 _ q6) ?_
    refine iteC Iff.rfl h (fun b10 h => ?_) (fun b10 h => ?_)
    · try rw [zs0 c m0]
      refine bV h ?_
      intro x12 h
      try rw [mr59 c m0]
      refine gdT (miA c m0 e59) ?_
      obtain ⟨g13, h⟩ := p_gdE h
      refine gdT ⟨g13.1, by rw [mlA c m0 e59]; exact g13.2⟩ ?_
      try rw [mzA c m0 e59 (x12 : Int).toNat]
      refine iteC Iff.rfl h (fun b14 h => ?_) (fun b14 h => ?_)
      · try rw [mr59 c m0]
        refine gdT ⟨g13.1, by rw [mlA c m0 e59]; exact g13.2⟩ ?_
        try rw [mzA c m0 e59 (x12 : Int).toNat]
        obtain ⟨r17, q15, h⟩ := q_bvE h
        refine bdC (u_Mo_beyond c v2 0 (p_w ((m0 59 (x12 : Int).toNat) - 1)) m0 _ q15) ?_
        refine iteC Iff.rfl h (fun b19 h => ?_) (fun b19 h => ?_)
        · try rw [mr60 c m0]
          refine gdT (miA c m0 e60) ?_
          refine gdT ⟨g13.1, by rw [mlA c m0 e60]; exact g13.2⟩ ?_
          try rw [mzA c m0 e60 (x12 : Int).toNat]
          try rw [mr5 c m0]
          obtain ⟨r22, q20, h⟩ := q_bvE h
          refine bdC (u_Mo_g c v3 m0 _ q20) ?_
          refine gdT (miA c m0 e5) ?_
          obtain ⟨g24, h⟩ := p_gdE h
          refine gdT ⟨g24.1, by rw [mlA c m0 e5]; exact g24.2⟩ ?_
          try rw [mzA c m0 e5 (r22 : Int).toNat]
          obtain ⟨r27, q25, h⟩ := q_bvE h
          refine bdC (u_Mo_isOfType c (m0 60 (x12 : Int).toNat) (m0 5 (r22 : Int).toNat) m0 _ q25) ?_
          refine iteC Iff.rfl h (fun b29 h => ?_) (fun b29 h => ?_)
          · exact uB_Mo_enter_101 c v2 v3 x12 0 m0 _ h
          · exact uB_Mo_enter_101 c v2 v3 x12 4 m0 _ h
        · exact uB_Mo_enter_101 c v2 v3 x12 3 m0 _ h
      · exact uB_Mo_enter_101 c v2 v3 x12 1 m0 _ h
    · exact uB_Mo_enter_20 c m0 _ h
def GB_Mo_tally_154 (k67 : Int → Int → Int → Int → h_M → Option (Int × h_M)) (v2 : Int) (v3 : Int) (v5 : Int) (w0 : Int) (w1 : Int) (m0 : h_M) : Option (Int × h_M) :=
  p_bi ((p_w (w1 + w0))) fun x2 =>
  p_bi (p_w (v5 + 1)) fun x3 =>
  k67 v2 v3 x2 x3 m0
def GL_Mo_tally_67 (k67 : Int → Int → Int → Int → h_M → Option (Int × h_M)) (v2 : Int) (v3 : Int) (v4 : Int) (v5 : Int) (m0 : h_M) : Option (Int × h_M) :=
  p_gd ((0 : Int) ≤ v3 ∧ v3 < (12 : Int)) <|
  if (m0 59 (v3 : Int).toNat) ≤ v5 then
    q_bd (G_Mo_well v4 m0) fun r5 m6 =>
    some (r5, m6)
  else
    p_gd ((0 : Int) ≤ (p_w ((p_w (8 * v3)) + v5)) ∧ (p_w ((p_w (8 * v3)) + v5)) < (96 : Int)) <|
    p_bi ((p_w ((m0 61 ((p_w ((p_w (8 * v3)) + v5)) : Int).toNat) - 1))) fun x10 =>
    if 0 ≤ x10 then
      if v2 ≠ 0 then
        if v2 ≠ 1 then
          q_bv (G_Mo_g x10 m0) fun r16 =>
          p_gd ((0 : Int) ≤ r16 ∧ r16 < (120 : Int)) <|
          GB_Mo_tally_154 k67 v2 v3 v5 (m0 19 (r16 : Int).toNat) v4 m0
        else
          q_bv (G_Mo_g x10 m0) fun r21 =>
          p_gd ((0 : Int) ≤ r21 ∧ r21 < (120 : Int)) <|
          GB_Mo_tally_154 k67 v2 v3 v5 (m0 18 (r21 : Int).toNat) v4 m0
      else
        q_bv (G_Mo_g x10 m0) fun r26 =>
        q_bv (G_Mo_loadOf r26 m0) fun r30 =>
        GB_Mo_tally_154 k67 v2 v3 v5 r30 v4 m0
    else
      q_bd (G_Mo_faulted 1 m0) fun r34 m35 =>
      some (r34, m35)
def GO_Mo_tally_67  : Nat → Int → Int → Int → Int → h_M → Option (Int × h_M)
  | 0 => fun _ _ _ _ _ => none
  | n + 1 => GL_Mo_tally_67 (GO_Mo_tally_67 n)
def G_Mo_tally (v1 : Int) (v2 : Int) (m0 : h_M) : Option (Int × h_M) :=
  q_bv (G_Mo_beyond v1 0 3 m0) fun r3 =>
  if r3 = 0 then
    q_bv (G_Mo_beyond v2 0 2 m0) fun r8 =>
    if r8 = 0 then
      p_bi ((p_w ((p_w (4 * (m0 100 0))) + v1))) fun x12 =>
      p_gd ((0 : Int) ≤ x12 ∧ x12 < (12 : Int)) <|
      if 0 ≤ (m0 59 (x12 : Int).toNat) then
        GO_Mo_tally_67 3000 v2 x12 0 0 m0
      else
        q_bd (G_Mo_faulted 1 m0) fun r17 m18 =>
        some (r17, m18)
    else
      q_bd (G_Mo_refused (-2) m0) fun r22 m23 =>
      some (r22, m23)
  else
    q_bd (G_Mo_refused (-1) m0) fun r27 m28 =>
    some (r27, m28)
set_option maxRecDepth 100000 in
set_option maxHeartbeats 4000000 in
theorem uB_Mo_tally_154 (c : h_C) (j67 : Nat → Int → Int → Int → Int → p_Hp → Option (Int × p_Hp)) (k67 : Int → Int → Int → Int → h_M → Option (Int × h_M)) (hk67 : ∀ (v2 : Int) (v3 : Int) (v4 : Int) (v5 : Int) (m0 : h_M) (r : (Int × h_M)), k67 v2 v3 v4 v5 m0 = some r → j67 1125 v2 v3 v4 v5 (h_H c m0) = some (r.1, (h_H c r.2))) (v2 : Int) (v3 : Int) (v5 : Int) (w0 : Int) (w1 : Int) (m0 : h_M) (r : (Int × h_M)) (h : GB_Mo_tally_154 k67 v2 v3 v5 w0 w1 m0 = some r) : B_Mo_tally_154 j67 1125 v2 v3 v5 w0 w1 (h_H c m0) = some (r.1, (h_H c r.2)) := by
  unfold GB_Mo_tally_154 at h
  unfold B_Mo_tally_154
  refine bV h ?_
  intro x2 h
  refine bV h ?_
  intro x3 h
  exact hk67 v2 v3 x2 x3 m0 _ h
set_option maxRecDepth 100000 in
set_option maxHeartbeats 4000000 in
theorem uL_Mo_tally_67 (c : h_C) (j67 : Nat → Int → Int → Int → Int → p_Hp → Option (Int × p_Hp)) (k67 : Int → Int → Int → Int → h_M → Option (Int × h_M)) (hk67 : ∀ (v2 : Int) (v3 : Int) (v4 : Int) (v5 : Int) (m0 : h_M) (r : (Int × h_M)), k67 v2 v3 v4 v5 m0 = some r → j67 1125 v2 v3 v4 v5 (h_H c m0) = some (r.1, (h_H c r.2))) (v2 : Int) (v3 : Int) (v4 : Int) (v5 : Int) (m0 : h_M) (r : (Int × h_M)) (h : GL_Mo_tally_67 k67 v2 v3 v4 v5 m0 = some r) : L_Mo_tally_67 j67 1125 v2 v3 v4 v5 (h_H c m0) = some (r.1, (h_H c r.2)) := by
  unfold GL_Mo_tally_67 at h
  unfold L_Mo_tally_67
  refine gdT (miS c m0) ?_
  try rw [mr59 c m0]
  refine gdT (miA c m0 e59) ?_
  obtain ⟨g1, h⟩ := p_gdE h
  refine gdT ⟨g1.1, by rw [mlA c m0 e59]; exact g1.2⟩ ?_
  try rw [mzA c m0 e59 (v3 : Int).toNat]
  refine iteC Iff.rfl h (fun b2 h => ?_) (fun b2 h => ?_)
  · obtain ⟨r5, m6, q3, h⟩ := q_bdE h
    refine bdC (u_Mo_well c v4 m0 _ q3) ?_
    cases h
    rfl
  · try rw [mr61 c m0]
    refine gdT (miA c m0 e61) ?_
    obtain ⟨g8, h⟩ := p_gdE h
    refine gdT ⟨g8.1, by rw [mlA c m0 e61]; exact g8.2⟩ ?_
    try rw [mzA c m0 e61 ((p_w ((p_w (8 * v3)) + v5)) : Int).toNat]
    refine bV h ?_
    intro x10 h
    refine iteC Iff.rfl h (fun b11 h => ?_) (fun b11 h => ?_)
    · refine iteC Iff.rfl h (fun b12 h => ?_) (fun b12 h => ?_)
      · refine iteC Iff.rfl h (fun b13 h => ?_) (fun b13 h => ?_)
        · try rw [mr19 c m0]
          obtain ⟨r16, q14, h⟩ := q_bvE h
          refine bdC (u_Mo_g c x10 m0 _ q14) ?_
          refine gdT (miA c m0 e19) ?_
          obtain ⟨g18, h⟩ := p_gdE h
          refine gdT ⟨g18.1, by rw [mlA c m0 e19]; exact g18.2⟩ ?_
          try rw [mzA c m0 e19 (r16 : Int).toNat]
          exact uB_Mo_tally_154 c j67 k67 hk67 v2 v3 v5 (m0 19 (r16 : Int).toNat) v4 m0 _ h
        · try rw [mr18 c m0]
          obtain ⟨r21, q19, h⟩ := q_bvE h
          refine bdC (u_Mo_g c x10 m0 _ q19) ?_
          refine gdT (miA c m0 e18) ?_
          obtain ⟨g23, h⟩ := p_gdE h
          refine gdT ⟨g23.1, by rw [mlA c m0 e18]; exact g23.2⟩ ?_
          try rw [mzA c m0 e18 (r21 : Int).toNat]
          exact uB_Mo_tally_154 c j67 k67 hk67 v2 v3 v5 (m0 18 (r21 : Int).toNat) v4 m0 _ h
      · obtain ⟨r26, q24, h⟩ := q_bvE h
        refine bdC (u_Mo_g c x10 m0 _ q24) ?_
        obtain ⟨r30, q28, h⟩ := q_bvE h
        refine bdC (u_Mo_loadOf c r26 m0 _ q28) ?_
        exact uB_Mo_tally_154 c j67 k67 hk67 v2 v3 v5 r30 v4 m0 _ h
    · obtain ⟨r34, m35, q32, h⟩ := q_bdE h
      refine bdC (u_Mo_faulted c 1 m0 _ q32) ?_
      cases h
      rfl
set_option maxRecDepth 100000 in
set_option maxHeartbeats 4000000 in
theorem uO_Mo_tally_67 (c : h_C)  : ∀ (n : Nat) (v2 : Int) (v3 : Int) (v4 : Int) (v5 : Int) (m0 : h_M) (r : (Int × h_M)), GO_Mo_tally_67 n v2 v3 v4 v5 m0 = some r → O_Mo_tally_67 n 1125 v2 v3 v4 v5 (h_H c m0) = some (r.1, (h_H c r.2)) := by
  intro n
  induction n with
  | zero => intro v2 v3 v4 v5 m0 r h; cases h
  | succ n ih => intro v2 v3 v4 v5 m0 r h; exact uL_Mo_tally_67 c (O_Mo_tally_67 n) (GO_Mo_tally_67 n) ih v2 v3 v4 v5 m0 r h
set_option maxRecDepth 100000 in
set_option maxHeartbeats 4000000 in
theorem u_Mo_tally (c : h_C) (v1 : Int) (v2 : Int) (m0 : h_M) (r : (Int × h_M)) (h : G_Mo_tally v1 v2 m0 = some r) : F_Mo_tally 1125 v1 v2 (h_H c m0) = some (r.1, (h_H c r.2)) := by
  unfold G_Mo_tally at h
  unfold F_Mo_tally
  obtain ⟨r3, q1, h⟩ := q_bvE h
  refine bdC (u_Mo_beyond c v1 0 3 m0 _ q1) ?_
  refine iteC Iff.rfl h (fun b5 h => ?_) (fun b5 h => ?_)
  · obtain ⟨r8, q6, h⟩ := q_bvE h
    refine bdC (u_Mo_beyond c v2 0 2 m0 _ q6) ?_
    refine iteC Iff.rfl h (fun b10 h => ?_) (fun b10 h => ?_)
    · refine gdT (miS c m0) ?_
      try rw [zs0 c m0]
      refine bV h ?_
      intro x12 h
      try rw [mr59 c m0]
      refine gdT (miA c m0 e59) ?_
      obtain ⟨g13, h⟩ := p_gdE h
      refine gdT ⟨g13.1, by rw [mlA c m0 e59]; exact g13.2⟩ ?_
      try rw [mzA c m0 e59 (x12 : Int).toNat]
      refine iteC Iff.rfl h (fun b14 h => ?_) (fun b14 h => ?_)
      · exact uO_Mo_tally_67 c 3000 v2 x12 0 0 m0 _ h
      · obtain ⟨r17, m18, q15, h⟩ := q_bdE h
        refine bdC (u_Mo_faulted c 1 m0 _ q15) ?_
        cases h
        rfl
    · refine gdT (miS c m0) ?_
      obtain ⟨r22, m23, q20, h⟩ := q_bdE h
      refine bdC (u_Mo_refused c (-2) m0 _ q20) ?_
      cases h
      rfl
  · refine gdT (miS c m0) ?_
    obtain ⟨r27, m28, q25, h⟩ := q_bdE h
    refine bdC (u_Mo_refused c (-1) m0 _ q25) ?_
    cases h
    rfl
def G_Mo_isFull  (m0 : h_M) : Option Int :=
  if (m0 102 0) < 5000 then
    some 0
  else
    some 1
set_option maxRecDepth 100000 in
set_option maxHeartbeats 4000000 in
theorem u_Mo_isFull (c : h_C)  (m0 : h_M) (r : Int) (h : G_Mo_isFull  m0 = some r) : F_Mo_isFull 1125 (h_H c m0) = some (r, (h_H c m0)) := by
  unfold G_Mo_isFull at h
  unfold F_Mo_isFull
  refine gdT (miS c m0) ?_
  try rw [zs2 c m0]
  refine iteC Iff.rfl h (fun b1 h => ?_) (fun b1 h => ?_)
  · cases h
    rfl
  · cases h
    rfl
def GB_Mo_find_66  (v1 : Int) (v2 : Int) (v3 : Int) (v4 : Int) (w0 : Int) (w1 : Int) (m0 : h_M) : Option h_M :=
  p_gd ((0 : Int) ≤ w1 ∧ w1 < (600 : Int)) <|
  p_bi (wm m0 43 (w1 : Int).toNat w0) fun m2 =>
  p_gd ((0 : Int) ≤ (p_w ((p_w (5 * v4)) + 2)) ∧ (p_w ((p_w (5 * v4)) + 2)) < (600 : Int)) <|
  p_bi (wm m2 43 ((p_w ((p_w (5 * v4)) + 2)) : Int).toNat v1) fun m5 =>
  p_gd ((0 : Int) ≤ (p_w ((p_w (5 * v4)) + 3)) ∧ (p_w ((p_w (5 * v4)) + 3)) < (600 : Int)) <|
  p_bi (wm m5 43 ((p_w ((p_w (5 * v4)) + 3)) : Int).toNat v2) fun m8 =>
  p_gd ((0 : Int) ≤ (p_w ((p_w (5 * v4)) + 4)) ∧ (p_w ((p_w (5 * v4)) + 4)) < (600 : Int)) <|
  p_bi (wm m8 43 ((p_w ((p_w (5 * v4)) + 4)) : Int).toNat v3) fun m11 =>
  p_gd ((0 : Int) ≤ (m11 100 0) ∧ (m11 100 0) < (3 : Int)) <|
  p_bi (wm m11 42 ((m11 100 0) : Int).toNat (p_w ((m11 42 ((m11 100 0) : Int).toNat) + 1))) fun m14 =>
  p_bi (wm m14 102 0 (p_w ((m14 102 0) + 1))) fun m16 =>
  p_bi (wm m16 172 0 (p_w ((m16 172 0) + 1))) fun m18 =>
  if (m18 171 0) < 0 then
    some m18
  else
    q_bv (G_Mo_g (m18 171 0) m18) fun r23 =>
    p_gd ((0 : Int) ≤ r23 ∧ r23 < (120 : Int)) <|
    p_bi (wm m18 20 (r23 : Int).toNat (p_w ((m18 20 (r23 : Int).toNat) + 1))) fun m26 =>
    some m26
def G_Mo_find (v1 : Int) (v2 : Int) (v3 : Int) (m0 : h_M) : Option h_M :=
  p_gd ((0 : Int) ≤ (m0 100 0) ∧ (m0 100 0) < (3 : Int)) <|
  p_bi ((p_w ((p_w (40 * (m0 100 0))) + (p_rem (m0 42 ((m0 100 0) : Int).toNat) 40)))) fun x3 =>
  p_gd ((0 : Int) ≤ (p_w (5 * x3)) ∧ (p_w (5 * x3)) < (600 : Int)) <|
  p_bi (wm m0 43 ((p_w (5 * x3)) : Int).toNat (m0 4 ((m0 100 0) : Int).toNat)) fun m5 =>
  if 0 ≤ (m5 171 0) then
    GB_Mo_find_66 v1 v2 v3 x3 (m5 171 0) (p_w ((p_w (5 * x3)) + 1)) m5
  else
    GB_Mo_find_66 v1 v2 v3 x3 (-9) (p_w ((p_w (5 * x3)) + 1)) m5
set_option maxRecDepth 100000 in
set_option maxHeartbeats 4000000 in
theorem uB_Mo_find_66 (c : h_C)  (v1 : Int) (v2 : Int) (v3 : Int) (v4 : Int) (w0 : Int) (w1 : Int) (m0 : h_M) (r : h_M) (h : GB_Mo_find_66 v1 v2 v3 v4 w0 w1 m0 = some r) : B_Mo_find_66 1125 v1 v2 v3 v4 w0 w1 1165 (h_H c m0) = some (h_H c r) := by
  unfold GB_Mo_find_66 at h
  unfold B_Mo_find_66
  refine gdT (miA c m0 e43) ?_
  obtain ⟨g1, h⟩ := p_gdE h
  refine gdT ⟨g1.1, by rw [mlA c m0 e43]; exact g1.2⟩ ?_
  refine bM (mwA c m0 e43 _ _) h ?_
  intro m2 h
  refine gdT (miS c m2) ?_
  try rw [mr43 c m2]
  refine gdT (miA c m2 e43) ?_
  obtain ⟨g4, h⟩ := p_gdE h
  refine gdT ⟨g4.1, by rw [mlA c m2 e43]; exact g4.2⟩ ?_
  refine bM (mwA c m2 e43 _ _) h ?_
  intro m5 h
  try rw [mr43 c m5]
  refine gdT (miA c m5 e43) ?_
  obtain ⟨g7, h⟩ := p_gdE h
  refine gdT ⟨g7.1, by rw [mlA c m5 e43]; exact g7.2⟩ ?_
  refine bM (mwA c m5 e43 _ _) h ?_
  intro m8 h
  try rw [mr43 c m8]
  refine gdT (miA c m8 e43) ?_
  obtain ⟨g10, h⟩ := p_gdE h
  refine gdT ⟨g10.1, by rw [mlA c m8 e43]; exact g10.2⟩ ?_
  refine bM (mwA c m8 e43 _ _) h ?_
  intro m11 h
  try rw [mr42 c m11]
  try rw [zs0 c m11]
  refine gdT (miA c m11 e42) ?_
  obtain ⟨g13, h⟩ := p_gdE h
  refine gdT ⟨g13.1, by rw [mlA c m11 e42]; exact g13.2⟩ ?_
  try rw [mzA c m11 e42 ((m11 100 0) : Int).toNat]
  refine gdT ⟨g13.1, by rw [mlA c m11 e42]; exact g13.2⟩ ?_
  refine bM (mwA c m11 e42 _ _) h ?_
  intro m14 h
  try rw [zs2 c m14]
  refine bM (ws2 c m14 _) h ?_
  intro m16 h
  try rw [zs72 c m16]
  refine bM (ws72 c m16 _) h ?_
  intro m18 h
  try rw [zs71 c m18]
  refine iteC Iff.rfl h (fun b20 h => ?_) (fun b20 h => ?_)
  · cases h
    rfl
  · try rw [mr20 c m18]
    try rw [zs71 c m18]
    obtain ⟨r23, q21, h⟩ := q_bvE h
    refine bdC (u_Mo_g c (m18 171 0) m18 _ q21) ?_
    refine gdT (miA c m18 e20) ?_
    obtain ⟨g25, h⟩ := p_gdE h
    refine gdT ⟨g25.1, by rw [mlA c m18 e20]; exact g25.2⟩ ?_
    try rw [mzA c m18 e20 (r23 : Int).toNat]
    refine gdT ⟨g25.1, by rw [mlA c m18 e20]; exact g25.2⟩ ?_
    refine bM (mwA c m18 e20 _ _) h ?_
    intro m26 h
    cases h
    rfl
set_option maxRecDepth 100000 in
set_option maxHeartbeats 4000000 in
theorem u_Mo_find (c : h_C) (v1 : Int) (v2 : Int) (v3 : Int) (m0 : h_M) (r : h_M) (h : G_Mo_find v1 v2 v3 m0 = some r) : F_Mo_find 1125 v1 v2 v3 (h_H c m0) = some (h_H c r) := by
  unfold G_Mo_find at h
  unfold F_Mo_find
  refine gdT (miS c m0) ?_
  try rw [zs0 c m0]
  try rw [mr42 c m0]
  try rw [zs0 c m0]
  refine gdT (miA c m0 e42) ?_
  obtain ⟨g1, h⟩ := p_gdE h
  refine gdT ⟨g1.1, by rw [mlA c m0 e42]; exact g1.2⟩ ?_
  try rw [mzA c m0 e42 ((m0 100 0) : Int).toNat]
  refine bV h ?_
  intro x3 h
  try rw [mr43 c m0]
  try rw [mr4 c m0]
  try rw [zs0 c m0]
  refine gdT (miA c m0 e4) ?_
  refine gdT ⟨g1.1, by rw [mlA c m0 e4]; exact g1.2⟩ ?_
  try rw [mzA c m0 e4 ((m0 100 0) : Int).toNat]
  refine gdT (miA c m0 e43) ?_
  obtain ⟨g4, h⟩ := p_gdE h
  refine gdT ⟨g4.1, by rw [mlA c m0 e43]; exact g4.2⟩ ?_
  refine bM (mwA c m0 e43 _ _) h ?_
  intro m5 h
  try rw [mr43 c m5]
  try rw [zs71 c m5]
  refine iteC Iff.rfl h (fun b7 h => ?_) (fun b7 h => ?_)
  · try rw [zs71 c m5]
    exact uB_Mo_find_66 c v1 v2 v3 x3 (m5 171 0) (p_w ((p_w (5 * x3)) + 1)) m5 _ h
  · exact uB_Mo_find_66 c v1 v2 v3 x3 (-9) (p_w ((p_w (5 * x3)) + 1)) m5 _ h
def G_Mo_follow (v1 : Int) (v2 : Int) (m0 : h_M) : Option (Int × h_M) :=
  q_bv (G_Mo_g v1 m0) fun r3 =>
  p_gd ((0 : Int) ≤ r3 ∧ r3 < (120 : Int)) <|
  if 0 ≤ (m0 7 (r3 : Int).toNat) then
    if (m0 7 (r3 : Int).toNat) ≤ v2 then
      some (3, m0)
    else
      p_gd ((0 : Int) ≤ (p_w ((p_w (3 * r3)) + v2)) ∧ (p_w ((p_w (3 * r3)) + v2)) < (360 : Int)) <|
      if 0 ≤ (m0 8 ((p_w ((p_w (3 * r3)) + v2)) : Int).toNat) then
        p_bi (wm m0 173 0 (m0 8 ((p_w ((p_w (3 * r3)) + v2)) : Int).toNat)) fun m10 =>
        q_bv (G_Mo_noGear (m10 173 0) m10) fun r14 =>
        if r14 = 0 then
          some (0, m10)
        else
          some (1, m10)
      else
        some (3, m0)
  else
    some (1, m0)
set_option maxRecDepth 100000 in
set_option maxHeartbeats 4000000 in
theorem u_Mo_follow (c : h_C) (v1 : Int) (v2 : Int) (m0 : h_M) (r : (Int × h_M)) (h : G_Mo_follow v1 v2 m0 = some r) : F_Mo_follow 1125 v1 v2 (h_H c m0) = some (r.1, (h_H c r.2)) := by
  unfold G_Mo_follow at h
  unfold F_Mo_follow
  refine gdT (miS c m0) ?_
  obtain ⟨r3, q1, h⟩ := q_bvE h
  refine bdC (u_Mo_g c v1 m0 _ q1) ?_
  try rw [mr7 c m0]
  refine gdT (miA c m0 e7) ?_
  obtain ⟨g5, h⟩ := p_gdE h
  refine gdT ⟨g5.1, by rw [mlA c m0 e7]; exact g5.2⟩ ?_
  try rw [mzA c m0 e7 (r3 : Int).toNat]
  refine iteC Iff.rfl h (fun b6 h => ?_) (fun b6 h => ?_)
  · try rw [mr7 c m0]
    refine gdT ⟨g5.1, by rw [mlA c m0 e7]; exact g5.2⟩ ?_
    try rw [mzA c m0 e7 (r3 : Int).toNat]
    refine iteC Iff.rfl h (fun b7 h => ?_) (fun b7 h => ?_)
    · cases h
      rfl
    · try rw [mr8 c m0]
      refine gdT (miA c m0 e8) ?_
      obtain ⟨g8, h⟩ := p_gdE h
      refine gdT ⟨g8.1, by rw [mlA c m0 e8]; exact g8.2⟩ ?_
      try rw [mzA c m0 e8 ((p_w ((p_w (3 * r3)) + v2)) : Int).toNat]
      refine iteC Iff.rfl h (fun b9 h => ?_) (fun b9 h => ?_)
      · try rw [mr8 c m0]
        refine gdT ⟨g8.1, by rw [mlA c m0 e8]; exact g8.2⟩ ?_
        try rw [mzA c m0 e8 ((p_w ((p_w (3 * r3)) + v2)) : Int).toNat]
        refine bM (ws73 c m0 _) h ?_
        intro m10 h
        try rw [zs73 c m10]
        obtain ⟨r14, q12, h⟩ := q_bvE h
        refine bdC (u_Mo_noGear c (m10 173 0) m10 _ q12) ?_
        refine iteC Iff.rfl h (fun b16 h => ?_) (fun b16 h => ?_)
        · cases h
          rfl
        · cases h
          rfl
      · cases h
        rfl
  · cases h
    rfl
def GL_Mo_actPanel_28 (k28 : Int → Int → Int → Int → h_M → Option h_M) (v1 : Int) (v2 : Int) (v3 : Int) (v4 : Int) (m0 : h_M) : Option h_M :=
  p_gd ((0 : Int) ≤ v2 ∧ v2 < (120 : Int)) <|
  if (m0 7 (v2 : Int).toNat) ≤ v4 then
    p_bi (wm m0 15 (v2 : Int).toNat v3) fun m3 =>
    some m3
  else
    q_bd (G_Mo_follow v1 v4 m0) fun r7 m8 =>
    if r7 ≤ 0 then
      q_bv (G_Mo_g (m8 173 0) m8) fun r13 =>
      q_bv (G_Mo_loadOf r13 m8) fun r17 =>
      p_bi ((p_w (v3 + r17))) fun x20 =>
      p_bi (p_w (v4 + 1)) fun x21 =>
      k28 v1 v2 x20 x21 m8
    else
      q_bv (G_Mo_find 4 r7 v4 m8) fun m25 =>
      some m25
def GO_Mo_actPanel_28  : Nat → Int → Int → Int → Int → h_M → Option h_M
  | 0 => fun _ _ _ _ _ => none
  | n + 1 => GL_Mo_actPanel_28 (GO_Mo_actPanel_28 n)
def G_Mo_actPanel (v1 : Int) (m0 : h_M) : Option h_M :=
  q_bv (G_Mo_g v1 m0) fun r3 =>
  p_gd ((0 : Int) ≤ r3 ∧ r3 < (120 : Int)) <|
  if 0 ≤ (m0 7 (r3 : Int).toNat) then
    GO_Mo_actPanel_28 3000 v1 r3 0 0 m0
  else
    q_bv (G_Mo_find 4 1 0 m0) fun m9 =>
    some m9
set_option maxRecDepth 100000 in
set_option maxHeartbeats 4000000 in
theorem uL_Mo_actPanel_28 (c : h_C) (j28 : Nat → Int → Int → Int → Int → p_Hp → Option p_Hp) (k28 : Int → Int → Int → Int → h_M → Option h_M) (hk28 : ∀ (v1 : Int) (v2 : Int) (v3 : Int) (v4 : Int) (m0 : h_M) (r : h_M), k28 v1 v2 v3 v4 m0 = some r → j28 1125 v1 v2 v3 v4 (h_H c m0) = some (h_H c r)) (v1 : Int) (v2 : Int) (v3 : Int) (v4 : Int) (m0 : h_M) (r : h_M) (h : GL_Mo_actPanel_28 k28 v1 v2 v3 v4 m0 = some r) : L_Mo_actPanel_28 j28 1125 v1 v2 v3 v4 (h_H c m0) = some (h_H c r) := by
  unfold GL_Mo_actPanel_28 at h
  unfold L_Mo_actPanel_28
  refine gdT (miS c m0) ?_
  try rw [mr7 c m0]
  refine gdT (miA c m0 e7) ?_
  obtain ⟨g1, h⟩ := p_gdE h
  refine gdT ⟨g1.1, by rw [mlA c m0 e7]; exact g1.2⟩ ?_
  try rw [mzA c m0 e7 (v2 : Int).toNat]
  refine iteC Iff.rfl h (fun b2 h => ?_) (fun b2 h => ?_)
  · try rw [mr15 c m0]
    refine gdT (miA c m0 e15) ?_
    refine gdT ⟨g1.1, by rw [mlA c m0 e15]; exact g1.2⟩ ?_
    refine bM (mwA c m0 e15 _ _) h ?_
    intro m3 h
    cases h
    rfl
  · obtain ⟨r7, m8, q5, h⟩ := q_bdE h
    refine bdC (u_Mo_follow c v1 v4 m0 _ q5) ?_
    refine iteC Iff.rfl h (fun b10 h => ?_) (fun b10 h => ?_)
    · try rw [zs73 c m8]
      obtain ⟨r13, q11, h⟩ := q_bvE h
      refine bdC (u_Mo_g c (m8 173 0) m8 _ q11) ?_
      obtain ⟨r17, q15, h⟩ := q_bvE h
      refine bdC (u_Mo_loadOf c r13 m8 _ q15) ?_
      refine bV h ?_
      intro x20 h
      refine bV h ?_
      intro x21 h
      exact hk28 v1 v2 x20 x21 m8 _ h
    · obtain ⟨m25, q23, h⟩ := q_bvE h
      refine bvC (u_Mo_find c 4 r7 v4 m8 _ q23) ?_
      cases h
      rfl
set_option maxRecDepth 100000 in
set_option maxHeartbeats 4000000 in
theorem uO_Mo_actPanel_28 (c : h_C)  : ∀ (n : Nat) (v1 : Int) (v2 : Int) (v3 : Int) (v4 : Int) (m0 : h_M) (r : h_M), GO_Mo_actPanel_28 n v1 v2 v3 v4 m0 = some r → O_Mo_actPanel_28 n 1125 v1 v2 v3 v4 (h_H c m0) = some (h_H c r) := by
  intro n
  induction n with
  | zero => intro v1 v2 v3 v4 m0 r h; cases h
  | succ n ih => intro v1 v2 v3 v4 m0 r h; exact uL_Mo_actPanel_28 c (O_Mo_actPanel_28 n) (GO_Mo_actPanel_28 n) ih v1 v2 v3 v4 m0 r h
set_option maxRecDepth 100000 in
set_option maxHeartbeats 4000000 in
theorem u_Mo_actPanel (c : h_C) (v1 : Int) (m0 : h_M) (r : h_M) (h : G_Mo_actPanel v1 m0 = some r) : F_Mo_actPanel 1125 v1 (h_H c m0) = some (h_H c r) := by
  unfold G_Mo_actPanel at h
  unfold F_Mo_actPanel
  refine gdT (miS c m0) ?_
  obtain ⟨r3, q1, h⟩ := q_bvE h
  refine bdC (u_Mo_g c v1 m0 _ q1) ?_
  try rw [mr7 c m0]
  refine gdT (miA c m0 e7) ?_
  obtain ⟨g5, h⟩ := p_gdE h
  refine gdT ⟨g5.1, by rw [mlA c m0 e7]; exact g5.2⟩ ?_
  try rw [mzA c m0 e7 (r3 : Int).toNat]
  refine iteC Iff.rfl h (fun b6 h => ?_) (fun b6 h => ?_)
  · exact uO_Mo_actPanel_28 c 3000 v1 r3 0 0 m0 _ h
  · obtain ⟨m9, q7, h⟩ := q_bvE h
    refine bvC (u_Mo_find c 4 1 0 m0 _ q7) ?_
    cases h
    rfl
def GB_Mo_body_37   (m0 : h_M) : Option h_M :=
  p_gd ((0 : Int) ≤ (m0 100 0) ∧ (m0 100 0) < (3 : Int)) <|
  p_bi (wm m0 44 ((m0 100 0) : Int).toNat (p_w ((m0 44 ((m0 100 0) : Int).toNat) + 1))) fun m2 =>
  some m2
def G_Mo_body (v1 : Int) (m0 : h_M) : Option h_M :=
  p_gd ((0 : Int) ≤ (m0 100 0) ∧ (m0 100 0) < (3 : Int)) <|
  if 60 ≤ (m0 44 ((m0 100 0) : Int).toNat) then
    GB_Mo_body_37 m0
  else
    p_gd ((0 : Int) ≤ (p_w ((p_w (60 * (m0 100 0))) + (m0 44 ((m0 100 0) : Int).toNat))) ∧ (p_w ((p_w (60 * (m0 100 0))) + (m0 44 ((m0 100 0) : Int).toNat))) < (180 : Int)) <|
    p_bi (wm m0 45 ((p_w ((p_w (60 * (m0 100 0))) + (m0 44 ((m0 100 0) : Int).toNat))) : Int).toNat v1) fun m4 =>
    GB_Mo_body_37 m4
set_option maxRecDepth 100000 in
set_option maxHeartbeats 4000000 in
theorem uB_Mo_body_37 (c : h_C)   (m0 : h_M) (r : h_M) (h : GB_Mo_body_37  m0 = some r) : B_Mo_body_37 1125 (h_H c m0) = some (h_H c r) := by
  unfold GB_Mo_body_37 at h
  unfold B_Mo_body_37
  refine gdT (miS c m0) ?_
  try rw [mr44 c m0]
  try rw [zs0 c m0]
  refine gdT (miA c m0 e44) ?_
  obtain ⟨g1, h⟩ := p_gdE h
  refine gdT ⟨g1.1, by rw [mlA c m0 e44]; exact g1.2⟩ ?_
  try rw [mzA c m0 e44 ((m0 100 0) : Int).toNat]
  refine gdT ⟨g1.1, by rw [mlA c m0 e44]; exact g1.2⟩ ?_
  refine bM (mwA c m0 e44 _ _) h ?_
  intro m2 h
  cases h
  rfl
set_option maxRecDepth 100000 in
set_option maxHeartbeats 4000000 in
theorem u_Mo_body (c : h_C) (v1 : Int) (m0 : h_M) (r : h_M) (h : G_Mo_body v1 m0 = some r) : F_Mo_body 1125 v1 (h_H c m0) = some (h_H c r) := by
  unfold G_Mo_body at h
  unfold F_Mo_body
  refine gdT (miS c m0) ?_
  try rw [mr44 c m0]
  try rw [zs0 c m0]
  refine gdT (miA c m0 e44) ?_
  obtain ⟨g1, h⟩ := p_gdE h
  refine gdT ⟨g1.1, by rw [mlA c m0 e44]; exact g1.2⟩ ?_
  try rw [mzA c m0 e44 ((m0 100 0) : Int).toNat]
  refine iteC Iff.rfl h (fun b2 h => ?_) (fun b2 h => ?_)
  · exact uB_Mo_body_37 c m0 _ h
  · try rw [mr45 c m0]
    try rw [zs0 c m0]
    try rw [mr44 c m0]
    try rw [zs0 c m0]
    refine gdT ⟨g1.1, by rw [mlA c m0 e44]; exact g1.2⟩ ?_
    try rw [mzA c m0 e44 ((m0 100 0) : Int).toNat]
    refine gdT (miA c m0 e45) ?_
    obtain ⟨g3, h⟩ := p_gdE h
    refine gdT ⟨g3.1, by rw [mlA c m0 e45]; exact g3.2⟩ ?_
    refine bM (mwA c m0 e45 _ _) h ?_
    intro m4 h
    exact uB_Mo_body_37 c m4 _ h
def G_Mo_bodies (v1 : Int) (m0 : h_M) : Option h_M :=
  if v1 = 1 then
    q_bv (G_Mo_body 2 m0) fun m4 =>
    some m4
  else if v1 = 2 then
    q_bv (G_Mo_body 3 m0) fun m8 =>
    some m8
  else if v1 = 3 then
    q_bv (G_Mo_body 4 m0) fun m12 =>
    some m12
  else if v1 = 4 then
    q_bv (G_Mo_body 5 m0) fun m16 =>
    q_bv (G_Mo_body 4 m16) fun m19 =>
    some m19
  else if v1 = 5 then
    q_bv (G_Mo_body 6 m0) fun m23 =>
    some m23
  else if v1 = 6 then
    q_bv (G_Mo_body 7 m0) fun m27 =>
    q_bv (G_Mo_body 6 m27) fun m30 =>
    some m30
  else if v1 = 7 then
    q_bv (G_Mo_body 8 m0) fun m34 =>
    some m34
  else if v1 = 8 then
    q_bv (G_Mo_body 9 m0) fun m38 =>
    some m38
  else 
  some m0
set_option maxRecDepth 100000 in
set_option maxHeartbeats 4000000 in
theorem u_Mo_bodies (c : h_C) (v1 : Int) (m0 : h_M) (r : h_M) (h : G_Mo_bodies v1 m0 = some r) : F_Mo_bodies 1125 v1 (h_H c m0) = some (h_H c r) := by
  unfold G_Mo_bodies at h
  unfold F_Mo_bodies
  refine iteC Iff.rfl h (fun b1 h => ?_) (fun b1 h => ?_)
  · refine gdT (miS c m0) ?_
    obtain ⟨m4, q2, h⟩ := q_bvE h
    refine bvC (u_Mo_body c 2 m0 _ q2) ?_
    cases h
    rfl
  refine iteC Iff.rfl h (fun b5 h => ?_) (fun b5 h => ?_)
  · refine gdT (miS c m0) ?_
    obtain ⟨m8, q6, h⟩ := q_bvE h
    refine bvC (u_Mo_body c 3 m0 _ q6) ?_
    cases h
    rfl
  refine iteC Iff.rfl h (fun b9 h => ?_) (fun b9 h => ?_)
  · refine gdT (miS c m0) ?_
    obtain ⟨m12, q10, h⟩ := q_bvE h
    refine bvC (u_Mo_body c 4 m0 _ q10) ?_
    cases h
    rfl
  refine iteC Iff.rfl h (fun b13 h => ?_) (fun b13 h => ?_)
  · refine gdT (miS c m0) ?_
    obtain ⟨m16, q14, h⟩ := q_bvE h
    refine bvC (u_Mo_body c 5 m0 _ q14) ?_
    obtain ⟨m19, q17, h⟩ := q_bvE h
    refine bvC (u_Mo_body c 4 m16 _ q17) ?_
    cases h
    rfl
  refine iteC Iff.rfl h (fun b20 h => ?_) (fun b20 h => ?_)
  · refine gdT (miS c m0) ?_
    obtain ⟨m23, q21, h⟩ := q_bvE h
    refine bvC (u_Mo_body c 6 m0 _ q21) ?_
    cases h
    rfl
  refine iteC Iff.rfl h (fun b24 h => ?_) (fun b24 h => ?_)
  · refine gdT (miS c m0) ?_
    obtain ⟨m27, q25, h⟩ := q_bvE h
    refine bvC (u_Mo_body c 7 m0 _ q25) ?_
    obtain ⟨m30, q28, h⟩ := q_bvE h
    refine bvC (u_Mo_body c 6 m27 _ q28) ?_
    cases h
    rfl
  refine iteC Iff.rfl h (fun b31 h => ?_) (fun b31 h => ?_)
  · refine gdT (miS c m0) ?_
    obtain ⟨m34, q32, h⟩ := q_bvE h
    refine bvC (u_Mo_body c 8 m0 _ q32) ?_
    cases h
    rfl
  refine iteC Iff.rfl h (fun b35 h => ?_) (fun b35 h => ?_)
  · refine gdT (miS c m0) ?_
    obtain ⟨m38, q36, h⟩ := q_bvE h
    refine bvC (u_Mo_body c 9 m0 _ q36) ?_
    cases h
    rfl
  cases h
  rfl
def G_Mo_bodiesLast (v1 : Int) (m0 : h_M) : Option h_M :=
  if 5 ≤ v1 then
    some m0
  else
    q_bv (G_Mo_body 1 m0) fun m4 =>
    some m4
set_option maxRecDepth 100000 in
set_option maxHeartbeats 4000000 in
theorem u_Mo_bodiesLast (c : h_C) (v1 : Int) (m0 : h_M) (r : h_M) (h : G_Mo_bodiesLast v1 m0 = some r) : F_Mo_bodiesLast 1125 v1 (h_H c m0) = some (h_H c r) := by
  unfold G_Mo_bodiesLast at h
  unfold F_Mo_bodiesLast
  refine iteC Iff.rfl h (fun b1 h => ?_) (fun b1 h => ?_)
  · cases h
    rfl
  · refine gdT (miS c m0) ?_
    obtain ⟨m4, q2, h⟩ := q_bvE h
    refine bvC (u_Mo_body c 1 m0 _ q2) ?_
    cases h
    rfl
def G_Mo_linkAt (v1 : Int) (m0 : h_M) : Option Int :=
  q_bv (G_Mo_g v1 m0) fun r3 =>
  p_gd ((0 : Int) ≤ r3 ∧ r3 < (120 : Int)) <|
  q_bv (G_Mo_isDivert (m0 5 (r3 : Int).toNat) m0) fun r8 =>
  if r8 = 0 then
    some 0
  else
    q_bv (G_Mo_g v1 m0) fun r13 =>
    p_gd ((0 : Int) ≤ r13 ∧ r13 < (120 : Int)) <|
    some (m0 10 (r13 : Int).toNat)
set_option maxRecDepth 100000 in
set_option maxHeartbeats 4000000 in
theorem u_Mo_linkAt (c : h_C) (v1 : Int) (m0 : h_M) (r : Int) (h : G_Mo_linkAt v1 m0 = some r) : F_Mo_linkAt 1125 v1 (h_H c m0) = some (r, (h_H c m0)) := by
  unfold G_Mo_linkAt at h
  unfold F_Mo_linkAt
  refine gdT (miS c m0) ?_
  try rw [mr5 c m0]
  obtain ⟨r3, q1, h⟩ := q_bvE h
  refine bdC (u_Mo_g c v1 m0 _ q1) ?_
  refine gdT (miA c m0 e5) ?_
  obtain ⟨g5, h⟩ := p_gdE h
  refine gdT ⟨g5.1, by rw [mlA c m0 e5]; exact g5.2⟩ ?_
  try rw [mzA c m0 e5 (r3 : Int).toNat]
  obtain ⟨r8, q6, h⟩ := q_bvE h
  refine bdC (u_Mo_isDivert c (m0 5 (r3 : Int).toNat) m0 _ q6) ?_
  refine iteC Iff.rfl h (fun b10 h => ?_) (fun b10 h => ?_)
  · cases h
    rfl
  · try rw [mr10 c m0]
    obtain ⟨r13, q11, h⟩ := q_bvE h
    refine bdC (u_Mo_g c v1 m0 _ q11) ?_
    refine gdT (miA c m0 e10) ?_
    obtain ⟨g15, h⟩ := p_gdE h
    refine gdT ⟨g15.1, by rw [mlA c m0 e10]; exact g15.2⟩ ?_
    try rw [mzA c m0 e10 (r13 : Int).toNat]
    cases h
    rfl
def GB_Mo_wants_53 (k10 : Int → Int → Int → h_M → Option Int) (v1 : Int) (v3 : Int) (v4 : Int) (m0 : h_M) : Option Int :=
  p_bi (p_w (v4 + 1)) fun x1 =>
  k10 v1 v3 x1 m0
def GL_Mo_wants_10 (k10 : Int → Int → Int → h_M → Option Int) (v1 : Int) (v3 : Int) (v4 : Int) (m0 : h_M) : Option Int :=
  p_gd ((0 : Int) ≤ v1 ∧ v1 < (120 : Int)) <|
  q_bv (G_Mo_sidesOf (m0 5 (v1 : Int).toNat) m0) fun r4 =>
  if r4 ≤ v4 then
    some 0
  else
    if v3 < 0 then
      GB_Mo_wants_53 k10 v1 v3 v4 m0
    else
      p_gd ((0 : Int) ≤ (p_w ((p_w ((p_w (2 * v1)) + v4)) - 1)) ∧ (p_w ((p_w ((p_w (2 * v1)) + v4)) - 1)) < (240 : Int)) <|
      if (p_cmp (p_and6 (p_shr6 (m0 11 ((p_w ((p_w ((p_w (2 * v1)) + v4)) - 1)) : Int).toNat) v3) 1) 1) ≠ 0 then
        GB_Mo_wants_53 k10 v1 v3 v4 m0
      else
        some v4
def GO_Mo_wants_10  : Nat → Int → Int → Int → h_M → Option Int
  | 0 => fun _ _ _ _ => none
  | n + 1 => GL_Mo_wants_10 (GO_Mo_wants_10 n)
def G_Mo_wants (v1 : Int) (v2 : Int) (m0 : h_M) : Option Int :=
  p_gd ((0 : Int) ≤ v2 ∧ v2 < (2001 : Int)) <|
  p_bi ((m0 30 (v2 : Int).toNat)) fun x3 =>
  GO_Mo_wants_10 3000 v1 x3 1 m0
set_option maxRecDepth 100000 in
set_option maxHeartbeats 4000000 in
theorem uB_Mo_wants_53 (c : h_C) (j10 : Nat → Int → Int → Int → p_Hp → Option (Int × p_Hp)) (k10 : Int → Int → Int → h_M → Option Int) (hk10 : ∀ (v1 : Int) (v3 : Int) (v4 : Int) (m0 : h_M) (r : Int), k10 v1 v3 v4 m0 = some r → j10 1125 v1 v3 v4 (h_H c m0) = some (r, (h_H c m0))) (v1 : Int) (v3 : Int) (v4 : Int) (m0 : h_M) (r : Int) (h : GB_Mo_wants_53 k10 v1 v3 v4 m0 = some r) : B_Mo_wants_53 j10 1125 v1 v3 v4 (h_H c m0) = some (r, (h_H c m0)) := by
  unfold GB_Mo_wants_53 at h
  unfold B_Mo_wants_53
  refine bV h ?_
  intro x1 h
  exact hk10 v1 v3 x1 m0 _ h
set_option maxRecDepth 100000 in
set_option maxHeartbeats 4000000 in
theorem uL_Mo_wants_10 (c : h_C) (j10 : Nat → Int → Int → Int → p_Hp → Option (Int × p_Hp)) (k10 : Int → Int → Int → h_M → Option Int) (hk10 : ∀ (v1 : Int) (v3 : Int) (v4 : Int) (m0 : h_M) (r : Int), k10 v1 v3 v4 m0 = some r → j10 1125 v1 v3 v4 (h_H c m0) = some (r, (h_H c m0))) (v1 : Int) (v3 : Int) (v4 : Int) (m0 : h_M) (r : Int) (h : GL_Mo_wants_10 k10 v1 v3 v4 m0 = some r) : L_Mo_wants_10 j10 1125 v1 v3 v4 (h_H c m0) = some (r, (h_H c m0)) := by
  unfold GL_Mo_wants_10 at h
  unfold L_Mo_wants_10
  refine gdT (miS c m0) ?_
  try rw [mr5 c m0]
  refine gdT (miA c m0 e5) ?_
  obtain ⟨g1, h⟩ := p_gdE h
  refine gdT ⟨g1.1, by rw [mlA c m0 e5]; exact g1.2⟩ ?_
  try rw [mzA c m0 e5 (v1 : Int).toNat]
  obtain ⟨r4, q2, h⟩ := q_bvE h
  refine bdC (u_Mo_sidesOf c (m0 5 (v1 : Int).toNat) m0 _ q2) ?_
  refine iteC Iff.rfl h (fun b6 h => ?_) (fun b6 h => ?_)
  · cases h
    rfl
  · refine iteC Iff.rfl h (fun b7 h => ?_) (fun b7 h => ?_)
    · exact uB_Mo_wants_53 c j10 k10 hk10 v1 v3 v4 m0 _ h
    · try rw [mr11 c m0]
      refine gdT (miA c m0 e11) ?_
      obtain ⟨g8, h⟩ := p_gdE h
      refine gdT ⟨g8.1, by rw [mlA c m0 e11]; exact g8.2⟩ ?_
      try rw [mzA c m0 e11 ((p_w ((p_w ((p_w (2 * v1)) + v4)) - 1)) : Int).toNat]
      refine iteC Iff.rfl h (fun b9 h => ?_) (fun b9 h => ?_)
      · exact uB_Mo_wants_53 c j10 k10 hk10 v1 v3 v4 m0 _ h
      · cases h
        rfl
set_option maxRecDepth 100000 in
set_option maxHeartbeats 4000000 in
theorem uO_Mo_wants_10 (c : h_C)  : ∀ (n : Nat) (v1 : Int) (v3 : Int) (v4 : Int) (m0 : h_M) (r : Int), GO_Mo_wants_10 n v1 v3 v4 m0 = some r → O_Mo_wants_10 n 1125 v1 v3 v4 (h_H c m0) = some (r, (h_H c m0)) := by
  intro n
  induction n with
  | zero => intro v1 v3 v4 m0 r h; cases h
  | succ n ih => intro v1 v3 v4 m0 r h; exact uL_Mo_wants_10 c (O_Mo_wants_10 n) (GO_Mo_wants_10 n) ih v1 v3 v4 m0 r h
set_option maxRecDepth 100000 in
set_option maxHeartbeats 4000000 in
theorem u_Mo_wants (c : h_C) (v1 : Int) (v2 : Int) (m0 : h_M) (r : Int) (h : G_Mo_wants v1 v2 m0 = some r) : F_Mo_wants 1125 v1 v2 (h_H c m0) = some (r, (h_H c m0)) := by
  unfold G_Mo_wants at h
  unfold F_Mo_wants
  refine gdT (miS c m0) ?_
  try rw [mr30 c m0]
  refine gdT (miA c m0 e30) ?_
  obtain ⟨g1, h⟩ := p_gdE h
  refine gdT ⟨g1.1, by rw [mlA c m0 e30]; exact g1.2⟩ ?_
  try rw [mzA c m0 e30 (v2 : Int).toNat]
  refine bV h ?_
  intro x3 h
  exact uO_Mo_wants_10 c 3000 v1 x3 1 m0 _ h
def GB_Mo_takes_25  (v1 : Int) (v2 : Int) (v3 : Int) (v4 : Int) (w0 : Int) (m0 : h_M) : Option (Int × h_M) :=
  p_gd ((0 : Int) ≤ v4 ∧ v4 < (120 : Int)) <|
  if (m0 5 (v4 : Int).toNat) = 2 then
    q_bv (G_Mo_body 21 m0) fun m5 =>
    p_gd ((0 : Int) ≤ v1 ∧ v1 < (40 : Int)) <|
    if (m5 74 (v1 : Int).toNat) = v2 then
      q_bv (G_Mo_body 20 m5) fun m10 =>
      if w0 = 0 then
        p_gd (w0 = 0 ∨ w0 = 1) <|
        some (w0, m10)
      else
        p_bi (wm m10 12 (v4 : Int).toNat v2) fun m13 =>
        p_gd (w0 = 0 ∨ w0 = 1) <|
        some (w0, m13)
    else
      some (0, m5)
  else if (m0 5 (v4 : Int).toNat) = 5 then
    q_bv (G_Mo_body 22 m0) fun m19 =>
    q_bv (G_Mo_wants v4 v3 m19) fun r22 =>
    if (m19 10 (v4 : Int).toNat) ≠ r22 then
      q_bv (G_Mo_loadOf v4 m19) fun r27 =>
      if r27 ≠ 0 then
        some (0, m19)
      else
        p_bi (wm m19 10 (v4 : Int).toNat r22) fun m30 =>
        some (0, m30)
    else
      p_gd (w0 = 0 ∨ w0 = 1) <|
      some (w0, m19)
  else if (m0 5 (v4 : Int).toNat) = 6 then
    q_bv (G_Mo_body 22 m0) fun m36 =>
    q_bv (G_Mo_wants v4 v3 m36) fun r39 =>
    if (m36 10 (v4 : Int).toNat) ≠ r39 then
      q_bv (G_Mo_loadOf v4 m36) fun r44 =>
      if r44 ≠ 0 then
        some (0, m36)
      else
        p_bi (wm m36 10 (v4 : Int).toNat r39) fun m47 =>
        some (0, m47)
    else
      p_gd (w0 = 0 ∨ w0 = 1) <|
      some (w0, m36)
  else if (m0 5 (v4 : Int).toNat) = 7 then
    q_bv (G_Mo_body 23 m0) fun m53 =>
    p_gd ((0 : Int) ≤ v3 ∧ v3 < (2001 : Int)) <|
    if (m53 30 (v3 : Int).toNat) ≠ v1 then
      some (0, m53)
    else
      if w0 = 0 then
        some (0, m53)
      else
        some (1, m53)
  else if (m0 5 (v4 : Int).toNat) = 8 then
    q_bv (G_Mo_body 24 m0) fun m60 =>
    p_gd ((0 : Int) ≤ v3 ∧ v3 < (2001 : Int)) <|
    if (m60 30 (v3 : Int).toNat) ≠ (-8) then
      some (0, m60)
    else
      if w0 = 0 then
        some (0, m60)
      else
        some (1, m60)
  else 
  q_bv (G_Mo_body 20 m0) fun m66 =>
  p_gd (w0 = 0 ∨ w0 = 1) <|
  some (w0, m66)
def G_Mo_takes (v1 : Int) (v2 : Int) (v3 : Int) (m0 : h_M) : Option (Int × h_M) :=
  q_bv (G_Mo_g v1 m0) fun r3 =>
  p_gd ((0 : Int) ≤ (p_w (8 * r3)) ∧ (p_w (8 * r3)) < (960 : Int)) <|
  if (m0 22 ((p_w (8 * r3)) : Int).toNat) ≠ 0 then
    GB_Mo_takes_25 v1 v2 v3 r3 0 m0
  else
    GB_Mo_takes_25 v1 v2 v3 r3 1 m0
set_option maxRecDepth 100000 in
set_option maxHeartbeats 4000000 in
theorem uB_Mo_takes_25 (c : h_C)  (v1 : Int) (v2 : Int) (v3 : Int) (v4 : Int) (w0 : Int) (m0 : h_M) (r : (Int × h_M)) (h : GB_Mo_takes_25 v1 v2 v3 v4 w0 m0 = some r) : B_Mo_takes_25 1125 v1 v2 v3 v4 w0 (h_H c m0) = some (r.1, (h_H c r.2)) := by
  unfold GB_Mo_takes_25 at h
  unfold B_Mo_takes_25
  refine gdT (miS c m0) ?_
  try rw [mr5 c m0]
  refine gdT (miA c m0 e5) ?_
  obtain ⟨g1, h⟩ := p_gdE h
  refine gdT ⟨g1.1, by rw [mlA c m0 e5]; exact g1.2⟩ ?_
  try rw [mzA c m0 e5 (v4 : Int).toNat]
  refine iteC Iff.rfl h (fun b2 h => ?_) (fun b2 h => ?_)
  · obtain ⟨m5, q3, h⟩ := q_bvE h
    refine bvC (u_Mo_body c 21 m0 _ q3) ?_
    try rw [mr74 c m5]
    refine gdT (miA c m5 e74) ?_
    obtain ⟨g6, h⟩ := p_gdE h
    refine gdT ⟨g6.1, by rw [mlA c m5 e74]; exact g6.2⟩ ?_
    try rw [mzA c m5 e74 (v1 : Int).toNat]
    refine iteC Iff.rfl h (fun b7 h => ?_) (fun b7 h => ?_)
    · obtain ⟨m10, q8, h⟩ := q_bvE h
      refine bvC (u_Mo_body c 20 m5 _ q8) ?_
      refine iteC Iff.rfl h (fun b11 h => ?_) (fun b11 h => ?_)
      · obtain ⟨g12, h⟩ := p_gdE h
        refine gdT g12 ?_
        cases h
        rfl
      · try rw [mr12 c m10]
        refine gdT (miA c m10 e12) ?_
        refine gdT ⟨g1.1, by rw [mlA c m10 e12]; exact g1.2⟩ ?_
        refine bM (mwA c m10 e12 _ _) h ?_
        intro m13 h
        obtain ⟨g15, h⟩ := p_gdE h
        refine gdT g15 ?_
        cases h
        rfl
    · cases h
      rfl
  refine iteC Iff.rfl h (fun b16 h => ?_) (fun b16 h => ?_)
  · obtain ⟨m19, q17, h⟩ := q_bvE h
    refine bvC (u_Mo_body c 22 m0 _ q17) ?_
    obtain ⟨r22, q20, h⟩ := q_bvE h
    refine bdC (u_Mo_wants c v4 v3 m19 _ q20) ?_
    try rw [mr10 c m19]
    refine gdT (miA c m19 e10) ?_
    refine gdT ⟨g1.1, by rw [mlA c m19 e10]; exact g1.2⟩ ?_
    try rw [mzA c m19 e10 (v4 : Int).toNat]
    refine iteC Iff.rfl h (fun b24 h => ?_) (fun b24 h => ?_)
    · obtain ⟨r27, q25, h⟩ := q_bvE h
      refine bdC (u_Mo_loadOf c v4 m19 _ q25) ?_
      refine iteC Iff.rfl h (fun b29 h => ?_) (fun b29 h => ?_)
      · cases h
        rfl
      · try rw [mr10 c m19]
        refine gdT (miA c m19 e10) ?_
        refine gdT ⟨g1.1, by rw [mlA c m19 e10]; exact g1.2⟩ ?_
        refine bM (mwA c m19 e10 _ _) h ?_
        intro m30 h
        cases h
        rfl
    · obtain ⟨g32, h⟩ := p_gdE h
      refine gdT g32 ?_
      cases h
      rfl
  refine iteC Iff.rfl h (fun b33 h => ?_) (fun b33 h => ?_)
  · obtain ⟨m36, q34, h⟩ := q_bvE h
    refine bvC (u_Mo_body c 22 m0 _ q34) ?_
    obtain ⟨r39, q37, h⟩ := q_bvE h
    refine bdC (u_Mo_wants c v4 v3 m36 _ q37) ?_
    try rw [mr10 c m36]
    refine gdT (miA c m36 e10) ?_
    refine gdT ⟨g1.1, by rw [mlA c m36 e10]; exact g1.2⟩ ?_
    try rw [mzA c m36 e10 (v4 : Int).toNat]
    refine iteC Iff.rfl h (fun b41 h => ?_) (fun b41 h => ?_)
    · obtain ⟨r44, q42, h⟩ := q_bvE h
      refine bdC (u_Mo_loadOf c v4 m36 _ q42) ?_
      refine iteC Iff.rfl h (fun b46 h => ?_) (fun b46 h => ?_)
      · cases h
        rfl
      · try rw [mr10 c m36]
        refine gdT (miA c m36 e10) ?_
        refine gdT ⟨g1.1, by rw [mlA c m36 e10]; exact g1.2⟩ ?_
        refine bM (mwA c m36 e10 _ _) h ?_
        intro m47 h
        cases h
        rfl
    · obtain ⟨g49, h⟩ := p_gdE h
      refine gdT g49 ?_
      cases h
      rfl
  refine iteC Iff.rfl h (fun b50 h => ?_) (fun b50 h => ?_)
  · obtain ⟨m53, q51, h⟩ := q_bvE h
    refine bvC (u_Mo_body c 23 m0 _ q51) ?_
    try rw [mr30 c m53]
    refine gdT (miA c m53 e30) ?_
    obtain ⟨g54, h⟩ := p_gdE h
    refine gdT ⟨g54.1, by rw [mlA c m53 e30]; exact g54.2⟩ ?_
    try rw [mzA c m53 e30 (v3 : Int).toNat]
    refine iteC Iff.rfl h (fun b55 h => ?_) (fun b55 h => ?_)
    · cases h
      rfl
    · refine iteC Iff.rfl h (fun b56 h => ?_) (fun b56 h => ?_)
      · cases h
        rfl
      · cases h
        rfl
  refine iteC Iff.rfl h (fun b57 h => ?_) (fun b57 h => ?_)
  · obtain ⟨m60, q58, h⟩ := q_bvE h
    refine bvC (u_Mo_body c 24 m0 _ q58) ?_
    try rw [mr30 c m60]
    refine gdT (miA c m60 e30) ?_
    obtain ⟨g61, h⟩ := p_gdE h
    refine gdT ⟨g61.1, by rw [mlA c m60 e30]; exact g61.2⟩ ?_
    try rw [mzA c m60 e30 (v3 : Int).toNat]
    refine iteC Iff.rfl h (fun b62 h => ?_) (fun b62 h => ?_)
    · cases h
      rfl
    · refine iteC Iff.rfl h (fun b63 h => ?_) (fun b63 h => ?_)
      · cases h
        rfl
      · cases h
        rfl
  obtain ⟨m66, q64, h⟩ := q_bvE h
  refine bvC (u_Mo_body c 20 m0 _ q64) ?_
  obtain ⟨g67, h⟩ := p_gdE h
  refine gdT g67 ?_
  cases h
  rfl
set_option maxRecDepth 100000 in
set_option maxHeartbeats 4000000 in
theorem u_Mo_takes (c : h_C) (v1 : Int) (v2 : Int) (v3 : Int) (m0 : h_M) (r : (Int × h_M)) (h : G_Mo_takes v1 v2 v3 m0 = some r) : F_Mo_takes 1125 v1 v2 v3 (h_H c m0) = some (r.1, (h_H c r.2)) := by
  unfold G_Mo_takes at h
  unfold F_Mo_takes
  refine gdT (miS c m0) ?_
  obtain ⟨r3, q1, h⟩ := q_bvE h
  refine bdC (u_Mo_g c v1 m0 _ q1) ?_
  try rw [mr22 c m0]
  refine gdT (miA c m0 e22) ?_
  obtain ⟨g5, h⟩ := p_gdE h
  refine gdT ⟨g5.1, by rw [mlA c m0 e22]; exact g5.2⟩ ?_
  try rw [mzA c m0 e22 ((p_w (8 * r3)) : Int).toNat]
  refine iteC Iff.rfl h (fun b6 h => ?_) (fun b6 h => ?_)
  · exact uB_Mo_takes_25 c v1 v2 v3 r3 0 m0 _ h
  · exact uB_Mo_takes_25 c v1 v2 v3 r3 1 m0 _ h
def GB_Mo_gives_40  (v1 : Int) (v2 : Int) (v3 : Int) (v4 : Int) (m0 : h_M) : Option (Int × h_M) :=
  if v3 ≤ 0 then
    q_bd (G_Mo_takes v4 v1 v2 m0) fun r4 m5 =>
    if r4 ≠ 0 then
      q_bv (G_Mo_leaves v2 m5) fun m10 =>
      q_bv (G_Mo_enters v2 v4 m10) fun m13 =>
      p_gd ((0 : Int) ≤ v2 ∧ v2 < (2001 : Int)) <|
      p_bi (wm m13 36 (v2 : Int).toNat 1) fun m15 =>
      some (1, m15)
    else
      some (0, m5)
  else
    q_bv (G_Mo_find 1 v3 v2 m0) fun m19 =>
    some (0, m19)
def G_Mo_gives (v1 : Int) (v2 : Int) (m0 : h_M) : Option (Int × h_M) :=
  q_bv (G_Mo_linkAt v1 m0) fun r3 =>
  q_bd (G_Mo_follow v1 r3 m0) fun r7 m8 =>
  p_bi ((m8 173 0)) fun x11 =>
  if r7 ≠ 0 then
    GB_Mo_gives_40 v1 v2 r7 x11 m8
  else
    q_bv (G_Mo_g x11 m8) fun r15 =>
    p_gd ((0 : Int) ≤ r15 ∧ r15 < (120 : Int)) <|
    q_bv (G_Mo_isTaker (m8 5 (r15 : Int).toNat) m8) fun r20 =>
    if r20 ≠ 0 then
      GB_Mo_gives_40 v1 v2 r7 x11 m8
    else
      GB_Mo_gives_40 v1 v2 2 x11 m8
set_option maxRecDepth 100000 in
set_option maxHeartbeats 4000000 in
theorem uB_Mo_gives_40 (c : h_C)  (v1 : Int) (v2 : Int) (v3 : Int) (v4 : Int) (m0 : h_M) (r : (Int × h_M)) (h : GB_Mo_gives_40 v1 v2 v3 v4 m0 = some r) : B_Mo_gives_40 1125 v1 v2 v3 v4 (h_H c m0) = some (r.1, (h_H c r.2)) := by
  unfold GB_Mo_gives_40 at h
  unfold B_Mo_gives_40
  refine iteC Iff.rfl h (fun b1 h => ?_) (fun b1 h => ?_)
  · refine gdT (miS c m0) ?_
    obtain ⟨r4, m5, q2, h⟩ := q_bdE h
    refine bdC (u_Mo_takes c v4 v1 v2 m0 _ q2) ?_
    refine iteC Iff.rfl h (fun b7 h => ?_) (fun b7 h => ?_)
    · obtain ⟨m10, q8, h⟩ := q_bvE h
      refine bvC (u_Mo_leaves c v2 m5 _ q8) ?_
      obtain ⟨m13, q11, h⟩ := q_bvE h
      refine bvC (u_Mo_enters c v2 v4 m10 _ q11) ?_
      try rw [mr36 c m13]
      refine gdT (miA c m13 e36) ?_
      obtain ⟨g14, h⟩ := p_gdE h
      refine gdT ⟨g14.1, by rw [mlA c m13 e36]; exact g14.2⟩ ?_
      refine bM (mwA c m13 e36 _ _) h ?_
      intro m15 h
      cases h
      rfl
    · cases h
      rfl
  · refine gdT (miS c m0) ?_
    obtain ⟨m19, q17, h⟩ := q_bvE h
    refine bvC (u_Mo_find c 1 v3 v2 m0 _ q17) ?_
    cases h
    rfl
set_option maxRecDepth 100000 in
set_option maxHeartbeats 4000000 in
theorem u_Mo_gives (c : h_C) (v1 : Int) (v2 : Int) (m0 : h_M) (r : (Int × h_M)) (h : G_Mo_gives v1 v2 m0 = some r) : F_Mo_gives 1125 v1 v2 (h_H c m0) = some (r.1, (h_H c r.2)) := by
  unfold G_Mo_gives at h
  unfold F_Mo_gives
  refine gdT (miS c m0) ?_
  obtain ⟨r3, q1, h⟩ := q_bvE h
  refine bdC (u_Mo_linkAt c v1 m0 _ q1) ?_
  obtain ⟨r7, m8, q5, h⟩ := q_bdE h
  refine bdC (u_Mo_follow c v1 r3 m0 _ q5) ?_
  try rw [zs73 c m8]
  refine bV h ?_
  intro x11 h
  refine iteC Iff.rfl h (fun b12 h => ?_) (fun b12 h => ?_)
  · exact uB_Mo_gives_40 c v1 v2 r7 x11 m8 _ h
  · try rw [mr5 c m8]
    obtain ⟨r15, q13, h⟩ := q_bvE h
    refine bdC (u_Mo_g c x11 m8 _ q13) ?_
    refine gdT (miA c m8 e5) ?_
    obtain ⟨g17, h⟩ := p_gdE h
    refine gdT ⟨g17.1, by rw [mlA c m8 e5]; exact g17.2⟩ ?_
    try rw [mzA c m8 e5 (r15 : Int).toNat]
    obtain ⟨r20, q18, h⟩ := q_bvE h
    refine bdC (u_Mo_isTaker c (m8 5 (r15 : Int).toNat) m8 _ q18) ?_
    refine iteC Iff.rfl h (fun b22 h => ?_) (fun b22 h => ?_)
    · exact uB_Mo_gives_40 c v1 v2 r7 x11 m8 _ h
    · exact uB_Mo_gives_40 c v1 v2 2 x11 m8 _ h
def GB_Mo_goesOut_149   (m0 : h_M) : Option h_M :=
  some m0
def G_Mo_goesOut (v1 : Int) (v2 : Int) (v3 : Int) (m0 : h_M) : Option h_M :=
  p_gd ((0 : Int) ≤ (m0 100 0) ∧ (m0 100 0) < (3 : Int)) <|
  p_bi ((p_w ((p_w (30 * (m0 100 0))) + (p_rem (m0 40 ((m0 100 0) : Int).toNat) 30)))) fun x3 =>
  q_bv (G_Mo_leaves v1 m0) fun m6 =>
  p_gd ((0 : Int) ≤ v1 ∧ v1 < (2001 : Int)) <|
  p_bi (wm m6 25 (v1 : Int).toNat 2) fun m8 =>
  p_bi (wm m8 37 (v1 : Int).toNat v3) fun m10 =>
  q_bv (G_Mo_g v3 m10) fun r14 =>
  p_gd ((0 : Int) ≤ r14 ∧ r14 < (120 : Int)) <|
  p_bi (wm m10 18 (r14 : Int).toNat (p_w ((m10 18 (r14 : Int).toNat) + 1))) fun m17 =>
  q_bv (G_Mo_g v3 m17) fun r21 =>
  p_gd ((0 : Int) ≤ r21 ∧ r21 < (120 : Int)) <|
  p_bi (wm m17 19 (r21 : Int).toNat (p_w ((m17 19 (r21 : Int).toNat) + 1))) fun m24 =>
  p_gd ((0 : Int) ≤ (m24 100 0) ∧ (m24 100 0) < (3 : Int)) <|
  p_bi (wm m24 38 ((m24 100 0) : Int).toNat (p_w ((m24 38 ((m24 100 0) : Int).toNat) - 1))) fun m27 =>
  p_gd ((0 : Int) ≤ (p_w (4 * x3)) ∧ (p_w (4 * x3)) < (360 : Int)) <|
  p_bi (wm m27 41 ((p_w (4 * x3)) : Int).toNat v1) fun m30 =>
  p_gd ((0 : Int) ≤ (p_w ((p_w (4 * x3)) + 1)) ∧ (p_w ((p_w (4 * x3)) + 1)) < (360 : Int)) <|
  p_bi (wm m30 41 ((p_w ((p_w (4 * x3)) + 1)) : Int).toNat v3) fun m33 =>
  p_gd ((0 : Int) ≤ (m33 100 0) ∧ (m33 100 0) < (3 : Int)) <|
  p_gd ((0 : Int) ≤ (p_w ((p_w (4 * x3)) + 2)) ∧ (p_w ((p_w (4 * x3)) + 2)) < (360 : Int)) <|
  p_bi (wm m33 41 ((p_w ((p_w (4 * x3)) + 2)) : Int).toNat (m33 4 ((m33 100 0) : Int).toNat)) fun m37 =>
  p_gd ((0 : Int) ≤ (p_w ((p_w (4 * x3)) + 3)) ∧ (p_w ((p_w (4 * x3)) + 3)) < (360 : Int)) <|
  p_bi (wm m37 41 ((p_w ((p_w (4 * x3)) + 3)) : Int).toNat v2) fun m40 =>
  p_gd ((0 : Int) ≤ (m40 100 0) ∧ (m40 100 0) < (3 : Int)) <|
  p_bi (wm m40 40 ((m40 100 0) : Int).toNat (p_w ((m40 40 ((m40 100 0) : Int).toNat) + 1))) fun m43 =>
  GB_Mo_goesOut_149 m43
set_option maxRecDepth 100000 in
set_option maxHeartbeats 4000000 in
theorem uB_Mo_goesOut_149 (c : h_C)   (m0 : h_M) (r : h_M) (h : GB_Mo_goesOut_149  m0 = some r) : B_Mo_goesOut_149  (h_H c m0) = some (h_H c r) := by
  unfold GB_Mo_goesOut_149 at h
  unfold B_Mo_goesOut_149
  cases h
  rfl
set_option maxRecDepth 100000 in
set_option maxHeartbeats 4000000 in
theorem u_Mo_goesOut (c : h_C) (v1 : Int) (v2 : Int) (v3 : Int) (m0 : h_M) (r : h_M) (h : G_Mo_goesOut v1 v2 v3 m0 = some r) : F_Mo_goesOut 1125 v1 v2 v3 (h_H c m0) = some (h_H c r) := by
  unfold G_Mo_goesOut at h
  unfold F_Mo_goesOut
  refine gdT (miS c m0) ?_
  try rw [zs0 c m0]
  try rw [mr40 c m0]
  try rw [zs0 c m0]
  refine gdT (miA c m0 e40) ?_
  obtain ⟨g1, h⟩ := p_gdE h
  refine gdT ⟨g1.1, by rw [mlA c m0 e40]; exact g1.2⟩ ?_
  try rw [mzA c m0 e40 ((m0 100 0) : Int).toNat]
  refine bV h ?_
  intro x3 h
  obtain ⟨m6, q4, h⟩ := q_bvE h
  refine bvC (u_Mo_leaves c v1 m0 _ q4) ?_
  try rw [mr25 c m6]
  refine gdT (miA c m6 e25) ?_
  obtain ⟨g7, h⟩ := p_gdE h
  refine gdT ⟨g7.1, by rw [mlA c m6 e25]; exact g7.2⟩ ?_
  refine bM (mwA c m6 e25 _ _) h ?_
  intro m8 h
  try rw [mr37 c m8]
  refine gdT (miA c m8 e37) ?_
  refine gdT ⟨g7.1, by rw [mlA c m8 e37]; exact g7.2⟩ ?_
  refine bM (mwA c m8 e37 _ _) h ?_
  intro m10 h
  try rw [mr18 c m10]
  obtain ⟨r14, q12, h⟩ := q_bvE h
  refine bdC (u_Mo_g c v3 m10 _ q12) ?_
  refine gdT (miA c m10 e18) ?_
  obtain ⟨g16, h⟩ := p_gdE h
  refine gdT ⟨g16.1, by rw [mlA c m10 e18]; exact g16.2⟩ ?_
  try rw [mzA c m10 e18 (r14 : Int).toNat]
  refine gdT ⟨g16.1, by rw [mlA c m10 e18]; exact g16.2⟩ ?_
  refine bM (mwA c m10 e18 _ _) h ?_
  intro m17 h
  try rw [mr19 c m17]
  obtain ⟨r21, q19, h⟩ := q_bvE h
  refine bdC (u_Mo_g c v3 m17 _ q19) ?_
  refine gdT (miA c m17 e19) ?_
  obtain ⟨g23, h⟩ := p_gdE h
  refine gdT ⟨g23.1, by rw [mlA c m17 e19]; exact g23.2⟩ ?_
  try rw [mzA c m17 e19 (r21 : Int).toNat]
  refine gdT ⟨g23.1, by rw [mlA c m17 e19]; exact g23.2⟩ ?_
  refine bM (mwA c m17 e19 _ _) h ?_
  intro m24 h
  try rw [mr38 c m24]
  try rw [zs0 c m24]
  refine gdT (miA c m24 e38) ?_
  obtain ⟨g26, h⟩ := p_gdE h
  refine gdT ⟨g26.1, by rw [mlA c m24 e38]; exact g26.2⟩ ?_
  try rw [mzA c m24 e38 ((m24 100 0) : Int).toNat]
  refine gdT ⟨g26.1, by rw [mlA c m24 e38]; exact g26.2⟩ ?_
  refine bM (mwA c m24 e38 _ _) h ?_
  intro m27 h
  try rw [mr41 c m27]
  refine gdT (miA c m27 e41) ?_
  obtain ⟨g29, h⟩ := p_gdE h
  refine gdT ⟨g29.1, by rw [mlA c m27 e41]; exact g29.2⟩ ?_
  refine bM (mwA c m27 e41 _ _) h ?_
  intro m30 h
  try rw [mr41 c m30]
  refine gdT (miA c m30 e41) ?_
  obtain ⟨g32, h⟩ := p_gdE h
  refine gdT ⟨g32.1, by rw [mlA c m30 e41]; exact g32.2⟩ ?_
  refine bM (mwA c m30 e41 _ _) h ?_
  intro m33 h
  try rw [mr41 c m33]
  try rw [mr4 c m33]
  try rw [zs0 c m33]
  refine gdT (miA c m33 e4) ?_
  obtain ⟨g35, h⟩ := p_gdE h
  refine gdT ⟨g35.1, by rw [mlA c m33 e4]; exact g35.2⟩ ?_
  try rw [mzA c m33 e4 ((m33 100 0) : Int).toNat]
  refine gdT (miA c m33 e41) ?_
  obtain ⟨g36, h⟩ := p_gdE h
  refine gdT ⟨g36.1, by rw [mlA c m33 e41]; exact g36.2⟩ ?_
  refine bM (mwA c m33 e41 _ _) h ?_
  intro m37 h
  try rw [mr41 c m37]
  refine gdT (miA c m37 e41) ?_
  obtain ⟨g39, h⟩ := p_gdE h
  refine gdT ⟨g39.1, by rw [mlA c m37 e41]; exact g39.2⟩ ?_
  refine bM (mwA c m37 e41 _ _) h ?_
  intro m40 h
  try rw [mr40 c m40]
  try rw [zs0 c m40]
  refine gdT (miA c m40 e40) ?_
  obtain ⟨g42, h⟩ := p_gdE h
  refine gdT ⟨g42.1, by rw [mlA c m40 e40]; exact g42.2⟩ ?_
  try rw [mzA c m40 e40 ((m40 100 0) : Int).toNat]
  refine gdT ⟨g42.1, by rw [mlA c m40 e40]; exact g42.2⟩ ?_
  refine bM (mwA c m40 e40 _ _) h ?_
  intro m43 h
  exact uB_Mo_goesOut_149 c m43 _ h
def GB_Mo_givesOut_71 (k25 : Int → Int → Int → Int → Int → h_M → Option (Int × h_M)) (v1 : Int) (v2 : Int) (v3 : Int) (v4 : Int) (v5 : Int) (m0 : h_M) : Option (Int × h_M) :=
  if v4 ≤ 0 then
    q_bv (G_Mo_g (m0 173 0) m0) fun r4 =>
    p_gd ((0 : Int) ≤ r4 ∧ r4 < (120 : Int)) <|
    if (m0 14 (r4 : Int).toNat) = 0 then
      p_bi (p_w (v5 + 1)) fun x8 =>
      k25 v1 v2 v3 v4 x8 m0
    else
      q_bv (G_Mo_goesOut v2 v1 (m0 173 0) m0) fun m12 =>
      some (1, m12)
  else
    q_bv (G_Mo_find 1 v4 v2 m0) fun m15 =>
    some (0, m15)
def GL_Mo_givesOut_25 (k25 : Int → Int → Int → Int → Int → h_M → Option (Int × h_M)) (v1 : Int) (v2 : Int) (v3 : Int) (v4 : Int) (v5 : Int) (m0 : h_M) : Option (Int × h_M) :=
  p_gd ((0 : Int) ≤ v3 ∧ v3 < (120 : Int)) <|
  if (m0 7 (v3 : Int).toNat) ≤ v5 then
    if v4 ≤ 0 then
      some (0, m0)
    else
      q_bv (G_Mo_find 1 v4 v2 m0) fun m6 =>
      some (0, m6)
  else
    q_bd (G_Mo_follow v1 v5 m0) fun r9 m10 =>
    if r9 ≠ 0 then
      GB_Mo_givesOut_71 k25 v1 v2 v3 r9 v5 m10
    else
      q_bv (G_Mo_g (m10 173 0) m10) fun r15 =>
      p_gd ((0 : Int) ≤ r15 ∧ r15 < (120 : Int)) <|
      if (m10 5 (r15 : Int).toNat) = 9 then
        GB_Mo_givesOut_71 k25 v1 v2 v3 r9 v5 m10
      else
        GB_Mo_givesOut_71 k25 v1 v2 v3 2 v5 m10
def GO_Mo_givesOut_25  : Nat → Int → Int → Int → Int → Int → h_M → Option (Int × h_M)
  | 0 => fun _ _ _ _ _ _ => none
  | n + 1 => GL_Mo_givesOut_25 (GO_Mo_givesOut_25 n)
def GB_Mo_givesOut_20  (v1 : Int) (v2 : Int) (v3 : Int) (w0 : Int) (m0 : h_M) : Option (Int × h_M) :=
  GO_Mo_givesOut_25 3000 v1 v2 v3 w0 0 m0
def G_Mo_givesOut (v1 : Int) (v2 : Int) (m0 : h_M) : Option (Int × h_M) :=
  q_bv (G_Mo_g v1 m0) fun r3 =>
  p_gd ((0 : Int) ≤ r3 ∧ r3 < (120 : Int)) <|
  if 0 ≤ (m0 7 (r3 : Int).toNat) then
    GB_Mo_givesOut_20 v1 v2 r3 0 m0
  else
    GB_Mo_givesOut_20 v1 v2 r3 1 m0
set_option maxRecDepth 100000 in
set_option maxHeartbeats 4000000 in
theorem uB_Mo_givesOut_71 (c : h_C) (j25 : Nat → Int → Int → Int → Int → Int → p_Hp → Option (Int × p_Hp)) (k25 : Int → Int → Int → Int → Int → h_M → Option (Int × h_M)) (hk25 : ∀ (v1 : Int) (v2 : Int) (v3 : Int) (v4 : Int) (v5 : Int) (m0 : h_M) (r : (Int × h_M)), k25 v1 v2 v3 v4 v5 m0 = some r → j25 1125 v1 v2 v3 v4 v5 (h_H c m0) = some (r.1, (h_H c r.2))) (v1 : Int) (v2 : Int) (v3 : Int) (v4 : Int) (v5 : Int) (m0 : h_M) (r : (Int × h_M)) (h : GB_Mo_givesOut_71 k25 v1 v2 v3 v4 v5 m0 = some r) : B_Mo_givesOut_71 j25 1125 v1 v2 v3 v4 v5 (h_H c m0) = some (r.1, (h_H c r.2)) := by
  unfold GB_Mo_givesOut_71 at h
  unfold B_Mo_givesOut_71
  refine iteC Iff.rfl h (fun b1 h => ?_) (fun b1 h => ?_)
  · refine gdT (miS c m0) ?_
    try rw [mr14 c m0]
    try rw [zs73 c m0]
    obtain ⟨r4, q2, h⟩ := q_bvE h
    refine bdC (u_Mo_g c (m0 173 0) m0 _ q2) ?_
    refine gdT (miA c m0 e14) ?_
    obtain ⟨g6, h⟩ := p_gdE h
    refine gdT ⟨g6.1, by rw [mlA c m0 e14]; exact g6.2⟩ ?_
    try rw [mzA c m0 e14 (r4 : Int).toNat]
    refine iteC Iff.rfl h (fun b7 h => ?_) (fun b7 h => ?_)
    · refine bV h ?_
      intro x8 h
      exact hk25 v1 v2 v3 v4 x8 m0 _ h
    · try rw [zs73 c m0]
      obtain ⟨m12, q10, h⟩ := q_bvE h
      refine bvC (u_Mo_goesOut c v2 v1 (m0 173 0) m0 _ q10) ?_
      cases h
      rfl
  · refine gdT (miS c m0) ?_
    obtain ⟨m15, q13, h⟩ := q_bvE h
    refine bvC (u_Mo_find c 1 v4 v2 m0 _ q13) ?_
    cases h
    rfl
set_option maxRecDepth 100000 in
set_option maxHeartbeats 4000000 in
theorem uL_Mo_givesOut_25 (c : h_C) (j25 : Nat → Int → Int → Int → Int → Int → p_Hp → Option (Int × p_Hp)) (k25 : Int → Int → Int → Int → Int → h_M → Option (Int × h_M)) (hk25 : ∀ (v1 : Int) (v2 : Int) (v3 : Int) (v4 : Int) (v5 : Int) (m0 : h_M) (r : (Int × h_M)), k25 v1 v2 v3 v4 v5 m0 = some r → j25 1125 v1 v2 v3 v4 v5 (h_H c m0) = some (r.1, (h_H c r.2))) (v1 : Int) (v2 : Int) (v3 : Int) (v4 : Int) (v5 : Int) (m0 : h_M) (r : (Int × h_M)) (h : GL_Mo_givesOut_25 k25 v1 v2 v3 v4 v5 m0 = some r) : L_Mo_givesOut_25 j25 1125 v1 v2 v3 v4 v5 (h_H c m0) = some (r.1, (h_H c r.2)) := by
  unfold GL_Mo_givesOut_25 at h
  unfold L_Mo_givesOut_25
  refine gdT (miS c m0) ?_
  try rw [mr7 c m0]
  refine gdT (miA c m0 e7) ?_
  obtain ⟨g1, h⟩ := p_gdE h
  refine gdT ⟨g1.1, by rw [mlA c m0 e7]; exact g1.2⟩ ?_
  try rw [mzA c m0 e7 (v3 : Int).toNat]
  refine iteC Iff.rfl h (fun b2 h => ?_) (fun b2 h => ?_)
  · refine iteC Iff.rfl h (fun b3 h => ?_) (fun b3 h => ?_)
    · cases h
      rfl
    · obtain ⟨m6, q4, h⟩ := q_bvE h
      refine bvC (u_Mo_find c 1 v4 v2 m0 _ q4) ?_
      cases h
      rfl
  · obtain ⟨r9, m10, q7, h⟩ := q_bdE h
    refine bdC (u_Mo_follow c v1 v5 m0 _ q7) ?_
    refine iteC Iff.rfl h (fun b12 h => ?_) (fun b12 h => ?_)
    · exact uB_Mo_givesOut_71 c j25 k25 hk25 v1 v2 v3 r9 v5 m10 _ h
    · try rw [mr5 c m10]
      try rw [zs73 c m10]
      obtain ⟨r15, q13, h⟩ := q_bvE h
      refine bdC (u_Mo_g c (m10 173 0) m10 _ q13) ?_
      refine gdT (miA c m10 e5) ?_
      obtain ⟨g17, h⟩ := p_gdE h
      refine gdT ⟨g17.1, by rw [mlA c m10 e5]; exact g17.2⟩ ?_
      try rw [mzA c m10 e5 (r15 : Int).toNat]
      refine iteC Iff.rfl h (fun b18 h => ?_) (fun b18 h => ?_)
      · exact uB_Mo_givesOut_71 c j25 k25 hk25 v1 v2 v3 r9 v5 m10 _ h
      · exact uB_Mo_givesOut_71 c j25 k25 hk25 v1 v2 v3 2 v5 m10 _ h
set_option maxRecDepth 100000 in
set_option maxHeartbeats 4000000 in
theorem uO_Mo_givesOut_25 (c : h_C)  : ∀ (n : Nat) (v1 : Int) (v2 : Int) (v3 : Int) (v4 : Int) (v5 : Int) (m0 : h_M) (r : (Int × h_M)), GO_Mo_givesOut_25 n v1 v2 v3 v4 v5 m0 = some r → O_Mo_givesOut_25 n 1125 v1 v2 v3 v4 v5 (h_H c m0) = some (r.1, (h_H c r.2)) := by
  intro n
  induction n with
  | zero => intro v1 v2 v3 v4 v5 m0 r h; cases h
  | succ n ih => intro v1 v2 v3 v4 v5 m0 r h; exact uL_Mo_givesOut_25 c (O_Mo_givesOut_25 n) (GO_Mo_givesOut_25 n) ih v1 v2 v3 v4 v5 m0 r h
set_option maxRecDepth 100000 in
set_option maxHeartbeats 4000000 in
theorem uB_Mo_givesOut_20 (c : h_C)  (v1 : Int) (v2 : Int) (v3 : Int) (w0 : Int) (m0 : h_M) (r : (Int × h_M)) (h : GB_Mo_givesOut_20 v1 v2 v3 w0 m0 = some r) : B_Mo_givesOut_20 1125 v1 v2 v3 w0 (h_H c m0) = some (r.1, (h_H c r.2)) := by
  unfold GB_Mo_givesOut_20 at h
  unfold B_Mo_givesOut_20
  exact uO_Mo_givesOut_25 c 3000 v1 v2 v3 w0 0 m0 _ h
set_option maxRecDepth 100000 in
set_option maxHeartbeats 4000000 in
theorem u_Mo_givesOut (c : h_C) (v1 : Int) (v2 : Int) (m0 : h_M) (r : (Int × h_M)) (h : G_Mo_givesOut v1 v2 m0 = some r) : F_Mo_givesOut 1125 v1 v2 (h_H c m0) = some (r.1, (h_H c r.2)) := by
  unfold G_Mo_givesOut at h
  unfold F_Mo_givesOut
  refine gdT (miS c m0) ?_
  obtain ⟨r3, q1, h⟩ := q_bvE h
  refine bdC (u_Mo_g c v1 m0 _ q1) ?_
  try rw [mr7 c m0]
  refine gdT (miA c m0 e7) ?_
  obtain ⟨g5, h⟩ := p_gdE h
  refine gdT ⟨g5.1, by rw [mlA c m0 e7]; exact g5.2⟩ ?_
  try rw [mzA c m0 e7 (r3 : Int).toNat]
  refine iteC Iff.rfl h (fun b6 h => ?_) (fun b6 h => ?_)
  · exact uB_Mo_givesOut_20 c v1 v2 r3 0 m0 _ h
  · exact uB_Mo_givesOut_20 c v1 v2 r3 1 m0 _ h
def GB_Mo_quotientOf_104 (k43 : Int → Int → Int → Int → h_M → Option (Int × h_M)) (v1 : Int) (v2 : Int) (v4 : Int) (w0 : Int) (w1 : Int) (m0 : h_M) : Option (Int × h_M) :=
  p_bi ((p_w (w1 + w0))) fun x2 =>
  p_bi (p_w (v4 + 1)) fun x3 =>
  k43 v1 v2 x2 x3 m0
def GB_Mo_quotientOf_103 (k43 : Int → Int → Int → Int → h_M → Option (Int × h_M)) (v1 : Int) (v2 : Int) (v4 : Int) (w0 : Int) (m0 : h_M) : Option (Int × h_M) :=
  GB_Mo_quotientOf_104 k43 v1 v2 v4 0 w0 m0
def GL_Mo_quotientOf_43 (k43 : Int → Int → Int → Int → h_M → Option (Int × h_M)) (v1 : Int) (v2 : Int) (v3 : Int) (v4 : Int) (m0 : h_M) : Option (Int × h_M) :=
  p_gd ((0 : Int) ≤ v2 ∧ v2 < (120 : Int)) <|
  if (m0 7 (v2 : Int).toNat) ≤ v4 then
    if v3 ≠ 0 then
      q_bv (G_Mo_loadOf v2 m0) fun r6 =>
      p_gd (v3 ≠ 0) <|
      p_bi (wm m0 180 0 (p_div r6 v3)) fun m9 =>
      some (0, m9)
    else
      some (6, m0)
  else
    q_bd (G_Mo_follow v1 v4 m0) fun r13 m14 =>
    if r13 ≠ 0 then
      GB_Mo_quotientOf_103 k43 v1 v2 v4 v3 m14
    else
      q_bv (G_Mo_g (m14 173 0) m14) fun r19 =>
      p_gd ((0 : Int) ≤ r19 ∧ r19 < (120 : Int)) <|
      if (m14 5 (r19 : Int).toNat) ≠ 9 then
        GB_Mo_quotientOf_103 k43 v1 v2 v4 v3 m14
      else
        q_bv (G_Mo_g (m14 173 0) m14) fun r25 =>
        p_gd ((0 : Int) ≤ r25 ∧ r25 < (120 : Int)) <|
        if (m14 14 (r25 : Int).toNat) = 0 then
          GB_Mo_quotientOf_103 k43 v1 v2 v4 v3 m14
        else
          GB_Mo_quotientOf_104 k43 v1 v2 v4 1 v3 m14
def GO_Mo_quotientOf_43  : Nat → Int → Int → Int → Int → h_M → Option (Int × h_M)
  | 0 => fun _ _ _ _ _ => none
  | n + 1 => GL_Mo_quotientOf_43 (GO_Mo_quotientOf_43 n)
def G_Mo_quotientOf (v1 : Int) (m0 : h_M) : Option (Int × h_M) :=
  if v1 ≤ 39 then
    q_bv (G_Mo_noGear v1 m0) fun r4 =>
    if r4 = 0 then
      q_bv (G_Mo_g v1 m0) fun r9 =>
      p_gd ((0 : Int) ≤ r9 ∧ r9 < (120 : Int)) <|
      q_bv (G_Mo_isChute (m0 5 (r9 : Int).toNat) m0) fun r14 =>
      if r14 ≠ 0 then
        GO_Mo_quotientOf_43 3000 v1 r9 0 0 m0
      else
        some (2, m0)
    else
      some (1, m0)
  else
    some (3, m0)
set_option maxRecDepth 100000 in
set_option maxHeartbeats 4000000 in
theorem uB_Mo_quotientOf_104 (c : h_C) (j43 : Nat → Int → Int → Int → Int → p_Hp → Option (Int × p_Hp)) (k43 : Int → Int → Int → Int → h_M → Option (Int × h_M)) (hk43 : ∀ (v1 : Int) (v2 : Int) (v3 : Int) (v4 : Int) (m0 : h_M) (r : (Int × h_M)), k43 v1 v2 v3 v4 m0 = some r → j43 1125 v1 v2 v3 v4 (h_H c m0) = some (r.1, (h_H c r.2))) (v1 : Int) (v2 : Int) (v4 : Int) (w0 : Int) (w1 : Int) (m0 : h_M) (r : (Int × h_M)) (h : GB_Mo_quotientOf_104 k43 v1 v2 v4 w0 w1 m0 = some r) : B_Mo_quotientOf_104 j43 1125 v1 v2 v4 w0 w1 (h_H c m0) = some (r.1, (h_H c r.2)) := by
  unfold GB_Mo_quotientOf_104 at h
  unfold B_Mo_quotientOf_104
  refine bV h ?_
  intro x2 h
  refine bV h ?_
  intro x3 h
  exact hk43 v1 v2 x2 x3 m0 _ h
set_option maxRecDepth 100000 in
set_option maxHeartbeats 4000000 in
theorem uB_Mo_quotientOf_103 (c : h_C) (j43 : Nat → Int → Int → Int → Int → p_Hp → Option (Int × p_Hp)) (k43 : Int → Int → Int → Int → h_M → Option (Int × h_M)) (hk43 : ∀ (v1 : Int) (v2 : Int) (v3 : Int) (v4 : Int) (m0 : h_M) (r : (Int × h_M)), k43 v1 v2 v3 v4 m0 = some r → j43 1125 v1 v2 v3 v4 (h_H c m0) = some (r.1, (h_H c r.2))) (v1 : Int) (v2 : Int) (v4 : Int) (w0 : Int) (m0 : h_M) (r : (Int × h_M)) (h : GB_Mo_quotientOf_103 k43 v1 v2 v4 w0 m0 = some r) : B_Mo_quotientOf_103 j43 1125 v1 v2 v4 w0 (h_H c m0) = some (r.1, (h_H c r.2)) := by
  unfold GB_Mo_quotientOf_103 at h
  unfold B_Mo_quotientOf_103
  exact uB_Mo_quotientOf_104 c j43 k43 hk43 v1 v2 v4 0 w0 m0 _ h
set_option maxRecDepth 100000 in
set_option maxHeartbeats 4000000 in
theorem uL_Mo_quotientOf_43 (c : h_C) (j43 : Nat → Int → Int → Int → Int → p_Hp → Option (Int × p_Hp)) (k43 : Int → Int → Int → Int → h_M → Option (Int × h_M)) (hk43 : ∀ (v1 : Int) (v2 : Int) (v3 : Int) (v4 : Int) (m0 : h_M) (r : (Int × h_M)), k43 v1 v2 v3 v4 m0 = some r → j43 1125 v1 v2 v3 v4 (h_H c m0) = some (r.1, (h_H c r.2))) (v1 : Int) (v2 : Int) (v3 : Int) (v4 : Int) (m0 : h_M) (r : (Int × h_M)) (h : GL_Mo_quotientOf_43 k43 v1 v2 v3 v4 m0 = some r) : L_Mo_quotientOf_43 j43 1125 v1 v2 v3 v4 (h_H c m0) = some (r.1, (h_H c r.2)) := by
  unfold GL_Mo_quotientOf_43 at h
  unfold L_Mo_quotientOf_43
  refine gdT (miS c m0) ?_
  try rw [mr7 c m0]
  refine gdT (miA c m0 e7) ?_
  obtain ⟨g1, h⟩ := p_gdE h
  refine gdT ⟨g1.1, by rw [mlA c m0 e7]; exact g1.2⟩ ?_
  try rw [mzA c m0 e7 (v2 : Int).toNat]
  refine iteC Iff.rfl h (fun b2 h => ?_) (fun b2 h => ?_)
  · refine iteC Iff.rfl h (fun b3 h => ?_) (fun b3 h => ?_)
    · obtain ⟨r6, q4, h⟩ := q_bvE h
      refine bdC (u_Mo_loadOf c v2 m0 _ q4) ?_
      obtain ⟨g8, h⟩ := p_gdE h
      refine gdT g8 ?_
      refine bM (ws80 c m0 _) h ?_
      intro m9 h
      cases h
      rfl
    · cases h
      rfl
  · obtain ⟨r13, m14, q11, h⟩ := q_bdE h
    refine bdC (u_Mo_follow c v1 v4 m0 _ q11) ?_
    refine iteC Iff.rfl h (fun b16 h => ?_) (fun b16 h => ?_)
    · exact uB_Mo_quotientOf_103 c j43 k43 hk43 v1 v2 v4 v3 m14 _ h
    · try rw [mr5 c m14]
      try rw [zs73 c m14]
      obtain ⟨r19, q17, h⟩ := q_bvE h
      refine bdC (u_Mo_g c (m14 173 0) m14 _ q17) ?_
      refine gdT (miA c m14 e5) ?_
      obtain ⟨g21, h⟩ := p_gdE h
      refine gdT ⟨g21.1, by rw [mlA c m14 e5]; exact g21.2⟩ ?_
      try rw [mzA c m14 e5 (r19 : Int).toNat]
      refine iteC Iff.rfl h (fun b22 h => ?_) (fun b22 h => ?_)
      · exact uB_Mo_quotientOf_103 c j43 k43 hk43 v1 v2 v4 v3 m14 _ h
      · try rw [mr14 c m14]
        try rw [zs73 c m14]
        obtain ⟨r25, q23, h⟩ := q_bvE h
        refine bdC (u_Mo_g c (m14 173 0) m14 _ q23) ?_
        refine gdT (miA c m14 e14) ?_
        obtain ⟨g27, h⟩ := p_gdE h
        refine gdT ⟨g27.1, by rw [mlA c m14 e14]; exact g27.2⟩ ?_
        try rw [mzA c m14 e14 (r25 : Int).toNat]
        refine iteC Iff.rfl h (fun b28 h => ?_) (fun b28 h => ?_)
        · exact uB_Mo_quotientOf_103 c j43 k43 hk43 v1 v2 v4 v3 m14 _ h
        · exact uB_Mo_quotientOf_104 c j43 k43 hk43 v1 v2 v4 1 v3 m14 _ h
set_option maxRecDepth 100000 in
set_option maxHeartbeats 4000000 in
theorem uO_Mo_quotientOf_43 (c : h_C)  : ∀ (n : Nat) (v1 : Int) (v2 : Int) (v3 : Int) (v4 : Int) (m0 : h_M) (r : (Int × h_M)), GO_Mo_quotientOf_43 n v1 v2 v3 v4 m0 = some r → O_Mo_quotientOf_43 n 1125 v1 v2 v3 v4 (h_H c m0) = some (r.1, (h_H c r.2)) := by
  intro n
  induction n with
  | zero => intro v1 v2 v3 v4 m0 r h; cases h
  | succ n ih => intro v1 v2 v3 v4 m0 r h; exact uL_Mo_quotientOf_43 c (O_Mo_quotientOf_43 n) (GO_Mo_quotientOf_43 n) ih v1 v2 v3 v4 m0 r h
set_option maxRecDepth 100000 in
set_option maxHeartbeats 4000000 in
theorem u_Mo_quotientOf (c : h_C) (v1 : Int) (m0 : h_M) (r : (Int × h_M)) (h : G_Mo_quotientOf v1 m0 = some r) : F_Mo_quotientOf 1125 v1 (h_H c m0) = some (r.1, (h_H c r.2)) := by
  unfold G_Mo_quotientOf at h
  unfold F_Mo_quotientOf
  refine iteC Iff.rfl h (fun b1 h => ?_) (fun b1 h => ?_)
  · refine gdT (miS c m0) ?_
    obtain ⟨r4, q2, h⟩ := q_bvE h
    refine bdC (u_Mo_noGear c v1 m0 _ q2) ?_
    refine iteC Iff.rfl h (fun b6 h => ?_) (fun b6 h => ?_)
    · obtain ⟨r9, q7, h⟩ := q_bvE h
      refine bdC (u_Mo_g c v1 m0 _ q7) ?_
      try rw [mr5 c m0]
      refine gdT (miA c m0 e5) ?_
      obtain ⟨g11, h⟩ := p_gdE h
      refine gdT ⟨g11.1, by rw [mlA c m0 e5]; exact g11.2⟩ ?_
      try rw [mzA c m0 e5 (r9 : Int).toNat]
      obtain ⟨r14, q12, h⟩ := q_bvE h
      refine bdC (u_Mo_isChute c (m0 5 (r9 : Int).toNat) m0 _ q12) ?_
      refine iteC Iff.rfl h (fun b16 h => ?_) (fun b16 h => ?_)
      · exact uO_Mo_quotientOf_43 c 3000 v1 r9 0 0 m0 _ h
      · cases h
        rfl
    · cases h
      rfl
  · cases h
    rfl
def GB_Mo_holds_205 (k14 : Int → Int → Int → h_M → Option (Int × h_M)) (v1 : Int) (v2 : Int) (v3 : Int) (w0 : Int) (m0 : h_M) : Option (Int × h_M) :=
  if w0 ≠ 0 then
    p_bi (p_w (v3 + 1)) fun x2 =>
    k14 v1 v2 x2 m0
  else
    some (0, m0)
def GB_Mo_holds_129 (k14 : Int → Int → Int → h_M → Option (Int × h_M)) (v1 : Int) (v2 : Int) (v3 : Int) (v5 : Int) (m0 : h_M) : Option (Int × h_M) :=
  p_gd ((0 : Int) ≤ v3 ∧ v3 < (144 : Int)) <|
  if (m0 54 (v3 : Int).toNat) ≠ 60 then
    if (m0 54 (v3 : Int).toNat) ≠ 61 then
      if v5 ≤ (m0 55 (v3 : Int).toNat) then
        GB_Mo_holds_205 k14 v1 v2 v3 0 m0
      else
        GB_Mo_holds_205 k14 v1 v2 v3 1 m0
    else
      if v5 ≠ (m0 55 (v3 : Int).toNat) then
        GB_Mo_holds_205 k14 v1 v2 v3 0 m0
      else
        GB_Mo_holds_205 k14 v1 v2 v3 1 m0
  else
    if (m0 55 (v3 : Int).toNat) ≤ v5 then
      GB_Mo_holds_205 k14 v1 v2 v3 0 m0
    else
      GB_Mo_holds_205 k14 v1 v2 v3 1 m0
def GB_Mo_holds_87 (k14 : Int → Int → Int → h_M → Option (Int × h_M)) (v1 : Int) (v2 : Int) (v3 : Int) (v4 : Int) (w0 : Int) (m0 : h_M) : Option (Int × h_M) :=
  if v4 ≠ 81 then
    GB_Mo_holds_129 k14 v1 v2 v3 w0 m0
  else
    p_gd ((0 : Int) ≤ v3 ∧ v3 < (144 : Int)) <|
    q_bd (G_Mo_quotientOf (m0 53 (v3 : Int).toNat) m0) fun r5 m6 =>
    if r5 ≤ 0 then
      p_bi ((m6 180 0)) fun x10 =>
      GB_Mo_holds_129 k14 v1 v2 v3 x10 m6
    else
      q_bv (G_Mo_find 3 r5 v1 m6) fun m13 =>
      some (0, m13)
def GL_Mo_holds_14 (k14 : Int → Int → Int → h_M → Option (Int × h_M)) (v1 : Int) (v2 : Int) (v3 : Int) (m0 : h_M) : Option (Int × h_M) :=
  p_gd ((0 : Int) ≤ v2 ∧ v2 < (36 : Int)) <|
  if (p_w ((p_w (4 * v2)) + (m0 50 (v2 : Int).toNat))) ≤ v3 then
    some (1, m0)
  else
    p_gd ((0 : Int) ≤ v3 ∧ v3 < (144 : Int)) <|
    p_bi ((m0 52 (v3 : Int).toNat)) fun x5 =>
    if x5 ≠ 68 then
      if x5 ≠ 87 then
        if x5 ≠ 83 then
          p_gd ((0 : Int) ≤ (m0 100 0) ∧ (m0 100 0) < (3 : Int)) <|
          GB_Mo_holds_87 k14 v1 v2 v3 x5 (m0 4 ((m0 100 0) : Int).toNat) m0
        else
          GB_Mo_holds_87 k14 v1 v2 v3 x5 (m0 177 0) m0
      else
        GB_Mo_holds_87 k14 v1 v2 v3 x5 (m0 176 0) m0
    else
      GB_Mo_holds_87 k14 v1 v2 v3 x5 (m0 175 0) m0
def GO_Mo_holds_14  : Nat → Int → Int → Int → h_M → Option (Int × h_M)
  | 0 => fun _ _ _ _ => none
  | n + 1 => GL_Mo_holds_14 (GO_Mo_holds_14 n)
def G_Mo_holds (v1 : Int) (m0 : h_M) : Option (Int × h_M) :=
  p_bi ((p_w ((p_w (12 * (m0 100 0))) + v1))) fun x2 =>
  p_bi ((p_w (4 * x2))) fun x4 =>
  GO_Mo_holds_14 3000 v1 x2 x4 m0
set_option maxRecDepth 100000 in
set_option maxHeartbeats 4000000 in
theorem uB_Mo_holds_205 (c : h_C) (j14 : Nat → Int → Int → Int → p_Hp → Option (Int × p_Hp)) (k14 : Int → Int → Int → h_M → Option (Int × h_M)) (hk14 : ∀ (v1 : Int) (v2 : Int) (v3 : Int) (m0 : h_M) (r : (Int × h_M)), k14 v1 v2 v3 m0 = some r → j14 1125 v1 v2 v3 (h_H c m0) = some (r.1, (h_H c r.2))) (v1 : Int) (v2 : Int) (v3 : Int) (w0 : Int) (m0 : h_M) (r : (Int × h_M)) (h : GB_Mo_holds_205 k14 v1 v2 v3 w0 m0 = some r) : B_Mo_holds_205 j14 1125 v1 v2 v3 w0 (h_H c m0) = some (r.1, (h_H c r.2)) := by
  unfold GB_Mo_holds_205 at h
  unfold B_Mo_holds_205
  refine iteC Iff.rfl h (fun b1 h => ?_) (fun b1 h => ?_)
  · refine bV h ?_
    intro x2 h
    exact hk14 v1 v2 x2 m0 _ h
  · cases h
    rfl
set_option maxRecDepth 100000 in
set_option maxHeartbeats 4000000 in
theorem uB_Mo_holds_129 (c : h_C) (j14 : Nat → Int → Int → Int → p_Hp → Option (Int × p_Hp)) (k14 : Int → Int → Int → h_M → Option (Int × h_M)) (hk14 : ∀ (v1 : Int) (v2 : Int) (v3 : Int) (m0 : h_M) (r : (Int × h_M)), k14 v1 v2 v3 m0 = some r → j14 1125 v1 v2 v3 (h_H c m0) = some (r.1, (h_H c r.2))) (v1 : Int) (v2 : Int) (v3 : Int) (v5 : Int) (m0 : h_M) (r : (Int × h_M)) (h : GB_Mo_holds_129 k14 v1 v2 v3 v5 m0 = some r) : B_Mo_holds_129 j14 1125 v1 v2 v3 v5 (h_H c m0) = some (r.1, (h_H c r.2)) := by
  unfold GB_Mo_holds_129 at h
  unfold B_Mo_holds_129
  refine gdT (miS c m0) ?_
  try rw [mr54 c m0]
  refine gdT (miA c m0 e54) ?_
  obtain ⟨g1, h⟩ := p_gdE h
  refine gdT ⟨g1.1, by rw [mlA c m0 e54]; exact g1.2⟩ ?_
  try rw [mzA c m0 e54 (v3 : Int).toNat]
  refine iteC Iff.rfl h (fun b2 h => ?_) (fun b2 h => ?_)
  · try rw [mr54 c m0]
    refine gdT ⟨g1.1, by rw [mlA c m0 e54]; exact g1.2⟩ ?_
    try rw [mzA c m0 e54 (v3 : Int).toNat]
    refine iteC Iff.rfl h (fun b3 h => ?_) (fun b3 h => ?_)
    · try rw [mr55 c m0]
      refine gdT (miA c m0 e55) ?_
      refine gdT ⟨g1.1, by rw [mlA c m0 e55]; exact g1.2⟩ ?_
      try rw [mzA c m0 e55 (v3 : Int).toNat]
      refine iteC Iff.rfl h (fun b4 h => ?_) (fun b4 h => ?_)
      · exact uB_Mo_holds_205 c j14 k14 hk14 v1 v2 v3 0 m0 _ h
      · exact uB_Mo_holds_205 c j14 k14 hk14 v1 v2 v3 1 m0 _ h
    · try rw [mr55 c m0]
      refine gdT (miA c m0 e55) ?_
      refine gdT ⟨g1.1, by rw [mlA c m0 e55]; exact g1.2⟩ ?_
      try rw [mzA c m0 e55 (v3 : Int).toNat]
      refine iteC Iff.rfl h (fun b5 h => ?_) (fun b5 h => ?_)
      · exact uB_Mo_holds_205 c j14 k14 hk14 v1 v2 v3 0 m0 _ h
      · exact uB_Mo_holds_205 c j14 k14 hk14 v1 v2 v3 1 m0 _ h
  · try rw [mr55 c m0]
    refine gdT (miA c m0 e55) ?_
    refine gdT ⟨g1.1, by rw [mlA c m0 e55]; exact g1.2⟩ ?_
    try rw [mzA c m0 e55 (v3 : Int).toNat]
    refine iteC Iff.rfl h (fun b6 h => ?_) (fun b6 h => ?_)
    · exact uB_Mo_holds_205 c j14 k14 hk14 v1 v2 v3 0 m0 _ h
    · exact uB_Mo_holds_205 c j14 k14 hk14 v1 v2 v3 1 m0 _ h
set_option maxRecDepth 100000 in
set_option maxHeartbeats 4000000 in
theorem uB_Mo_holds_87 (c : h_C) (j14 : Nat → Int → Int → Int → p_Hp → Option (Int × p_Hp)) (k14 : Int → Int → Int → h_M → Option (Int × h_M)) (hk14 : ∀ (v1 : Int) (v2 : Int) (v3 : Int) (m0 : h_M) (r : (Int × h_M)), k14 v1 v2 v3 m0 = some r → j14 1125 v1 v2 v3 (h_H c m0) = some (r.1, (h_H c r.2))) (v1 : Int) (v2 : Int) (v3 : Int) (v4 : Int) (w0 : Int) (m0 : h_M) (r : (Int × h_M)) (h : GB_Mo_holds_87 k14 v1 v2 v3 v4 w0 m0 = some r) : B_Mo_holds_87 j14 1125 v1 v2 v3 v4 w0 (h_H c m0) = some (r.1, (h_H c r.2)) := by
  unfold GB_Mo_holds_87 at h
  unfold B_Mo_holds_87
  refine iteC Iff.rfl h (fun b1 h => ?_) (fun b1 h => ?_)
  · exact uB_Mo_holds_129 c j14 k14 hk14 v1 v2 v3 w0 m0 _ h
  · refine gdT (miS c m0) ?_
    try rw [mr53 c m0]
    refine gdT (miA c m0 e53) ?_
    obtain ⟨g2, h⟩ := p_gdE h
    refine gdT ⟨g2.1, by rw [mlA c m0 e53]; exact g2.2⟩ ?_
    try rw [mzA c m0 e53 (v3 : Int).toNat]
    obtain ⟨r5, m6, q3, h⟩ := q_bdE h
    refine bdC (u_Mo_quotientOf c (m0 53 (v3 : Int).toNat) m0 _ q3) ?_
    refine iteC Iff.rfl h (fun b8 h => ?_) (fun b8 h => ?_)
    · try rw [zs80 c m6]
      refine bV h ?_
      intro x10 h
      exact uB_Mo_holds_129 c j14 k14 hk14 v1 v2 v3 x10 m6 _ h
    · obtain ⟨m13, q11, h⟩ := q_bvE h
      refine bvC (u_Mo_find c 3 r5 v1 m6 _ q11) ?_
      cases h
      rfl
set_option maxRecDepth 100000 in
set_option maxHeartbeats 4000000 in
theorem uL_Mo_holds_14 (c : h_C) (j14 : Nat → Int → Int → Int → p_Hp → Option (Int × p_Hp)) (k14 : Int → Int → Int → h_M → Option (Int × h_M)) (hk14 : ∀ (v1 : Int) (v2 : Int) (v3 : Int) (m0 : h_M) (r : (Int × h_M)), k14 v1 v2 v3 m0 = some r → j14 1125 v1 v2 v3 (h_H c m0) = some (r.1, (h_H c r.2))) (v1 : Int) (v2 : Int) (v3 : Int) (m0 : h_M) (r : (Int × h_M)) (h : GL_Mo_holds_14 k14 v1 v2 v3 m0 = some r) : L_Mo_holds_14 j14 1125 v1 v2 v3 (h_H c m0) = some (r.1, (h_H c r.2)) := by
  unfold GL_Mo_holds_14 at h
  unfold L_Mo_holds_14
  refine gdT (miS c m0) ?_
  try rw [mr50 c m0]
  refine gdT (miA c m0 e50) ?_
  obtain ⟨g1, h⟩ := p_gdE h
  refine gdT ⟨g1.1, by rw [mlA c m0 e50]; exact g1.2⟩ ?_
  try rw [mzA c m0 e50 (v2 : Int).toNat]
  refine iteC Iff.rfl h (fun b2 h => ?_) (fun b2 h => ?_)
  · cases h
    rfl
  · try rw [mr52 c m0]
    refine gdT (miA c m0 e52) ?_
    obtain ⟨g3, h⟩ := p_gdE h
    refine gdT ⟨g3.1, by rw [mlA c m0 e52]; exact g3.2⟩ ?_
    try rw [mzA c m0 e52 (v3 : Int).toNat]
    refine bV h ?_
    intro x5 h
    refine iteC Iff.rfl h (fun b6 h => ?_) (fun b6 h => ?_)
    · refine iteC Iff.rfl h (fun b7 h => ?_) (fun b7 h => ?_)
      · refine iteC Iff.rfl h (fun b8 h => ?_) (fun b8 h => ?_)
        · try rw [mr4 c m0]
          try rw [zs0 c m0]
          refine gdT (miA c m0 e4) ?_
          obtain ⟨g9, h⟩ := p_gdE h
          refine gdT ⟨g9.1, by rw [mlA c m0 e4]; exact g9.2⟩ ?_
          try rw [mzA c m0 e4 ((m0 100 0) : Int).toNat]
          exact uB_Mo_holds_87 c j14 k14 hk14 v1 v2 v3 x5 (m0 4 ((m0 100 0) : Int).toNat) m0 _ h
        · try rw [zs77 c m0]
          exact uB_Mo_holds_87 c j14 k14 hk14 v1 v2 v3 x5 (m0 177 0) m0 _ h
      · try rw [zs76 c m0]
        exact uB_Mo_holds_87 c j14 k14 hk14 v1 v2 v3 x5 (m0 176 0) m0 _ h
    · try rw [zs75 c m0]
      exact uB_Mo_holds_87 c j14 k14 hk14 v1 v2 v3 x5 (m0 175 0) m0 _ h
set_option maxRecDepth 100000 in
set_option maxHeartbeats 4000000 in
theorem uO_Mo_holds_14 (c : h_C)  : ∀ (n : Nat) (v1 : Int) (v2 : Int) (v3 : Int) (m0 : h_M) (r : (Int × h_M)), GO_Mo_holds_14 n v1 v2 v3 m0 = some r → O_Mo_holds_14 n 1125 v1 v2 v3 (h_H c m0) = some (r.1, (h_H c r.2)) := by
  intro n
  induction n with
  | zero => intro v1 v2 v3 m0 r h; cases h
  | succ n ih => intro v1 v2 v3 m0 r h; exact uL_Mo_holds_14 c (O_Mo_holds_14 n) (GO_Mo_holds_14 n) ih v1 v2 v3 m0 r h
set_option maxRecDepth 100000 in
set_option maxHeartbeats 4000000 in
theorem u_Mo_holds (c : h_C) (v1 : Int) (m0 : h_M) (r : (Int × h_M)) (h : G_Mo_holds v1 m0 = some r) : F_Mo_holds 1125 v1 (h_H c m0) = some (r.1, (h_H c r.2)) := by
  unfold G_Mo_holds at h
  unfold F_Mo_holds
  refine gdT (miS c m0) ?_
  try rw [zs0 c m0]
  refine bV h ?_
  intro x2 h
  refine bV h ?_
  intro x4 h
  exact uO_Mo_holds_14 c 3000 v1 x2 x4 m0 _ h
def GB_Mo_asked_19  (v1 : Int) (m0 : h_M) : Option (Int × h_M) :=
  p_gd ((0 : Int) ≤ v1 ∧ v1 < (2001 : Int)) <|
  if 0 ≤ (m0 31 (v1 : Int).toNat) then
    p_bi (wm m0 178 0 3) fun m3 =>
    some ((-1), m3)
  else
    p_bi (wm m0 178 0 1) fun m5 =>
    some ((-1), m5)
def G_Mo_asked (v1 : Int) (v2 : Int) (m0 : h_M) : Option (Int × h_M) :=
  p_gd ((0 : Int) ≤ v1 ∧ v1 < (2001 : Int)) <|
  if (m0 31 (v1 : Int).toNat) < 0 then
    GB_Mo_asked_19 v1 m0
  else
    if v2 < (m0 31 (v1 : Int).toNat) then
      p_gd ((0 : Int) ≤ (p_w ((p_w (12 * v1)) + v2)) ∧ (p_w ((p_w (12 * v1)) + v2)) < (24012 : Int)) <|
      some ((m0 32 ((p_w ((p_w (12 * v1)) + v2)) : Int).toNat), m0)
    else
      GB_Mo_asked_19 v1 m0
set_option maxRecDepth 100000 in
set_option maxHeartbeats 4000000 in
theorem uB_Mo_asked_19 (c : h_C)  (v1 : Int) (m0 : h_M) (r : (Int × h_M)) (h : GB_Mo_asked_19 v1 m0 = some r) : B_Mo_asked_19 1125 v1 (h_H c m0) = some (r.1, (h_H c r.2)) := by
  unfold GB_Mo_asked_19 at h
  unfold B_Mo_asked_19
  refine gdT (miS c m0) ?_
  try rw [mr31 c m0]
  refine gdT (miA c m0 e31) ?_
  obtain ⟨g1, h⟩ := p_gdE h
  refine gdT ⟨g1.1, by rw [mlA c m0 e31]; exact g1.2⟩ ?_
  try rw [mzA c m0 e31 (v1 : Int).toNat]
  refine iteC Iff.rfl h (fun b2 h => ?_) (fun b2 h => ?_)
  · refine bM (ws78 c m0 _) h ?_
    intro m3 h
    cases h
    rfl
  · refine bM (ws78 c m0 _) h ?_
    intro m5 h
    cases h
    rfl
set_option maxRecDepth 100000 in
set_option maxHeartbeats 4000000 in
theorem u_Mo_asked (c : h_C) (v1 : Int) (v2 : Int) (m0 : h_M) (r : (Int × h_M)) (h : G_Mo_asked v1 v2 m0 = some r) : F_Mo_asked 1125 v1 v2 (h_H c m0) = some (r.1, (h_H c r.2)) := by
  unfold G_Mo_asked at h
  unfold F_Mo_asked
  refine gdT (miS c m0) ?_
  try rw [mr31 c m0]
  refine gdT (miA c m0 e31) ?_
  obtain ⟨g1, h⟩ := p_gdE h
  refine gdT ⟨g1.1, by rw [mlA c m0 e31]; exact g1.2⟩ ?_
  try rw [mzA c m0 e31 (v1 : Int).toNat]
  refine iteC Iff.rfl h (fun b2 h => ?_) (fun b2 h => ?_)
  · exact uB_Mo_asked_19 c v1 m0 _ h
  · try rw [mr31 c m0]
    refine gdT ⟨g1.1, by rw [mlA c m0 e31]; exact g1.2⟩ ?_
    try rw [mzA c m0 e31 (v1 : Int).toNat]
    refine iteC Iff.rfl h (fun b3 h => ?_) (fun b3 h => ?_)
    · try rw [mr32 c m0]
      refine gdT (miA c m0 e32) ?_
      obtain ⟨g4, h⟩ := p_gdE h
      refine gdT ⟨g4.1, by rw [mlA c m0 e32]; exact g4.2⟩ ?_
      try rw [mzA c m0 e32 ((p_w ((p_w (12 * v1)) + v2)) : Int).toNat]
      cases h
      rfl
    · exact uB_Mo_asked_19 c v1 m0 _ h
def GL_Mo_reads_20 (k20 : Int → Int → h_M → Option (Int × h_M)) (v1 : Int) (v3 : Int) (m0 : h_M) : Option (Int × h_M) :=
  if 8 ≤ v3 then
    p_gd ((0 : Int) ≤ 1 ∧ 1 < (8 : Int)) <|
    p_gd ((0 : Int) ≤ 2 ∧ 2 < (8 : Int)) <|
    p_bi (wm m0 175 0 (p_w ((p_w (10 * (m0 79 (1 : Int).toNat))) + (m0 79 (2 : Int).toNat)))) fun m4 =>
    p_gd ((0 : Int) ≤ 3 ∧ 3 < (8 : Int)) <|
    p_gd ((0 : Int) ≤ 4 ∧ 4 < (8 : Int)) <|
    p_gd ((0 : Int) ≤ 5 ∧ 5 < (8 : Int)) <|
    p_bi (wm m4 176 0 (p_w ((p_w ((p_w (100 * (m4 79 (3 : Int).toNat))) + (p_w (10 * (m4 79 (4 : Int).toNat))))) + (m4 79 (5 : Int).toNat)))) fun m9 =>
    p_gd ((0 : Int) ≤ 6 ∧ 6 < (8 : Int)) <|
    p_bi (wm m9 177 0 (m9 79 (6 : Int).toNat)) fun m12 =>
    p_gd ((0 : Int) ≤ 7 ∧ 7 < (8 : Int)) <|
    if (p_rem (p_w ((p_w ((p_w ((p_w ((p_w ((p_w ((p_w (3 * (m12 79 (1 : Int).toNat))) + (m12 79 (2 : Int).toNat))) + (p_w (3 * (m12 79 (3 : Int).toNat))))) + (m12 79 (4 : Int).toNat))) + (p_w (3 * (m12 79 (5 : Int).toNat))))) + (m12 79 (6 : Int).toNat))) + (m12 79 (7 : Int).toNat))) 10) ≠ 0 then
      some (0, m12)
    else
      some (1, m12)
  else
    q_bd (G_Mo_asked v1 v3 m0) fun r18 m19 =>
    if r18 < 48 then
      some (0, m19)
    else
      if r18 ≤ 57 then
        p_gd ((0 : Int) ≤ v3 ∧ v3 < (8 : Int)) <|
        p_bi (wm m19 79 (v3 : Int).toNat (p_w (r18 - 48))) fun m24 =>
        p_bi (p_w (v3 + 1)) fun x26 =>
        k20 v1 x26 m24
      else
        some (0, m19)
def GO_Mo_reads_20  : Nat → Int → Int → h_M → Option (Int × h_M)
  | 0 => fun _ _ _ => none
  | n + 1 => GL_Mo_reads_20 (GO_Mo_reads_20 n)
def GL_Mo_reads_206 (k206 : Int → Int → h_M → Option (Int × h_M)) (v1 : Int) (v3 : Int) (m0 : h_M) : Option (Int × h_M) :=
  if 6 ≤ v3 then
    p_gd ((0 : Int) ≤ 1 ∧ 1 < (8 : Int)) <|
    p_bi (wm m0 175 0 (m0 79 (1 : Int).toNat)) fun m3 =>
    p_gd ((0 : Int) ≤ 2 ∧ 2 < (8 : Int)) <|
    p_gd ((0 : Int) ≤ 3 ∧ 3 < (8 : Int)) <|
    p_bi (wm m3 176 0 (p_w ((p_w (256 * (m3 79 (2 : Int).toNat))) + (m3 79 (3 : Int).toNat)))) fun m7 =>
    p_gd ((0 : Int) ≤ 4 ∧ 4 < (8 : Int)) <|
    p_bi (wm m7 177 0 (m7 79 (4 : Int).toNat)) fun m10 =>
    p_gd ((0 : Int) ≤ 5 ∧ 5 < (8 : Int)) <|
    if (m10 79 (5 : Int).toNat) ≠ (p_rem (p_w ((p_w ((p_w ((p_w (7 * (m10 79 (1 : Int).toNat))) + (p_w (5 * (m10 79 (2 : Int).toNat))))) + (p_w (3 * (m10 79 (3 : Int).toNat))))) + (m10 79 (4 : Int).toNat))) 97) then
      some (0, m10)
    else
      some (1, m10)
  else
    q_bd (G_Mo_asked v1 v3 m0) fun r16 m17 =>
    p_gd ((0 : Int) ≤ v3 ∧ v3 < (8 : Int)) <|
    p_bi (wm m17 79 (v3 : Int).toNat r16) fun m20 =>
    if 0 ≤ (m20 79 (v3 : Int).toNat) then
      p_bi (p_w (v3 + 1)) fun x23 =>
      k206 v1 x23 m20
    else
      some (0, m20)
def GO_Mo_reads_206  : Nat → Int → Int → h_M → Option (Int × h_M)
  | 0 => fun _ _ _ => none
  | n + 1 => GL_Mo_reads_206 (GO_Mo_reads_206 n)
def G_Mo_reads (v1 : Int) (m0 : h_M) : Option (Int × h_M) :=
  p_bi (wm m0 178 0 0) fun m1 =>
  q_bd (G_Mo_asked v1 0 m1) fun r5 m6 =>
  if r5 ≠ 65 then
    if r5 = 66 then
      GO_Mo_reads_206 3000 v1 1 m6
    else
      some (0, m6)
  else
    GO_Mo_reads_20 3000 v1 1 m6
set_option maxRecDepth 100000 in
set_option maxHeartbeats 4000000 in
theorem uL_Mo_reads_20 (c : h_C) (j20 : Nat → Int → Int → p_Hp → Option (Int × p_Hp)) (k20 : Int → Int → h_M → Option (Int × h_M)) (hk20 : ∀ (v1 : Int) (v3 : Int) (m0 : h_M) (r : (Int × h_M)), k20 v1 v3 m0 = some r → j20 1125 v1 v3 (h_H c m0) = some (r.1, (h_H c r.2))) (v1 : Int) (v3 : Int) (m0 : h_M) (r : (Int × h_M)) (h : GL_Mo_reads_20 k20 v1 v3 m0 = some r) : L_Mo_reads_20 j20 1125 v1 v3 (h_H c m0) = some (r.1, (h_H c r.2)) := by
  unfold GL_Mo_reads_20 at h
  unfold L_Mo_reads_20
  refine iteC Iff.rfl h (fun b1 h => ?_) (fun b1 h => ?_)
  · refine gdT (miS c m0) ?_
    try rw [mr79 c m0]
    refine gdT (miA c m0 e79) ?_
    obtain ⟨g2, h⟩ := p_gdE h
    refine gdT ⟨g2.1, by rw [mlA c m0 e79]; exact g2.2⟩ ?_
    try rw [mzA c m0 e79 (1 : Int).toNat]
    try rw [mr79 c m0]
    obtain ⟨g3, h⟩ := p_gdE h
    refine gdT ⟨g3.1, by rw [mlA c m0 e79]; exact g3.2⟩ ?_
    try rw [mzA c m0 e79 (2 : Int).toNat]
    refine bM (ws75 c m0 _) h ?_
    intro m4 h
    try rw [mr79 c m4]
    refine gdT (miA c m4 e79) ?_
    obtain ⟨g6, h⟩ := p_gdE h
    refine gdT ⟨g6.1, by rw [mlA c m4 e79]; exact g6.2⟩ ?_
    try rw [mzA c m4 e79 (3 : Int).toNat]
    try rw [mr79 c m4]
    obtain ⟨g7, h⟩ := p_gdE h
    refine gdT ⟨g7.1, by rw [mlA c m4 e79]; exact g7.2⟩ ?_
    try rw [mzA c m4 e79 (4 : Int).toNat]
    try rw [mr79 c m4]
    obtain ⟨g8, h⟩ := p_gdE h
    refine gdT ⟨g8.1, by rw [mlA c m4 e79]; exact g8.2⟩ ?_
    try rw [mzA c m4 e79 (5 : Int).toNat]
    refine bM (ws76 c m4 _) h ?_
    intro m9 h
    try rw [mr79 c m9]
    refine gdT (miA c m9 e79) ?_
    obtain ⟨g11, h⟩ := p_gdE h
    refine gdT ⟨g11.1, by rw [mlA c m9 e79]; exact g11.2⟩ ?_
    try rw [mzA c m9 e79 (6 : Int).toNat]
    refine bM (ws77 c m9 _) h ?_
    intro m12 h
    try rw [mr79 c m12]
    refine gdT (miA c m12 e79) ?_
    refine gdT ⟨g2.1, by rw [mlA c m12 e79]; exact g2.2⟩ ?_
    try rw [mzA c m12 e79 (1 : Int).toNat]
    try rw [mr79 c m12]
    refine gdT ⟨g3.1, by rw [mlA c m12 e79]; exact g3.2⟩ ?_
    try rw [mzA c m12 e79 (2 : Int).toNat]
    try rw [mr79 c m12]
    refine gdT ⟨g6.1, by rw [mlA c m12 e79]; exact g6.2⟩ ?_
    try rw [mzA c m12 e79 (3 : Int).toNat]
    try rw [mr79 c m12]
    refine gdT ⟨g7.1, by rw [mlA c m12 e79]; exact g7.2⟩ ?_
    try rw [mzA c m12 e79 (4 : Int).toNat]
    try rw [mr79 c m12]
    refine gdT ⟨g8.1, by rw [mlA c m12 e79]; exact g8.2⟩ ?_
    try rw [mzA c m12 e79 (5 : Int).toNat]
    try rw [mr79 c m12]
    refine gdT ⟨g11.1, by rw [mlA c m12 e79]; exact g11.2⟩ ?_
    try rw [mzA c m12 e79 (6 : Int).toNat]
    try rw [mr79 c m12]
    obtain ⟨g14, h⟩ := p_gdE h
    refine gdT ⟨g14.1, by rw [mlA c m12 e79]; exact g14.2⟩ ?_
    try rw [mzA c m12 e79 (7 : Int).toNat]
    refine iteC Iff.rfl h (fun b15 h => ?_) (fun b15 h => ?_)
    · cases h
      rfl
    · cases h
      rfl
  · refine gdT (miS c m0) ?_
    obtain ⟨r18, m19, q16, h⟩ := q_bdE h
    refine bdC (u_Mo_asked c v1 v3 m0 _ q16) ?_
    refine iteC Iff.rfl h (fun b21 h => ?_) (fun b21 h => ?_)
    · cases h
      rfl
    · refine iteC Iff.rfl h (fun b22 h => ?_) (fun b22 h => ?_)
      · try rw [mr79 c m19]
        refine gdT (miA c m19 e79) ?_
        obtain ⟨g23, h⟩ := p_gdE h
        refine gdT ⟨g23.1, by rw [mlA c m19 e79]; exact g23.2⟩ ?_
        refine bM (mwA c m19 e79 _ _) h ?_
        intro m24 h
        refine bV h ?_
        intro x26 h
        exact hk20 v1 x26 m24 _ h
      · cases h
        rfl
set_option maxRecDepth 100000 in
set_option maxHeartbeats 4000000 in
theorem uO_Mo_reads_20 (c : h_C)  : ∀ (n : Nat) (v1 : Int) (v3 : Int) (m0 : h_M) (r : (Int × h_M)), GO_Mo_reads_20 n v1 v3 m0 = some r → O_Mo_reads_20 n 1125 v1 v3 (h_H c m0) = some (r.1, (h_H c r.2)) := by
  intro n
  induction n with
  | zero => intro v1 v3 m0 r h; cases h
  | succ n ih => intro v1 v3 m0 r h; exact uL_Mo_reads_20 c (O_Mo_reads_20 n) (GO_Mo_reads_20 n) ih v1 v3 m0 r h
set_option maxRecDepth 100000 in
set_option maxHeartbeats 4000000 in
theorem uL_Mo_reads_206 (c : h_C) (j206 : Nat → Int → Int → p_Hp → Option (Int × p_Hp)) (k206 : Int → Int → h_M → Option (Int × h_M)) (hk206 : ∀ (v1 : Int) (v3 : Int) (m0 : h_M) (r : (Int × h_M)), k206 v1 v3 m0 = some r → j206 1125 v1 v3 (h_H c m0) = some (r.1, (h_H c r.2))) (v1 : Int) (v3 : Int) (m0 : h_M) (r : (Int × h_M)) (h : GL_Mo_reads_206 k206 v1 v3 m0 = some r) : L_Mo_reads_206 j206 1125 v1 v3 (h_H c m0) = some (r.1, (h_H c r.2)) := by
  unfold GL_Mo_reads_206 at h
  unfold L_Mo_reads_206
  refine iteC Iff.rfl h (fun b1 h => ?_) (fun b1 h => ?_)
  · refine gdT (miS c m0) ?_
    try rw [mr79 c m0]
    refine gdT (miA c m0 e79) ?_
    obtain ⟨g2, h⟩ := p_gdE h
    refine gdT ⟨g2.1, by rw [mlA c m0 e79]; exact g2.2⟩ ?_
    try rw [mzA c m0 e79 (1 : Int).toNat]
    refine bM (ws75 c m0 _) h ?_
    intro m3 h
    try rw [mr79 c m3]
    refine gdT (miA c m3 e79) ?_
    obtain ⟨g5, h⟩ := p_gdE h
    refine gdT ⟨g5.1, by rw [mlA c m3 e79]; exact g5.2⟩ ?_
    try rw [mzA c m3 e79 (2 : Int).toNat]
    try rw [mr79 c m3]
    obtain ⟨g6, h⟩ := p_gdE h
    refine gdT ⟨g6.1, by rw [mlA c m3 e79]; exact g6.2⟩ ?_
    try rw [mzA c m3 e79 (3 : Int).toNat]
    refine bM (ws76 c m3 _) h ?_
    intro m7 h
    try rw [mr79 c m7]
    refine gdT (miA c m7 e79) ?_
    obtain ⟨g9, h⟩ := p_gdE h
    refine gdT ⟨g9.1, by rw [mlA c m7 e79]; exact g9.2⟩ ?_
    try rw [mzA c m7 e79 (4 : Int).toNat]
    refine bM (ws77 c m7 _) h ?_
    intro m10 h
    try rw [mr79 c m10]
    refine gdT (miA c m10 e79) ?_
    obtain ⟨g12, h⟩ := p_gdE h
    refine gdT ⟨g12.1, by rw [mlA c m10 e79]; exact g12.2⟩ ?_
    try rw [mzA c m10 e79 (5 : Int).toNat]
    try rw [mr79 c m10]
    refine gdT ⟨g2.1, by rw [mlA c m10 e79]; exact g2.2⟩ ?_
    try rw [mzA c m10 e79 (1 : Int).toNat]
    try rw [mr79 c m10]
    refine gdT ⟨g5.1, by rw [mlA c m10 e79]; exact g5.2⟩ ?_
    try rw [mzA c m10 e79 (2 : Int).toNat]
    try rw [mr79 c m10]
    refine gdT ⟨g6.1, by rw [mlA c m10 e79]; exact g6.2⟩ ?_
    try rw [mzA c m10 e79 (3 : Int).toNat]
    try rw [mr79 c m10]
    refine gdT ⟨g9.1, by rw [mlA c m10 e79]; exact g9.2⟩ ?_
    try rw [mzA c m10 e79 (4 : Int).toNat]
    refine iteC Iff.rfl h (fun b13 h => ?_) (fun b13 h => ?_)
    · cases h
      rfl
    · cases h
      rfl
  · refine gdT (miS c m0) ?_
    try rw [mr79 c m0]
    obtain ⟨r16, m17, q14, h⟩ := q_bdE h
    refine bdC (u_Mo_asked c v1 v3 m0 _ q14) ?_
    refine gdT (miA c m17 e79) ?_
    obtain ⟨g19, h⟩ := p_gdE h
    refine gdT ⟨g19.1, by rw [mlA c m17 e79]; exact g19.2⟩ ?_
    refine bM (mwA c m17 e79 _ _) h ?_
    intro m20 h
    try rw [mr79 c m20]
    refine gdT (miA c m20 e79) ?_
    refine gdT ⟨g19.1, by rw [mlA c m20 e79]; exact g19.2⟩ ?_
    try rw [mzA c m20 e79 (v3 : Int).toNat]
    refine iteC Iff.rfl h (fun b22 h => ?_) (fun b22 h => ?_)
    · refine bV h ?_
      intro x23 h
      exact hk206 v1 x23 m20 _ h
    · cases h
      rfl
set_option maxRecDepth 100000 in
set_option maxHeartbeats 4000000 in
theorem uO_Mo_reads_206 (c : h_C)  : ∀ (n : Nat) (v1 : Int) (v3 : Int) (m0 : h_M) (r : (Int × h_M)), GO_Mo_reads_206 n v1 v3 m0 = some r → O_Mo_reads_206 n 1125 v1 v3 (h_H c m0) = some (r.1, (h_H c r.2)) := by
  intro n
  induction n with
  | zero => intro v1 v3 m0 r h; cases h
  | succ n ih => intro v1 v3 m0 r h; exact uL_Mo_reads_206 c (O_Mo_reads_206 n) (GO_Mo_reads_206 n) ih v1 v3 m0 r h
set_option maxRecDepth 100000 in
set_option maxHeartbeats 4000000 in
theorem u_Mo_reads (c : h_C) (v1 : Int) (m0 : h_M) (r : (Int × h_M)) (h : G_Mo_reads v1 m0 = some r) : F_Mo_reads 1125 v1 (h_H c m0) = some (r.1, (h_H c r.2)) := by
  unfold G_Mo_reads at h
  unfold F_Mo_reads
  refine gdT (miS c m0) ?_
  refine bM (ws78 c m0 _) h ?_
  intro m1 h
  obtain ⟨r5, m6, q3, h⟩ := q_bdE h
  refine bdC (u_Mo_asked c v1 0 m1 _ q3) ?_
  refine iteC Iff.rfl h (fun b8 h => ?_) (fun b8 h => ?_)
  · refine iteC Iff.rfl h (fun b9 h => ?_) (fun b9 h => ?_)
    · exact uO_Mo_reads_206 c 3000 v1 1 m6 _ h
    · cases h
      rfl
  · exact uO_Mo_reads_20 c 3000 v1 1 m6 _ h
def GB_Mo_scans_52  (v1 : Int) (m0 : h_M) : Option (Int × h_M) :=
  p_gd ((0 : Int) ≤ v1 ∧ v1 < (2001 : Int)) <|
  p_bi (wm m0 30 (v1 : Int).toNat (-8)) fun m2 =>
  if (m2 178 0) ≤ 0 then
    some (0, m2)
  else
    some (1, m2)
def GL_Mo_scans_84 (k84 : Int → Int → h_M → Option (Int × h_M)) (v1 : Int) (v4 : Int) (m0 : h_M) : Option (Int × h_M) :=
  p_gd ((0 : Int) ≤ (m0 100 0) ∧ (m0 100 0) < (3 : Int)) <|
  if (m0 48 ((m0 100 0) : Int).toNat) ≤ v4 then
    some (0, m0)
  else
    q_bd (G_Mo_holds v4 m0) fun r5 m6 =>
    if r5 = 0 then
      p_bi (p_w (v4 + 1)) fun x9 =>
      k84 v1 x9 m6
    else
      p_gd ((0 : Int) ≤ (p_w ((p_w (12 * (m6 100 0))) + v4)) ∧ (p_w ((p_w (12 * (m6 100 0))) + v4)) < (36 : Int)) <|
      p_gd ((0 : Int) ≤ v1 ∧ v1 < (2001 : Int)) <|
      p_bi (wm m6 30 (v1 : Int).toNat (m6 49 ((p_w ((p_w (12 * (m6 100 0))) + v4)) : Int).toNat)) fun m13 =>
      p_gd ((0 : Int) ≤ (p_w ((p_w (12 * (m13 100 0))) + v4)) ∧ (p_w ((p_w (12 * (m13 100 0))) + v4)) < (36 : Int)) <|
      p_bi (wm m13 51 ((p_w ((p_w (12 * (m13 100 0))) + v4)) : Int).toNat (p_w ((m13 51 ((p_w ((p_w (12 * (m13 100 0))) + v4)) : Int).toNat) + 1))) fun m16 =>
      some (0, m16)
def GO_Mo_scans_84  : Nat → Int → Int → h_M → Option (Int × h_M)
  | 0 => fun _ _ _ => none
  | n + 1 => GL_Mo_scans_84 (GO_Mo_scans_84 n)
def GB_Mo_scans_73  (v1 : Int) (m0 : h_M) : Option (Int × h_M) :=
  p_gd ((0 : Int) ≤ v1 ∧ v1 < (2001 : Int)) <|
  p_bi (wm m0 30 (v1 : Int).toNat (-9)) fun m2 =>
  GO_Mo_scans_84 3000 v1 0 m2
def GB_Mo_scans_30  (v1 : Int) (v2 : Int) (v3 : Int) (m0 : h_M) : Option (Int × h_M) :=
  if v3 = 0 then
    GB_Mo_scans_52 v1 m0
  else
    if v2 ≠ 4 then
      GB_Mo_scans_73 v1 m0
    else
      p_gd ((0 : Int) ≤ v1 ∧ v1 < (2001 : Int)) <|
      if (m0 176 0) = (m0 28 (v1 : Int).toNat) then
        GB_Mo_scans_73 v1 m0
      else
        GB_Mo_scans_52 v1 m0
def G_Mo_scans (v1 : Int) (v2 : Int) (m0 : h_M) : Option (Int × h_M) :=
  p_gd ((0 : Int) ≤ v1 ∧ v1 < (2001 : Int)) <|
  p_bi (wm m0 35 (v1 : Int).toNat 1) fun m2 =>
  q_bd (G_Mo_reads v1 m2) fun r6 m7 =>
  if (m7 178 0) ≤ 0 then
    GB_Mo_scans_30 v1 v2 r6 m7
  else
    q_bv (G_Mo_find 2 (m7 178 0) v1 m7) fun m12 =>
    GB_Mo_scans_30 v1 v2 r6 m12
set_option maxRecDepth 100000 in
set_option maxHeartbeats 4000000 in
theorem uB_Mo_scans_52 (c : h_C)  (v1 : Int) (m0 : h_M) (r : (Int × h_M)) (h : GB_Mo_scans_52 v1 m0 = some r) : B_Mo_scans_52 1125 v1 (h_H c m0) = some (r.1, (h_H c r.2)) := by
  unfold GB_Mo_scans_52 at h
  unfold B_Mo_scans_52
  refine gdT (miS c m0) ?_
  try rw [mr30 c m0]
  refine gdT (miA c m0 e30) ?_
  obtain ⟨g1, h⟩ := p_gdE h
  refine gdT ⟨g1.1, by rw [mlA c m0 e30]; exact g1.2⟩ ?_
  refine bM (mwA c m0 e30 _ _) h ?_
  intro m2 h
  try rw [zs78 c m2]
  refine iteC Iff.rfl h (fun b4 h => ?_) (fun b4 h => ?_)
  · cases h
    rfl
  · cases h
    rfl
set_option maxRecDepth 100000 in
set_option maxHeartbeats 4000000 in
theorem uL_Mo_scans_84 (c : h_C) (j84 : Nat → Int → Int → p_Hp → Option (Int × p_Hp)) (k84 : Int → Int → h_M → Option (Int × h_M)) (hk84 : ∀ (v1 : Int) (v4 : Int) (m0 : h_M) (r : (Int × h_M)), k84 v1 v4 m0 = some r → j84 1125 v1 v4 (h_H c m0) = some (r.1, (h_H c r.2))) (v1 : Int) (v4 : Int) (m0 : h_M) (r : (Int × h_M)) (h : GL_Mo_scans_84 k84 v1 v4 m0 = some r) : L_Mo_scans_84 j84 1125 v1 v4 (h_H c m0) = some (r.1, (h_H c r.2)) := by
  unfold GL_Mo_scans_84 at h
  unfold L_Mo_scans_84
  refine gdT (miS c m0) ?_
  try rw [mr48 c m0]
  try rw [zs0 c m0]
  refine gdT (miA c m0 e48) ?_
  obtain ⟨g1, h⟩ := p_gdE h
  refine gdT ⟨g1.1, by rw [mlA c m0 e48]; exact g1.2⟩ ?_
  try rw [mzA c m0 e48 ((m0 100 0) : Int).toNat]
  refine iteC Iff.rfl h (fun b2 h => ?_) (fun b2 h => ?_)
  · cases h
    rfl
  · obtain ⟨r5, m6, q3, h⟩ := q_bdE h
    refine bdC (u_Mo_holds c v4 m0 _ q3) ?_
    refine iteC Iff.rfl h (fun b8 h => ?_) (fun b8 h => ?_)
    · refine bV h ?_
      intro x9 h
      exact hk84 v1 x9 m6 _ h
    · try rw [mr30 c m6]
      try rw [mr49 c m6]
      try rw [zs0 c m6]
      refine gdT (miA c m6 e49) ?_
      obtain ⟨g11, h⟩ := p_gdE h
      refine gdT ⟨g11.1, by rw [mlA c m6 e49]; exact g11.2⟩ ?_
      try rw [mzA c m6 e49 ((p_w ((p_w (12 * (m6 100 0))) + v4)) : Int).toNat]
      refine gdT (miA c m6 e30) ?_
      obtain ⟨g12, h⟩ := p_gdE h
      refine gdT ⟨g12.1, by rw [mlA c m6 e30]; exact g12.2⟩ ?_
      refine bM (mwA c m6 e30 _ _) h ?_
      intro m13 h
      try rw [mr51 c m13]
      try rw [zs0 c m13]
      refine gdT (miA c m13 e51) ?_
      obtain ⟨g15, h⟩ := p_gdE h
      refine gdT ⟨g15.1, by rw [mlA c m13 e51]; exact g15.2⟩ ?_
      try rw [mzA c m13 e51 ((p_w ((p_w (12 * (m13 100 0))) + v4)) : Int).toNat]
      refine gdT ⟨g15.1, by rw [mlA c m13 e51]; exact g15.2⟩ ?_
      refine bM (mwA c m13 e51 _ _) h ?_
      intro m16 h
      cases h
      rfl
set_option maxRecDepth 100000 in
set_option maxHeartbeats 4000000 in
theorem uO_Mo_scans_84 (c : h_C)  : ∀ (n : Nat) (v1 : Int) (v4 : Int) (m0 : h_M) (r : (Int × h_M)), GO_Mo_scans_84 n v1 v4 m0 = some r → O_Mo_scans_84 n 1125 v1 v4 (h_H c m0) = some (r.1, (h_H c r.2)) := by
  intro n
  induction n with
  | zero => intro v1 v4 m0 r h; cases h
  | succ n ih => intro v1 v4 m0 r h; exact uL_Mo_scans_84 c (O_Mo_scans_84 n) (GO_Mo_scans_84 n) ih v1 v4 m0 r h
set_option maxRecDepth 100000 in
set_option maxHeartbeats 4000000 in
theorem uB_Mo_scans_73 (c : h_C)  (v1 : Int) (m0 : h_M) (r : (Int × h_M)) (h : GB_Mo_scans_73 v1 m0 = some r) : B_Mo_scans_73 1125 v1 (h_H c m0) = some (r.1, (h_H c r.2)) := by
  unfold GB_Mo_scans_73 at h
  unfold B_Mo_scans_73
  refine gdT (miS c m0) ?_
  try rw [mr30 c m0]
  refine gdT (miA c m0 e30) ?_
  obtain ⟨g1, h⟩ := p_gdE h
  refine gdT ⟨g1.1, by rw [mlA c m0 e30]; exact g1.2⟩ ?_
  refine bM (mwA c m0 e30 _ _) h ?_
  intro m2 h
  exact uO_Mo_scans_84 c 3000 v1 0 m2 _ h
set_option maxRecDepth 100000 in
set_option maxHeartbeats 4000000 in
theorem uB_Mo_scans_30 (c : h_C)  (v1 : Int) (v2 : Int) (v3 : Int) (m0 : h_M) (r : (Int × h_M)) (h : GB_Mo_scans_30 v1 v2 v3 m0 = some r) : B_Mo_scans_30 1125 v1 v2 v3 (h_H c m0) = some (r.1, (h_H c r.2)) := by
  unfold GB_Mo_scans_30 at h
  unfold B_Mo_scans_30
  refine iteC Iff.rfl h (fun b1 h => ?_) (fun b1 h => ?_)
  · exact uB_Mo_scans_52 c v1 m0 _ h
  · refine iteC Iff.rfl h (fun b2 h => ?_) (fun b2 h => ?_)
    · exact uB_Mo_scans_73 c v1 m0 _ h
    · refine gdT (miS c m0) ?_
      try rw [zs76 c m0]
      try rw [mr28 c m0]
      refine gdT (miA c m0 e28) ?_
      obtain ⟨g3, h⟩ := p_gdE h
      refine gdT ⟨g3.1, by rw [mlA c m0 e28]; exact g3.2⟩ ?_
      try rw [mzA c m0 e28 (v1 : Int).toNat]
      refine iteC Iff.rfl h (fun b4 h => ?_) (fun b4 h => ?_)
      · exact uB_Mo_scans_73 c v1 m0 _ h
      · exact uB_Mo_scans_52 c v1 m0 _ h
set_option maxRecDepth 100000 in
set_option maxHeartbeats 4000000 in
theorem u_Mo_scans (c : h_C) (v1 : Int) (v2 : Int) (m0 : h_M) (r : (Int × h_M)) (h : G_Mo_scans v1 v2 m0 = some r) : F_Mo_scans 1125 v1 v2 (h_H c m0) = some (r.1, (h_H c r.2)) := by
  unfold G_Mo_scans at h
  unfold F_Mo_scans
  refine gdT (miS c m0) ?_
  try rw [mr35 c m0]
  refine gdT (miA c m0 e35) ?_
  obtain ⟨g1, h⟩ := p_gdE h
  refine gdT ⟨g1.1, by rw [mlA c m0 e35]; exact g1.2⟩ ?_
  refine bM (mwA c m0 e35 _ _) h ?_
  intro m2 h
  obtain ⟨r6, m7, q4, h⟩ := q_bdE h
  refine bdC (u_Mo_reads c v1 m2 _ q4) ?_
  try rw [zs78 c m7]
  refine iteC Iff.rfl h (fun b9 h => ?_) (fun b9 h => ?_)
  · exact uB_Mo_scans_30 c v1 v2 r6 m7 _ h
  · try rw [zs78 c m7]
    obtain ⟨m12, q10, h⟩ := q_bvE h
    refine bvC (u_Mo_find c 2 (m7 178 0) v1 m7 _ q10) ?_
    exact uB_Mo_scans_30 c v1 v2 r6 m12 _ h
def GB_Mo_actTaker_323 (k224 : Int → Int → h_M → Option h_M) (v2 : Int) (v9 : Int) (m0 : h_M) : Option h_M :=
  p_bi (p_w (v9 + (-1))) fun x1 =>
  k224 v2 x1 m0
def GL_Mo_actTaker_224 (k224 : Int → Int → h_M → Option h_M) (v2 : Int) (v9 : Int) (m0 : h_M) : Option h_M :=
  if v9 < 0 then
    some m0
  else
    p_gd ((0 : Int) ≤ (p_w ((p_w (8 * v2)) + v9)) ∧ (p_w ((p_w (8 * v2)) + v9)) < (960 : Int)) <|
    p_bi ((m0 22 ((p_w ((p_w (8 * v2)) + v9)) : Int).toNat)) fun x4 =>
    if x4 ≤ 0 then
      GB_Mo_actTaker_323 k224 v2 v9 m0
    else
      p_gd ((0 : Int) ≤ x4 ∧ x4 < (2001 : Int)) <|
      if (m0 36 (x4 : Int).toNat) ≠ 0 then
        GB_Mo_actTaker_323 k224 v2 v9 m0
      else
        p_gd ((0 : Int) ≤ (p_w ((p_w ((p_w (8 * v2)) + v9)) + 1)) ∧ (p_w ((p_w ((p_w (8 * v2)) + v9)) + 1)) < (960 : Int)) <|
        if (m0 22 ((p_w ((p_w ((p_w (8 * v2)) + v9)) + 1)) : Int).toNat) ≠ 0 then
          GB_Mo_actTaker_323 k224 v2 v9 m0
        else
          p_bi (wm m0 22 ((p_w ((p_w ((p_w (8 * v2)) + v9)) + 1)) : Int).toNat x4) fun m10 =>
          p_bi (wm m10 22 ((p_w ((p_w (8 * v2)) + v9)) : Int).toNat 0) fun m12 =>
          p_bi (wm m12 27 (x4 : Int).toNat (p_w (v9 + 1))) fun m14 =>
          p_bi (wm m14 36 (x4 : Int).toNat 1) fun m16 =>
          GB_Mo_actTaker_323 k224 v2 v9 m16
def GO_Mo_actTaker_224  : Nat → Int → Int → h_M → Option h_M
  | 0 => fun _ _ _ => none
  | n + 1 => GL_Mo_actTaker_224 (GO_Mo_actTaker_224 n)
def GB_Mo_actTaker_213  (v2 : Int) (w0 : Int) (w1 : Int) (m0 : h_M) : Option h_M :=
  p_gd ((0 : Int) ≤ w1 ∧ w1 < (120 : Int)) <|
  p_bi (wm m0 16 (w1 : Int).toNat w0) fun m2 =>
  p_gd ((0 : Int) ≤ v2 ∧ v2 < (120 : Int)) <|
  p_bi ((p_w ((m2 6 (v2 : Int).toNat) - 2))) fun x6 =>
  GO_Mo_actTaker_224 3000 v2 x6 m2
def GB_Mo_actTaker_201  (v2 : Int) (w0 : Int) (m0 : h_M) : Option h_M :=
  GB_Mo_actTaker_213 v2 0 w0 m0
def GB_Mo_actTaker_186  (v2 : Int) (v6 : Int) (v8 : Int) (m0 : h_M) : Option h_M :=
  if v6 = 0 then
    GB_Mo_actTaker_201 v2 v2 m0
  else
    if v8 = 0 then
      p_gd ((0 : Int) ≤ v2 ∧ v2 < (120 : Int)) <|
      GB_Mo_actTaker_213 v2 (p_w ((m0 16 (v2 : Int).toNat) + 1)) v2 m0
    else
      GB_Mo_actTaker_201 v2 v2 m0
def GB_Mo_actTaker_184  (v2 : Int) (v6 : Int) (v8 : Int) (w0 : Int) (w1 : Int) (w2 : Int) (m0 : h_M) : Option h_M :=
  p_gd ((0 : Int) ≤ w2 ∧ w2 < (120 : Int)) <|
  p_bi (wm m0 13 (w2 : Int).toNat (p_w (w1 - w0))) fun m2 =>
  GB_Mo_actTaker_186 v2 v6 v8 m2
def GB_Mo_actTaker_183  (v2 : Int) (v6 : Int) (v8 : Int) (w0 : Int) (w1 : Int) (m0 : h_M) : Option h_M :=
  GB_Mo_actTaker_184 v2 v6 v8 0 w0 w1 m0
def GB_Mo_actTaker_152  (v1 : Int) (v2 : Int) (v3 : Int) (v5 : Int) (v6 : Int) (m0 : h_M) : Option h_M :=
  q_bd (G_Mo_gives v1 v5 m0) fun r3 m4 =>
  p_gd ((0 : Int) ≤ v2 ∧ v2 < (120 : Int)) <|
  if v3 ≠ 8 then
    GB_Mo_actTaker_183 v2 v6 r3 (m4 13 (v2 : Int).toNat) v2 m4
  else
    if r3 = 0 then
      GB_Mo_actTaker_183 v2 v6 r3 (m4 13 (v2 : Int).toNat) v2 m4
    else
      GB_Mo_actTaker_184 v2 v6 r3 1 (m4 13 (v2 : Int).toNat) v2 m4
def GB_Mo_actTaker_101  (v1 : Int) (v2 : Int) (v3 : Int) (v5 : Int) (v6 : Int) (v7 : Int) (m0 : h_M) : Option h_M :=
  q_bv (G_Mo_bodiesLast v3 m0) fun m3 =>
  if v6 = 0 then
    GB_Mo_actTaker_186 v2 v6 0 m3
  else
    if v7 ≠ 0 then
      GB_Mo_actTaker_186 v2 v6 0 m3
    else
      if v3 ≠ 7 then
        if v3 ≠ 8 then
          GB_Mo_actTaker_152 v1 v2 v3 v5 v6 m3
        else
          p_gd ((0 : Int) ≤ v2 ∧ v2 < (120 : Int)) <|
          if (m3 13 (v2 : Int).toNat) ≤ 0 then
            GB_Mo_actTaker_186 v2 v6 0 m3
          else
            GB_Mo_actTaker_152 v1 v2 v3 v5 v6 m3
      else
        q_bd (G_Mo_givesOut v1 v5 m3) fun r12 m13 =>
        GB_Mo_actTaker_186 v2 v6 r12 m13
def GB_Mo_actTaker_82  (v1 : Int) (v2 : Int) (v3 : Int) (v5 : Int) (v6 : Int) (v7 : Int) (m0 : h_M) : Option h_M :=
  p_gd ((0 : Int) ≤ v5 ∧ v5 < (2001 : Int)) <|
  if (m0 35 (v5 : Int).toNat) ≠ 0 then
    GB_Mo_actTaker_101 v1 v2 v3 v5 v6 v7 m0
  else
    q_bd (G_Mo_scans v5 v3 m0) fun r5 m6 =>
    GB_Mo_actTaker_101 v1 v2 v3 v5 v6 r5 m6
def GB_Mo_actTaker_57  (v1 : Int) (v2 : Int) (v3 : Int) (v5 : Int) (w0 : Int) (m0 : h_M) : Option h_M :=
  q_bv (G_Mo_bodies v3 m0) fun m3 =>
  if w0 = 0 then
    GB_Mo_actTaker_101 v1 v2 v3 v5 w0 0 m3
  else
    if v3 = 3 then
      GB_Mo_actTaker_82 v1 v2 v3 v5 w0 0 m3
    else
      if v3 ≠ 4 then
        GB_Mo_actTaker_101 v1 v2 v3 v5 w0 0 m3
      else
        GB_Mo_actTaker_82 v1 v2 v3 v5 w0 0 m3
def GB_Mo_actTaker_56  (v1 : Int) (v2 : Int) (v3 : Int) (v5 : Int) (m0 : h_M) : Option h_M :=
  GB_Mo_actTaker_57 v1 v2 v3 v5 0 m0
def G_Mo_actTaker (v1 : Int) (m0 : h_M) : Option h_M :=
  q_bv (G_Mo_g v1 m0) fun r3 =>
  p_gd ((0 : Int) ≤ r3 ∧ r3 < (120 : Int)) <|
  p_bi ((m0 5 (r3 : Int).toNat)) fun x7 =>
  p_bi ((p_w ((p_w ((p_w (8 * r3)) + (m0 6 (r3 : Int).toNat))) - 1))) fun x9 =>
  p_gd ((0 : Int) ≤ x9 ∧ x9 < (960 : Int)) <|
  p_bi ((m0 22 (x9 : Int).toNat)) fun x12 =>
  if x12 ≤ 0 then
    GB_Mo_actTaker_56 v1 r3 x7 x12 m0
  else
    p_gd ((0 : Int) ≤ x12 ∧ x12 < (2001 : Int)) <|
    if (m0 36 (x12 : Int).toNat) ≠ 0 then
      GB_Mo_actTaker_56 v1 r3 x7 x12 m0
    else
      GB_Mo_actTaker_57 v1 r3 x7 x12 1 m0
set_option maxRecDepth 100000 in
set_option maxHeartbeats 4000000 in
theorem uB_Mo_actTaker_323 (c : h_C) (j224 : Nat → Int → Int → p_Hp → Option p_Hp) (k224 : Int → Int → h_M → Option h_M) (hk224 : ∀ (v2 : Int) (v9 : Int) (m0 : h_M) (r : h_M), k224 v2 v9 m0 = some r → j224 1125 v2 v9 (h_H c m0) = some (h_H c r)) (v2 : Int) (v9 : Int) (m0 : h_M) (r : h_M) (h : GB_Mo_actTaker_323 k224 v2 v9 m0 = some r) : B_Mo_actTaker_323 j224 1125 v2 v9 (h_H c m0) = some (h_H c r) := by
  unfold GB_Mo_actTaker_323 at h
  unfold B_Mo_actTaker_323
  refine bV h ?_
  intro x1 h
  exact hk224 v2 x1 m0 _ h
set_option maxRecDepth 100000 in
set_option maxHeartbeats 4000000 in
theorem uL_Mo_actTaker_224 (c : h_C) (j224 : Nat → Int → Int → p_Hp → Option p_Hp) (k224 : Int → Int → h_M → Option h_M) (hk224 : ∀ (v2 : Int) (v9 : Int) (m0 : h_M) (r : h_M), k224 v2 v9 m0 = some r → j224 1125 v2 v9 (h_H c m0) = some (h_H c r)) (v2 : Int) (v9 : Int) (m0 : h_M) (r : h_M) (h : GL_Mo_actTaker_224 k224 v2 v9 m0 = some r) : L_Mo_actTaker_224 j224 1125 v2 v9 (h_H c m0) = some (h_H c r) := by
  unfold GL_Mo_actTaker_224 at h
  unfold L_Mo_actTaker_224
  refine iteC Iff.rfl h (fun b1 h => ?_) (fun b1 h => ?_)
  · cases h
    rfl
  · refine gdT (miS c m0) ?_
    try rw [mr22 c m0]
    refine gdT (miA c m0 e22) ?_
    obtain ⟨g2, h⟩ := p_gdE h
    refine gdT ⟨g2.1, by rw [mlA c m0 e22]; exact g2.2⟩ ?_
    try rw [mzA c m0 e22 ((p_w ((p_w (8 * v2)) + v9)) : Int).toNat]
    refine bV h ?_
    intro x4 h
    refine iteC Iff.rfl h (fun b5 h => ?_) (fun b5 h => ?_)
    · exact uB_Mo_actTaker_323 c j224 k224 hk224 v2 v9 m0 _ h
    · try rw [mr36 c m0]
      refine gdT (miA c m0 e36) ?_
      obtain ⟨g6, h⟩ := p_gdE h
      refine gdT ⟨g6.1, by rw [mlA c m0 e36]; exact g6.2⟩ ?_
      try rw [mzA c m0 e36 (x4 : Int).toNat]
      refine iteC Iff.rfl h (fun b7 h => ?_) (fun b7 h => ?_)
      · exact uB_Mo_actTaker_323 c j224 k224 hk224 v2 v9 m0 _ h
      · try rw [mr22 c m0]
        obtain ⟨g8, h⟩ := p_gdE h
        refine gdT ⟨g8.1, by rw [mlA c m0 e22]; exact g8.2⟩ ?_
        try rw [mzA c m0 e22 ((p_w ((p_w ((p_w (8 * v2)) + v9)) + 1)) : Int).toNat]
        refine iteC Iff.rfl h (fun b9 h => ?_) (fun b9 h => ?_)
        · exact uB_Mo_actTaker_323 c j224 k224 hk224 v2 v9 m0 _ h
        · try rw [mr22 c m0]
          refine gdT ⟨g8.1, by rw [mlA c m0 e22]; exact g8.2⟩ ?_
          refine bM (mwA c m0 e22 _ _) h ?_
          intro m10 h
          try rw [mr22 c m10]
          refine gdT (miA c m10 e22) ?_
          refine gdT ⟨g2.1, by rw [mlA c m10 e22]; exact g2.2⟩ ?_
          refine bM (mwA c m10 e22 _ _) h ?_
          intro m12 h
          try rw [mr27 c m12]
          refine gdT (miA c m12 e27) ?_
          refine gdT ⟨g6.1, by rw [mlA c m12 e27]; exact g6.2⟩ ?_
          refine bM (mwA c m12 e27 _ _) h ?_
          intro m14 h
          try rw [mr36 c m14]
          refine gdT (miA c m14 e36) ?_
          refine gdT ⟨g6.1, by rw [mlA c m14 e36]; exact g6.2⟩ ?_
          refine bM (mwA c m14 e36 _ _) h ?_
          intro m16 h
          exact uB_Mo_actTaker_323 c j224 k224 hk224 v2 v9 m16 _ h
set_option maxRecDepth 100000 in
set_option maxHeartbeats 4000000 in
theorem uO_Mo_actTaker_224 (c : h_C)  : ∀ (n : Nat) (v2 : Int) (v9 : Int) (m0 : h_M) (r : h_M), GO_Mo_actTaker_224 n v2 v9 m0 = some r → O_Mo_actTaker_224 n 1125 v2 v9 (h_H c m0) = some (h_H c r) := by
  intro n
  induction n with
  | zero => intro v2 v9 m0 r h; cases h
  | succ n ih => intro v2 v9 m0 r h; exact uL_Mo_actTaker_224 c (O_Mo_actTaker_224 n) (GO_Mo_actTaker_224 n) ih v2 v9 m0 r h
set_option maxRecDepth 100000 in
set_option maxHeartbeats 4000000 in
theorem uB_Mo_actTaker_213 (c : h_C)  (v2 : Int) (w0 : Int) (w1 : Int) (m0 : h_M) (r : h_M) (h : GB_Mo_actTaker_213 v2 w0 w1 m0 = some r) : B_Mo_actTaker_213 1125 v2 w0 w1 1139 (h_H c m0) = some (h_H c r) := by
  unfold GB_Mo_actTaker_213 at h
  unfold B_Mo_actTaker_213
  refine gdT (miA c m0 e16) ?_
  obtain ⟨g1, h⟩ := p_gdE h
  refine gdT ⟨g1.1, by rw [mlA c m0 e16]; exact g1.2⟩ ?_
  refine bM (mwA c m0 e16 _ _) h ?_
  intro m2 h
  refine gdT (miS c m2) ?_
  try rw [mr6 c m2]
  refine gdT (miA c m2 e6) ?_
  obtain ⟨g4, h⟩ := p_gdE h
  refine gdT ⟨g4.1, by rw [mlA c m2 e6]; exact g4.2⟩ ?_
  try rw [mzA c m2 e6 (v2 : Int).toNat]
  refine bV h ?_
  intro x6 h
  exact uO_Mo_actTaker_224 c 3000 v2 x6 m2 _ h
set_option maxRecDepth 100000 in
set_option maxHeartbeats 4000000 in
theorem uB_Mo_actTaker_201 (c : h_C)  (v2 : Int) (w0 : Int) (m0 : h_M) (r : h_M) (h : GB_Mo_actTaker_201 v2 w0 m0 = some r) : B_Mo_actTaker_201 1125 v2 w0 1139 (h_H c m0) = some (h_H c r) := by
  unfold GB_Mo_actTaker_201 at h
  unfold B_Mo_actTaker_201
  exact uB_Mo_actTaker_213 c v2 0 w0 m0 _ h
set_option maxRecDepth 100000 in
set_option maxHeartbeats 4000000 in
theorem uB_Mo_actTaker_186 (c : h_C)  (v2 : Int) (v6 : Int) (v8 : Int) (m0 : h_M) (r : h_M) (h : GB_Mo_actTaker_186 v2 v6 v8 m0 = some r) : B_Mo_actTaker_186 1125 v2 v6 v8 (h_H c m0) = some (h_H c r) := by
  unfold GB_Mo_actTaker_186 at h
  unfold B_Mo_actTaker_186
  refine gdT (miS c m0) ?_
  try rw [mr16 c m0]
  refine iteC Iff.rfl h (fun b1 h => ?_) (fun b1 h => ?_)
  · exact uB_Mo_actTaker_201 c v2 v2 m0 _ h
  · refine iteC Iff.rfl h (fun b2 h => ?_) (fun b2 h => ?_)
    · try rw [mr16 c m0]
      refine gdT (miA c m0 e16) ?_
      obtain ⟨g3, h⟩ := p_gdE h
      refine gdT ⟨g3.1, by rw [mlA c m0 e16]; exact g3.2⟩ ?_
      try rw [mzA c m0 e16 (v2 : Int).toNat]
      exact uB_Mo_actTaker_213 c v2 (p_w ((m0 16 (v2 : Int).toNat) + 1)) v2 m0 _ h
    · exact uB_Mo_actTaker_201 c v2 v2 m0 _ h
set_option maxRecDepth 100000 in
set_option maxHeartbeats 4000000 in
theorem uB_Mo_actTaker_184 (c : h_C)  (v2 : Int) (v6 : Int) (v8 : Int) (w0 : Int) (w1 : Int) (w2 : Int) (m0 : h_M) (r : h_M) (h : GB_Mo_actTaker_184 v2 v6 v8 w0 w1 w2 m0 = some r) : B_Mo_actTaker_184 1125 v2 v6 v8 w0 w1 w2 1136 (h_H c m0) = some (h_H c r) := by
  unfold GB_Mo_actTaker_184 at h
  unfold B_Mo_actTaker_184
  refine gdT (miA c m0 e13) ?_
  obtain ⟨g1, h⟩ := p_gdE h
  refine gdT ⟨g1.1, by rw [mlA c m0 e13]; exact g1.2⟩ ?_
  refine bM (mwA c m0 e13 _ _) h ?_
  intro m2 h
  exact uB_Mo_actTaker_186 c v2 v6 v8 m2 _ h
set_option maxRecDepth 100000 in
set_option maxHeartbeats 4000000 in
theorem uB_Mo_actTaker_183 (c : h_C)  (v2 : Int) (v6 : Int) (v8 : Int) (w0 : Int) (w1 : Int) (m0 : h_M) (r : h_M) (h : GB_Mo_actTaker_183 v2 v6 v8 w0 w1 m0 = some r) : B_Mo_actTaker_183 1125 v2 v6 v8 w0 w1 1136 (h_H c m0) = some (h_H c r) := by
  unfold GB_Mo_actTaker_183 at h
  unfold B_Mo_actTaker_183
  exact uB_Mo_actTaker_184 c v2 v6 v8 0 w0 w1 m0 _ h
set_option maxRecDepth 100000 in
set_option maxHeartbeats 4000000 in
theorem uB_Mo_actTaker_152 (c : h_C)  (v1 : Int) (v2 : Int) (v3 : Int) (v5 : Int) (v6 : Int) (m0 : h_M) (r : h_M) (h : GB_Mo_actTaker_152 v1 v2 v3 v5 v6 m0 = some r) : B_Mo_actTaker_152 1125 v1 v2 v3 v5 v6 (h_H c m0) = some (h_H c r) := by
  unfold GB_Mo_actTaker_152 at h
  unfold B_Mo_actTaker_152
  refine gdT (miS c m0) ?_
  obtain ⟨r3, m4, q1, h⟩ := q_bdE h
  refine bdC (u_Mo_gives c v1 v5 m0 _ q1) ?_
  try rw [mr13 c m4]
  refine gdT (miA c m4 e13) ?_
  obtain ⟨g6, h⟩ := p_gdE h
  refine gdT ⟨g6.1, by rw [mlA c m4 e13]; exact g6.2⟩ ?_
  try rw [mzA c m4 e13 (v2 : Int).toNat]
  refine iteC Iff.rfl h (fun b7 h => ?_) (fun b7 h => ?_)
  · exact uB_Mo_actTaker_183 c v2 v6 r3 (m4 13 (v2 : Int).toNat) v2 m4 _ h
  · refine iteC Iff.rfl h (fun b8 h => ?_) (fun b8 h => ?_)
    · exact uB_Mo_actTaker_183 c v2 v6 r3 (m4 13 (v2 : Int).toNat) v2 m4 _ h
    · exact uB_Mo_actTaker_184 c v2 v6 r3 1 (m4 13 (v2 : Int).toNat) v2 m4 _ h
set_option maxRecDepth 100000 in
set_option maxHeartbeats 4000000 in
theorem uB_Mo_actTaker_101 (c : h_C)  (v1 : Int) (v2 : Int) (v3 : Int) (v5 : Int) (v6 : Int) (v7 : Int) (m0 : h_M) (r : h_M) (h : GB_Mo_actTaker_101 v1 v2 v3 v5 v6 v7 m0 = some r) : B_Mo_actTaker_101 1125 v1 v2 v3 v5 v6 v7 (h_H c m0) = some (h_H c r) := by
  unfold GB_Mo_actTaker_101 at h
  unfold B_Mo_actTaker_101
  refine gdT (miS c m0) ?_
  obtain ⟨m3, q1, h⟩ := q_bvE h
  refine bvC (u_Mo_bodiesLast c v3 m0 _ q1) ?_
  refine iteC Iff.rfl h (fun b4 h => ?_) (fun b4 h => ?_)
  · exact uB_Mo_actTaker_186 c v2 v6 0 m3 _ h
  · refine iteC Iff.rfl h (fun b5 h => ?_) (fun b5 h => ?_)
    · exact uB_Mo_actTaker_186 c v2 v6 0 m3 _ h
    · refine iteC Iff.rfl h (fun b6 h => ?_) (fun b6 h => ?_)
      · refine iteC Iff.rfl h (fun b7 h => ?_) (fun b7 h => ?_)
        · exact uB_Mo_actTaker_152 c v1 v2 v3 v5 v6 m3 _ h
        · try rw [mr13 c m3]
          refine gdT (miA c m3 e13) ?_
          obtain ⟨g8, h⟩ := p_gdE h
          refine gdT ⟨g8.1, by rw [mlA c m3 e13]; exact g8.2⟩ ?_
          try rw [mzA c m3 e13 (v2 : Int).toNat]
          refine iteC Iff.rfl h (fun b9 h => ?_) (fun b9 h => ?_)
          · exact uB_Mo_actTaker_186 c v2 v6 0 m3 _ h
          · exact uB_Mo_actTaker_152 c v1 v2 v3 v5 v6 m3 _ h
      · obtain ⟨r12, m13, q10, h⟩ := q_bdE h
        refine bdC (u_Mo_givesOut c v1 v5 m3 _ q10) ?_
        exact uB_Mo_actTaker_186 c v2 v6 r12 m13 _ h
set_option maxRecDepth 100000 in
set_option maxHeartbeats 4000000 in
theorem uB_Mo_actTaker_82 (c : h_C)  (v1 : Int) (v2 : Int) (v3 : Int) (v5 : Int) (v6 : Int) (v7 : Int) (m0 : h_M) (r : h_M) (h : GB_Mo_actTaker_82 v1 v2 v3 v5 v6 v7 m0 = some r) : B_Mo_actTaker_82 1125 v1 v2 v3 v5 v6 v7 (h_H c m0) = some (h_H c r) := by
  unfold GB_Mo_actTaker_82 at h
  unfold B_Mo_actTaker_82
  refine gdT (miS c m0) ?_
  try rw [mr35 c m0]
  refine gdT (miA c m0 e35) ?_
  obtain ⟨g1, h⟩ := p_gdE h
  refine gdT ⟨g1.1, by rw [mlA c m0 e35]; exact g1.2⟩ ?_
  try rw [mzA c m0 e35 (v5 : Int).toNat]
  refine iteC Iff.rfl h (fun b2 h => ?_) (fun b2 h => ?_)
  · exact uB_Mo_actTaker_101 c v1 v2 v3 v5 v6 v7 m0 _ h
  · obtain ⟨r5, m6, q3, h⟩ := q_bdE h
    refine bdC (u_Mo_scans c v5 v3 m0 _ q3) ?_
    exact uB_Mo_actTaker_101 c v1 v2 v3 v5 v6 r5 m6 _ h
set_option maxRecDepth 100000 in
set_option maxHeartbeats 4000000 in
theorem uB_Mo_actTaker_57 (c : h_C)  (v1 : Int) (v2 : Int) (v3 : Int) (v5 : Int) (w0 : Int) (m0 : h_M) (r : h_M) (h : GB_Mo_actTaker_57 v1 v2 v3 v5 w0 m0 = some r) : B_Mo_actTaker_57 1125 v1 v2 v3 v5 w0 (h_H c m0) = some (h_H c r) := by
  unfold GB_Mo_actTaker_57 at h
  unfold B_Mo_actTaker_57
  refine gdT (miS c m0) ?_
  obtain ⟨m3, q1, h⟩ := q_bvE h
  refine bvC (u_Mo_bodies c v3 m0 _ q1) ?_
  refine iteC Iff.rfl h (fun b4 h => ?_) (fun b4 h => ?_)
  · exact uB_Mo_actTaker_101 c v1 v2 v3 v5 w0 0 m3 _ h
  · refine iteC Iff.rfl h (fun b5 h => ?_) (fun b5 h => ?_)
    · exact uB_Mo_actTaker_82 c v1 v2 v3 v5 w0 0 m3 _ h
    · refine iteC Iff.rfl h (fun b6 h => ?_) (fun b6 h => ?_)
      · exact uB_Mo_actTaker_101 c v1 v2 v3 v5 w0 0 m3 _ h
      · exact uB_Mo_actTaker_82 c v1 v2 v3 v5 w0 0 m3 _ h
set_option maxRecDepth 100000 in
set_option maxHeartbeats 4000000 in
theorem uB_Mo_actTaker_56 (c : h_C)  (v1 : Int) (v2 : Int) (v3 : Int) (v5 : Int) (m0 : h_M) (r : h_M) (h : GB_Mo_actTaker_56 v1 v2 v3 v5 m0 = some r) : B_Mo_actTaker_56 1125 v1 v2 v3 v5 (h_H c m0) = some (h_H c r) := by
  unfold GB_Mo_actTaker_56 at h
  unfold B_Mo_actTaker_56
  exact uB_Mo_actTaker_57 c v1 v2 v3 v5 0 m0 _ h
set_option maxRecDepth 100000 in
set_option maxHeartbeats 4000000 in
theorem u_Mo_actTaker (c : h_C) (v1 : Int) (m0 : h_M) (r : h_M) (h : G_Mo_actTaker v1 m0 = some r) : F_Mo_actTaker 1125 v1 (h_H c m0) = some (h_H c r) := by
  unfold G_Mo_actTaker at h
  unfold F_Mo_actTaker
  refine gdT (miS c m0) ?_
  obtain ⟨r3, q1, h⟩ := q_bvE h
  refine bdC (u_Mo_g c v1 m0 _ q1) ?_
  try rw [mr5 c m0]
  refine gdT (miA c m0 e5) ?_
  obtain ⟨g5, h⟩ := p_gdE h
  refine gdT ⟨g5.1, by rw [mlA c m0 e5]; exact g5.2⟩ ?_
  try rw [mzA c m0 e5 (r3 : Int).toNat]
  refine bV h ?_
  intro x7 h
  try rw [mr6 c m0]
  refine gdT (miA c m0 e6) ?_
  refine gdT ⟨g5.1, by rw [mlA c m0 e6]; exact g5.2⟩ ?_
  try rw [mzA c m0 e6 (r3 : Int).toNat]
  refine bV h ?_
  intro x9 h
  try rw [mr22 c m0]
  refine gdT (miA c m0 e22) ?_
  obtain ⟨g10, h⟩ := p_gdE h
  refine gdT ⟨g10.1, by rw [mlA c m0 e22]; exact g10.2⟩ ?_
  try rw [mzA c m0 e22 (x9 : Int).toNat]
  refine bV h ?_
  intro x12 h
  refine iteC Iff.rfl h (fun b13 h => ?_) (fun b13 h => ?_)
  · exact uB_Mo_actTaker_56 c v1 r3 x7 x12 m0 _ h
  · try rw [mr36 c m0]
    refine gdT (miA c m0 e36) ?_
    obtain ⟨g14, h⟩ := p_gdE h
    refine gdT ⟨g14.1, by rw [mlA c m0 e36]; exact g14.2⟩ ?_
    try rw [mzA c m0 e36 (x12 : Int).toNat]
    refine iteC Iff.rfl h (fun b15 h => ?_) (fun b15 h => ?_)
    · exact uB_Mo_actTaker_56 c v1 r3 x7 x12 m0 _ h
    · exact uB_Mo_actTaker_57 c v1 r3 x7 x12 1 m0 _ h
def GB_Mo_act_66  (v2 : Int) (m0 : h_M) : Option h_M :=
  p_gd ((0 : Int) ≤ v2 ∧ v2 < (120 : Int)) <|
  p_bi (wm m0 21 (v2 : Int).toNat (p_w ((m0 21 (v2 : Int).toNat) + 1))) fun m2 =>
  if (m2 5 (v2 : Int).toNat) ≠ 9 then
    if (m2 172 0) ≤ 0 then
      if (m2 16 (v2 : Int).toNat) ≤ 0 then
        p_bi (wm m2 17 (v2 : Int).toNat 1) fun m7 =>
        some m7
      else
        p_bi (wm m2 17 (v2 : Int).toNat 2) fun m9 =>
        some m9
    else
      p_bi (wm m2 17 (v2 : Int).toNat 3) fun m11 =>
      some m11
  else
    if (m2 14 (v2 : Int).toNat) = 0 then
      p_bi (wm m2 17 (v2 : Int).toNat 0) fun m14 =>
      some m14
    else
      p_bi (wm m2 17 (v2 : Int).toNat 1) fun m16 =>
      some m16
def G_Mo_act (v1 : Int) (m0 : h_M) : Option h_M :=
  q_bv (G_Mo_g v1 m0) fun r3 =>
  p_bi (wm m0 171 0 v1) fun m5 =>
  p_bi (wm m5 172 0 0) fun m7 =>
  p_gd ((0 : Int) ≤ r3 ∧ r3 < (120 : Int)) <|
  if (m7 5 (r3 : Int).toNat) ≠ 9 then
    if (m7 5 (r3 : Int).toNat) ≠ 10 then
      q_bv (G_Mo_actTaker v1 m7) fun m14 =>
      GB_Mo_act_66 r3 m14
    else
      q_bv (G_Mo_body 11 m7) fun m17 =>
      q_bv (G_Mo_actPanel v1 m17) fun m20 =>
      GB_Mo_act_66 r3 m20
  else
    q_bv (G_Mo_body 10 m7) fun m23 =>
    GB_Mo_act_66 r3 m23
set_option maxRecDepth 100000 in
set_option maxHeartbeats 4000000 in
theorem uB_Mo_act_66 (c : h_C)  (v2 : Int) (m0 : h_M) (r : h_M) (h : GB_Mo_act_66 v2 m0 = some r) : B_Mo_act_66 1125 v2 (h_H c m0) = some (h_H c r) := by
  unfold GB_Mo_act_66 at h
  unfold B_Mo_act_66
  refine gdT (miS c m0) ?_
  try rw [mr21 c m0]
  refine gdT (miA c m0 e21) ?_
  obtain ⟨g1, h⟩ := p_gdE h
  refine gdT ⟨g1.1, by rw [mlA c m0 e21]; exact g1.2⟩ ?_
  try rw [mzA c m0 e21 (v2 : Int).toNat]
  refine gdT ⟨g1.1, by rw [mlA c m0 e21]; exact g1.2⟩ ?_
  refine bM (mwA c m0 e21 _ _) h ?_
  intro m2 h
  try rw [mr17 c m2]
  try rw [mr5 c m2]
  refine gdT (miA c m2 e5) ?_
  refine gdT ⟨g1.1, by rw [mlA c m2 e5]; exact g1.2⟩ ?_
  try rw [mzA c m2 e5 (v2 : Int).toNat]
  refine iteC Iff.rfl h (fun b4 h => ?_) (fun b4 h => ?_)
  · try rw [zs72 c m2]
    refine iteC Iff.rfl h (fun b5 h => ?_) (fun b5 h => ?_)
    · try rw [mr16 c m2]
      refine gdT (miA c m2 e16) ?_
      refine gdT ⟨g1.1, by rw [mlA c m2 e16]; exact g1.2⟩ ?_
      try rw [mzA c m2 e16 (v2 : Int).toNat]
      refine iteC Iff.rfl h (fun b6 h => ?_) (fun b6 h => ?_)
      · refine gdT (miA c m2 e17) ?_
        refine gdT ⟨g1.1, by rw [mlA c m2 e17]; exact g1.2⟩ ?_
        refine bM (mwA c m2 e17 _ _) h ?_
        intro m7 h
        cases h
        rfl
      · refine gdT (miA c m2 e17) ?_
        refine gdT ⟨g1.1, by rw [mlA c m2 e17]; exact g1.2⟩ ?_
        refine bM (mwA c m2 e17 _ _) h ?_
        intro m9 h
        cases h
        rfl
    · refine gdT (miA c m2 e17) ?_
      refine gdT ⟨g1.1, by rw [mlA c m2 e17]; exact g1.2⟩ ?_
      refine bM (mwA c m2 e17 _ _) h ?_
      intro m11 h
      cases h
      rfl
  · try rw [mr14 c m2]
    refine gdT (miA c m2 e14) ?_
    refine gdT ⟨g1.1, by rw [mlA c m2 e14]; exact g1.2⟩ ?_
    try rw [mzA c m2 e14 (v2 : Int).toNat]
    refine iteC Iff.rfl h (fun b13 h => ?_) (fun b13 h => ?_)
    · refine gdT (miA c m2 e17) ?_
      refine gdT ⟨g1.1, by rw [mlA c m2 e17]; exact g1.2⟩ ?_
      refine bM (mwA c m2 e17 _ _) h ?_
      intro m14 h
      cases h
      rfl
    · refine gdT (miA c m2 e17) ?_
      refine gdT ⟨g1.1, by rw [mlA c m2 e17]; exact g1.2⟩ ?_
      refine bM (mwA c m2 e17 _ _) h ?_
      intro m16 h
      cases h
      rfl
set_option maxRecDepth 100000 in
set_option maxHeartbeats 4000000 in
theorem u_Mo_act (c : h_C) (v1 : Int) (m0 : h_M) (r : h_M) (h : G_Mo_act v1 m0 = some r) : F_Mo_act 1125 v1 (h_H c m0) = some (h_H c r) := by
  unfold G_Mo_act at h
  unfold F_Mo_act
  refine gdT (miS c m0) ?_
  obtain ⟨r3, q1, h⟩ := q_bvE h
  refine bdC (u_Mo_g c v1 m0 _ q1) ?_
  refine bM (ws71 c m0 _) h ?_
  intro m5 h
  refine bM (ws72 c m5 _) h ?_
  intro m7 h
  try rw [mr5 c m7]
  refine gdT (miA c m7 e5) ?_
  obtain ⟨g9, h⟩ := p_gdE h
  refine gdT ⟨g9.1, by rw [mlA c m7 e5]; exact g9.2⟩ ?_
  try rw [mzA c m7 e5 (r3 : Int).toNat]
  refine iteC Iff.rfl h (fun b10 h => ?_) (fun b10 h => ?_)
  · try rw [mr5 c m7]
    refine gdT ⟨g9.1, by rw [mlA c m7 e5]; exact g9.2⟩ ?_
    try rw [mzA c m7 e5 (r3 : Int).toNat]
    refine iteC Iff.rfl h (fun b11 h => ?_) (fun b11 h => ?_)
    · obtain ⟨m14, q12, h⟩ := q_bvE h
      refine bvC (u_Mo_actTaker c v1 m7 _ q12) ?_
      exact uB_Mo_act_66 c r3 m14 _ h
    · obtain ⟨m17, q15, h⟩ := q_bvE h
      refine bvC (u_Mo_body c 11 m7 _ q15) ?_
      obtain ⟨m20, q18, h⟩ := q_bvE h
      refine bvC (u_Mo_actPanel c v1 m17 _ q18) ?_
      exact uB_Mo_act_66 c r3 m20 _ h
  · obtain ⟨m23, q21, h⟩ := q_bvE h
    refine bvC (u_Mo_body c 10 m7 _ q21) ?_
    exact uB_Mo_act_66 c r3 m23 _ h
def GB_Mo_paceOf_10   (m0 : h_M) : Option Int :=
  some 2
def G_Mo_paceOf (v0 : Int) (m0 : h_M) : Option Int :=
  if v0 = 1 then
    GB_Mo_paceOf_10 m0
  else
    if v0 ≠ 4 then
      some 1
    else
      GB_Mo_paceOf_10 m0
set_option maxRecDepth 100000 in
set_option maxHeartbeats 4000000 in
theorem uB_Mo_paceOf_10 (c : h_C)   (m0 : h_M) (r : Int) (h : GB_Mo_paceOf_10  m0 = some r) : B_Mo_paceOf_10  (h_H c m0) = some (r, (h_H c m0)) := by
  unfold GB_Mo_paceOf_10 at h
  unfold B_Mo_paceOf_10
  cases h
  rfl
set_option maxRecDepth 100000 in
set_option maxHeartbeats 4000000 in
theorem u_Mo_paceOf (c : h_C) (v0 : Int) (m0 : h_M) (r : Int) (h : G_Mo_paceOf v0 m0 = some r) : F_Mo_paceOf v0 (h_H c m0) = some (r, (h_H c m0)) := by
  unfold G_Mo_paceOf at h
  unfold F_Mo_paceOf
  refine iteC Iff.rfl h (fun b1 h => ?_) (fun b1 h => ?_)
  · exact uB_Mo_paceOf_10 c m0 _ h
  · refine iteC Iff.rfl h (fun b2 h => ?_) (fun b2 h => ?_)
    · cases h
      rfl
    · exact uB_Mo_paceOf_10 c m0 _ h
def G_Mo_isActing (v1 : Int) (m0 : h_M) : Option Int :=
  p_gd ((0 : Int) ≤ (m0 100 0) ∧ (m0 100 0) < (3 : Int)) <|
  p_gd ((0 : Int) ≤ v1 ∧ v1 < (120 : Int)) <|
  q_bv (G_Mo_paceOf (m0 5 (v1 : Int).toNat) m0) fun r5 =>
  p_gd (r5 ≠ 0) <|
  if (p_rem (m0 4 ((m0 100 0) : Int).toNat) r5) ≠ 0 then
    some 0
  else
    some 1
set_option maxRecDepth 100000 in
set_option maxHeartbeats 4000000 in
theorem u_Mo_isActing (c : h_C) (v1 : Int) (m0 : h_M) (r : Int) (h : G_Mo_isActing v1 m0 = some r) : F_Mo_isActing 1125 v1 (h_H c m0) = some (r, (h_H c m0)) := by
  unfold G_Mo_isActing at h
  unfold F_Mo_isActing
  refine gdT (miS c m0) ?_
  try rw [mr4 c m0]
  try rw [zs0 c m0]
  refine gdT (miA c m0 e4) ?_
  obtain ⟨g1, h⟩ := p_gdE h
  refine gdT ⟨g1.1, by rw [mlA c m0 e4]; exact g1.2⟩ ?_
  try rw [mzA c m0 e4 ((m0 100 0) : Int).toNat]
  try rw [mr5 c m0]
  refine gdT (miA c m0 e5) ?_
  obtain ⟨g2, h⟩ := p_gdE h
  refine gdT ⟨g2.1, by rw [mlA c m0 e5]; exact g2.2⟩ ?_
  try rw [mzA c m0 e5 (v1 : Int).toNat]
  obtain ⟨r5, q3, h⟩ := q_bvE h
  refine bdC (u_Mo_paceOf c (m0 5 (v1 : Int).toNat) m0 _ q3) ?_
  obtain ⟨g7, h⟩ := p_gdE h
  refine gdT g7 ?_
  refine iteC Iff.rfl h (fun b8 h => ?_) (fun b8 h => ?_)
  · cases h
    rfl
  · cases h
    rfl
