def GB_Mo_ahead_158 (k63 : Int → Int → Int → Int → Int → h_M → Option h_M) (v1 : Int) (v2 : Int) (v3 : Int) (v4 : Int) (v5 : Int) (m0 : h_M) : Option h_M :=
  p_bi (p_w (v5 + 1)) fun x1 =>
  k63 v1 v2 v3 v4 x1 m0
def GB_Mo_ahead_157 (k63 : Int → Int → Int → Int → Int → h_M → Option h_M) (v1 : Int) (v2 : Int) (v3 : Int) (v4 : Int) (v5 : Int) (w0 : Int) (w1 : Int) (m0 : h_M) : Option h_M :=
  p_gd ((0 : Int) ≤ w1 ∧ w1 < (40 : Int)) <|
  p_bi (wm m0 88 (w1 : Int).toNat w0) fun m2 =>
  GB_Mo_ahead_158 k63 v1 v2 v3 v4 v5 m2
def GB_Mo_ahead_143 (k63 : Int → Int → Int → Int → Int → h_M → Option h_M) (v1 : Int) (v2 : Int) (v3 : Int) (v4 : Int) (v5 : Int) (v6 : Int) (w0 : Int) (m0 : h_M) : Option h_M :=
  GB_Mo_ahead_157 k63 v1 v2 v3 v4 v5 v6 w0 m0
def GL_Mo_ahead_63 (k63 : Int → Int → Int → Int → Int → h_M → Option h_M) (v1 : Int) (v2 : Int) (v3 : Int) (v4 : Int) (v5 : Int) (m0 : h_M) : Option h_M :=
  if v4 ≤ v5 then
    some m0
  else
    q_bd (G_Mo_follow v1 v5 m0) fun r4 m5 =>
    if r4 ≠ 0 then
      GB_Mo_ahead_158 k63 v1 v2 v3 v4 v5 m5
    else
      q_bv (G_Mo_g (m5 173 0) m5) fun r10 =>
      p_gd ((0 : Int) ≤ r10 ∧ r10 < (120 : Int)) <|
      q_bv (G_Mo_isTaker (m5 5 (r10 : Int).toNat) m5) fun r15 =>
      if r15 = 0 then
        GB_Mo_ahead_158 k63 v1 v2 v3 v4 v5 m5
      else
        p_gd ((0 : Int) ≤ v3 ∧ v3 < (120 : Int)) <|
        p_bi ((p_w (v2 + (m5 6 (v3 : Int).toNat)))) fun x20 =>
        p_gd ((0 : Int) ≤ (m5 173 0) ∧ (m5 173 0) < (40 : Int)) <|
        if (m5 88 ((m5 173 0) : Int).toNat) < 0 then
          GB_Mo_ahead_143 k63 v1 v2 v3 v4 v5 x20 (m5 173 0) m5
        else
          if (m5 88 ((m5 173 0) : Int).toNat) ≤ x20 then
            GB_Mo_ahead_157 k63 v1 v2 v3 v4 v5 (m5 88 ((m5 173 0) : Int).toNat) (m5 173 0) m5
          else
            GB_Mo_ahead_143 k63 v1 v2 v3 v4 v5 x20 (m5 173 0) m5
def GO_Mo_ahead_63  : Nat → Int → Int → Int → Int → Int → h_M → Option h_M
  | 0 => fun _ _ _ _ _ _ => none
  | n + 1 => GL_Mo_ahead_63 (GO_Mo_ahead_63 n)
def GB_Mo_ahead_58  (v1 : Int) (v2 : Int) (v3 : Int) (w0 : Int) (m0 : h_M) : Option h_M :=
  GO_Mo_ahead_63 3000 v1 v2 v3 w0 0 m0
def GB_Mo_ahead_29  (v1 : Int) (v2 : Int) (v3 : Int) (m0 : h_M) : Option h_M :=
  GB_Mo_ahead_58 v1 v2 v3 0 m0
def G_Mo_ahead (v1 : Int) (v2 : Int) (m0 : h_M) : Option h_M :=
  q_bv (G_Mo_g v1 m0) fun r3 =>
  p_gd ((0 : Int) ≤ r3 ∧ r3 < (120 : Int)) <|
  q_bv (G_Mo_isTaker (m0 5 (r3 : Int).toNat) m0) fun r8 =>
  if r8 = 0 then
    GB_Mo_ahead_29 v1 v2 r3 m0
  else
    if (m0 5 (r3 : Int).toNat) ≠ 7 then
      q_bv (G_Mo_isDivert (m0 5 (r3 : Int).toNat) m0) fun r14 =>
      if r14 = 0 then
        GB_Mo_ahead_58 v1 v2 r3 1 m0
      else
        q_bv (G_Mo_sidesOf (m0 5 (r3 : Int).toNat) m0) fun r19 =>
        GB_Mo_ahead_58 v1 v2 r3 r19 m0
    else
      GB_Mo_ahead_29 v1 v2 r3 m0
set_option maxRecDepth 100000 in
set_option maxHeartbeats 4000000 in
theorem uB_Mo_ahead_158 (c : h_C) (j63 : Nat → Int → Int → Int → Int → Int → p_Hp → Option p_Hp) (k63 : Int → Int → Int → Int → Int → h_M → Option h_M) (hk63 : ∀ (v1 : Int) (v2 : Int) (v3 : Int) (v4 : Int) (v5 : Int) (m0 : h_M) (r : h_M), k63 v1 v2 v3 v4 v5 m0 = some r → j63 1125 v1 v2 v3 v4 v5 (h_H c m0) = some (h_H c r)) (v1 : Int) (v2 : Int) (v3 : Int) (v4 : Int) (v5 : Int) (m0 : h_M) (r : h_M) (h : GB_Mo_ahead_158 k63 v1 v2 v3 v4 v5 m0 = some r) : B_Mo_ahead_158 j63 1125 v1 v2 v3 v4 v5 (h_H c m0) = some (h_H c r) := by
  unfold GB_Mo_ahead_158 at h
  unfold B_Mo_ahead_158
  refine bV h ?_
  intro x1 h
  exact hk63 v1 v2 v3 v4 x1 m0 _ h
set_option maxRecDepth 100000 in
set_option maxHeartbeats 4000000 in
theorem uB_Mo_ahead_157 (c : h_C) (j63 : Nat → Int → Int → Int → Int → Int → p_Hp → Option p_Hp) (k63 : Int → Int → Int → Int → Int → h_M → Option h_M) (hk63 : ∀ (v1 : Int) (v2 : Int) (v3 : Int) (v4 : Int) (v5 : Int) (m0 : h_M) (r : h_M), k63 v1 v2 v3 v4 v5 m0 = some r → j63 1125 v1 v2 v3 v4 v5 (h_H c m0) = some (h_H c r)) (v1 : Int) (v2 : Int) (v3 : Int) (v4 : Int) (v5 : Int) (w0 : Int) (w1 : Int) (m0 : h_M) (r : h_M) (h : GB_Mo_ahead_157 k63 v1 v2 v3 v4 v5 w0 w1 m0 = some r) : B_Mo_ahead_157 j63 1125 v1 v2 v3 v4 v5 w0 w1 1194 (h_H c m0) = some (h_H c r) := by
  unfold GB_Mo_ahead_157 at h
  unfold B_Mo_ahead_157
  refine gdT (miA c m0 e88) ?_
  obtain ⟨g1, h⟩ := p_gdE h
  refine gdT ⟨g1.1, by rw [mlA c m0 e88]; exact g1.2⟩ ?_
  refine bM (mwA c m0 e88 _ _) h ?_
  intro m2 h
  exact uB_Mo_ahead_158 c j63 k63 hk63 v1 v2 v3 v4 v5 m2 _ h
set_option maxRecDepth 100000 in
set_option maxHeartbeats 4000000 in
theorem uB_Mo_ahead_143 (c : h_C) (j63 : Nat → Int → Int → Int → Int → Int → p_Hp → Option p_Hp) (k63 : Int → Int → Int → Int → Int → h_M → Option h_M) (hk63 : ∀ (v1 : Int) (v2 : Int) (v3 : Int) (v4 : Int) (v5 : Int) (m0 : h_M) (r : h_M), k63 v1 v2 v3 v4 v5 m0 = some r → j63 1125 v1 v2 v3 v4 v5 (h_H c m0) = some (h_H c r)) (v1 : Int) (v2 : Int) (v3 : Int) (v4 : Int) (v5 : Int) (v6 : Int) (w0 : Int) (m0 : h_M) (r : h_M) (h : GB_Mo_ahead_143 k63 v1 v2 v3 v4 v5 v6 w0 m0 = some r) : B_Mo_ahead_143 j63 1125 v1 v2 v3 v4 v5 v6 w0 1194 (h_H c m0) = some (h_H c r) := by
  unfold GB_Mo_ahead_143 at h
  unfold B_Mo_ahead_143
  exact uB_Mo_ahead_157 c j63 k63 hk63 v1 v2 v3 v4 v5 v6 w0 m0 _ h
set_option maxRecDepth 100000 in
set_option maxHeartbeats 4000000 in
theorem uL_Mo_ahead_63 (c : h_C) (j63 : Nat → Int → Int → Int → Int → Int → p_Hp → Option p_Hp) (k63 : Int → Int → Int → Int → Int → h_M → Option h_M) (hk63 : ∀ (v1 : Int) (v2 : Int) (v3 : Int) (v4 : Int) (v5 : Int) (m0 : h_M) (r : h_M), k63 v1 v2 v3 v4 v5 m0 = some r → j63 1125 v1 v2 v3 v4 v5 (h_H c m0) = some (h_H c r)) (v1 : Int) (v2 : Int) (v3 : Int) (v4 : Int) (v5 : Int) (m0 : h_M) (r : h_M) (h : GL_Mo_ahead_63 k63 v1 v2 v3 v4 v5 m0 = some r) : L_Mo_ahead_63 j63 1125 v1 v2 v3 v4 v5 (h_H c m0) = some (h_H c r) := by
  unfold GL_Mo_ahead_63 at h
  unfold L_Mo_ahead_63
  refine iteC Iff.rfl h (fun b1 h => ?_) (fun b1 h => ?_)
  · cases h
    rfl
  · refine gdT (miS c m0) ?_
    obtain ⟨r4, m5, q2, h⟩ := q_bdE h
    refine bdC (u_Mo_follow c v1 v5 m0 _ q2) ?_
    refine iteC Iff.rfl h (fun b7 h => ?_) (fun b7 h => ?_)
    · exact uB_Mo_ahead_158 c j63 k63 hk63 v1 v2 v3 v4 v5 m5 _ h
    · try rw [mr5 c m5]
      try rw [zs73 c m5]
      obtain ⟨r10, q8, h⟩ := q_bvE h
      refine bdC (u_Mo_g c (m5 173 0) m5 _ q8) ?_
      refine gdT (miA c m5 e5) ?_
      obtain ⟨g12, h⟩ := p_gdE h
      refine gdT ⟨g12.1, by rw [mlA c m5 e5]; exact g12.2⟩ ?_
      try rw [mzA c m5 e5 (r10 : Int).toNat]
      obtain ⟨r15, q13, h⟩ := q_bvE h
      refine bdC (u_Mo_isTaker c (m5 5 (r10 : Int).toNat) m5 _ q13) ?_
      refine iteC Iff.rfl h (fun b17 h => ?_) (fun b17 h => ?_)
      · exact uB_Mo_ahead_158 c j63 k63 hk63 v1 v2 v3 v4 v5 m5 _ h
      · try rw [mr6 c m5]
        refine gdT (miA c m5 e6) ?_
        obtain ⟨g18, h⟩ := p_gdE h
        refine gdT ⟨g18.1, by rw [mlA c m5 e6]; exact g18.2⟩ ?_
        try rw [mzA c m5 e6 (v3 : Int).toNat]
        refine bV h ?_
        intro x20 h
        try rw [mr88 c m5]
        try rw [zs73 c m5]
        try rw [mr88 c m5]
        try rw [zs73 c m5]
        refine gdT (miA c m5 e88) ?_
        obtain ⟨g21, h⟩ := p_gdE h
        refine gdT ⟨g21.1, by rw [mlA c m5 e88]; exact g21.2⟩ ?_
        try rw [mzA c m5 e88 ((m5 173 0) : Int).toNat]
        refine iteC Iff.rfl h (fun b22 h => ?_) (fun b22 h => ?_)
        · exact uB_Mo_ahead_143 c j63 k63 hk63 v1 v2 v3 v4 v5 x20 (m5 173 0) m5 _ h
        · try rw [mr88 c m5]
          try rw [zs73 c m5]
          refine gdT ⟨g21.1, by rw [mlA c m5 e88]; exact g21.2⟩ ?_
          try rw [mzA c m5 e88 ((m5 173 0) : Int).toNat]
          refine iteC Iff.rfl h (fun b23 h => ?_) (fun b23 h => ?_)
          · try rw [mr88 c m5]
            try rw [zs73 c m5]
            refine gdT ⟨g21.1, by rw [mlA c m5 e88]; exact g21.2⟩ ?_
            try rw [mzA c m5 e88 ((m5 173 0) : Int).toNat]
            exact uB_Mo_ahead_157 c j63 k63 hk63 v1 v2 v3 v4 v5 (m5 88 ((m5 173 0) : Int).toNat) (m5 173 0) m5 _ h
          · exact uB_Mo_ahead_143 c j63 k63 hk63 v1 v2 v3 v4 v5 x20 (m5 173 0) m5 _ h
set_option maxRecDepth 100000 in
set_option maxHeartbeats 4000000 in
theorem uO_Mo_ahead_63 (c : h_C)  : ∀ (n : Nat) (v1 : Int) (v2 : Int) (v3 : Int) (v4 : Int) (v5 : Int) (m0 : h_M) (r : h_M), GO_Mo_ahead_63 n v1 v2 v3 v4 v5 m0 = some r → O_Mo_ahead_63 n 1125 v1 v2 v3 v4 v5 (h_H c m0) = some (h_H c r) := by
  intro n
  induction n with
  | zero => intro v1 v2 v3 v4 v5 m0 r h; cases h
  | succ n ih => intro v1 v2 v3 v4 v5 m0 r h; exact uL_Mo_ahead_63 c (O_Mo_ahead_63 n) (GO_Mo_ahead_63 n) ih v1 v2 v3 v4 v5 m0 r h
set_option maxRecDepth 100000 in
set_option maxHeartbeats 4000000 in
theorem uB_Mo_ahead_58 (c : h_C)  (v1 : Int) (v2 : Int) (v3 : Int) (w0 : Int) (m0 : h_M) (r : h_M) (h : GB_Mo_ahead_58 v1 v2 v3 w0 m0 = some r) : B_Mo_ahead_58 1125 v1 v2 v3 w0 (h_H c m0) = some (h_H c r) := by
  unfold GB_Mo_ahead_58 at h
  unfold B_Mo_ahead_58
  exact uO_Mo_ahead_63 c 3000 v1 v2 v3 w0 0 m0 _ h
set_option maxRecDepth 100000 in
set_option maxHeartbeats 4000000 in
theorem uB_Mo_ahead_29 (c : h_C)  (v1 : Int) (v2 : Int) (v3 : Int) (m0 : h_M) (r : h_M) (h : GB_Mo_ahead_29 v1 v2 v3 m0 = some r) : B_Mo_ahead_29 1125 v1 v2 v3 (h_H c m0) = some (h_H c r) := by
  unfold GB_Mo_ahead_29 at h
  unfold B_Mo_ahead_29
  exact uB_Mo_ahead_58 c v1 v2 v3 0 m0 _ h
set_option maxRecDepth 100000 in
set_option maxHeartbeats 4000000 in
theorem u_Mo_ahead (c : h_C) (v1 : Int) (v2 : Int) (m0 : h_M) (r : h_M) (h : G_Mo_ahead v1 v2 m0 = some r) : F_Mo_ahead 1125 v1 v2 (h_H c m0) = some (h_H c r) := by
  unfold G_Mo_ahead at h
  unfold F_Mo_ahead
  refine gdT (miS c m0) ?_
  obtain ⟨r3, q1, h⟩ := q_bvE h
  refine bdC (u_Mo_g c v1 m0 _ q1) ?_
  try rw [mr5 c m0]
  refine gdT (miA c m0 e5) ?_
  obtain ⟨g5, h⟩ := p_gdE h
  refine gdT ⟨g5.1, by rw [mlA c m0 e5]; exact g5.2⟩ ?_
  try rw [mzA c m0 e5 (r3 : Int).toNat]
  obtain ⟨r8, q6, h⟩ := q_bvE h
  refine bdC (u_Mo_isTaker c (m0 5 (r3 : Int).toNat) m0 _ q6) ?_
  refine iteC Iff.rfl h (fun b10 h => ?_) (fun b10 h => ?_)
  · exact uB_Mo_ahead_29 c v1 v2 r3 m0 _ h
  · try rw [mr5 c m0]
    refine gdT (miA c m0 e5) ?_
    refine gdT ⟨g5.1, by rw [mlA c m0 e5]; exact g5.2⟩ ?_
    try rw [mzA c m0 e5 (r3 : Int).toNat]
    refine iteC Iff.rfl h (fun b11 h => ?_) (fun b11 h => ?_)
    · try rw [mr5 c m0]
      refine gdT ⟨g5.1, by rw [mlA c m0 e5]; exact g5.2⟩ ?_
      try rw [mzA c m0 e5 (r3 : Int).toNat]
      obtain ⟨r14, q12, h⟩ := q_bvE h
      refine bdC (u_Mo_isDivert c (m0 5 (r3 : Int).toNat) m0 _ q12) ?_
      refine iteC Iff.rfl h (fun b16 h => ?_) (fun b16 h => ?_)
      · exact uB_Mo_ahead_58 c v1 v2 r3 1 m0 _ h
      · try rw [mr5 c m0]
        refine gdT (miA c m0 e5) ?_
        refine gdT ⟨g5.1, by rw [mlA c m0 e5]; exact g5.2⟩ ?_
        try rw [mzA c m0 e5 (r3 : Int).toNat]
        obtain ⟨r19, q17, h⟩ := q_bvE h
        refine bdC (u_Mo_sidesOf c (m0 5 (r3 : Int).toNat) m0 _ q17) ?_
        exact uB_Mo_ahead_58 c v1 v2 r3 r19 m0 _ h
    · exact uB_Mo_ahead_29 c v1 v2 r3 m0 _ h
def GB_Mo_spread_70 (k29 : Int → h_M → Option h_M) (k37 : Int → Int → h_M → Option h_M) (v2 : Int) (v3 : Int) (m0 : h_M) : Option h_M :=
  p_bi (p_w (v3 + 1)) fun x1 =>
  k37 v2 x1 m0
def GL_Mo_spread_37 (k29 : Int → h_M → Option h_M) (k37 : Int → Int → h_M → Option h_M) (v2 : Int) (v3 : Int) (m0 : h_M) : Option h_M :=
  p_gd ((0 : Int) ≤ (m0 100 0) ∧ (m0 100 0) < (3 : Int)) <|
  if (m0 3 ((m0 100 0) : Int).toNat) ≤ v3 then
    p_bi (p_w (v2 + 1)) fun x3 =>
    k29 x3 m0
  else
    p_gd ((0 : Int) ≤ v3 ∧ v3 < (40 : Int)) <|
    if (m0 88 (v3 : Int).toNat) < 0 then
      GB_Mo_spread_70 k29 k37 v2 v3 m0
    else
      q_bv (G_Mo_ahead v3 (m0 88 (v3 : Int).toNat) m0) fun m9 =>
      GB_Mo_spread_70 k29 k37 v2 v3 m9
def GO_Mo_spread_37 (k29 : Int → h_M → Option h_M) : Nat → Int → Int → h_M → Option h_M
  | 0 => fun _ _ _ => none
  | n + 1 => GL_Mo_spread_37 k29 (GO_Mo_spread_37 k29 n)
def GL_Mo_spread_29 (k29 : Int → h_M → Option h_M) (v2 : Int) (m0 : h_M) : Option h_M :=
  if 41 ≤ v2 then
    some m0
  else
    GO_Mo_spread_37 k29 3000 v2 0 m0
def GO_Mo_spread_29  : Nat → Int → h_M → Option h_M
  | 0 => fun _ _ => none
  | n + 1 => GL_Mo_spread_29 (GO_Mo_spread_29 n)
def GL_Mo_spread_2 (k2 : Int → Int → h_M → Option h_M) (v1 : Int) (v2 : Int) (m0 : h_M) : Option h_M :=
  if 40 ≤ v2 then
    q_bv (G_Mo_ahead v1 0 m0) fun m4 =>
    GO_Mo_spread_29 3000 0 m4
  else
    p_gd ((0 : Int) ≤ v2 ∧ v2 < (40 : Int)) <|
    p_bi (wm m0 88 (v2 : Int).toNat (-1)) fun m6 =>
    p_bi (p_w (v2 + 1)) fun x8 =>
    k2 v1 x8 m6
def GO_Mo_spread_2  : Nat → Int → Int → h_M → Option h_M
  | 0 => fun _ _ _ => none
  | n + 1 => GL_Mo_spread_2 (GO_Mo_spread_2 n)
def G_Mo_spread (v1 : Int) (m0 : h_M) : Option h_M :=
  GO_Mo_spread_2 3000 v1 0 m0
set_option maxRecDepth 100000 in
set_option maxHeartbeats 4000000 in
theorem uB_Mo_spread_70 (c : h_C) (j29 : Nat → Int → p_Hp → Option p_Hp) (k29 : Int → h_M → Option h_M) (hk29 : ∀ (v2 : Int) (m0 : h_M) (r : h_M), k29 v2 m0 = some r → j29 1125 v2 (h_H c m0) = some (h_H c r)) (j37 : Nat → Int → Int → p_Hp → Option p_Hp) (k37 : Int → Int → h_M → Option h_M) (hk37 : ∀ (v2 : Int) (v3 : Int) (m0 : h_M) (r : h_M), k37 v2 v3 m0 = some r → j37 1125 v2 v3 (h_H c m0) = some (h_H c r)) (v2 : Int) (v3 : Int) (m0 : h_M) (r : h_M) (h : GB_Mo_spread_70 k29 k37 v2 v3 m0 = some r) : B_Mo_spread_70 j29 j37 1125 v2 v3 (h_H c m0) = some (h_H c r) := by
  unfold GB_Mo_spread_70 at h
  unfold B_Mo_spread_70
  refine bV h ?_
  intro x1 h
  exact hk37 v2 x1 m0 _ h
set_option maxRecDepth 100000 in
set_option maxHeartbeats 4000000 in
theorem uL_Mo_spread_37 (c : h_C) (j29 : Nat → Int → p_Hp → Option p_Hp) (k29 : Int → h_M → Option h_M) (hk29 : ∀ (v2 : Int) (m0 : h_M) (r : h_M), k29 v2 m0 = some r → j29 1125 v2 (h_H c m0) = some (h_H c r)) (j37 : Nat → Int → Int → p_Hp → Option p_Hp) (k37 : Int → Int → h_M → Option h_M) (hk37 : ∀ (v2 : Int) (v3 : Int) (m0 : h_M) (r : h_M), k37 v2 v3 m0 = some r → j37 1125 v2 v3 (h_H c m0) = some (h_H c r)) (v2 : Int) (v3 : Int) (m0 : h_M) (r : h_M) (h : GL_Mo_spread_37 k29 k37 v2 v3 m0 = some r) : L_Mo_spread_37 j29 j37 1125 v2 v3 (h_H c m0) = some (h_H c r) := by
  unfold GL_Mo_spread_37 at h
  unfold L_Mo_spread_37
  refine gdT (miS c m0) ?_
  try rw [mr3 c m0]
  try rw [zs0 c m0]
  refine gdT (miA c m0 e3) ?_
  obtain ⟨g1, h⟩ := p_gdE h
  refine gdT ⟨g1.1, by rw [mlA c m0 e3]; exact g1.2⟩ ?_
  try rw [mzA c m0 e3 ((m0 100 0) : Int).toNat]
  refine iteC Iff.rfl h (fun b2 h => ?_) (fun b2 h => ?_)
  · refine bV h ?_
    intro x3 h
    exact hk29 x3 m0 _ h
  · try rw [mr88 c m0]
    refine gdT (miA c m0 e88) ?_
    obtain ⟨g5, h⟩ := p_gdE h
    refine gdT ⟨g5.1, by rw [mlA c m0 e88]; exact g5.2⟩ ?_
    try rw [mzA c m0 e88 (v3 : Int).toNat]
    refine iteC Iff.rfl h (fun b6 h => ?_) (fun b6 h => ?_)
    · exact uB_Mo_spread_70 c j29 k29 hk29 j37 k37 hk37 v2 v3 m0 _ h
    · try rw [mr88 c m0]
      refine gdT ⟨g5.1, by rw [mlA c m0 e88]; exact g5.2⟩ ?_
      try rw [mzA c m0 e88 (v3 : Int).toNat]
      obtain ⟨m9, q7, h⟩ := q_bvE h
      refine bvC (u_Mo_ahead c v3 (m0 88 (v3 : Int).toNat) m0 _ q7) ?_
      exact uB_Mo_spread_70 c j29 k29 hk29 j37 k37 hk37 v2 v3 m9 _ h
set_option maxRecDepth 100000 in
set_option maxHeartbeats 4000000 in
theorem uO_Mo_spread_37 (c : h_C) (j29 : Nat → Int → p_Hp → Option p_Hp) (k29 : Int → h_M → Option h_M) (hk29 : ∀ (v2 : Int) (m0 : h_M) (r : h_M), k29 v2 m0 = some r → j29 1125 v2 (h_H c m0) = some (h_H c r)) : ∀ (n : Nat) (v2 : Int) (v3 : Int) (m0 : h_M) (r : h_M), GO_Mo_spread_37 k29 n v2 v3 m0 = some r → O_Mo_spread_37 j29 n 1125 v2 v3 (h_H c m0) = some (h_H c r) := by
  intro n
  induction n with
  | zero => intro v2 v3 m0 r h; cases h
  | succ n ih => intro v2 v3 m0 r h; exact uL_Mo_spread_37 c j29 k29 hk29 (O_Mo_spread_37 j29 n) (GO_Mo_spread_37 k29 n) ih v2 v3 m0 r h
set_option maxRecDepth 100000 in
set_option maxHeartbeats 4000000 in
theorem uL_Mo_spread_29 (c : h_C) (j29 : Nat → Int → p_Hp → Option p_Hp) (k29 : Int → h_M → Option h_M) (hk29 : ∀ (v2 : Int) (m0 : h_M) (r : h_M), k29 v2 m0 = some r → j29 1125 v2 (h_H c m0) = some (h_H c r)) (v2 : Int) (m0 : h_M) (r : h_M) (h : GL_Mo_spread_29 k29 v2 m0 = some r) : L_Mo_spread_29 j29 1125 v2 (h_H c m0) = some (h_H c r) := by
  unfold GL_Mo_spread_29 at h
  unfold L_Mo_spread_29
  refine iteC Iff.rfl h (fun b1 h => ?_) (fun b1 h => ?_)
  · cases h
    rfl
  · exact uO_Mo_spread_37 c j29 k29 hk29 3000 v2 0 m0 _ h
set_option maxRecDepth 100000 in
set_option maxHeartbeats 4000000 in
theorem uO_Mo_spread_29 (c : h_C)  : ∀ (n : Nat) (v2 : Int) (m0 : h_M) (r : h_M), GO_Mo_spread_29 n v2 m0 = some r → O_Mo_spread_29 n 1125 v2 (h_H c m0) = some (h_H c r) := by
  intro n
  induction n with
  | zero => intro v2 m0 r h; cases h
  | succ n ih => intro v2 m0 r h; exact uL_Mo_spread_29 c (O_Mo_spread_29 n) (GO_Mo_spread_29 n) ih v2 m0 r h
set_option maxRecDepth 100000 in
set_option maxHeartbeats 4000000 in
theorem uL_Mo_spread_2 (c : h_C) (j2 : Nat → Int → Int → p_Hp → Option p_Hp) (k2 : Int → Int → h_M → Option h_M) (hk2 : ∀ (v1 : Int) (v2 : Int) (m0 : h_M) (r : h_M), k2 v1 v2 m0 = some r → j2 1125 v1 v2 (h_H c m0) = some (h_H c r)) (v1 : Int) (v2 : Int) (m0 : h_M) (r : h_M) (h : GL_Mo_spread_2 k2 v1 v2 m0 = some r) : L_Mo_spread_2 j2 1125 v1 v2 (h_H c m0) = some (h_H c r) := by
  unfold GL_Mo_spread_2 at h
  unfold L_Mo_spread_2
  refine iteC Iff.rfl h (fun b1 h => ?_) (fun b1 h => ?_)
  · refine gdT (miS c m0) ?_
    obtain ⟨m4, q2, h⟩ := q_bvE h
    refine bvC (u_Mo_ahead c v1 0 m0 _ q2) ?_
    exact uO_Mo_spread_29 c 3000 0 m4 _ h
  · refine gdT (miS c m0) ?_
    try rw [mr88 c m0]
    refine gdT (miA c m0 e88) ?_
    obtain ⟨g5, h⟩ := p_gdE h
    refine gdT ⟨g5.1, by rw [mlA c m0 e88]; exact g5.2⟩ ?_
    refine bM (mwA c m0 e88 _ _) h ?_
    intro m6 h
    refine bV h ?_
    intro x8 h
    exact hk2 v1 x8 m6 _ h
set_option maxRecDepth 100000 in
set_option maxHeartbeats 4000000 in
theorem uO_Mo_spread_2 (c : h_C)  : ∀ (n : Nat) (v1 : Int) (v2 : Int) (m0 : h_M) (r : h_M), GO_Mo_spread_2 n v1 v2 m0 = some r → O_Mo_spread_2 n 1125 v1 v2 (h_H c m0) = some (h_H c r) := by
  intro n
  induction n with
  | zero => intro v1 v2 m0 r h; cases h
  | succ n ih => intro v1 v2 m0 r h; exact uL_Mo_spread_2 c (O_Mo_spread_2 n) (GO_Mo_spread_2 n) ih v1 v2 m0 r h
set_option maxRecDepth 100000 in
set_option maxHeartbeats 4000000 in
theorem u_Mo_spread (c : h_C) (v1 : Int) (m0 : h_M) (r : h_M) (h : G_Mo_spread v1 m0 = some r) : F_Mo_spread 1125 v1 (h_H c m0) = some (h_H c r) := by
  unfold G_Mo_spread at h
  unfold F_Mo_spread
  exact uO_Mo_spread_2 c 3000 v1 0 m0 _ h
def G_Mo_far (v1 : Int) (v2 : Int) (m0 : h_M) : Option (Int × h_M) :=
  q_bv (G_Mo_noGear v1 m0) fun r3 =>
  if r3 ≠ 0 then
    some ((-1), m0)
  else
    q_bv (G_Mo_noGear v2 m0) fun r8 =>
    if r8 = 0 then
      if v1 ≠ v2 then
        q_bv (G_Mo_spread v1 m0) fun m14 =>
        p_gd ((0 : Int) ≤ v2 ∧ v2 < (40 : Int)) <|
        if 0 ≤ (m14 88 (v2 : Int).toNat) then
          some ((m14 88 (v2 : Int).toNat), m14)
        else
          some ((-9), m14)
      else
        some (0, m0)
    else
      some ((-1), m0)
set_option maxRecDepth 100000 in
set_option maxHeartbeats 4000000 in
theorem u_Mo_far (c : h_C) (v1 : Int) (v2 : Int) (m0 : h_M) (r : (Int × h_M)) (h : G_Mo_far v1 v2 m0 = some r) : F_Mo_far 1125 v1 v2 (h_H c m0) = some (r.1, (h_H c r.2)) := by
  unfold G_Mo_far at h
  unfold F_Mo_far
  refine gdT (miS c m0) ?_
  obtain ⟨r3, q1, h⟩ := q_bvE h
  refine bdC (u_Mo_noGear c v1 m0 _ q1) ?_
  refine iteC Iff.rfl h (fun b5 h => ?_) (fun b5 h => ?_)
  · cases h
    rfl
  · obtain ⟨r8, q6, h⟩ := q_bvE h
    refine bdC (u_Mo_noGear c v2 m0 _ q6) ?_
    refine iteC Iff.rfl h (fun b10 h => ?_) (fun b10 h => ?_)
    · refine iteC Iff.rfl h (fun b11 h => ?_) (fun b11 h => ?_)
      · obtain ⟨m14, q12, h⟩ := q_bvE h
        refine bvC (u_Mo_spread c v1 m0 _ q12) ?_
        try rw [mr88 c m14]
        refine gdT (miA c m14 e88) ?_
        obtain ⟨g15, h⟩ := p_gdE h
        refine gdT ⟨g15.1, by rw [mlA c m14 e88]; exact g15.2⟩ ?_
        try rw [mzA c m14 e88 (v2 : Int).toNat]
        refine iteC Iff.rfl h (fun b16 h => ?_) (fun b16 h => ?_)
        · try rw [mr88 c m14]
          refine gdT ⟨g15.1, by rw [mlA c m14 e88]; exact g15.2⟩ ?_
          try rw [mzA c m14 e88 (v2 : Int).toNat]
          cases h
          rfl
        · cases h
          rfl
      · cases h
        rfl
    · cases h
      rfl
def GB_Mo_reach_46 (k20 : Int → Int → h_M → Option (Int × h_M)) (v4 : Int) (w0 : Int) (w1 : Int) (m0 : h_M) : Option (Int × h_M) :=
  p_bi ((p_or6 w1 w0)) fun x2 =>
  p_bi (p_w (v4 + 1)) fun x3 =>
  k20 x2 x3 m0
def GL_Mo_reach_20 (k20 : Int → Int → h_M → Option (Int × h_M)) (v2 : Int) (v4 : Int) (m0 : h_M) : Option (Int × h_M) :=
  if 40 ≤ v4 then
    some (v2, m0)
  else
    p_gd ((0 : Int) ≤ v4 ∧ v4 < (40 : Int)) <|
    if (m0 88 (v4 : Int).toNat) < 0 then
      GB_Mo_reach_46 k20 v4 0 v2 m0
    else
      GB_Mo_reach_46 k20 v4 (p_shl6 1 v4) v2 m0
def GO_Mo_reach_20  : Nat → Int → Int → h_M → Option (Int × h_M)
  | 0 => fun _ _ _ => none
  | n + 1 => GL_Mo_reach_20 (GO_Mo_reach_20 n)
def G_Mo_reach (v1 : Int) (m0 : h_M) : Option (Int × h_M) :=
  q_bv (G_Mo_noGear v1 m0) fun r3 =>
  if r3 = 0 then
    q_bv (G_Mo_spread v1 m0) fun m8 =>
    GO_Mo_reach_20 3000 0 0 m8
  else
    some (0, m0)
set_option maxRecDepth 100000 in
set_option maxHeartbeats 4000000 in
theorem uB_Mo_reach_46 (c : h_C) (j20 : Nat → Int → Int → p_Hp → Option (Int × p_Hp)) (k20 : Int → Int → h_M → Option (Int × h_M)) (hk20 : ∀ (v2 : Int) (v4 : Int) (m0 : h_M) (r : (Int × h_M)), k20 v2 v4 m0 = some r → j20 1125 v2 v4 (h_H c m0) = some (r.1, (h_H c r.2))) (v4 : Int) (w0 : Int) (w1 : Int) (m0 : h_M) (r : (Int × h_M)) (h : GB_Mo_reach_46 k20 v4 w0 w1 m0 = some r) : B_Mo_reach_46 j20 1125 v4 w0 w1 (h_H c m0) = some (r.1, (h_H c r.2)) := by
  unfold GB_Mo_reach_46 at h
  unfold B_Mo_reach_46
  refine bV h ?_
  intro x2 h
  refine bV h ?_
  intro x3 h
  exact hk20 x2 x3 m0 _ h
set_option maxRecDepth 100000 in
set_option maxHeartbeats 4000000 in
theorem uL_Mo_reach_20 (c : h_C) (j20 : Nat → Int → Int → p_Hp → Option (Int × p_Hp)) (k20 : Int → Int → h_M → Option (Int × h_M)) (hk20 : ∀ (v2 : Int) (v4 : Int) (m0 : h_M) (r : (Int × h_M)), k20 v2 v4 m0 = some r → j20 1125 v2 v4 (h_H c m0) = some (r.1, (h_H c r.2))) (v2 : Int) (v4 : Int) (m0 : h_M) (r : (Int × h_M)) (h : GL_Mo_reach_20 k20 v2 v4 m0 = some r) : L_Mo_reach_20 j20 1125 v2 v4 (h_H c m0) = some (r.1, (h_H c r.2)) := by
  unfold GL_Mo_reach_20 at h
  unfold L_Mo_reach_20
  refine iteC Iff.rfl h (fun b1 h => ?_) (fun b1 h => ?_)
  · cases h
    rfl
  · refine gdT (miS c m0) ?_
    try rw [mr88 c m0]
    refine gdT (miA c m0 e88) ?_
    obtain ⟨g2, h⟩ := p_gdE h
    refine gdT ⟨g2.1, by rw [mlA c m0 e88]; exact g2.2⟩ ?_
    try rw [mzA c m0 e88 (v4 : Int).toNat]
    refine iteC Iff.rfl h (fun b3 h => ?_) (fun b3 h => ?_)
    · exact uB_Mo_reach_46 c j20 k20 hk20 v4 0 v2 m0 _ h
    · exact uB_Mo_reach_46 c j20 k20 hk20 v4 (p_shl6 1 v4) v2 m0 _ h
set_option maxRecDepth 100000 in
set_option maxHeartbeats 4000000 in
theorem uO_Mo_reach_20 (c : h_C)  : ∀ (n : Nat) (v2 : Int) (v4 : Int) (m0 : h_M) (r : (Int × h_M)), GO_Mo_reach_20 n v2 v4 m0 = some r → O_Mo_reach_20 n 1125 v2 v4 (h_H c m0) = some (r.1, (h_H c r.2)) := by
  intro n
  induction n with
  | zero => intro v2 v4 m0 r h; cases h
  | succ n ih => intro v2 v4 m0 r h; exact uL_Mo_reach_20 c (O_Mo_reach_20 n) (GO_Mo_reach_20 n) ih v2 v4 m0 r h
set_option maxRecDepth 100000 in
set_option maxHeartbeats 4000000 in
theorem u_Mo_reach (c : h_C) (v1 : Int) (m0 : h_M) (r : (Int × h_M)) (h : G_Mo_reach v1 m0 = some r) : F_Mo_reach 1125 v1 (h_H c m0) = some (r.1, (h_H c r.2)) := by
  unfold G_Mo_reach at h
  unfold F_Mo_reach
  refine gdT (miS c m0) ?_
  obtain ⟨r3, q1, h⟩ := q_bvE h
  refine bdC (u_Mo_noGear c v1 m0 _ q1) ?_
  refine iteC Iff.rfl h (fun b5 h => ?_) (fun b5 h => ?_)
  · obtain ⟨m8, q6, h⟩ := q_bvE h
    refine bvC (u_Mo_spread c v1 m0 _ q6) ?_
    exact uO_Mo_reach_20 c 3000 0 0 m8 _ h
  · cases h
    rfl
def G_Mo_ring (v1 : Int) (m0 : h_M) : Option (Int × h_M) :=
  q_bv (G_Mo_noGear v1 m0) fun r3 =>
  if r3 = 0 then
    q_bv (G_Mo_spread v1 m0) fun m8 =>
    p_gd ((0 : Int) ≤ v1 ∧ v1 < (40 : Int)) <|
    if 0 ≤ (m8 88 (v1 : Int).toNat) then
      some ((m8 88 (v1 : Int).toNat), m8)
    else
      some ((-9), m8)
  else
    some ((-1), m0)
set_option maxRecDepth 100000 in
set_option maxHeartbeats 4000000 in
theorem u_Mo_ring (c : h_C) (v1 : Int) (m0 : h_M) (r : (Int × h_M)) (h : G_Mo_ring v1 m0 = some r) : F_Mo_ring 1125 v1 (h_H c m0) = some (r.1, (h_H c r.2)) := by
  unfold G_Mo_ring at h
  unfold F_Mo_ring
  refine gdT (miS c m0) ?_
  obtain ⟨r3, q1, h⟩ := q_bvE h
  refine bdC (u_Mo_noGear c v1 m0 _ q1) ?_
  refine iteC Iff.rfl h (fun b5 h => ?_) (fun b5 h => ?_)
  · obtain ⟨m8, q6, h⟩ := q_bvE h
    refine bvC (u_Mo_spread c v1 m0 _ q6) ?_
    try rw [mr88 c m8]
    refine gdT (miA c m8 e88) ?_
    obtain ⟨g9, h⟩ := p_gdE h
    refine gdT ⟨g9.1, by rw [mlA c m8 e88]; exact g9.2⟩ ?_
    try rw [mzA c m8 e88 (v1 : Int).toNat]
    refine iteC Iff.rfl h (fun b10 h => ?_) (fun b10 h => ?_)
    · try rw [mr88 c m8]
      refine gdT ⟨g9.1, by rw [mlA c m8 e88]; exact g9.2⟩ ?_
      try rw [mzA c m8 e88 (v1 : Int).toNat]
      cases h
      rfl
    · cases h
      rfl
  · cases h
    rfl
def GL_Mo_audit_2 (k2 : Int → h_M → Option Int) (v1 : Int) (m0 : h_M) : Option Int :=
  p_gd ((0 : Int) ≤ (m0 100 0) ∧ (m0 100 0) < (3 : Int)) <|
  if (m0 3 ((m0 100 0) : Int).toNat) ≤ v1 then
    some (-9)
  else
    q_bv (G_Mo_g v1 m0) fun r5 =>
    p_gd ((0 : Int) ≤ r5 ∧ r5 < (120 : Int)) <|
    q_bv (G_Mo_g v1 m0) fun r10 =>
    p_gd ((0 : Int) ≤ r10 ∧ r10 < (120 : Int)) <|
    q_bv (G_Mo_g v1 m0) fun r15 =>
    q_bv (G_Mo_loadOf r15 m0) fun r19 =>
    if (p_w ((m0 18 (r5 : Int).toNat) - (m0 19 (r10 : Int).toNat))) = r19 then
      p_bi (p_w (v1 + 1)) fun x22 =>
      k2 x22 m0
    else
      some v1
def GO_Mo_audit_2  : Nat → Int → h_M → Option Int
  | 0 => fun _ _ => none
  | n + 1 => GL_Mo_audit_2 (GO_Mo_audit_2 n)
def G_Mo_audit  (m0 : h_M) : Option Int :=
  GO_Mo_audit_2 3000 0 m0
set_option maxRecDepth 100000 in
set_option maxHeartbeats 4000000 in
theorem uL_Mo_audit_2 (c : h_C) (j2 : Nat → Int → p_Hp → Option (Int × p_Hp)) (k2 : Int → h_M → Option Int) (hk2 : ∀ (v1 : Int) (m0 : h_M) (r : Int), k2 v1 m0 = some r → j2 1125 v1 (h_H c m0) = some (r, (h_H c m0))) (v1 : Int) (m0 : h_M) (r : Int) (h : GL_Mo_audit_2 k2 v1 m0 = some r) : L_Mo_audit_2 j2 1125 v1 (h_H c m0) = some (r, (h_H c m0)) := by
  unfold GL_Mo_audit_2 at h
  unfold L_Mo_audit_2
  refine gdT (miS c m0) ?_
  try rw [mr3 c m0]
  try rw [zs0 c m0]
  refine gdT (miA c m0 e3) ?_
  obtain ⟨g1, h⟩ := p_gdE h
  refine gdT ⟨g1.1, by rw [mlA c m0 e3]; exact g1.2⟩ ?_
  try rw [mzA c m0 e3 ((m0 100 0) : Int).toNat]
  refine iteC Iff.rfl h (fun b2 h => ?_) (fun b2 h => ?_)
  · cases h
    rfl
  · try rw [mr18 c m0]
    obtain ⟨r5, q3, h⟩ := q_bvE h
    refine bdC (u_Mo_g c v1 m0 _ q3) ?_
    refine gdT (miA c m0 e18) ?_
    obtain ⟨g7, h⟩ := p_gdE h
    refine gdT ⟨g7.1, by rw [mlA c m0 e18]; exact g7.2⟩ ?_
    try rw [mzA c m0 e18 (r5 : Int).toNat]
    try rw [mr19 c m0]
    obtain ⟨r10, q8, h⟩ := q_bvE h
    refine bdC (u_Mo_g c v1 m0 _ q8) ?_
    refine gdT (miA c m0 e19) ?_
    obtain ⟨g12, h⟩ := p_gdE h
    refine gdT ⟨g12.1, by rw [mlA c m0 e19]; exact g12.2⟩ ?_
    try rw [mzA c m0 e19 (r10 : Int).toNat]
    obtain ⟨r15, q13, h⟩ := q_bvE h
    refine bdC (u_Mo_g c v1 m0 _ q13) ?_
    obtain ⟨r19, q17, h⟩ := q_bvE h
    refine bdC (u_Mo_loadOf c r15 m0 _ q17) ?_
    refine iteC Iff.rfl h (fun b21 h => ?_) (fun b21 h => ?_)
    · refine bV h ?_
      intro x22 h
      exact hk2 x22 m0 _ h
    · cases h
      rfl
set_option maxRecDepth 100000 in
set_option maxHeartbeats 4000000 in
theorem uO_Mo_audit_2 (c : h_C)  : ∀ (n : Nat) (v1 : Int) (m0 : h_M) (r : Int), GO_Mo_audit_2 n v1 m0 = some r → O_Mo_audit_2 n 1125 v1 (h_H c m0) = some (r, (h_H c m0)) := by
  intro n
  induction n with
  | zero => intro v1 m0 r h; cases h
  | succ n ih => intro v1 m0 r h; exact uL_Mo_audit_2 c (O_Mo_audit_2 n) (GO_Mo_audit_2 n) ih v1 m0 r h
set_option maxRecDepth 100000 in
set_option maxHeartbeats 4000000 in
theorem u_Mo_audit (c : h_C)  (m0 : h_M) (r : Int) (h : G_Mo_audit  m0 = some r) : F_Mo_audit 1125 (h_H c m0) = some (r, (h_H c m0)) := by
  unfold G_Mo_audit at h
  unfold F_Mo_audit
  exact uO_Mo_audit_2 c 3000 0 m0 _ h
def G_Mo_count (v1 : Int) (m0 : h_M) : Option Int :=
  if v1 = 0 then
    p_gd ((0 : Int) ≤ (m0 100 0) ∧ (m0 100 0) < (3 : Int)) <|
    some (m0 3 ((m0 100 0) : Int).toNat)
  else if v1 = 1 then
    p_gd ((0 : Int) ≤ (m0 100 0) ∧ (m0 100 0) < (3 : Int)) <|
    some (m0 38 ((m0 100 0) : Int).toNat)
  else if v1 = 2 then
    p_gd ((0 : Int) ≤ (m0 100 0) ∧ (m0 100 0) < (3 : Int)) <|
    some (m0 39 ((m0 100 0) : Int).toNat)
  else if v1 = 3 then
    p_gd ((0 : Int) ≤ (m0 100 0) ∧ (m0 100 0) < (3 : Int)) <|
    some (m0 40 ((m0 100 0) : Int).toNat)
  else if v1 = 4 then
    p_gd ((0 : Int) ≤ (m0 100 0) ∧ (m0 100 0) < (3 : Int)) <|
    some (m0 48 ((m0 100 0) : Int).toNat)
  else if v1 = 5 then
    p_gd ((0 : Int) ≤ (m0 100 0) ∧ (m0 100 0) < (3 : Int)) <|
    some (m0 4 ((m0 100 0) : Int).toNat)
  else if v1 = 6 then
    p_gd ((0 : Int) ≤ (m0 100 0) ∧ (m0 100 0) < (3 : Int)) <|
    some (m0 42 ((m0 100 0) : Int).toNat)
  else if v1 = 7 then
    some (m0 102 0)
  else if v1 = 8 then
    p_gd ((0 : Int) ≤ (m0 100 0) ∧ (m0 100 0) < (3 : Int)) <|
    some (m0 81 ((m0 100 0) : Int).toNat)
  else if v1 = 9 then
    p_gd ((0 : Int) ≤ (m0 100 0) ∧ (m0 100 0) < (3 : Int)) <|
    some (m0 44 ((m0 100 0) : Int).toNat)
  else if v1 = 10 then
    some (m0 147 0)
  else if v1 = 11 then
    p_gd ((0 : Int) ≤ (m0 100 0) ∧ (m0 100 0) < (3 : Int)) <|
    some (m0 56 ((m0 100 0) : Int).toNat)
  else if v1 = 12 then
    some (m0 100 0)
  else if v1 = 13 then
    some (m0 123 0)
  else 
  some (-9)
set_option maxRecDepth 100000 in
set_option maxHeartbeats 4000000 in
theorem u_Mo_count (c : h_C) (v1 : Int) (m0 : h_M) (r : Int) (h : G_Mo_count v1 m0 = some r) : F_Mo_count 1125 v1 (h_H c m0) = some (r, (h_H c m0)) := by
  unfold G_Mo_count at h
  unfold F_Mo_count
  refine iteC Iff.rfl h (fun b1 h => ?_) (fun b1 h => ?_)
  · refine gdT (miS c m0) ?_
    try rw [mr3 c m0]
    try rw [zs0 c m0]
    refine gdT (miA c m0 e3) ?_
    obtain ⟨g2, h⟩ := p_gdE h
    refine gdT ⟨g2.1, by rw [mlA c m0 e3]; exact g2.2⟩ ?_
    try rw [mzA c m0 e3 ((m0 100 0) : Int).toNat]
    cases h
    rfl
  refine iteC Iff.rfl h (fun b3 h => ?_) (fun b3 h => ?_)
  · refine gdT (miS c m0) ?_
    try rw [mr38 c m0]
    try rw [zs0 c m0]
    refine gdT (miA c m0 e38) ?_
    obtain ⟨g4, h⟩ := p_gdE h
    refine gdT ⟨g4.1, by rw [mlA c m0 e38]; exact g4.2⟩ ?_
    try rw [mzA c m0 e38 ((m0 100 0) : Int).toNat]
    cases h
    rfl
  refine iteC Iff.rfl h (fun b5 h => ?_) (fun b5 h => ?_)
  · refine gdT (miS c m0) ?_
    try rw [mr39 c m0]
    try rw [zs0 c m0]
    refine gdT (miA c m0 e39) ?_
    obtain ⟨g6, h⟩ := p_gdE h
    refine gdT ⟨g6.1, by rw [mlA c m0 e39]; exact g6.2⟩ ?_
    try rw [mzA c m0 e39 ((m0 100 0) : Int).toNat]
    cases h
    rfl
  refine iteC Iff.rfl h (fun b7 h => ?_) (fun b7 h => ?_)
  · refine gdT (miS c m0) ?_
    try rw [mr40 c m0]
    try rw [zs0 c m0]
    refine gdT (miA c m0 e40) ?_
    obtain ⟨g8, h⟩ := p_gdE h
    refine gdT ⟨g8.1, by rw [mlA c m0 e40]; exact g8.2⟩ ?_
    try rw [mzA c m0 e40 ((m0 100 0) : Int).toNat]
    cases h
    rfl
  refine iteC Iff.rfl h (fun b9 h => ?_) (fun b9 h => ?_)
  · refine gdT (miS c m0) ?_
    try rw [mr48 c m0]
    try rw [zs0 c m0]
    refine gdT (miA c m0 e48) ?_
    obtain ⟨g10, h⟩ := p_gdE h
    refine gdT ⟨g10.1, by rw [mlA c m0 e48]; exact g10.2⟩ ?_
    try rw [mzA c m0 e48 ((m0 100 0) : Int).toNat]
    cases h
    rfl
  refine iteC Iff.rfl h (fun b11 h => ?_) (fun b11 h => ?_)
  · refine gdT (miS c m0) ?_
    try rw [mr4 c m0]
    try rw [zs0 c m0]
    refine gdT (miA c m0 e4) ?_
    obtain ⟨g12, h⟩ := p_gdE h
    refine gdT ⟨g12.1, by rw [mlA c m0 e4]; exact g12.2⟩ ?_
    try rw [mzA c m0 e4 ((m0 100 0) : Int).toNat]
    cases h
    rfl
  refine iteC Iff.rfl h (fun b13 h => ?_) (fun b13 h => ?_)
  · refine gdT (miS c m0) ?_
    try rw [mr42 c m0]
    try rw [zs0 c m0]
    refine gdT (miA c m0 e42) ?_
    obtain ⟨g14, h⟩ := p_gdE h
    refine gdT ⟨g14.1, by rw [mlA c m0 e42]; exact g14.2⟩ ?_
    try rw [mzA c m0 e42 ((m0 100 0) : Int).toNat]
    cases h
    rfl
  refine iteC Iff.rfl h (fun b15 h => ?_) (fun b15 h => ?_)
  · refine gdT (miS c m0) ?_
    try rw [zs2 c m0]
    cases h
    rfl
  refine iteC Iff.rfl h (fun b16 h => ?_) (fun b16 h => ?_)
  · refine gdT (miS c m0) ?_
    try rw [mr81 c m0]
    try rw [zs0 c m0]
    refine gdT (miA c m0 e81) ?_
    obtain ⟨g17, h⟩ := p_gdE h
    refine gdT ⟨g17.1, by rw [mlA c m0 e81]; exact g17.2⟩ ?_
    try rw [mzA c m0 e81 ((m0 100 0) : Int).toNat]
    cases h
    rfl
  refine iteC Iff.rfl h (fun b18 h => ?_) (fun b18 h => ?_)
  · refine gdT (miS c m0) ?_
    try rw [mr44 c m0]
    try rw [zs0 c m0]
    refine gdT (miA c m0 e44) ?_
    obtain ⟨g19, h⟩ := p_gdE h
    refine gdT ⟨g19.1, by rw [mlA c m0 e44]; exact g19.2⟩ ?_
    try rw [mzA c m0 e44 ((m0 100 0) : Int).toNat]
    cases h
    rfl
  refine iteC Iff.rfl h (fun b20 h => ?_) (fun b20 h => ?_)
  · refine gdT (miS c m0) ?_
    try rw [zs47 c m0]
    cases h
    rfl
  refine iteC Iff.rfl h (fun b21 h => ?_) (fun b21 h => ?_)
  · refine gdT (miS c m0) ?_
    try rw [mr56 c m0]
    try rw [zs0 c m0]
    refine gdT (miA c m0 e56) ?_
    obtain ⟨g22, h⟩ := p_gdE h
    refine gdT ⟨g22.1, by rw [mlA c m0 e56]; exact g22.2⟩ ?_
    try rw [mzA c m0 e56 ((m0 100 0) : Int).toNat]
    cases h
    rfl
  refine iteC Iff.rfl h (fun b23 h => ?_) (fun b23 h => ?_)
  · refine gdT (miS c m0) ?_
    try rw [zs0 c m0]
    cases h
    rfl
  refine iteC Iff.rfl h (fun b24 h => ?_) (fun b24 h => ?_)
  · refine gdT (miS c m0) ?_
    try rw [zs23 c m0]
    cases h
    rfl
  cases h
  rfl
def G_Mo_adds (v1 : Int) (m0 : h_M) : Option h_M :=
  p_bi (wm m0 189 0 (p_w6 ((p_w6 (31 * (m0 189 0))) + v1))) fun m1 =>
  some m1
set_option maxRecDepth 100000 in
set_option maxHeartbeats 4000000 in
theorem u_Mo_adds (c : h_C) (v1 : Int) (m0 : h_M) (r : h_M) (h : G_Mo_adds v1 m0 = some r) : F_Mo_adds 1125 v1 (h_H c m0) = some (h_H c r) := by
  unfold G_Mo_adds at h
  unfold F_Mo_adds
  refine gdT (miS c m0) ?_
  try rw [zs89 c m0]
  refine bM (ws89 c m0 _) h ?_
  intro m1 h
  cases h
  rfl
def GB_Mo_digest_160 (k35 : Int → h_M → Option (Int × h_M)) (k90 : Int → Int → Int → h_M → Option (Int × h_M)) (v1 : Int) (v2 : Int) (v3 : Int) (m0 : h_M) : Option (Int × h_M) :=
  p_bi (p_w (v3 + 1)) fun x1 =>
  k90 v1 v2 x1 m0
def GB_Mo_digest_141 (k35 : Int → h_M → Option (Int × h_M)) (k90 : Int → Int → Int → h_M → Option (Int × h_M)) (v1 : Int) (v2 : Int) (v3 : Int) (v4 : Int) (w0 : Int) (m0 : h_M) : Option (Int × h_M) :=
  q_bv (G_Mo_adds w0 m0) fun m3 =>
  if v4 ≤ 0 then
    GB_Mo_digest_160 k35 k90 v1 v2 v3 m3
  else
    p_gd ((0 : Int) ≤ v4 ∧ v4 < (2001 : Int)) <|
    q_bv (G_Mo_adds (m3 30 (v4 : Int).toNat) m3) fun m8 =>
    GB_Mo_digest_160 k35 k90 v1 v2 v3 m8
def GL_Mo_digest_90 (k35 : Int → h_M → Option (Int × h_M)) (k90 : Int → Int → Int → h_M → Option (Int × h_M)) (v1 : Int) (v2 : Int) (v3 : Int) (m0 : h_M) : Option (Int × h_M) :=
  p_gd ((0 : Int) ≤ v2 ∧ v2 < (120 : Int)) <|
  if (m0 6 (v2 : Int).toNat) ≤ v3 then
    p_bi (p_w (v1 + 1)) fun x3 =>
    k35 x3 m0
  else
    p_gd ((0 : Int) ≤ (p_w ((p_w (8 * v2)) + v3)) ∧ (p_w ((p_w (8 * v2)) + v3)) < (960 : Int)) <|
    p_bi ((m0 22 ((p_w ((p_w (8 * v2)) + v3)) : Int).toNat)) fun x7 =>
    if x7 ≠ 0 then
      p_gd ((0 : Int) ≤ x7 ∧ x7 < (2001 : Int)) <|
      GB_Mo_digest_141 k35 k90 v1 v2 v3 x7 (p_w ((p_w (16 * (m0 28 (x7 : Int).toNat))) + (m0 29 (x7 : Int).toNat))) m0
    else
      GB_Mo_digest_141 k35 k90 v1 v2 v3 x7 0 m0
def GO_Mo_digest_90 (k35 : Int → h_M → Option (Int × h_M)) : Nat → Int → Int → Int → h_M → Option (Int × h_M)
  | 0 => fun _ _ _ _ => none
  | n + 1 => GL_Mo_digest_90 k35 (GO_Mo_digest_90 k35 n)
def GL_Mo_digest_66 (k35 : Int → h_M → Option (Int × h_M)) (k66 : Int → Int → Int → h_M → Option (Int × h_M)) (v1 : Int) (v2 : Int) (v3 : Int) (m0 : h_M) : Option (Int × h_M) :=
  if 15 ≤ v3 then
    GO_Mo_digest_90 k35 3000 v1 v2 0 m0
  else
    q_bv (G_Mo_told v1 v3 m0) fun r4 =>
    q_bv (G_Mo_adds r4 m0) fun m8 =>
    p_bi (p_w (v3 + 1)) fun x9 =>
    k66 v1 v2 x9 m8
def GO_Mo_digest_66 (k35 : Int → h_M → Option (Int × h_M)) : Nat → Int → Int → Int → h_M → Option (Int × h_M)
  | 0 => fun _ _ _ _ => none
  | n + 1 => GL_Mo_digest_66 k35 (GO_Mo_digest_66 k35 n)
def GL_Mo_digest_35 (k35 : Int → h_M → Option (Int × h_M)) (v1 : Int) (m0 : h_M) : Option (Int × h_M) :=
  p_gd ((0 : Int) ≤ (m0 100 0) ∧ (m0 100 0) < (3 : Int)) <|
  if (m0 3 ((m0 100 0) : Int).toNat) ≤ v1 then
    q_bv (G_Mo_adds (m0 38 ((m0 100 0) : Int).toNat) m0) fun m5 =>
    p_gd ((0 : Int) ≤ (m5 100 0) ∧ (m5 100 0) < (3 : Int)) <|
    q_bv (G_Mo_adds (m5 39 ((m5 100 0) : Int).toNat) m5) fun m9 =>
    p_gd ((0 : Int) ≤ (m9 100 0) ∧ (m9 100 0) < (3 : Int)) <|
    q_bv (G_Mo_adds (m9 40 ((m9 100 0) : Int).toNat) m9) fun m13 =>
    p_gd ((0 : Int) ≤ (m13 100 0) ∧ (m13 100 0) < (3 : Int)) <|
    q_bv (G_Mo_adds (m13 42 ((m13 100 0) : Int).toNat) m13) fun m17 =>
    some ((m17 189 0), m17)
  else
    q_bv (G_Mo_g v1 m0) fun r20 =>
    p_gd ((0 : Int) ≤ r20 ∧ r20 < (120 : Int)) <|
    q_bv (G_Mo_adds (m0 5 (r20 : Int).toNat) m0) fun m25 =>
    GO_Mo_digest_66 k35 3000 v1 r20 2 m25
def GO_Mo_digest_35  : Nat → Int → h_M → Option (Int × h_M)
  | 0 => fun _ _ => none
  | n + 1 => GL_Mo_digest_35 (GO_Mo_digest_35 n)
def G_Mo_digest  (m0 : h_M) : Option (Int × h_M) :=
  p_bi (wm m0 189 0 17) fun m1 =>
  p_gd ((0 : Int) ≤ (m1 100 0) ∧ (m1 100 0) < (3 : Int)) <|
  q_bv (G_Mo_adds (m1 4 ((m1 100 0) : Int).toNat) m1) fun m6 =>
  p_gd ((0 : Int) ≤ (m6 100 0) ∧ (m6 100 0) < (3 : Int)) <|
  q_bv (G_Mo_adds (m6 3 ((m6 100 0) : Int).toNat) m6) fun m10 =>
  GO_Mo_digest_35 3000 0 m10
set_option maxRecDepth 100000 in
set_option maxHeartbeats 4000000 in
theorem uB_Mo_digest_160 (c : h_C) (j35 : Nat → Int → p_Hp → Option (Int × p_Hp)) (k35 : Int → h_M → Option (Int × h_M)) (hk35 : ∀ (v1 : Int) (m0 : h_M) (r : (Int × h_M)), k35 v1 m0 = some r → j35 1125 v1 (h_H c m0) = some (r.1, (h_H c r.2))) (j90 : Nat → Int → Int → Int → p_Hp → Option (Int × p_Hp)) (k90 : Int → Int → Int → h_M → Option (Int × h_M)) (hk90 : ∀ (v1 : Int) (v2 : Int) (v3 : Int) (m0 : h_M) (r : (Int × h_M)), k90 v1 v2 v3 m0 = some r → j90 1125 v1 v2 v3 (h_H c m0) = some (r.1, (h_H c r.2))) (v1 : Int) (v2 : Int) (v3 : Int) (m0 : h_M) (r : (Int × h_M)) (h : GB_Mo_digest_160 k35 k90 v1 v2 v3 m0 = some r) : B_Mo_digest_160 j35 j90 1125 v1 v2 v3 (h_H c m0) = some (r.1, (h_H c r.2)) := by
  unfold GB_Mo_digest_160 at h
  unfold B_Mo_digest_160
  refine bV h ?_
  intro x1 h
  exact hk90 v1 v2 x1 m0 _ h
set_option maxRecDepth 100000 in
set_option maxHeartbeats 4000000 in
theorem uB_Mo_digest_141 (c : h_C) (j35 : Nat → Int → p_Hp → Option (Int × p_Hp)) (k35 : Int → h_M → Option (Int × h_M)) (hk35 : ∀ (v1 : Int) (m0 : h_M) (r : (Int × h_M)), k35 v1 m0 = some r → j35 1125 v1 (h_H c m0) = some (r.1, (h_H c r.2))) (j90 : Nat → Int → Int → Int → p_Hp → Option (Int × p_Hp)) (k90 : Int → Int → Int → h_M → Option (Int × h_M)) (hk90 : ∀ (v1 : Int) (v2 : Int) (v3 : Int) (m0 : h_M) (r : (Int × h_M)), k90 v1 v2 v3 m0 = some r → j90 1125 v1 v2 v3 (h_H c m0) = some (r.1, (h_H c r.2))) (v1 : Int) (v2 : Int) (v3 : Int) (v4 : Int) (w0 : Int) (m0 : h_M) (r : (Int × h_M)) (h : GB_Mo_digest_141 k35 k90 v1 v2 v3 v4 w0 m0 = some r) : B_Mo_digest_141 j35 j90 1125 v1 v2 v3 v4 w0 1125 (h_H c m0) = some (r.1, (h_H c r.2)) := by
  unfold GB_Mo_digest_141 at h
  unfold B_Mo_digest_141
  refine gdT (miS c m0) ?_
  obtain ⟨m3, q1, h⟩ := q_bvE h
  refine bvC (u_Mo_adds c w0 m0 _ q1) ?_
  refine iteC Iff.rfl h (fun b4 h => ?_) (fun b4 h => ?_)
  · exact uB_Mo_digest_160 c j35 k35 hk35 j90 k90 hk90 v1 v2 v3 m3 _ h
  · refine gdT (miS c m3) ?_
    try rw [mr30 c m3]
    refine gdT (miA c m3 e30) ?_
    obtain ⟨g5, h⟩ := p_gdE h
    refine gdT ⟨g5.1, by rw [mlA c m3 e30]; exact g5.2⟩ ?_
    try rw [mzA c m3 e30 (v4 : Int).toNat]
    obtain ⟨m8, q6, h⟩ := q_bvE h
    refine bvC (u_Mo_adds c (m3 30 (v4 : Int).toNat) m3 _ q6) ?_
    exact uB_Mo_digest_160 c j35 k35 hk35 j90 k90 hk90 v1 v2 v3 m8 _ h
set_option maxRecDepth 100000 in
set_option maxHeartbeats 4000000 in
theorem uL_Mo_digest_90 (c : h_C) (j35 : Nat → Int → p_Hp → Option (Int × p_Hp)) (k35 : Int → h_M → Option (Int × h_M)) (hk35 : ∀ (v1 : Int) (m0 : h_M) (r : (Int × h_M)), k35 v1 m0 = some r → j35 1125 v1 (h_H c m0) = some (r.1, (h_H c r.2))) (j90 : Nat → Int → Int → Int → p_Hp → Option (Int × p_Hp)) (k90 : Int → Int → Int → h_M → Option (Int × h_M)) (hk90 : ∀ (v1 : Int) (v2 : Int) (v3 : Int) (m0 : h_M) (r : (Int × h_M)), k90 v1 v2 v3 m0 = some r → j90 1125 v1 v2 v3 (h_H c m0) = some (r.1, (h_H c r.2))) (v1 : Int) (v2 : Int) (v3 : Int) (m0 : h_M) (r : (Int × h_M)) (h : GL_Mo_digest_90 k35 k90 v1 v2 v3 m0 = some r) : L_Mo_digest_90 j35 j90 1125 v1 v2 v3 (h_H c m0) = some (r.1, (h_H c r.2)) := by
  unfold GL_Mo_digest_90 at h
  unfold L_Mo_digest_90
  refine gdT (miS c m0) ?_
  try rw [mr6 c m0]
  refine gdT (miA c m0 e6) ?_
  obtain ⟨g1, h⟩ := p_gdE h
  refine gdT ⟨g1.1, by rw [mlA c m0 e6]; exact g1.2⟩ ?_
  try rw [mzA c m0 e6 (v2 : Int).toNat]
  refine iteC Iff.rfl h (fun b2 h => ?_) (fun b2 h => ?_)
  · refine bV h ?_
    intro x3 h
    exact hk35 x3 m0 _ h
  · try rw [mr22 c m0]
    refine gdT (miA c m0 e22) ?_
    obtain ⟨g5, h⟩ := p_gdE h
    refine gdT ⟨g5.1, by rw [mlA c m0 e22]; exact g5.2⟩ ?_
    try rw [mzA c m0 e22 ((p_w ((p_w (8 * v2)) + v3)) : Int).toNat]
    refine bV h ?_
    intro x7 h
    refine iteC Iff.rfl h (fun b8 h => ?_) (fun b8 h => ?_)
    · try rw [mr28 c m0]
      refine gdT (miA c m0 e28) ?_
      obtain ⟨g9, h⟩ := p_gdE h
      refine gdT ⟨g9.1, by rw [mlA c m0 e28]; exact g9.2⟩ ?_
      try rw [mzA c m0 e28 (x7 : Int).toNat]
      try rw [mr29 c m0]
      refine gdT (miA c m0 e29) ?_
      refine gdT ⟨g9.1, by rw [mlA c m0 e29]; exact g9.2⟩ ?_
      try rw [mzA c m0 e29 (x7 : Int).toNat]
      exact uB_Mo_digest_141 c j35 k35 hk35 j90 k90 hk90 v1 v2 v3 x7 (p_w ((p_w (16 * (m0 28 (x7 : Int).toNat))) + (m0 29 (x7 : Int).toNat))) m0 _ h
    · exact uB_Mo_digest_141 c j35 k35 hk35 j90 k90 hk90 v1 v2 v3 x7 0 m0 _ h
set_option maxRecDepth 100000 in
set_option maxHeartbeats 4000000 in
theorem uO_Mo_digest_90 (c : h_C) (j35 : Nat → Int → p_Hp → Option (Int × p_Hp)) (k35 : Int → h_M → Option (Int × h_M)) (hk35 : ∀ (v1 : Int) (m0 : h_M) (r : (Int × h_M)), k35 v1 m0 = some r → j35 1125 v1 (h_H c m0) = some (r.1, (h_H c r.2))) : ∀ (n : Nat) (v1 : Int) (v2 : Int) (v3 : Int) (m0 : h_M) (r : (Int × h_M)), GO_Mo_digest_90 k35 n v1 v2 v3 m0 = some r → O_Mo_digest_90 j35 n 1125 v1 v2 v3 (h_H c m0) = some (r.1, (h_H c r.2)) := by
  intro n
  induction n with
  | zero => intro v1 v2 v3 m0 r h; cases h
  | succ n ih => intro v1 v2 v3 m0 r h; exact uL_Mo_digest_90 c j35 k35 hk35 (O_Mo_digest_90 j35 n) (GO_Mo_digest_90 k35 n) ih v1 v2 v3 m0 r h
set_option maxRecDepth 100000 in
set_option maxHeartbeats 4000000 in
theorem uL_Mo_digest_66 (c : h_C) (j35 : Nat → Int → p_Hp → Option (Int × p_Hp)) (k35 : Int → h_M → Option (Int × h_M)) (hk35 : ∀ (v1 : Int) (m0 : h_M) (r : (Int × h_M)), k35 v1 m0 = some r → j35 1125 v1 (h_H c m0) = some (r.1, (h_H c r.2))) (j66 : Nat → Int → Int → Int → p_Hp → Option (Int × p_Hp)) (k66 : Int → Int → Int → h_M → Option (Int × h_M)) (hk66 : ∀ (v1 : Int) (v2 : Int) (v3 : Int) (m0 : h_M) (r : (Int × h_M)), k66 v1 v2 v3 m0 = some r → j66 1125 v1 v2 v3 (h_H c m0) = some (r.1, (h_H c r.2))) (v1 : Int) (v2 : Int) (v3 : Int) (m0 : h_M) (r : (Int × h_M)) (h : GL_Mo_digest_66 k35 k66 v1 v2 v3 m0 = some r) : L_Mo_digest_66 j35 j66 1125 v1 v2 v3 (h_H c m0) = some (r.1, (h_H c r.2)) := by
  unfold GL_Mo_digest_66 at h
  unfold L_Mo_digest_66
  refine iteC Iff.rfl h (fun b1 h => ?_) (fun b1 h => ?_)
  · exact uO_Mo_digest_90 c j35 k35 hk35 3000 v1 v2 0 m0 _ h
  · refine gdT (miS c m0) ?_
    obtain ⟨r4, q2, h⟩ := q_bvE h
    refine bdC (u_Mo_told c v1 v3 m0 _ q2) ?_
    obtain ⟨m8, q6, h⟩ := q_bvE h
    refine bvC (u_Mo_adds c r4 m0 _ q6) ?_
    refine bV h ?_
    intro x9 h
    exact hk66 v1 v2 x9 m8 _ h
set_option maxRecDepth 100000 in
set_option maxHeartbeats 4000000 in
theorem uO_Mo_digest_66 (c : h_C) (j35 : Nat → Int → p_Hp → Option (Int × p_Hp)) (k35 : Int → h_M → Option (Int × h_M)) (hk35 : ∀ (v1 : Int) (m0 : h_M) (r : (Int × h_M)), k35 v1 m0 = some r → j35 1125 v1 (h_H c m0) = some (r.1, (h_H c r.2))) : ∀ (n : Nat) (v1 : Int) (v2 : Int) (v3 : Int) (m0 : h_M) (r : (Int × h_M)), GO_Mo_digest_66 k35 n v1 v2 v3 m0 = some r → O_Mo_digest_66 j35 n 1125 v1 v2 v3 (h_H c m0) = some (r.1, (h_H c r.2)) := by
  intro n
  induction n with
  | zero => intro v1 v2 v3 m0 r h; cases h
  | succ n ih => intro v1 v2 v3 m0 r h; exact uL_Mo_digest_66 c j35 k35 hk35 (O_Mo_digest_66 j35 n) (GO_Mo_digest_66 k35 n) ih v1 v2 v3 m0 r h
set_option maxRecDepth 100000 in
set_option maxHeartbeats 4000000 in
theorem uL_Mo_digest_35 (c : h_C) (j35 : Nat → Int → p_Hp → Option (Int × p_Hp)) (k35 : Int → h_M → Option (Int × h_M)) (hk35 : ∀ (v1 : Int) (m0 : h_M) (r : (Int × h_M)), k35 v1 m0 = some r → j35 1125 v1 (h_H c m0) = some (r.1, (h_H c r.2))) (v1 : Int) (m0 : h_M) (r : (Int × h_M)) (h : GL_Mo_digest_35 k35 v1 m0 = some r) : L_Mo_digest_35 j35 1125 v1 (h_H c m0) = some (r.1, (h_H c r.2)) := by
  unfold GL_Mo_digest_35 at h
  unfold L_Mo_digest_35
  refine gdT (miS c m0) ?_
  try rw [mr3 c m0]
  try rw [zs0 c m0]
  refine gdT (miA c m0 e3) ?_
  obtain ⟨g1, h⟩ := p_gdE h
  refine gdT ⟨g1.1, by rw [mlA c m0 e3]; exact g1.2⟩ ?_
  try rw [mzA c m0 e3 ((m0 100 0) : Int).toNat]
  refine iteC Iff.rfl h (fun b2 h => ?_) (fun b2 h => ?_)
  · try rw [mr38 c m0]
    try rw [zs0 c m0]
    refine gdT (miA c m0 e38) ?_
    refine gdT ⟨g1.1, by rw [mlA c m0 e38]; exact g1.2⟩ ?_
    try rw [mzA c m0 e38 ((m0 100 0) : Int).toNat]
    obtain ⟨m5, q3, h⟩ := q_bvE h
    refine bvC (u_Mo_adds c (m0 38 ((m0 100 0) : Int).toNat) m0 _ q3) ?_
    try rw [mr39 c m5]
    try rw [zs0 c m5]
    refine gdT (miA c m5 e39) ?_
    obtain ⟨g6, h⟩ := p_gdE h
    refine gdT ⟨g6.1, by rw [mlA c m5 e39]; exact g6.2⟩ ?_
    try rw [mzA c m5 e39 ((m5 100 0) : Int).toNat]
    obtain ⟨m9, q7, h⟩ := q_bvE h
    refine bvC (u_Mo_adds c (m5 39 ((m5 100 0) : Int).toNat) m5 _ q7) ?_
    try rw [mr40 c m9]
    try rw [zs0 c m9]
    refine gdT (miA c m9 e40) ?_
    obtain ⟨g10, h⟩ := p_gdE h
    refine gdT ⟨g10.1, by rw [mlA c m9 e40]; exact g10.2⟩ ?_
    try rw [mzA c m9 e40 ((m9 100 0) : Int).toNat]
    obtain ⟨m13, q11, h⟩ := q_bvE h
    refine bvC (u_Mo_adds c (m9 40 ((m9 100 0) : Int).toNat) m9 _ q11) ?_
    try rw [mr42 c m13]
    try rw [zs0 c m13]
    refine gdT (miA c m13 e42) ?_
    obtain ⟨g14, h⟩ := p_gdE h
    refine gdT ⟨g14.1, by rw [mlA c m13 e42]; exact g14.2⟩ ?_
    try rw [mzA c m13 e42 ((m13 100 0) : Int).toNat]
    obtain ⟨m17, q15, h⟩ := q_bvE h
    refine bvC (u_Mo_adds c (m13 42 ((m13 100 0) : Int).toNat) m13 _ q15) ?_
    try rw [zs89 c m17]
    cases h
    rfl
  · obtain ⟨r20, q18, h⟩ := q_bvE h
    refine bdC (u_Mo_g c v1 m0 _ q18) ?_
    try rw [mr5 c m0]
    refine gdT (miA c m0 e5) ?_
    obtain ⟨g22, h⟩ := p_gdE h
    refine gdT ⟨g22.1, by rw [mlA c m0 e5]; exact g22.2⟩ ?_
    try rw [mzA c m0 e5 (r20 : Int).toNat]
    obtain ⟨m25, q23, h⟩ := q_bvE h
    refine bvC (u_Mo_adds c (m0 5 (r20 : Int).toNat) m0 _ q23) ?_
    exact uO_Mo_digest_66 c j35 k35 hk35 3000 v1 r20 2 m25 _ h
set_option maxRecDepth 100000 in
set_option maxHeartbeats 4000000 in
theorem uO_Mo_digest_35 (c : h_C)  : ∀ (n : Nat) (v1 : Int) (m0 : h_M) (r : (Int × h_M)), GO_Mo_digest_35 n v1 m0 = some r → O_Mo_digest_35 n 1125 v1 (h_H c m0) = some (r.1, (h_H c r.2)) := by
  intro n
  induction n with
  | zero => intro v1 m0 r h; cases h
  | succ n ih => intro v1 m0 r h; exact uL_Mo_digest_35 c (O_Mo_digest_35 n) (GO_Mo_digest_35 n) ih v1 m0 r h
set_option maxRecDepth 100000 in
set_option maxHeartbeats 4000000 in
theorem u_Mo_digest (c : h_C)  (m0 : h_M) (r : (Int × h_M)) (h : G_Mo_digest  m0 = some r) : F_Mo_digest 1125 (h_H c m0) = some (r.1, (h_H c r.2)) := by
  unfold G_Mo_digest at h
  unfold F_Mo_digest
  refine gdT (miS c m0) ?_
  refine bM (ws89 c m0 _) h ?_
  intro m1 h
  try rw [mr4 c m1]
  try rw [zs0 c m1]
  refine gdT (miA c m1 e4) ?_
  obtain ⟨g3, h⟩ := p_gdE h
  refine gdT ⟨g3.1, by rw [mlA c m1 e4]; exact g3.2⟩ ?_
  try rw [mzA c m1 e4 ((m1 100 0) : Int).toNat]
  obtain ⟨m6, q4, h⟩ := q_bvE h
  refine bvC (u_Mo_adds c (m1 4 ((m1 100 0) : Int).toNat) m1 _ q4) ?_
  try rw [mr3 c m6]
  try rw [zs0 c m6]
  refine gdT (miA c m6 e3) ?_
  obtain ⟨g7, h⟩ := p_gdE h
  refine gdT ⟨g7.1, by rw [mlA c m6 e3]; exact g7.2⟩ ?_
  try rw [mzA c m6 e3 ((m6 100 0) : Int).toNat]
  obtain ⟨m10, q8, h⟩ := q_bvE h
  refine bvC (u_Mo_adds c (m6 3 ((m6 100 0) : Int).toNat) m6 _ q8) ?_
  exact uO_Mo_digest_35 c 3000 0 m10 _ h
