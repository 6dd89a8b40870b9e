def GB_Mo_link_87  (w0 : Int) (m0 : h_M) : Option (Int × h_M) :=
  q_bd (G_Mo_faulted w0 m0) fun r3 m4 =>
  some (r3, m4)
def GB_Mo_link_71  (v4 : Int) (m0 : h_M) : Option (Int × h_M) :=
  p_gd ((0 : Int) ≤ v4 ∧ v4 < (120 : Int)) <|
  if 0 ≤ (m0 7 (v4 : Int).toNat) then
    GB_Mo_link_87 3 m0
  else
    GB_Mo_link_87 1 m0
def G_Mo_link (v1 : Int) (v2 : Int) (v3 : Int) (m0 : h_M) : Option (Int × h_M) :=
  q_bv (G_Mo_noGear v1 m0) fun r3 =>
  if r3 = 0 then
    q_bv (G_Mo_beyond v3 (-1) 39 m0) fun r8 =>
    if r8 = 0 then
      q_bv (G_Mo_g v1 m0) fun r13 =>
      p_gd ((0 : Int) ≤ r13 ∧ r13 < (120 : Int)) <|
      if (m0 7 (r13 : Int).toNat) < 0 then
        GB_Mo_link_71 r13 m0
      else
        q_bv (G_Mo_beyond v2 0 (p_w ((m0 7 (r13 : Int).toNat) - 1)) m0) fun r19 =>
        if r19 = 0 then
          p_gd ((0 : Int) ≤ (p_w ((p_w (3 * r13)) + v2)) ∧ (p_w ((p_w (3 * r13)) + v2)) < (360 : Int)) <|
          p_bi (wm m0 8 ((p_w ((p_w (3 * r13)) + v2)) : Int).toNat v3) fun m23 =>
          q_bd (G_Mo_built 1 m23) fun r27 m28 =>
          some (r27, m28)
        else
          GB_Mo_link_71 r13 m0
    else
      q_bd (G_Mo_refused (-2) m0) fun r32 m33 =>
      some (r32, m33)
  else
    q_bd (G_Mo_refused (-1) m0) fun r37 m38 =>
    some (r37, m38)
set_option maxRecDepth 100000 in
set_option maxHeartbeats 4000000 in
theorem uB_Mo_link_87 (c : h_C)  (w0 : Int) (m0 : h_M) (r : (Int × h_M)) (h : GB_Mo_link_87 w0 m0 = some r) : B_Mo_link_87 w0 1125 (h_H c m0) = some (r.1, (h_H c r.2)) := by
  unfold GB_Mo_link_87 at h
  unfold B_Mo_link_87
  refine gdT (miS c m0) ?_
  obtain ⟨r3, m4, q1, h⟩ := q_bdE h
  refine bdC (u_Mo_faulted c w0 m0 _ q1) ?_
  cases h
  rfl
set_option maxRecDepth 100000 in
set_option maxHeartbeats 4000000 in
theorem uB_Mo_link_71 (c : h_C)  (v4 : Int) (m0 : h_M) (r : (Int × h_M)) (h : GB_Mo_link_71 v4 m0 = some r) : B_Mo_link_71 1125 v4 (h_H c m0) = some (r.1, (h_H c r.2)) := by
  unfold GB_Mo_link_71 at h
  unfold B_Mo_link_71
  refine gdT (miS c m0) ?_
  try rw [mr7 c m0]
  refine gdT (miA c m0 e7) ?_
  obtain ⟨g1, h⟩ := p_gdE h
  refine gdT ⟨g1.1, by rw [mlA c m0 e7]; exact g1.2⟩ ?_
  try rw [mzA c m0 e7 (v4 : Int).toNat]
  refine iteC Iff.rfl h (fun b2 h => ?_) (fun b2 h => ?_)
  · exact uB_Mo_link_87 c 3 m0 _ h
  · exact uB_Mo_link_87 c 1 m0 _ h
set_option maxRecDepth 100000 in
set_option maxHeartbeats 4000000 in
theorem u_Mo_link (c : h_C) (v1 : Int) (v2 : Int) (v3 : Int) (m0 : h_M) (r : (Int × h_M)) (h : G_Mo_link v1 v2 v3 m0 = some r) : F_Mo_link 1125 v1 v2 v3 (h_H c m0) = some (r.1, (h_H c r.2)) := by
  unfold G_Mo_link at h
  unfold F_Mo_link
  refine gdT (miS c m0) ?_
  obtain ⟨r3, q1, h⟩ := q_bvE h
  refine bdC (u_Mo_noGear c v1 m0 _ q1) ?_
  refine iteC Iff.rfl h (fun b5 h => ?_) (fun b5 h => ?_)
  · obtain ⟨r8, q6, h⟩ := q_bvE h
    refine bdC (u_Mo_beyond c v3 (-1) 39 m0 _ q6) ?_
    refine iteC Iff.rfl h (fun b10 h => ?_) (fun b10 h => ?_)
    · obtain ⟨r13, q11, h⟩ := q_bvE h
      refine bdC (u_Mo_g c v1 m0 _ q11) ?_
      try rw [mr7 c m0]
      refine gdT (miA c m0 e7) ?_
      obtain ⟨g15, h⟩ := p_gdE h
      refine gdT ⟨g15.1, by rw [mlA c m0 e7]; exact g15.2⟩ ?_
      try rw [mzA c m0 e7 (r13 : Int).toNat]
      refine iteC Iff.rfl h (fun b16 h => ?_) (fun b16 h => ?_)
      · exact uB_Mo_link_71 c r13 m0 _ h
      · try rw [mr7 c m0]
        refine gdT ⟨g15.1, by rw [mlA c m0 e7]; exact g15.2⟩ ?_
        try rw [mzA c m0 e7 (r13 : Int).toNat]
        obtain ⟨r19, q17, h⟩ := q_bvE h
        refine bdC (u_Mo_beyond c v2 0 (p_w ((m0 7 (r13 : Int).toNat) - 1)) m0 _ q17) ?_
        refine iteC Iff.rfl h (fun b21 h => ?_) (fun b21 h => ?_)
        · try rw [mr8 c m0]
          refine gdT (miA c m0 e8) ?_
          obtain ⟨g22, h⟩ := p_gdE h
          refine gdT ⟨g22.1, by rw [mlA c m0 e8]; exact g22.2⟩ ?_
          refine bM (mwA c m0 e8 _ _) h ?_
          intro m23 h
          obtain ⟨r27, m28, q25, h⟩ := q_bdE h
          refine bdC (u_Mo_built c 1 m23 _ q25) ?_
          cases h
          rfl
        · exact uB_Mo_link_71 c r13 m0 _ h
    · obtain ⟨r32, m33, q30, h⟩ := q_bdE h
      refine bdC (u_Mo_refused c (-2) m0 _ q30) ?_
      cases h
      rfl
  · obtain ⟨r37, m38, q35, h⟩ := q_bdE h
    refine bdC (u_Mo_refused c (-1) m0 _ q35) ?_
    cases h
    rfl
def G_Mo_sidesOf (v0 : Int) (m0 : h_M) : Option Int :=
  if v0 ≠ 5 then
    if v0 ≠ 6 then
      some 0
    else
      some 3
  else
    some 2
set_option maxRecDepth 100000 in
set_option maxHeartbeats 4000000 in
theorem u_Mo_sidesOf (c : h_C) (v0 : Int) (m0 : h_M) (r : Int) (h : G_Mo_sidesOf v0 m0 = some r) : F_Mo_sidesOf v0 (h_H c m0) = some (r, (h_H c m0)) := by
  unfold G_Mo_sidesOf at h
  unfold F_Mo_sidesOf
  refine iteC Iff.rfl h (fun b1 h => ?_) (fun b1 h => ?_)
  · refine iteC Iff.rfl h (fun b2 h => ?_) (fun b2 h => ?_)
    · cases h
      rfl
    · cases h
      rfl
  · cases h
    rfl
def GB_Mo_aim_38   (m0 : h_M) : Option (Int × h_M) :=
  q_bd (G_Mo_refused (-2) m0) fun r3 m4 =>
  some (r3, m4)
def GB_Mo_aim_98  (w0 : Int) (m0 : h_M) : Option (Int × h_M) :=
  q_bd (G_Mo_faulted w0 m0) fun r3 m4 =>
  some (r3, m4)
def GB_Mo_aim_79  (v5 : Int) (m0 : h_M) : Option (Int × h_M) :=
  p_gd ((0 : Int) ≤ v5 ∧ v5 < (120 : Int)) <|
  q_bv (G_Mo_isDivert (m0 5 (v5 : Int).toNat) m0) fun r4 =>
  if r4 = 0 then
    GB_Mo_aim_98 2 m0
  else
    GB_Mo_aim_98 3 m0
def GB_Mo_aim_173  (w0 : Int) (m0 : h_M) : Option (Int × h_M) :=
  q_bd (G_Mo_built w0 m0) fun r3 m4 =>
  some (r3, m4)
def GB_Mo_aim_160  (v4 : Int) (v8 : Int) (m0 : h_M) : Option (Int × h_M) :=
  if v8 = v4 then
    GB_Mo_aim_173 0 m0
  else
    GB_Mo_aim_173 1 m0
def GB_Mo_aim_133  (v2 : Int) (v4 : Int) (v5 : Int) (v6 : Int) (w0 : Int) (m0 : h_M) : Option (Int × h_M) :=
  if w0 = v4 then
    GB_Mo_aim_160 v4 w0 m0
  else
    p_gd ((0 : Int) ≤ (p_w ((p_w ((p_w (2 * v5)) + v2)) - 1)) ∧ (p_w ((p_w ((p_w (2 * v5)) + v2)) - 1)) < (240 : Int)) <|
    p_bi (wm m0 11 ((p_w ((p_w ((p_w (2 * v5)) + v2)) - 1)) : Int).toNat (p_xor6 (m0 11 ((p_w ((p_w ((p_w (2 * v5)) + v2)) - 1)) : Int).toNat) v6)) fun m3 =>
    GB_Mo_aim_160 v4 w0 m3
def G_Mo_aim (v1 : Int) (v2 : Int) (v3 : Int) (v4 : Int) (m0 : h_M) : Option (Int × h_M) :=
  q_bv (G_Mo_noGear v1 m0) fun r3 =>
  if r3 = 0 then
    q_bv (G_Mo_beyond v2 1 2 m0) fun r8 =>
    if r8 ≠ 0 then
      GB_Mo_aim_38 m0
    else
      q_bv (G_Mo_beyond v3 0 39 m0) fun r13 =>
      if r13 = 0 then
        q_bv (G_Mo_g v1 m0) fun r18 =>
        p_gd ((0 : Int) ≤ r18 ∧ r18 < (120 : Int)) <|
        q_bv (G_Mo_isDivert (m0 5 (r18 : Int).toNat) m0) fun r23 =>
        if r23 = 0 then
          GB_Mo_aim_79 r18 m0
        else
          q_bv (G_Mo_sidesOf (m0 5 (r18 : Int).toNat) m0) fun r28 =>
          if v2 < r28 then
            p_bi ((p_shl6 1 v3)) fun x32 =>
            p_gd ((0 : Int) ≤ (p_w ((p_w ((p_w (2 * r18)) + v2)) - 1)) ∧ (p_w ((p_w ((p_w (2 * r18)) + v2)) - 1)) < (240 : Int)) <|
            if (p_cmp (p_and6 (m0 11 ((p_w ((p_w ((p_w (2 * r18)) + v2)) - 1)) : Int).toNat) x32) 0) = 0 then
              GB_Mo_aim_133 v2 v4 r18 x32 0 m0
            else
              GB_Mo_aim_133 v2 v4 r18 x32 1 m0
          else
            GB_Mo_aim_79 r18 m0
      else
        GB_Mo_aim_38 m0
  else
    q_bd (G_Mo_refused (-1) m0) fun r37 m38 =>
    some (r37, m38)
set_option maxRecDepth 100000 in
set_option maxHeartbeats 4000000 in
theorem uB_Mo_aim_38 (c : h_C)   (m0 : h_M) (r : (Int × h_M)) (h : GB_Mo_aim_38  m0 = some r) : B_Mo_aim_38 1125 (h_H c m0) = some (r.1, (h_H c r.2)) := by
  unfold GB_Mo_aim_38 at h
  unfold B_Mo_aim_38
  refine gdT (miS c m0) ?_
  obtain ⟨r3, m4, q1, h⟩ := q_bdE h
  refine bdC (u_Mo_refused c (-2) m0 _ q1) ?_
  cases h
  rfl
set_option maxRecDepth 100000 in
set_option maxHeartbeats 4000000 in
theorem uB_Mo_aim_98 (c : h_C)  (w0 : Int) (m0 : h_M) (r : (Int × h_M)) (h : GB_Mo_aim_98 w0 m0 = some r) : B_Mo_aim_98 w0 1125 (h_H c m0) = some (r.1, (h_H c r.2)) := by
  unfold GB_Mo_aim_98 at h
  unfold B_Mo_aim_98
  refine gdT (miS c m0) ?_
  obtain ⟨r3, m4, q1, h⟩ := q_bdE h
  refine bdC (u_Mo_faulted c w0 m0 _ q1) ?_
  cases h
  rfl
set_option maxRecDepth 100000 in
set_option maxHeartbeats 4000000 in
theorem uB_Mo_aim_79 (c : h_C)  (v5 : Int) (m0 : h_M) (r : (Int × h_M)) (h : GB_Mo_aim_79 v5 m0 = some r) : B_Mo_aim_79 1125 v5 (h_H c m0) = some (r.1, (h_H c r.2)) := by
  unfold GB_Mo_aim_79 at h
  unfold B_Mo_aim_79
  refine gdT (miS c m0) ?_
  try rw [mr5 c m0]
  refine gdT (miA c m0 e5) ?_
  obtain ⟨g1, h⟩ := p_gdE h
  refine gdT ⟨g1.1, by rw [mlA c m0 e5]; exact g1.2⟩ ?_
  try rw [mzA c m0 e5 (v5 : Int).toNat]
  obtain ⟨r4, q2, h⟩ := q_bvE h
  refine bdC (u_Mo_isDivert c (m0 5 (v5 : Int).toNat) m0 _ q2) ?_
  refine iteC Iff.rfl h (fun b6 h => ?_) (fun b6 h => ?_)
  · exact uB_Mo_aim_98 c 2 m0 _ h
  · exact uB_Mo_aim_98 c 3 m0 _ h
set_option maxRecDepth 100000 in
set_option maxHeartbeats 4000000 in
theorem uB_Mo_aim_173 (c : h_C)  (w0 : Int) (m0 : h_M) (r : (Int × h_M)) (h : GB_Mo_aim_173 w0 m0 = some r) : B_Mo_aim_173 w0 1125 (h_H c m0) = some (r.1, (h_H c r.2)) := by
  unfold GB_Mo_aim_173 at h
  unfold B_Mo_aim_173
  refine gdT (miS c m0) ?_
  obtain ⟨r3, m4, q1, h⟩ := q_bdE h
  refine bdC (u_Mo_built c w0 m0 _ q1) ?_
  cases h
  rfl
set_option maxRecDepth 100000 in
set_option maxHeartbeats 4000000 in
theorem uB_Mo_aim_160 (c : h_C)  (v4 : Int) (v8 : Int) (m0 : h_M) (r : (Int × h_M)) (h : GB_Mo_aim_160 v4 v8 m0 = some r) : B_Mo_aim_160 1125 v4 v8 (h_H c m0) = some (r.1, (h_H c r.2)) := by
  unfold GB_Mo_aim_160 at h
  unfold B_Mo_aim_160
  refine iteC Iff.rfl h (fun b1 h => ?_) (fun b1 h => ?_)
  · exact uB_Mo_aim_173 c 0 m0 _ h
  · exact uB_Mo_aim_173 c 1 m0 _ h
set_option maxRecDepth 100000 in
set_option maxHeartbeats 4000000 in
theorem uB_Mo_aim_133 (c : h_C)  (v2 : Int) (v4 : Int) (v5 : Int) (v6 : Int) (w0 : Int) (m0 : h_M) (r : (Int × h_M)) (h : GB_Mo_aim_133 v2 v4 v5 v6 w0 m0 = some r) : B_Mo_aim_133 1125 v2 v4 v5 v6 w0 (h_H c m0) = some (r.1, (h_H c r.2)) := by
  unfold GB_Mo_aim_133 at h
  unfold B_Mo_aim_133
  refine iteC Iff.rfl h (fun b1 h => ?_) (fun b1 h => ?_)
  · exact uB_Mo_aim_160 c v4 w0 m0 _ h
  · refine gdT (miS c m0) ?_
    try rw [mr11 c m0]
    refine gdT (miA c m0 e11) ?_
    obtain ⟨g2, h⟩ := p_gdE h
    refine gdT ⟨g2.1, by rw [mlA c m0 e11]; exact g2.2⟩ ?_
    try rw [mzA c m0 e11 ((p_w ((p_w ((p_w (2 * v5)) + v2)) - 1)) : Int).toNat]
    refine gdT ⟨g2.1, by rw [mlA c m0 e11]; exact g2.2⟩ ?_
    refine bM (mwA c m0 e11 _ _) h ?_
    intro m3 h
    exact uB_Mo_aim_160 c v4 w0 m3 _ h
set_option maxRecDepth 100000 in
set_option maxHeartbeats 4000000 in
theorem u_Mo_aim (c : h_C) (v1 : Int) (v2 : Int) (v3 : Int) (v4 : Int) (m0 : h_M) (r : (Int × h_M)) (h : G_Mo_aim v1 v2 v3 v4 m0 = some r) : F_Mo_aim 1125 v1 v2 v3 v4 (h_H c m0) = some (r.1, (h_H c r.2)) := by
  unfold G_Mo_aim at h
  unfold F_Mo_aim
  refine gdT (miS c m0) ?_
  obtain ⟨r3, q1, h⟩ := q_bvE h
  refine bdC (u_Mo_noGear c v1 m0 _ q1) ?_
  refine iteC Iff.rfl h (fun b5 h => ?_) (fun b5 h => ?_)
  · obtain ⟨r8, q6, h⟩ := q_bvE h
    refine bdC (u_Mo_beyond c v2 1 2 m0 _ q6) ?_
    refine iteC Iff.rfl h (fun b10 h => ?_) (fun b10 h => ?_)
    · exact uB_Mo_aim_38 c m0 _ h
    · obtain ⟨r13, q11, h⟩ := q_bvE h
      refine bdC (u_Mo_beyond c v3 0 39 m0 _ q11) ?_
      refine iteC Iff.rfl h (fun b15 h => ?_) (fun b15 h => ?_)
      · obtain ⟨r18, q16, h⟩ := q_bvE h
        refine bdC (u_Mo_g c v1 m0 _ q16) ?_
        try rw [mr5 c m0]
        refine gdT (miA c m0 e5) ?_
        obtain ⟨g20, h⟩ := p_gdE h
        refine gdT ⟨g20.1, by rw [mlA c m0 e5]; exact g20.2⟩ ?_
        try rw [mzA c m0 e5 (r18 : Int).toNat]
        obtain ⟨r23, q21, h⟩ := q_bvE h
        refine bdC (u_Mo_isDivert c (m0 5 (r18 : Int).toNat) m0 _ q21) ?_
        refine iteC Iff.rfl h (fun b25 h => ?_) (fun b25 h => ?_)
        · exact uB_Mo_aim_79 c r18 m0 _ h
        · try rw [mr5 c m0]
          refine gdT (miA c m0 e5) ?_
          refine gdT ⟨g20.1, by rw [mlA c m0 e5]; exact g20.2⟩ ?_
          try rw [mzA c m0 e5 (r18 : Int).toNat]
          obtain ⟨r28, q26, h⟩ := q_bvE h
          refine bdC (u_Mo_sidesOf c (m0 5 (r18 : Int).toNat) m0 _ q26) ?_
          refine iteC Iff.rfl h (fun b30 h => ?_) (fun b30 h => ?_)
          · refine bV h ?_
            intro x32 h
            try rw [mr11 c m0]
            refine gdT (miA c m0 e11) ?_
            obtain ⟨g33, h⟩ := p_gdE h
            refine gdT ⟨g33.1, by rw [mlA c m0 e11]; exact g33.2⟩ ?_
            try rw [mzA c m0 e11 ((p_w ((p_w ((p_w (2 * r18)) + v2)) - 1)) : Int).toNat]
            refine iteC Iff.rfl h (fun b34 h => ?_) (fun b34 h => ?_)
            · exact uB_Mo_aim_133 c v2 v4 r18 x32 0 m0 _ h
            · exact uB_Mo_aim_133 c v2 v4 r18 x32 1 m0 _ h
          · exact uB_Mo_aim_79 c r18 m0 _ h
      · exact uB_Mo_aim_38 c m0 _ h
  · obtain ⟨r37, m38, q35, h⟩ := q_bdE h
    refine bdC (u_Mo_refused c (-1) m0 _ q35) ?_
    cases h
    rfl
def G_Mo_rank (v1 : Int) (v2 : Int) (m0 : h_M) : Option (Int × h_M) :=
  q_bv (G_Mo_noGear v1 m0) fun r3 =>
  if r3 = 0 then
    q_bv (G_Mo_beyond v2 0 9 m0) fun r8 =>
    if r8 = 0 then
      q_bv (G_Mo_g v1 m0) fun r13 =>
      p_gd ((0 : Int) ≤ r13 ∧ r13 < (120 : Int)) <|
      q_bv (G_Mo_isTaker (m0 5 (r13 : Int).toNat) m0) fun r18 =>
      if r18 ≠ 0 then
        q_bv (G_Mo_g v1 m0) fun r23 =>
        p_gd ((0 : Int) ≤ r23 ∧ r23 < (120 : Int)) <|
        p_bi ((m0 9 (r23 : Int).toNat)) fun x27 =>
        q_bv (G_Mo_g v1 m0) fun r30 =>
        p_gd ((0 : Int) ≤ r30 ∧ r30 < (120 : Int)) <|
        p_bi (wm m0 9 (r30 : Int).toNat v2) fun m33 =>
        q_bd (G_Mo_built x27 m33) fun r37 m38 =>
        some (r37, m38)
      else
        q_bd (G_Mo_faulted 2 m0) fun r42 m43 =>
        some (r42, m43)
    else
      q_bd (G_Mo_refused (-2) m0) fun r47 m48 =>
      some (r47, m48)
  else
    q_bd (G_Mo_refused (-1) m0) fun r52 m53 =>
    some (r52, m53)
set_option maxRecDepth 100000 in
set_option maxHeartbeats 4000000 in
theorem u_Mo_rank (c : h_C) (v1 : Int) (v2 : Int) (m0 : h_M) (r : (Int × h_M)) (h : G_Mo_rank v1 v2 m0 = some r) : F_Mo_rank 1125 v1 v2 (h_H c m0) = some (r.1, (h_H c r.2)) := by
  unfold G_Mo_rank at h
  unfold F_Mo_rank
  refine gdT (miS c m0) ?_
  obtain ⟨r3, q1, h⟩ := q_bvE h
  refine bdC (u_Mo_noGear c v1 m0 _ q1) ?_
  refine iteC Iff.rfl h (fun b5 h => ?_) (fun b5 h => ?_)
  · obtain ⟨r8, q6, h⟩ := q_bvE h
    refine bdC (u_Mo_beyond c v2 0 9 m0 _ q6) ?_
    refine iteC Iff.rfl h (fun b10 h => ?_) (fun b10 h => ?_)
    · try rw [mr5 c m0]
      obtain ⟨r13, q11, h⟩ := q_bvE h
      refine bdC (u_Mo_g c v1 m0 _ q11) ?_
      refine gdT (miA c m0 e5) ?_
      obtain ⟨g15, h⟩ := p_gdE h
      refine gdT ⟨g15.1, by rw [mlA c m0 e5]; exact g15.2⟩ ?_
      try rw [mzA c m0 e5 (r13 : Int).toNat]
      obtain ⟨r18, q16, h⟩ := q_bvE h
      refine bdC (u_Mo_isTaker c (m0 5 (r13 : Int).toNat) m0 _ q16) ?_
      refine iteC Iff.rfl h (fun b20 h => ?_) (fun b20 h => ?_)
      · try rw [mr9 c m0]
        obtain ⟨r23, q21, h⟩ := q_bvE h
        refine bdC (u_Mo_g c v1 m0 _ q21) ?_
        refine gdT (miA c m0 e9) ?_
        obtain ⟨g25, h⟩ := p_gdE h
        refine gdT ⟨g25.1, by rw [mlA c m0 e9]; exact g25.2⟩ ?_
        try rw [mzA c m0 e9 (r23 : Int).toNat]
        refine bV h ?_
        intro x27 h
        try rw [mr9 c m0]
        obtain ⟨r30, q28, h⟩ := q_bvE h
        refine bdC (u_Mo_g c v1 m0 _ q28) ?_
        refine gdT (miA c m0 e9) ?_
        obtain ⟨g32, h⟩ := p_gdE h
        refine gdT ⟨g32.1, by rw [mlA c m0 e9]; exact g32.2⟩ ?_
        refine bM (mwA c m0 e9 _ _) h ?_
        intro m33 h
        obtain ⟨r37, m38, q35, h⟩ := q_bdE h
        refine bdC (u_Mo_built c x27 m33 _ q35) ?_
        cases h
        rfl
      · obtain ⟨r42, m43, q40, h⟩ := q_bdE h
        refine bdC (u_Mo_faulted c 2 m0 _ q40) ?_
        cases h
        rfl
    · obtain ⟨r47, m48, q45, h⟩ := q_bdE h
      refine bdC (u_Mo_refused c (-2) m0 _ q45) ?_
      cases h
      rfl
  · obtain ⟨r52, m53, q50, h⟩ := q_bdE h
    refine bdC (u_Mo_refused c (-1) m0 _ q50) ?_
    cases h
    rfl
def GB_Mo_loadOf_34 (k4 : Int → Int → Int → h_M → Option Int) (v1 : Int) (v3 : Int) (w0 : Int) (w1 : Int) (m0 : h_M) : Option Int :=
  p_bi ((p_w (w1 + w0))) fun x2 =>
  p_bi (p_w (v3 + 1)) fun x3 =>
  k4 v1 x2 x3 m0
def GL_Mo_loadOf_4 (k4 : Int → Int → Int → h_M → Option Int) (v1 : Int) (v2 : Int) (v3 : Int) (m0 : h_M) : Option Int :=
  p_gd ((0 : Int) ≤ v1 ∧ v1 < (120 : Int)) <|
  if (m0 6 (v1 : Int).toNat) ≤ v3 then
    some v2
  else
    p_gd ((0 : Int) ≤ (p_w ((p_w (8 * v1)) + v3)) ∧ (p_w ((p_w (8 * v1)) + v3)) < (960 : Int)) <|
    if (m0 22 ((p_w ((p_w (8 * v1)) + v3)) : Int).toNat) ≤ 0 then
      GB_Mo_loadOf_34 k4 v1 v3 0 v2 m0
    else
      GB_Mo_loadOf_34 k4 v1 v3 1 v2 m0
def GO_Mo_loadOf_4  : Nat → Int → Int → Int → h_M → Option Int
  | 0 => fun _ _ _ _ => none
  | n + 1 => GL_Mo_loadOf_4 (GO_Mo_loadOf_4 n)
def G_Mo_loadOf (v1 : Int) (m0 : h_M) : Option Int :=
  GO_Mo_loadOf_4 3000 v1 0 0 m0
set_option maxRecDepth 100000 in
set_option maxHeartbeats 4000000 in
theorem uB_Mo_loadOf_34 (c : h_C) (j4 : Nat → Int → Int → Int → p_Hp → Option (Int × p_Hp)) (k4 : Int → Int → Int → h_M → Option Int) (hk4 : ∀ (v1 : Int) (v2 : Int) (v3 : Int) (m0 : h_M) (r : Int), k4 v1 v2 v3 m0 = some r → j4 1125 v1 v2 v3 (h_H c m0) = some (r, (h_H c m0))) (v1 : Int) (v3 : Int) (w0 : Int) (w1 : Int) (m0 : h_M) (r : Int) (h : GB_Mo_loadOf_34 k4 v1 v3 w0 w1 m0 = some r) : B_Mo_loadOf_34 j4 1125 v1 v3 w0 w1 (h_H c m0) = some (r, (h_H c m0)) := by
  unfold GB_Mo_loadOf_34 at h
  unfold B_Mo_loadOf_34
  refine bV h ?_
  intro x2 h
  refine bV h ?_
  intro x3 h
  exact hk4 v1 x2 x3 m0 _ h
set_option maxRecDepth 100000 in
set_option maxHeartbeats 4000000 in
theorem uL_Mo_loadOf_4 (c : h_C) (j4 : Nat → Int → Int → Int → p_Hp → Option (Int × p_Hp)) (k4 : Int → Int → Int → h_M → Option Int) (hk4 : ∀ (v1 : Int) (v2 : Int) (v3 : Int) (m0 : h_M) (r : Int), k4 v1 v2 v3 m0 = some r → j4 1125 v1 v2 v3 (h_H c m0) = some (r, (h_H c m0))) (v1 : Int) (v2 : Int) (v3 : Int) (m0 : h_M) (r : Int) (h : GL_Mo_loadOf_4 k4 v1 v2 v3 m0 = some r) : L_Mo_loadOf_4 j4 1125 v1 v2 v3 (h_H c m0) = some (r, (h_H c m0)) := by
  unfold GL_Mo_loadOf_4 at h
  unfold L_Mo_loadOf_4
  refine gdT (miS c m0) ?_
  try rw [mr6 c m0]
  refine gdT (miA c m0 e6) ?_
  obtain ⟨g1, h⟩ := p_gdE h
  refine gdT ⟨g1.1, by rw [mlA c m0 e6]; exact g1.2⟩ ?_
  try rw [mzA c m0 e6 (v1 : Int).toNat]
  refine iteC Iff.rfl h (fun b2 h => ?_) (fun b2 h => ?_)
  · cases h
    rfl
  · try rw [mr22 c m0]
    refine gdT (miA c m0 e22) ?_
    obtain ⟨g3, h⟩ := p_gdE h
    refine gdT ⟨g3.1, by rw [mlA c m0 e22]; exact g3.2⟩ ?_
    try rw [mzA c m0 e22 ((p_w ((p_w (8 * v1)) + v3)) : Int).toNat]
    refine iteC Iff.rfl h (fun b4 h => ?_) (fun b4 h => ?_)
    · exact uB_Mo_loadOf_34 c j4 k4 hk4 v1 v3 0 v2 m0 _ h
    · exact uB_Mo_loadOf_34 c j4 k4 hk4 v1 v3 1 v2 m0 _ h
set_option maxRecDepth 100000 in
set_option maxHeartbeats 4000000 in
theorem uO_Mo_loadOf_4 (c : h_C)  : ∀ (n : Nat) (v1 : Int) (v2 : Int) (v3 : Int) (m0 : h_M) (r : Int), GO_Mo_loadOf_4 n v1 v2 v3 m0 = some r → O_Mo_loadOf_4 n 1125 v1 v2 v3 (h_H c m0) = some (r, (h_H c m0)) := by
  intro n
  induction n with
  | zero => intro v1 v2 v3 m0 r h; cases h
  | succ n ih => intro v1 v2 v3 m0 r h; exact uL_Mo_loadOf_4 c (O_Mo_loadOf_4 n) (GO_Mo_loadOf_4 n) ih v1 v2 v3 m0 r h
set_option maxRecDepth 100000 in
set_option maxHeartbeats 4000000 in
theorem u_Mo_loadOf (c : h_C) (v1 : Int) (m0 : h_M) (r : Int) (h : G_Mo_loadOf v1 m0 = some r) : F_Mo_loadOf 1125 v1 (h_H c m0) = some (r, (h_H c m0)) := by
  unfold G_Mo_loadOf at h
  unfold F_Mo_loadOf
  exact uO_Mo_loadOf_4 c 3000 v1 0 0 m0 _ h
def G_Mo_refit (v1 : Int) (v2 : Int) (m0 : h_M) : Option (Int × h_M) :=
  q_bv (G_Mo_noGear v1 m0) fun r3 =>
  if r3 = 0 then
    q_bv (G_Mo_beyond v2 0 10 m0) fun r8 =>
    if r8 = 0 then
      q_bv (G_Mo_g v1 m0) fun r13 =>
      p_gd ((0 : Int) ≤ r13 ∧ r13 < (120 : Int)) <|
      p_bi ((m0 5 (r13 : Int).toNat)) fun x17 =>
      q_bv (G_Mo_isTaker x17 m0) fun r20 =>
      q_bv (G_Mo_isTaker v2 m0) fun r24 =>
      if r20 = r24 then
        q_bv (G_Mo_loadOf r13 m0) fun r29 =>
        if r29 ≤ 0 then
          q_bv (G_Mo_fresh r13 v2 m0) fun m34 =>
          q_bd (G_Mo_built x17 m34) fun r37 m38 =>
          some (r37, m38)
        else
          q_bd (G_Mo_refused (-3) m0) fun r42 m43 =>
          some (r42, m43)
      else
        q_bd (G_Mo_faulted 2 m0) fun r47 m48 =>
        some (r47, m48)
    else
      q_bd (G_Mo_refused (-2) m0) fun r52 m53 =>
      some (r52, m53)
  else
    q_bd (G_Mo_refused (-1) m0) fun r57 m58 =>
    some (r57, m58)
set_option maxRecDepth 100000 in
set_option maxHeartbeats 4000000 in
theorem u_Mo_refit (c : h_C) (v1 : Int) (v2 : Int) (m0 : h_M) (r : (Int × h_M)) (h : G_Mo_refit v1 v2 m0 = some r) : F_Mo_refit 1125 v1 v2 (h_H c m0) = some (r.1, (h_H c r.2)) := by
  unfold G_Mo_refit at h
  unfold F_Mo_refit
  refine gdT (miS c m0) ?_
  obtain ⟨r3, q1, h⟩ := q_bvE h
  refine bdC (u_Mo_noGear c v1 m0 _ q1) ?_
  refine iteC Iff.rfl h (fun b5 h => ?_) (fun b5 h => ?_)
  · obtain ⟨r8, q6, h⟩ := q_bvE h
    refine bdC (u_Mo_beyond c v2 0 10 m0 _ q6) ?_
    refine iteC Iff.rfl h (fun b10 h => ?_) (fun b10 h => ?_)
    · obtain ⟨r13, q11, h⟩ := q_bvE h
      refine bdC (u_Mo_g c v1 m0 _ q11) ?_
      try rw [mr5 c m0]
      refine gdT (miA c m0 e5) ?_
      obtain ⟨g15, h⟩ := p_gdE h
      refine gdT ⟨g15.1, by rw [mlA c m0 e5]; exact g15.2⟩ ?_
      try rw [mzA c m0 e5 (r13 : Int).toNat]
      refine bV h ?_
      intro x17 h
      obtain ⟨r20, q18, h⟩ := q_bvE h
      refine bdC (u_Mo_isTaker c x17 m0 _ q18) ?_
      obtain ⟨r24, q22, h⟩ := q_bvE h
      refine bdC (u_Mo_isTaker c v2 m0 _ q22) ?_
      refine iteC Iff.rfl h (fun b26 h => ?_) (fun b26 h => ?_)
      · obtain ⟨r29, q27, h⟩ := q_bvE h
        refine bdC (u_Mo_loadOf c r13 m0 _ q27) ?_
        refine iteC Iff.rfl h (fun b31 h => ?_) (fun b31 h => ?_)
        · obtain ⟨m34, q32, h⟩ := q_bvE h
          refine bvC (u_Mo_fresh c r13 v2 m0 _ q32) ?_
          obtain ⟨r37, m38, q35, h⟩ := q_bdE h
          refine bdC (u_Mo_built c x17 m34 _ q35) ?_
          cases h
          rfl
        · obtain ⟨r42, m43, q40, h⟩ := q_bdE h
          refine bdC (u_Mo_refused c (-3) m0 _ q40) ?_
          cases h
          rfl
      · obtain ⟨r47, m48, q45, h⟩ := q_bdE h
        refine bdC (u_Mo_faulted c 2 m0 _ q45) ?_
        cases h
        rfl
    · obtain ⟨r52, m53, q50, h⟩ := q_bdE h
      refine bdC (u_Mo_refused c (-2) m0 _ q50) ?_
      cases h
      rfl
  · obtain ⟨r57, m58, q55, h⟩ := q_bdE h
    refine bdC (u_Mo_refused c (-1) m0 _ q55) ?_
    cases h
    rfl
def GL_Mo_copyGear_127 (k127 : Int → Int → h_M → Option h_M) (v2 : Int) (v3 : Int) (m0 : h_M) : Option h_M :=
  if 8 ≤ v3 then
    some m0
  else
    p_gd ((0 : Int) ≤ (p_w ((p_w (8 * v2)) + v3)) ∧ (p_w ((p_w (8 * v2)) + v3)) < (960 : Int)) <|
    p_bi (wm m0 22 ((p_w ((p_w (8 * v2)) + v3)) : Int).toNat 0) fun m3 =>
    p_bi (p_w (v3 + 1)) fun x5 =>
    k127 v2 x5 m3
def GO_Mo_copyGear_127  : Nat → Int → Int → h_M → Option h_M
  | 0 => fun _ _ _ => none
  | n + 1 => GL_Mo_copyGear_127 (GO_Mo_copyGear_127 n)
def GL_Mo_copyGear_94 (k94 : Int → Int → Int → h_M → Option h_M) (v1 : Int) (v2 : Int) (v3 : Int) (m0 : h_M) : Option h_M :=
  if 2 ≤ v3 then
    GO_Mo_copyGear_127 3000 v2 0 m0
  else
    p_gd ((0 : Int) ≤ (p_w ((p_w (2 * v1)) + v3)) ∧ (p_w ((p_w (2 * v1)) + v3)) < (240 : Int)) <|
    p_gd ((0 : Int) ≤ (p_w ((p_w (2 * v2)) + v3)) ∧ (p_w ((p_w (2 * v2)) + v3)) < (240 : Int)) <|
    p_bi (wm m0 11 ((p_w ((p_w (2 * v2)) + v3)) : Int).toNat (m0 11 ((p_w ((p_w (2 * v1)) + v3)) : Int).toNat)) fun m4 =>
    p_bi (p_w (v3 + 1)) fun x6 =>
    k94 v1 v2 x6 m4
def GO_Mo_copyGear_94  : Nat → Int → Int → Int → h_M → Option h_M
  | 0 => fun _ _ _ _ => none
  | n + 1 => GL_Mo_copyGear_94 (GO_Mo_copyGear_94 n)
def GL_Mo_copyGear_61 (k61 : Int → Int → Int → h_M → Option h_M) (v1 : Int) (v2 : Int) (v3 : Int) (m0 : h_M) : Option h_M :=
  if 3 ≤ v3 then
    GO_Mo_copyGear_94 3000 v1 v2 0 m0
  else
    p_gd ((0 : Int) ≤ (p_w ((p_w (3 * v1)) + v3)) ∧ (p_w ((p_w (3 * v1)) + v3)) < (360 : Int)) <|
    p_gd ((0 : Int) ≤ (p_w ((p_w (3 * v2)) + v3)) ∧ (p_w ((p_w (3 * v2)) + v3)) < (360 : Int)) <|
    p_bi (wm m0 8 ((p_w ((p_w (3 * v2)) + v3)) : Int).toNat (m0 8 ((p_w ((p_w (3 * v1)) + v3)) : Int).toNat)) fun m4 =>
    p_bi (p_w (v3 + 1)) fun x6 =>
    k61 v1 v2 x6 m4
def GO_Mo_copyGear_61  : Nat → Int → Int → Int → h_M → Option h_M
  | 0 => fun _ _ _ _ => none
  | n + 1 => GL_Mo_copyGear_61 (GO_Mo_copyGear_61 n)
def G_Mo_copyGear (v1 : Int) (v2 : Int) (m0 : h_M) : Option h_M :=
  p_gd ((0 : Int) ≤ v1 ∧ v1 < (120 : Int)) <|
  q_bv (G_Mo_fresh v2 (m0 5 (v1 : Int).toNat) m0) fun m4 =>
  p_gd ((0 : Int) ≤ v2 ∧ v2 < (120 : Int)) <|
  p_bi (wm m4 6 (v2 : Int).toNat (m4 6 (v1 : Int).toNat)) fun m6 =>
  p_bi (wm m6 7 (v2 : Int).toNat (m6 7 (v1 : Int).toNat)) fun m8 =>
  p_bi (wm m8 9 (v2 : Int).toNat (m8 9 (v1 : Int).toNat)) fun m10 =>
  p_gd ((m10 14 (v1 : Int).toNat) = 0 ∨ (m10 14 (v1 : Int).toNat) = 1) <|
  p_bi (wm m10 14 (v2 : Int).toNat (m10 14 (v1 : Int).toNat)) fun m13 =>
  GO_Mo_copyGear_61 3000 v1 v2 0 m13
set_option maxRecDepth 100000 in
set_option maxHeartbeats 4000000 in
theorem uL_Mo_copyGear_127 (c : h_C) (j127 : Nat → Int → Int → p_Hp → Option p_Hp) (k127 : Int → Int → h_M → Option h_M) (hk127 : ∀ (v2 : Int) (v3 : Int) (m0 : h_M) (r : h_M), k127 v2 v3 m0 = some r → j127 1125 v2 v3 (h_H c m0) = some (h_H c r)) (v2 : Int) (v3 : Int) (m0 : h_M) (r : h_M) (h : GL_Mo_copyGear_127 k127 v2 v3 m0 = some r) : L_Mo_copyGear_127 j127 1125 v2 v3 (h_H c m0) = some (h_H c r) := by
  unfold GL_Mo_copyGear_127 at h
  unfold L_Mo_copyGear_127
  refine iteC Iff.rfl h (fun b1 h => ?_) (fun b1 h => ?_)
  · cases h
    rfl
  · refine gdT (miS c m0) ?_
    try rw [mr22 c m0]
    refine gdT (miA c m0 e22) ?_
    obtain ⟨g2, h⟩ := p_gdE h
    refine gdT ⟨g2.1, by rw [mlA c m0 e22]; exact g2.2⟩ ?_
    refine bM (mwA c m0 e22 _ _) h ?_
    intro m3 h
    refine bV h ?_
    intro x5 h
    exact hk127 v2 x5 m3 _ h
set_option maxRecDepth 100000 in
set_option maxHeartbeats 4000000 in
theorem uO_Mo_copyGear_127 (c : h_C)  : ∀ (n : Nat) (v2 : Int) (v3 : Int) (m0 : h_M) (r : h_M), GO_Mo_copyGear_127 n v2 v3 m0 = some r → O_Mo_copyGear_127 n 1125 v2 v3 (h_H c m0) = some (h_H c r) := by
  intro n
  induction n with
  | zero => intro v2 v3 m0 r h; cases h
  | succ n ih => intro v2 v3 m0 r h; exact uL_Mo_copyGear_127 c (O_Mo_copyGear_127 n) (GO_Mo_copyGear_127 n) ih v2 v3 m0 r h
set_option maxRecDepth 100000 in
set_option maxHeartbeats 4000000 in
theorem uL_Mo_copyGear_94 (c : h_C) (j94 : Nat → Int → Int → Int → p_Hp → Option p_Hp) (k94 : Int → Int → Int → h_M → Option h_M) (hk94 : ∀ (v1 : Int) (v2 : Int) (v3 : Int) (m0 : h_M) (r : h_M), k94 v1 v2 v3 m0 = some r → j94 1125 v1 v2 v3 (h_H c m0) = some (h_H c r)) (v1 : Int) (v2 : Int) (v3 : Int) (m0 : h_M) (r : h_M) (h : GL_Mo_copyGear_94 k94 v1 v2 v3 m0 = some r) : L_Mo_copyGear_94 j94 1125 v1 v2 v3 (h_H c m0) = some (h_H c r) := by
  unfold GL_Mo_copyGear_94 at h
  unfold L_Mo_copyGear_94
  refine iteC Iff.rfl h (fun b1 h => ?_) (fun b1 h => ?_)
  · exact uO_Mo_copyGear_127 c 3000 v2 0 m0 _ h
  · refine gdT (miS c m0) ?_
    try rw [mr11 c m0]
    try rw [mr11 c m0]
    refine gdT (miA c m0 e11) ?_
    obtain ⟨g2, h⟩ := p_gdE h
    refine gdT ⟨g2.1, by rw [mlA c m0 e11]; exact g2.2⟩ ?_
    try rw [mzA c m0 e11 ((p_w ((p_w (2 * v1)) + v3)) : Int).toNat]
    obtain ⟨g3, h⟩ := p_gdE h
    refine gdT ⟨g3.1, by rw [mlA c m0 e11]; exact g3.2⟩ ?_
    refine bM (mwA c m0 e11 _ _) h ?_
    intro m4 h
    refine bV h ?_
    intro x6 h
    exact hk94 v1 v2 x6 m4 _ h
set_option maxRecDepth 100000 in
set_option maxHeartbeats 4000000 in
theorem uO_Mo_copyGear_94 (c : h_C)  : ∀ (n : Nat) (v1 : Int) (v2 : Int) (v3 : Int) (m0 : h_M) (r : h_M), GO_Mo_copyGear_94 n v1 v2 v3 m0 = some r → O_Mo_copyGear_94 n 1125 v1 v2 v3 (h_H c m0) = some (h_H c r) := by
  intro n
  induction n with
  | zero => intro v1 v2 v3 m0 r h; cases h
  | succ n ih => intro v1 v2 v3 m0 r h; exact uL_Mo_copyGear_94 c (O_Mo_copyGear_94 n) (GO_Mo_copyGear_94 n) ih v1 v2 v3 m0 r h
set_option maxRecDepth 100000 in
set_option maxHeartbeats 4000000 in
theorem uL_Mo_copyGear_61 (c : h_C) (j61 : Nat → Int → Int → Int → p_Hp → Option p_Hp) (k61 : Int → Int → Int → h_M → Option h_M) (hk61 : ∀ (v1 : Int) (v2 : Int) (v3 : Int) (m0 : h_M) (r : h_M), k61 v1 v2 v3 m0 = some r → j61 1125 v1 v2 v3 (h_H c m0) = some (h_H c r)) (v1 : Int) (v2 : Int) (v3 : Int) (m0 : h_M) (r : h_M) (h : GL_Mo_copyGear_61 k61 v1 v2 v3 m0 = some r) : L_Mo_copyGear_61 j61 1125 v1 v2 v3 (h_H c m0) = some (h_H c r) := by
  unfold GL_Mo_copyGear_61 at h
  unfold L_Mo_copyGear_61
  refine iteC Iff.rfl h (fun b1 h => ?_) (fun b1 h => ?_)
  · exact uO_Mo_copyGear_94 c 3000 v1 v2 0 m0 _ h
  · refine gdT (miS c m0) ?_
    try rw [mr8 c m0]
    try rw [mr8 c m0]
    refine gdT (miA c m0 e8) ?_
    obtain ⟨g2, h⟩ := p_gdE h
    refine gdT ⟨g2.1, by rw [mlA c m0 e8]; exact g2.2⟩ ?_
    try rw [mzA c m0 e8 ((p_w ((p_w (3 * v1)) + v3)) : Int).toNat]
    obtain ⟨g3, h⟩ := p_gdE h
    refine gdT ⟨g3.1, by rw [mlA c m0 e8]; exact g3.2⟩ ?_
    refine bM (mwA c m0 e8 _ _) h ?_
    intro m4 h
    refine bV h ?_
    intro x6 h
    exact hk61 v1 v2 x6 m4 _ h
set_option maxRecDepth 100000 in
set_option maxHeartbeats 4000000 in
theorem uO_Mo_copyGear_61 (c : h_C)  : ∀ (n : Nat) (v1 : Int) (v2 : Int) (v3 : Int) (m0 : h_M) (r : h_M), GO_Mo_copyGear_61 n v1 v2 v3 m0 = some r → O_Mo_copyGear_61 n 1125 v1 v2 v3 (h_H c m0) = some (h_H c r) := by
  intro n
  induction n with
  | zero => intro v1 v2 v3 m0 r h; cases h
  | succ n ih => intro v1 v2 v3 m0 r h; exact uL_Mo_copyGear_61 c (O_Mo_copyGear_61 n) (GO_Mo_copyGear_61 n) ih v1 v2 v3 m0 r h
set_option maxRecDepth 100000 in
set_option maxHeartbeats 4000000 in
theorem u_Mo_copyGear (c : h_C) (v1 : Int) (v2 : Int) (m0 : h_M) (r : h_M) (h : G_Mo_copyGear v1 v2 m0 = some r) : F_Mo_copyGear 1125 v1 v2 (h_H c m0) = some (h_H c r) := by
  unfold G_Mo_copyGear at h
  unfold F_Mo_copyGear
  refine gdT (miS c m0) ?_
  try rw [mr5 c m0]
  refine gdT (miA c m0 e5) ?_
  obtain ⟨g1, h⟩ := p_gdE h
  refine gdT ⟨g1.1, by rw [mlA c m0 e5]; exact g1.2⟩ ?_
  try rw [mzA c m0 e5 (v1 : Int).toNat]
  obtain ⟨m4, q2, h⟩ := q_bvE h
  refine bvC (u_Mo_fresh c v2 (m0 5 (v1 : Int).toNat) m0 _ q2) ?_
  try rw [mr6 c m4]
  try rw [mr6 c m4]
  refine gdT (miA c m4 e6) ?_
  refine gdT ⟨g1.1, by rw [mlA c m4 e6]; exact g1.2⟩ ?_
  try rw [mzA c m4 e6 (v1 : Int).toNat]
  obtain ⟨g5, h⟩ := p_gdE h
  refine gdT ⟨g5.1, by rw [mlA c m4 e6]; exact g5.2⟩ ?_
  refine bM (mwA c m4 e6 _ _) h ?_
  intro m6 h
  try rw [mr7 c m6]
  try rw [mr7 c m6]
  refine gdT (miA c m6 e7) ?_
  refine gdT ⟨g1.1, by rw [mlA c m6 e7]; exact g1.2⟩ ?_
  try rw [mzA c m6 e7 (v1 : Int).toNat]
  refine gdT ⟨g5.1, by rw [mlA c m6 e7]; exact g5.2⟩ ?_
  refine bM (mwA c m6 e7 _ _) h ?_
  intro m8 h
  try rw [mr9 c m8]
  try rw [mr9 c m8]
  refine gdT (miA c m8 e9) ?_
  refine gdT ⟨g1.1, by rw [mlA c m8 e9]; exact g1.2⟩ ?_
  try rw [mzA c m8 e9 (v1 : Int).toNat]
  refine gdT ⟨g5.1, by rw [mlA c m8 e9]; exact g5.2⟩ ?_
  refine bM (mwA c m8 e9 _ _) h ?_
  intro m10 h
  try rw [mr14 c m10]
  try rw [mr14 c m10]
  refine gdT (miA c m10 e14) ?_
  refine gdT ⟨g1.1, by rw [mlA c m10 e14]; exact g1.2⟩ ?_
  try rw [mzA c m10 e14 (v1 : Int).toNat]
  refine gdT ⟨g5.1, by rw [mlA c m10 e14]; exact g5.2⟩ ?_
  obtain ⟨g12, h⟩ := p_gdE h
  refine gdT g12 ?_
  refine bM (mwA c m10 e14 _ _) h ?_
  intro m13 h
  exact uO_Mo_copyGear_61 c 3000 v1 v2 0 m13 _ h
def GL_Mo_copyRule_33 (k33 : Int → Int → Int → h_M → Option h_M) (v1 : Int) (v2 : Int) (v3 : Int) (m0 : h_M) : Option h_M :=
  if 4 ≤ v3 then
    some m0
  else
    p_gd ((0 : Int) ≤ (p_w ((p_w (4 * v1)) + v3)) ∧ (p_w ((p_w (4 * v1)) + v3)) < (144 : Int)) <|
    p_gd ((0 : Int) ≤ (p_w ((p_w (4 * v2)) + v3)) ∧ (p_w ((p_w (4 * v2)) + v3)) < (144 : Int)) <|
    p_bi (wm m0 52 ((p_w ((p_w (4 * v2)) + v3)) : Int).toNat (m0 52 ((p_w ((p_w (4 * v1)) + v3)) : Int).toNat)) fun m4 =>
    p_bi (wm m4 53 ((p_w ((p_w (4 * v2)) + v3)) : Int).toNat (m4 53 ((p_w ((p_w (4 * v1)) + v3)) : Int).toNat)) fun m6 =>
    p_bi (wm m6 54 ((p_w ((p_w (4 * v2)) + v3)) : Int).toNat (m6 54 ((p_w ((p_w (4 * v1)) + v3)) : Int).toNat)) fun m8 =>
    p_bi (wm m8 55 ((p_w ((p_w (4 * v2)) + v3)) : Int).toNat (m8 55 ((p_w ((p_w (4 * v1)) + v3)) : Int).toNat)) fun m10 =>
    p_bi (p_w (v3 + 1)) fun x12 =>
    k33 v1 v2 x12 m10
def GO_Mo_copyRule_33  : Nat → Int → Int → Int → h_M → Option h_M
  | 0 => fun _ _ _ _ => none
  | n + 1 => GL_Mo_copyRule_33 (GO_Mo_copyRule_33 n)
def G_Mo_copyRule (v1 : Int) (v2 : Int) (m0 : h_M) : Option h_M :=
  p_gd ((0 : Int) ≤ v1 ∧ v1 < (36 : Int)) <|
  p_gd ((0 : Int) ≤ v2 ∧ v2 < (36 : Int)) <|
  p_bi (wm m0 49 (v2 : Int).toNat (m0 49 (v1 : Int).toNat)) fun m3 =>
  p_bi (wm m3 50 (v2 : Int).toNat (m3 50 (v1 : Int).toNat)) fun m5 =>
  p_bi (wm m5 51 (v2 : Int).toNat 0) fun m7 =>
  GO_Mo_copyRule_33 3000 v1 v2 0 m7
set_option maxRecDepth 100000 in
set_option maxHeartbeats 4000000 in
theorem uL_Mo_copyRule_33 (c : h_C) (j33 : Nat → Int → Int → Int → p_Hp → Option p_Hp) (k33 : Int → Int → Int → h_M → Option h_M) (hk33 : ∀ (v1 : Int) (v2 : Int) (v3 : Int) (m0 : h_M) (r : h_M), k33 v1 v2 v3 m0 = some r → j33 1125 v1 v2 v3 (h_H c m0) = some (h_H c r)) (v1 : Int) (v2 : Int) (v3 : Int) (m0 : h_M) (r : h_M) (h : GL_Mo_copyRule_33 k33 v1 v2 v3 m0 = some r) : L_Mo_copyRule_33 j33 1125 v1 v2 v3 (h_H c m0) = some (h_H c r) := by
  unfold GL_Mo_copyRule_33 at h
  unfold L_Mo_copyRule_33
  refine iteC Iff.rfl h (fun b1 h => ?_) (fun b1 h => ?_)
  · cases h
    rfl
  · refine gdT (miS c m0) ?_
    try rw [mr52 c m0]
    try rw [mr52 c m0]
    refine gdT (miA c m0 e52) ?_
    obtain ⟨g2, h⟩ := p_gdE h
    refine gdT ⟨g2.1, by rw [mlA c m0 e52]; exact g2.2⟩ ?_
    try rw [mzA c m0 e52 ((p_w ((p_w (4 * v1)) + v3)) : Int).toNat]
    obtain ⟨g3, h⟩ := p_gdE h
    refine gdT ⟨g3.1, by rw [mlA c m0 e52]; exact g3.2⟩ ?_
    refine bM (mwA c m0 e52 _ _) h ?_
    intro m4 h
    try rw [mr53 c m4]
    try rw [mr53 c m4]
    refine gdT (miA c m4 e53) ?_
    refine gdT ⟨g2.1, by rw [mlA c m4 e53]; exact g2.2⟩ ?_
    try rw [mzA c m4 e53 ((p_w ((p_w (4 * v1)) + v3)) : Int).toNat]
    refine gdT ⟨g3.1, by rw [mlA c m4 e53]; exact g3.2⟩ ?_
    refine bM (mwA c m4 e53 _ _) h ?_
    intro m6 h
    try rw [mr54 c m6]
    try rw [mr54 c m6]
    refine gdT (miA c m6 e54) ?_
    refine gdT ⟨g2.1, by rw [mlA c m6 e54]; exact g2.2⟩ ?_
    try rw [mzA c m6 e54 ((p_w ((p_w (4 * v1)) + v3)) : Int).toNat]
    refine gdT ⟨g3.1, by rw [mlA c m6 e54]; exact g3.2⟩ ?_
    refine bM (mwA c m6 e54 _ _) h ?_
    intro m8 h
    try rw [mr55 c m8]
    try rw [mr55 c m8]
    refine gdT (miA c m8 e55) ?_
    refine gdT ⟨g2.1, by rw [mlA c m8 e55]; exact g2.2⟩ ?_
    try rw [mzA c m8 e55 ((p_w ((p_w (4 * v1)) + v3)) : Int).toNat]
    refine gdT ⟨g3.1, by rw [mlA c m8 e55]; exact g3.2⟩ ?_
    refine bM (mwA c m8 e55 _ _) h ?_
    intro m10 h
    refine bV h ?_
    intro x12 h
    exact hk33 v1 v2 x12 m10 _ h
set_option maxRecDepth 100000 in
set_option maxHeartbeats 4000000 in
theorem uO_Mo_copyRule_33 (c : h_C)  : ∀ (n : Nat) (v1 : Int) (v2 : Int) (v3 : Int) (m0 : h_M) (r : h_M), GO_Mo_copyRule_33 n v1 v2 v3 m0 = some r → O_Mo_copyRule_33 n 1125 v1 v2 v3 (h_H c m0) = some (h_H c r) := by
  intro n
  induction n with
  | zero => intro v1 v2 v3 m0 r h; cases h
  | succ n ih => intro v1 v2 v3 m0 r h; exact uL_Mo_copyRule_33 c (O_Mo_copyRule_33 n) (GO_Mo_copyRule_33 n) ih v1 v2 v3 m0 r h
set_option maxRecDepth 100000 in
set_option maxHeartbeats 4000000 in
theorem u_Mo_copyRule (c : h_C) (v1 : Int) (v2 : Int) (m0 : h_M) (r : h_M) (h : G_Mo_copyRule v1 v2 m0 = some r) : F_Mo_copyRule 1125 v1 v2 (h_H c m0) = some (h_H c r) := by
  unfold G_Mo_copyRule at h
  unfold F_Mo_copyRule
  refine gdT (miS c m0) ?_
  try rw [mr49 c m0]
  try rw [mr49 c m0]
  refine gdT (miA c m0 e49) ?_
  obtain ⟨g1, h⟩ := p_gdE h
  refine gdT ⟨g1.1, by rw [mlA c m0 e49]; exact g1.2⟩ ?_
  try rw [mzA c m0 e49 (v1 : Int).toNat]
  obtain ⟨g2, h⟩ := p_gdE h
  refine gdT ⟨g2.1, by rw [mlA c m0 e49]; exact g2.2⟩ ?_
  refine bM (mwA c m0 e49 _ _) h ?_
  intro m3 h
  try rw [mr50 c m3]
  try rw [mr50 c m3]
  refine gdT (miA c m3 e50) ?_
  refine gdT ⟨g1.1, by rw [mlA c m3 e50]; exact g1.2⟩ ?_
  try rw [mzA c m3 e50 (v1 : Int).toNat]
  refine gdT ⟨g2.1, by rw [mlA c m3 e50]; exact g2.2⟩ ?_
  refine bM (mwA c m3 e50 _ _) h ?_
  intro m5 h
  try rw [mr51 c m5]
  refine gdT (miA c m5 e51) ?_
  refine gdT ⟨g2.1, by rw [mlA c m5 e51]; exact g2.2⟩ ?_
  refine bM (mwA c m5 e51 _ _) h ?_
  intro m7 h
  exact uO_Mo_copyRule_33 c 3000 v1 v2 0 m7 _ h
def GL_Mo_copy_187 (k154 : Int → Int → h_M → Option (Int × h_M)) (k187 : Int → Int → Int → h_M → Option (Int × h_M)) (v1 : Int) (v2 : Int) (v3 : Int) (m0 : h_M) : Option (Int × h_M) :=
  if 4 ≤ v3 then
    p_bi (p_w (v2 + 1)) fun x2 =>
    k154 v1 x2 m0
  else
    p_gd ((0 : Int) ≤ (p_w ((p_w ((p_w (64 * v1)) + (p_w (4 * v2)))) + v3)) ∧ (p_w ((p_w ((p_w (64 * v1)) + (p_w (4 * v2)))) + v3)) < (192 : Int)) <|
    p_gd ((0 : Int) ≤ (p_w ((p_w ((p_w (64 * (m0 100 0))) + (p_w (4 * v2)))) + v3)) ∧ (p_w ((p_w ((p_w (64 * (m0 100 0))) + (p_w (4 * v2)))) + v3)) < (192 : Int)) <|
    p_bi (wm m0 58 ((p_w ((p_w ((p_w (64 * (m0 100 0))) + (p_w (4 * v2)))) + v3)) : Int).toNat (m0 58 ((p_w ((p_w ((p_w (64 * v1)) + (p_w (4 * v2)))) + v3)) : Int).toNat)) fun m6 =>
    p_bi (p_w (v3 + 1)) fun x8 =>
    k187 v1 v2 x8 m6
def GO_Mo_copy_187 (k154 : Int → Int → h_M → Option (Int × h_M)) : Nat → Int → Int → Int → h_M → Option (Int × h_M)
  | 0 => fun _ _ _ _ => none
  | n + 1 => GL_Mo_copy_187 k154 (GO_Mo_copy_187 k154 n)
def GL_Mo_copy_154 (k154 : Int → Int → h_M → Option (Int × h_M)) (v1 : Int) (v2 : Int) (m0 : h_M) : Option (Int × h_M) :=
  if 16 ≤ v2 then
    p_gd ((0 : Int) ≤ (m0 100 0) ∧ (m0 100 0) < (3 : Int)) <|
    q_bd (G_Mo_built (m0 3 ((m0 100 0) : Int).toNat) m0) fun r5 m6 =>
    some (r5, m6)
  else
    p_gd ((0 : Int) ≤ (p_w ((p_w (16 * v1)) + v2)) ∧ (p_w ((p_w (16 * v1)) + v2)) < (48 : Int)) <|
    p_gd ((0 : Int) ≤ (p_w ((p_w (16 * (m0 100 0))) + v2)) ∧ (p_w ((p_w (16 * (m0 100 0))) + v2)) < (48 : Int)) <|
    p_bi (wm m0 57 ((p_w ((p_w (16 * (m0 100 0))) + v2)) : Int).toNat (m0 57 ((p_w ((p_w (16 * v1)) + v2)) : Int).toNat)) fun m10 =>
    GO_Mo_copy_187 k154 3000 v1 v2 0 m10
def GO_Mo_copy_154  : Nat → Int → Int → h_M → Option (Int × h_M)
  | 0 => fun _ _ _ => none
  | n + 1 => GL_Mo_copy_154 (GO_Mo_copy_154 n)
def GL_Mo_copy_102 (k102 : Int → Int → h_M → Option (Int × h_M)) (v1 : Int) (v2 : Int) (m0 : h_M) : Option (Int × h_M) :=
  p_gd ((0 : Int) ≤ v1 ∧ v1 < (3 : Int)) <|
  if (m0 48 (v1 : Int).toNat) ≤ v2 then
    p_gd ((0 : Int) ≤ (m0 100 0) ∧ (m0 100 0) < (3 : Int)) <|
    p_bi (wm m0 56 ((m0 100 0) : Int).toNat (m0 56 (v1 : Int).toNat)) fun m4 =>
    GO_Mo_copy_154 3000 v1 0 m4
  else
    q_bv (G_Mo_copyRule (p_w ((p_w (12 * v1)) + v2)) (p_w ((p_w (12 * (m0 100 0))) + v2)) m0) fun m8 =>
    p_bi (p_w (v2 + 1)) fun x9 =>
    k102 v1 x9 m8
def GO_Mo_copy_102  : Nat → Int → Int → h_M → Option (Int × h_M)
  | 0 => fun _ _ _ => none
  | n + 1 => GL_Mo_copy_102 (GO_Mo_copy_102 n)
def GL_Mo_copy_39 (k39 : Int → Int → h_M → Option (Int × h_M)) (v1 : Int) (v2 : Int) (m0 : h_M) : Option (Int × h_M) :=
  p_gd ((0 : Int) ≤ v1 ∧ v1 < (3 : Int)) <|
  if (m0 3 (v1 : Int).toNat) ≤ v2 then
    p_gd ((0 : Int) ≤ (m0 100 0) ∧ (m0 100 0) < (3 : Int)) <|
    p_bi (wm m0 3 ((m0 100 0) : Int).toNat (m0 3 (v1 : Int).toNat)) fun m4 =>
    p_gd ((0 : Int) ≤ (m4 100 0) ∧ (m4 100 0) < (3 : Int)) <|
    p_bi (wm m4 48 ((m4 100 0) : Int).toNat (m4 48 (v1 : Int).toNat)) fun m7 =>
    GO_Mo_copy_102 3000 v1 0 m7
  else
    q_bv (G_Mo_g v2 m0) fun r11 =>
    q_bv (G_Mo_copyGear (p_w ((p_w (40 * v1)) + v2)) r11 m0) fun m15 =>
    p_bi (p_w (v2 + 1)) fun x16 =>
    k39 v1 x16 m15
def GO_Mo_copy_39  : Nat → Int → Int → h_M → Option (Int × h_M)
  | 0 => fun _ _ _ => none
  | n + 1 => GL_Mo_copy_39 (GO_Mo_copy_39 n)
def G_Mo_copy (v1 : Int) (m0 : h_M) : Option (Int × h_M) :=
  q_bv (G_Mo_beyond v1 0 2 m0) fun r3 =>
  if r3 = 0 then
    p_gd ((0 : Int) ≤ (m0 100 0) ∧ (m0 100 0) < (3 : Int)) <|
    if (m0 3 ((m0 100 0) : Int).toNat) ≤ 0 then
      GO_Mo_copy_39 3000 v1 0 m0
    else
      q_bd (G_Mo_refused (-3) m0) fun r10 m11 =>
      some (r10, m11)
  else
    q_bd (G_Mo_refused (-1) m0) fun r15 m16 =>
    some (r15, m16)
set_option maxRecDepth 100000 in
set_option maxHeartbeats 4000000 in
theorem uL_Mo_copy_187 (c : h_C) (j154 : Nat → Int → Int → p_Hp → Option (Int × p_Hp)) (k154 : Int → Int → h_M → Option (Int × h_M)) (hk154 : ∀ (v1 : Int) (v2 : Int) (m0 : h_M) (r : (Int × h_M)), k154 v1 v2 m0 = some r → j154 1125 v1 v2 (h_H c m0) = some (r.1, (h_H c r.2))) (j187 : Nat → Int → Int → Int → p_Hp → Option (Int × p_Hp)) (k187 : Int → Int → Int → h_M → Option (Int × h_M)) (hk187 : ∀ (v1 : Int) (v2 : Int) (v3 : Int) (m0 : h_M) (r : (Int × h_M)), k187 v1 v2 v3 m0 = some r → j187 1125 v1 v2 v3 (h_H c m0) = some (r.1, (h_H c r.2))) (v1 : Int) (v2 : Int) (v3 : Int) (m0 : h_M) (r : (Int × h_M)) (h : GL_Mo_copy_187 k154 k187 v1 v2 v3 m0 = some r) : L_Mo_copy_187 j154 j187 1125 v1 v2 v3 (h_H c m0) = some (r.1, (h_H c r.2)) := by
  unfold GL_Mo_copy_187 at h
  unfold L_Mo_copy_187
  refine iteC Iff.rfl h (fun b1 h => ?_) (fun b1 h => ?_)
  · refine bV h ?_
    intro x2 h
    exact hk154 v1 x2 m0 _ h
  · refine gdT (miS c m0) ?_
    try rw [mr58 c m0]
    try rw [zs0 c m0]
    try rw [mr58 c m0]
    refine gdT (miA c m0 e58) ?_
    obtain ⟨g4, h⟩ := p_gdE h
    refine gdT ⟨g4.1, by rw [mlA c m0 e58]; exact g4.2⟩ ?_
    try rw [mzA c m0 e58 ((p_w ((p_w ((p_w (64 * v1)) + (p_w (4 * v2)))) + v3)) : Int).toNat]
    obtain ⟨g5, h⟩ := p_gdE h
    refine gdT ⟨g5.1, by rw [mlA c m0 e58]; exact g5.2⟩ ?_
    refine bM (mwA c m0 e58 _ _) h ?_
    intro m6 h
    refine bV h ?_
    intro x8 h
    exact hk187 v1 v2 x8 m6 _ h
set_option maxRecDepth 100000 in
set_option maxHeartbeats 4000000 in
theorem uO_Mo_copy_187 (c : h_C) (j154 : Nat → Int → Int → p_Hp → Option (Int × p_Hp)) (k154 : Int → Int → h_M → Option (Int × h_M)) (hk154 : ∀ (v1 : Int) (v2 : Int) (m0 : h_M) (r : (Int × h_M)), k154 v1 v2 m0 = some r → j154 1125 v1 v2 (h_H c m0) = some (r.1, (h_H c r.2))) : ∀ (n : Nat) (v1 : Int) (v2 : Int) (v3 : Int) (m0 : h_M) (r : (Int × h_M)), GO_Mo_copy_187 k154 n v1 v2 v3 m0 = some r → O_Mo_copy_187 j154 n 1125 v1 v2 v3 (h_H c m0) = some (r.1, (h_H c r.2)) := by
  intro n
  induction n with
  | zero => intro v1 v2 v3 m0 r h; cases h
  | succ n ih => intro v1 v2 v3 m0 r h; exact uL_Mo_copy_187 c j154 k154 hk154 (O_Mo_copy_187 j154 n) (GO_Mo_copy_187 k154 n) ih v1 v2 v3 m0 r h
set_option maxRecDepth 100000 in
set_option maxHeartbeats 4000000 in
theorem uL_Mo_copy_154 (c : h_C) (j154 : Nat → Int → Int → p_Hp → Option (Int × p_Hp)) (k154 : Int → Int → h_M → Option (Int × h_M)) (hk154 : ∀ (v1 : Int) (v2 : Int) (m0 : h_M) (r : (Int × h_M)), k154 v1 v2 m0 = some r → j154 1125 v1 v2 (h_H c m0) = some (r.1, (h_H c r.2))) (v1 : Int) (v2 : Int) (m0 : h_M) (r : (Int × h_M)) (h : GL_Mo_copy_154 k154 v1 v2 m0 = some r) : L_Mo_copy_154 j154 1125 v1 v2 (h_H c m0) = some (r.1, (h_H c r.2)) := by
  unfold GL_Mo_copy_154 at h
  unfold L_Mo_copy_154
  refine iteC Iff.rfl h (fun b1 h => ?_) (fun b1 h => ?_)
  · refine gdT (miS c m0) ?_
    try rw [mr3 c m0]
    try rw [zs0 c m0]
    refine gdT (miA c m0 e3) ?_
    obtain ⟨g2, h⟩ := p_gdE h
    refine gdT ⟨g2.1, by rw [mlA c m0 e3]; exact g2.2⟩ ?_
    try rw [mzA c m0 e3 ((m0 100 0) : Int).toNat]
    obtain ⟨r5, m6, q3, h⟩ := q_bdE h
    refine bdC (u_Mo_built c (m0 3 ((m0 100 0) : Int).toNat) m0 _ q3) ?_
    cases h
    rfl
  · refine gdT (miS c m0) ?_
    try rw [mr57 c m0]
    try rw [zs0 c m0]
    try rw [mr57 c m0]
    refine gdT (miA c m0 e57) ?_
    obtain ⟨g8, h⟩ := p_gdE h
    refine gdT ⟨g8.1, by rw [mlA c m0 e57]; exact g8.2⟩ ?_
    try rw [mzA c m0 e57 ((p_w ((p_w (16 * v1)) + v2)) : Int).toNat]
    obtain ⟨g9, h⟩ := p_gdE h
    refine gdT ⟨g9.1, by rw [mlA c m0 e57]; exact g9.2⟩ ?_
    refine bM (mwA c m0 e57 _ _) h ?_
    intro m10 h
    exact uO_Mo_copy_187 c j154 k154 hk154 3000 v1 v2 0 m10 _ h
set_option maxRecDepth 100000 in
set_option maxHeartbeats 4000000 in
theorem uO_Mo_copy_154 (c : h_C)  : ∀ (n : Nat) (v1 : Int) (v2 : Int) (m0 : h_M) (r : (Int × h_M)), GO_Mo_copy_154 n v1 v2 m0 = some r → O_Mo_copy_154 n 1125 v1 v2 (h_H c m0) = some (r.1, (h_H c r.2)) := by
  intro n
  induction n with
  | zero => intro v1 v2 m0 r h; cases h
  | succ n ih => intro v1 v2 m0 r h; exact uL_Mo_copy_154 c (O_Mo_copy_154 n) (GO_Mo_copy_154 n) ih v1 v2 m0 r h
set_option maxRecDepth 100000 in
set_option maxHeartbeats 4000000 in
theorem uL_Mo_copy_102 (c : h_C) (j102 : Nat → Int → Int → p_Hp → Option (Int × p_Hp)) (k102 : Int → Int → h_M → Option (Int × h_M)) (hk102 : ∀ (v1 : Int) (v2 : Int) (m0 : h_M) (r : (Int × h_M)), k102 v1 v2 m0 = some r → j102 1125 v1 v2 (h_H c m0) = some (r.1, (h_H c r.2))) (v1 : Int) (v2 : Int) (m0 : h_M) (r : (Int × h_M)) (h : GL_Mo_copy_102 k102 v1 v2 m0 = some r) : L_Mo_copy_102 j102 1125 v1 v2 (h_H c m0) = some (r.1, (h_H c r.2)) := by
  unfold GL_Mo_copy_102 at h
  unfold L_Mo_copy_102
  refine gdT (miS c m0) ?_
  try rw [mr48 c m0]
  refine gdT (miA c m0 e48) ?_
  obtain ⟨g1, h⟩ := p_gdE h
  refine gdT ⟨g1.1, by rw [mlA c m0 e48]; exact g1.2⟩ ?_
  try rw [mzA c m0 e48 (v1 : Int).toNat]
  refine iteC Iff.rfl h (fun b2 h => ?_) (fun b2 h => ?_)
  · try rw [mr56 c m0]
    try rw [zs0 c m0]
    try rw [mr56 c m0]
    refine gdT (miA c m0 e56) ?_
    refine gdT ⟨g1.1, by rw [mlA c m0 e56]; exact g1.2⟩ ?_
    try rw [mzA c m0 e56 (v1 : Int).toNat]
    obtain ⟨g3, h⟩ := p_gdE h
    refine gdT ⟨g3.1, by rw [mlA c m0 e56]; exact g3.2⟩ ?_
    refine bM (mwA c m0 e56 _ _) h ?_
    intro m4 h
    exact uO_Mo_copy_154 c 3000 v1 0 m4 _ h
  · try rw [zs0 c m0]
    obtain ⟨m8, q6, h⟩ := q_bvE h
    refine bvC (u_Mo_copyRule c (p_w ((p_w (12 * v1)) + v2)) (p_w ((p_w (12 * (m0 100 0))) + v2)) m0 _ q6) ?_
    refine bV h ?_
    intro x9 h
    exact hk102 v1 x9 m8 _ h
set_option maxRecDepth 100000 in
set_option maxHeartbeats 4000000 in
theorem uO_Mo_copy_102 (c : h_C)  : ∀ (n : Nat) (v1 : Int) (v2 : Int) (m0 : h_M) (r : (Int × h_M)), GO_Mo_copy_102 n v1 v2 m0 = some r → O_Mo_copy_102 n 1125 v1 v2 (h_H c m0) = some (r.1, (h_H c r.2)) := by
  intro n
  induction n with
  | zero => intro v1 v2 m0 r h; cases h
  | succ n ih => intro v1 v2 m0 r h; exact uL_Mo_copy_102 c (O_Mo_copy_102 n) (GO_Mo_copy_102 n) ih v1 v2 m0 r h
set_option maxRecDepth 100000 in
set_option maxHeartbeats 4000000 in
theorem uL_Mo_copy_39 (c : h_C) (j39 : Nat → Int → Int → p_Hp → Option (Int × p_Hp)) (k39 : Int → Int → h_M → Option (Int × h_M)) (hk39 : ∀ (v1 : Int) (v2 : Int) (m0 : h_M) (r : (Int × h_M)), k39 v1 v2 m0 = some r → j39 1125 v1 v2 (h_H c m0) = some (r.1, (h_H c r.2))) (v1 : Int) (v2 : Int) (m0 : h_M) (r : (Int × h_M)) (h : GL_Mo_copy_39 k39 v1 v2 m0 = some r) : L_Mo_copy_39 j39 1125 v1 v2 (h_H c m0) = some (r.1, (h_H c r.2)) := by
  unfold GL_Mo_copy_39 at h
  unfold L_Mo_copy_39
  refine gdT (miS c m0) ?_
  try rw [mr3 c m0]
  refine gdT (miA c m0 e3) ?_
  obtain ⟨g1, h⟩ := p_gdE h
  refine gdT ⟨g1.1, by rw [mlA c m0 e3]; exact g1.2⟩ ?_
  try rw [mzA c m0 e3 (v1 : Int).toNat]
  refine iteC Iff.rfl h (fun b2 h => ?_) (fun b2 h => ?_)
  · try rw [mr3 c m0]
    try rw [zs0 c m0]
    try rw [mr3 c m0]
    refine gdT ⟨g1.1, by rw [mlA c m0 e3]; exact g1.2⟩ ?_
    try rw [mzA c m0 e3 (v1 : Int).toNat]
    obtain ⟨g3, h⟩ := p_gdE h
    refine gdT ⟨g3.1, by rw [mlA c m0 e3]; exact g3.2⟩ ?_
    refine bM (mwA c m0 e3 _ _) h ?_
    intro m4 h
    try rw [mr48 c m4]
    try rw [zs0 c m4]
    try rw [mr48 c m4]
    refine gdT (miA c m4 e48) ?_
    refine gdT ⟨g1.1, by rw [mlA c m4 e48]; exact g1.2⟩ ?_
    try rw [mzA c m4 e48 (v1 : Int).toNat]
    obtain ⟨g6, h⟩ := p_gdE h
    refine gdT ⟨g6.1, by rw [mlA c m4 e48]; exact g6.2⟩ ?_
    refine bM (mwA c m4 e48 _ _) h ?_
    intro m7 h
    exact uO_Mo_copy_102 c 3000 v1 0 m7 _ h
  · obtain ⟨r11, q9, h⟩ := q_bvE h
    refine bdC (u_Mo_g c v2 m0 _ q9) ?_
    obtain ⟨m15, q13, h⟩ := q_bvE h
    refine bvC (u_Mo_copyGear c (p_w ((p_w (40 * v1)) + v2)) r11 m0 _ q13) ?_
    refine bV h ?_
    intro x16 h
    exact hk39 v1 x16 m15 _ h
set_option maxRecDepth 100000 in
set_option maxHeartbeats 4000000 in
theorem uO_Mo_copy_39 (c : h_C)  : ∀ (n : Nat) (v1 : Int) (v2 : Int) (m0 : h_M) (r : (Int × h_M)), GO_Mo_copy_39 n v1 v2 m0 = some r → O_Mo_copy_39 n 1125 v1 v2 (h_H c m0) = some (r.1, (h_H c r.2)) := by
  intro n
  induction n with
  | zero => intro v1 v2 m0 r h; cases h
  | succ n ih => intro v1 v2 m0 r h; exact uL_Mo_copy_39 c (O_Mo_copy_39 n) (GO_Mo_copy_39 n) ih v1 v2 m0 r h
set_option maxRecDepth 100000 in
set_option maxHeartbeats 4000000 in
theorem u_Mo_copy (c : h_C) (v1 : Int) (m0 : h_M) (r : (Int × h_M)) (h : G_Mo_copy v1 m0 = some r) : F_Mo_copy 1125 v1 (h_H c m0) = some (r.1, (h_H c r.2)) := by
  unfold G_Mo_copy at h
  unfold F_Mo_copy
  obtain ⟨r3, q1, h⟩ := q_bvE h
  refine bdC (u_Mo_beyond c v1 0 2 m0 _ q1) ?_
  refine iteC Iff.rfl h (fun b5 h => ?_) (fun b5 h => ?_)
  · refine gdT (miS c m0) ?_
    try rw [mr3 c m0]
    try rw [zs0 c m0]
    refine gdT (miA c m0 e3) ?_
    obtain ⟨g6, h⟩ := p_gdE h
    refine gdT ⟨g6.1, by rw [mlA c m0 e3]; exact g6.2⟩ ?_
    try rw [mzA c m0 e3 ((m0 100 0) : Int).toNat]
    refine iteC Iff.rfl h (fun b7 h => ?_) (fun b7 h => ?_)
    · exact uO_Mo_copy_39 c 3000 v1 0 m0 _ h
    · obtain ⟨r10, m11, q8, h⟩ := q_bdE h
      refine bdC (u_Mo_refused c (-3) m0 _ q8) ?_
      cases h
      rfl
  · refine gdT (miS c m0) ?_
    obtain ⟨r15, m16, q13, h⟩ := q_bdE h
    refine bdC (u_Mo_refused c (-1) m0 _ q13) ?_
    cases h
    rfl
def G_Mo_letter (v1 : Int) (m0 : h_M) : Option (Int × h_M) :=
  q_bv (G_Mo_beyond v1 33 126 m0) fun r3 =>
  if r3 = 0 then
    if (m0 147 0) ≠ 200 then
      p_gd ((0 : Int) ≤ (m0 147 0) ∧ (m0 147 0) < (200 : Int)) <|
      p_bi (wm m0 46 ((m0 147 0) : Int).toNat v1) fun m8 =>
      p_bi (wm m8 147 0 (p_w ((m8 147 0) + 1))) fun m10 =>
      q_bd (G_Mo_well (m10 147 0) m10) fun r14 m15 =>
      some (r14, m15)
    else
      q_bd (G_Mo_refused (-4) m0) fun r19 m20 =>
      some (r19, m20)
  else
    q_bd (G_Mo_refused (-2) m0) fun r24 m25 =>
    some (r24, m25)
set_option maxRecDepth 100000 in
set_option maxHeartbeats 4000000 in
theorem u_Mo_letter (c : h_C) (v1 : Int) (m0 : h_M) (r : (Int × h_M)) (h : G_Mo_letter v1 m0 = some r) : F_Mo_letter 1125 v1 (h_H c m0) = some (r.1, (h_H c r.2)) := by
  unfold G_Mo_letter at h
  unfold F_Mo_letter
  obtain ⟨r3, q1, h⟩ := q_bvE h
  refine bdC (u_Mo_beyond c v1 33 126 m0 _ q1) ?_
  refine iteC Iff.rfl h (fun b5 h => ?_) (fun b5 h => ?_)
  · refine gdT (miS c m0) ?_
    try rw [zs47 c m0]
    refine iteC Iff.rfl h (fun b6 h => ?_) (fun b6 h => ?_)
    · try rw [mr46 c m0]
      try rw [zs47 c m0]
      refine gdT (miA c m0 e46) ?_
      obtain ⟨g7, h⟩ := p_gdE h
      refine gdT ⟨g7.1, by rw [mlA c m0 e46]; exact g7.2⟩ ?_
      refine bM (mwA c m0 e46 _ _) h ?_
      intro m8 h
      try rw [zs47 c m8]
      refine bM (ws47 c m8 _) h ?_
      intro m10 h
      try rw [zs47 c m10]
      obtain ⟨r14, m15, q12, h⟩ := q_bdE h
      refine bdC (u_Mo_well c (m10 147 0) m10 _ q12) ?_
      cases h
      rfl
    · obtain ⟨r19, m20, q17, h⟩ := q_bdE h
      refine bdC (u_Mo_refused c (-4) m0 _ q17) ?_
      cases h
      rfl
  · refine gdT (miS c m0) ?_
    obtain ⟨r24, m25, q22, h⟩ := q_bdE h
    refine bdC (u_Mo_refused c (-2) m0 _ q22) ?_
    cases h
    rfl
def G_Mo_here  (m0 : h_M) : Option Int :=
  if (m0 147 0) ≤ (m0 168 0) then
    some 0
  else
    p_gd ((0 : Int) ≤ (m0 168 0) ∧ (m0 168 0) < (200 : Int)) <|
    some (m0 46 ((m0 168 0) : Int).toNat)
set_option maxRecDepth 100000 in
set_option maxHeartbeats 4000000 in
theorem u_Mo_here (c : h_C)  (m0 : h_M) (r : Int) (h : G_Mo_here  m0 = some r) : F_Mo_here 1125 (h_H c m0) = some (r, (h_H c m0)) := by
  unfold G_Mo_here at h
  unfold F_Mo_here
  refine gdT (miS c m0) ?_
  try rw [zs68 c m0]
  try rw [zs47 c m0]
  refine iteC Iff.rfl h (fun b1 h => ?_) (fun b1 h => ?_)
  · cases h
    rfl
  · try rw [mr46 c m0]
    try rw [zs68 c m0]
    refine gdT (miA c m0 e46) ?_
    obtain ⟨g2, h⟩ := p_gdE h
    refine gdT ⟨g2.1, by rw [mlA c m0 e46]; exact g2.2⟩ ?_
    try rw [mzA c m0 e46 ((m0 168 0) : Int).toNat]
    cases h
    rfl
def G_Mo_isDigit (v0 : Int) (m0 : h_M) : Option Int :=
  if v0 < 48 then
    some 0
  else
    if 57 < v0 then
      some 0
    else
      some 1
set_option maxRecDepth 100000 in
set_option maxHeartbeats 4000000 in
theorem u_Mo_isDigit (c : h_C) (v0 : Int) (m0 : h_M) (r : Int) (h : G_Mo_isDigit v0 m0 = some r) : F_Mo_isDigit v0 (h_H c m0) = some (r, (h_H c m0)) := by
  unfold G_Mo_isDigit at h
  unfold F_Mo_isDigit
  refine iteC Iff.rfl h (fun b1 h => ?_) (fun b1 h => ?_)
  · cases h
    rfl
  · refine iteC Iff.rfl h (fun b2 h => ?_) (fun b2 h => ?_)
    · cases h
      rfl
    · cases h
      rfl
def G_Mo_wrong (v1 : Int) (m0 : h_M) : Option (Int × h_M) :=
  p_bi (wm m0 169 0 v1) fun m1 =>
  some (0, m1)
set_option maxRecDepth 100000 in
set_option maxHeartbeats 4000000 in
theorem u_Mo_wrong (c : h_C) (v1 : Int) (m0 : h_M) (r : (Int × h_M)) (h : G_Mo_wrong v1 m0 = some r) : F_Mo_wrong 1125 v1 (h_H c m0) = some (r.1, (h_H c r.2)) := by
  unfold G_Mo_wrong at h
  unfold F_Mo_wrong
  refine gdT (miS c m0) ?_
  refine bM (ws69 c m0 _) h ?_
  intro m1 h
  cases h
  rfl
def GL_Mo_number_26 (k26 : Int → h_M → Option (Int × h_M)) (v1 : Int) (m0 : h_M) : Option (Int × h_M) :=
  if 4 ≤ v1 then
    some (1, m0)
  else
    q_bv (G_Mo_here m0) fun r4 =>
    q_bv (G_Mo_isDigit r4 m0) fun r8 =>
    if r8 = 0 then
      some (1, m0)
    else
      q_bv (G_Mo_here m0) fun r13 =>
      p_bi (wm m0 170 0 (p_w ((p_w ((p_w (10 * (m0 170 0))) + r13)) - 48))) fun m15 =>
      p_bi (wm m15 168 0 (p_w ((m15 168 0) + 1))) fun m17 =>
      p_bi (p_w (v1 + 1)) fun x19 =>
      k26 x19 m17
def GO_Mo_number_26  : Nat → Int → h_M → Option (Int × h_M)
  | 0 => fun _ _ => none
  | n + 1 => GL_Mo_number_26 (GO_Mo_number_26 n)
def G_Mo_number  (m0 : h_M) : Option (Int × h_M) :=
  q_bv (G_Mo_here m0) fun r3 =>
  q_bv (G_Mo_isDigit r3 m0) fun r7 =>
  if r7 ≠ 0 then
    p_bi (wm m0 170 0 0) fun m10 =>
    GO_Mo_number_26 3000 0 m10
  else
    q_bd (G_Mo_wrong (m0 168 0) m0) fun r14 m15 =>
    p_gd (r14 = 0 ∨ r14 = 1) <|
    some (r14, m15)
set_option maxRecDepth 100000 in
set_option maxHeartbeats 4000000 in
theorem uL_Mo_number_26 (c : h_C) (j26 : Nat → Int → p_Hp → Option (Int × p_Hp)) (k26 : Int → h_M → Option (Int × h_M)) (hk26 : ∀ (v1 : Int) (m0 : h_M) (r : (Int × h_M)), k26 v1 m0 = some r → j26 1125 v1 (h_H c m0) = some (r.1, (h_H c r.2))) (v1 : Int) (m0 : h_M) (r : (Int × h_M)) (h : GL_Mo_number_26 k26 v1 m0 = some r) : L_Mo_number_26 j26 1125 v1 (h_H c m0) = some (r.1, (h_H c r.2)) := by
  unfold GL_Mo_number_26 at h
  unfold L_Mo_number_26
  refine iteC Iff.rfl h (fun b1 h => ?_) (fun b1 h => ?_)
  · cases h
    rfl
  · refine gdT (miS c m0) ?_
    obtain ⟨r4, q2, h⟩ := q_bvE h
    refine bdC (u_Mo_here c m0 _ q2) ?_
    obtain ⟨r8, q6, h⟩ := q_bvE h
    refine bdC (u_Mo_isDigit c r4 m0 _ q6) ?_
    refine iteC Iff.rfl h (fun b10 h => ?_) (fun b10 h => ?_)
    · cases h
      rfl
    · try rw [zs70 c m0]
      obtain ⟨r13, q11, h⟩ := q_bvE h
      refine bdC (u_Mo_here c m0 _ q11) ?_
      refine bM (ws70 c m0 _) h ?_
      intro m15 h
      try rw [zs68 c m15]
      refine bM (ws68 c m15 _) h ?_
      intro m17 h
      refine bV h ?_
      intro x19 h
      exact hk26 x19 m17 _ h
set_option maxRecDepth 100000 in
set_option maxHeartbeats 4000000 in
theorem uO_Mo_number_26 (c : h_C)  : ∀ (n : Nat) (v1 : Int) (m0 : h_M) (r : (Int × h_M)), GO_Mo_number_26 n v1 m0 = some r → O_Mo_number_26 n 1125 v1 (h_H c m0) = some (r.1, (h_H c r.2)) := by
  intro n
  induction n with
  | zero => intro v1 m0 r h; cases h
  | succ n ih => intro v1 m0 r h; exact uL_Mo_number_26 c (O_Mo_number_26 n) (GO_Mo_number_26 n) ih v1 m0 r h
set_option maxRecDepth 100000 in
set_option maxHeartbeats 4000000 in
theorem u_Mo_number (c : h_C)  (m0 : h_M) (r : (Int × h_M)) (h : G_Mo_number  m0 = some r) : F_Mo_number 1125 (h_H c m0) = some (r.1, (h_H c r.2)) := by
  unfold G_Mo_number at h
  unfold F_Mo_number
  refine gdT (miS c m0) ?_
  obtain ⟨r3, q1, h⟩ := q_bvE h
  refine bdC (u_Mo_here c m0 _ q1) ?_
  obtain ⟨r7, q5, h⟩ := q_bvE h
  refine bdC (u_Mo_isDigit c r3 m0 _ q5) ?_
  refine iteC Iff.rfl h (fun b9 h => ?_) (fun b9 h => ?_)
  · refine bM (ws70 c m0 _) h ?_
    intro m10 h
    exact uO_Mo_number_26 c 3000 0 m10 _ h
  · try rw [zs68 c m0]
    obtain ⟨r14, m15, q12, h⟩ := q_bdE h
    refine bdC (u_Mo_wrong c (m0 168 0) m0 _ q12) ?_
    obtain ⟨g17, h⟩ := p_gdE h
    refine gdT g17 ?_
    cases h
    rfl
def GB_Mo_sign_36   (m0 : h_M) : Option (Int × h_M) :=
  p_bi (wm m0 168 0 (p_w ((m0 168 0) + 1))) fun m1 =>
  some (1, m1)
def G_Mo_sign  (m0 : h_M) : Option (Int × h_M) :=
  q_bv (G_Mo_here m0) fun r3 =>
  if r3 = 60 then
    GB_Mo_sign_36 m0
  else
    q_bv (G_Mo_here m0) fun r8 =>
    if r8 = 61 then
      GB_Mo_sign_36 m0
    else
      q_bv (G_Mo_here m0) fun r13 =>
      if r13 = 62 then
        GB_Mo_sign_36 m0
      else
        q_bd (G_Mo_wrong (m0 168 0) m0) fun r18 m19 =>
        p_gd (r18 = 0 ∨ r18 = 1) <|
        some (r18, m19)
set_option maxRecDepth 100000 in
set_option maxHeartbeats 4000000 in
theorem uB_Mo_sign_36 (c : h_C)   (m0 : h_M) (r : (Int × h_M)) (h : GB_Mo_sign_36  m0 = some r) : B_Mo_sign_36 1125 (h_H c m0) = some (r.1, (h_H c r.2)) := by
  unfold GB_Mo_sign_36 at h
  unfold B_Mo_sign_36
  refine gdT (miS c m0) ?_
  try rw [zs68 c m0]
  refine bM (ws68 c m0 _) h ?_
  intro m1 h
  cases h
  rfl
set_option maxRecDepth 100000 in
set_option maxHeartbeats 4000000 in
theorem u_Mo_sign (c : h_C)  (m0 : h_M) (r : (Int × h_M)) (h : G_Mo_sign  m0 = some r) : F_Mo_sign 1125 (h_H c m0) = some (r.1, (h_H c r.2)) := by
  unfold G_Mo_sign at h
  unfold F_Mo_sign
  refine gdT (miS c m0) ?_
  obtain ⟨r3, q1, h⟩ := q_bvE h
  refine bdC (u_Mo_here c m0 _ q1) ?_
  refine iteC Iff.rfl h (fun b5 h => ?_) (fun b5 h => ?_)
  · exact uB_Mo_sign_36 c m0 _ h
  · obtain ⟨r8, q6, h⟩ := q_bvE h
    refine bdC (u_Mo_here c m0 _ q6) ?_
    refine iteC Iff.rfl h (fun b10 h => ?_) (fun b10 h => ?_)
    · exact uB_Mo_sign_36 c m0 _ h
    · obtain ⟨r13, q11, h⟩ := q_bvE h
      refine bdC (u_Mo_here c m0 _ q11) ?_
      refine iteC Iff.rfl h (fun b15 h => ?_) (fun b15 h => ?_)
      · exact uB_Mo_sign_36 c m0 _ h
      · try rw [zs68 c m0]
        obtain ⟨r18, m19, q16, h⟩ := q_bdE h
        refine bdC (u_Mo_wrong c (m0 168 0) m0 _ q16) ?_
        obtain ⟨g21, h⟩ := p_gdE h
        refine gdT g21 ?_
        cases h
        rfl
def GB_Mo_test_45   (m0 : h_M) : Option (Int × h_M) :=
  q_bd (G_Mo_wrong (m0 168 0) m0) fun r3 m4 =>
  p_gd (r3 = 0 ∨ r3 = 1) <|
  some (r3, m4)
def GB_Mo_test_114  (v1 : Int) (v3 : Int) (m0 : h_M) : Option (Int × h_M) :=
  q_bv (G_Mo_here m0) fun r3 =>
  p_gd ((0 : Int) ≤ v3 ∧ v3 < (48 : Int)) <|
  p_bi (wm m0 66 (v3 : Int).toNat r3) fun m6 =>
  q_bd (G_Mo_sign m6) fun r10 m11 =>
  if r10 = 0 then
    some (0, m11)
  else
    q_bd (G_Mo_number m11) fun r16 m17 =>
    if r16 ≠ 0 then
      p_bi (wm m17 67 (v3 : Int).toNat (m17 170 0)) fun m20 =>
      p_gd ((0 : Int) ≤ v1 ∧ v1 < (12 : Int)) <|
      p_bi (wm m20 63 (v1 : Int).toNat (p_w ((m20 63 (v1 : Int).toNat) + 1))) fun m23 =>
      some (1, m23)
    else
      some (0, m17)
def GB_Mo_test_54  (v1 : Int) (v2 : Int) (m0 : h_M) : Option (Int × h_M) :=
  p_gd ((0 : Int) ≤ v1 ∧ v1 < (12 : Int)) <|
  p_bi ((p_w ((p_w (4 * v1)) + (m0 63 (v1 : Int).toNat)))) fun x3 =>
  p_gd ((0 : Int) ≤ x3 ∧ x3 < (48 : Int)) <|
  p_bi (wm m0 64 (x3 : Int).toNat v2) fun m5 =>
  p_bi (wm m5 65 (x3 : Int).toNat 0) fun m7 =>
  p_bi (wm m7 168 0 (p_w ((m7 168 0) + 1))) fun m9 =>
  if v2 ≠ 81 then
    GB_Mo_test_114 v1 x3 m9
  else
    q_bd (G_Mo_number m9) fun r14 m15 =>
    if r14 ≠ 0 then
      p_bi (wm m15 65 (x3 : Int).toNat (m15 170 0)) fun m18 =>
      GB_Mo_test_114 v1 x3 m18
    else
      some (0, m15)
def G_Mo_test (v1 : Int) (m0 : h_M) : Option (Int × h_M) :=
  q_bv (G_Mo_here m0) fun r3 =>
  p_gd ((0 : Int) ≤ v1 ∧ v1 < (12 : Int)) <|
  if (m0 63 (v1 : Int).toNat) = 4 then
    GB_Mo_test_45 m0
  else
    if r3 = 68 then
      GB_Mo_test_54 v1 r3 m0
    else
      if r3 = 87 then
        GB_Mo_test_54 v1 r3 m0
      else
        if r3 = 83 then
          GB_Mo_test_54 v1 r3 m0
        else
          if r3 = 84 then
            GB_Mo_test_54 v1 r3 m0
          else
            if r3 = 81 then
              GB_Mo_test_54 v1 r3 m0
            else
              GB_Mo_test_45 m0
set_option maxRecDepth 100000 in
set_option maxHeartbeats 4000000 in
theorem uB_Mo_test_45 (c : h_C)   (m0 : h_M) (r : (Int × h_M)) (h : GB_Mo_test_45  m0 = some r) : B_Mo_test_45 1125 (h_H c m0) = some (r.1, (h_H c r.2)) := by
  unfold GB_Mo_test_45 at h
  unfold B_Mo_test_45
  refine gdT (miS c m0) ?_
  try rw [zs68 c m0]
  obtain ⟨r3, m4, q1, h⟩ := q_bdE h
  refine bdC (u_Mo_wrong c (m0 168 0) m0 _ q1) ?_
  obtain ⟨g6, h⟩ := p_gdE h
  refine gdT g6 ?_
  cases h
  rfl
set_option maxRecDepth 100000 in
set_option maxHeartbeats 4000000 in
theorem uB_Mo_test_114 (c : h_C)  (v1 : Int) (v3 : Int) (m0 : h_M) (r : (Int × h_M)) (h : GB_Mo_test_114 v1 v3 m0 = some r) : B_Mo_test_114 1125 v1 v3 (h_H c m0) = some (r.1, (h_H c r.2)) := by
  unfold GB_Mo_test_114 at h
  unfold B_Mo_test_114
  refine gdT (miS c m0) ?_
  try rw [mr66 c m0]
  obtain ⟨r3, q1, h⟩ := q_bvE h
  refine bdC (u_Mo_here c m0 _ q1) ?_
  refine gdT (miA c m0 e66) ?_
  obtain ⟨g5, h⟩ := p_gdE h
  refine gdT ⟨g5.1, by rw [mlA c m0 e66]; exact g5.2⟩ ?_
  refine bM (mwA c m0 e66 _ _) h ?_
  intro m6 h
  obtain ⟨r10, m11, q8, h⟩ := q_bdE h
  refine bdC (u_Mo_sign c m6 _ q8) ?_
  refine iteC Iff.rfl h (fun b13 h => ?_) (fun b13 h => ?_)
  · cases h
    rfl
  · obtain ⟨r16, m17, q14, h⟩ := q_bdE h
    refine bdC (u_Mo_number c m11 _ q14) ?_
    refine iteC Iff.rfl h (fun b19 h => ?_) (fun b19 h => ?_)
    · try rw [mr67 c m17]
      try rw [zs70 c m17]
      refine gdT (miA c m17 e67) ?_
      refine gdT ⟨g5.1, by rw [mlA c m17 e67]; exact g5.2⟩ ?_
      refine bM (mwA c m17 e67 _ _) h ?_
      intro m20 h
      try rw [mr63 c m20]
      refine gdT (miA c m20 e63) ?_
      obtain ⟨g22, h⟩ := p_gdE h
      refine gdT ⟨g22.1, by rw [mlA c m20 e63]; exact g22.2⟩ ?_
      try rw [mzA c m20 e63 (v1 : Int).toNat]
      refine gdT ⟨g22.1, by rw [mlA c m20 e63]; exact g22.2⟩ ?_
      refine bM (mwA c m20 e63 _ _) h ?_
      intro m23 h
      cases h
      rfl
    · cases h
      rfl
set_option maxRecDepth 100000 in
set_option maxHeartbeats 4000000 in
theorem uB_Mo_test_54 (c : h_C)  (v1 : Int) (v2 : Int) (m0 : h_M) (r : (Int × h_M)) (h : GB_Mo_test_54 v1 v2 m0 = some r) : B_Mo_test_54 1125 v1 v2 (h_H c m0) = some (r.1, (h_H c r.2)) := by
  unfold GB_Mo_test_54 at h
  unfold B_Mo_test_54
  refine gdT (miS c m0) ?_
  try rw [mr63 c m0]
  refine gdT (miA c m0 e63) ?_
  obtain ⟨g1, h⟩ := p_gdE h
  refine gdT ⟨g1.1, by rw [mlA c m0 e63]; exact g1.2⟩ ?_
  try rw [mzA c m0 e63 (v1 : Int).toNat]
  refine bV h ?_
  intro x3 h
  try rw [mr64 c m0]
  refine gdT (miA c m0 e64) ?_
  obtain ⟨g4, h⟩ := p_gdE h
  refine gdT ⟨g4.1, by rw [mlA c m0 e64]; exact g4.2⟩ ?_
  refine bM (mwA c m0 e64 _ _) h ?_
  intro m5 h
  try rw [mr65 c m5]
  refine gdT (miA c m5 e65) ?_
  refine gdT ⟨g4.1, by rw [mlA c m5 e65]; exact g4.2⟩ ?_
  refine bM (mwA c m5 e65 _ _) h ?_
  intro m7 h
  try rw [zs68 c m7]
  refine bM (ws68 c m7 _) h ?_
  intro m9 h
  refine iteC Iff.rfl h (fun b11 h => ?_) (fun b11 h => ?_)
  · exact uB_Mo_test_114 c v1 x3 m9 _ h
  · obtain ⟨r14, m15, q12, h⟩ := q_bdE h
    refine bdC (u_Mo_number c m9 _ q12) ?_
    refine iteC Iff.rfl h (fun b17 h => ?_) (fun b17 h => ?_)
    · try rw [mr65 c m15]
      try rw [zs70 c m15]
      refine gdT (miA c m15 e65) ?_
      refine gdT ⟨g4.1, by rw [mlA c m15 e65]; exact g4.2⟩ ?_
      refine bM (mwA c m15 e65 _ _) h ?_
      intro m18 h
      exact uB_Mo_test_114 c v1 x3 m18 _ h
    · cases h
      rfl
set_option maxRecDepth 100000 in
set_option maxHeartbeats 4000000 in
theorem u_Mo_test (c : h_C) (v1 : Int) (m0 : h_M) (r : (Int × h_M)) (h : G_Mo_test v1 m0 = some r) : F_Mo_test 1125 v1 (h_H c m0) = some (r.1, (h_H c r.2)) := by
  unfold G_Mo_test at h
  unfold F_Mo_test
  refine gdT (miS c m0) ?_
  obtain ⟨r3, q1, h⟩ := q_bvE h
  refine bdC (u_Mo_here c m0 _ q1) ?_
  try rw [mr63 c m0]
  refine gdT (miA c m0 e63) ?_
  obtain ⟨g5, h⟩ := p_gdE h
  refine gdT ⟨g5.1, by rw [mlA c m0 e63]; exact g5.2⟩ ?_
  try rw [mzA c m0 e63 (v1 : Int).toNat]
  refine iteC Iff.rfl h (fun b6 h => ?_) (fun b6 h => ?_)
  · exact uB_Mo_test_45 c m0 _ h
  · refine iteC Iff.rfl h (fun b7 h => ?_) (fun b7 h => ?_)
    · exact uB_Mo_test_54 c v1 r3 m0 _ h
    · refine iteC Iff.rfl h (fun b8 h => ?_) (fun b8 h => ?_)
      · exact uB_Mo_test_54 c v1 r3 m0 _ h
      · refine iteC Iff.rfl h (fun b9 h => ?_) (fun b9 h => ?_)
        · exact uB_Mo_test_54 c v1 r3 m0 _ h
        · refine iteC Iff.rfl h (fun b10 h => ?_) (fun b10 h => ?_)
          · exact uB_Mo_test_54 c v1 r3 m0 _ h
          · refine iteC Iff.rfl h (fun b11 h => ?_) (fun b11 h => ?_)
            · exact uB_Mo_test_54 c v1 r3 m0 _ h
            · exact uB_Mo_test_45 c m0 _ h
def GB_Mo_rule_0_80 (k37 : Int → Int → h_M → Option (Int × h_M)) (v1 : Int) (v2 : Int) (w0 : Int) (w1 : Int) (m0 : h_M) : Option (Int × h_M) :=
  p_bi (wm m0 168 0 (p_w (w1 + w0))) fun m1 =>
  k37 v1 v2 m1
def GB_Mo_rule_0_65 (k37 : Int → Int → h_M → Option (Int × h_M)) (v1 : Int) (w0 : Int) (m0 : h_M) : Option (Int × h_M) :=
  if w0 = 0 then
    GB_Mo_rule_0_80 k37 v1 w0 0 (m0 168 0) m0
  else
    GB_Mo_rule_0_80 k37 v1 w0 1 (m0 168 0) m0
def GB_Mo_rule_0_159  (v3 : Int) (m0 : h_M) : Option (Int × h_M) :=
  q_bd (G_Mo_wrong v3 m0) fun r3 m4 =>
  p_gd (r3 = 0 ∨ r3 = 1) <|
  some (r3, m4)
def GB_Mo_rule_0_165  (v1 : Int) (m0 : h_M) : Option (Int × h_M) :=
  p_gd ((0 : Int) ≤ v1 ∧ v1 < (12 : Int)) <|
  p_bi (wm m0 62 (v1 : Int).toNat (m0 170 0)) fun m2 =>
  q_bv (G_Mo_here m2) fun r6 =>
  if r6 = 59 then
    p_bi (wm m2 168 0 (p_w ((m2 168 0) + 1))) fun m9 =>
    some (1, m9)
  else
    q_bd (G_Mo_wrong (m2 168 0) m2) fun r13 m14 =>
    p_gd (r13 = 0 ∨ r13 = 1) <|
    some (r13, m14)
def GL_Mo_rule_0_37 (k37 : Int → Int → h_M → Option (Int × h_M)) (v1 : Int) (v2 : Int) (m0 : h_M) : Option (Int × h_M) :=
  if v2 = 0 then
    q_bv (G_Mo_here m0) fun r4 =>
    if r4 = 58 then
      p_bi (wm m0 168 0 (p_w ((m0 168 0) + 1))) fun m7 =>
      p_bi ((m7 168 0)) fun x10 =>
      q_bd (G_Mo_number m7) fun r13 m14 =>
      if r13 ≠ 0 then
        if (m14 170 0) ≤ 39 then
          GB_Mo_rule_0_165 v1 m14
        else
          if (m14 168 0) < (m14 147 0) then
            GB_Mo_rule_0_159 x10 m14
          else
            if (p_w ((m14 168 0) - x10)) ≠ 4 then
              GB_Mo_rule_0_165 v1 m14
            else
              GB_Mo_rule_0_159 x10 m14
      else
        some (0, m14)
    else
      q_bd (G_Mo_wrong (m0 168 0) m0) fun r22 m23 =>
      p_gd (r22 = 0 ∨ r22 = 1) <|
      some (r22, m23)
  else
    q_bd (G_Mo_test v1 m0) fun r28 m29 =>
    if r28 ≠ 0 then
      q_bv (G_Mo_here m29) fun r34 =>
      if r34 ≠ 44 then
        GB_Mo_rule_0_65 k37 v1 0 m29
      else
        GB_Mo_rule_0_65 k37 v1 1 m29
    else
      some (0, m29)
def GO_Mo_rule_0_37  : Nat → Int → Int → h_M → Option (Int × h_M)
  | 0 => fun _ _ _ => none
  | n + 1 => GL_Mo_rule_0_37 (GO_Mo_rule_0_37 n)
def GB_Mo_rule_0_36  (v1 : Int) (w0 : Int) (m0 : h_M) : Option (Int × h_M) :=
  GO_Mo_rule_0_37 3000 v1 w0 m0
def G_Mo_rule_0 (v1 : Int) (m0 : h_M) : Option (Int × h_M) :=
  if v1 ≠ 12 then
    p_gd ((0 : Int) ≤ v1 ∧ v1 < (12 : Int)) <|
    p_bi (wm m0 63 (v1 : Int).toNat 0) fun m3 =>
    q_bv (G_Mo_here m3) fun r7 =>
    if r7 = 58 then
      GB_Mo_rule_0_36 v1 0 m3
    else
      GB_Mo_rule_0_36 v1 1 m3
  else
    q_bd (G_Mo_wrong (m0 168 0) m0) fun r12 m13 =>
    p_gd (r12 = 0 ∨ r12 = 1) <|
    some (r12, m13)
set_option maxRecDepth 100000 in
set_option maxHeartbeats 4000000 in
theorem uB_Mo_rule_0_80 (c : h_C) (j37 : Nat → Int → Int → p_Hp → Option (Int × p_Hp)) (k37 : Int → Int → h_M → Option (Int × h_M)) (hk37 : ∀ (v1 : Int) (v2 : Int) (m0 : h_M) (r : (Int × h_M)), k37 v1 v2 m0 = some r → j37 1125 v1 v2 (h_H c m0) = some (r.1, (h_H c r.2))) (v1 : Int) (v2 : Int) (w0 : Int) (w1 : Int) (m0 : h_M) (r : (Int × h_M)) (h : GB_Mo_rule_0_80 k37 v1 v2 w0 w1 m0 = some r) : B_Mo_rule_0_80 j37 1125 v1 v2 w0 w1 1125 (h_H c m0) = some (r.1, (h_H c r.2)) := by
  unfold GB_Mo_rule_0_80 at h
  unfold B_Mo_rule_0_80
  refine gdT (miS c m0) ?_
  refine bM (ws68 c m0 _) h ?_
  intro m1 h
  exact hk37 v1 v2 m1 _ h
set_option maxRecDepth 100000 in
set_option maxHeartbeats 4000000 in
theorem uB_Mo_rule_0_65 (c : h_C) (j37 : Nat → Int → Int → p_Hp → Option (Int × p_Hp)) (k37 : Int → Int → h_M → Option (Int × h_M)) (hk37 : ∀ (v1 : Int) (v2 : Int) (m0 : h_M) (r : (Int × h_M)), k37 v1 v2 m0 = some r → j37 1125 v1 v2 (h_H c m0) = some (r.1, (h_H c r.2))) (v1 : Int) (w0 : Int) (m0 : h_M) (r : (Int × h_M)) (h : GB_Mo_rule_0_65 k37 v1 w0 m0 = some r) : B_Mo_rule_0_65 j37 1125 v1 w0 (h_H c m0) = some (r.1, (h_H c r.2)) := by
  unfold GB_Mo_rule_0_65 at h
  unfold B_Mo_rule_0_65
  refine gdT (miS c m0) ?_
  try rw [zs68 c m0]
  refine iteC Iff.rfl h (fun b1 h => ?_) (fun b1 h => ?_)
  · exact uB_Mo_rule_0_80 c j37 k37 hk37 v1 w0 0 (m0 168 0) m0 _ h
  · exact uB_Mo_rule_0_80 c j37 k37 hk37 v1 w0 1 (m0 168 0) m0 _ h
set_option maxRecDepth 100000 in
set_option maxHeartbeats 4000000 in
theorem uB_Mo_rule_0_159 (c : h_C)  (v3 : Int) (m0 : h_M) (r : (Int × h_M)) (h : GB_Mo_rule_0_159 v3 m0 = some r) : B_Mo_rule_0_159 1125 v3 (h_H c m0) = some (r.1, (h_H c r.2)) := by
  unfold GB_Mo_rule_0_159 at h
  unfold B_Mo_rule_0_159
  refine gdT (miS c m0) ?_
  obtain ⟨r3, m4, q1, h⟩ := q_bdE h
  refine bdC (u_Mo_wrong c v3 m0 _ q1) ?_
  obtain ⟨g6, h⟩ := p_gdE h
  refine gdT g6 ?_
  cases h
  rfl
set_option maxRecDepth 100000 in
set_option maxHeartbeats 4000000 in
theorem uB_Mo_rule_0_165 (c : h_C)  (v1 : Int) (m0 : h_M) (r : (Int × h_M)) (h : GB_Mo_rule_0_165 v1 m0 = some r) : B_Mo_rule_0_165 1125 v1 (h_H c m0) = some (r.1, (h_H c r.2)) := by
  unfold GB_Mo_rule_0_165 at h
  unfold B_Mo_rule_0_165
  refine gdT (miS c m0) ?_
  try rw [mr62 c m0]
  try rw [zs70 c m0]
  refine gdT (miA c m0 e62) ?_
  obtain ⟨g1, h⟩ := p_gdE h
  refine gdT ⟨g1.1, by rw [mlA c m0 e62]; exact g1.2⟩ ?_
  refine bM (mwA c m0 e62 _ _) h ?_
  intro m2 h
  obtain ⟨r6, q4, h⟩ := q_bvE h
  refine bdC (u_Mo_here c m2 _ q4) ?_
  refine iteC Iff.rfl h (fun b8 h => ?_) (fun b8 h => ?_)
  · try rw [zs68 c m2]
    refine bM (ws68 c m2 _) h ?_
    intro m9 h
    cases h
    rfl
  · try rw [zs68 c m2]
    obtain ⟨r13, m14, q11, h⟩ := q_bdE h
    refine bdC (u_Mo_wrong c (m2 168 0) m2 _ q11) ?_
    obtain ⟨g16, h⟩ := p_gdE h
    refine gdT g16 ?_
    cases h
    rfl
set_option maxRecDepth 100000 in
set_option maxHeartbeats 4000000 in
theorem uL_Mo_rule_0_37 (c : h_C) (j37 : Nat → Int → Int → p_Hp → Option (Int × p_Hp)) (k37 : Int → Int → h_M → Option (Int × h_M)) (hk37 : ∀ (v1 : Int) (v2 : Int) (m0 : h_M) (r : (Int × h_M)), k37 v1 v2 m0 = some r → j37 1125 v1 v2 (h_H c m0) = some (r.1, (h_H c r.2))) (v1 : Int) (v2 : Int) (m0 : h_M) (r : (Int × h_M)) (h : GL_Mo_rule_0_37 k37 v1 v2 m0 = some r) : L_Mo_rule_0_37 j37 1125 v1 v2 (h_H c m0) = some (r.1, (h_H c r.2)) := by
  unfold GL_Mo_rule_0_37 at h
  unfold L_Mo_rule_0_37
  refine iteC Iff.rfl h (fun b1 h => ?_) (fun b1 h => ?_)
  · refine gdT (miS c m0) ?_
    obtain ⟨r4, q2, h⟩ := q_bvE h
    refine bdC (u_Mo_here c m0 _ q2) ?_
    refine iteC Iff.rfl h (fun b6 h => ?_) (fun b6 h => ?_)
    · try rw [zs68 c m0]
      refine bM (ws68 c m0 _) h ?_
      intro m7 h
      try rw [zs68 c m7]
      refine bV h ?_
      intro x10 h
      obtain ⟨r13, m14, q11, h⟩ := q_bdE h
      refine bdC (u_Mo_number c m7 _ q11) ?_
      refine iteC Iff.rfl h (fun b16 h => ?_) (fun b16 h => ?_)
      · try rw [zs70 c m14]
        refine iteC Iff.rfl h (fun b17 h => ?_) (fun b17 h => ?_)
        · exact uB_Mo_rule_0_165 c v1 m14 _ h
        · try rw [zs68 c m14]
          try rw [zs47 c m14]
          refine iteC Iff.rfl h (fun b18 h => ?_) (fun b18 h => ?_)
          · exact uB_Mo_rule_0_159 c x10 m14 _ h
          · try rw [zs68 c m14]
            refine iteC Iff.rfl h (fun b19 h => ?_) (fun b19 h => ?_)
            · exact uB_Mo_rule_0_165 c v1 m14 _ h
            · exact uB_Mo_rule_0_159 c x10 m14 _ h
      · cases h
        rfl
    · try rw [zs68 c m0]
      obtain ⟨r22, m23, q20, h⟩ := q_bdE h
      refine bdC (u_Mo_wrong c (m0 168 0) m0 _ q20) ?_
      obtain ⟨g25, h⟩ := p_gdE h
      refine gdT g25 ?_
      cases h
      rfl
  · refine gdT (miS c m0) ?_
    obtain ⟨r28, m29, q26, h⟩ := q_bdE h
    refine bdC (u_Mo_test c v1 m0 _ q26) ?_
    refine iteC Iff.rfl h (fun b31 h => ?_) (fun b31 h => ?_)
    · obtain ⟨r34, q32, h⟩ := q_bvE h
      refine bdC (u_Mo_here c m29 _ q32) ?_
      refine iteC Iff.rfl h (fun b36 h => ?_) (fun b36 h => ?_)
      · exact uB_Mo_rule_0_65 c j37 k37 hk37 v1 0 m29 _ h
      · exact uB_Mo_rule_0_65 c j37 k37 hk37 v1 1 m29 _ h
    · cases h
      rfl
set_option maxRecDepth 100000 in
set_option maxHeartbeats 4000000 in
theorem uO_Mo_rule_0_37 (c : h_C)  : ∀ (n : Nat) (v1 : Int) (v2 : Int) (m0 : h_M) (r : (Int × h_M)), GO_Mo_rule_0_37 n v1 v2 m0 = some r → O_Mo_rule_0_37 n 1125 v1 v2 (h_H c m0) = some (r.1, (h_H c r.2)) := by
  intro n
  induction n with
  | zero => intro v1 v2 m0 r h; cases h
  | succ n ih => intro v1 v2 m0 r h; exact uL_Mo_rule_0_37 c (O_Mo_rule_0_37 n) (GO_Mo_rule_0_37 n) ih v1 v2 m0 r h
set_option maxRecDepth 100000 in
set_option maxHeartbeats 4000000 in
theorem uB_Mo_rule_0_36 (c : h_C)  (v1 : Int) (w0 : Int) (m0 : h_M) (r : (Int × h_M)) (h : GB_Mo_rule_0_36 v1 w0 m0 = some r) : B_Mo_rule_0_36 1125 v1 w0 (h_H c m0) = some (r.1, (h_H c r.2)) := by
  unfold GB_Mo_rule_0_36 at h
  unfold B_Mo_rule_0_36
  exact uO_Mo_rule_0_37 c 3000 v1 w0 m0 _ h
set_option maxRecDepth 100000 in
set_option maxHeartbeats 4000000 in
theorem u_Mo_rule_0 (c : h_C) (v1 : Int) (m0 : h_M) (r : (Int × h_M)) (h : G_Mo_rule_0 v1 m0 = some r) : F_Mo_rule_0 1125 v1 (h_H c m0) = some (r.1, (h_H c r.2)) := by
  unfold G_Mo_rule_0 at h
  unfold F_Mo_rule_0
  refine iteC Iff.rfl h (fun b1 h => ?_) (fun b1 h => ?_)
  · refine gdT (miS c m0) ?_
    try rw [mr63 c m0]
    refine gdT (miA c m0 e63) ?_
    obtain ⟨g2, h⟩ := p_gdE h
    refine gdT ⟨g2.1, by rw [mlA c m0 e63]; exact g2.2⟩ ?_
    refine bM (mwA c m0 e63 _ _) h ?_
    intro m3 h
    obtain ⟨r7, q5, h⟩ := q_bvE h
    refine bdC (u_Mo_here c m3 _ q5) ?_
    refine iteC Iff.rfl h (fun b9 h => ?_) (fun b9 h => ?_)
    · exact uB_Mo_rule_0_36 c v1 0 m3 _ h
    · exact uB_Mo_rule_0_36 c v1 1 m3 _ h
  · refine gdT (miS c m0) ?_
    try rw [zs68 c m0]
    obtain ⟨r12, m13, q10, h⟩ := q_bdE h
    refine bdC (u_Mo_wrong c (m0 168 0) m0 _ q10) ?_
    obtain ⟨g15, h⟩ := p_gdE h
    refine gdT g15 ?_
    cases h
    rfl
def GB_Mo_load_44 (k11 : Int → Int → Int → h_M → Option (Int × h_M)) (v1 : Int) (v2 : Int) (w0 : Int) (m0 : h_M) : Option (Int × h_M) :=
  k11 v1 v2 w0 m0
def GL_Mo_load_139 (k82 : Int → Int → h_M → Option (Int × h_M)) (k139 : Int → Int → Int → Int → h_M → Option (Int × h_M)) (v1 : Int) (v4 : Int) (v5 : Int) (v6 : Int) (m0 : h_M) : Option (Int × h_M) :=
  if 4 ≤ v6 then
    p_bi (p_w (v4 + 1)) fun x2 =>
    k82 v1 x2 m0
  else
    p_gd ((0 : Int) ≤ (p_w ((p_w (4 * v4)) + v6)) ∧ (p_w ((p_w (4 * v4)) + v6)) < (48 : Int)) <|
    p_gd ((0 : Int) ≤ (p_w ((p_w (4 * v5)) + v6)) ∧ (p_w ((p_w (4 * v5)) + v6)) < (144 : Int)) <|
    p_bi (wm m0 52 ((p_w ((p_w (4 * v5)) + v6)) : Int).toNat (m0 64 ((p_w ((p_w (4 * v4)) + v6)) : Int).toNat)) fun m6 =>
    p_bi (wm m6 53 ((p_w ((p_w (4 * v5)) + v6)) : Int).toNat (m6 65 ((p_w ((p_w (4 * v4)) + v6)) : Int).toNat)) fun m8 =>
    p_bi (wm m8 54 ((p_w ((p_w (4 * v5)) + v6)) : Int).toNat (m8 66 ((p_w ((p_w (4 * v4)) + v6)) : Int).toNat)) fun m10 =>
    p_bi (wm m10 55 ((p_w ((p_w (4 * v5)) + v6)) : Int).toNat (m10 67 ((p_w ((p_w (4 * v4)) + v6)) : Int).toNat)) fun m12 =>
    p_bi (p_w (v6 + 1)) fun x14 =>
    k139 v1 v4 v5 x14 m12
def GO_Mo_load_139 (k82 : Int → Int → h_M → Option (Int × h_M)) : Nat → Int → Int → Int → Int → h_M → Option (Int × h_M)
  | 0 => fun _ _ _ _ _ => none
  | n + 1 => GL_Mo_load_139 k82 (GO_Mo_load_139 k82 n)
def GL_Mo_load_82 (k82 : Int → Int → h_M → Option (Int × h_M)) (v1 : Int) (v4 : Int) (m0 : h_M) : Option (Int × h_M) :=
  if v1 ≤ v4 then
    q_bd (G_Mo_built v1 m0) fun r4 m5 =>
    some (r4, m5)
  else
    p_bi ((p_w ((p_w (12 * (m0 100 0))) + v4))) fun x8 =>
    p_gd ((0 : Int) ≤ v4 ∧ v4 < (12 : Int)) <|
    p_gd ((0 : Int) ≤ x8 ∧ x8 < (36 : Int)) <|
    p_bi (wm m0 49 (x8 : Int).toNat (m0 62 (v4 : Int).toNat)) fun m11 =>
    p_bi (wm m11 50 (x8 : Int).toNat (m11 63 (v4 : Int).toNat)) fun m13 =>
    p_bi (wm m13 51 (x8 : Int).toNat 0) fun m15 =>
    GO_Mo_load_139 k82 3000 v1 v4 x8 0 m15
def GO_Mo_load_82  : Nat → Int → Int → h_M → Option (Int × h_M)
  | 0 => fun _ _ _ => none
  | n + 1 => GL_Mo_load_82 (GO_Mo_load_82 n)
def GB_Mo_load_48  (v1 : Int) (v2 : Int) (m0 : h_M) : Option (Int × h_M) :=
  p_bi (wm m0 147 0 0) fun m1 =>
  if v2 ≠ 0 then
    p_gd ((0 : Int) ≤ (m1 100 0) ∧ (m1 100 0) < (3 : Int)) <|
    p_bi (wm m1 48 ((m1 100 0) : Int).toNat v1) fun m5 =>
    GO_Mo_load_82 3000 v1 0 m5
  else
    q_bd (G_Mo_refused (p_w ((-100) - (m1 169 0))) m1) fun r9 m10 =>
    some (r9, m10)
def GL_Mo_load_11 (k11 : Int → Int → Int → h_M → Option (Int × h_M)) (v1 : Int) (v2 : Int) (v3 : Int) (m0 : h_M) : Option (Int × h_M) :=
  if v2 = 0 then
    GB_Mo_load_48 v1 v2 m0
  else
    if v3 = 0 then
      GB_Mo_load_48 v1 v2 m0
    else
      q_bd (G_Mo_rule_0 v1 m0) fun r5 m6 =>
      p_bi (p_w (v1 + 1)) fun x8 =>
      if (m6 147 0) ≤ (m6 168 0) then
        GB_Mo_load_44 k11 x8 r5 0 m6
      else
        GB_Mo_load_44 k11 x8 r5 1 m6
def GO_Mo_load_11  : Nat → Int → Int → Int → h_M → Option (Int × h_M)
  | 0 => fun _ _ _ _ => none
  | n + 1 => GL_Mo_load_11 (GO_Mo_load_11 n)
def G_Mo_load  (m0 : h_M) : Option (Int × h_M) :=
  p_bi (wm m0 168 0 0) fun m1 =>
  GO_Mo_load_11 3000 0 1 1 m1
set_option maxRecDepth 100000 in
set_option maxHeartbeats 4000000 in
theorem uB_Mo_load_44 (c : h_C) (j11 : Nat → Int → Int → Int → p_Hp → Option (Int × p_Hp)) (k11 : Int → Int → Int → h_M → Option (Int × h_M)) (hk11 : ∀ (v1 : Int) (v2 : Int) (v3 : Int) (m0 : h_M) (r : (Int × h_M)), k11 v1 v2 v3 m0 = some r → j11 1125 v1 v2 v3 (h_H c m0) = some (r.1, (h_H c r.2))) (v1 : Int) (v2 : Int) (w0 : Int) (m0 : h_M) (r : (Int × h_M)) (h : GB_Mo_load_44 k11 v1 v2 w0 m0 = some r) : B_Mo_load_44 j11 1125 v1 v2 w0 (h_H c m0) = some (r.1, (h_H c r.2)) := by
  unfold GB_Mo_load_44 at h
  unfold B_Mo_load_44
  exact hk11 v1 v2 w0 m0 _ h
set_option maxRecDepth 100000 in
set_option maxHeartbeats 4000000 in
theorem uL_Mo_load_139 (c : h_C) (j82 : Nat → Int → Int → p_Hp → Option (Int × p_Hp)) (k82 : Int → Int → h_M → Option (Int × h_M)) (hk82 : ∀ (v1 : Int) (v4 : Int) (m0 : h_M) (r : (Int × h_M)), k82 v1 v4 m0 = some r → j82 1125 v1 v4 (h_H c m0) = some (r.1, (h_H c r.2))) (j139 : Nat → Int → Int → Int → Int → p_Hp → Option (Int × p_Hp)) (k139 : Int → Int → Int → Int → h_M → Option (Int × h_M)) (hk139 : ∀ (v1 : Int) (v4 : Int) (v5 : Int) (v6 : Int) (m0 : h_M) (r : (Int × h_M)), k139 v1 v4 v5 v6 m0 = some r → j139 1125 v1 v4 v5 v6 (h_H c m0) = some (r.1, (h_H c r.2))) (v1 : Int) (v4 : Int) (v5 : Int) (v6 : Int) (m0 : h_M) (r : (Int × h_M)) (h : GL_Mo_load_139 k82 k139 v1 v4 v5 v6 m0 = some r) : L_Mo_load_139 j82 j139 1125 v1 v4 v5 v6 (h_H c m0) = some (r.1, (h_H c r.2)) := by
  unfold GL_Mo_load_139 at h
  unfold L_Mo_load_139
  refine iteC Iff.rfl h (fun b1 h => ?_) (fun b1 h => ?_)
  · refine bV h ?_
    intro x2 h
    exact hk82 v1 x2 m0 _ h
  · refine gdT (miS c m0) ?_
    try rw [mr52 c m0]
    try rw [mr64 c m0]
    refine gdT (miA c m0 e64) ?_
    obtain ⟨g4, h⟩ := p_gdE h
    refine gdT ⟨g4.1, by rw [mlA c m0 e64]; exact g4.2⟩ ?_
    try rw [mzA c m0 e64 ((p_w ((p_w (4 * v4)) + v6)) : Int).toNat]
    refine gdT (miA c m0 e52) ?_
    obtain ⟨g5, h⟩ := p_gdE h
    refine gdT ⟨g5.1, by rw [mlA c m0 e52]; exact g5.2⟩ ?_
    refine bM (mwA c m0 e52 _ _) h ?_
    intro m6 h
    try rw [mr53 c m6]
    try rw [mr65 c m6]
    refine gdT (miA c m6 e65) ?_
    refine gdT ⟨g4.1, by rw [mlA c m6 e65]; exact g4.2⟩ ?_
    try rw [mzA c m6 e65 ((p_w ((p_w (4 * v4)) + v6)) : Int).toNat]
    refine gdT (miA c m6 e53) ?_
    refine gdT ⟨g5.1, by rw [mlA c m6 e53]; exact g5.2⟩ ?_
    refine bM (mwA c m6 e53 _ _) h ?_
    intro m8 h
    try rw [mr54 c m8]
    try rw [mr66 c m8]
    refine gdT (miA c m8 e66) ?_
    refine gdT ⟨g4.1, by rw [mlA c m8 e66]; exact g4.2⟩ ?_
    try rw [mzA c m8 e66 ((p_w ((p_w (4 * v4)) + v6)) : Int).toNat]
    refine gdT (miA c m8 e54) ?_
    refine gdT ⟨g5.1, by rw [mlA c m8 e54]; exact g5.2⟩ ?_
    refine bM (mwA c m8 e54 _ _) h ?_
    intro m10 h
    try rw [mr55 c m10]
    try rw [mr67 c m10]
    refine gdT (miA c m10 e67) ?_
    refine gdT ⟨g4.1, by rw [mlA c m10 e67]; exact g4.2⟩ ?_
    try rw [mzA c m10 e67 ((p_w ((p_w (4 * v4)) + v6)) : Int).toNat]
    refine gdT (miA c m10 e55) ?_
    refine gdT ⟨g5.1, by rw [mlA c m10 e55]; exact g5.2⟩ ?_
    refine bM (mwA c m10 e55 _ _) h ?_
    intro m12 h
    refine bV h ?_
    intro x14 h
    exact hk139 v1 v4 v5 x14 m12 _ h
set_option maxRecDepth 100000 in
set_option maxHeartbeats 4000000 in
theorem uO_Mo_load_139 (c : h_C) (j82 : Nat → Int → Int → p_Hp → Option (Int × p_Hp)) (k82 : Int → Int → h_M → Option (Int × h_M)) (hk82 : ∀ (v1 : Int) (v4 : Int) (m0 : h_M) (r : (Int × h_M)), k82 v1 v4 m0 = some r → j82 1125 v1 v4 (h_H c m0) = some (r.1, (h_H c r.2))) : ∀ (n : Nat) (v1 : Int) (v4 : Int) (v5 : Int) (v6 : Int) (m0 : h_M) (r : (Int × h_M)), GO_Mo_load_139 k82 n v1 v4 v5 v6 m0 = some r → O_Mo_load_139 j82 n 1125 v1 v4 v5 v6 (h_H c m0) = some (r.1, (h_H c r.2)) := by
  intro n
  induction n with
  | zero => intro v1 v4 v5 v6 m0 r h; cases h
  | succ n ih => intro v1 v4 v5 v6 m0 r h; exact uL_Mo_load_139 c j82 k82 hk82 (O_Mo_load_139 j82 n) (GO_Mo_load_139 k82 n) ih v1 v4 v5 v6 m0 r h
set_option maxRecDepth 100000 in
set_option maxHeartbeats 4000000 in
theorem uL_Mo_load_82 (c : h_C) (j82 : Nat → Int → Int → p_Hp → Option (Int × p_Hp)) (k82 : Int → Int → h_M → Option (Int × h_M)) (hk82 : ∀ (v1 : Int) (v4 : Int) (m0 : h_M) (r : (Int × h_M)), k82 v1 v4 m0 = some r → j82 1125 v1 v4 (h_H c m0) = some (r.1, (h_H c r.2))) (v1 : Int) (v4 : Int) (m0 : h_M) (r : (Int × h_M)) (h : GL_Mo_load_82 k82 v1 v4 m0 = some r) : L_Mo_load_82 j82 1125 v1 v4 (h_H c m0) = some (r.1, (h_H c r.2)) := by
  unfold GL_Mo_load_82 at h
  unfold L_Mo_load_82
  refine iteC Iff.rfl h (fun b1 h => ?_) (fun b1 h => ?_)
  · refine gdT (miS c m0) ?_
    obtain ⟨r4, m5, q2, h⟩ := q_bdE h
    refine bdC (u_Mo_built c v1 m0 _ q2) ?_
    cases h
    rfl
  · refine gdT (miS c m0) ?_
    try rw [zs0 c m0]
    refine bV h ?_
    intro x8 h
    try rw [mr49 c m0]
    try rw [mr62 c m0]
    refine gdT (miA c m0 e62) ?_
    obtain ⟨g9, h⟩ := p_gdE h
    refine gdT ⟨g9.1, by rw [mlA c m0 e62]; exact g9.2⟩ ?_
    try rw [mzA c m0 e62 (v4 : Int).toNat]
    refine gdT (miA c m0 e49) ?_
    obtain ⟨g10, h⟩ := p_gdE h
    refine gdT ⟨g10.1, by rw [mlA c m0 e49]; exact g10.2⟩ ?_
    refine bM (mwA c m0 e49 _ _) h ?_
    intro m11 h
    try rw [mr50 c m11]
    try rw [mr63 c m11]
    refine gdT (miA c m11 e63) ?_
    refine gdT ⟨g9.1, by rw [mlA c m11 e63]; exact g9.2⟩ ?_
    try rw [mzA c m11 e63 (v4 : Int).toNat]
    refine gdT (miA c m11 e50) ?_
    refine gdT ⟨g10.1, by rw [mlA c m11 e50]; exact g10.2⟩ ?_
    refine bM (mwA c m11 e50 _ _) h ?_
    intro m13 h
    try rw [mr51 c m13]
    refine gdT (miA c m13 e51) ?_
    refine gdT ⟨g10.1, by rw [mlA c m13 e51]; exact g10.2⟩ ?_
    refine bM (mwA c m13 e51 _ _) h ?_
    intro m15 h
    exact uO_Mo_load_139 c j82 k82 hk82 3000 v1 v4 x8 0 m15 _ h
set_option maxRecDepth 100000 in
set_option maxHeartbeats 4000000 in
theorem uO_Mo_load_82 (c : h_C)  : ∀ (n : Nat) (v1 : Int) (v4 : Int) (m0 : h_M) (r : (Int × h_M)), GO_Mo_load_82 n v1 v4 m0 = some r → O_Mo_load_82 n 1125 v1 v4 (h_H c m0) = some (r.1, (h_H c r.2)) := by
  intro n
  induction n with
  | zero => intro v1 v4 m0 r h; cases h
  | succ n ih => intro v1 v4 m0 r h; exact uL_Mo_load_82 c (O_Mo_load_82 n) (GO_Mo_load_82 n) ih v1 v4 m0 r h
set_option maxRecDepth 100000 in
set_option maxHeartbeats 4000000 in
theorem uB_Mo_load_48 (c : h_C)  (v1 : Int) (v2 : Int) (m0 : h_M) (r : (Int × h_M)) (h : GB_Mo_load_48 v1 v2 m0 = some r) : B_Mo_load_48 1125 v1 v2 (h_H c m0) = some (r.1, (h_H c r.2)) := by
  unfold GB_Mo_load_48 at h
  unfold B_Mo_load_48
  refine gdT (miS c m0) ?_
  refine bM (ws47 c m0 _) h ?_
  intro m1 h
  refine iteC Iff.rfl h (fun b3 h => ?_) (fun b3 h => ?_)
  · try rw [mr48 c m1]
    try rw [zs0 c m1]
    refine gdT (miA c m1 e48) ?_
    obtain ⟨g4, h⟩ := p_gdE h
    refine gdT ⟨g4.1, by rw [mlA c m1 e48]; exact g4.2⟩ ?_
    refine bM (mwA c m1 e48 _ _) h ?_
    intro m5 h
    exact uO_Mo_load_82 c 3000 v1 0 m5 _ h
  · try rw [zs69 c m1]
    obtain ⟨r9, m10, q7, h⟩ := q_bdE h
    refine bdC (u_Mo_refused c (p_w ((-100) - (m1 169 0))) m1 _ q7) ?_
    cases h
    rfl
set_option maxRecDepth 100000 in
set_option maxHeartbeats 4000000 in
theorem uL_Mo_load_11 (c : h_C) (j11 : Nat → Int → Int → Int → p_Hp → Option (Int × p_Hp)) (k11 : Int → Int → Int → h_M → Option (Int × h_M)) (hk11 : ∀ (v1 : Int) (v2 : Int) (v3 : Int) (m0 : h_M) (r : (Int × h_M)), k11 v1 v2 v3 m0 = some r → j11 1125 v1 v2 v3 (h_H c m0) = some (r.1, (h_H c r.2))) (v1 : Int) (v2 : Int) (v3 : Int) (m0 : h_M) (r : (Int × h_M)) (h : GL_Mo_load_11 k11 v1 v2 v3 m0 = some r) : L_Mo_load_11 j11 1125 v1 v2 v3 (h_H c m0) = some (r.1, (h_H c r.2)) := by
  unfold GL_Mo_load_11 at h
  unfold L_Mo_load_11
  refine iteC Iff.rfl h (fun b1 h => ?_) (fun b1 h => ?_)
  · exact uB_Mo_load_48 c v1 v2 m0 _ h
  · refine iteC Iff.rfl h (fun b2 h => ?_) (fun b2 h => ?_)
    · exact uB_Mo_load_48 c v1 v2 m0 _ h
    · refine gdT (miS c m0) ?_
      obtain ⟨r5, m6, q3, h⟩ := q_bdE h
      refine bdC (u_Mo_rule_0 c v1 m0 _ q3) ?_
      refine bV h ?_
      intro x8 h
      try rw [zs68 c m6]
      try rw [zs47 c m6]
      refine iteC Iff.rfl h (fun b10 h => ?_) (fun b10 h => ?_)
      · exact uB_Mo_load_44 c j11 k11 hk11 x8 r5 0 m6 _ h
      · exact uB_Mo_load_44 c j11 k11 hk11 x8 r5 1 m6 _ h
set_option maxRecDepth 100000 in
set_option maxHeartbeats 4000000 in
theorem uO_Mo_load_11 (c : h_C)  : ∀ (n : Nat) (v1 : Int) (v2 : Int) (v3 : Int) (m0 : h_M) (r : (Int × h_M)), GO_Mo_load_11 n v1 v2 v3 m0 = some r → O_Mo_load_11 n 1125 v1 v2 v3 (h_H c m0) = some (r.1, (h_H c r.2)) := by
  intro n
  induction n with
  | zero => intro v1 v2 v3 m0 r h; cases h
  | succ n ih => intro v1 v2 v3 m0 r h; exact uL_Mo_load_11 c (O_Mo_load_11 n) (GO_Mo_load_11 n) ih v1 v2 v3 m0 r h
set_option maxRecDepth 100000 in
set_option maxHeartbeats 4000000 in
theorem u_Mo_load (c : h_C)  (m0 : h_M) (r : (Int × h_M)) (h : G_Mo_load  m0 = some r) : F_Mo_load 1125 (h_H c m0) = some (r.1, (h_H c r.2)) := by
  unfold G_Mo_load at h
  unfold F_Mo_load
  refine gdT (miS c m0) ?_
  refine bM (ws68 c m0 _) h ?_
  intro m1 h
  exact uO_Mo_load_11 c 3000 0 1 1 m1 _ h
def GB_Mo_plan_24   (m0 : h_M) : Option (Int × h_M) :=
  q_bd (G_Mo_refused (-2) m0) fun r3 m4 =>
  some (r3, m4)
def G_Mo_plan (v1 : Int) (v2 : Int) (v3 : Int) (v4 : Int) (v5 : Int) (m0 : h_M) : Option (Int × h_M) :=
  q_bv (G_Mo_beyond v1 1 4 m0) fun r3 =>
  if r3 ≠ 0 then
    GB_Mo_plan_24 m0
  else
    q_bv (G_Mo_beyond v2 0 9999 m0) fun r8 =>
    if r8 = 0 then
      p_gd ((0 : Int) ≤ (m0 100 0) ∧ (m0 100 0) < (3 : Int)) <|
      if (m0 56 ((m0 100 0) : Int).toNat) ≠ 16 then
        p_bi ((p_w ((p_w (16 * (m0 100 0))) + (m0 56 ((m0 100 0) : Int).toNat)))) fun x14 =>
        p_gd ((0 : Int) ≤ x14 ∧ x14 < (48 : Int)) <|
        p_bi (wm m0 57 (x14 : Int).toNat v1) fun m16 =>
        p_gd ((0 : Int) ≤ (p_w (4 * x14)) ∧ (p_w (4 * x14)) < (192 : Int)) <|
        p_bi (wm m16 58 ((p_w (4 * x14)) : Int).toNat v2) fun m19 =>
        p_gd ((0 : Int) ≤ (p_w ((p_w (4 * x14)) + 1)) ∧ (p_w ((p_w (4 * x14)) + 1)) < (192 : Int)) <|
        p_bi (wm m19 58 ((p_w ((p_w (4 * x14)) + 1)) : Int).toNat v3) fun m22 =>
        p_gd ((0 : Int) ≤ (p_w ((p_w (4 * x14)) + 2)) ∧ (p_w ((p_w (4 * x14)) + 2)) < (192 : Int)) <|
        p_bi (wm m22 58 ((p_w ((p_w (4 * x14)) + 2)) : Int).toNat v4) fun m25 =>
        p_gd ((0 : Int) ≤ (p_w ((p_w (4 * x14)) + 3)) ∧ (p_w ((p_w (4 * x14)) + 3)) < (192 : Int)) <|
        p_bi (wm m25 58 ((p_w ((p_w (4 * x14)) + 3)) : Int).toNat v5) fun m28 =>
        p_gd ((0 : Int) ≤ (m28 100 0) ∧ (m28 100 0) < (3 : Int)) <|
        p_bi (wm m28 56 ((m28 100 0) : Int).toNat (p_w ((m28 56 ((m28 100 0) : Int).toNat) + 1))) fun m31 =>
        p_gd ((0 : Int) ≤ (m31 100 0) ∧ (m31 100 0) < (3 : Int)) <|
        q_bd (G_Mo_built (p_w ((m31 56 ((m31 100 0) : Int).toNat) - 1)) m31) fun r36 m37 =>
        some (r36, m37)
      else
        q_bd (G_Mo_refused (-4) m0) fun r41 m42 =>
        some (r41, m42)
    else
      GB_Mo_plan_24 m0
set_option maxRecDepth 100000 in
set_option maxHeartbeats 4000000 in
theorem uB_Mo_plan_24 (c : h_C)   (m0 : h_M) (r : (Int × h_M)) (h : GB_Mo_plan_24  m0 = some r) : B_Mo_plan_24 1125 (h_H c m0) = some (r.1, (h_H c r.2)) := by
  unfold GB_Mo_plan_24 at h
  unfold B_Mo_plan_24
  refine gdT (miS c m0) ?_
  obtain ⟨r3, m4, q1, h⟩ := q_bdE h
  refine bdC (u_Mo_refused c (-2) m0 _ q1) ?_
  cases h
  rfl
set_option maxRecDepth 100000 in
set_option maxHeartbeats 4000000 in
theorem u_Mo_plan (c : h_C) (v1 : Int) (v2 : Int) (v3 : Int) (v4 : Int) (v5 : Int) (m0 : h_M) (r : (Int × h_M)) (h : G_Mo_plan v1 v2 v3 v4 v5 m0 = some r) : F_Mo_plan 1125 v1 v2 v3 v4 v5 (h_H c m0) = some (r.1, (h_H c r.2)) := by
  unfold G_Mo_plan at h
  unfold F_Mo_plan
  obtain ⟨r3, q1, h⟩ := q_bvE h
  refine bdC (u_Mo_beyond c v1 1 4 m0 _ q1) ?_
  refine iteC Iff.rfl h (fun b5 h => ?_) (fun b5 h => ?_)
  · exact uB_Mo_plan_24 c m0 _ h
  · obtain ⟨r8, q6, h⟩ := q_bvE h
    refine bdC (u_Mo_beyond c v2 0 9999 m0 _ q6) ?_
    refine iteC Iff.rfl h (fun b10 h => ?_) (fun b10 h => ?_)
    · refine gdT (miS c m0) ?_
      try rw [mr56 c m0]
      try rw [zs0 c m0]
      refine gdT (miA c m0 e56) ?_
      obtain ⟨g11, h⟩ := p_gdE h
      refine gdT ⟨g11.1, by rw [mlA c m0 e56]; exact g11.2⟩ ?_
      try rw [mzA c m0 e56 ((m0 100 0) : Int).toNat]
      refine iteC Iff.rfl h (fun b12 h => ?_) (fun b12 h => ?_)
      · try rw [zs0 c m0]
        try rw [mr56 c m0]
        try rw [zs0 c m0]
        refine gdT ⟨g11.1, by rw [mlA c m0 e56]; exact g11.2⟩ ?_
        try rw [mzA c m0 e56 ((m0 100 0) : Int).toNat]
        refine bV h ?_
        intro x14 h
        try rw [mr57 c m0]
        refine gdT (miA c m0 e57) ?_
        obtain ⟨g15, h⟩ := p_gdE h
        refine gdT ⟨g15.1, by rw [mlA c m0 e57]; exact g15.2⟩ ?_
        refine bM (mwA c m0 e57 _ _) h ?_
        intro m16 h
        try rw [mr58 c m16]
        refine gdT (miA c m16 e58) ?_
        obtain ⟨g18, h⟩ := p_gdE h
        refine gdT ⟨g18.1, by rw [mlA c m16 e58]; exact g18.2⟩ ?_
        refine bM (mwA c m16 e58 _ _) h ?_
        intro m19 h
        try rw [mr58 c m19]
        refine gdT (miA c m19 e58) ?_
        obtain ⟨g21, h⟩ := p_gdE h
        refine gdT ⟨g21.1, by rw [mlA c m19 e58]; exact g21.2⟩ ?_
        refine bM (mwA c m19 e58 _ _) h ?_
        intro m22 h
        try rw [mr58 c m22]
        refine gdT (miA c m22 e58) ?_
        obtain ⟨g24, h⟩ := p_gdE h
        refine gdT ⟨g24.1, by rw [mlA c m22 e58]; exact g24.2⟩ ?_
        refine bM (mwA c m22 e58 _ _) h ?_
        intro m25 h
        try rw [mr58 c m25]
        refine gdT (miA c m25 e58) ?_
        obtain ⟨g27, h⟩ := p_gdE h
        refine gdT ⟨g27.1, by rw [mlA c m25 e58]; exact g27.2⟩ ?_
        refine bM (mwA c m25 e58 _ _) h ?_
        intro m28 h
        try rw [mr56 c m28]
        try rw [zs0 c m28]
        refine gdT (miA c m28 e56) ?_
        obtain ⟨g30, h⟩ := p_gdE h
        refine gdT ⟨g30.1, by rw [mlA c m28 e56]; exact g30.2⟩ ?_
        try rw [mzA c m28 e56 ((m28 100 0) : Int).toNat]
        refine gdT ⟨g30.1, by rw [mlA c m28 e56]; exact g30.2⟩ ?_
        refine bM (mwA c m28 e56 _ _) h ?_
        intro m31 h
        try rw [mr56 c m31]
        try rw [zs0 c m31]
        refine gdT (miA c m31 e56) ?_
        obtain ⟨g33, h⟩ := p_gdE h
        refine gdT ⟨g33.1, by rw [mlA c m31 e56]; exact g33.2⟩ ?_
        try rw [mzA c m31 e56 ((m31 100 0) : Int).toNat]
        obtain ⟨r36, m37, q34, h⟩ := q_bdE h
        refine bdC (u_Mo_built c (p_w ((m31 56 ((m31 100 0) : Int).toNat) - 1)) m31 _ q34) ?_
        cases h
        rfl
      · obtain ⟨r41, m42, q39, h⟩ := q_bdE h
        refine bdC (u_Mo_refused c (-4) m0 _ q39) ?_
        cases h
        rfl
    · exact uB_Mo_plan_24 c m0 _ h
def GB_Mo_comesFull_24   (m0 : h_M) : Option Int :=
  some 1
def G_Mo_comesFull  (m0 : h_M) : Option Int :=
  p_gd ((0 : Int) ≤ (m0 100 0) ∧ (m0 100 0) < (3 : Int)) <|
  if (m0 38 ((m0 100 0) : Int).toNat) = 30 then
    GB_Mo_comesFull_24 m0
  else
    if (m0 123 0) ≠ 2000 then
      some 0
    else
      GB_Mo_comesFull_24 m0
set_option maxRecDepth 100000 in
set_option maxHeartbeats 4000000 in
theorem uB_Mo_comesFull_24 (c : h_C)   (m0 : h_M) (r : Int) (h : GB_Mo_comesFull_24  m0 = some r) : B_Mo_comesFull_24  (h_H c m0) = some (r, (h_H c m0)) := by
  unfold GB_Mo_comesFull_24 at h
  unfold B_Mo_comesFull_24
  cases h
  rfl
set_option maxRecDepth 100000 in
set_option maxHeartbeats 4000000 in
theorem u_Mo_comesFull (c : h_C)  (m0 : h_M) (r : Int) (h : G_Mo_comesFull  m0 = some r) : F_Mo_comesFull 1125 (h_H c m0) = some (r, (h_H c m0)) := by
  unfold G_Mo_comesFull at h
  unfold F_Mo_comesFull
  refine gdT (miS c m0) ?_
  try rw [mr38 c m0]
  try rw [zs0 c m0]
  refine gdT (miA c m0 e38) ?_
  obtain ⟨g1, h⟩ := p_gdE h
  refine gdT ⟨g1.1, by rw [mlA c m0 e38]; exact g1.2⟩ ?_
  try rw [mzA c m0 e38 ((m0 100 0) : Int).toNat]
  refine iteC Iff.rfl h (fun b2 h => ?_) (fun b2 h => ?_)
  · exact uB_Mo_comesFull_24 c m0 _ h
  · try rw [zs23 c m0]
    refine iteC Iff.rfl h (fun b3 h => ?_) (fun b3 h => ?_)
    · cases h
      rfl
    · exact uB_Mo_comesFull_24 c m0 _ h
def GB_Mo_isChute_12   (m0 : h_M) : Option Int :=
  some 1
def G_Mo_isChute (v0 : Int) (m0 : h_M) : Option Int :=
  if v0 = 7 then
    GB_Mo_isChute_12 m0
  else
    if v0 ≠ 8 then
      some 0
    else
      GB_Mo_isChute_12 m0
set_option maxRecDepth 100000 in
set_option maxHeartbeats 4000000 in
theorem uB_Mo_isChute_12 (c : h_C)   (m0 : h_M) (r : Int) (h : GB_Mo_isChute_12  m0 = some r) : B_Mo_isChute_12  (h_H c m0) = some (r, (h_H c m0)) := by
  unfold GB_Mo_isChute_12 at h
  unfold B_Mo_isChute_12
  cases h
  rfl
set_option maxRecDepth 100000 in
set_option maxHeartbeats 4000000 in
theorem u_Mo_isChute (c : h_C) (v0 : Int) (m0 : h_M) (r : Int) (h : G_Mo_isChute v0 m0 = some r) : F_Mo_isChute v0 (h_H c m0) = some (r, (h_H c m0)) := by
  unfold G_Mo_isChute at h
  unfold F_Mo_isChute
  refine iteC Iff.rfl h (fun b1 h => ?_) (fun b1 h => ?_)
  · exact uB_Mo_isChute_12 c m0 _ h
  · refine iteC Iff.rfl h (fun b2 h => ?_) (fun b2 h => ?_)
    · cases h
      rfl
    · exact uB_Mo_isChute_12 c m0 _ h
def GB_Mo_enters_75  (v1 : Int) (m0 : h_M) : Option h_M :=
  p_gd ((0 : Int) ≤ v1 ∧ v1 < (2001 : Int)) <|
  p_bi (wm m0 33 (v1 : Int).toNat (p_w ((m0 33 (v1 : Int).toNat) + 1))) fun m2 =>
  some m2
def G_Mo_enters (v1 : Int) (v2 : Int) (m0 : h_M) : Option h_M :=
  q_bv (G_Mo_g v2 m0) fun r3 =>
  p_gd ((0 : Int) ≤ (p_w (8 * r3)) ∧ (p_w (8 * r3)) < (960 : Int)) <|
  p_bi (wm m0 22 ((p_w (8 * r3)) : Int).toNat v1) fun m6 =>
  p_gd ((0 : Int) ≤ r3 ∧ r3 < (120 : Int)) <|
  p_bi (wm m6 18 (r3 : Int).toNat (p_w ((m6 18 (r3 : Int).toNat) + 1))) fun m9 =>
  p_gd ((0 : Int) ≤ v1 ∧ v1 < (2001 : Int)) <|
  p_bi (wm m9 26 (v1 : Int).toNat v2) fun m12 =>
  p_bi (wm m12 27 (v1 : Int).toNat 0) fun m14 =>
  p_bi (wm m14 35 (v1 : Int).toNat 0) fun m16 =>
  if 16 ≤ (m16 33 (v1 : Int).toNat) then
    GB_Mo_enters_75 v1 m16
  else
    p_gd ((0 : Int) ≤ (p_w ((p_w (16 * v1)) + (m16 33 (v1 : Int).toNat))) ∧ (p_w ((p_w (16 * v1)) + (m16 33 (v1 : Int).toNat))) < (32016 : Int)) <|
    p_bi (wm m16 34 ((p_w ((p_w (16 * v1)) + (m16 33 (v1 : Int).toNat))) : Int).toNat v2) fun m20 =>
    GB_Mo_enters_75 v1 m20
set_option maxRecDepth 100000 in
set_option maxHeartbeats 4000000 in
theorem uB_Mo_enters_75 (c : h_C)  (v1 : Int) (m0 : h_M) (r : h_M) (h : GB_Mo_enters_75 v1 m0 = some r) : B_Mo_enters_75 1125 v1 (h_H c m0) = some (h_H c r) := by
  unfold GB_Mo_enters_75 at h
  unfold B_Mo_enters_75
  refine gdT (miS c m0) ?_
  try rw [mr33 c m0]
  refine gdT (miA c m0 e33) ?_
  obtain ⟨g1, h⟩ := p_gdE h
  refine gdT ⟨g1.1, by rw [mlA c m0 e33]; exact g1.2⟩ ?_
  try rw [mzA c m0 e33 (v1 : Int).toNat]
  refine gdT ⟨g1.1, by rw [mlA c m0 e33]; exact g1.2⟩ ?_
  refine bM (mwA c m0 e33 _ _) h ?_
  intro m2 h
  cases h
  rfl
set_option maxRecDepth 100000 in
set_option maxHeartbeats 4000000 in
theorem u_Mo_enters (c : h_C) (v1 : Int) (v2 : Int) (m0 : h_M) (r : h_M) (h : G_Mo_enters v1 v2 m0 = some r) : F_Mo_enters 1125 v1 v2 (h_H c m0) = some (h_H c r) := by
  unfold G_Mo_enters at h
  unfold F_Mo_enters
  refine gdT (miS c m0) ?_
  obtain ⟨r3, q1, h⟩ := q_bvE h
  refine bdC (u_Mo_g c v2 m0 _ q1) ?_
  try rw [mr22 c m0]
  refine gdT (miA c m0 e22) ?_
  obtain ⟨g5, h⟩ := p_gdE h
  refine gdT ⟨g5.1, by rw [mlA c m0 e22]; exact g5.2⟩ ?_
  refine bM (mwA c m0 e22 _ _) h ?_
  intro m6 h
  try rw [mr18 c m6]
  refine gdT (miA c m6 e18) ?_
  obtain ⟨g8, h⟩ := p_gdE h
  refine gdT ⟨g8.1, by rw [mlA c m6 e18]; exact g8.2⟩ ?_
  try rw [mzA c m6 e18 (r3 : Int).toNat]
  refine gdT ⟨g8.1, by rw [mlA c m6 e18]; exact g8.2⟩ ?_
  refine bM (mwA c m6 e18 _ _) h ?_
  intro m9 h
  try rw [mr26 c m9]
  refine gdT (miA c m9 e26) ?_
  obtain ⟨g11, h⟩ := p_gdE h
  refine gdT ⟨g11.1, by rw [mlA c m9 e26]; exact g11.2⟩ ?_
  refine bM (mwA c m9 e26 _ _) h ?_
  intro m12 h
  try rw [mr27 c m12]
  refine gdT (miA c m12 e27) ?_
  refine gdT ⟨g11.1, by rw [mlA c m12 e27]; exact g11.2⟩ ?_
  refine bM (mwA c m12 e27 _ _) h ?_
  intro m14 h
  try rw [mr35 c m14]
  refine gdT (miA c m14 e35) ?_
  refine gdT ⟨g11.1, by rw [mlA c m14 e35]; exact g11.2⟩ ?_
  refine bM (mwA c m14 e35 _ _) h ?_
  intro m16 h
  try rw [mr33 c m16]
  refine gdT (miA c m16 e33) ?_
  refine gdT ⟨g11.1, by rw [mlA c m16 e33]; exact g11.2⟩ ?_
  try rw [mzA c m16 e33 (v1 : Int).toNat]
  refine iteC Iff.rfl h (fun b18 h => ?_) (fun b18 h => ?_)
  · exact uB_Mo_enters_75 c v1 m16 _ h
  · try rw [mr34 c m16]
    try rw [mr33 c m16]
    refine gdT ⟨g11.1, by rw [mlA c m16 e33]; exact g11.2⟩ ?_
    try rw [mzA c m16 e33 (v1 : Int).toNat]
    refine gdT (miA c m16 e34) ?_
    obtain ⟨g19, h⟩ := p_gdE h
    refine gdT ⟨g19.1, by rw [mlA c m16 e34]; exact g19.2⟩ ?_
    refine bM (mwA c m16 e34 _ _) h ?_
    intro m20 h
    exact uB_Mo_enters_75 c v1 m20 _ h
def G_Mo_newParcel (v1 : Int) (v2 : Int) (v3 : Int) (m0 : h_M) : Option (Int × h_M) :=
  p_bi (wm m0 123 0 (p_w ((m0 123 0) + 1))) fun m1 =>
  p_bi ((m1 123 0)) fun x4 =>
  p_gd ((0 : Int) ≤ x4 ∧ x4 < (2001 : Int)) <|
  p_bi (wm m1 24 (x4 : Int).toNat (m1 100 0)) fun m6 =>
  p_bi (wm m6 25 (x4 : Int).toNat 1) fun m8 =>
  p_bi (wm m8 28 (x4 : Int).toNat v2) fun m10 =>
  p_bi (wm m10 29 (x4 : Int).toNat v3) fun m12 =>
  p_bi (wm m12 30 (x4 : Int).toNat (-9)) fun m14 =>
  p_bi (wm m14 31 (x4 : Int).toNat (-1)) fun m16 =>
  p_bi (wm m16 33 (x4 : Int).toNat 0) fun m18 =>
  p_bi (wm m18 36 (x4 : Int).toNat 0) fun m20 =>
  p_gd ((0 : Int) ≤ (m20 100 0) ∧ (m20 100 0) < (3 : Int)) <|
  p_bi (wm m20 38 ((m20 100 0) : Int).toNat (p_w ((m20 38 ((m20 100 0) : Int).toNat) + 1))) fun m23 =>
  p_gd ((0 : Int) ≤ (m23 100 0) ∧ (m23 100 0) < (3 : Int)) <|
  p_bi (wm m23 39 ((m23 100 0) : Int).toNat (p_w ((m23 39 ((m23 100 0) : Int).toNat) + 1))) fun m26 =>
  q_bv (G_Mo_enters x4 v1 m26) fun m30 =>
  some (x4, m30)
set_option maxRecDepth 100000 in
set_option maxHeartbeats 4000000 in
theorem u_Mo_newParcel (c : h_C) (v1 : Int) (v2 : Int) (v3 : Int) (m0 : h_M) (r : (Int × h_M)) (h : G_Mo_newParcel v1 v2 v3 m0 = some r) : F_Mo_newParcel 1125 v1 v2 v3 (h_H c m0) = some (r.1, (h_H c r.2)) := by
  unfold G_Mo_newParcel at h
  unfold F_Mo_newParcel
  refine gdT (miS c m0) ?_
  try rw [zs23 c m0]
  refine bM (ws23 c m0 _) h ?_
  intro m1 h
  try rw [zs23 c m1]
  refine bV h ?_
  intro x4 h
  try rw [mr24 c m1]
  try rw [zs0 c m1]
  refine gdT (miA c m1 e24) ?_
  obtain ⟨g5, h⟩ := p_gdE h
  refine gdT ⟨g5.1, by rw [mlA c m1 e24]; exact g5.2⟩ ?_
  refine bM (mwA c m1 e24 _ _) h ?_
  intro m6 h
  try rw [mr25 c m6]
  refine gdT (miA c m6 e25) ?_
  refine gdT ⟨g5.1, by rw [mlA c m6 e25]; exact g5.2⟩ ?_
  refine bM (mwA c m6 e25 _ _) h ?_
  intro m8 h
  try rw [mr28 c m8]
  refine gdT (miA c m8 e28) ?_
  refine gdT ⟨g5.1, by rw [mlA c m8 e28]; exact g5.2⟩ ?_
  refine bM (mwA c m8 e28 _ _) h ?_
  intro m10 h
  try rw [mr29 c m10]
  refine gdT (miA c m10 e29) ?_
  refine gdT ⟨g5.1, by rw [mlA c m10 e29]; exact g5.2⟩ ?_
  refine bM (mwA c m10 e29 _ _) h ?_
  intro m12 h
  try rw [mr30 c m12]
  refine gdT (miA c m12 e30) ?_
  refine gdT ⟨g5.1, by rw [mlA c m12 e30]; exact g5.2⟩ ?_
  refine bM (mwA c m12 e30 _ _) h ?_
  intro m14 h
  try rw [mr31 c m14]
  refine gdT (miA c m14 e31) ?_
  refine gdT ⟨g5.1, by rw [mlA c m14 e31]; exact g5.2⟩ ?_
  refine bM (mwA c m14 e31 _ _) h ?_
  intro m16 h
  try rw [mr33 c m16]
  refine gdT (miA c m16 e33) ?_
  refine gdT ⟨g5.1, by rw [mlA c m16 e33]; exact g5.2⟩ ?_
  refine bM (mwA c m16 e33 _ _) h ?_
  intro m18 h
  try rw [mr36 c m18]
  refine gdT (miA c m18 e36) ?_
  refine gdT ⟨g5.1, by rw [mlA c m18 e36]; exact g5.2⟩ ?_
  refine bM (mwA c m18 e36 _ _) h ?_
  intro m20 h
  try rw [mr38 c m20]
  try rw [zs0 c m20]
  refine gdT (miA c m20 e38) ?_
  obtain ⟨g22, h⟩ := p_gdE h
  refine gdT ⟨g22.1, by rw [mlA c m20 e38]; exact g22.2⟩ ?_
  try rw [mzA c m20 e38 ((m20 100 0) : Int).toNat]
  refine gdT ⟨g22.1, by rw [mlA c m20 e38]; exact g22.2⟩ ?_
  refine bM (mwA c m20 e38 _ _) h ?_
  intro m23 h
  try rw [mr39 c m23]
  try rw [zs0 c m23]
  refine gdT (miA c m23 e39) ?_
  obtain ⟨g25, h⟩ := p_gdE h
  refine gdT ⟨g25.1, by rw [mlA c m23 e39]; exact g25.2⟩ ?_
  try rw [mzA c m23 e39 ((m23 100 0) : Int).toNat]
  refine gdT ⟨g25.1, by rw [mlA c m23 e39]; exact g25.2⟩ ?_
  refine bM (mwA c m23 e39 _ _) h ?_
  intro m26 h
  obtain ⟨m30, q28, h⟩ := q_bvE h
  refine bvC (u_Mo_enters c x4 v1 m26 _ q28) ?_
  cases h
  rfl
def GB_Mo_come_38   (m0 : h_M) : Option (Int × h_M) :=
  q_bd (G_Mo_refused (-2) m0) fun r3 m4 =>
  some (r3, m4)
def GB_Mo_come_97   (m0 : h_M) : Option (Int × h_M) :=
  q_bd (G_Mo_refused (-3) m0) fun r3 m4 =>
  some (r3, m4)
def G_Mo_come (v1 : Int) (v2 : Int) (v3 : Int) (m0 : h_M) : Option (Int × h_M) :=
  q_bv (G_Mo_noGear v1 m0) fun r3 =>
  if r3 = 0 then
    q_bv (G_Mo_beyond v2 1 999 m0) fun r8 =>
    if r8 ≠ 0 then
      GB_Mo_come_38 m0
    else
      q_bv (G_Mo_beyond v3 0 9 m0) fun r13 =>
      if r13 = 0 then
        q_bv (G_Mo_g v1 m0) fun r18 =>
        p_gd ((0 : Int) ≤ r18 ∧ r18 < (120 : Int)) <|
        q_bv (G_Mo_isTaker (m0 5 (r18 : Int).toNat) m0) fun r23 =>
        if r23 ≠ 0 then
          q_bv (G_Mo_isChute (m0 5 (r18 : Int).toNat) m0) fun r28 =>
          if r28 ≠ 0 then
            GB_Mo_come_97 m0
          else
            p_gd ((0 : Int) ≤ (p_w (8 * r18)) ∧ (p_w (8 * r18)) < (960 : Int)) <|
            if (m0 22 ((p_w (8 * r18)) : Int).toNat) ≤ 0 then
              q_bv (G_Mo_comesFull m0) fun r35 =>
              if r35 = 0 then
                q_bd (G_Mo_newParcel v1 v2 v3 m0) fun r40 m41 =>
                q_bd (G_Mo_well r40 m41) fun r45 m46 =>
                some (r45, m46)
              else
                q_bd (G_Mo_refused (-4) m0) fun r50 m51 =>
                some (r50, m51)
            else
              GB_Mo_come_97 m0
        else
          q_bd (G_Mo_faulted 2 m0) fun r55 m56 =>
          some (r55, m56)
      else
        GB_Mo_come_38 m0
  else
    q_bd (G_Mo_refused (-1) m0) fun r60 m61 =>
    some (r60, m61)
set_option maxRecDepth 100000 in
set_option maxHeartbeats 4000000 in
theorem uB_Mo_come_38 (c : h_C)   (m0 : h_M) (r : (Int × h_M)) (h : GB_Mo_come_38  m0 = some r) : B_Mo_come_38 1125 (h_H c m0) = some (r.1, (h_H c r.2)) := by
  unfold GB_Mo_come_38 at h
  unfold B_Mo_come_38
  refine gdT (miS c m0) ?_
  obtain ⟨r3, m4, q1, h⟩ := q_bdE h
  refine bdC (u_Mo_refused c (-2) m0 _ q1) ?_
  cases h
  rfl
set_option maxRecDepth 100000 in
set_option maxHeartbeats 4000000 in
theorem uB_Mo_come_97 (c : h_C)   (m0 : h_M) (r : (Int × h_M)) (h : GB_Mo_come_97  m0 = some r) : B_Mo_come_97 1125 (h_H c m0) = some (r.1, (h_H c r.2)) := by
  unfold GB_Mo_come_97 at h
  unfold B_Mo_come_97
  refine gdT (miS c m0) ?_
  obtain ⟨r3, m4, q1, h⟩ := q_bdE h
  refine bdC (u_Mo_refused c (-3) m0 _ q1) ?_
  cases h
  rfl
set_option maxRecDepth 100000 in
set_option maxHeartbeats 4000000 in
theorem u_Mo_come (c : h_C) (v1 : Int) (v2 : Int) (v3 : Int) (m0 : h_M) (r : (Int × h_M)) (h : G_Mo_come v1 v2 v3 m0 = some r) : F_Mo_come 1125 v1 v2 v3 (h_H c m0) = some (r.1, (h_H c r.2)) := by
  unfold G_Mo_come at h
  unfold F_Mo_come
  refine gdT (miS c m0) ?_
  obtain ⟨r3, q1, h⟩ := q_bvE h
  refine bdC (u_Mo_noGear c v1 m0 _ q1) ?_
  refine iteC Iff.rfl h (fun b5 h => ?_) (fun b5 h => ?_)
  · obtain ⟨r8, q6, h⟩ := q_bvE h
    refine bdC (u_Mo_beyond c v2 1 999 m0 _ q6) ?_
    refine iteC Iff.rfl h (fun b10 h => ?_) (fun b10 h => ?_)
    · exact uB_Mo_come_38 c m0 _ h
    · obtain ⟨r13, q11, h⟩ := q_bvE h
      refine bdC (u_Mo_beyond c v3 0 9 m0 _ q11) ?_
      refine iteC Iff.rfl h (fun b15 h => ?_) (fun b15 h => ?_)
      · obtain ⟨r18, q16, h⟩ := q_bvE h
        refine bdC (u_Mo_g c v1 m0 _ q16) ?_
        try rw [mr5 c m0]
        refine gdT (miA c m0 e5) ?_
        obtain ⟨g20, h⟩ := p_gdE h
        refine gdT ⟨g20.1, by rw [mlA c m0 e5]; exact g20.2⟩ ?_
        try rw [mzA c m0 e5 (r18 : Int).toNat]
        obtain ⟨r23, q21, h⟩ := q_bvE h
        refine bdC (u_Mo_isTaker c (m0 5 (r18 : Int).toNat) m0 _ q21) ?_
        refine iteC Iff.rfl h (fun b25 h => ?_) (fun b25 h => ?_)
        · try rw [mr5 c m0]
          refine gdT (miA c m0 e5) ?_
          refine gdT ⟨g20.1, by rw [mlA c m0 e5]; exact g20.2⟩ ?_
          try rw [mzA c m0 e5 (r18 : Int).toNat]
          obtain ⟨r28, q26, h⟩ := q_bvE h
          refine bdC (u_Mo_isChute c (m0 5 (r18 : Int).toNat) m0 _ q26) ?_
          refine iteC Iff.rfl h (fun b30 h => ?_) (fun b30 h => ?_)
          · exact uB_Mo_come_97 c m0 _ h
          · try rw [mr22 c m0]
            refine gdT (miA c m0 e22) ?_
            obtain ⟨g31, h⟩ := p_gdE h
            refine gdT ⟨g31.1, by rw [mlA c m0 e22]; exact g31.2⟩ ?_
            try rw [mzA c m0 e22 ((p_w (8 * r18)) : Int).toNat]
            refine iteC Iff.rfl h (fun b32 h => ?_) (fun b32 h => ?_)
            · obtain ⟨r35, q33, h⟩ := q_bvE h
              refine bdC (u_Mo_comesFull c m0 _ q33) ?_
              refine iteC Iff.rfl h (fun b37 h => ?_) (fun b37 h => ?_)
              · obtain ⟨r40, m41, q38, h⟩ := q_bdE h
                refine bdC (u_Mo_newParcel c v1 v2 v3 m0 _ q38) ?_
                obtain ⟨r45, m46, q43, h⟩ := q_bdE h
                refine bdC (u_Mo_well c r40 m41 _ q43) ?_
                cases h
                rfl
              · obtain ⟨r50, m51, q48, h⟩ := q_bdE h
                refine bdC (u_Mo_refused c (-4) m0 _ q48) ?_
                cases h
                rfl
            · exact uB_Mo_come_97 c m0 _ h
        · obtain ⟨r55, m56, q53, h⟩ := q_bdE h
          refine bdC (u_Mo_faulted c 2 m0 _ q53) ?_
          cases h
          rfl
      · exact uB_Mo_come_38 c m0 _ h
  · obtain ⟨r60, m61, q58, h⟩ := q_bdE h
    refine bdC (u_Mo_refused c (-1) m0 _ q58) ?_
    cases h
    rfl
def GL_Mo_newLabel_9 (k9 : Int → Int → h_M → Option h_M) (v1 : Int) (v3 : Int) (m0 : h_M) : Option h_M :=
  if 12 ≤ v3 then
    some m0
  else
    p_gd ((0 : Int) ≤ (p_w ((p_w (12 * v1)) + v3)) ∧ (p_w ((p_w (12 * v1)) + v3)) < (24012 : Int)) <|
    p_bi (wm m0 32 ((p_w ((p_w (12 * v1)) + v3)) : Int).toNat 0) fun m3 =>
    p_bi (p_w (v3 + 1)) fun x5 =>
    k9 v1 x5 m3
def GO_Mo_newLabel_9  : Nat → Int → Int → h_M → Option h_M
  | 0 => fun _ _ _ => none
  | n + 1 => GL_Mo_newLabel_9 (GO_Mo_newLabel_9 n)
def G_Mo_newLabel (v1 : Int) (v2 : Int) (m0 : h_M) : Option h_M :=
  p_gd ((0 : Int) ≤ v1 ∧ v1 < (2001 : Int)) <|
  p_bi (wm m0 31 (v1 : Int).toNat v2) fun m2 =>
  GO_Mo_newLabel_9 3000 v1 0 m2
set_option maxRecDepth 100000 in
set_option maxHeartbeats 4000000 in
theorem uL_Mo_newLabel_9 (c : h_C) (j9 : Nat → Int → Int → p_Hp → Option p_Hp) (k9 : Int → Int → h_M → Option h_M) (hk9 : ∀ (v1 : Int) (v3 : Int) (m0 : h_M) (r : h_M), k9 v1 v3 m0 = some r → j9 1125 v1 v3 (h_H c m0) = some (h_H c r)) (v1 : Int) (v3 : Int) (m0 : h_M) (r : h_M) (h : GL_Mo_newLabel_9 k9 v1 v3 m0 = some r) : L_Mo_newLabel_9 j9 1125 v1 v3 (h_H c m0) = some (h_H c r) := by
  unfold GL_Mo_newLabel_9 at h
  unfold L_Mo_newLabel_9
  refine iteC Iff.rfl h (fun b1 h => ?_) (fun b1 h => ?_)
  · cases h
    rfl
  · refine gdT (miS c m0) ?_
    try rw [mr32 c m0]
    refine gdT (miA c m0 e32) ?_
    obtain ⟨g2, h⟩ := p_gdE h
    refine gdT ⟨g2.1, by rw [mlA c m0 e32]; exact g2.2⟩ ?_
    refine bM (mwA c m0 e32 _ _) h ?_
    intro m3 h
    refine bV h ?_
    intro x5 h
    exact hk9 v1 x5 m3 _ h
set_option maxRecDepth 100000 in
set_option maxHeartbeats 4000000 in
theorem uO_Mo_newLabel_9 (c : h_C)  : ∀ (n : Nat) (v1 : Int) (v3 : Int) (m0 : h_M) (r : h_M), GO_Mo_newLabel_9 n v1 v3 m0 = some r → O_Mo_newLabel_9 n 1125 v1 v3 (h_H c m0) = some (h_H c r) := by
  intro n
  induction n with
  | zero => intro v1 v3 m0 r h; cases h
  | succ n ih => intro v1 v3 m0 r h; exact uL_Mo_newLabel_9 c (O_Mo_newLabel_9 n) (GO_Mo_newLabel_9 n) ih v1 v3 m0 r h
set_option maxRecDepth 100000 in
set_option maxHeartbeats 4000000 in
theorem u_Mo_newLabel (c : h_C) (v1 : Int) (v2 : Int) (m0 : h_M) (r : h_M) (h : G_Mo_newLabel v1 v2 m0 = some r) : F_Mo_newLabel 1125 v1 v2 (h_H c m0) = some (h_H c r) := by
  unfold G_Mo_newLabel at h
  unfold F_Mo_newLabel
  refine gdT (miS c m0) ?_
  try rw [mr31 c m0]
  refine gdT (miA c m0 e31) ?_
  obtain ⟨g1, h⟩ := p_gdE h
  refine gdT ⟨g1.1, by rw [mlA c m0 e31]; exact g1.2⟩ ?_
  refine bM (mwA c m0 e31 _ _) h ?_
  intro m2 h
  exact uO_Mo_newLabel_9 c 3000 v1 0 m2 _ h
def GB_Mo_noParcel_37   (m0 : h_M) : Option Int :=
  some 1
def G_Mo_noParcel (v1 : Int) (m0 : h_M) : Option Int :=
  q_bv (G_Mo_beyond v1 1 (m0 123 0) m0) fun r3 =>
  if r3 ≠ 0 then
    GB_Mo_noParcel_37 m0
  else
    p_gd ((0 : Int) ≤ v1 ∧ v1 < (2001 : Int)) <|
    if (m0 25 (v1 : Int).toNat) ≠ 1 then
      GB_Mo_noParcel_37 m0
    else
      if (m0 24 (v1 : Int).toNat) = (m0 100 0) then
        some 0
      else
        GB_Mo_noParcel_37 m0
set_option maxRecDepth 100000 in
set_option maxHeartbeats 4000000 in
theorem uB_Mo_noParcel_37 (c : h_C)   (m0 : h_M) (r : Int) (h : GB_Mo_noParcel_37  m0 = some r) : B_Mo_noParcel_37  (h_H c m0) = some (r, (h_H c m0)) := by
  unfold GB_Mo_noParcel_37 at h
  unfold B_Mo_noParcel_37
  cases h
  rfl
set_option maxRecDepth 100000 in
set_option maxHeartbeats 4000000 in
theorem u_Mo_noParcel (c : h_C) (v1 : Int) (m0 : h_M) (r : Int) (h : G_Mo_noParcel v1 m0 = some r) : F_Mo_noParcel 1125 v1 (h_H c m0) = some (r, (h_H c m0)) := by
  unfold G_Mo_noParcel at h
  unfold F_Mo_noParcel
  refine gdT (miS c m0) ?_
  try rw [zs23 c m0]
  obtain ⟨r3, q1, h⟩ := q_bvE h
  refine bdC (u_Mo_beyond c v1 1 (m0 123 0) m0 _ q1) ?_
  refine iteC Iff.rfl h (fun b5 h => ?_) (fun b5 h => ?_)
  · exact uB_Mo_noParcel_37 c m0 _ h
  · try rw [mr25 c m0]
    refine gdT (miA c m0 e25) ?_
    obtain ⟨g6, h⟩ := p_gdE h
    refine gdT ⟨g6.1, by rw [mlA c m0 e25]; exact g6.2⟩ ?_
    try rw [mzA c m0 e25 (v1 : Int).toNat]
    refine iteC Iff.rfl h (fun b7 h => ?_) (fun b7 h => ?_)
    · exact uB_Mo_noParcel_37 c m0 _ h
    · try rw [mr24 c m0]
      refine gdT (miA c m0 e24) ?_
      refine gdT ⟨g6.1, by rw [mlA c m0 e24]; exact g6.2⟩ ?_
      try rw [mzA c m0 e24 (v1 : Int).toNat]
      try rw [zs0 c m0]
      refine iteC Iff.rfl h (fun b8 h => ?_) (fun b8 h => ?_)
      · cases h
        rfl
      · exact uB_Mo_noParcel_37 c m0 _ h
def G_Mo_label (v1 : Int) (v2 : Int) (m0 : h_M) : Option (Int × h_M) :=
  q_bv (G_Mo_noParcel v1 m0) fun r3 =>
  if r3 = 0 then
    if v2 ≤ 12 then
      if (-1) ≤ v2 then
        q_bv (G_Mo_newLabel v1 v2 m0) fun m10 =>
        q_bd (G_Mo_well v2 m10) fun r13 m14 =>
        some (r13, m14)
      else
        q_bd (G_Mo_faulted 5 m0) fun r18 m19 =>
        some (r18, m19)
    else
      q_bd (G_Mo_refused (-2) m0) fun r23 m24 =>
      some (r23, m24)
  else
    q_bd (G_Mo_refused (-1) m0) fun r28 m29 =>
    some (r28, m29)
set_option maxRecDepth 100000 in
set_option maxHeartbeats 4000000 in
theorem u_Mo_label (c : h_C) (v1 : Int) (v2 : Int) (m0 : h_M) (r : (Int × h_M)) (h : G_Mo_label v1 v2 m0 = some r) : F_Mo_label 1125 v1 v2 (h_H c m0) = some (r.1, (h_H c r.2)) := by
  unfold G_Mo_label at h
  unfold F_Mo_label
  refine gdT (miS c m0) ?_
  obtain ⟨r3, q1, h⟩ := q_bvE h
  refine bdC (u_Mo_noParcel c v1 m0 _ q1) ?_
  refine iteC Iff.rfl h (fun b5 h => ?_) (fun b5 h => ?_)
  · refine iteC Iff.rfl h (fun b6 h => ?_) (fun b6 h => ?_)
    · refine iteC Iff.rfl h (fun b7 h => ?_) (fun b7 h => ?_)
      · obtain ⟨m10, q8, h⟩ := q_bvE h
        refine bvC (u_Mo_newLabel c v1 v2 m0 _ q8) ?_
        obtain ⟨r13, m14, q11, h⟩ := q_bdE h
        refine bdC (u_Mo_well c v2 m10 _ q11) ?_
        cases h
        rfl
      · obtain ⟨r18, m19, q16, h⟩ := q_bdE h
        refine bdC (u_Mo_faulted c 5 m0 _ q16) ?_
        cases h
        rfl
    · obtain ⟨r23, m24, q21, h⟩ := q_bdE h
      refine bdC (u_Mo_refused c (-2) m0 _ q21) ?_
      cases h
      rfl
  · obtain ⟨r28, m29, q26, h⟩ := q_bdE h
    refine bdC (u_Mo_refused c (-1) m0 _ q26) ?_
    cases h
    rfl
def GB_Mo_put_56  (w0 : Int) (m0 : h_M) : Option (Int × h_M) :=
  q_bd (G_Mo_faulted w0 m0) fun r3 m4 =>
  some (r3, m4)
def GB_Mo_put_41  (v1 : Int) (m0 : h_M) : Option (Int × h_M) :=
  p_gd ((0 : Int) ≤ v1 ∧ v1 < (2001 : Int)) <|
  if 0 ≤ (m0 31 (v1 : Int).toNat) then
    GB_Mo_put_56 3 m0
  else
    GB_Mo_put_56 1 m0
def G_Mo_put (v1 : Int) (v2 : Int) (v3 : Int) (m0 : h_M) : Option (Int × h_M) :=
  q_bv (G_Mo_noParcel v1 m0) fun r3 =>
  if r3 = 0 then
    p_gd ((0 : Int) ≤ v1 ∧ v1 < (2001 : Int)) <|
    if (m0 31 (v1 : Int).toNat) < 0 then
      GB_Mo_put_41 v1 m0
    else
      q_bv (G_Mo_beyond v2 0 (p_w ((m0 31 (v1 : Int).toNat) - 1)) m0) fun r10 =>
      if r10 = 0 then
        p_gd ((0 : Int) ≤ (p_w ((p_w (12 * v1)) + v2)) ∧ (p_w ((p_w (12 * v1)) + v2)) < (24012 : Int)) <|
        p_bi (wm m0 32 ((p_w ((p_w (12 * v1)) + v2)) : Int).toNat (p_and v3 255)) fun m14 =>
        q_bd (G_Mo_well 1 m14) fun r18 m19 =>
        some (r18, m19)
      else
        GB_Mo_put_41 v1 m0
  else
    q_bd (G_Mo_refused (-1) m0) fun r23 m24 =>
    some (r23, m24)
set_option maxRecDepth 100000 in
set_option maxHeartbeats 4000000 in
theorem uB_Mo_put_56 (c : h_C)  (w0 : Int) (m0 : h_M) (r : (Int × h_M)) (h : GB_Mo_put_56 w0 m0 = some r) : B_Mo_put_56 w0 1125 (h_H c m0) = some (r.1, (h_H c r.2)) := by
  unfold GB_Mo_put_56 at h
  unfold B_Mo_put_56
  refine gdT (miS c m0) ?_
  obtain ⟨r3, m4, q1, h⟩ := q_bdE h
  refine bdC (u_Mo_faulted c w0 m0 _ q1) ?_
  cases h
  rfl
set_option maxRecDepth 100000 in
set_option maxHeartbeats 4000000 in
theorem uB_Mo_put_41 (c : h_C)  (v1 : Int) (m0 : h_M) (r : (Int × h_M)) (h : GB_Mo_put_41 v1 m0 = some r) : B_Mo_put_41 1125 v1 (h_H c m0) = some (r.1, (h_H c r.2)) := by
  unfold GB_Mo_put_41 at h
  unfold B_Mo_put_41
  refine gdT (miS c m0) ?_
  try rw [mr31 c m0]
  refine gdT (miA c m0 e31) ?_
  obtain ⟨g1, h⟩ := p_gdE h
  refine gdT ⟨g1.1, by rw [mlA c m0 e31]; exact g1.2⟩ ?_
  try rw [mzA c m0 e31 (v1 : Int).toNat]
  refine iteC Iff.rfl h (fun b2 h => ?_) (fun b2 h => ?_)
  · exact uB_Mo_put_56 c 3 m0 _ h
  · exact uB_Mo_put_56 c 1 m0 _ h
set_option maxRecDepth 100000 in
set_option maxHeartbeats 4000000 in
theorem u_Mo_put (c : h_C) (v1 : Int) (v2 : Int) (v3 : Int) (m0 : h_M) (r : (Int × h_M)) (h : G_Mo_put v1 v2 v3 m0 = some r) : F_Mo_put 1125 v1 v2 v3 (h_H c m0) = some (r.1, (h_H c r.2)) := by
  unfold G_Mo_put at h
  unfold F_Mo_put
  refine gdT (miS c m0) ?_
  obtain ⟨r3, q1, h⟩ := q_bvE h
  refine bdC (u_Mo_noParcel c v1 m0 _ q1) ?_
  refine iteC Iff.rfl h (fun b5 h => ?_) (fun b5 h => ?_)
  · try rw [mr31 c m0]
    refine gdT (miA c m0 e31) ?_
    obtain ⟨g6, h⟩ := p_gdE h
    refine gdT ⟨g6.1, by rw [mlA c m0 e31]; exact g6.2⟩ ?_
    try rw [mzA c m0 e31 (v1 : Int).toNat]
    refine iteC Iff.rfl h (fun b7 h => ?_) (fun b7 h => ?_)
    · exact uB_Mo_put_41 c v1 m0 _ h
    · try rw [mr31 c m0]
      refine gdT ⟨g6.1, by rw [mlA c m0 e31]; exact g6.2⟩ ?_
      try rw [mzA c m0 e31 (v1 : Int).toNat]
      obtain ⟨r10, q8, h⟩ := q_bvE h
      refine bdC (u_Mo_beyond c v2 0 (p_w ((m0 31 (v1 : Int).toNat) - 1)) m0 _ q8) ?_
      refine iteC Iff.rfl h (fun b12 h => ?_) (fun b12 h => ?_)
      · try rw [mr32 c m0]
        refine gdT (miA c m0 e32) ?_
        obtain ⟨g13, h⟩ := p_gdE h
        refine gdT ⟨g13.1, by rw [mlA c m0 e32]; exact g13.2⟩ ?_
        refine bM (mwA c m0 e32 _ _) h ?_
        intro m14 h
        obtain ⟨r18, m19, q16, h⟩ := q_bdE h
        refine bdC (u_Mo_well c 1 m14 _ q16) ?_
        cases h
        rfl
      · exact uB_Mo_put_41 c v1 m0 _ h
  · obtain ⟨r23, m24, q21, h⟩ := q_bdE h
    refine bdC (u_Mo_refused c (-1) m0 _ q21) ?_
    cases h
    rfl
def GB_Mo_tags_180 (k145 : Int → Int → Int → h_M → Option h_M) (v4 : Int) (v7 : Int) (w0 : Int) (w1 : Int) (w2 : Int) (m0 : h_M) : Option h_M :=
  p_bi ((p_w (w2 + (p_w (w1 * w0))))) fun x2 =>
  p_bi (p_w (v7 + 1)) fun x3 =>
  k145 v4 x2 x3 m0
def GL_Mo_tags_145 (k145 : Int → Int → Int → h_M → Option h_M) (v4 : Int) (v6 : Int) (v7 : Int) (m0 : h_M) : Option h_M :=
  if 7 ≤ v7 then
    p_gd ((0 : Int) ≤ (p_w (v4 + 7)) ∧ (p_w (v4 + 7)) < (24012 : Int)) <|
    p_bi (wm m0 32 ((p_w (v4 + 7)) : Int).toNat (p_w (48 + (p_rem (p_w (10 - (p_rem v6 10))) 10)))) fun m3 =>
    some m3
  else
    p_gd ((0 : Int) ≤ (p_w (v4 + v7)) ∧ (p_w (v4 + v7)) < (24012 : Int)) <|
    if (p_rem v7 2) ≠ 1 then
      GB_Mo_tags_180 k145 v4 v7 1 (p_w ((m0 32 ((p_w (v4 + v7)) : Int).toNat) - 48)) v6 m0
    else
      GB_Mo_tags_180 k145 v4 v7 3 (p_w ((m0 32 ((p_w (v4 + v7)) : Int).toNat) - 48)) v6 m0
def GO_Mo_tags_145  : Nat → Int → Int → Int → h_M → Option h_M
  | 0 => fun _ _ _ _ => none
  | n + 1 => GL_Mo_tags_145 (GO_Mo_tags_145 n)
def G_Mo_tags (v1 : Int) (v2 : Int) (v3 : Int) (m0 : h_M) : Option h_M :=
  p_bi ((p_w (12 * v1))) fun x2 =>
  p_gd ((0 : Int) ≤ v1 ∧ v1 < (2001 : Int)) <|
  p_bi ((m0 28 (v1 : Int).toNat)) fun x5 =>
  if v2 ≠ 0 then
    q_bv (G_Mo_newLabel v1 6 m0) fun m9 =>
    p_gd ((0 : Int) ≤ x2 ∧ x2 < (24012 : Int)) <|
    p_bi (wm m9 32 (x2 : Int).toNat 66) fun m11 =>
    p_gd ((0 : Int) ≤ (p_w (x2 + 1)) ∧ (p_w (x2 + 1)) < (24012 : Int)) <|
    p_bi (wm m11 32 ((p_w (x2 + 1)) : Int).toNat v3) fun m14 =>
    p_gd ((0 : Int) ≤ (p_w (x2 + 2)) ∧ (p_w (x2 + 2)) < (24012 : Int)) <|
    p_bi (wm m14 32 ((p_w (x2 + 2)) : Int).toNat (p_div x5 256)) fun m17 =>
    p_gd ((0 : Int) ≤ (p_w (x2 + 3)) ∧ (p_w (x2 + 3)) < (24012 : Int)) <|
    p_bi (wm m17 32 ((p_w (x2 + 3)) : Int).toNat (p_rem x5 256)) fun m20 =>
    p_gd ((0 : Int) ≤ (p_w (x2 + 4)) ∧ (p_w (x2 + 4)) < (24012 : Int)) <|
    p_bi (wm m20 32 ((p_w (x2 + 4)) : Int).toNat (m20 29 (v1 : Int).toNat)) fun m23 =>
    p_gd ((0 : Int) ≤ (p_w (x2 + 5)) ∧ (p_w (x2 + 5)) < (24012 : Int)) <|
    p_bi (wm m23 32 ((p_w (x2 + 5)) : Int).toNat (p_rem (p_w ((p_w ((p_w ((p_w (7 * v3)) + (p_w (5 * (p_div x5 256))))) + (p_w (3 * (p_rem x5 256))))) + (m23 29 (v1 : Int).toNat))) 97)) fun m26 =>
    some m26
  else
    q_bv (G_Mo_newLabel v1 8 m0) fun m30 =>
    p_gd ((0 : Int) ≤ x2 ∧ x2 < (24012 : Int)) <|
    p_bi (wm m30 32 (x2 : Int).toNat 65) fun m32 =>
    p_gd ((0 : Int) ≤ (p_w (x2 + 1)) ∧ (p_w (x2 + 1)) < (24012 : Int)) <|
    p_bi (wm m32 32 ((p_w (x2 + 1)) : Int).toNat (p_w (48 + (p_div v3 10)))) fun m35 =>
    p_gd ((0 : Int) ≤ (p_w (x2 + 2)) ∧ (p_w (x2 + 2)) < (24012 : Int)) <|
    p_bi (wm m35 32 ((p_w (x2 + 2)) : Int).toNat (p_w (48 + (p_rem v3 10)))) fun m38 =>
    p_gd ((0 : Int) ≤ (p_w (x2 + 3)) ∧ (p_w (x2 + 3)) < (24012 : Int)) <|
    p_bi (wm m38 32 ((p_w (x2 + 3)) : Int).toNat (p_w (48 + (p_div x5 100)))) fun m41 =>
    p_gd ((0 : Int) ≤ (p_w (x2 + 4)) ∧ (p_w (x2 + 4)) < (24012 : Int)) <|
    p_bi (wm m41 32 ((p_w (x2 + 4)) : Int).toNat (p_w (48 + (p_rem (p_div x5 10) 10)))) fun m44 =>
    p_gd ((0 : Int) ≤ (p_w (x2 + 5)) ∧ (p_w (x2 + 5)) < (24012 : Int)) <|
    p_bi (wm m44 32 ((p_w (x2 + 5)) : Int).toNat (p_w (48 + (p_rem x5 10)))) fun m47 =>
    p_gd ((0 : Int) ≤ (p_w (x2 + 6)) ∧ (p_w (x2 + 6)) < (24012 : Int)) <|
    p_bi (wm m47 32 ((p_w (x2 + 6)) : Int).toNat (p_w (48 + (m47 29 (v1 : Int).toNat)))) fun m50 =>
    GO_Mo_tags_145 3000 x2 0 1 m50
set_option maxRecDepth 100000 in
set_option maxHeartbeats 4000000 in
theorem uB_Mo_tags_180 (c : h_C) (j145 : Nat → Int → Int → Int → p_Hp → Option p_Hp) (k145 : Int → Int → Int → h_M → Option h_M) (hk145 : ∀ (v4 : Int) (v6 : Int) (v7 : Int) (m0 : h_M) (r : h_M), k145 v4 v6 v7 m0 = some r → j145 1125 v4 v6 v7 (h_H c m0) = some (h_H c r)) (v4 : Int) (v7 : Int) (w0 : Int) (w1 : Int) (w2 : Int) (m0 : h_M) (r : h_M) (h : GB_Mo_tags_180 k145 v4 v7 w0 w1 w2 m0 = some r) : B_Mo_tags_180 j145 1125 v4 v7 w0 w1 w2 (h_H c m0) = some (h_H c r) := by
  unfold GB_Mo_tags_180 at h
  unfold B_Mo_tags_180
  refine bV h ?_
  intro x2 h
  refine bV h ?_
  intro x3 h
  exact hk145 v4 x2 x3 m0 _ h
set_option maxRecDepth 100000 in
set_option maxHeartbeats 4000000 in
theorem uL_Mo_tags_145 (c : h_C) (j145 : Nat → Int → Int → Int → p_Hp → Option p_Hp) (k145 : Int → Int → Int → h_M → Option h_M) (hk145 : ∀ (v4 : Int) (v6 : Int) (v7 : Int) (m0 : h_M) (r : h_M), k145 v4 v6 v7 m0 = some r → j145 1125 v4 v6 v7 (h_H c m0) = some (h_H c r)) (v4 : Int) (v6 : Int) (v7 : Int) (m0 : h_M) (r : h_M) (h : GL_Mo_tags_145 k145 v4 v6 v7 m0 = some r) : L_Mo_tags_145 j145 1125 v4 v6 v7 (h_H c m0) = some (h_H c r) := by
  unfold GL_Mo_tags_145 at h
  unfold L_Mo_tags_145
  refine iteC Iff.rfl h (fun b1 h => ?_) (fun b1 h => ?_)
  · refine gdT (miS c m0) ?_
    try rw [mr32 c m0]
    refine gdT (miA c m0 e32) ?_
    obtain ⟨g2, h⟩ := p_gdE h
    refine gdT ⟨g2.1, by rw [mlA c m0 e32]; exact g2.2⟩ ?_
    refine bM (mwA c m0 e32 _ _) h ?_
    intro m3 h
    cases h
    rfl
  · refine gdT (miS c m0) ?_
    try rw [mr32 c m0]
    refine gdT (miA c m0 e32) ?_
    obtain ⟨g5, h⟩ := p_gdE h
    refine gdT ⟨g5.1, by rw [mlA c m0 e32]; exact g5.2⟩ ?_
    try rw [mzA c m0 e32 ((p_w (v4 + v7)) : Int).toNat]
    refine iteC Iff.rfl h (fun b6 h => ?_) (fun b6 h => ?_)
    · exact uB_Mo_tags_180 c j145 k145 hk145 v4 v7 1 (p_w ((m0 32 ((p_w (v4 + v7)) : Int).toNat) - 48)) v6 m0 _ h
    · exact uB_Mo_tags_180 c j145 k145 hk145 v4 v7 3 (p_w ((m0 32 ((p_w (v4 + v7)) : Int).toNat) - 48)) v6 m0 _ h
set_option maxRecDepth 100000 in
set_option maxHeartbeats 4000000 in
theorem uO_Mo_tags_145 (c : h_C)  : ∀ (n : Nat) (v4 : Int) (v6 : Int) (v7 : Int) (m0 : h_M) (r : h_M), GO_Mo_tags_145 n v4 v6 v7 m0 = some r → O_Mo_tags_145 n 1125 v4 v6 v7 (h_H c m0) = some (h_H c r) := by
  intro n
  induction n with
  | zero => intro v4 v6 v7 m0 r h; cases h
  | succ n ih => intro v4 v6 v7 m0 r h; exact uL_Mo_tags_145 c (O_Mo_tags_145 n) (GO_Mo_tags_145 n) ih v4 v6 v7 m0 r h
set_option maxRecDepth 100000 in
set_option maxHeartbeats 4000000 in
theorem u_Mo_tags (c : h_C) (v1 : Int) (v2 : Int) (v3 : Int) (m0 : h_M) (r : h_M) (h : G_Mo_tags v1 v2 v3 m0 = some r) : F_Mo_tags 1125 v1 v2 v3 (h_H c m0) = some (h_H c r) := by
  unfold G_Mo_tags at h
  unfold F_Mo_tags
  refine bV h ?_
  intro x2 h
  refine gdT (miS c m0) ?_
  try rw [mr28 c m0]
  refine gdT (miA c m0 e28) ?_
  obtain ⟨g3, h⟩ := p_gdE h
  refine gdT ⟨g3.1, by rw [mlA c m0 e28]; exact g3.2⟩ ?_
  try rw [mzA c m0 e28 (v1 : Int).toNat]
  refine bV h ?_
  intro x5 h
  refine iteC Iff.rfl h (fun b6 h => ?_) (fun b6 h => ?_)
  · obtain ⟨m9, q7, h⟩ := q_bvE h
    refine bvC (u_Mo_newLabel c v1 6 m0 _ q7) ?_
    try rw [mr32 c m9]
    refine gdT (miA c m9 e32) ?_
    obtain ⟨g10, h⟩ := p_gdE h
    refine gdT ⟨g10.1, by rw [mlA c m9 e32]; exact g10.2⟩ ?_
    refine bM (mwA c m9 e32 _ _) h ?_
    intro m11 h
    try rw [mr32 c m11]
    refine gdT (miA c m11 e32) ?_
    obtain ⟨g13, h⟩ := p_gdE h
    refine gdT ⟨g13.1, by rw [mlA c m11 e32]; exact g13.2⟩ ?_
    refine bM (mwA c m11 e32 _ _) h ?_
    intro m14 h
    try rw [mr32 c m14]
    refine gdT (miA c m14 e32) ?_
    obtain ⟨g16, h⟩ := p_gdE h
    refine gdT ⟨g16.1, by rw [mlA c m14 e32]; exact g16.2⟩ ?_
    refine bM (mwA c m14 e32 _ _) h ?_
    intro m17 h
    try rw [mr32 c m17]
    refine gdT (miA c m17 e32) ?_
    obtain ⟨g19, h⟩ := p_gdE h
    refine gdT ⟨g19.1, by rw [mlA c m17 e32]; exact g19.2⟩ ?_
    refine bM (mwA c m17 e32 _ _) h ?_
    intro m20 h
    try rw [mr32 c m20]
    try rw [mr29 c m20]
    refine gdT (miA c m20 e29) ?_
    refine gdT ⟨g3.1, by rw [mlA c m20 e29]; exact g3.2⟩ ?_
    try rw [mzA c m20 e29 (v1 : Int).toNat]
    refine gdT (miA c m20 e32) ?_
    obtain ⟨g22, h⟩ := p_gdE h
    refine gdT ⟨g22.1, by rw [mlA c m20 e32]; exact g22.2⟩ ?_
    refine bM (mwA c m20 e32 _ _) h ?_
    intro m23 h
    try rw [mr32 c m23]
    try rw [mr29 c m23]
    refine gdT (miA c m23 e29) ?_
    refine gdT ⟨g3.1, by rw [mlA c m23 e29]; exact g3.2⟩ ?_
    try rw [mzA c m23 e29 (v1 : Int).toNat]
    refine gdT (miA c m23 e32) ?_
    obtain ⟨g25, h⟩ := p_gdE h
    refine gdT ⟨g25.1, by rw [mlA c m23 e32]; exact g25.2⟩ ?_
    refine bM (mwA c m23 e32 _ _) h ?_
    intro m26 h
    cases h
    rfl
  · obtain ⟨m30, q28, h⟩ := q_bvE h
    refine bvC (u_Mo_newLabel c v1 8 m0 _ q28) ?_
    try rw [mr32 c m30]
    refine gdT (miA c m30 e32) ?_
    obtain ⟨g31, h⟩ := p_gdE h
    refine gdT ⟨g31.1, by rw [mlA c m30 e32]; exact g31.2⟩ ?_
    refine bM (mwA c m30 e32 _ _) h ?_
    intro m32 h
    try rw [mr32 c m32]
    refine gdT (miA c m32 e32) ?_
    obtain ⟨g34, h⟩ := p_gdE h
    refine gdT ⟨g34.1, by rw [mlA c m32 e32]; exact g34.2⟩ ?_
    refine bM (mwA c m32 e32 _ _) h ?_
    intro m35 h
    try rw [mr32 c m35]
    refine gdT (miA c m35 e32) ?_
    obtain ⟨g37, h⟩ := p_gdE h
    refine gdT ⟨g37.1, by rw [mlA c m35 e32]; exact g37.2⟩ ?_
    refine bM (mwA c m35 e32 _ _) h ?_
    intro m38 h
    try rw [mr32 c m38]
    refine gdT (miA c m38 e32) ?_
    obtain ⟨g40, h⟩ := p_gdE h
    refine gdT ⟨g40.1, by rw [mlA c m38 e32]; exact g40.2⟩ ?_
    refine bM (mwA c m38 e32 _ _) h ?_
    intro m41 h
    try rw [mr32 c m41]
    refine gdT (miA c m41 e32) ?_
    obtain ⟨g43, h⟩ := p_gdE h
    refine gdT ⟨g43.1, by rw [mlA c m41 e32]; exact g43.2⟩ ?_
    refine bM (mwA c m41 e32 _ _) h ?_
    intro m44 h
    try rw [mr32 c m44]
    refine gdT (miA c m44 e32) ?_
    obtain ⟨g46, h⟩ := p_gdE h
    refine gdT ⟨g46.1, by rw [mlA c m44 e32]; exact g46.2⟩ ?_
    refine bM (mwA c m44 e32 _ _) h ?_
    intro m47 h
    try rw [mr32 c m47]
    try rw [mr29 c m47]
    refine gdT (miA c m47 e29) ?_
    refine gdT ⟨g3.1, by rw [mlA c m47 e29]; exact g3.2⟩ ?_
    try rw [mzA c m47 e29 (v1 : Int).toNat]
    refine gdT (miA c m47 e32) ?_
    obtain ⟨g49, h⟩ := p_gdE h
    refine gdT ⟨g49.1, by rw [mlA c m47 e32]; exact g49.2⟩ ?_
    refine bM (mwA c m47 e32 _ _) h ?_
    intro m50 h
    exact uO_Mo_tags_145 c 3000 x2 0 1 m50 _ h
def GB_Mo_tag_36   (m0 : h_M) : Option (Int × h_M) :=
  q_bd (G_Mo_refused (-2) m0) fun r3 m4 =>
  some (r3, m4)
def G_Mo_tag (v1 : Int) (v2 : Int) (v3 : Int) (m0 : h_M) : Option (Int × h_M) :=
  q_bv (G_Mo_noParcel v1 m0) fun r3 =>
  if r3 = 0 then
    q_bv (G_Mo_beyond v2 0 1 m0) fun r8 =>
    if r8 ≠ 0 then
      GB_Mo_tag_36 m0
    else
      q_bv (G_Mo_beyond v3 0 99 m0) fun r13 =>
      if r13 = 0 then
        q_bv (G_Mo_tags v1 v2 v3 m0) fun m18 =>
        p_gd ((0 : Int) ≤ v1 ∧ v1 < (2001 : Int)) <|
        q_bd (G_Mo_well (m18 31 (v1 : Int).toNat) m18) fun r22 m23 =>
        some (r22, m23)
      else
        GB_Mo_tag_36 m0
  else
    q_bd (G_Mo_refused (-1) m0) fun r27 m28 =>
    some (r27, m28)
set_option maxRecDepth 100000 in
set_option maxHeartbeats 4000000 in
theorem uB_Mo_tag_36 (c : h_C)   (m0 : h_M) (r : (Int × h_M)) (h : GB_Mo_tag_36  m0 = some r) : B_Mo_tag_36 1125 (h_H c m0) = some (r.1, (h_H c r.2)) := by
  unfold GB_Mo_tag_36 at h
  unfold B_Mo_tag_36
  refine gdT (miS c m0) ?_
  obtain ⟨r3, m4, q1, h⟩ := q_bdE h
  refine bdC (u_Mo_refused c (-2) m0 _ q1) ?_
  cases h
  rfl
set_option maxRecDepth 100000 in
set_option maxHeartbeats 4000000 in
theorem u_Mo_tag (c : h_C) (v1 : Int) (v2 : Int) (v3 : Int) (m0 : h_M) (r : (Int × h_M)) (h : G_Mo_tag v1 v2 v3 m0 = some r) : F_Mo_tag 1125 v1 v2 v3 (h_H c m0) = some (r.1, (h_H c r.2)) := by
  unfold G_Mo_tag at h
  unfold F_Mo_tag
  refine gdT (miS c m0) ?_
  obtain ⟨r3, q1, h⟩ := q_bvE h
  refine bdC (u_Mo_noParcel c v1 m0 _ q1) ?_
  refine iteC Iff.rfl h (fun b5 h => ?_) (fun b5 h => ?_)
  · obtain ⟨r8, q6, h⟩ := q_bvE h
    refine bdC (u_Mo_beyond c v2 0 1 m0 _ q6) ?_
    refine iteC Iff.rfl h (fun b10 h => ?_) (fun b10 h => ?_)
    · exact uB_Mo_tag_36 c m0 _ h
    · obtain ⟨r13, q11, h⟩ := q_bvE h
      refine bdC (u_Mo_beyond c v3 0 99 m0 _ q11) ?_
      refine iteC Iff.rfl h (fun b15 h => ?_) (fun b15 h => ?_)
      · obtain ⟨m18, q16, h⟩ := q_bvE h
        refine bvC (u_Mo_tags c v1 v2 v3 m0 _ q16) ?_
        try rw [mr31 c m18]
        refine gdT (miA c m18 e31) ?_
        obtain ⟨g19, h⟩ := p_gdE h
        refine gdT ⟨g19.1, by rw [mlA c m18 e31]; exact g19.2⟩ ?_
        try rw [mzA c m18 e31 (v1 : Int).toNat]
        obtain ⟨r22, m23, q20, h⟩ := q_bdE h
        refine bdC (u_Mo_well c (m18 31 (v1 : Int).toNat) m18 _ q20) ?_
        cases h
        rfl
      · exact uB_Mo_tag_36 c m0 _ h
  · obtain ⟨r27, m28, q25, h⟩ := q_bdE h
    refine bdC (u_Mo_refused c (-1) m0 _ q25) ?_
    cases h
    rfl
def GB_Mo_door_53  (v1 : Int) (v2 : Int) (w0 : Int) (m0 : h_M) : Option (Int × h_M) :=
  q_bv (G_Mo_g v1 m0) fun r3 =>
  p_gd ((0 : Int) ≤ r3 ∧ r3 < (120 : Int)) <|
  p_gd (v2 = 0 ∨ v2 = 1) <|
  p_bi (wm m0 14 (r3 : Int).toNat v2) fun m7 =>
  q_bd (G_Mo_well w0 m7) fun r11 m12 =>
  some (r11, m12)
def G_Mo_door (v1 : Int) (v2 : Int) (m0 : h_M) : Option (Int × h_M) :=
  q_bv (G_Mo_noGear v1 m0) fun r3 =>
  if r3 = 0 then
    q_bv (G_Mo_g v1 m0) fun r8 =>
    p_gd ((0 : Int) ≤ r8 ∧ r8 < (120 : Int)) <|
    if (m0 5 (r8 : Int).toNat) = 9 then
      q_bv (G_Mo_g v1 m0) fun r14 =>
      p_gd ((0 : Int) ≤ r14 ∧ r14 < (120 : Int)) <|
      if (m0 14 (r14 : Int).toNat) = 0 then
        GB_Mo_door_53 v1 v2 0 m0
      else
        GB_Mo_door_53 v1 v2 1 m0
    else
      q_bd (G_Mo_faulted 2 m0) fun r20 m21 =>
      some (r20, m21)
  else
    q_bd (G_Mo_refused (-1) m0) fun r25 m26 =>
    some (r25, m26)
set_option maxRecDepth 100000 in
set_option maxHeartbeats 4000000 in
theorem uB_Mo_door_53 (c : h_C)  (v1 : Int) (v2 : Int) (w0 : Int) (m0 : h_M) (r : (Int × h_M)) (h : GB_Mo_door_53 v1 v2 w0 m0 = some r) : B_Mo_door_53 1125 v1 v2 w0 (h_H c m0) = some (r.1, (h_H c r.2)) := by
  unfold GB_Mo_door_53 at h
  unfold B_Mo_door_53
  refine gdT (miS c m0) ?_
  try rw [mr14 c m0]
  obtain ⟨r3, q1, h⟩ := q_bvE h
  refine bdC (u_Mo_g c v1 m0 _ q1) ?_
  refine gdT (miA c m0 e14) ?_
  obtain ⟨g5, h⟩ := p_gdE h
  refine gdT ⟨g5.1, by rw [mlA c m0 e14]; exact g5.2⟩ ?_
  obtain ⟨g6, h⟩ := p_gdE h
  refine gdT g6 ?_
  refine bM (mwA c m0 e14 _ _) h ?_
  intro m7 h
  obtain ⟨r11, m12, q9, h⟩ := q_bdE h
  refine bdC (u_Mo_well c w0 m7 _ q9) ?_
  cases h
  rfl
set_option maxRecDepth 100000 in
set_option maxHeartbeats 4000000 in
theorem u_Mo_door (c : h_C) (v1 : Int) (v2 : Int) (m0 : h_M) (r : (Int × h_M)) (h : G_Mo_door v1 v2 m0 = some r) : F_Mo_door 1125 v1 v2 (h_H c m0) = some (r.1, (h_H c r.2)) := by
  unfold G_Mo_door at h
  unfold F_Mo_door
  refine gdT (miS c m0) ?_
  obtain ⟨r3, q1, h⟩ := q_bvE h
  refine bdC (u_Mo_noGear c v1 m0 _ q1) ?_
  refine iteC Iff.rfl h (fun b5 h => ?_) (fun b5 h => ?_)
  · try rw [mr5 c m0]
    obtain ⟨r8, q6, h⟩ := q_bvE h
    refine bdC (u_Mo_g c v1 m0 _ q6) ?_
    refine gdT (miA c m0 e5) ?_
    obtain ⟨g10, h⟩ := p_gdE h
    refine gdT ⟨g10.1, by rw [mlA c m0 e5]; exact g10.2⟩ ?_
    try rw [mzA c m0 e5 (r8 : Int).toNat]
    refine iteC Iff.rfl h (fun b11 h => ?_) (fun b11 h => ?_)
    · try rw [mr14 c m0]
      obtain ⟨r14, q12, h⟩ := q_bvE h
      refine bdC (u_Mo_g c v1 m0 _ q12) ?_
      refine gdT (miA c m0 e14) ?_
      obtain ⟨g16, h⟩ := p_gdE h
      refine gdT ⟨g16.1, by rw [mlA c m0 e14]; exact g16.2⟩ ?_
      try rw [mzA c m0 e14 (r14 : Int).toNat]
      refine iteC Iff.rfl h (fun b17 h => ?_) (fun b17 h => ?_)
      · exact uB_Mo_door_53 c v1 v2 0 m0 _ h
      · exact uB_Mo_door_53 c v1 v2 1 m0 _ h
    · obtain ⟨r20, m21, q18, h⟩ := q_bdE h
      refine bdC (u_Mo_faulted c 2 m0 _ q18) ?_
      cases h
      rfl
  · obtain ⟨r25, m26, q23, h⟩ := q_bdE h
    refine bdC (u_Mo_refused c (-1) m0 _ q23) ?_
    cases h
    rfl
def GB_Mo_turn_71  (w0 : Int) (m0 : h_M) : Option (Int × h_M) :=
  q_bd (G_Mo_faulted w0 m0) fun r3 m4 =>
  some (r3, m4)
def GB_Mo_turn_53  (v3 : Int) (m0 : h_M) : Option (Int × h_M) :=
  p_gd ((0 : Int) ≤ v3 ∧ v3 < (120 : Int)) <|
  q_bv (G_Mo_isDivert (m0 5 (v3 : Int).toNat) m0) fun r4 =>
  if r4 = 0 then
    GB_Mo_turn_71 2 m0
  else
    GB_Mo_turn_71 3 m0
def G_Mo_turn (v1 : Int) (v2 : Int) (m0 : h_M) : Option (Int × h_M) :=
  q_bv (G_Mo_noGear v1 m0) fun r3 =>
  if r3 = 0 then
    q_bv (G_Mo_g v1 m0) fun r8 =>
    p_gd ((0 : Int) ≤ r8 ∧ r8 < (120 : Int)) <|
    q_bv (G_Mo_isDivert (m0 5 (r8 : Int).toNat) m0) fun r13 =>
    if r13 = 0 then
      GB_Mo_turn_53 r8 m0
    else
      q_bv (G_Mo_sidesOf (m0 5 (r8 : Int).toNat) m0) fun r18 =>
      q_bv (G_Mo_beyond v2 0 (p_w (r18 - 1)) m0) fun r22 =>
      if r22 = 0 then
        q_bv (G_Mo_loadOf r8 m0) fun r27 =>
        if r27 ≤ 0 then
          p_bi ((m0 10 (r8 : Int).toNat)) fun x31 =>
          p_bi (wm m0 10 (r8 : Int).toNat v2) fun m32 =>
          q_bd (G_Mo_well x31 m32) fun r36 m37 =>
          some (r36, m37)
        else
          q_bd (G_Mo_refused (-3) m0) fun r41 m42 =>
          some (r41, m42)
      else
        GB_Mo_turn_53 r8 m0
  else
    q_bd (G_Mo_refused (-1) m0) fun r46 m47 =>
    some (r46, m47)
set_option maxRecDepth 100000 in
set_option maxHeartbeats 4000000 in
theorem uB_Mo_turn_71 (c : h_C)  (w0 : Int) (m0 : h_M) (r : (Int × h_M)) (h : GB_Mo_turn_71 w0 m0 = some r) : B_Mo_turn_71 w0 1125 (h_H c m0) = some (r.1, (h_H c r.2)) := by
  unfold GB_Mo_turn_71 at h
  unfold B_Mo_turn_71
  refine gdT (miS c m0) ?_
  obtain ⟨r3, m4, q1, h⟩ := q_bdE h
  refine bdC (u_Mo_faulted c w0 m0 _ q1) ?_
  cases h
  rfl
set_option maxRecDepth 100000 in
set_option maxHeartbeats 4000000 in
theorem uB_Mo_turn_53 (c : h_C)  (v3 : Int) (m0 : h_M) (r : (Int × h_M)) (h : GB_Mo_turn_53 v3 m0 = some r) : B_Mo_turn_53 1125 v3 (h_H c m0) = some (r.1, (h_H c r.2)) := by
  unfold GB_Mo_turn_53 at h
  unfold B_Mo_turn_53
  refine gdT (miS c m0) ?_
  try rw [mr5 c m0]
  refine gdT (miA c m0 e5) ?_
  obtain ⟨g1, h⟩ := p_gdE h
  refine gdT ⟨g1.1, by rw [mlA c m0 e5]; exact g1.2⟩ ?_
  try rw [mzA c m0 e5 (v3 : Int).toNat]
  obtain ⟨r4, q2, h⟩ := q_bvE h
  refine bdC (u_Mo_isDivert c (m0 5 (v3 : Int).toNat) m0 _ q2) ?_
  refine iteC Iff.rfl h (fun b6 h => ?_) (fun b6 h => ?_)
  · exact uB_Mo_turn_71 c 2 m0 _ h
  · exact uB_Mo_turn_71 c 3 m0 _ h
set_option maxRecDepth 100000 in
set_option maxHeartbeats 4000000 in
theorem u_Mo_turn (c : h_C) (v1 : Int) (v2 : Int) (m0 : h_M) (r : (Int × h_M)) (h : G_Mo_turn v1 v2 m0 = some r) : F_Mo_turn 1125 v1 v2 (h_H c m0) = some (r.1, (h_H c r.2)) := by
  unfold G_Mo_turn at h
  unfold F_Mo_turn
  refine gdT (miS c m0) ?_
  obtain ⟨r3, q1, h⟩ := q_bvE h
  refine bdC (u_Mo_noGear c v1 m0 _ q1) ?_
  refine iteC Iff.rfl h (fun b5 h => ?_) (fun b5 h => ?_)
  · obtain ⟨r8, q6, h⟩ := q_bvE h
    refine bdC (u_Mo_g c v1 m0 _ q6) ?_
    try rw [mr5 c m0]
    refine gdT (miA c m0 e5) ?_
    obtain ⟨g10, h⟩ := p_gdE h
    refine gdT ⟨g10.1, by rw [mlA c m0 e5]; exact g10.2⟩ ?_
    try rw [mzA c m0 e5 (r8 : Int).toNat]
    obtain ⟨r13, q11, h⟩ := q_bvE h
    refine bdC (u_Mo_isDivert c (m0 5 (r8 : Int).toNat) m0 _ q11) ?_
    refine iteC Iff.rfl h (fun b15 h => ?_) (fun b15 h => ?_)
    · exact uB_Mo_turn_53 c r8 m0 _ h
    · try rw [mr5 c m0]
      refine gdT (miA c m0 e5) ?_
      refine gdT ⟨g10.1, by rw [mlA c m0 e5]; exact g10.2⟩ ?_
      try rw [mzA c m0 e5 (r8 : Int).toNat]
      obtain ⟨r18, q16, h⟩ := q_bvE h
      refine bdC (u_Mo_sidesOf c (m0 5 (r8 : Int).toNat) m0 _ q16) ?_
      obtain ⟨r22, q20, h⟩ := q_bvE h
      refine bdC (u_Mo_beyond c v2 0 (p_w (r18 - 1)) m0 _ q20) ?_
      refine iteC Iff.rfl h (fun b24 h => ?_) (fun b24 h => ?_)
      · obtain ⟨r27, q25, h⟩ := q_bvE h
        refine bdC (u_Mo_loadOf c r8 m0 _ q25) ?_
        refine iteC Iff.rfl h (fun b29 h => ?_) (fun b29 h => ?_)
        · try rw [mr10 c m0]
          refine gdT (miA c m0 e10) ?_
          refine gdT ⟨g10.1, by rw [mlA c m0 e10]; exact g10.2⟩ ?_
          try rw [mzA c m0 e10 (r8 : Int).toNat]
          refine bV h ?_
          intro x31 h
          try rw [mr10 c m0]
          refine gdT ⟨g10.1, by rw [mlA c m0 e10]; exact g10.2⟩ ?_
          refine bM (mwA c m0 e10 _ _) h ?_
          intro m32 h
          obtain ⟨r36, m37, q34, h⟩ := q_bdE h
          refine bdC (u_Mo_well c x31 m32 _ q34) ?_
          cases h
          rfl
        · obtain ⟨r41, m42, q39, h⟩ := q_bdE h
          refine bdC (u_Mo_refused c (-3) m0 _ q39) ?_
          cases h
          rfl
      · exact uB_Mo_turn_53 c r8 m0 _ h
  · obtain ⟨r46, m47, q44, h⟩ := q_bdE h
    refine bdC (u_Mo_refused c (-1) m0 _ q44) ?_
    cases h
    rfl
def G_Mo_release (v1 : Int) (v2 : Int) (m0 : h_M) : Option (Int × h_M) :=
  q_bv (G_Mo_noGear v1 m0) fun r3 =>
  if r3 = 0 then
    q_bv (G_Mo_beyond v2 0 20 m0) fun r8 =>
    if r8 = 0 then
      q_bv (G_Mo_g v1 m0) fun r13 =>
      p_gd ((0 : Int) ≤ r13 ∧ r13 < (120 : Int)) <|
      if (m0 5 (r13 : Int).toNat) = 8 then
        q_bv (G_Mo_g v1 m0) fun r19 =>
        p_gd ((0 : Int) ≤ r19 ∧ r19 < (120 : Int)) <|
        p_bi ((m0 13 (r19 : Int).toNat)) fun x23 =>
        q_bv (G_Mo_g v1 m0) fun r26 =>
        p_gd ((0 : Int) ≤ r26 ∧ r26 < (120 : Int)) <|
        p_bi (wm m0 13 (r26 : Int).toNat v2) fun m29 =>
        q_bd (G_Mo_well x23 m29) fun r33 m34 =>
        some (r33, m34)
      else
        q_bd (G_Mo_faulted 2 m0) fun r38 m39 =>
        some (r38, m39)
    else
      q_bd (G_Mo_refused (-2) m0) fun r43 m44 =>
      some (r43, m44)
  else
    q_bd (G_Mo_refused (-1) m0) fun r48 m49 =>
    some (r48, m49)
set_option maxRecDepth 100000 in
set_option maxHeartbeats 4000000 in
theorem u_Mo_release (c : h_C) (v1 : Int) (v2 : Int) (m0 : h_M) (r : (Int × h_M)) (h : G_Mo_release v1 v2 m0 = some r) : F_Mo_release 1125 v1 v2 (h_H c m0) = some (r.1, (h_H c r.2)) := by
  unfold G_Mo_release at h
  unfold F_Mo_release
  refine gdT (miS c m0) ?_
  obtain ⟨r3, q1, h⟩ := q_bvE h
  refine bdC (u_Mo_noGear c v1 m0 _ q1) ?_
  refine iteC Iff.rfl h (fun b5 h => ?_) (fun b5 h => ?_)
  · obtain ⟨r8, q6, h⟩ := q_bvE h
    refine bdC (u_Mo_beyond c v2 0 20 m0 _ q6) ?_
    refine iteC Iff.rfl h (fun b10 h => ?_) (fun b10 h => ?_)
    · try rw [mr5 c m0]
      obtain ⟨r13, q11, h⟩ := q_bvE h
      refine bdC (u_Mo_g c v1 m0 _ q11) ?_
      refine gdT (miA c m0 e5) ?_
      obtain ⟨g15, h⟩ := p_gdE h
      refine gdT ⟨g15.1, by rw [mlA c m0 e5]; exact g15.2⟩ ?_
      try rw [mzA c m0 e5 (r13 : Int).toNat]
      refine iteC Iff.rfl h (fun b16 h => ?_) (fun b16 h => ?_)
      · try rw [mr13 c m0]
        obtain ⟨r19, q17, h⟩ := q_bvE h
        refine bdC (u_Mo_g c v1 m0 _ q17) ?_
        refine gdT (miA c m0 e13) ?_
        obtain ⟨g21, h⟩ := p_gdE h
        refine gdT ⟨g21.1, by rw [mlA c m0 e13]; exact g21.2⟩ ?_
        try rw [mzA c m0 e13 (r19 : Int).toNat]
        refine bV h ?_
        intro x23 h
        try rw [mr13 c m0]
        obtain ⟨r26, q24, h⟩ := q_bvE h
        refine bdC (u_Mo_g c v1 m0 _ q24) ?_
        refine gdT (miA c m0 e13) ?_
        obtain ⟨g28, h⟩ := p_gdE h
        refine gdT ⟨g28.1, by rw [mlA c m0 e13]; exact g28.2⟩ ?_
        refine bM (mwA c m0 e13 _ _) h ?_
        intro m29 h
        obtain ⟨r33, m34, q31, h⟩ := q_bdE h
        refine bdC (u_Mo_well c x23 m29 _ q31) ?_
        cases h
        rfl
      · obtain ⟨r38, m39, q36, h⟩ := q_bdE h
        refine bdC (u_Mo_faulted c 2 m0 _ q36) ?_
        cases h
        rfl
    · obtain ⟨r43, m44, q41, h⟩ := q_bdE h
      refine bdC (u_Mo_refused c (-2) m0 _ q41) ?_
      cases h
      rfl
  · obtain ⟨r48, m49, q46, h⟩ := q_bdE h
    refine bdC (u_Mo_refused c (-1) m0 _ q46) ?_
    cases h
    rfl
