def G_Mo_leads (v1 : Int) (v2 : Int) (v3 : Int) (m0 : h_M) : Option (Int × h_M) :=
  q_bd (G_Mo_follow v1 v2 m0) fun r3 m4 =>
  if r3 ≠ 0 then
    some (0, m4)
  else
    if (m4 173 0) ≠ v3 then
      some (0, m4)
    else
      some (1, m4)
set_option maxRecDepth 100000 in
set_option maxHeartbeats 4000000 in
theorem u_Mo_leads (c : h_C) (v1 : Int) (v2 : Int) (v3 : Int) (m0 : h_M) (r : (Int × h_M)) (h : G_Mo_leads v1 v2 v3 m0 = some r) : F_Mo_leads 1125 v1 v2 v3 (h_H c m0) = some (r.1, (h_H c r.2)) := by
  unfold G_Mo_leads at h
  unfold F_Mo_leads
  refine gdT (miS c m0) ?_
  obtain ⟨r3, m4, q1, h⟩ := q_bdE h
  refine bdC (u_Mo_follow c v1 v2 m0 _ q1) ?_
  refine iteC Iff.rfl h (fun b6 h => ?_) (fun b6 h => ?_)
  · cases h
    rfl
  · try rw [zs73 c m4]
    refine iteC Iff.rfl h (fun b7 h => ?_) (fun b7 h => ?_)
    · cases h
      rfl
    · cases h
      rfl
def GB_Mo_chosenBy_233 (k22 : Int → Int → Int → Int → Int → Int → h_M → Option (Int × h_M)) (v1 : Int) (v2 : Int) (v3 : Int) (v4 : Int) (v5 : Int) (v6 : Int) (m0 : h_M) : Option (Int × h_M) :=
  p_bi (p_w (v6 + 1)) fun x1 =>
  k22 v1 v2 v3 v4 v5 x1 m0
def GB_Mo_chosenBy_193 (k22 : Int → Int → Int → Int → Int → Int → h_M → Option (Int × h_M)) (v1 : Int) (v3 : Int) (v4 : Int) (v5 : Int) (v6 : Int) (w0 : Int) (m0 : h_M) : Option (Int × h_M) :=
  GB_Mo_chosenBy_233 k22 v1 w0 v3 v4 v5 v6 m0
def GB_Mo_chosenBy_192 (k22 : Int → Int → Int → Int → Int → Int → h_M → Option (Int × h_M)) (v1 : Int) (v3 : Int) (v4 : Int) (v5 : Int) (v6 : Int) (m0 : h_M) : Option (Int × h_M) :=
  GB_Mo_chosenBy_193 k22 v1 v3 v4 v5 v6 (-1) m0
def GB_Mo_chosenBy_197 (k22 : Int → Int → Int → Int → Int → Int → h_M → Option (Int × h_M)) (v1 : Int) (v2 : Int) (v3 : Int) (v4 : Int) (v5 : Int) (v6 : Int) (v7 : Int) (v8 : Int) (m0 : h_M) : Option (Int × h_M) :=
  if v8 = 0 then
    GB_Mo_chosenBy_233 k22 v1 v2 v3 v4 v5 v6 m0
  else
    p_gd ((0 : Int) ≤ v7 ∧ v7 < (120 : Int)) <|
    if (m0 9 (v7 : Int).toNat) ≠ v4 then
      GB_Mo_chosenBy_233 k22 v1 v2 v3 v4 v5 v6 m0
    else
      if 0 ≤ v2 then
        GB_Mo_chosenBy_233 k22 v1 v2 v3 v4 v5 v6 m0
      else
        if v6 ≤ v5 then
          GB_Mo_chosenBy_233 k22 v1 v2 v3 v4 v5 v6 m0
        else
          if v5 < 0 then
            GB_Mo_chosenBy_233 k22 v1 v2 v3 v4 v5 v6 m0
          else
            GB_Mo_chosenBy_233 k22 v1 v6 v3 v4 v5 v6 m0
def GB_Mo_chosenBy_144 (k22 : Int → Int → Int → Int → Int → Int → h_M → Option (Int × h_M)) (v1 : Int) (v2 : Int) (v3 : Int) (v4 : Int) (v5 : Int) (v6 : Int) (v7 : Int) (w0 : Int) (m0 : h_M) : Option (Int × h_M) :=
  if w0 = 0 then
    GB_Mo_chosenBy_197 k22 v1 v2 v3 v4 v5 v6 v7 w0 m0
  else
    p_gd ((0 : Int) ≤ v7 ∧ v7 < (120 : Int)) <|
    if (m0 9 (v7 : Int).toNat) ≤ v4 then
      GB_Mo_chosenBy_197 k22 v1 v2 v3 v4 v5 v6 v7 w0 m0
    else
      p_bi ((m0 9 (v7 : Int).toNat)) fun x5 =>
      if v6 ≤ v5 then
        GB_Mo_chosenBy_192 k22 v1 v6 x5 v5 v6 m0
      else
        if v5 < 0 then
          GB_Mo_chosenBy_192 k22 v1 v6 x5 v5 v6 m0
        else
          GB_Mo_chosenBy_193 k22 v1 v6 x5 v5 v6 v6 m0
def GB_Mo_chosenBy_143 (k22 : Int → Int → Int → Int → Int → Int → h_M → Option (Int × h_M)) (v1 : Int) (v2 : Int) (v3 : Int) (v4 : Int) (v5 : Int) (v6 : Int) (v7 : Int) (m0 : h_M) : Option (Int × h_M) :=
  GB_Mo_chosenBy_144 k22 v1 v2 v3 v4 v5 v6 v7 0 m0
def GB_Mo_chosenBy_123 (k22 : Int → Int → Int → Int → Int → Int → h_M → Option (Int × h_M)) (v1 : Int) (v2 : Int) (v3 : Int) (v4 : Int) (v5 : Int) (v6 : Int) (v7 : Int) (m0 : h_M) : Option (Int × h_M) :=
  q_bv (G_Mo_linkAt v6 m0) fun r3 =>
  q_bd (G_Mo_leads v6 r3 v1 m0) fun r7 m8 =>
  if r7 = 0 then
    GB_Mo_chosenBy_143 k22 v1 v2 v3 v4 v5 v6 v7 m8
  else
    GB_Mo_chosenBy_144 k22 v1 v2 v3 v4 v5 v6 v7 1 m8
def GL_Mo_chosenBy_22 (k22 : Int → Int → Int → Int → Int → Int → h_M → Option (Int × h_M)) (v1 : Int) (v2 : Int) (v3 : Int) (v4 : Int) (v5 : Int) (v6 : Int) (m0 : h_M) : Option (Int × h_M) :=
  p_gd ((0 : Int) ≤ (m0 100 0) ∧ (m0 100 0) < (3 : Int)) <|
  if (m0 3 ((m0 100 0) : Int).toNat) ≤ v6 then
    if v2 < 0 then
      some (v3, m0)
    else
      some (v2, m0)
  else
    q_bv (G_Mo_g v6 m0) fun r6 =>
    p_gd ((0 : Int) ≤ r6 ∧ r6 < (120 : Int)) <|
    q_bv (G_Mo_isTaker (m0 5 (r6 : Int).toNat) m0) fun r11 =>
    if r11 = 0 then
      GB_Mo_chosenBy_143 k22 v1 v2 v3 v4 v5 v6 r6 m0
    else
      if (m0 5 (r6 : Int).toNat) = 7 then
        GB_Mo_chosenBy_143 k22 v1 v2 v3 v4 v5 v6 r6 m0
      else
        q_bv (G_Mo_isActing r6 m0) fun r17 =>
        if r17 = 0 then
          GB_Mo_chosenBy_143 k22 v1 v2 v3 v4 v5 v6 r6 m0
        else
          p_gd ((0 : Int) ≤ (p_w ((p_w ((p_w (8 * r6)) + (m0 6 (r6 : Int).toNat))) - 1)) ∧ (p_w ((p_w ((p_w (8 * r6)) + (m0 6 (r6 : Int).toNat))) - 1)) < (960 : Int)) <|
          if (m0 22 ((p_w ((p_w ((p_w (8 * r6)) + (m0 6 (r6 : Int).toNat))) - 1)) : Int).toNat) ≤ 0 then
            GB_Mo_chosenBy_143 k22 v1 v2 v3 v4 v5 v6 r6 m0
          else
            if (m0 5 (r6 : Int).toNat) ≠ 8 then
              GB_Mo_chosenBy_123 k22 v1 v2 v3 v4 v5 v6 r6 m0
            else
              if (m0 13 (r6 : Int).toNat) ≤ 0 then
                GB_Mo_chosenBy_143 k22 v1 v2 v3 v4 v5 v6 r6 m0
              else
                GB_Mo_chosenBy_123 k22 v1 v2 v3 v4 v5 v6 r6 m0
def GO_Mo_chosenBy_22  : Nat → Int → Int → Int → Int → Int → Int → h_M → Option (Int × h_M)
  | 0 => fun _ _ _ _ _ _ _ => none
  | n + 1 => GL_Mo_chosenBy_22 (GO_Mo_chosenBy_22 n)
def G_Mo_chosenBy (v1 : Int) (m0 : h_M) : Option (Int × h_M) :=
  q_bv (G_Mo_g v1 m0) fun r3 =>
  p_gd ((0 : Int) ≤ r3 ∧ r3 < (120 : Int)) <|
  p_bi ((m0 12 (r3 : Int).toNat)) fun x7 =>
  GO_Mo_chosenBy_22 3000 v1 (-1) (-1) (-1) x7 0 m0
set_option maxRecDepth 100000 in
set_option maxHeartbeats 4000000 in
theorem uB_Mo_chosenBy_233 (c : h_C) (j22 : Nat → Int → Int → Int → Int → Int → Int → p_Hp → Option (Int × p_Hp)) (k22 : Int → Int → Int → Int → Int → Int → h_M → Option (Int × h_M)) (hk22 : ∀ (v1 : Int) (v2 : Int) (v3 : Int) (v4 : Int) (v5 : Int) (v6 : Int) (m0 : h_M) (r : (Int × h_M)), k22 v1 v2 v3 v4 v5 v6 m0 = some r → j22 1125 v1 v2 v3 v4 v5 v6 (h_H c m0) = some (r.1, (h_H c r.2))) (v1 : Int) (v2 : Int) (v3 : Int) (v4 : Int) (v5 : Int) (v6 : Int) (m0 : h_M) (r : (Int × h_M)) (h : GB_Mo_chosenBy_233 k22 v1 v2 v3 v4 v5 v6 m0 = some r) : B_Mo_chosenBy_233 j22 1125 v1 v2 v3 v4 v5 v6 (h_H c m0) = some (r.1, (h_H c r.2)) := by
  unfold GB_Mo_chosenBy_233 at h
  unfold B_Mo_chosenBy_233
  refine bV h ?_
  intro x1 h
  exact hk22 v1 v2 v3 v4 v5 x1 m0 _ h
set_option maxRecDepth 100000 in
set_option maxHeartbeats 4000000 in
theorem uB_Mo_chosenBy_193 (c : h_C) (j22 : Nat → Int → Int → Int → Int → Int → Int → p_Hp → Option (Int × p_Hp)) (k22 : Int → Int → Int → Int → Int → Int → h_M → Option (Int × h_M)) (hk22 : ∀ (v1 : Int) (v2 : Int) (v3 : Int) (v4 : Int) (v5 : Int) (v6 : Int) (m0 : h_M) (r : (Int × h_M)), k22 v1 v2 v3 v4 v5 v6 m0 = some r → j22 1125 v1 v2 v3 v4 v5 v6 (h_H c m0) = some (r.1, (h_H c r.2))) (v1 : Int) (v3 : Int) (v4 : Int) (v5 : Int) (v6 : Int) (w0 : Int) (m0 : h_M) (r : (Int × h_M)) (h : GB_Mo_chosenBy_193 k22 v1 v3 v4 v5 v6 w0 m0 = some r) : B_Mo_chosenBy_193 j22 1125 v1 v3 v4 v5 v6 w0 (h_H c m0) = some (r.1, (h_H c r.2)) := by
  unfold GB_Mo_chosenBy_193 at h
  unfold B_Mo_chosenBy_193
  exact uB_Mo_chosenBy_233 c j22 k22 hk22 v1 w0 v3 v4 v5 v6 m0 _ h
set_option maxRecDepth 100000 in
set_option maxHeartbeats 4000000 in
theorem uB_Mo_chosenBy_192 (c : h_C) (j22 : Nat → Int → Int → Int → Int → Int → Int → p_Hp → Option (Int × p_Hp)) (k22 : Int → Int → Int → Int → Int → Int → h_M → Option (Int × h_M)) (hk22 : ∀ (v1 : Int) (v2 : Int) (v3 : Int) (v4 : Int) (v5 : Int) (v6 : Int) (m0 : h_M) (r : (Int × h_M)), k22 v1 v2 v3 v4 v5 v6 m0 = some r → j22 1125 v1 v2 v3 v4 v5 v6 (h_H c m0) = some (r.1, (h_H c r.2))) (v1 : Int) (v3 : Int) (v4 : Int) (v5 : Int) (v6 : Int) (m0 : h_M) (r : (Int × h_M)) (h : GB_Mo_chosenBy_192 k22 v1 v3 v4 v5 v6 m0 = some r) : B_Mo_chosenBy_192 j22 1125 v1 v3 v4 v5 v6 (h_H c m0) = some (r.1, (h_H c r.2)) := by
  unfold GB_Mo_chosenBy_192 at h
  unfold B_Mo_chosenBy_192
  exact uB_Mo_chosenBy_193 c j22 k22 hk22 v1 v3 v4 v5 v6 (-1) m0 _ h
set_option maxRecDepth 100000 in
set_option maxHeartbeats 4000000 in
theorem uB_Mo_chosenBy_197 (c : h_C) (j22 : Nat → Int → Int → Int → Int → Int → Int → p_Hp → Option (Int × p_Hp)) (k22 : Int → Int → Int → Int → Int → Int → h_M → Option (Int × h_M)) (hk22 : ∀ (v1 : Int) (v2 : Int) (v3 : Int) (v4 : Int) (v5 : Int) (v6 : Int) (m0 : h_M) (r : (Int × h_M)), k22 v1 v2 v3 v4 v5 v6 m0 = some r → j22 1125 v1 v2 v3 v4 v5 v6 (h_H c m0) = some (r.1, (h_H c r.2))) (v1 : Int) (v2 : Int) (v3 : Int) (v4 : Int) (v5 : Int) (v6 : Int) (v7 : Int) (v8 : Int) (m0 : h_M) (r : (Int × h_M)) (h : GB_Mo_chosenBy_197 k22 v1 v2 v3 v4 v5 v6 v7 v8 m0 = some r) : B_Mo_chosenBy_197 j22 1125 v1 v2 v3 v4 v5 v6 v7 v8 (h_H c m0) = some (r.1, (h_H c r.2)) := by
  unfold GB_Mo_chosenBy_197 at h
  unfold B_Mo_chosenBy_197
  refine iteC Iff.rfl h (fun b1 h => ?_) (fun b1 h => ?_)
  · exact uB_Mo_chosenBy_233 c j22 k22 hk22 v1 v2 v3 v4 v5 v6 m0 _ h
  · refine gdT (miS c m0) ?_
    try rw [mr9 c m0]
    refine gdT (miA c m0 e9) ?_
    obtain ⟨g2, h⟩ := p_gdE h
    refine gdT ⟨g2.1, by rw [mlA c m0 e9]; exact g2.2⟩ ?_
    try rw [mzA c m0 e9 (v7 : Int).toNat]
    refine iteC Iff.rfl h (fun b3 h => ?_) (fun b3 h => ?_)
    · exact uB_Mo_chosenBy_233 c j22 k22 hk22 v1 v2 v3 v4 v5 v6 m0 _ h
    · refine iteC Iff.rfl h (fun b4 h => ?_) (fun b4 h => ?_)
      · exact uB_Mo_chosenBy_233 c j22 k22 hk22 v1 v2 v3 v4 v5 v6 m0 _ h
      · refine iteC Iff.rfl h (fun b5 h => ?_) (fun b5 h => ?_)
        · exact uB_Mo_chosenBy_233 c j22 k22 hk22 v1 v2 v3 v4 v5 v6 m0 _ h
        · refine iteC Iff.rfl h (fun b6 h => ?_) (fun b6 h => ?_)
          · exact uB_Mo_chosenBy_233 c j22 k22 hk22 v1 v2 v3 v4 v5 v6 m0 _ h
          · exact uB_Mo_chosenBy_233 c j22 k22 hk22 v1 v6 v3 v4 v5 v6 m0 _ h
set_option maxRecDepth 100000 in
set_option maxHeartbeats 4000000 in
theorem uB_Mo_chosenBy_144 (c : h_C) (j22 : Nat → Int → Int → Int → Int → Int → Int → p_Hp → Option (Int × p_Hp)) (k22 : Int → Int → Int → Int → Int → Int → h_M → Option (Int × h_M)) (hk22 : ∀ (v1 : Int) (v2 : Int) (v3 : Int) (v4 : Int) (v5 : Int) (v6 : Int) (m0 : h_M) (r : (Int × h_M)), k22 v1 v2 v3 v4 v5 v6 m0 = some r → j22 1125 v1 v2 v3 v4 v5 v6 (h_H c m0) = some (r.1, (h_H c r.2))) (v1 : Int) (v2 : Int) (v3 : Int) (v4 : Int) (v5 : Int) (v6 : Int) (v7 : Int) (w0 : Int) (m0 : h_M) (r : (Int × h_M)) (h : GB_Mo_chosenBy_144 k22 v1 v2 v3 v4 v5 v6 v7 w0 m0 = some r) : B_Mo_chosenBy_144 j22 1125 v1 v2 v3 v4 v5 v6 v7 w0 (h_H c m0) = some (r.1, (h_H c r.2)) := by
  unfold GB_Mo_chosenBy_144 at h
  unfold B_Mo_chosenBy_144
  refine iteC Iff.rfl h (fun b1 h => ?_) (fun b1 h => ?_)
  · exact uB_Mo_chosenBy_197 c j22 k22 hk22 v1 v2 v3 v4 v5 v6 v7 w0 m0 _ h
  · refine gdT (miS c m0) ?_
    try rw [mr9 c m0]
    refine gdT (miA c m0 e9) ?_
    obtain ⟨g2, h⟩ := p_gdE h
    refine gdT ⟨g2.1, by rw [mlA c m0 e9]; exact g2.2⟩ ?_
    try rw [mzA c m0 e9 (v7 : Int).toNat]
    refine iteC Iff.rfl h (fun b3 h => ?_) (fun b3 h => ?_)
    · exact uB_Mo_chosenBy_197 c j22 k22 hk22 v1 v2 v3 v4 v5 v6 v7 w0 m0 _ h
    · try rw [mr9 c m0]
      refine gdT ⟨g2.1, by rw [mlA c m0 e9]; exact g2.2⟩ ?_
      try rw [mzA c m0 e9 (v7 : Int).toNat]
      refine bV h ?_
      intro x5 h
      refine iteC Iff.rfl h (fun b6 h => ?_) (fun b6 h => ?_)
      · exact uB_Mo_chosenBy_192 c j22 k22 hk22 v1 v6 x5 v5 v6 m0 _ h
      · refine iteC Iff.rfl h (fun b7 h => ?_) (fun b7 h => ?_)
        · exact uB_Mo_chosenBy_192 c j22 k22 hk22 v1 v6 x5 v5 v6 m0 _ h
        · exact uB_Mo_chosenBy_193 c j22 k22 hk22 v1 v6 x5 v5 v6 v6 m0 _ h
set_option maxRecDepth 100000 in
set_option maxHeartbeats 4000000 in
theorem uB_Mo_chosenBy_143 (c : h_C) (j22 : Nat → Int → Int → Int → Int → Int → Int → p_Hp → Option (Int × p_Hp)) (k22 : Int → Int → Int → Int → Int → Int → h_M → Option (Int × h_M)) (hk22 : ∀ (v1 : Int) (v2 : Int) (v3 : Int) (v4 : Int) (v5 : Int) (v6 : Int) (m0 : h_M) (r : (Int × h_M)), k22 v1 v2 v3 v4 v5 v6 m0 = some r → j22 1125 v1 v2 v3 v4 v5 v6 (h_H c m0) = some (r.1, (h_H c r.2))) (v1 : Int) (v2 : Int) (v3 : Int) (v4 : Int) (v5 : Int) (v6 : Int) (v7 : Int) (m0 : h_M) (r : (Int × h_M)) (h : GB_Mo_chosenBy_143 k22 v1 v2 v3 v4 v5 v6 v7 m0 = some r) : B_Mo_chosenBy_143 j22 1125 v1 v2 v3 v4 v5 v6 v7 (h_H c m0) = some (r.1, (h_H c r.2)) := by
  unfold GB_Mo_chosenBy_143 at h
  unfold B_Mo_chosenBy_143
  exact uB_Mo_chosenBy_144 c j22 k22 hk22 v1 v2 v3 v4 v5 v6 v7 0 m0 _ h
set_option maxRecDepth 100000 in
set_option maxHeartbeats 4000000 in
theorem uB_Mo_chosenBy_123 (c : h_C) (j22 : Nat → Int → Int → Int → Int → Int → Int → p_Hp → Option (Int × p_Hp)) (k22 : Int → Int → Int → Int → Int → Int → h_M → Option (Int × h_M)) (hk22 : ∀ (v1 : Int) (v2 : Int) (v3 : Int) (v4 : Int) (v5 : Int) (v6 : Int) (m0 : h_M) (r : (Int × h_M)), k22 v1 v2 v3 v4 v5 v6 m0 = some r → j22 1125 v1 v2 v3 v4 v5 v6 (h_H c m0) = some (r.1, (h_H c r.2))) (v1 : Int) (v2 : Int) (v3 : Int) (v4 : Int) (v5 : Int) (v6 : Int) (v7 : Int) (m0 : h_M) (r : (Int × h_M)) (h : GB_Mo_chosenBy_123 k22 v1 v2 v3 v4 v5 v6 v7 m0 = some r) : B_Mo_chosenBy_123 j22 1125 v1 v2 v3 v4 v5 v6 v7 (h_H c m0) = some (r.1, (h_H c r.2)) := by
  unfold GB_Mo_chosenBy_123 at h
  unfold B_Mo_chosenBy_123
  refine gdT (miS c m0) ?_
  obtain ⟨r3, q1, h⟩ := q_bvE h
  refine bdC (u_Mo_linkAt c v6 m0 _ q1) ?_
  obtain ⟨r7, m8, q5, h⟩ := q_bdE h
  refine bdC (u_Mo_leads c v6 r3 v1 m0 _ q5) ?_
  refine iteC Iff.rfl h (fun b10 h => ?_) (fun b10 h => ?_)
  · exact uB_Mo_chosenBy_143 c j22 k22 hk22 v1 v2 v3 v4 v5 v6 v7 m8 _ h
  · exact uB_Mo_chosenBy_144 c j22 k22 hk22 v1 v2 v3 v4 v5 v6 v7 1 m8 _ h
set_option maxRecDepth 100000 in
set_option maxHeartbeats 4000000 in
theorem uL_Mo_chosenBy_22 (c : h_C) (j22 : Nat → Int → Int → Int → Int → Int → Int → p_Hp → Option (Int × p_Hp)) (k22 : Int → Int → Int → Int → Int → Int → h_M → Option (Int × h_M)) (hk22 : ∀ (v1 : Int) (v2 : Int) (v3 : Int) (v4 : Int) (v5 : Int) (v6 : Int) (m0 : h_M) (r : (Int × h_M)), k22 v1 v2 v3 v4 v5 v6 m0 = some r → j22 1125 v1 v2 v3 v4 v5 v6 (h_H c m0) = some (r.1, (h_H c r.2))) (v1 : Int) (v2 : Int) (v3 : Int) (v4 : Int) (v5 : Int) (v6 : Int) (m0 : h_M) (r : (Int × h_M)) (h : GL_Mo_chosenBy_22 k22 v1 v2 v3 v4 v5 v6 m0 = some r) : L_Mo_chosenBy_22 j22 1125 v1 v2 v3 v4 v5 v6 (h_H c m0) = some (r.1, (h_H c r.2)) := by
  unfold GL_Mo_chosenBy_22 at h
  unfold L_Mo_chosenBy_22
  refine gdT (miS c m0) ?_
  try rw [mr3 c m0]
  try rw [zs0 c m0]
  refine gdT (miA c m0 e3) ?_
  obtain ⟨g1, h⟩ := p_gdE h
  refine gdT ⟨g1.1, by rw [mlA c m0 e3]; exact g1.2⟩ ?_
  try rw [mzA c m0 e3 ((m0 100 0) : Int).toNat]
  refine iteC Iff.rfl h (fun b2 h => ?_) (fun b2 h => ?_)
  · refine iteC Iff.rfl h (fun b3 h => ?_) (fun b3 h => ?_)
    · cases h
      rfl
    · cases h
      rfl
  · obtain ⟨r6, q4, h⟩ := q_bvE h
    refine bdC (u_Mo_g c v6 m0 _ q4) ?_
    try rw [mr5 c m0]
    refine gdT (miA c m0 e5) ?_
    obtain ⟨g8, h⟩ := p_gdE h
    refine gdT ⟨g8.1, by rw [mlA c m0 e5]; exact g8.2⟩ ?_
    try rw [mzA c m0 e5 (r6 : Int).toNat]
    obtain ⟨r11, q9, h⟩ := q_bvE h
    refine bdC (u_Mo_isTaker c (m0 5 (r6 : Int).toNat) m0 _ q9) ?_
    refine iteC Iff.rfl h (fun b13 h => ?_) (fun b13 h => ?_)
    · exact uB_Mo_chosenBy_143 c j22 k22 hk22 v1 v2 v3 v4 v5 v6 r6 m0 _ h
    · try rw [mr5 c m0]
      refine gdT (miA c m0 e5) ?_
      refine gdT ⟨g8.1, by rw [mlA c m0 e5]; exact g8.2⟩ ?_
      try rw [mzA c m0 e5 (r6 : Int).toNat]
      refine iteC Iff.rfl h (fun b14 h => ?_) (fun b14 h => ?_)
      · exact uB_Mo_chosenBy_143 c j22 k22 hk22 v1 v2 v3 v4 v5 v6 r6 m0 _ h
      · obtain ⟨r17, q15, h⟩ := q_bvE h
        refine bdC (u_Mo_isActing c r6 m0 _ q15) ?_
        refine iteC Iff.rfl h (fun b19 h => ?_) (fun b19 h => ?_)
        · exact uB_Mo_chosenBy_143 c j22 k22 hk22 v1 v2 v3 v4 v5 v6 r6 m0 _ h
        · try rw [mr22 c m0]
          try rw [mr6 c m0]
          refine gdT (miA c m0 e6) ?_
          refine gdT ⟨g8.1, by rw [mlA c m0 e6]; exact g8.2⟩ ?_
          try rw [mzA c m0 e6 (r6 : Int).toNat]
          refine gdT (miA c m0 e22) ?_
          obtain ⟨g20, h⟩ := p_gdE h
          refine gdT ⟨g20.1, by rw [mlA c m0 e22]; exact g20.2⟩ ?_
          try rw [mzA c m0 e22 ((p_w ((p_w ((p_w (8 * r6)) + (m0 6 (r6 : Int).toNat))) - 1)) : Int).toNat]
          refine iteC Iff.rfl h (fun b21 h => ?_) (fun b21 h => ?_)
          · exact uB_Mo_chosenBy_143 c j22 k22 hk22 v1 v2 v3 v4 v5 v6 r6 m0 _ h
          · try rw [mr5 c m0]
            refine gdT (miA c m0 e5) ?_
            refine gdT ⟨g8.1, by rw [mlA c m0 e5]; exact g8.2⟩ ?_
            try rw [mzA c m0 e5 (r6 : Int).toNat]
            refine iteC Iff.rfl h (fun b22 h => ?_) (fun b22 h => ?_)
            · exact uB_Mo_chosenBy_123 c j22 k22 hk22 v1 v2 v3 v4 v5 v6 r6 m0 _ h
            · try rw [mr13 c m0]
              refine gdT (miA c m0 e13) ?_
              refine gdT ⟨g8.1, by rw [mlA c m0 e13]; exact g8.2⟩ ?_
              try rw [mzA c m0 e13 (r6 : Int).toNat]
              refine iteC Iff.rfl h (fun b23 h => ?_) (fun b23 h => ?_)
              · exact uB_Mo_chosenBy_143 c j22 k22 hk22 v1 v2 v3 v4 v5 v6 r6 m0 _ h
              · exact uB_Mo_chosenBy_123 c j22 k22 hk22 v1 v2 v3 v4 v5 v6 r6 m0 _ h
set_option maxRecDepth 100000 in
set_option maxHeartbeats 4000000 in
theorem uO_Mo_chosenBy_22 (c : h_C)  : ∀ (n : Nat) (v1 : Int) (v2 : Int) (v3 : Int) (v4 : Int) (v5 : Int) (v6 : Int) (m0 : h_M) (r : (Int × h_M)), GO_Mo_chosenBy_22 n v1 v2 v3 v4 v5 v6 m0 = some r → O_Mo_chosenBy_22 n 1125 v1 v2 v3 v4 v5 v6 (h_H c m0) = some (r.1, (h_H c r.2)) := by
  intro n
  induction n with
  | zero => intro v1 v2 v3 v4 v5 v6 m0 r h; cases h
  | succ n ih => intro v1 v2 v3 v4 v5 v6 m0 r h; exact uL_Mo_chosenBy_22 c (O_Mo_chosenBy_22 n) (GO_Mo_chosenBy_22 n) ih v1 v2 v3 v4 v5 v6 m0 r h
set_option maxRecDepth 100000 in
set_option maxHeartbeats 4000000 in
theorem u_Mo_chosenBy (c : h_C) (v1 : Int) (m0 : h_M) (r : (Int × h_M)) (h : G_Mo_chosenBy v1 m0 = some r) : F_Mo_chosenBy 1125 v1 (h_H c m0) = some (r.1, (h_H c r.2)) := by
  unfold G_Mo_chosenBy at h
  unfold F_Mo_chosenBy
  refine gdT (miS c m0) ?_
  try rw [mr12 c m0]
  obtain ⟨r3, q1, h⟩ := q_bvE h
  refine bdC (u_Mo_g c v1 m0 _ q1) ?_
  refine gdT (miA c m0 e12) ?_
  obtain ⟨g5, h⟩ := p_gdE h
  refine gdT ⟨g5.1, by rw [mlA c m0 e12]; exact g5.2⟩ ?_
  try rw [mzA c m0 e12 (r3 : Int).toNat]
  refine bV h ?_
  intro x7 h
  exact uO_Mo_chosenBy_22 c 3000 v1 (-1) (-1) (-1) x7 0 m0 _ h
def GB_Mo_choose_47 (k2 : Int → h_M → Option h_M) (v1 : Int) (m0 : h_M) : Option h_M :=
  p_bi (p_w (v1 + 1)) fun x1 =>
  k2 x1 m0
def GL_Mo_choose_2 (k2 : Int → h_M → Option h_M) (v1 : Int) (m0 : h_M) : Option h_M :=
  p_gd ((0 : Int) ≤ (m0 100 0) ∧ (m0 100 0) < (3 : Int)) <|
  if (m0 3 ((m0 100 0) : Int).toNat) ≤ v1 then
    some m0
  else
    p_gd ((0 : Int) ≤ v1 ∧ v1 < (40 : Int)) <|
    p_bi (wm m0 74 (v1 : Int).toNat (-1)) fun m4 =>
    q_bv (G_Mo_g v1 m4) fun r8 =>
    p_gd ((0 : Int) ≤ r8 ∧ r8 < (120 : Int)) <|
    if (m4 5 (r8 : Int).toNat) ≠ 2 then
      GB_Mo_choose_47 k2 v1 m4
    else
      q_bd (G_Mo_chosenBy v1 m4) fun r14 m15 =>
      p_bi (wm m15 74 (v1 : Int).toNat r14) fun m17 =>
      GB_Mo_choose_47 k2 v1 m17
def GO_Mo_choose_2  : Nat → Int → h_M → Option h_M
  | 0 => fun _ _ => none
  | n + 1 => GL_Mo_choose_2 (GO_Mo_choose_2 n)
def G_Mo_choose  (m0 : h_M) : Option h_M :=
  GO_Mo_choose_2 3000 0 m0
set_option maxRecDepth 100000 in
set_option maxHeartbeats 4000000 in
theorem uB_Mo_choose_47 (c : h_C) (j2 : Nat → Int → p_Hp → Option p_Hp) (k2 : Int → h_M → Option h_M) (hk2 : ∀ (v1 : Int) (m0 : h_M) (r : h_M), k2 v1 m0 = some r → j2 1125 v1 (h_H c m0) = some (h_H c r)) (v1 : Int) (m0 : h_M) (r : h_M) (h : GB_Mo_choose_47 k2 v1 m0 = some r) : B_Mo_choose_47 j2 1125 v1 (h_H c m0) = some (h_H c r) := by
  unfold GB_Mo_choose_47 at h
  unfold B_Mo_choose_47
  refine bV h ?_
  intro x1 h
  exact hk2 x1 m0 _ h
set_option maxRecDepth 100000 in
set_option maxHeartbeats 4000000 in
theorem uL_Mo_choose_2 (c : h_C) (j2 : Nat → Int → p_Hp → Option p_Hp) (k2 : Int → h_M → Option h_M) (hk2 : ∀ (v1 : Int) (m0 : h_M) (r : h_M), k2 v1 m0 = some r → j2 1125 v1 (h_H c m0) = some (h_H c r)) (v1 : Int) (m0 : h_M) (r : h_M) (h : GL_Mo_choose_2 k2 v1 m0 = some r) : L_Mo_choose_2 j2 1125 v1 (h_H c m0) = some (h_H c r) := by
  unfold GL_Mo_choose_2 at h
  unfold L_Mo_choose_2
  refine gdT (miS c m0) ?_
  try rw [mr3 c m0]
  try rw [zs0 c m0]
  refine gdT (miA c m0 e3) ?_
  obtain ⟨g1, h⟩ := p_gdE h
  refine gdT ⟨g1.1, by rw [mlA c m0 e3]; exact g1.2⟩ ?_
  try rw [mzA c m0 e3 ((m0 100 0) : Int).toNat]
  refine iteC Iff.rfl h (fun b2 h => ?_) (fun b2 h => ?_)
  · cases h
    rfl
  · try rw [mr74 c m0]
    refine gdT (miA c m0 e74) ?_
    obtain ⟨g3, h⟩ := p_gdE h
    refine gdT ⟨g3.1, by rw [mlA c m0 e74]; exact g3.2⟩ ?_
    refine bM (mwA c m0 e74 _ _) h ?_
    intro m4 h
    try rw [mr5 c m4]
    obtain ⟨r8, q6, h⟩ := q_bvE h
    refine bdC (u_Mo_g c v1 m4 _ q6) ?_
    refine gdT (miA c m4 e5) ?_
    obtain ⟨g10, h⟩ := p_gdE h
    refine gdT ⟨g10.1, by rw [mlA c m4 e5]; exact g10.2⟩ ?_
    try rw [mzA c m4 e5 (r8 : Int).toNat]
    refine iteC Iff.rfl h (fun b11 h => ?_) (fun b11 h => ?_)
    · exact uB_Mo_choose_47 c j2 k2 hk2 v1 m4 _ h
    · try rw [mr74 c m4]
      obtain ⟨r14, m15, q12, h⟩ := q_bdE h
      refine bdC (u_Mo_chosenBy c v1 m4 _ q12) ?_
      refine gdT (miA c m15 e74) ?_
      refine gdT ⟨g3.1, by rw [mlA c m15 e74]; exact g3.2⟩ ?_
      refine bM (mwA c m15 e74 _ _) h ?_
      intro m17 h
      exact uB_Mo_choose_47 c j2 k2 hk2 v1 m17 _ h
set_option maxRecDepth 100000 in
set_option maxHeartbeats 4000000 in
theorem uO_Mo_choose_2 (c : h_C)  : ∀ (n : Nat) (v1 : Int) (m0 : h_M) (r : h_M), GO_Mo_choose_2 n v1 m0 = some r → O_Mo_choose_2 n 1125 v1 (h_H c m0) = some (h_H c r) := by
  intro n
  induction n with
  | zero => intro v1 m0 r h; cases h
  | succ n ih => intro v1 m0 r h; exact uL_Mo_choose_2 c (O_Mo_choose_2 n) (GO_Mo_choose_2 n) ih v1 m0 r h
set_option maxRecDepth 100000 in
set_option maxHeartbeats 4000000 in
theorem u_Mo_choose (c : h_C)  (m0 : h_M) (r : h_M) (h : G_Mo_choose  m0 = some r) : F_Mo_choose 1125 (h_H c m0) = some (h_H c r) := by
  unfold G_Mo_choose at h
  unfold F_Mo_choose
  exact uO_Mo_choose_2 c 3000 0 m0 _ h
def GB_Mo_planFault_183  (w0 : Int) (w1 : Int) (m0 : h_M) : Option (Int × h_M) :=
  p_gd ((0 : Int) ≤ w1 ∧ w1 < (120 : Int)) <|
  p_gd (w0 = 0 ∨ w0 = 1) <|
  p_bi (wm m0 14 (w1 : Int).toNat w0) fun m3 =>
  some (0, m3)
def GB_Mo_planFault_144  (v1 : Int) (v2 : Int) (v3 : Int) (v5 : Int) (m0 : h_M) : Option (Int × h_M) :=
  if 4 ≤ v2 then
    p_gd ((0 : Int) ≤ (p_w ((p_w (4 * v1)) + 3)) ∧ (p_w ((p_w (4 * v1)) + 3)) < (192 : Int)) <|
    p_bi ((m0 58 ((p_w ((p_w (4 * v1)) + 3)) : Int).toNat)) fun x4 =>
    if v3 ≠ 0 then
      if v3 ≠ 1 then
        q_bv (G_Mo_beyond x4 0 20 m0) fun r9 =>
        if r9 = 0 then
          p_gd ((0 : Int) ≤ v5 ∧ v5 < (120 : Int)) <|
          p_bi (wm m0 13 (v5 : Int).toNat x4) fun m13 =>
          some (0, m13)
        else
          some (3, m0)
      else
        q_bv (G_Mo_loadOf v5 m0) fun r17 =>
        if r17 ≠ 0 then
          some (0, m0)
        else
          p_gd ((0 : Int) ≤ v5 ∧ v5 < (120 : Int)) <|
          q_bv (G_Mo_sidesOf (m0 5 (v5 : Int).toNat) m0) fun r23 =>
          q_bv (G_Mo_beyond x4 0 (p_w (r23 - 1)) m0) fun r27 =>
          if r27 = 0 then
            p_bi (wm m0 10 (v5 : Int).toNat x4) fun m30 =>
            some (0, m30)
          else
            some (3, m0)
    else
      if x4 = 0 then
        GB_Mo_planFault_183 0 v5 m0
      else
        GB_Mo_planFault_183 1 v5 m0
  else
    some (3, m0)
def G_Mo_planFault (v1 : Int) (m0 : h_M) : Option (Int × h_M) :=
  p_gd ((0 : Int) ≤ v1 ∧ v1 < (48 : Int)) <|
  p_bi ((m0 57 (v1 : Int).toNat)) fun x3 =>
  if 2 ≤ x3 then
    p_gd ((0 : Int) ≤ (p_w ((p_w (4 * v1)) + 1)) ∧ (p_w ((p_w (4 * v1)) + 1)) < (192 : Int)) <|
    p_bi ((m0 58 ((p_w ((p_w (4 * v1)) + 1)) : Int).toNat)) fun x7 =>
    q_bv (G_Mo_beyond x7 0 2 m0) fun r10 =>
    if r10 ≠ 0 then
      some (3, m0)
    else
      if 3 ≤ x3 then
        p_gd ((0 : Int) ≤ (p_w ((p_w (4 * v1)) + 2)) ∧ (p_w ((p_w (4 * v1)) + 2)) < (192 : Int)) <|
        p_bi ((m0 58 ((p_w ((p_w (4 * v1)) + 2)) : Int).toNat)) fun x16 =>
        q_bv (G_Mo_beyond x16 0 39 m0) fun r19 =>
        if r19 = 0 then
          q_bv (G_Mo_noGear x16 m0) fun r24 =>
          if r24 = 0 then
            q_bv (G_Mo_g x16 m0) fun r29 =>
            if x7 ≠ 0 then
              if x7 ≠ 1 then
                p_gd ((0 : Int) ≤ r29 ∧ r29 < (120 : Int)) <|
                if (m0 5 (r29 : Int).toNat) = 8 then
                  GB_Mo_planFault_144 v1 x3 x7 r29 m0
                else
                  some (2, m0)
              else
                p_gd ((0 : Int) ≤ r29 ∧ r29 < (120 : Int)) <|
                q_bv (G_Mo_isDivert (m0 5 (r29 : Int).toNat) m0) fun r38 =>
                if r38 ≠ 0 then
                  GB_Mo_planFault_144 v1 x3 x7 r29 m0
                else
                  some (2, m0)
            else
              p_gd ((0 : Int) ≤ r29 ∧ r29 < (120 : Int)) <|
              if (m0 5 (r29 : Int).toNat) = 9 then
                GB_Mo_planFault_144 v1 x3 x7 r29 m0
              else
                some (2, m0)
          else
            some (1, m0)
        else
          some (3, m0)
      else
        some (3, m0)
  else
    some (3, m0)
set_option maxRecDepth 100000 in
set_option maxHeartbeats 4000000 in
theorem uB_Mo_planFault_183 (c : h_C)  (w0 : Int) (w1 : Int) (m0 : h_M) (r : (Int × h_M)) (h : GB_Mo_planFault_183 w0 w1 m0 = some r) : B_Mo_planFault_183 w0 w1 1137 (h_H c m0) = some (r.1, (h_H c r.2)) := by
  unfold GB_Mo_planFault_183 at h
  unfold B_Mo_planFault_183
  refine gdT (miA c m0 e14) ?_
  obtain ⟨g1, h⟩ := p_gdE h
  refine gdT ⟨g1.1, by rw [mlA c m0 e14]; exact g1.2⟩ ?_
  obtain ⟨g2, h⟩ := p_gdE h
  refine gdT g2 ?_
  refine bM (mwA c m0 e14 _ _) h ?_
  intro m3 h
  cases h
  rfl
set_option maxRecDepth 100000 in
set_option maxHeartbeats 4000000 in
theorem uB_Mo_planFault_144 (c : h_C)  (v1 : Int) (v2 : Int) (v3 : Int) (v5 : Int) (m0 : h_M) (r : (Int × h_M)) (h : GB_Mo_planFault_144 v1 v2 v3 v5 m0 = some r) : B_Mo_planFault_144 1125 v1 v2 v3 v5 (h_H c m0) = some (r.1, (h_H c r.2)) := by
  unfold GB_Mo_planFault_144 at h
  unfold B_Mo_planFault_144
  refine iteC Iff.rfl h (fun b1 h => ?_) (fun b1 h => ?_)
  · refine gdT (miS c m0) ?_
    try rw [mr58 c m0]
    refine gdT (miA c m0 e58) ?_
    obtain ⟨g2, h⟩ := p_gdE h
    refine gdT ⟨g2.1, by rw [mlA c m0 e58]; exact g2.2⟩ ?_
    try rw [mzA c m0 e58 ((p_w ((p_w (4 * v1)) + 3)) : Int).toNat]
    refine bV h ?_
    intro x4 h
    refine iteC Iff.rfl h (fun b5 h => ?_) (fun b5 h => ?_)
    · refine iteC Iff.rfl h (fun b6 h => ?_) (fun b6 h => ?_)
      · obtain ⟨r9, q7, h⟩ := q_bvE h
        refine bdC (u_Mo_beyond c x4 0 20 m0 _ q7) ?_
        refine iteC Iff.rfl h (fun b11 h => ?_) (fun b11 h => ?_)
        · try rw [mr13 c m0]
          refine gdT (miA c m0 e13) ?_
          obtain ⟨g12, h⟩ := p_gdE h
          refine gdT ⟨g12.1, by rw [mlA c m0 e13]; exact g12.2⟩ ?_
          refine bM (mwA c m0 e13 _ _) h ?_
          intro m13 h
          cases h
          rfl
        · cases h
          rfl
      · obtain ⟨r17, q15, h⟩ := q_bvE h
        refine bdC (u_Mo_loadOf c v5 m0 _ q15) ?_
        refine iteC Iff.rfl h (fun b19 h => ?_) (fun b19 h => ?_)
        · cases h
          rfl
        · try rw [mr5 c m0]
          refine gdT (miA c m0 e5) ?_
          obtain ⟨g20, h⟩ := p_gdE h
          refine gdT ⟨g20.1, by rw [mlA c m0 e5]; exact g20.2⟩ ?_
          try rw [mzA c m0 e5 (v5 : Int).toNat]
          obtain ⟨r23, q21, h⟩ := q_bvE h
          refine bdC (u_Mo_sidesOf c (m0 5 (v5 : Int).toNat) m0 _ q21) ?_
          obtain ⟨r27, q25, h⟩ := q_bvE h
          refine bdC (u_Mo_beyond c x4 0 (p_w (r23 - 1)) m0 _ q25) ?_
          refine iteC Iff.rfl h (fun b29 h => ?_) (fun b29 h => ?_)
          · try rw [mr10 c m0]
            refine gdT (miA c m0 e10) ?_
            refine gdT ⟨g20.1, by rw [mlA c m0 e10]; exact g20.2⟩ ?_
            refine bM (mwA c m0 e10 _ _) h ?_
            intro m30 h
            cases h
            rfl
          · cases h
            rfl
    · try rw [mr14 c m0]
      refine iteC Iff.rfl h (fun b32 h => ?_) (fun b32 h => ?_)
      · exact uB_Mo_planFault_183 c 0 v5 m0 _ h
      · exact uB_Mo_planFault_183 c 1 v5 m0 _ h
  · cases h
    rfl
set_option maxRecDepth 100000 in
set_option maxHeartbeats 4000000 in
theorem u_Mo_planFault (c : h_C) (v1 : Int) (m0 : h_M) (r : (Int × h_M)) (h : G_Mo_planFault v1 m0 = some r) : F_Mo_planFault 1125 v1 (h_H c m0) = some (r.1, (h_H c r.2)) := by
  unfold G_Mo_planFault at h
  unfold F_Mo_planFault
  refine gdT (miS c m0) ?_
  try rw [mr57 c m0]
  refine gdT (miA c m0 e57) ?_
  obtain ⟨g1, h⟩ := p_gdE h
  refine gdT ⟨g1.1, by rw [mlA c m0 e57]; exact g1.2⟩ ?_
  try rw [mzA c m0 e57 (v1 : Int).toNat]
  refine bV h ?_
  intro x3 h
  refine iteC Iff.rfl h (fun b4 h => ?_) (fun b4 h => ?_)
  · try rw [mr58 c m0]
    refine gdT (miA c m0 e58) ?_
    obtain ⟨g5, h⟩ := p_gdE h
    refine gdT ⟨g5.1, by rw [mlA c m0 e58]; exact g5.2⟩ ?_
    try rw [mzA c m0 e58 ((p_w ((p_w (4 * v1)) + 1)) : Int).toNat]
    refine bV h ?_
    intro x7 h
    obtain ⟨r10, q8, h⟩ := q_bvE h
    refine bdC (u_Mo_beyond c x7 0 2 m0 _ q8) ?_
    refine iteC Iff.rfl h (fun b12 h => ?_) (fun b12 h => ?_)
    · cases h
      rfl
    · refine iteC Iff.rfl h (fun b13 h => ?_) (fun b13 h => ?_)
      · try rw [mr58 c m0]
        refine gdT (miA c m0 e58) ?_
        obtain ⟨g14, h⟩ := p_gdE h
        refine gdT ⟨g14.1, by rw [mlA c m0 e58]; exact g14.2⟩ ?_
        try rw [mzA c m0 e58 ((p_w ((p_w (4 * v1)) + 2)) : Int).toNat]
        refine bV h ?_
        intro x16 h
        obtain ⟨r19, q17, h⟩ := q_bvE h
        refine bdC (u_Mo_beyond c x16 0 39 m0 _ q17) ?_
        refine iteC Iff.rfl h (fun b21 h => ?_) (fun b21 h => ?_)
        · obtain ⟨r24, q22, h⟩ := q_bvE h
          refine bdC (u_Mo_noGear c x16 m0 _ q22) ?_
          refine iteC Iff.rfl h (fun b26 h => ?_) (fun b26 h => ?_)
          · obtain ⟨r29, q27, h⟩ := q_bvE h
            refine bdC (u_Mo_g c x16 m0 _ q27) ?_
            refine iteC Iff.rfl h (fun b31 h => ?_) (fun b31 h => ?_)
            · refine iteC Iff.rfl h (fun b32 h => ?_) (fun b32 h => ?_)
              · try rw [mr5 c m0]
                refine gdT (miA c m0 e5) ?_
                obtain ⟨g33, h⟩ := p_gdE h
                refine gdT ⟨g33.1, by rw [mlA c m0 e5]; exact g33.2⟩ ?_
                try rw [mzA c m0 e5 (r29 : Int).toNat]
                refine iteC Iff.rfl h (fun b34 h => ?_) (fun b34 h => ?_)
                · exact uB_Mo_planFault_144 c v1 x3 x7 r29 m0 _ h
                · cases h
                  rfl
              · try rw [mr5 c m0]
                refine gdT (miA c m0 e5) ?_
                obtain ⟨g35, h⟩ := p_gdE h
                refine gdT ⟨g35.1, by rw [mlA c m0 e5]; exact g35.2⟩ ?_
                try rw [mzA c m0 e5 (r29 : Int).toNat]
                obtain ⟨r38, q36, h⟩ := q_bvE h
                refine bdC (u_Mo_isDivert c (m0 5 (r29 : Int).toNat) m0 _ q36) ?_
                refine iteC Iff.rfl h (fun b40 h => ?_) (fun b40 h => ?_)
                · exact uB_Mo_planFault_144 c v1 x3 x7 r29 m0 _ h
                · cases h
                  rfl
            · try rw [mr5 c m0]
              refine gdT (miA c m0 e5) ?_
              obtain ⟨g41, h⟩ := p_gdE h
              refine gdT ⟨g41.1, by rw [mlA c m0 e5]; exact g41.2⟩ ?_
              try rw [mzA c m0 e5 (r29 : Int).toNat]
              refine iteC Iff.rfl h (fun b42 h => ?_) (fun b42 h => ?_)
              · exact uB_Mo_planFault_144 c v1 x3 x7 r29 m0 _ h
              · cases h
                rfl
          · cases h
            rfl
        · cases h
          rfl
      · cases h
        rfl
  · cases h
    rfl
def GB_Mo_doPlans_73 (k7 : Int → h_M → Option h_M) (v1 : Int) (m0 : h_M) : Option h_M :=
  p_bi (p_w (v1 + 1)) fun x1 =>
  k7 x1 m0
def GL_Mo_doPlans_7 (k7 : Int → h_M → Option h_M) (v1 : Int) (m0 : h_M) : Option h_M :=
  p_gd ((0 : Int) ≤ (m0 100 0) ∧ (m0 100 0) < (3 : Int)) <|
  if (m0 56 ((m0 100 0) : Int).toNat) ≤ v1 then
    some m0
  else
    p_gd ((0 : Int) ≤ (p_w ((p_w (64 * (m0 100 0))) + (p_w (4 * v1)))) ∧ (p_w ((p_w (64 * (m0 100 0))) + (p_w (4 * v1)))) < (192 : Int)) <|
    if (m0 58 ((p_w ((p_w (64 * (m0 100 0))) + (p_w (4 * v1)))) : Int).toNat) ≠ (m0 4 ((m0 100 0) : Int).toNat) then
      GB_Mo_doPlans_73 k7 v1 m0
    else
      q_bd (G_Mo_planFault (p_w ((p_w (16 * (m0 100 0))) + v1)) m0) fun r7 m8 =>
      if r7 ≤ 0 then
        GB_Mo_doPlans_73 k7 v1 m8
      else
        q_bv (G_Mo_find 5 r7 v1 m8) fun m13 =>
        GB_Mo_doPlans_73 k7 v1 m13
def GO_Mo_doPlans_7  : Nat → Int → h_M → Option h_M
  | 0 => fun _ _ => none
  | n + 1 => GL_Mo_doPlans_7 (GO_Mo_doPlans_7 n)
def G_Mo_doPlans  (m0 : h_M) : Option h_M :=
  p_bi (wm m0 171 0 (-1)) fun m1 =>
  GO_Mo_doPlans_7 3000 0 m1
set_option maxRecDepth 100000 in
set_option maxHeartbeats 4000000 in
theorem uB_Mo_doPlans_73 (c : h_C) (j7 : Nat → Int → p_Hp → Option p_Hp) (k7 : Int → h_M → Option h_M) (hk7 : ∀ (v1 : Int) (m0 : h_M) (r : h_M), k7 v1 m0 = some r → j7 1125 v1 (h_H c m0) = some (h_H c r)) (v1 : Int) (m0 : h_M) (r : h_M) (h : GB_Mo_doPlans_73 k7 v1 m0 = some r) : B_Mo_doPlans_73 j7 1125 v1 (h_H c m0) = some (h_H c r) := by
  unfold GB_Mo_doPlans_73 at h
  unfold B_Mo_doPlans_73
  refine bV h ?_
  intro x1 h
  exact hk7 x1 m0 _ h
set_option maxRecDepth 100000 in
set_option maxHeartbeats 4000000 in
theorem uL_Mo_doPlans_7 (c : h_C) (j7 : Nat → Int → p_Hp → Option p_Hp) (k7 : Int → h_M → Option h_M) (hk7 : ∀ (v1 : Int) (m0 : h_M) (r : h_M), k7 v1 m0 = some r → j7 1125 v1 (h_H c m0) = some (h_H c r)) (v1 : Int) (m0 : h_M) (r : h_M) (h : GL_Mo_doPlans_7 k7 v1 m0 = some r) : L_Mo_doPlans_7 j7 1125 v1 (h_H c m0) = some (h_H c r) := by
  unfold GL_Mo_doPlans_7 at h
  unfold L_Mo_doPlans_7
  refine gdT (miS c m0) ?_
  try rw [mr56 c m0]
  try rw [zs0 c m0]
  refine gdT (miA c m0 e56) ?_
  obtain ⟨g1, h⟩ := p_gdE h
  refine gdT ⟨g1.1, by rw [mlA c m0 e56]; exact g1.2⟩ ?_
  try rw [mzA c m0 e56 ((m0 100 0) : Int).toNat]
  refine iteC Iff.rfl h (fun b2 h => ?_) (fun b2 h => ?_)
  · cases h
    rfl
  · try rw [mr58 c m0]
    try rw [zs0 c m0]
    refine gdT (miA c m0 e58) ?_
    obtain ⟨g3, h⟩ := p_gdE h
    refine gdT ⟨g3.1, by rw [mlA c m0 e58]; exact g3.2⟩ ?_
    try rw [mzA c m0 e58 ((p_w ((p_w (64 * (m0 100 0))) + (p_w (4 * v1)))) : Int).toNat]
    try rw [mr4 c m0]
    try rw [zs0 c m0]
    refine gdT (miA c m0 e4) ?_
    refine gdT ⟨g1.1, by rw [mlA c m0 e4]; exact g1.2⟩ ?_
    try rw [mzA c m0 e4 ((m0 100 0) : Int).toNat]
    refine iteC Iff.rfl h (fun b4 h => ?_) (fun b4 h => ?_)
    · exact uB_Mo_doPlans_73 c j7 k7 hk7 v1 m0 _ h
    · try rw [zs0 c m0]
      obtain ⟨r7, m8, q5, h⟩ := q_bdE h
      refine bdC (u_Mo_planFault c (p_w ((p_w (16 * (m0 100 0))) + v1)) m0 _ q5) ?_
      refine iteC Iff.rfl h (fun b10 h => ?_) (fun b10 h => ?_)
      · exact uB_Mo_doPlans_73 c j7 k7 hk7 v1 m8 _ h
      · obtain ⟨m13, q11, h⟩ := q_bvE h
        refine bvC (u_Mo_find c 5 r7 v1 m8 _ q11) ?_
        exact uB_Mo_doPlans_73 c j7 k7 hk7 v1 m13 _ h
set_option maxRecDepth 100000 in
set_option maxHeartbeats 4000000 in
theorem uO_Mo_doPlans_7 (c : h_C)  : ∀ (n : Nat) (v1 : Int) (m0 : h_M) (r : h_M), GO_Mo_doPlans_7 n v1 m0 = some r → O_Mo_doPlans_7 n 1125 v1 (h_H c m0) = some (h_H c r) := by
  intro n
  induction n with
  | zero => intro v1 m0 r h; cases h
  | succ n ih => intro v1 m0 r h; exact uL_Mo_doPlans_7 c (O_Mo_doPlans_7 n) (GO_Mo_doPlans_7 n) ih v1 m0 r h
set_option maxRecDepth 100000 in
set_option maxHeartbeats 4000000 in
theorem u_Mo_doPlans (c : h_C)  (m0 : h_M) (r : h_M) (h : G_Mo_doPlans  m0 = some r) : F_Mo_doPlans 1125 (h_H c m0) = some (h_H c r) := by
  unfold G_Mo_doPlans at h
  unfold F_Mo_doPlans
  refine gdT (miS c m0) ?_
  refine bM (ws71 c m0 _) h ?_
  intro m1 h
  exact uO_Mo_doPlans_7 c 3000 0 m1 _ h
def GB_Mo_both_17   (m0 : h_M) : Option (Int × h_M) :=
  p_gd ((0 : Int) ≤ (m0 184 0) ∧ (m0 184 0) < (234000 : Int)) <|
  p_bi ((m0 83 ((m0 184 0) : Int).toNat)) fun x3 =>
  p_bi (wm m0 184 0 (p_w ((m0 184 0) + 1))) fun m4 =>
  some (x3, m4)
def G_Mo_both (v1 : Int) (m0 : h_M) : Option (Int × h_M) :=
  if (m0 185 0) = 0 then
    GB_Mo_both_17 m0
  else
    p_gd ((0 : Int) ≤ (m0 184 0) ∧ (m0 184 0) < (234000 : Int)) <|
    p_bi (wm m0 83 ((m0 184 0) : Int).toNat v1) fun m3 =>
    GB_Mo_both_17 m3
set_option maxRecDepth 100000 in
set_option maxHeartbeats 4000000 in
theorem uB_Mo_both_17 (c : h_C)   (m0 : h_M) (r : (Int × h_M)) (h : GB_Mo_both_17  m0 = some r) : B_Mo_both_17 1125 (h_H c m0) = some (r.1, (h_H c r.2)) := by
  unfold GB_Mo_both_17 at h
  unfold B_Mo_both_17
  refine gdT (miS c m0) ?_
  try rw [mr83 c m0]
  try rw [zs84 c m0]
  refine gdT (miA c m0 e83) ?_
  obtain ⟨g1, h⟩ := p_gdE h
  refine gdT ⟨g1.1, by rw [mlA c m0 e83]; exact g1.2⟩ ?_
  try rw [mzA c m0 e83 ((m0 184 0) : Int).toNat]
  refine bV h ?_
  intro x3 h
  try rw [zs84 c m0]
  refine bM (ws84 c m0 _) h ?_
  intro m4 h
  cases h
  rfl
set_option maxRecDepth 100000 in
set_option maxHeartbeats 4000000 in
theorem u_Mo_both (c : h_C) (v1 : Int) (m0 : h_M) (r : (Int × h_M)) (h : G_Mo_both v1 m0 = some r) : F_Mo_both 1125 v1 (h_H c m0) = some (r.1, (h_H c r.2)) := by
  unfold G_Mo_both at h
  unfold F_Mo_both
  refine gdT (miS c m0) ?_
  try rw [zs85 c m0]
  refine iteC Iff.rfl h (fun b1 h => ?_) (fun b1 h => ?_)
  · exact uB_Mo_both_17 c m0 _ h
  · try rw [mr83 c m0]
    try rw [zs84 c m0]
    refine gdT (miA c m0 e83) ?_
    obtain ⟨g2, h⟩ := p_gdE h
    refine gdT ⟨g2.1, by rw [mlA c m0 e83]; exact g2.2⟩ ?_
    refine bM (mwA c m0 e83 _ _) h ?_
    intro m3 h
    exact uB_Mo_both_17 c m3 _ h
def GL_Mo_goOverGear_198 (k198 : Int → Int → h_M → Option h_M) (v1 : Int) (v2 : Int) (m0 : h_M) : Option h_M :=
  if (p_w ((p_w (8 * v1)) + 8)) ≤ v2 then
    some m0
  else
    p_gd ((0 : Int) ≤ v2 ∧ v2 < (960 : Int)) <|
    q_bd (G_Mo_both (m0 22 (v2 : Int).toNat) m0) fun r5 m6 =>
    p_bi (wm m6 22 (v2 : Int).toNat r5) fun m8 =>
    p_bi (p_w (v2 + 1)) fun x10 =>
    k198 v1 x10 m8
def GO_Mo_goOverGear_198  : Nat → Int → Int → h_M → Option h_M
  | 0 => fun _ _ _ => none
  | n + 1 => GL_Mo_goOverGear_198 (GO_Mo_goOverGear_198 n)
def GB_Mo_goOverGear_80  (v1 : Int) (w0 : Int) (w1 : Int) (m0 : h_M) : Option h_M :=
  p_gd ((0 : Int) ≤ w1 ∧ w1 < (120 : Int)) <|
  p_gd (w0 = 0 ∨ w0 = 1) <|
  p_bi (wm m0 14 (w1 : Int).toNat w0) fun m3 =>
  p_gd ((0 : Int) ≤ v1 ∧ v1 < (120 : Int)) <|
  q_bd (G_Mo_both (m3 15 (v1 : Int).toNat) m3) fun r8 m9 =>
  p_bi (wm m9 15 (v1 : Int).toNat r8) fun m11 =>
  q_bd (G_Mo_both (m11 16 (v1 : Int).toNat) m11) fun r15 m16 =>
  p_bi (wm m16 16 (v1 : Int).toNat r15) fun m18 =>
  q_bd (G_Mo_both (m18 17 (v1 : Int).toNat) m18) fun r22 m23 =>
  p_bi (wm m23 17 (v1 : Int).toNat r22) fun m25 =>
  q_bd (G_Mo_both (m25 18 (v1 : Int).toNat) m25) fun r29 m30 =>
  p_bi (wm m30 18 (v1 : Int).toNat r29) fun m32 =>
  q_bd (G_Mo_both (m32 19 (v1 : Int).toNat) m32) fun r36 m37 =>
  p_bi (wm m37 19 (v1 : Int).toNat r36) fun m39 =>
  q_bd (G_Mo_both (m39 20 (v1 : Int).toNat) m39) fun r43 m44 =>
  p_bi (wm m44 20 (v1 : Int).toNat r43) fun m46 =>
  q_bd (G_Mo_both (m46 21 (v1 : Int).toNat) m46) fun r50 m51 =>
  p_bi (wm m51 21 (v1 : Int).toNat r50) fun m53 =>
  p_bi ((p_w (8 * v1))) fun x56 =>
  GO_Mo_goOverGear_198 3000 v1 x56 m53
def GB_Mo_goOverGear_68  (v1 : Int) (w0 : Int) (w2 : Int) (m0 : h_M) : Option h_M :=
  q_bd (G_Mo_both w0 m0) fun r3 m4 =>
  if r3 ≠ 1 then
    GB_Mo_goOverGear_80 v1 0 w2 m4
  else
    GB_Mo_goOverGear_80 v1 1 w2 m4
def G_Mo_goOverGear (v1 : Int) (m0 : h_M) : Option h_M :=
  p_gd ((0 : Int) ≤ v1 ∧ v1 < (120 : Int)) <|
  q_bd (G_Mo_both (m0 10 (v1 : Int).toNat) m0) fun r4 m5 =>
  p_bi (wm m5 10 (v1 : Int).toNat r4) fun m7 =>
  q_bd (G_Mo_both (m7 12 (v1 : Int).toNat) m7) fun r11 m12 =>
  p_bi (wm m12 12 (v1 : Int).toNat r11) fun m14 =>
  q_bd (G_Mo_both (m14 13 (v1 : Int).toNat) m14) fun r18 m19 =>
  p_bi (wm m19 13 (v1 : Int).toNat r18) fun m21 =>
  if (m21 14 (v1 : Int).toNat) = 0 then
    GB_Mo_goOverGear_68 v1 0 v1 m21
  else
    GB_Mo_goOverGear_68 v1 1 v1 m21
set_option maxRecDepth 100000 in
set_option maxHeartbeats 4000000 in
theorem uL_Mo_goOverGear_198 (c : h_C) (j198 : Nat → Int → Int → p_Hp → Option p_Hp) (k198 : Int → Int → h_M → Option h_M) (hk198 : ∀ (v1 : Int) (v2 : Int) (m0 : h_M) (r : h_M), k198 v1 v2 m0 = some r → j198 1125 v1 v2 (h_H c m0) = some (h_H c r)) (v1 : Int) (v2 : Int) (m0 : h_M) (r : h_M) (h : GL_Mo_goOverGear_198 k198 v1 v2 m0 = some r) : L_Mo_goOverGear_198 j198 1125 v1 v2 (h_H c m0) = some (h_H c r) := by
  unfold GL_Mo_goOverGear_198 at h
  unfold L_Mo_goOverGear_198
  refine iteC Iff.rfl h (fun b1 h => ?_) (fun b1 h => ?_)
  · cases h
    rfl
  · refine gdT (miS c m0) ?_
    try rw [mr22 c m0]
    try rw [mr22 c m0]
    refine gdT (miA c m0 e22) ?_
    obtain ⟨g2, h⟩ := p_gdE h
    refine gdT ⟨g2.1, by rw [mlA c m0 e22]; exact g2.2⟩ ?_
    try rw [mzA c m0 e22 (v2 : Int).toNat]
    obtain ⟨r5, m6, q3, h⟩ := q_bdE h
    refine bdC (u_Mo_both c (m0 22 (v2 : Int).toNat) m0 _ q3) ?_
    refine gdT ⟨g2.1, by rw [mlA c m6 e22]; exact g2.2⟩ ?_
    refine bM (mwA c m6 e22 _ _) h ?_
    intro m8 h
    refine bV h ?_
    intro x10 h
    exact hk198 v1 x10 m8 _ h
set_option maxRecDepth 100000 in
set_option maxHeartbeats 4000000 in
theorem uO_Mo_goOverGear_198 (c : h_C)  : ∀ (n : Nat) (v1 : Int) (v2 : Int) (m0 : h_M) (r : h_M), GO_Mo_goOverGear_198 n v1 v2 m0 = some r → O_Mo_goOverGear_198 n 1125 v1 v2 (h_H c m0) = some (h_H c r) := by
  intro n
  induction n with
  | zero => intro v1 v2 m0 r h; cases h
  | succ n ih => intro v1 v2 m0 r h; exact uL_Mo_goOverGear_198 c (O_Mo_goOverGear_198 n) (GO_Mo_goOverGear_198 n) ih v1 v2 m0 r h
set_option maxRecDepth 100000 in
set_option maxHeartbeats 4000000 in
theorem uB_Mo_goOverGear_80 (c : h_C)  (v1 : Int) (w0 : Int) (w1 : Int) (m0 : h_M) (r : h_M) (h : GB_Mo_goOverGear_80 v1 w0 w1 m0 = some r) : B_Mo_goOverGear_80 1125 v1 w0 w1 1137 (h_H c m0) = some (h_H c r) := by
  unfold GB_Mo_goOverGear_80 at h
  unfold B_Mo_goOverGear_80
  refine gdT (miA c m0 e14) ?_
  obtain ⟨g1, h⟩ := p_gdE h
  refine gdT ⟨g1.1, by rw [mlA c m0 e14]; exact g1.2⟩ ?_
  obtain ⟨g2, h⟩ := p_gdE h
  refine gdT g2 ?_
  refine bM (mwA c m0 e14 _ _) h ?_
  intro m3 h
  refine gdT (miS c m3) ?_
  try rw [mr15 c m3]
  try rw [mr15 c m3]
  refine gdT (miA c m3 e15) ?_
  obtain ⟨g5, h⟩ := p_gdE h
  refine gdT ⟨g5.1, by rw [mlA c m3 e15]; exact g5.2⟩ ?_
  try rw [mzA c m3 e15 (v1 : Int).toNat]
  obtain ⟨r8, m9, q6, h⟩ := q_bdE h
  refine bdC (u_Mo_both c (m3 15 (v1 : Int).toNat) m3 _ q6) ?_
  refine gdT ⟨g5.1, by rw [mlA c m9 e15]; exact g5.2⟩ ?_
  refine bM (mwA c m9 e15 _ _) h ?_
  intro m11 h
  try rw [mr16 c m11]
  try rw [mr16 c m11]
  refine gdT (miA c m11 e16) ?_
  refine gdT ⟨g5.1, by rw [mlA c m11 e16]; exact g5.2⟩ ?_
  try rw [mzA c m11 e16 (v1 : Int).toNat]
  obtain ⟨r15, m16, q13, h⟩ := q_bdE h
  refine bdC (u_Mo_both c (m11 16 (v1 : Int).toNat) m11 _ q13) ?_
  refine gdT ⟨g5.1, by rw [mlA c m16 e16]; exact g5.2⟩ ?_
  refine bM (mwA c m16 e16 _ _) h ?_
  intro m18 h
  try rw [mr17 c m18]
  try rw [mr17 c m18]
  refine gdT (miA c m18 e17) ?_
  refine gdT ⟨g5.1, by rw [mlA c m18 e17]; exact g5.2⟩ ?_
  try rw [mzA c m18 e17 (v1 : Int).toNat]
  obtain ⟨r22, m23, q20, h⟩ := q_bdE h
  refine bdC (u_Mo_both c (m18 17 (v1 : Int).toNat) m18 _ q20) ?_
  refine gdT ⟨g5.1, by rw [mlA c m23 e17]; exact g5.2⟩ ?_
  refine bM (mwA c m23 e17 _ _) h ?_
  intro m25 h
  try rw [mr18 c m25]
  try rw [mr18 c m25]
  refine gdT (miA c m25 e18) ?_
  refine gdT ⟨g5.1, by rw [mlA c m25 e18]; exact g5.2⟩ ?_
  try rw [mzA c m25 e18 (v1 : Int).toNat]
  obtain ⟨r29, m30, q27, h⟩ := q_bdE h
  refine bdC (u_Mo_both c (m25 18 (v1 : Int).toNat) m25 _ q27) ?_
  refine gdT ⟨g5.1, by rw [mlA c m30 e18]; exact g5.2⟩ ?_
  refine bM (mwA c m30 e18 _ _) h ?_
  intro m32 h
  try rw [mr19 c m32]
  try rw [mr19 c m32]
  refine gdT (miA c m32 e19) ?_
  refine gdT ⟨g5.1, by rw [mlA c m32 e19]; exact g5.2⟩ ?_
  try rw [mzA c m32 e19 (v1 : Int).toNat]
  obtain ⟨r36, m37, q34, h⟩ := q_bdE h
  refine bdC (u_Mo_both c (m32 19 (v1 : Int).toNat) m32 _ q34) ?_
  refine gdT ⟨g5.1, by rw [mlA c m37 e19]; exact g5.2⟩ ?_
  refine bM (mwA c m37 e19 _ _) h ?_
  intro m39 h
  try rw [mr20 c m39]
  try rw [mr20 c m39]
  refine gdT (miA c m39 e20) ?_
  refine gdT ⟨g5.1, by rw [mlA c m39 e20]; exact g5.2⟩ ?_
  try rw [mzA c m39 e20 (v1 : Int).toNat]
  obtain ⟨r43, m44, q41, h⟩ := q_bdE h
  refine bdC (u_Mo_both c (m39 20 (v1 : Int).toNat) m39 _ q41) ?_
  refine gdT ⟨g5.1, by rw [mlA c m44 e20]; exact g5.2⟩ ?_
  refine bM (mwA c m44 e20 _ _) h ?_
  intro m46 h
  try rw [mr21 c m46]
  try rw [mr21 c m46]
  refine gdT (miA c m46 e21) ?_
  refine gdT ⟨g5.1, by rw [mlA c m46 e21]; exact g5.2⟩ ?_
  try rw [mzA c m46 e21 (v1 : Int).toNat]
  obtain ⟨r50, m51, q48, h⟩ := q_bdE h
  refine bdC (u_Mo_both c (m46 21 (v1 : Int).toNat) m46 _ q48) ?_
  refine gdT ⟨g5.1, by rw [mlA c m51 e21]; exact g5.2⟩ ?_
  refine bM (mwA c m51 e21 _ _) h ?_
  intro m53 h
  refine bV h ?_
  intro x56 h
  exact uO_Mo_goOverGear_198 c 3000 v1 x56 m53 _ h
set_option maxRecDepth 100000 in
set_option maxHeartbeats 4000000 in
theorem uB_Mo_goOverGear_68 (c : h_C)  (v1 : Int) (w0 : Int) (w2 : Int) (m0 : h_M) (r : h_M) (h : GB_Mo_goOverGear_68 v1 w0 w2 m0 = some r) : B_Mo_goOverGear_68 1125 v1 w0 1125 w2 1137 (h_H c m0) = some (h_H c r) := by
  unfold GB_Mo_goOverGear_68 at h
  unfold B_Mo_goOverGear_68
  refine gdT (miS c m0) ?_
  obtain ⟨r3, m4, q1, h⟩ := q_bdE h
  refine bdC (u_Mo_both c w0 m0 _ q1) ?_
  refine iteC Iff.rfl h (fun b6 h => ?_) (fun b6 h => ?_)
  · exact uB_Mo_goOverGear_80 c v1 0 w2 m4 _ h
  · exact uB_Mo_goOverGear_80 c v1 1 w2 m4 _ h
set_option maxRecDepth 100000 in
set_option maxHeartbeats 4000000 in
theorem u_Mo_goOverGear (c : h_C) (v1 : Int) (m0 : h_M) (r : h_M) (h : G_Mo_goOverGear v1 m0 = some r) : F_Mo_goOverGear 1125 v1 (h_H c m0) = some (h_H c r) := by
  unfold G_Mo_goOverGear at h
  unfold F_Mo_goOverGear
  refine gdT (miS c m0) ?_
  try rw [mr10 c m0]
  try rw [mr10 c m0]
  refine gdT (miA c m0 e10) ?_
  obtain ⟨g1, h⟩ := p_gdE h
  refine gdT ⟨g1.1, by rw [mlA c m0 e10]; exact g1.2⟩ ?_
  try rw [mzA c m0 e10 (v1 : Int).toNat]
  obtain ⟨r4, m5, q2, h⟩ := q_bdE h
  refine bdC (u_Mo_both c (m0 10 (v1 : Int).toNat) m0 _ q2) ?_
  refine gdT ⟨g1.1, by rw [mlA c m5 e10]; exact g1.2⟩ ?_
  refine bM (mwA c m5 e10 _ _) h ?_
  intro m7 h
  try rw [mr12 c m7]
  try rw [mr12 c m7]
  refine gdT (miA c m7 e12) ?_
  refine gdT ⟨g1.1, by rw [mlA c m7 e12]; exact g1.2⟩ ?_
  try rw [mzA c m7 e12 (v1 : Int).toNat]
  obtain ⟨r11, m12, q9, h⟩ := q_bdE h
  refine bdC (u_Mo_both c (m7 12 (v1 : Int).toNat) m7 _ q9) ?_
  refine gdT ⟨g1.1, by rw [mlA c m12 e12]; exact g1.2⟩ ?_
  refine bM (mwA c m12 e12 _ _) h ?_
  intro m14 h
  try rw [mr13 c m14]
  try rw [mr13 c m14]
  refine gdT (miA c m14 e13) ?_
  refine gdT ⟨g1.1, by rw [mlA c m14 e13]; exact g1.2⟩ ?_
  try rw [mzA c m14 e13 (v1 : Int).toNat]
  obtain ⟨r18, m19, q16, h⟩ := q_bdE h
  refine bdC (u_Mo_both c (m14 13 (v1 : Int).toNat) m14 _ q16) ?_
  refine gdT ⟨g1.1, by rw [mlA c m19 e13]; exact g1.2⟩ ?_
  refine bM (mwA c m19 e13 _ _) h ?_
  intro m21 h
  try rw [mr14 c m21]
  try rw [mr14 c m21]
  refine gdT (miA c m21 e14) ?_
  refine gdT ⟨g1.1, by rw [mlA c m21 e14]; exact g1.2⟩ ?_
  try rw [mzA c m21 e14 (v1 : Int).toNat]
  refine iteC Iff.rfl h (fun b23 h => ?_) (fun b23 h => ?_)
  · exact uB_Mo_goOverGear_68 c v1 0 v1 m21 _ h
  · exact uB_Mo_goOverGear_68 c v1 1 v1 m21 _ h
def GB_Mo_goOverParcels_241 (k9 : Int → h_M → Option h_M) (v1 : Int) (m0 : h_M) : Option h_M :=
  p_bi (p_w (v1 + 1)) fun x1 =>
  k9 x1 m0
def GL_Mo_goOverParcels_208 (k9 : Int → h_M → Option h_M) (k208 : Int → Int → Int → h_M → Option h_M) (v1 : Int) (v2 : Int) (v3 : Int) (m0 : h_M) : Option h_M :=
  if (p_w ((p_w (16 * v2)) + 16)) ≤ v3 then
    GB_Mo_goOverParcels_241 k9 v1 m0
  else
    p_gd ((0 : Int) ≤ v3 ∧ v3 < (32016 : Int)) <|
    q_bd (G_Mo_both (m0 34 (v3 : Int).toNat) m0) fun r5 m6 =>
    p_bi (wm m6 34 (v3 : Int).toNat r5) fun m8 =>
    p_bi (p_w (v3 + 1)) fun x10 =>
    k208 v1 v2 x10 m8
def GO_Mo_goOverParcels_208 (k9 : Int → h_M → Option h_M) : Nat → Int → Int → Int → h_M → Option h_M
  | 0 => fun _ _ _ _ => none
  | n + 1 => GL_Mo_goOverParcels_208 k9 (GO_Mo_goOverParcels_208 k9 n)
def GL_Mo_goOverParcels_170 (k9 : Int → h_M → Option h_M) (k170 : Int → Int → Int → h_M → Option h_M) (v1 : Int) (v2 : Int) (v3 : Int) (m0 : h_M) : Option h_M :=
  if (p_w ((p_w (12 * v2)) + 12)) ≤ v3 then
    p_bi ((p_w (16 * v2))) fun x3 =>
    GO_Mo_goOverParcels_208 k9 3000 v1 v2 x3 m0
  else
    p_gd ((0 : Int) ≤ v3 ∧ v3 < (24012 : Int)) <|
    q_bd (G_Mo_both (m0 32 (v3 : Int).toNat) m0) fun r7 m8 =>
    p_bi (wm m8 32 (v3 : Int).toNat r7) fun m10 =>
    p_bi (p_w (v3 + 1)) fun x12 =>
    k170 v1 v2 x12 m10
def GO_Mo_goOverParcels_170 (k9 : Int → h_M → Option h_M) : Nat → Int → Int → Int → h_M → Option h_M
  | 0 => fun _ _ _ _ => none
  | n + 1 => GL_Mo_goOverParcels_170 k9 (GO_Mo_goOverParcels_170 k9 n)
def GB_Mo_goOverParcels_164 (k9 : Int → h_M → Option h_M) (v1 : Int) (v2 : Int) (w0 : Int) (w1 : Int) (m0 : h_M) : Option h_M :=
  p_gd ((0 : Int) ≤ w1 ∧ w1 < (2001 : Int)) <|
  p_gd (w0 = 0 ∨ w0 = 1) <|
  p_bi (wm m0 35 (w1 : Int).toNat w0) fun m3 =>
  p_bi ((p_w (12 * v2))) fun x6 =>
  GO_Mo_goOverParcels_170 k9 3000 v1 v2 x6 m3
def GB_Mo_goOverParcels_152 (k9 : Int → h_M → Option h_M) (v1 : Int) (v2 : Int) (w0 : Int) (w2 : Int) (m0 : h_M) : Option h_M :=
  q_bd (G_Mo_both w0 m0) fun r3 m4 =>
  if r3 ≠ 1 then
    GB_Mo_goOverParcels_164 k9 v1 v2 0 w2 m4
  else
    GB_Mo_goOverParcels_164 k9 v1 v2 1 w2 m4
def GL_Mo_goOverParcels_9 (k9 : Int → h_M → Option h_M) (v1 : Int) (m0 : h_M) : Option h_M :=
  p_gd ((0 : Int) ≤ (m0 100 0) ∧ (m0 100 0) < (3 : Int)) <|
  if (p_w ((p_w (320 * (m0 100 0))) + (p_w (8 * (m0 3 ((m0 100 0) : Int).toNat))))) ≤ v1 then
    some m0
  else
    p_gd ((0 : Int) ≤ v1 ∧ v1 < (960 : Int)) <|
    p_bi ((m0 22 (v1 : Int).toNat)) fun x5 =>
    if x5 ≤ 0 then
      GB_Mo_goOverParcels_241 k9 v1 m0
    else
      p_gd ((0 : Int) ≤ x5 ∧ x5 < (2001 : Int)) <|
      p_bi (wm m0 25 (x5 : Int).toNat 1) fun m8 =>
      q_bd (G_Mo_both (m8 26 (x5 : Int).toNat) m8) fun r12 m13 =>
      p_bi (wm m13 26 (x5 : Int).toNat r12) fun m15 =>
      q_bd (G_Mo_both (m15 27 (x5 : Int).toNat) m15) fun r19 m20 =>
      p_bi (wm m20 27 (x5 : Int).toNat r19) fun m22 =>
      q_bd (G_Mo_both (m22 30 (x5 : Int).toNat) m22) fun r26 m27 =>
      p_bi (wm m27 30 (x5 : Int).toNat r26) fun m29 =>
      q_bd (G_Mo_both (m29 31 (x5 : Int).toNat) m29) fun r33 m34 =>
      p_bi (wm m34 31 (x5 : Int).toNat r33) fun m36 =>
      q_bd (G_Mo_both (m36 33 (x5 : Int).toNat) m36) fun r40 m41 =>
      p_bi (wm m41 33 (x5 : Int).toNat r40) fun m43 =>
      if (m43 35 (x5 : Int).toNat) = 0 then
        GB_Mo_goOverParcels_152 k9 v1 x5 0 x5 m43
      else
        GB_Mo_goOverParcels_152 k9 v1 x5 1 x5 m43
def GO_Mo_goOverParcels_9  : Nat → Int → h_M → Option h_M
  | 0 => fun _ _ => none
  | n + 1 => GL_Mo_goOverParcels_9 (GO_Mo_goOverParcels_9 n)
def G_Mo_goOverParcels  (m0 : h_M) : Option h_M :=
  p_bi ((p_w (320 * (m0 100 0)))) fun x2 =>
  GO_Mo_goOverParcels_9 3000 x2 m0
set_option maxRecDepth 100000 in
set_option maxHeartbeats 4000000 in
theorem uB_Mo_goOverParcels_241 (c : h_C) (j9 : Nat → Int → p_Hp → Option p_Hp) (k9 : Int → h_M → Option h_M) (hk9 : ∀ (v1 : Int) (m0 : h_M) (r : h_M), k9 v1 m0 = some r → j9 1125 v1 (h_H c m0) = some (h_H c r)) (v1 : Int) (m0 : h_M) (r : h_M) (h : GB_Mo_goOverParcels_241 k9 v1 m0 = some r) : B_Mo_goOverParcels_241 j9 1125 v1 (h_H c m0) = some (h_H c r) := by
  unfold GB_Mo_goOverParcels_241 at h
  unfold B_Mo_goOverParcels_241
  refine bV h ?_
  intro x1 h
  exact hk9 x1 m0 _ h
set_option maxRecDepth 100000 in
set_option maxHeartbeats 4000000 in
theorem uL_Mo_goOverParcels_208 (c : h_C) (j9 : Nat → Int → p_Hp → Option p_Hp) (k9 : Int → h_M → Option h_M) (hk9 : ∀ (v1 : Int) (m0 : h_M) (r : h_M), k9 v1 m0 = some r → j9 1125 v1 (h_H c m0) = some (h_H c r)) (j208 : Nat → Int → Int → Int → p_Hp → Option p_Hp) (k208 : Int → Int → Int → h_M → Option h_M) (hk208 : ∀ (v1 : Int) (v2 : Int) (v3 : Int) (m0 : h_M) (r : h_M), k208 v1 v2 v3 m0 = some r → j208 1125 v1 v2 v3 (h_H c m0) = some (h_H c r)) (v1 : Int) (v2 : Int) (v3 : Int) (m0 : h_M) (r : h_M) (h : GL_Mo_goOverParcels_208 k9 k208 v1 v2 v3 m0 = some r) : L_Mo_goOverParcels_208 j9 j208 1125 v1 v2 v3 (h_H c m0) = some (h_H c r) := by
  unfold GL_Mo_goOverParcels_208 at h
  unfold L_Mo_goOverParcels_208
  refine iteC Iff.rfl h (fun b1 h => ?_) (fun b1 h => ?_)
  · exact uB_Mo_goOverParcels_241 c j9 k9 hk9 v1 m0 _ h
  · refine gdT (miS c m0) ?_
    try rw [mr34 c m0]
    try rw [mr34 c m0]
    refine gdT (miA c m0 e34) ?_
    obtain ⟨g2, h⟩ := p_gdE h
    refine gdT ⟨g2.1, by rw [mlA c m0 e34]; exact g2.2⟩ ?_
    try rw [mzA c m0 e34 (v3 : Int).toNat]
    obtain ⟨r5, m6, q3, h⟩ := q_bdE h
    refine bdC (u_Mo_both c (m0 34 (v3 : Int).toNat) m0 _ q3) ?_
    refine gdT ⟨g2.1, by rw [mlA c m6 e34]; exact g2.2⟩ ?_
    refine bM (mwA c m6 e34 _ _) h ?_
    intro m8 h
    refine bV h ?_
    intro x10 h
    exact hk208 v1 v2 x10 m8 _ h
set_option maxRecDepth 100000 in
set_option maxHeartbeats 4000000 in
theorem uO_Mo_goOverParcels_208 (c : h_C) (j9 : Nat → Int → p_Hp → Option p_Hp) (k9 : Int → h_M → Option h_M) (hk9 : ∀ (v1 : Int) (m0 : h_M) (r : h_M), k9 v1 m0 = some r → j9 1125 v1 (h_H c m0) = some (h_H c r)) : ∀ (n : Nat) (v1 : Int) (v2 : Int) (v3 : Int) (m0 : h_M) (r : h_M), GO_Mo_goOverParcels_208 k9 n v1 v2 v3 m0 = some r → O_Mo_goOverParcels_208 j9 n 1125 v1 v2 v3 (h_H c m0) = some (h_H c r) := by
  intro n
  induction n with
  | zero => intro v1 v2 v3 m0 r h; cases h
  | succ n ih => intro v1 v2 v3 m0 r h; exact uL_Mo_goOverParcels_208 c j9 k9 hk9 (O_Mo_goOverParcels_208 j9 n) (GO_Mo_goOverParcels_208 k9 n) ih v1 v2 v3 m0 r h
set_option maxRecDepth 100000 in
set_option maxHeartbeats 4000000 in
theorem uL_Mo_goOverParcels_170 (c : h_C) (j9 : Nat → Int → p_Hp → Option p_Hp) (k9 : Int → h_M → Option h_M) (hk9 : ∀ (v1 : Int) (m0 : h_M) (r : h_M), k9 v1 m0 = some r → j9 1125 v1 (h_H c m0) = some (h_H c r)) (j170 : Nat → Int → Int → Int → p_Hp → Option p_Hp) (k170 : Int → Int → Int → h_M → Option h_M) (hk170 : ∀ (v1 : Int) (v2 : Int) (v3 : Int) (m0 : h_M) (r : h_M), k170 v1 v2 v3 m0 = some r → j170 1125 v1 v2 v3 (h_H c m0) = some (h_H c r)) (v1 : Int) (v2 : Int) (v3 : Int) (m0 : h_M) (r : h_M) (h : GL_Mo_goOverParcels_170 k9 k170 v1 v2 v3 m0 = some r) : L_Mo_goOverParcels_170 j9 j170 1125 v1 v2 v3 (h_H c m0) = some (h_H c r) := by
  unfold GL_Mo_goOverParcels_170 at h
  unfold L_Mo_goOverParcels_170
  refine iteC Iff.rfl h (fun b1 h => ?_) (fun b1 h => ?_)
  · refine bV h ?_
    intro x3 h
    exact uO_Mo_goOverParcels_208 c j9 k9 hk9 3000 v1 v2 x3 m0 _ h
  · refine gdT (miS c m0) ?_
    try rw [mr32 c m0]
    try rw [mr32 c m0]
    refine gdT (miA c m0 e32) ?_
    obtain ⟨g4, h⟩ := p_gdE h
    refine gdT ⟨g4.1, by rw [mlA c m0 e32]; exact g4.2⟩ ?_
    try rw [mzA c m0 e32 (v3 : Int).toNat]
    obtain ⟨r7, m8, q5, h⟩ := q_bdE h
    refine bdC (u_Mo_both c (m0 32 (v3 : Int).toNat) m0 _ q5) ?_
    refine gdT ⟨g4.1, by rw [mlA c m8 e32]; exact g4.2⟩ ?_
    refine bM (mwA c m8 e32 _ _) h ?_
    intro m10 h
    refine bV h ?_
    intro x12 h
    exact hk170 v1 v2 x12 m10 _ h
set_option maxRecDepth 100000 in
set_option maxHeartbeats 4000000 in
theorem uO_Mo_goOverParcels_170 (c : h_C) (j9 : Nat → Int → p_Hp → Option p_Hp) (k9 : Int → h_M → Option h_M) (hk9 : ∀ (v1 : Int) (m0 : h_M) (r : h_M), k9 v1 m0 = some r → j9 1125 v1 (h_H c m0) = some (h_H c r)) : ∀ (n : Nat) (v1 : Int) (v2 : Int) (v3 : Int) (m0 : h_M) (r : h_M), GO_Mo_goOverParcels_170 k9 n v1 v2 v3 m0 = some r → O_Mo_goOverParcels_170 j9 n 1125 v1 v2 v3 (h_H c m0) = some (h_H c r) := by
  intro n
  induction n with
  | zero => intro v1 v2 v3 m0 r h; cases h
  | succ n ih => intro v1 v2 v3 m0 r h; exact uL_Mo_goOverParcels_170 c j9 k9 hk9 (O_Mo_goOverParcels_170 j9 n) (GO_Mo_goOverParcels_170 k9 n) ih v1 v2 v3 m0 r h
set_option maxRecDepth 100000 in
set_option maxHeartbeats 4000000 in
theorem uB_Mo_goOverParcels_164 (c : h_C) (j9 : Nat → Int → p_Hp → Option p_Hp) (k9 : Int → h_M → Option h_M) (hk9 : ∀ (v1 : Int) (m0 : h_M) (r : h_M), k9 v1 m0 = some r → j9 1125 v1 (h_H c m0) = some (h_H c r)) (v1 : Int) (v2 : Int) (w0 : Int) (w1 : Int) (m0 : h_M) (r : h_M) (h : GB_Mo_goOverParcels_164 k9 v1 v2 w0 w1 m0 = some r) : B_Mo_goOverParcels_164 j9 1125 v1 v2 w0 w1 1157 (h_H c m0) = some (h_H c r) := by
  unfold GB_Mo_goOverParcels_164 at h
  unfold B_Mo_goOverParcels_164
  refine gdT (miA c m0 e35) ?_
  obtain ⟨g1, h⟩ := p_gdE h
  refine gdT ⟨g1.1, by rw [mlA c m0 e35]; exact g1.2⟩ ?_
  obtain ⟨g2, h⟩ := p_gdE h
  refine gdT g2 ?_
  refine bM (mwA c m0 e35 _ _) h ?_
  intro m3 h
  refine bV h ?_
  intro x6 h
  exact uO_Mo_goOverParcels_170 c j9 k9 hk9 3000 v1 v2 x6 m3 _ h
set_option maxRecDepth 100000 in
set_option maxHeartbeats 4000000 in
theorem uB_Mo_goOverParcels_152 (c : h_C) (j9 : Nat → Int → p_Hp → Option p_Hp) (k9 : Int → h_M → Option h_M) (hk9 : ∀ (v1 : Int) (m0 : h_M) (r : h_M), k9 v1 m0 = some r → j9 1125 v1 (h_H c m0) = some (h_H c r)) (v1 : Int) (v2 : Int) (w0 : Int) (w2 : Int) (m0 : h_M) (r : h_M) (h : GB_Mo_goOverParcels_152 k9 v1 v2 w0 w2 m0 = some r) : B_Mo_goOverParcels_152 j9 1125 v1 v2 w0 1125 w2 1157 (h_H c m0) = some (h_H c r) := by
  unfold GB_Mo_goOverParcels_152 at h
  unfold B_Mo_goOverParcels_152
  refine gdT (miS c m0) ?_
  obtain ⟨r3, m4, q1, h⟩ := q_bdE h
  refine bdC (u_Mo_both c w0 m0 _ q1) ?_
  refine iteC Iff.rfl h (fun b6 h => ?_) (fun b6 h => ?_)
  · exact uB_Mo_goOverParcels_164 c j9 k9 hk9 v1 v2 0 w2 m4 _ h
  · exact uB_Mo_goOverParcels_164 c j9 k9 hk9 v1 v2 1 w2 m4 _ h
set_option maxRecDepth 100000 in
set_option maxHeartbeats 4000000 in
theorem uL_Mo_goOverParcels_9 (c : h_C) (j9 : Nat → Int → p_Hp → Option p_Hp) (k9 : Int → h_M → Option h_M) (hk9 : ∀ (v1 : Int) (m0 : h_M) (r : h_M), k9 v1 m0 = some r → j9 1125 v1 (h_H c m0) = some (h_H c r)) (v1 : Int) (m0 : h_M) (r : h_M) (h : GL_Mo_goOverParcels_9 k9 v1 m0 = some r) : L_Mo_goOverParcels_9 j9 1125 v1 (h_H c m0) = some (h_H c r) := by
  unfold GL_Mo_goOverParcels_9 at h
  unfold L_Mo_goOverParcels_9
  refine gdT (miS c m0) ?_
  try rw [zs0 c m0]
  try rw [mr3 c m0]
  try rw [zs0 c m0]
  refine gdT (miA c m0 e3) ?_
  obtain ⟨g1, h⟩ := p_gdE h
  refine gdT ⟨g1.1, by rw [mlA c m0 e3]; exact g1.2⟩ ?_
  try rw [mzA c m0 e3 ((m0 100 0) : Int).toNat]
  refine iteC Iff.rfl h (fun b2 h => ?_) (fun b2 h => ?_)
  · cases h
    rfl
  · try rw [mr22 c m0]
    refine gdT (miA c m0 e22) ?_
    obtain ⟨g3, h⟩ := p_gdE h
    refine gdT ⟨g3.1, by rw [mlA c m0 e22]; exact g3.2⟩ ?_
    try rw [mzA c m0 e22 (v1 : Int).toNat]
    refine bV h ?_
    intro x5 h
    refine iteC Iff.rfl h (fun b6 h => ?_) (fun b6 h => ?_)
    · exact uB_Mo_goOverParcels_241 c j9 k9 hk9 v1 m0 _ h
    · try rw [mr25 c m0]
      refine gdT (miA c m0 e25) ?_
      obtain ⟨g7, h⟩ := p_gdE h
      refine gdT ⟨g7.1, by rw [mlA c m0 e25]; exact g7.2⟩ ?_
      refine bM (mwA c m0 e25 _ _) h ?_
      intro m8 h
      try rw [mr26 c m8]
      try rw [mr26 c m8]
      refine gdT (miA c m8 e26) ?_
      refine gdT ⟨g7.1, by rw [mlA c m8 e26]; exact g7.2⟩ ?_
      try rw [mzA c m8 e26 (x5 : Int).toNat]
      obtain ⟨r12, m13, q10, h⟩ := q_bdE h
      refine bdC (u_Mo_both c (m8 26 (x5 : Int).toNat) m8 _ q10) ?_
      refine gdT ⟨g7.1, by rw [mlA c m13 e26]; exact g7.2⟩ ?_
      refine bM (mwA c m13 e26 _ _) h ?_
      intro m15 h
      try rw [mr27 c m15]
      try rw [mr27 c m15]
      refine gdT (miA c m15 e27) ?_
      refine gdT ⟨g7.1, by rw [mlA c m15 e27]; exact g7.2⟩ ?_
      try rw [mzA c m15 e27 (x5 : Int).toNat]
      obtain ⟨r19, m20, q17, h⟩ := q_bdE h
      refine bdC (u_Mo_both c (m15 27 (x5 : Int).toNat) m15 _ q17) ?_
      refine gdT ⟨g7.1, by rw [mlA c m20 e27]; exact g7.2⟩ ?_
      refine bM (mwA c m20 e27 _ _) h ?_
      intro m22 h
      try rw [mr30 c m22]
      try rw [mr30 c m22]
      refine gdT (miA c m22 e30) ?_
      refine gdT ⟨g7.1, by rw [mlA c m22 e30]; exact g7.2⟩ ?_
      try rw [mzA c m22 e30 (x5 : Int).toNat]
      obtain ⟨r26, m27, q24, h⟩ := q_bdE h
      refine bdC (u_Mo_both c (m22 30 (x5 : Int).toNat) m22 _ q24) ?_
      refine gdT ⟨g7.1, by rw [mlA c m27 e30]; exact g7.2⟩ ?_
      refine bM (mwA c m27 e30 _ _) h ?_
      intro m29 h
      try rw [mr31 c m29]
      try rw [mr31 c m29]
      refine gdT (miA c m29 e31) ?_
      refine gdT ⟨g7.1, by rw [mlA c m29 e31]; exact g7.2⟩ ?_
      try rw [mzA c m29 e31 (x5 : Int).toNat]
      obtain ⟨r33, m34, q31, h⟩ := q_bdE h
      refine bdC (u_Mo_both c (m29 31 (x5 : Int).toNat) m29 _ q31) ?_
      refine gdT ⟨g7.1, by rw [mlA c m34 e31]; exact g7.2⟩ ?_
      refine bM (mwA c m34 e31 _ _) h ?_
      intro m36 h
      try rw [mr33 c m36]
      try rw [mr33 c m36]
      refine gdT (miA c m36 e33) ?_
      refine gdT ⟨g7.1, by rw [mlA c m36 e33]; exact g7.2⟩ ?_
      try rw [mzA c m36 e33 (x5 : Int).toNat]
      obtain ⟨r40, m41, q38, h⟩ := q_bdE h
      refine bdC (u_Mo_both c (m36 33 (x5 : Int).toNat) m36 _ q38) ?_
      refine gdT ⟨g7.1, by rw [mlA c m41 e33]; exact g7.2⟩ ?_
      refine bM (mwA c m41 e33 _ _) h ?_
      intro m43 h
      try rw [mr35 c m43]
      try rw [mr35 c m43]
      refine gdT (miA c m43 e35) ?_
      refine gdT ⟨g7.1, by rw [mlA c m43 e35]; exact g7.2⟩ ?_
      try rw [mzA c m43 e35 (x5 : Int).toNat]
      refine iteC Iff.rfl h (fun b45 h => ?_) (fun b45 h => ?_)
      · exact uB_Mo_goOverParcels_152 c j9 k9 hk9 v1 x5 0 x5 m43 _ h
      · exact uB_Mo_goOverParcels_152 c j9 k9 hk9 v1 x5 1 x5 m43 _ h
set_option maxRecDepth 100000 in
set_option maxHeartbeats 4000000 in
theorem uO_Mo_goOverParcels_9 (c : h_C)  : ∀ (n : Nat) (v1 : Int) (m0 : h_M) (r : h_M), GO_Mo_goOverParcels_9 n v1 m0 = some r → O_Mo_goOverParcels_9 n 1125 v1 (h_H c m0) = some (h_H c r) := by
  intro n
  induction n with
  | zero => intro v1 m0 r h; cases h
  | succ n ih => intro v1 m0 r h; exact uL_Mo_goOverParcels_9 c (O_Mo_goOverParcels_9 n) (GO_Mo_goOverParcels_9 n) ih v1 m0 r h
set_option maxRecDepth 100000 in
set_option maxHeartbeats 4000000 in
theorem u_Mo_goOverParcels (c : h_C)  (m0 : h_M) (r : h_M) (h : G_Mo_goOverParcels  m0 = some r) : F_Mo_goOverParcels 1125 (h_H c m0) = some (h_H c r) := by
  unfold G_Mo_goOverParcels at h
  unfold F_Mo_goOverParcels
  refine gdT (miS c m0) ?_
  try rw [zs0 c m0]
  refine bV h ?_
  intro x2 h
  exact uO_Mo_goOverParcels_9 c 3000 x2 m0 _ h
def GB_Mo_goOver_363 (k320 : Int → Int → h_M → Option h_M) (v2 : Int) (v3 : Int) (m0 : h_M) : Option h_M :=
  p_bi (p_w (v3 + 1)) fun x1 =>
  k320 v2 x1 m0
def GB_Mo_goOver_356 (k320 : Int → Int → h_M → Option h_M) (v2 : Int) (v3 : Int) (m0 : h_M) : Option h_M :=
  p_gd ((0 : Int) ≤ v3 ∧ v3 < (2001 : Int)) <|
  p_bi (wm m0 25 (v3 : Int).toNat 0) fun m2 =>
  GB_Mo_goOver_363 k320 v2 v3 m2
def GB_Mo_goOver_369   (m0 : h_M) : Option h_M :=
  q_bv (G_Mo_goOverParcels m0) fun m3 =>
  some m3
def GL_Mo_goOver_320 (k320 : Int → Int → h_M → Option h_M) (v2 : Int) (v3 : Int) (m0 : h_M) : Option h_M :=
  if (m0 123 0) < v3 then
    GB_Mo_goOver_369 m0
  else
    p_gd ((0 : Int) ≤ v3 ∧ v3 < (2001 : Int)) <|
    if (m0 24 (v3 : Int).toNat) ≠ (m0 100 0) then
      GB_Mo_goOver_363 k320 v2 v3 m0
    else
      if v2 < v3 then
        GB_Mo_goOver_356 k320 v2 v3 m0
      else
        if (m0 25 (v3 : Int).toNat) ≠ 1 then
          GB_Mo_goOver_363 k320 v2 v3 m0
        else
          GB_Mo_goOver_356 k320 v2 v3 m0
def GO_Mo_goOver_320  : Nat → Int → Int → h_M → Option h_M
  | 0 => fun _ _ _ => none
  | n + 1 => GL_Mo_goOver_320 (GO_Mo_goOver_320 n)
def GL_Mo_goOver_275 (k275 : Int → Int → h_M → Option h_M) (v2 : Int) (v3 : Int) (m0 : h_M) : Option h_M :=
  if (p_w ((p_w (12 * (m0 100 0))) + 12)) ≤ v3 then
    if (m0 185 0) ≠ 0 then
      GB_Mo_goOver_369 m0
    else
      GO_Mo_goOver_320 3000 v2 1 m0
  else
    p_gd ((0 : Int) ≤ v3 ∧ v3 < (36 : Int)) <|
    q_bd (G_Mo_both (m0 51 (v3 : Int).toNat) m0) fun r6 m7 =>
    p_bi (wm m7 51 (v3 : Int).toNat r6) fun m9 =>
    p_bi (p_w (v3 + 1)) fun x11 =>
    k275 v2 x11 m9
def GO_Mo_goOver_275  : Nat → Int → Int → h_M → Option h_M
  | 0 => fun _ _ _ => none
  | n + 1 => GL_Mo_goOver_275 (GO_Mo_goOver_275 n)
def GL_Mo_goOver_229 (k229 : Int → Int → h_M → Option h_M) (v2 : Int) (v3 : Int) (m0 : h_M) : Option h_M :=
  if (p_w ((p_w (200 * (m0 100 0))) + 200)) ≤ v3 then
    p_bi ((p_w (12 * (m0 100 0)))) fun x3 =>
    GO_Mo_goOver_275 3000 v2 x3 m0
  else
    p_gd ((0 : Int) ≤ v3 ∧ v3 < (600 : Int)) <|
    q_bd (G_Mo_both (m0 43 (v3 : Int).toNat) m0) fun r7 m8 =>
    p_bi (wm m8 43 (v3 : Int).toNat r7) fun m10 =>
    p_bi (p_w (v3 + 1)) fun x12 =>
    k229 v2 x12 m10
def GO_Mo_goOver_229  : Nat → Int → Int → h_M → Option h_M
  | 0 => fun _ _ _ => none
  | n + 1 => GL_Mo_goOver_229 (GO_Mo_goOver_229 n)
def GL_Mo_goOver_184 (k184 : Int → Int → h_M → Option h_M) (v2 : Int) (v3 : Int) (m0 : h_M) : Option h_M :=
  if (p_w ((p_w (120 * (m0 100 0))) + 120)) ≤ v3 then
    p_bi ((p_w (200 * (m0 100 0)))) fun x3 =>
    GO_Mo_goOver_229 3000 v2 x3 m0
  else
    p_gd ((0 : Int) ≤ v3 ∧ v3 < (360 : Int)) <|
    q_bd (G_Mo_both (m0 41 (v3 : Int).toNat) m0) fun r7 m8 =>
    p_bi (wm m8 41 (v3 : Int).toNat r7) fun m10 =>
    p_bi (p_w (v3 + 1)) fun x12 =>
    k184 v2 x12 m10
def GO_Mo_goOver_184  : Nat → Int → Int → h_M → Option h_M
  | 0 => fun _ _ _ => none
  | n + 1 => GL_Mo_goOver_184 (GO_Mo_goOver_184 n)
def GL_Mo_goOver_144 (k144 : Int → Int → h_M → Option h_M) (v2 : Int) (v3 : Int) (m0 : h_M) : Option h_M :=
  p_gd ((0 : Int) ≤ (m0 100 0) ∧ (m0 100 0) < (3 : Int)) <|
  if (p_w ((p_w (40 * (m0 100 0))) + (m0 3 ((m0 100 0) : Int).toNat))) ≤ v3 then
    p_bi ((p_w (120 * (m0 100 0)))) fun x4 =>
    GO_Mo_goOver_184 3000 v2 x4 m0
  else
    q_bv (G_Mo_goOverGear v3 m0) fun m7 =>
    p_bi (p_w (v3 + 1)) fun x8 =>
    k144 v2 x8 m7
def GO_Mo_goOver_144  : Nat → Int → Int → h_M → Option h_M
  | 0 => fun _ _ _ => none
  | n + 1 => GL_Mo_goOver_144 (GO_Mo_goOver_144 n)
def G_Mo_goOver (v1 : Int) (m0 : h_M) : Option h_M :=
  p_bi (wm m0 184 0 (p_w (2600 * (p_w ((p_w (30 * (m0 100 0))) + v1))))) fun m1 =>
  p_gd ((0 : Int) ≤ (m1 100 0) ∧ (m1 100 0) < (3 : Int)) <|
  q_bd (G_Mo_both (m1 4 ((m1 100 0) : Int).toNat) m1) fun r6 m7 =>
  p_bi (wm m7 4 ((m1 100 0) : Int).toNat r6) fun m9 =>
  p_gd ((0 : Int) ≤ (m9 100 0) ∧ (m9 100 0) < (3 : Int)) <|
  q_bd (G_Mo_both (m9 38 ((m9 100 0) : Int).toNat) m9) fun r14 m15 =>
  p_bi (wm m15 38 ((m9 100 0) : Int).toNat r14) fun m17 =>
  p_gd ((0 : Int) ≤ (m17 100 0) ∧ (m17 100 0) < (3 : Int)) <|
  q_bd (G_Mo_both (m17 39 ((m17 100 0) : Int).toNat) m17) fun r22 m23 =>
  p_bi (wm m23 39 ((m17 100 0) : Int).toNat r22) fun m25 =>
  p_gd ((0 : Int) ≤ (m25 100 0) ∧ (m25 100 0) < (3 : Int)) <|
  q_bd (G_Mo_both (m25 40 ((m25 100 0) : Int).toNat) m25) fun r30 m31 =>
  p_bi (wm m31 40 ((m25 100 0) : Int).toNat r30) fun m33 =>
  p_gd ((0 : Int) ≤ (m33 100 0) ∧ (m33 100 0) < (3 : Int)) <|
  q_bd (G_Mo_both (m33 42 ((m33 100 0) : Int).toNat) m33) fun r38 m39 =>
  p_bi (wm m39 42 ((m33 100 0) : Int).toNat r38) fun m41 =>
  q_bd (G_Mo_both (m41 123 0) m41) fun r45 m46 =>
  p_bi ((p_w (40 * (m46 100 0)))) fun x49 =>
  GO_Mo_goOver_144 3000 r45 x49 m46
set_option maxRecDepth 100000 in
set_option maxHeartbeats 4000000 in
theorem uB_Mo_goOver_363 (c : h_C) (j320 : Nat → Int → Int → p_Hp → Option p_Hp) (k320 : Int → Int → h_M → Option h_M) (hk320 : ∀ (v2 : Int) (v3 : Int) (m0 : h_M) (r : h_M), k320 v2 v3 m0 = some r → j320 1125 v2 v3 (h_H c m0) = some (h_H c r)) (v2 : Int) (v3 : Int) (m0 : h_M) (r : h_M) (h : GB_Mo_goOver_363 k320 v2 v3 m0 = some r) : B_Mo_goOver_363 j320 1125 v2 v3 (h_H c m0) = some (h_H c r) := by
  unfold GB_Mo_goOver_363 at h
  unfold B_Mo_goOver_363
  refine bV h ?_
  intro x1 h
  exact hk320 v2 x1 m0 _ h
set_option maxRecDepth 100000 in
set_option maxHeartbeats 4000000 in
theorem uB_Mo_goOver_356 (c : h_C) (j320 : Nat → Int → Int → p_Hp → Option p_Hp) (k320 : Int → Int → h_M → Option h_M) (hk320 : ∀ (v2 : Int) (v3 : Int) (m0 : h_M) (r : h_M), k320 v2 v3 m0 = some r → j320 1125 v2 v3 (h_H c m0) = some (h_H c r)) (v2 : Int) (v3 : Int) (m0 : h_M) (r : h_M) (h : GB_Mo_goOver_356 k320 v2 v3 m0 = some r) : B_Mo_goOver_356 j320 1125 v2 v3 (h_H c m0) = some (h_H c r) := by
  unfold GB_Mo_goOver_356 at h
  unfold B_Mo_goOver_356
  refine gdT (miS c m0) ?_
  try rw [mr25 c m0]
  refine gdT (miA c m0 e25) ?_
  obtain ⟨g1, h⟩ := p_gdE h
  refine gdT ⟨g1.1, by rw [mlA c m0 e25]; exact g1.2⟩ ?_
  refine bM (mwA c m0 e25 _ _) h ?_
  intro m2 h
  exact uB_Mo_goOver_363 c j320 k320 hk320 v2 v3 m2 _ h
set_option maxRecDepth 100000 in
set_option maxHeartbeats 4000000 in
theorem uB_Mo_goOver_369 (c : h_C)   (m0 : h_M) (r : h_M) (h : GB_Mo_goOver_369  m0 = some r) : B_Mo_goOver_369 1125 (h_H c m0) = some (h_H c r) := by
  unfold GB_Mo_goOver_369 at h
  unfold B_Mo_goOver_369
  refine gdT (miS c m0) ?_
  obtain ⟨m3, q1, h⟩ := q_bvE h
  refine bvC (u_Mo_goOverParcels c m0 _ q1) ?_
  cases h
  rfl
set_option maxRecDepth 100000 in
set_option maxHeartbeats 4000000 in
theorem uL_Mo_goOver_320 (c : h_C) (j320 : Nat → Int → Int → p_Hp → Option p_Hp) (k320 : Int → Int → h_M → Option h_M) (hk320 : ∀ (v2 : Int) (v3 : Int) (m0 : h_M) (r : h_M), k320 v2 v3 m0 = some r → j320 1125 v2 v3 (h_H c m0) = some (h_H c r)) (v2 : Int) (v3 : Int) (m0 : h_M) (r : h_M) (h : GL_Mo_goOver_320 k320 v2 v3 m0 = some r) : L_Mo_goOver_320 j320 1125 v2 v3 (h_H c m0) = some (h_H c r) := by
  unfold GL_Mo_goOver_320 at h
  unfold L_Mo_goOver_320
  refine gdT (miS c m0) ?_
  try rw [zs23 c m0]
  refine iteC Iff.rfl h (fun b1 h => ?_) (fun b1 h => ?_)
  · exact uB_Mo_goOver_369 c m0 _ h
  · try rw [mr24 c m0]
    refine gdT (miA c m0 e24) ?_
    obtain ⟨g2, h⟩ := p_gdE h
    refine gdT ⟨g2.1, by rw [mlA c m0 e24]; exact g2.2⟩ ?_
    try rw [mzA c m0 e24 (v3 : Int).toNat]
    try rw [zs0 c m0]
    refine iteC Iff.rfl h (fun b3 h => ?_) (fun b3 h => ?_)
    · exact uB_Mo_goOver_363 c j320 k320 hk320 v2 v3 m0 _ h
    · refine iteC Iff.rfl h (fun b4 h => ?_) (fun b4 h => ?_)
      · exact uB_Mo_goOver_356 c j320 k320 hk320 v2 v3 m0 _ h
      · try rw [mr25 c m0]
        refine gdT (miA c m0 e25) ?_
        refine gdT ⟨g2.1, by rw [mlA c m0 e25]; exact g2.2⟩ ?_
        try rw [mzA c m0 e25 (v3 : Int).toNat]
        refine iteC Iff.rfl h (fun b5 h => ?_) (fun b5 h => ?_)
        · exact uB_Mo_goOver_363 c j320 k320 hk320 v2 v3 m0 _ h
        · exact uB_Mo_goOver_356 c j320 k320 hk320 v2 v3 m0 _ h
set_option maxRecDepth 100000 in
set_option maxHeartbeats 4000000 in
theorem uO_Mo_goOver_320 (c : h_C)  : ∀ (n : Nat) (v2 : Int) (v3 : Int) (m0 : h_M) (r : h_M), GO_Mo_goOver_320 n v2 v3 m0 = some r → O_Mo_goOver_320 n 1125 v2 v3 (h_H c m0) = some (h_H c r) := by
  intro n
  induction n with
  | zero => intro v2 v3 m0 r h; cases h
  | succ n ih => intro v2 v3 m0 r h; exact uL_Mo_goOver_320 c (O_Mo_goOver_320 n) (GO_Mo_goOver_320 n) ih v2 v3 m0 r h
set_option maxRecDepth 100000 in
set_option maxHeartbeats 4000000 in
theorem uL_Mo_goOver_275 (c : h_C) (j275 : Nat → Int → Int → p_Hp → Option p_Hp) (k275 : Int → Int → h_M → Option h_M) (hk275 : ∀ (v2 : Int) (v3 : Int) (m0 : h_M) (r : h_M), k275 v2 v3 m0 = some r → j275 1125 v2 v3 (h_H c m0) = some (h_H c r)) (v2 : Int) (v3 : Int) (m0 : h_M) (r : h_M) (h : GL_Mo_goOver_275 k275 v2 v3 m0 = some r) : L_Mo_goOver_275 j275 1125 v2 v3 (h_H c m0) = some (h_H c r) := by
  unfold GL_Mo_goOver_275 at h
  unfold L_Mo_goOver_275
  refine gdT (miS c m0) ?_
  try rw [zs0 c m0]
  refine iteC Iff.rfl h (fun b1 h => ?_) (fun b1 h => ?_)
  · try rw [zs85 c m0]
    refine iteC Iff.rfl h (fun b2 h => ?_) (fun b2 h => ?_)
    · exact uB_Mo_goOver_369 c m0 _ h
    · exact uO_Mo_goOver_320 c 3000 v2 1 m0 _ h
  · try rw [mr51 c m0]
    try rw [mr51 c m0]
    refine gdT (miA c m0 e51) ?_
    obtain ⟨g3, h⟩ := p_gdE h
    refine gdT ⟨g3.1, by rw [mlA c m0 e51]; exact g3.2⟩ ?_
    try rw [mzA c m0 e51 (v3 : Int).toNat]
    obtain ⟨r6, m7, q4, h⟩ := q_bdE h
    refine bdC (u_Mo_both c (m0 51 (v3 : Int).toNat) m0 _ q4) ?_
    refine gdT ⟨g3.1, by rw [mlA c m7 e51]; exact g3.2⟩ ?_
    refine bM (mwA c m7 e51 _ _) h ?_
    intro m9 h
    refine bV h ?_
    intro x11 h
    exact hk275 v2 x11 m9 _ h
set_option maxRecDepth 100000 in
set_option maxHeartbeats 4000000 in
theorem uO_Mo_goOver_275 (c : h_C)  : ∀ (n : Nat) (v2 : Int) (v3 : Int) (m0 : h_M) (r : h_M), GO_Mo_goOver_275 n v2 v3 m0 = some r → O_Mo_goOver_275 n 1125 v2 v3 (h_H c m0) = some (h_H c r) := by
  intro n
  induction n with
  | zero => intro v2 v3 m0 r h; cases h
  | succ n ih => intro v2 v3 m0 r h; exact uL_Mo_goOver_275 c (O_Mo_goOver_275 n) (GO_Mo_goOver_275 n) ih v2 v3 m0 r h
set_option maxRecDepth 100000 in
set_option maxHeartbeats 4000000 in
theorem uL_Mo_goOver_229 (c : h_C) (j229 : Nat → Int → Int → p_Hp → Option p_Hp) (k229 : Int → Int → h_M → Option h_M) (hk229 : ∀ (v2 : Int) (v3 : Int) (m0 : h_M) (r : h_M), k229 v2 v3 m0 = some r → j229 1125 v2 v3 (h_H c m0) = some (h_H c r)) (v2 : Int) (v3 : Int) (m0 : h_M) (r : h_M) (h : GL_Mo_goOver_229 k229 v2 v3 m0 = some r) : L_Mo_goOver_229 j229 1125 v2 v3 (h_H c m0) = some (h_H c r) := by
  unfold GL_Mo_goOver_229 at h
  unfold L_Mo_goOver_229
  refine gdT (miS c m0) ?_
  try rw [zs0 c m0]
  refine iteC Iff.rfl h (fun b1 h => ?_) (fun b1 h => ?_)
  · try rw [zs0 c m0]
    refine bV h ?_
    intro x3 h
    exact uO_Mo_goOver_275 c 3000 v2 x3 m0 _ h
  · try rw [mr43 c m0]
    try rw [mr43 c m0]
    refine gdT (miA c m0 e43) ?_
    obtain ⟨g4, h⟩ := p_gdE h
    refine gdT ⟨g4.1, by rw [mlA c m0 e43]; exact g4.2⟩ ?_
    try rw [mzA c m0 e43 (v3 : Int).toNat]
    obtain ⟨r7, m8, q5, h⟩ := q_bdE h
    refine bdC (u_Mo_both c (m0 43 (v3 : Int).toNat) m0 _ q5) ?_
    refine gdT ⟨g4.1, by rw [mlA c m8 e43]; exact g4.2⟩ ?_
    refine bM (mwA c m8 e43 _ _) h ?_
    intro m10 h
    refine bV h ?_
    intro x12 h
    exact hk229 v2 x12 m10 _ h
set_option maxRecDepth 100000 in
set_option maxHeartbeats 4000000 in
theorem uO_Mo_goOver_229 (c : h_C)  : ∀ (n : Nat) (v2 : Int) (v3 : Int) (m0 : h_M) (r : h_M), GO_Mo_goOver_229 n v2 v3 m0 = some r → O_Mo_goOver_229 n 1125 v2 v3 (h_H c m0) = some (h_H c r) := by
  intro n
  induction n with
  | zero => intro v2 v3 m0 r h; cases h
  | succ n ih => intro v2 v3 m0 r h; exact uL_Mo_goOver_229 c (O_Mo_goOver_229 n) (GO_Mo_goOver_229 n) ih v2 v3 m0 r h
set_option maxRecDepth 100000 in
set_option maxHeartbeats 4000000 in
theorem uL_Mo_goOver_184 (c : h_C) (j184 : Nat → Int → Int → p_Hp → Option p_Hp) (k184 : Int → Int → h_M → Option h_M) (hk184 : ∀ (v2 : Int) (v3 : Int) (m0 : h_M) (r : h_M), k184 v2 v3 m0 = some r → j184 1125 v2 v3 (h_H c m0) = some (h_H c r)) (v2 : Int) (v3 : Int) (m0 : h_M) (r : h_M) (h : GL_Mo_goOver_184 k184 v2 v3 m0 = some r) : L_Mo_goOver_184 j184 1125 v2 v3 (h_H c m0) = some (h_H c r) := by
  unfold GL_Mo_goOver_184 at h
  unfold L_Mo_goOver_184
  refine gdT (miS c m0) ?_
  try rw [zs0 c m0]
  refine iteC Iff.rfl h (fun b1 h => ?_) (fun b1 h => ?_)
  · try rw [zs0 c m0]
    refine bV h ?_
    intro x3 h
    exact uO_Mo_goOver_229 c 3000 v2 x3 m0 _ h
  · try rw [mr41 c m0]
    try rw [mr41 c m0]
    refine gdT (miA c m0 e41) ?_
    obtain ⟨g4, h⟩ := p_gdE h
    refine gdT ⟨g4.1, by rw [mlA c m0 e41]; exact g4.2⟩ ?_
    try rw [mzA c m0 e41 (v3 : Int).toNat]
    obtain ⟨r7, m8, q5, h⟩ := q_bdE h
    refine bdC (u_Mo_both c (m0 41 (v3 : Int).toNat) m0 _ q5) ?_
    refine gdT ⟨g4.1, by rw [mlA c m8 e41]; exact g4.2⟩ ?_
    refine bM (mwA c m8 e41 _ _) h ?_
    intro m10 h
    refine bV h ?_
    intro x12 h
    exact hk184 v2 x12 m10 _ h
set_option maxRecDepth 100000 in
set_option maxHeartbeats 4000000 in
theorem uO_Mo_goOver_184 (c : h_C)  : ∀ (n : Nat) (v2 : Int) (v3 : Int) (m0 : h_M) (r : h_M), GO_Mo_goOver_184 n v2 v3 m0 = some r → O_Mo_goOver_184 n 1125 v2 v3 (h_H c m0) = some (h_H c r) := by
  intro n
  induction n with
  | zero => intro v2 v3 m0 r h; cases h
  | succ n ih => intro v2 v3 m0 r h; exact uL_Mo_goOver_184 c (O_Mo_goOver_184 n) (GO_Mo_goOver_184 n) ih v2 v3 m0 r h
set_option maxRecDepth 100000 in
set_option maxHeartbeats 4000000 in
theorem uL_Mo_goOver_144 (c : h_C) (j144 : Nat → Int → Int → p_Hp → Option p_Hp) (k144 : Int → Int → h_M → Option h_M) (hk144 : ∀ (v2 : Int) (v3 : Int) (m0 : h_M) (r : h_M), k144 v2 v3 m0 = some r → j144 1125 v2 v3 (h_H c m0) = some (h_H c r)) (v2 : Int) (v3 : Int) (m0 : h_M) (r : h_M) (h : GL_Mo_goOver_144 k144 v2 v3 m0 = some r) : L_Mo_goOver_144 j144 1125 v2 v3 (h_H c m0) = some (h_H c r) := by
  unfold GL_Mo_goOver_144 at h
  unfold L_Mo_goOver_144
  refine gdT (miS c m0) ?_
  try rw [zs0 c m0]
  try rw [mr3 c m0]
  try rw [zs0 c m0]
  refine gdT (miA c m0 e3) ?_
  obtain ⟨g1, h⟩ := p_gdE h
  refine gdT ⟨g1.1, by rw [mlA c m0 e3]; exact g1.2⟩ ?_
  try rw [mzA c m0 e3 ((m0 100 0) : Int).toNat]
  refine iteC Iff.rfl h (fun b2 h => ?_) (fun b2 h => ?_)
  · try rw [zs0 c m0]
    refine bV h ?_
    intro x4 h
    exact uO_Mo_goOver_184 c 3000 v2 x4 m0 _ h
  · obtain ⟨m7, q5, h⟩ := q_bvE h
    refine bvC (u_Mo_goOverGear c v3 m0 _ q5) ?_
    refine bV h ?_
    intro x8 h
    exact hk144 v2 x8 m7 _ h
set_option maxRecDepth 100000 in
set_option maxHeartbeats 4000000 in
theorem uO_Mo_goOver_144 (c : h_C)  : ∀ (n : Nat) (v2 : Int) (v3 : Int) (m0 : h_M) (r : h_M), GO_Mo_goOver_144 n v2 v3 m0 = some r → O_Mo_goOver_144 n 1125 v2 v3 (h_H c m0) = some (h_H c r) := by
  intro n
  induction n with
  | zero => intro v2 v3 m0 r h; cases h
  | succ n ih => intro v2 v3 m0 r h; exact uL_Mo_goOver_144 c (O_Mo_goOver_144 n) (GO_Mo_goOver_144 n) ih v2 v3 m0 r h
set_option maxRecDepth 100000 in
set_option maxHeartbeats 4000000 in
theorem u_Mo_goOver (c : h_C) (v1 : Int) (m0 : h_M) (r : h_M) (h : G_Mo_goOver v1 m0 = some r) : F_Mo_goOver 1125 v1 (h_H c m0) = some (h_H c r) := by
  unfold G_Mo_goOver at h
  unfold F_Mo_goOver
  refine gdT (miS c m0) ?_
  try rw [zs0 c m0]
  refine bM (ws84 c m0 _) h ?_
  intro m1 h
  try rw [mr4 c m1]
  try rw [zs0 c m1]
  try rw [mr4 c m1]
  try rw [zs0 c m1]
  refine gdT (miA c m1 e4) ?_
  obtain ⟨g3, h⟩ := p_gdE h
  refine gdT ⟨g3.1, by rw [mlA c m1 e4]; exact g3.2⟩ ?_
  try rw [mzA c m1 e4 ((m1 100 0) : Int).toNat]
  obtain ⟨r6, m7, q4, h⟩ := q_bdE h
  refine bdC (u_Mo_both c (m1 4 ((m1 100 0) : Int).toNat) m1 _ q4) ?_
  refine gdT ⟨g3.1, by rw [mlA c m7 e4]; exact g3.2⟩ ?_
  refine bM (mwA c m7 e4 _ _) h ?_
  intro m9 h
  try rw [mr38 c m9]
  try rw [zs0 c m9]
  try rw [mr38 c m9]
  try rw [zs0 c m9]
  refine gdT (miA c m9 e38) ?_
  obtain ⟨g11, h⟩ := p_gdE h
  refine gdT ⟨g11.1, by rw [mlA c m9 e38]; exact g11.2⟩ ?_
  try rw [mzA c m9 e38 ((m9 100 0) : Int).toNat]
  obtain ⟨r14, m15, q12, h⟩ := q_bdE h
  refine bdC (u_Mo_both c (m9 38 ((m9 100 0) : Int).toNat) m9 _ q12) ?_
  refine gdT ⟨g11.1, by rw [mlA c m15 e38]; exact g11.2⟩ ?_
  refine bM (mwA c m15 e38 _ _) h ?_
  intro m17 h
  try rw [mr39 c m17]
  try rw [zs0 c m17]
  try rw [mr39 c m17]
  try rw [zs0 c m17]
  refine gdT (miA c m17 e39) ?_
  obtain ⟨g19, h⟩ := p_gdE h
  refine gdT ⟨g19.1, by rw [mlA c m17 e39]; exact g19.2⟩ ?_
  try rw [mzA c m17 e39 ((m17 100 0) : Int).toNat]
  obtain ⟨r22, m23, q20, h⟩ := q_bdE h
  refine bdC (u_Mo_both c (m17 39 ((m17 100 0) : Int).toNat) m17 _ q20) ?_
  refine gdT ⟨g19.1, by rw [mlA c m23 e39]; exact g19.2⟩ ?_
  refine bM (mwA c m23 e39 _ _) h ?_
  intro m25 h
  try rw [mr40 c m25]
  try rw [zs0 c m25]
  try rw [mr40 c m25]
  try rw [zs0 c m25]
  refine gdT (miA c m25 e40) ?_
  obtain ⟨g27, h⟩ := p_gdE h
  refine gdT ⟨g27.1, by rw [mlA c m25 e40]; exact g27.2⟩ ?_
  try rw [mzA c m25 e40 ((m25 100 0) : Int).toNat]
  obtain ⟨r30, m31, q28, h⟩ := q_bdE h
  refine bdC (u_Mo_both c (m25 40 ((m25 100 0) : Int).toNat) m25 _ q28) ?_
  refine gdT ⟨g27.1, by rw [mlA c m31 e40]; exact g27.2⟩ ?_
  refine bM (mwA c m31 e40 _ _) h ?_
  intro m33 h
  try rw [mr42 c m33]
  try rw [zs0 c m33]
  try rw [mr42 c m33]
  try rw [zs0 c m33]
  refine gdT (miA c m33 e42) ?_
  obtain ⟨g35, h⟩ := p_gdE h
  refine gdT ⟨g35.1, by rw [mlA c m33 e42]; exact g35.2⟩ ?_
  try rw [mzA c m33 e42 ((m33 100 0) : Int).toNat]
  obtain ⟨r38, m39, q36, h⟩ := q_bdE h
  refine bdC (u_Mo_both c (m33 42 ((m33 100 0) : Int).toNat) m33 _ q36) ?_
  refine gdT ⟨g35.1, by rw [mlA c m39 e42]; exact g35.2⟩ ?_
  refine bM (mwA c m39 e42 _ _) h ?_
  intro m41 h
  try rw [zs23 c m41]
  obtain ⟨r45, m46, q43, h⟩ := q_bdE h
  refine bdC (u_Mo_both c (m41 123 0) m41 _ q43) ?_
  try rw [zs0 c m46]
  refine bV h ?_
  intro x49 h
  exact uO_Mo_goOver_144 c 3000 r45 x49 m46 _ h
def GB_Mo_keep_50   (m0 : h_M) : Option h_M :=
  p_bi (wm m0 185 0 1) fun m1 =>
  p_gd ((0 : Int) ≤ (m1 100 0) ∧ (m1 100 0) < (3 : Int)) <|
  q_bv (G_Mo_goOver (p_rem (p_w ((m1 82 ((m1 100 0) : Int).toNat) + (m1 81 ((m1 100 0) : Int).toNat))) 30) m1) fun m6 =>
  p_gd ((0 : Int) ≤ (m6 100 0) ∧ (m6 100 0) < (3 : Int)) <|
  p_bi (wm m6 81 ((m6 100 0) : Int).toNat (p_w ((m6 81 ((m6 100 0) : Int).toNat) + 1))) fun m8 =>
  some m8
def G_Mo_keep  (m0 : h_M) : Option h_M :=
  p_gd ((0 : Int) ≤ (m0 100 0) ∧ (m0 100 0) < (3 : Int)) <|
  if (m0 81 ((m0 100 0) : Int).toNat) ≠ 30 then
    GB_Mo_keep_50 m0
  else
    p_bi (wm m0 82 ((m0 100 0) : Int).toNat (p_rem (p_w ((m0 82 ((m0 100 0) : Int).toNat) + 1)) 30)) fun m3 =>
    p_gd ((0 : Int) ≤ (m3 100 0) ∧ (m3 100 0) < (3 : Int)) <|
    p_bi (wm m3 81 ((m3 100 0) : Int).toNat (p_w ((m3 81 ((m3 100 0) : Int).toNat) - 1))) fun m6 =>
    GB_Mo_keep_50 m6
set_option maxRecDepth 100000 in
set_option maxHeartbeats 4000000 in
theorem uB_Mo_keep_50 (c : h_C)   (m0 : h_M) (r : h_M) (h : GB_Mo_keep_50  m0 = some r) : B_Mo_keep_50 1125 (h_H c m0) = some (h_H c r) := by
  unfold GB_Mo_keep_50 at h
  unfold B_Mo_keep_50
  refine gdT (miS c m0) ?_
  refine bM (ws85 c m0 _) h ?_
  intro m1 h
  try rw [mr82 c m1]
  try rw [zs0 c m1]
  refine gdT (miA c m1 e82) ?_
  obtain ⟨g3, h⟩ := p_gdE h
  refine gdT ⟨g3.1, by rw [mlA c m1 e82]; exact g3.2⟩ ?_
  try rw [mzA c m1 e82 ((m1 100 0) : Int).toNat]
  try rw [mr81 c m1]
  try rw [zs0 c m1]
  refine gdT (miA c m1 e81) ?_
  refine gdT ⟨g3.1, by rw [mlA c m1 e81]; exact g3.2⟩ ?_
  try rw [mzA c m1 e81 ((m1 100 0) : Int).toNat]
  obtain ⟨m6, q4, h⟩ := q_bvE h
  refine bvC (u_Mo_goOver c (p_rem (p_w ((m1 82 ((m1 100 0) : Int).toNat) + (m1 81 ((m1 100 0) : Int).toNat))) 30) m1 _ q4) ?_
  try rw [mr81 c m6]
  try rw [zs0 c m6]
  refine gdT (miA c m6 e81) ?_
  obtain ⟨g7, h⟩ := p_gdE h
  refine gdT ⟨g7.1, by rw [mlA c m6 e81]; exact g7.2⟩ ?_
  try rw [mzA c m6 e81 ((m6 100 0) : Int).toNat]
  refine gdT ⟨g7.1, by rw [mlA c m6 e81]; exact g7.2⟩ ?_
  refine bM (mwA c m6 e81 _ _) h ?_
  intro m8 h
  cases h
  rfl
set_option maxRecDepth 100000 in
set_option maxHeartbeats 4000000 in
theorem u_Mo_keep (c : h_C)  (m0 : h_M) (r : h_M) (h : G_Mo_keep  m0 = some r) : F_Mo_keep 1125 (h_H c m0) = some (h_H c r) := by
  unfold G_Mo_keep at h
  unfold F_Mo_keep
  refine gdT (miS c m0) ?_
  try rw [mr81 c m0]
  try rw [zs0 c m0]
  refine gdT (miA c m0 e81) ?_
  obtain ⟨g1, h⟩ := p_gdE h
  refine gdT ⟨g1.1, by rw [mlA c m0 e81]; exact g1.2⟩ ?_
  try rw [mzA c m0 e81 ((m0 100 0) : Int).toNat]
  refine iteC Iff.rfl h (fun b2 h => ?_) (fun b2 h => ?_)
  · exact uB_Mo_keep_50 c m0 _ h
  · try rw [mr82 c m0]
    try rw [zs0 c m0]
    try rw [mr82 c m0]
    try rw [zs0 c m0]
    refine gdT (miA c m0 e82) ?_
    refine gdT ⟨g1.1, by rw [mlA c m0 e82]; exact g1.2⟩ ?_
    try rw [mzA c m0 e82 ((m0 100 0) : Int).toNat]
    refine gdT ⟨g1.1, by rw [mlA c m0 e82]; exact g1.2⟩ ?_
    refine bM (mwA c m0 e82 _ _) h ?_
    intro m3 h
    try rw [mr81 c m3]
    try rw [zs0 c m3]
    refine gdT (miA c m3 e81) ?_
    obtain ⟨g5, h⟩ := p_gdE h
    refine gdT ⟨g5.1, by rw [mlA c m3 e81]; exact g5.2⟩ ?_
    try rw [mzA c m3 e81 ((m3 100 0) : Int).toNat]
    refine gdT ⟨g5.1, by rw [mlA c m3 e81]; exact g5.2⟩ ?_
    refine bM (mwA c m3 e81 _ _) h ?_
    intro m6 h
    exact uB_Mo_keep_50 c m6 _ h
def GB_Mo_steps_57 (k29 : Int → h_M → Option h_M) (v1 : Int) (m0 : h_M) : Option h_M :=
  p_bi (p_w (v1 + 1)) fun x1 =>
  k29 x1 m0
def GB_Mo_steps_103 (k73 : Int → h_M → Option h_M) (v1 : Int) (m0 : h_M) : Option h_M :=
  p_bi (p_w (v1 + 1)) fun x1 =>
  k73 x1 m0
def GL_Mo_steps_73 (k73 : Int → h_M → Option h_M) (v1 : Int) (m0 : h_M) : Option h_M :=
  p_gd ((0 : Int) ≤ (m0 100 0) ∧ (m0 100 0) < (3 : Int)) <|
  if (m0 3 ((m0 100 0) : Int).toNat) ≤ v1 then
    some m0
  else
    q_bv (G_Mo_g v1 m0) fun r5 =>
    q_bv (G_Mo_isActing r5 m0) fun r9 =>
    if r9 = 0 then
      GB_Mo_steps_103 k73 v1 m0
    else
      q_bv (G_Mo_act v1 m0) fun m14 =>
      GB_Mo_steps_103 k73 v1 m14
def GO_Mo_steps_73  : Nat → Int → h_M → Option h_M
  | 0 => fun _ _ => none
  | n + 1 => GL_Mo_steps_73 (GO_Mo_steps_73 n)
def GL_Mo_steps_29 (k29 : Int → h_M → Option h_M) (v1 : Int) (m0 : h_M) : Option h_M :=
  if (m0 123 0) < v1 then
    q_bv (G_Mo_doPlans m0) fun m4 =>
    q_bv (G_Mo_choose m4) fun m7 =>
    GO_Mo_steps_73 3000 0 m7
  else
    p_gd ((0 : Int) ≤ v1 ∧ v1 < (2001 : Int)) <|
    if (m0 24 (v1 : Int).toNat) ≠ (m0 100 0) then
      GB_Mo_steps_57 k29 v1 m0
    else
      p_bi (wm m0 36 (v1 : Int).toNat 0) fun m10 =>
      GB_Mo_steps_57 k29 v1 m10
def GO_Mo_steps_29  : Nat → Int → h_M → Option h_M
  | 0 => fun _ _ => none
  | n + 1 => GL_Mo_steps_29 (GO_Mo_steps_29 n)
def G_Mo_steps  (m0 : h_M) : Option h_M :=
  q_bv (G_Mo_keep m0) fun m3 =>
  p_gd ((0 : Int) ≤ (m3 100 0) ∧ (m3 100 0) < (3 : Int)) <|
  p_bi (wm m3 4 ((m3 100 0) : Int).toNat (p_w ((m3 4 ((m3 100 0) : Int).toNat) + 1))) fun m5 =>
  p_gd ((0 : Int) ≤ (m5 100 0) ∧ (m5 100 0) < (3 : Int)) <|
  p_bi (wm m5 44 ((m5 100 0) : Int).toNat 0) fun m8 =>
  GO_Mo_steps_29 3000 1 m8
set_option maxRecDepth 100000 in
set_option maxHeartbeats 4000000 in
theorem uB_Mo_steps_57 (c : h_C) (j29 : Nat → Int → p_Hp → Option p_Hp) (k29 : Int → h_M → Option h_M) (hk29 : ∀ (v1 : Int) (m0 : h_M) (r : h_M), k29 v1 m0 = some r → j29 1125 v1 (h_H c m0) = some (h_H c r)) (v1 : Int) (m0 : h_M) (r : h_M) (h : GB_Mo_steps_57 k29 v1 m0 = some r) : B_Mo_steps_57 j29 1125 v1 (h_H c m0) = some (h_H c r) := by
  unfold GB_Mo_steps_57 at h
  unfold B_Mo_steps_57
  refine bV h ?_
  intro x1 h
  exact hk29 x1 m0 _ h
set_option maxRecDepth 100000 in
set_option maxHeartbeats 4000000 in
theorem uB_Mo_steps_103 (c : h_C) (j73 : Nat → Int → p_Hp → Option p_Hp) (k73 : Int → h_M → Option h_M) (hk73 : ∀ (v1 : Int) (m0 : h_M) (r : h_M), k73 v1 m0 = some r → j73 1125 v1 (h_H c m0) = some (h_H c r)) (v1 : Int) (m0 : h_M) (r : h_M) (h : GB_Mo_steps_103 k73 v1 m0 = some r) : B_Mo_steps_103 j73 1125 v1 (h_H c m0) = some (h_H c r) := by
  unfold GB_Mo_steps_103 at h
  unfold B_Mo_steps_103
  refine bV h ?_
  intro x1 h
  exact hk73 x1 m0 _ h
set_option maxRecDepth 100000 in
set_option maxHeartbeats 4000000 in
theorem uL_Mo_steps_73 (c : h_C) (j73 : Nat → Int → p_Hp → Option p_Hp) (k73 : Int → h_M → Option h_M) (hk73 : ∀ (v1 : Int) (m0 : h_M) (r : h_M), k73 v1 m0 = some r → j73 1125 v1 (h_H c m0) = some (h_H c r)) (v1 : Int) (m0 : h_M) (r : h_M) (h : GL_Mo_steps_73 k73 v1 m0 = some r) : L_Mo_steps_73 j73 1125 v1 (h_H c m0) = some (h_H c r) := by
  unfold GL_Mo_steps_73 at h
  unfold L_Mo_steps_73
  refine gdT (miS c m0) ?_
  try rw [mr3 c m0]
  try rw [zs0 c m0]
  refine gdT (miA c m0 e3) ?_
  obtain ⟨g1, h⟩ := p_gdE h
  refine gdT ⟨g1.1, by rw [mlA c m0 e3]; exact g1.2⟩ ?_
  try rw [mzA c m0 e3 ((m0 100 0) : Int).toNat]
  refine iteC Iff.rfl h (fun b2 h => ?_) (fun b2 h => ?_)
  · cases h
    rfl
  · obtain ⟨r5, q3, h⟩ := q_bvE h
    refine bdC (u_Mo_g c v1 m0 _ q3) ?_
    obtain ⟨r9, q7, h⟩ := q_bvE h
    refine bdC (u_Mo_isActing c r5 m0 _ q7) ?_
    refine iteC Iff.rfl h (fun b11 h => ?_) (fun b11 h => ?_)
    · exact uB_Mo_steps_103 c j73 k73 hk73 v1 m0 _ h
    · obtain ⟨m14, q12, h⟩ := q_bvE h
      refine bvC (u_Mo_act c v1 m0 _ q12) ?_
      exact uB_Mo_steps_103 c j73 k73 hk73 v1 m14 _ h
set_option maxRecDepth 100000 in
set_option maxHeartbeats 4000000 in
theorem uO_Mo_steps_73 (c : h_C)  : ∀ (n : Nat) (v1 : Int) (m0 : h_M) (r : h_M), GO_Mo_steps_73 n v1 m0 = some r → O_Mo_steps_73 n 1125 v1 (h_H c m0) = some (h_H c r) := by
  intro n
  induction n with
  | zero => intro v1 m0 r h; cases h
  | succ n ih => intro v1 m0 r h; exact uL_Mo_steps_73 c (O_Mo_steps_73 n) (GO_Mo_steps_73 n) ih v1 m0 r h
set_option maxRecDepth 100000 in
set_option maxHeartbeats 4000000 in
theorem uL_Mo_steps_29 (c : h_C) (j29 : Nat → Int → p_Hp → Option p_Hp) (k29 : Int → h_M → Option h_M) (hk29 : ∀ (v1 : Int) (m0 : h_M) (r : h_M), k29 v1 m0 = some r → j29 1125 v1 (h_H c m0) = some (h_H c r)) (v1 : Int) (m0 : h_M) (r : h_M) (h : GL_Mo_steps_29 k29 v1 m0 = some r) : L_Mo_steps_29 j29 1125 v1 (h_H c m0) = some (h_H c r) := by
  unfold GL_Mo_steps_29 at h
  unfold L_Mo_steps_29
  refine gdT (miS c m0) ?_
  try rw [zs23 c m0]
  refine iteC Iff.rfl h (fun b1 h => ?_) (fun b1 h => ?_)
  · obtain ⟨m4, q2, h⟩ := q_bvE h
    refine bvC (u_Mo_doPlans c m0 _ q2) ?_
    obtain ⟨m7, q5, h⟩ := q_bvE h
    refine bvC (u_Mo_choose c m4 _ q5) ?_
    exact uO_Mo_steps_73 c 3000 0 m7 _ h
  · try rw [mr24 c m0]
    refine gdT (miA c m0 e24) ?_
    obtain ⟨g8, h⟩ := p_gdE h
    refine gdT ⟨g8.1, by rw [mlA c m0 e24]; exact g8.2⟩ ?_
    try rw [mzA c m0 e24 (v1 : Int).toNat]
    try rw [zs0 c m0]
    refine iteC Iff.rfl h (fun b9 h => ?_) (fun b9 h => ?_)
    · exact uB_Mo_steps_57 c j29 k29 hk29 v1 m0 _ h
    · try rw [mr36 c m0]
      refine gdT (miA c m0 e36) ?_
      refine gdT ⟨g8.1, by rw [mlA c m0 e36]; exact g8.2⟩ ?_
      refine bM (mwA c m0 e36 _ _) h ?_
      intro m10 h
      exact uB_Mo_steps_57 c j29 k29 hk29 v1 m10 _ h
set_option maxRecDepth 100000 in
set_option maxHeartbeats 4000000 in
theorem uO_Mo_steps_29 (c : h_C)  : ∀ (n : Nat) (v1 : Int) (m0 : h_M) (r : h_M), GO_Mo_steps_29 n v1 m0 = some r → O_Mo_steps_29 n 1125 v1 (h_H c m0) = some (h_H c r) := by
  intro n
  induction n with
  | zero => intro v1 m0 r h; cases h
  | succ n ih => intro v1 m0 r h; exact uL_Mo_steps_29 c (O_Mo_steps_29 n) (GO_Mo_steps_29 n) ih v1 m0 r h
set_option maxRecDepth 100000 in
set_option maxHeartbeats 4000000 in
theorem u_Mo_steps (c : h_C)  (m0 : h_M) (r : h_M) (h : G_Mo_steps  m0 = some r) : F_Mo_steps 1125 (h_H c m0) = some (h_H c r) := by
  unfold G_Mo_steps at h
  unfold F_Mo_steps
  refine gdT (miS c m0) ?_
  obtain ⟨m3, q1, h⟩ := q_bvE h
  refine bvC (u_Mo_keep c m0 _ q1) ?_
  try rw [mr4 c m3]
  try rw [zs0 c m3]
  refine gdT (miA c m3 e4) ?_
  obtain ⟨g4, h⟩ := p_gdE h
  refine gdT ⟨g4.1, by rw [mlA c m3 e4]; exact g4.2⟩ ?_
  try rw [mzA c m3 e4 ((m3 100 0) : Int).toNat]
  refine gdT ⟨g4.1, by rw [mlA c m3 e4]; exact g4.2⟩ ?_
  refine bM (mwA c m3 e4 _ _) h ?_
  intro m5 h
  try rw [mr44 c m5]
  try rw [zs0 c m5]
  refine gdT (miA c m5 e44) ?_
  obtain ⟨g7, h⟩ := p_gdE h
  refine gdT ⟨g7.1, by rw [mlA c m5 e44]; exact g7.2⟩ ?_
  refine bM (mwA c m5 e44 _ _) h ?_
  intro m8 h
  exact uO_Mo_steps_29 c 3000 1 m8 _ h
def G_Mo_step  (m0 : h_M) : Option (Int × h_M) :=
  q_bv (G_Mo_isFull m0) fun r3 =>
  if r3 = 0 then
    q_bv (G_Mo_steps m0) fun m8 =>
    p_gd ((0 : Int) ≤ (m8 100 0) ∧ (m8 100 0) < (3 : Int)) <|
    q_bd (G_Mo_well (m8 4 ((m8 100 0) : Int).toNat) m8) fun r12 m13 =>
    some (r12, m13)
  else
    q_bd (G_Mo_refused (-4) m0) fun r17 m18 =>
    some (r17, m18)
set_option maxRecDepth 100000 in
set_option maxHeartbeats 4000000 in
theorem u_Mo_step (c : h_C)  (m0 : h_M) (r : (Int × h_M)) (h : G_Mo_step  m0 = some r) : F_Mo_step 1125 (h_H c m0) = some (r.1, (h_H c r.2)) := by
  unfold G_Mo_step at h
  unfold F_Mo_step
  refine gdT (miS c m0) ?_
  obtain ⟨r3, q1, h⟩ := q_bvE h
  refine bdC (u_Mo_isFull c m0 _ q1) ?_
  refine iteC Iff.rfl h (fun b5 h => ?_) (fun b5 h => ?_)
  · obtain ⟨m8, q6, h⟩ := q_bvE h
    refine bvC (u_Mo_steps c m0 _ q6) ?_
    try rw [mr4 c m8]
    try rw [zs0 c m8]
    refine gdT (miA c m8 e4) ?_
    obtain ⟨g9, h⟩ := p_gdE h
    refine gdT ⟨g9.1, by rw [mlA c m8 e4]; exact g9.2⟩ ?_
    try rw [mzA c m8 e4 ((m8 100 0) : Int).toNat]
    obtain ⟨r12, m13, q10, h⟩ := q_bdE h
    refine bdC (u_Mo_well c (m8 4 ((m8 100 0) : Int).toNat) m8 _ q10) ?_
    cases h
    rfl
  · obtain ⟨r17, m18, q15, h⟩ := q_bdE h
    refine bdC (u_Mo_refused c (-4) m0 _ q15) ?_
    cases h
    rfl
def GL_Mo_spoils_58 (k58 : Int → Int → Int → Int → h_M → Option h_M) (v1 : Int) (v3 : Int) (v4 : Int) (v5 : Int) (m0 : h_M) : Option h_M :=
  if 12 ≤ v5 then
    p_gd ((0 : Int) ≤ v1 ∧ v1 < (2001 : Int)) <|
    p_bi (wm m0 31 (v1 : Int).toNat v4) fun m3 =>
    some m3
  else
    p_gd ((0 : Int) ≤ (p_w (v3 + v5)) ∧ (p_w (v3 + v5)) < (24012 : Int)) <|
    p_bi (wm m0 32 ((p_w (v3 + v5)) : Int).toNat 0) fun m6 =>
    p_bi (p_w (v5 + 1)) fun x8 =>
    k58 v1 v3 v4 x8 m6
def GO_Mo_spoils_58  : Nat → Int → Int → Int → Int → h_M → Option h_M
  | 0 => fun _ _ _ _ _ => none
  | n + 1 => GL_Mo_spoils_58 (GO_Mo_spoils_58 n)
def G_Mo_spoils (v1 : Int) (v2 : Int) (m0 : h_M) : Option h_M :=
  p_bi ((p_w (12 * v1))) fun x2 =>
  if (p_rem v2 8) = 0 then
    q_bv (G_Mo_newLabel v1 (-1) m0) fun m6 =>
    some m6
  else if (p_rem v2 8) = 1 then
    p_bi ((p_rem (p_div v2 8) 6)) fun x9 =>
    GO_Mo_spoils_58 3000 v1 x2 x9 x9 m0
  else if (p_rem v2 8) = 2 then
    p_gd ((0 : Int) ≤ v1 ∧ v1 < (2001 : Int)) <|
    p_gd ((0 : Int) ≤ (p_w ((p_w (x2 + (m0 31 (v1 : Int).toNat))) - 1)) ∧ (p_w ((p_w (x2 + (m0 31 (v1 : Int).toNat))) - 1)) < (24012 : Int)) <|
    p_bi (wm m0 32 ((p_w ((p_w (x2 + (m0 31 (v1 : Int).toNat))) - 1)) : Int).toNat (p_and (p_w ((m0 32 ((p_w ((p_w (x2 + (m0 31 (v1 : Int).toNat))) - 1)) : Int).toNat) + 1)) 255)) fun m13 =>
    some m13
  else 
  some m0
set_option maxRecDepth 100000 in
set_option maxHeartbeats 4000000 in
theorem uL_Mo_spoils_58 (c : h_C) (j58 : Nat → Int → Int → Int → Int → p_Hp → Option p_Hp) (k58 : Int → Int → Int → Int → h_M → Option h_M) (hk58 : ∀ (v1 : Int) (v3 : Int) (v4 : Int) (v5 : Int) (m0 : h_M) (r : h_M), k58 v1 v3 v4 v5 m0 = some r → j58 1125 v1 v3 v4 v5 (h_H c m0) = some (h_H c r)) (v1 : Int) (v3 : Int) (v4 : Int) (v5 : Int) (m0 : h_M) (r : h_M) (h : GL_Mo_spoils_58 k58 v1 v3 v4 v5 m0 = some r) : L_Mo_spoils_58 j58 1125 v1 v3 v4 v5 (h_H c m0) = some (h_H c r) := by
  unfold GL_Mo_spoils_58 at h
  unfold L_Mo_spoils_58
  refine iteC Iff.rfl h (fun b1 h => ?_) (fun b1 h => ?_)
  · refine gdT (miS c m0) ?_
    try rw [mr31 c m0]
    refine gdT (miA c m0 e31) ?_
    obtain ⟨g2, h⟩ := p_gdE h
    refine gdT ⟨g2.1, by rw [mlA c m0 e31]; exact g2.2⟩ ?_
    refine bM (mwA c m0 e31 _ _) h ?_
    intro m3 h
    cases h
    rfl
  · refine gdT (miS c m0) ?_
    try rw [mr32 c m0]
    refine gdT (miA c m0 e32) ?_
    obtain ⟨g5, h⟩ := p_gdE h
    refine gdT ⟨g5.1, by rw [mlA c m0 e32]; exact g5.2⟩ ?_
    refine bM (mwA c m0 e32 _ _) h ?_
    intro m6 h
    refine bV h ?_
    intro x8 h
    exact hk58 v1 v3 v4 x8 m6 _ h
set_option maxRecDepth 100000 in
set_option maxHeartbeats 4000000 in
theorem uO_Mo_spoils_58 (c : h_C)  : ∀ (n : Nat) (v1 : Int) (v3 : Int) (v4 : Int) (v5 : Int) (m0 : h_M) (r : h_M), GO_Mo_spoils_58 n v1 v3 v4 v5 m0 = some r → O_Mo_spoils_58 n 1125 v1 v3 v4 v5 (h_H c m0) = some (h_H c r) := by
  intro n
  induction n with
  | zero => intro v1 v3 v4 v5 m0 r h; cases h
  | succ n ih => intro v1 v3 v4 v5 m0 r h; exact uL_Mo_spoils_58 c (O_Mo_spoils_58 n) (GO_Mo_spoils_58 n) ih v1 v3 v4 v5 m0 r h
set_option maxRecDepth 100000 in
set_option maxHeartbeats 4000000 in
theorem u_Mo_spoils (c : h_C) (v1 : Int) (v2 : Int) (m0 : h_M) (r : h_M) (h : G_Mo_spoils v1 v2 m0 = some r) : F_Mo_spoils 1125 v1 v2 (h_H c m0) = some (h_H c r) := by
  unfold G_Mo_spoils at h
  unfold F_Mo_spoils
  refine bV h ?_
  intro x2 h
  refine iteC Iff.rfl h (fun b3 h => ?_) (fun b3 h => ?_)
  · refine gdT (miS c m0) ?_
    obtain ⟨m6, q4, h⟩ := q_bvE h
    refine bvC (u_Mo_newLabel c v1 (-1) m0 _ q4) ?_
    cases h
    rfl
  refine iteC Iff.rfl h (fun b7 h => ?_) (fun b7 h => ?_)
  · refine bV h ?_
    intro x9 h
    exact uO_Mo_spoils_58 c 3000 v1 x2 x9 x9 m0 _ h
  refine iteC Iff.rfl h (fun b10 h => ?_) (fun b10 h => ?_)
  · refine gdT (miS c m0) ?_
    try rw [mr32 c m0]
    try rw [mr31 c m0]
    refine gdT (miA c m0 e31) ?_
    obtain ⟨g11, h⟩ := p_gdE h
    refine gdT ⟨g11.1, by rw [mlA c m0 e31]; exact g11.2⟩ ?_
    try rw [mzA c m0 e31 (v1 : Int).toNat]
    try rw [mr32 c m0]
    try rw [mr31 c m0]
    refine gdT ⟨g11.1, by rw [mlA c m0 e31]; exact g11.2⟩ ?_
    try rw [mzA c m0 e31 (v1 : Int).toNat]
    refine gdT (miA c m0 e32) ?_
    obtain ⟨g12, h⟩ := p_gdE h
    refine gdT ⟨g12.1, by rw [mlA c m0 e32]; exact g12.2⟩ ?_
    try rw [mzA c m0 e32 ((p_w ((p_w (x2 + (m0 31 (v1 : Int).toNat))) - 1)) : Int).toNat]
    refine gdT ⟨g12.1, by rw [mlA c m0 e32]; exact g12.2⟩ ?_
    refine bM (mwA c m0 e32 _ _) h ?_
    intro m13 h
    cases h
    rfl
  cases h
  rfl
def GB_Mo_night_201 (k27 : Int → Int → Int → Int → h_M → Option (Int × h_M)) (v2 : Int) (v3 : Int) (v4 : Int) (v5 : Int) (m0 : h_M) : Option (Int × h_M) :=
  q_bv (G_Mo_isFull m0) fun r3 =>
  if r3 = 0 then
    q_bv (G_Mo_steps m0) fun m8 =>
    p_bi (p_w (v5 + 1)) fun x9 =>
    k27 v2 v3 v4 x9 m8
  else
    q_bd (G_Mo_well v4 m0) fun r13 m14 =>
    some (r13, m14)
def GL_Mo_night_27 (k27 : Int → Int → Int → Int → h_M → Option (Int × h_M)) (v2 : Int) (v3 : Int) (v4 : Int) (v5 : Int) (m0 : h_M) : Option (Int × h_M) :=
  if v2 ≤ v5 then
    q_bd (G_Mo_well v4 m0) fun r4 m5 =>
    some (r4, m5)
  else
    p_bi ((p_w ((p_w (v3 * 1103515245)) + 12345))) fun x8 =>
    p_bi ((p_ushr x8 16)) fun x10 =>
    p_bi ((p_w ((p_w (x8 * 1103515245)) + 12345))) fun x12 =>
    p_bi ((p_ushr x12 16)) fun x14 =>
    p_bi ((p_w ((p_w (x12 * 1103515245)) + 12345))) fun x16 =>
    p_bi ((p_ushr x16 16)) fun x18 =>
    p_gd ((0 : Int) ≤ (m0 100 0) ∧ (m0 100 0) < (3 : Int)) <|
    if (m0 3 ((m0 100 0) : Int).toNat) ≤ 0 then
      GB_Mo_night_201 k27 v2 x16 v4 v5 m0
    else
      q_bv (G_Mo_g 0 m0) fun r23 =>
      p_gd ((0 : Int) ≤ r23 ∧ r23 < (120 : Int)) <|
      q_bv (G_Mo_isTaker (m0 5 (r23 : Int).toNat) m0) fun r28 =>
      if r28 = 0 then
        GB_Mo_night_201 k27 v2 x16 v4 v5 m0
      else
        q_bv (G_Mo_g 0 m0) fun r33 =>
        p_gd ((0 : Int) ≤ r33 ∧ r33 < (120 : Int)) <|
        q_bv (G_Mo_isChute (m0 5 (r33 : Int).toNat) m0) fun r38 =>
        if r38 ≠ 0 then
          GB_Mo_night_201 k27 v2 x16 v4 v5 m0
        else
          q_bv (G_Mo_g 0 m0) fun r43 =>
          p_gd ((0 : Int) ≤ (p_w (8 * r43)) ∧ (p_w (8 * r43)) < (960 : Int)) <|
          if (m0 22 ((p_w (8 * r43)) : Int).toNat) ≠ 0 then
            GB_Mo_night_201 k27 v2 x16 v4 v5 m0
          else
            q_bv (G_Mo_comesFull m0) fun r49 =>
            if r49 ≠ 0 then
              GB_Mo_night_201 k27 v2 x16 v4 v5 m0
            else
              q_bd (G_Mo_newParcel 0 (p_w (1 + (p_rem x10 200))) (p_rem (p_div x10 200) 10) m0) fun r54 m55 =>
              p_bi (p_w (v4 + 1)) fun x57 =>
              q_bv (G_Mo_tags r54 (p_rem (p_div x14 100) 2) (p_rem x14 100) m55) fun m61 =>
              q_bv (G_Mo_spoils r54 x18 m61) fun m64 =>
              GB_Mo_night_201 k27 v2 x16 x57 v5 m64
def GO_Mo_night_27  : Nat → Int → Int → Int → Int → h_M → Option (Int × h_M)
  | 0 => fun _ _ _ _ _ => none
  | n + 1 => GL_Mo_night_27 (GO_Mo_night_27 n)
def G_Mo_night (v1 : Int) (v2 : Int) (m0 : h_M) : Option (Int × h_M) :=
  q_bv (G_Mo_beyond v2 1 20 m0) fun r3 =>
  if r3 = 0 then
    GO_Mo_night_27 3000 v2 v1 0 0 m0
  else
    q_bd (G_Mo_refused (-2) m0) fun r8 m9 =>
    some (r8, m9)
set_option maxRecDepth 100000 in
set_option maxHeartbeats 4000000 in
theorem uB_Mo_night_201 (c : h_C) (j27 : Nat → Int → Int → Int → Int → p_Hp → Option (Int × p_Hp)) (k27 : Int → Int → Int → Int → h_M → Option (Int × h_M)) (hk27 : ∀ (v2 : Int) (v3 : Int) (v4 : Int) (v5 : Int) (m0 : h_M) (r : (Int × h_M)), k27 v2 v3 v4 v5 m0 = some r → j27 1125 v2 v3 v4 v5 (h_H c m0) = some (r.1, (h_H c r.2))) (v2 : Int) (v3 : Int) (v4 : Int) (v5 : Int) (m0 : h_M) (r : (Int × h_M)) (h : GB_Mo_night_201 k27 v2 v3 v4 v5 m0 = some r) : B_Mo_night_201 j27 1125 v2 v3 v4 v5 (h_H c m0) = some (r.1, (h_H c r.2)) := by
  unfold GB_Mo_night_201 at h
  unfold B_Mo_night_201
  refine gdT (miS c m0) ?_
  obtain ⟨r3, q1, h⟩ := q_bvE h
  refine bdC (u_Mo_isFull c m0 _ q1) ?_
  refine iteC Iff.rfl h (fun b5 h => ?_) (fun b5 h => ?_)
  · obtain ⟨m8, q6, h⟩ := q_bvE h
    refine bvC (u_Mo_steps c m0 _ q6) ?_
    refine bV h ?_
    intro x9 h
    exact hk27 v2 v3 v4 x9 m8 _ h
  · obtain ⟨r13, m14, q11, h⟩ := q_bdE h
    refine bdC (u_Mo_well c v4 m0 _ q11) ?_
    cases h
    rfl
set_option maxRecDepth 100000 in
set_option maxHeartbeats 4000000 in
theorem uL_Mo_night_27 (c : h_C) (j27 : Nat → Int → Int → Int → Int → p_Hp → Option (Int × p_Hp)) (k27 : Int → Int → Int → Int → h_M → Option (Int × h_M)) (hk27 : ∀ (v2 : Int) (v3 : Int) (v4 : Int) (v5 : Int) (m0 : h_M) (r : (Int × h_M)), k27 v2 v3 v4 v5 m0 = some r → j27 1125 v2 v3 v4 v5 (h_H c m0) = some (r.1, (h_H c r.2))) (v2 : Int) (v3 : Int) (v4 : Int) (v5 : Int) (m0 : h_M) (r : (Int × h_M)) (h : GL_Mo_night_27 k27 v2 v3 v4 v5 m0 = some r) : L_Mo_night_27 j27 1125 v2 v3 v4 v5 (h_H c m0) = some (r.1, (h_H c r.2)) := by
  unfold GL_Mo_night_27 at h
  unfold L_Mo_night_27
  refine iteC Iff.rfl h (fun b1 h => ?_) (fun b1 h => ?_)
  · refine gdT (miS c m0) ?_
    obtain ⟨r4, m5, q2, h⟩ := q_bdE h
    refine bdC (u_Mo_well c v4 m0 _ q2) ?_
    cases h
    rfl
  · refine bV h ?_
    intro x8 h
    refine bV h ?_
    intro x10 h
    refine bV h ?_
    intro x12 h
    refine bV h ?_
    intro x14 h
    refine bV h ?_
    intro x16 h
    refine bV h ?_
    intro x18 h
    refine gdT (miS c m0) ?_
    try rw [mr3 c m0]
    try rw [zs0 c m0]
    refine gdT (miA c m0 e3) ?_
    obtain ⟨g19, h⟩ := p_gdE h
    refine gdT ⟨g19.1, by rw [mlA c m0 e3]; exact g19.2⟩ ?_
    try rw [mzA c m0 e3 ((m0 100 0) : Int).toNat]
    refine iteC Iff.rfl h (fun b20 h => ?_) (fun b20 h => ?_)
    · exact uB_Mo_night_201 c j27 k27 hk27 v2 x16 v4 v5 m0 _ h
    · try rw [mr5 c m0]
      obtain ⟨r23, q21, h⟩ := q_bvE h
      refine bdC (u_Mo_g c 0 m0 _ q21) ?_
      refine gdT (miA c m0 e5) ?_
      obtain ⟨g25, h⟩ := p_gdE h
      refine gdT ⟨g25.1, by rw [mlA c m0 e5]; exact g25.2⟩ ?_
      try rw [mzA c m0 e5 (r23 : Int).toNat]
      obtain ⟨r28, q26, h⟩ := q_bvE h
      refine bdC (u_Mo_isTaker c (m0 5 (r23 : Int).toNat) m0 _ q26) ?_
      refine iteC Iff.rfl h (fun b30 h => ?_) (fun b30 h => ?_)
      · exact uB_Mo_night_201 c j27 k27 hk27 v2 x16 v4 v5 m0 _ h
      · try rw [mr5 c m0]
        obtain ⟨r33, q31, h⟩ := q_bvE h
        refine bdC (u_Mo_g c 0 m0 _ q31) ?_
        refine gdT (miA c m0 e5) ?_
        obtain ⟨g35, h⟩ := p_gdE h
        refine gdT ⟨g35.1, by rw [mlA c m0 e5]; exact g35.2⟩ ?_
        try rw [mzA c m0 e5 (r33 : Int).toNat]
        obtain ⟨r38, q36, h⟩ := q_bvE h
        refine bdC (u_Mo_isChute c (m0 5 (r33 : Int).toNat) m0 _ q36) ?_
        refine iteC Iff.rfl h (fun b40 h => ?_) (fun b40 h => ?_)
        · exact uB_Mo_night_201 c j27 k27 hk27 v2 x16 v4 v5 m0 _ h
        · try rw [mr22 c m0]
          obtain ⟨r43, q41, h⟩ := q_bvE h
          refine bdC (u_Mo_g c 0 m0 _ q41) ?_
          refine gdT (miA c m0 e22) ?_
          obtain ⟨g45, h⟩ := p_gdE h
          refine gdT ⟨g45.1, by rw [mlA c m0 e22]; exact g45.2⟩ ?_
          try rw [mzA c m0 e22 ((p_w (8 * r43)) : Int).toNat]
          refine iteC Iff.rfl h (fun b46 h => ?_) (fun b46 h => ?_)
          · exact uB_Mo_night_201 c j27 k27 hk27 v2 x16 v4 v5 m0 _ h
          · obtain ⟨r49, q47, h⟩ := q_bvE h
            refine bdC (u_Mo_comesFull c m0 _ q47) ?_
            refine iteC Iff.rfl h (fun b51 h => ?_) (fun b51 h => ?_)
            · exact uB_Mo_night_201 c j27 k27 hk27 v2 x16 v4 v5 m0 _ h
            · obtain ⟨r54, m55, q52, h⟩ := q_bdE h
              refine bdC (u_Mo_newParcel c 0 (p_w (1 + (p_rem x10 200))) (p_rem (p_div x10 200) 10) m0 _ q52) ?_
              refine bV h ?_
              intro x57 h
              obtain ⟨m61, q59, h⟩ := q_bvE h
              refine bvC (u_Mo_tags c r54 (p_rem (p_div x14 100) 2) (p_rem x14 100) m55 _ q59) ?_
              obtain ⟨m64, q62, h⟩ := q_bvE h
              refine bvC (u_Mo_spoils c r54 x18 m61 _ q62) ?_
              exact uB_Mo_night_201 c j27 k27 hk27 v2 x16 x57 v5 m64 _ h
set_option maxRecDepth 100000 in
set_option maxHeartbeats 4000000 in
theorem uO_Mo_night_27 (c : h_C)  : ∀ (n : Nat) (v2 : Int) (v3 : Int) (v4 : Int) (v5 : Int) (m0 : h_M) (r : (Int × h_M)), GO_Mo_night_27 n v2 v3 v4 v5 m0 = some r → O_Mo_night_27 n 1125 v2 v3 v4 v5 (h_H c m0) = some (r.1, (h_H c r.2)) := by
  intro n
  induction n with
  | zero => intro v2 v3 v4 v5 m0 r h; cases h
  | succ n ih => intro v2 v3 v4 v5 m0 r h; exact uL_Mo_night_27 c (O_Mo_night_27 n) (GO_Mo_night_27 n) ih v2 v3 v4 v5 m0 r h
set_option maxRecDepth 100000 in
set_option maxHeartbeats 4000000 in
theorem u_Mo_night (c : h_C) (v1 : Int) (v2 : Int) (m0 : h_M) (r : (Int × h_M)) (h : G_Mo_night v1 v2 m0 = some r) : F_Mo_night 1125 v1 v2 (h_H c m0) = some (r.1, (h_H c r.2)) := by
  unfold G_Mo_night at h
  unfold F_Mo_night
  obtain ⟨r3, q1, h⟩ := q_bvE h
  refine bdC (u_Mo_beyond c v2 1 20 m0 _ q1) ?_
  refine iteC Iff.rfl h (fun b5 h => ?_) (fun b5 h => ?_)
  · exact uO_Mo_night_27 c 3000 v2 v1 0 0 m0 _ h
  · refine gdT (miS c m0) ?_
    obtain ⟨r8, m9, q6, h⟩ := q_bdE h
    refine bdC (u_Mo_refused c (-2) m0 _ q6) ?_
    cases h
    rfl
def G_Mo_back (v1 : Int) (m0 : h_M) : Option (Int × h_M) :=
  q_bv (G_Mo_beyond v1 1 30 m0) fun r3 =>
  if r3 = 0 then
    p_gd ((0 : Int) ≤ (m0 100 0) ∧ (m0 100 0) < (3 : Int)) <|
    if v1 ≤ (m0 81 ((m0 100 0) : Int).toNat) then
      p_bi (wm m0 81 ((m0 100 0) : Int).toNat (p_w ((m0 81 ((m0 100 0) : Int).toNat) - v1))) fun m8 =>
      p_bi (wm m8 185 0 0) fun m10 =>
      p_gd ((0 : Int) ≤ (m10 100 0) ∧ (m10 100 0) < (3 : Int)) <|
      q_bv (G_Mo_goOver (p_rem (p_w ((m10 82 ((m10 100 0) : Int).toNat) + (m10 81 ((m10 100 0) : Int).toNat))) 30) m10) fun m15 =>
      p_gd ((0 : Int) ≤ (m15 100 0) ∧ (m15 100 0) < (3 : Int)) <|
      p_bi (wm m15 44 ((m15 100 0) : Int).toNat 0) fun m17 =>
      p_gd ((0 : Int) ≤ (m17 100 0) ∧ (m17 100 0) < (3 : Int)) <|
      q_bd (G_Mo_well (m17 4 ((m17 100 0) : Int).toNat) m17) fun r22 m23 =>
      some (r22, m23)
    else
      q_bd (G_Mo_refused (-3) m0) fun r27 m28 =>
      some (r27, m28)
  else
    q_bd (G_Mo_refused (-2) m0) fun r32 m33 =>
    some (r32, m33)
set_option maxRecDepth 100000 in
set_option maxHeartbeats 4000000 in
theorem u_Mo_back (c : h_C) (v1 : Int) (m0 : h_M) (r : (Int × h_M)) (h : G_Mo_back v1 m0 = some r) : F_Mo_back 1125 v1 (h_H c m0) = some (r.1, (h_H c r.2)) := by
  unfold G_Mo_back at h
  unfold F_Mo_back
  obtain ⟨r3, q1, h⟩ := q_bvE h
  refine bdC (u_Mo_beyond c v1 1 30 m0 _ q1) ?_
  refine iteC Iff.rfl h (fun b5 h => ?_) (fun b5 h => ?_)
  · refine gdT (miS c m0) ?_
    try rw [mr81 c m0]
    try rw [zs0 c m0]
    refine gdT (miA c m0 e81) ?_
    obtain ⟨g6, h⟩ := p_gdE h
    refine gdT ⟨g6.1, by rw [mlA c m0 e81]; exact g6.2⟩ ?_
    try rw [mzA c m0 e81 ((m0 100 0) : Int).toNat]
    refine iteC Iff.rfl h (fun b7 h => ?_) (fun b7 h => ?_)
    · try rw [mr81 c m0]
      try rw [zs0 c m0]
      refine gdT ⟨g6.1, by rw [mlA c m0 e81]; exact g6.2⟩ ?_
      try rw [mzA c m0 e81 ((m0 100 0) : Int).toNat]
      refine gdT ⟨g6.1, by rw [mlA c m0 e81]; exact g6.2⟩ ?_
      refine bM (mwA c m0 e81 _ _) h ?_
      intro m8 h
      refine bM (ws85 c m8 _) h ?_
      intro m10 h
      try rw [mr82 c m10]
      try rw [zs0 c m10]
      refine gdT (miA c m10 e82) ?_
      obtain ⟨g12, h⟩ := p_gdE h
      refine gdT ⟨g12.1, by rw [mlA c m10 e82]; exact g12.2⟩ ?_
      try rw [mzA c m10 e82 ((m10 100 0) : Int).toNat]
      try rw [mr81 c m10]
      try rw [zs0 c m10]
      refine gdT (miA c m10 e81) ?_
      refine gdT ⟨g12.1, by rw [mlA c m10 e81]; exact g12.2⟩ ?_
      try rw [mzA c m10 e81 ((m10 100 0) : Int).toNat]
      obtain ⟨m15, q13, h⟩ := q_bvE h
      refine bvC (u_Mo_goOver c (p_rem (p_w ((m10 82 ((m10 100 0) : Int).toNat) + (m10 81 ((m10 100 0) : Int).toNat))) 30) m10 _ q13) ?_
      try rw [mr44 c m15]
      try rw [zs0 c m15]
      refine gdT (miA c m15 e44) ?_
      obtain ⟨g16, h⟩ := p_gdE h
      refine gdT ⟨g16.1, by rw [mlA c m15 e44]; exact g16.2⟩ ?_
      refine bM (mwA c m15 e44 _ _) h ?_
      intro m17 h
      try rw [mr4 c m17]
      try rw [zs0 c m17]
      refine gdT (miA c m17 e4) ?_
      obtain ⟨g19, h⟩ := p_gdE h
      refine gdT ⟨g19.1, by rw [mlA c m17 e4]; exact g19.2⟩ ?_
      try rw [mzA c m17 e4 ((m17 100 0) : Int).toNat]
      obtain ⟨r22, m23, q20, h⟩ := q_bdE h
      refine bdC (u_Mo_well c (m17 4 ((m17 100 0) : Int).toNat) m17 _ q20) ?_
      cases h
      rfl
    · obtain ⟨r27, m28, q25, h⟩ := q_bdE h
      refine bdC (u_Mo_refused c (-3) m0 _ q25) ?_
      cases h
      rfl
  · refine gdT (miS c m0) ?_
    obtain ⟨r32, m33, q30, h⟩ := q_bdE h
    refine bdC (u_Mo_refused c (-2) m0 _ q30) ?_
    cases h
    rfl
def G_Mo_status  (m0 : h_M) : Option Int :=
  some (m0 101 0)
set_option maxRecDepth 100000 in
set_option maxHeartbeats 4000000 in
theorem u_Mo_status (c : h_C)  (m0 : h_M) (r : Int) (h : G_Mo_status  m0 = some r) : F_Mo_status 1125 (h_H c m0) = some (r, (h_H c m0)) := by
  unfold G_Mo_status at h
  unfold F_Mo_status
  refine gdT (miS c m0) ?_
  try rw [zs1 c m0]
  cases h
  rfl
def G_Mo_toldMore (v1 : Int) (v2 : Int) (m0 : h_M) : Option Int :=
  if v2 = 8 then
    p_gd ((0 : Int) ≤ v1 ∧ v1 < (120 : Int)) <|
    some (m0 21 (v1 : Int).toNat)
  else if v2 = 9 then
    q_bv (G_Mo_loadOf v1 m0) fun r6 =>
    some r6
  else if v2 = 10 then
    p_gd ((0 : Int) ≤ v1 ∧ v1 < (120 : Int)) <|
    some (m0 13 (v1 : Int).toNat)
  else if v2 = 11 then
    p_gd ((0 : Int) ≤ v1 ∧ v1 < (120 : Int)) <|
    q_bv (G_Mo_isTaker (m0 5 (v1 : Int).toNat) m0) fun r14 =>
    if r14 = 0 then
      some 0
    else
      some (m0 9 (v1 : Int).toNat)
  else if v2 = 12 then
    p_gd ((0 : Int) ≤ v1 ∧ v1 < (120 : Int)) <|
    q_bv (G_Mo_paceOf (m0 5 (v1 : Int).toNat) m0) fun r21 =>
    some r21
  else if v2 = 13 then
    p_gd ((0 : Int) ≤ v1 ∧ v1 < (120 : Int)) <|
    some (p_w ((m0 12 (v1 : Int).toNat) + 1))
  else if v2 = 14 then
    p_gd ((0 : Int) ≤ v1 ∧ v1 < (120 : Int)) <|
    some (m0 15 (v1 : Int).toNat)
  else if v2 = 15 then
    p_gd ((0 : Int) ≤ v1 ∧ v1 < (120 : Int)) <|
    if 0 ≤ (m0 7 (v1 : Int).toNat) then
      some (m0 7 (v1 : Int).toNat)
    else
      some (-9)
  else 
  some (-2)
set_option maxRecDepth 100000 in
set_option maxHeartbeats 4000000 in
theorem u_Mo_toldMore (c : h_C) (v1 : Int) (v2 : Int) (m0 : h_M) (r : Int) (h : G_Mo_toldMore v1 v2 m0 = some r) : F_Mo_toldMore 1125 v1 v2 (h_H c m0) = some (r, (h_H c m0)) := by
  unfold G_Mo_toldMore at h
  unfold F_Mo_toldMore
  refine iteC Iff.rfl h (fun b1 h => ?_) (fun b1 h => ?_)
  · refine gdT (miS c m0) ?_
    try rw [mr21 c m0]
    refine gdT (miA c m0 e21) ?_
    obtain ⟨g2, h⟩ := p_gdE h
    refine gdT ⟨g2.1, by rw [mlA c m0 e21]; exact g2.2⟩ ?_
    try rw [mzA c m0 e21 (v1 : Int).toNat]
    cases h
    rfl
  refine iteC Iff.rfl h (fun b3 h => ?_) (fun b3 h => ?_)
  · refine gdT (miS c m0) ?_
    obtain ⟨r6, q4, h⟩ := q_bvE h
    refine bdC (u_Mo_loadOf c v1 m0 _ q4) ?_
    cases h
    rfl
  refine iteC Iff.rfl h (fun b8 h => ?_) (fun b8 h => ?_)
  · refine gdT (miS c m0) ?_
    try rw [mr13 c m0]
    refine gdT (miA c m0 e13) ?_
    obtain ⟨g9, h⟩ := p_gdE h
    refine gdT ⟨g9.1, by rw [mlA c m0 e13]; exact g9.2⟩ ?_
    try rw [mzA c m0 e13 (v1 : Int).toNat]
    cases h
    rfl
  refine iteC Iff.rfl h (fun b10 h => ?_) (fun b10 h => ?_)
  · refine gdT (miS c m0) ?_
    try rw [mr5 c m0]
    refine gdT (miA c m0 e5) ?_
    obtain ⟨g11, h⟩ := p_gdE h
    refine gdT ⟨g11.1, by rw [mlA c m0 e5]; exact g11.2⟩ ?_
    try rw [mzA c m0 e5 (v1 : Int).toNat]
    obtain ⟨r14, q12, h⟩ := q_bvE h
    refine bdC (u_Mo_isTaker c (m0 5 (v1 : Int).toNat) m0 _ q12) ?_
    refine iteC Iff.rfl h (fun b16 h => ?_) (fun b16 h => ?_)
    · cases h
      rfl
    · try rw [mr9 c m0]
      refine gdT (miA c m0 e9) ?_
      refine gdT ⟨g11.1, by rw [mlA c m0 e9]; exact g11.2⟩ ?_
      try rw [mzA c m0 e9 (v1 : Int).toNat]
      cases h
      rfl
  refine iteC Iff.rfl h (fun b17 h => ?_) (fun b17 h => ?_)
  · refine gdT (miS c m0) ?_
    try rw [mr5 c m0]
    refine gdT (miA c m0 e5) ?_
    obtain ⟨g18, h⟩ := p_gdE h
    refine gdT ⟨g18.1, by rw [mlA c m0 e5]; exact g18.2⟩ ?_
    try rw [mzA c m0 e5 (v1 : Int).toNat]
    obtain ⟨r21, q19, h⟩ := q_bvE h
    refine bdC (u_Mo_paceOf c (m0 5 (v1 : Int).toNat) m0 _ q19) ?_
    cases h
    rfl
  refine iteC Iff.rfl h (fun b23 h => ?_) (fun b23 h => ?_)
  · refine gdT (miS c m0) ?_
    try rw [mr12 c m0]
    refine gdT (miA c m0 e12) ?_
    obtain ⟨g24, h⟩ := p_gdE h
    refine gdT ⟨g24.1, by rw [mlA c m0 e12]; exact g24.2⟩ ?_
    try rw [mzA c m0 e12 (v1 : Int).toNat]
    cases h
    rfl
  refine iteC Iff.rfl h (fun b25 h => ?_) (fun b25 h => ?_)
  · refine gdT (miS c m0) ?_
    try rw [mr15 c m0]
    refine gdT (miA c m0 e15) ?_
    obtain ⟨g26, h⟩ := p_gdE h
    refine gdT ⟨g26.1, by rw [mlA c m0 e15]; exact g26.2⟩ ?_
    try rw [mzA c m0 e15 (v1 : Int).toNat]
    cases h
    rfl
  refine iteC Iff.rfl h (fun b27 h => ?_) (fun b27 h => ?_)
  · refine gdT (miS c m0) ?_
    try rw [mr7 c m0]
    refine gdT (miA c m0 e7) ?_
    obtain ⟨g28, h⟩ := p_gdE h
    refine gdT ⟨g28.1, by rw [mlA c m0 e7]; exact g28.2⟩ ?_
    try rw [mzA c m0 e7 (v1 : Int).toNat]
    refine iteC Iff.rfl h (fun b29 h => ?_) (fun b29 h => ?_)
    · try rw [mr7 c m0]
      refine gdT ⟨g28.1, by rw [mlA c m0 e7]; exact g28.2⟩ ?_
      try rw [mzA c m0 e7 (v1 : Int).toNat]
      cases h
      rfl
    · cases h
      rfl
  cases h
  rfl
def G_Mo_told (v1 : Int) (v2 : Int) (m0 : h_M) : Option Int :=
  q_bv (G_Mo_noGear v1 m0) fun r3 =>
  if r3 = 0 then
    q_bv (G_Mo_g v1 m0) fun r8 =>
    if v2 = 0 then
      p_gd ((0 : Int) ≤ r8 ∧ r8 < (120 : Int)) <|
      some (m0 5 (r8 : Int).toNat)
    else if v2 = 1 then
      p_gd ((0 : Int) ≤ r8 ∧ r8 < (120 : Int)) <|
      some (m0 6 (r8 : Int).toNat)
    else if v2 = 2 then
      p_gd ((0 : Int) ≤ r8 ∧ r8 < (120 : Int)) <|
      if (m0 5 (r8 : Int).toNat) ≠ 9 then
        some (m0 10 (r8 : Int).toNat)
      else
        if (m0 14 (r8 : Int).toNat) = 0 then
          some 0
        else
          some 1
    else if v2 = 3 then
      p_gd ((0 : Int) ≤ r8 ∧ r8 < (120 : Int)) <|
      some (m0 16 (r8 : Int).toNat)
    else if v2 = 4 then
      p_gd ((0 : Int) ≤ r8 ∧ r8 < (120 : Int)) <|
      some (m0 17 (r8 : Int).toNat)
    else if v2 = 5 then
      p_gd ((0 : Int) ≤ r8 ∧ r8 < (120 : Int)) <|
      some (m0 18 (r8 : Int).toNat)
    else if v2 = 6 then
      p_gd ((0 : Int) ≤ r8 ∧ r8 < (120 : Int)) <|
      some (m0 19 (r8 : Int).toNat)
    else if v2 = 7 then
      p_gd ((0 : Int) ≤ r8 ∧ r8 < (120 : Int)) <|
      some (m0 20 (r8 : Int).toNat)
    else 
    q_bv (G_Mo_toldMore r8 v2 m0) fun r30 =>
    some r30
  else
    some (-1)
set_option maxRecDepth 100000 in
set_option maxHeartbeats 4000000 in
theorem u_Mo_told (c : h_C) (v1 : Int) (v2 : Int) (m0 : h_M) (r : Int) (h : G_Mo_told v1 v2 m0 = some r) : F_Mo_told 1125 v1 v2 (h_H c m0) = some (r, (h_H c m0)) := by
  unfold G_Mo_told at h
  unfold F_Mo_told
  refine gdT (miS c m0) ?_
  obtain ⟨r3, q1, h⟩ := q_bvE h
  refine bdC (u_Mo_noGear c v1 m0 _ q1) ?_
  refine iteC Iff.rfl h (fun b5 h => ?_) (fun b5 h => ?_)
  · obtain ⟨r8, q6, h⟩ := q_bvE h
    refine bdC (u_Mo_g c v1 m0 _ q6) ?_
    refine iteC Iff.rfl h (fun b10 h => ?_) (fun b10 h => ?_)
    · try rw [mr5 c m0]
      refine gdT (miA c m0 e5) ?_
      obtain ⟨g11, h⟩ := p_gdE h
      refine gdT ⟨g11.1, by rw [mlA c m0 e5]; exact g11.2⟩ ?_
      try rw [mzA c m0 e5 (r8 : Int).toNat]
      cases h
      rfl
    refine iteC Iff.rfl h (fun b12 h => ?_) (fun b12 h => ?_)
    · try rw [mr6 c m0]
      refine gdT (miA c m0 e6) ?_
      obtain ⟨g13, h⟩ := p_gdE h
      refine gdT ⟨g13.1, by rw [mlA c m0 e6]; exact g13.2⟩ ?_
      try rw [mzA c m0 e6 (r8 : Int).toNat]
      cases h
      rfl
    refine iteC Iff.rfl h (fun b14 h => ?_) (fun b14 h => ?_)
    · try rw [mr5 c m0]
      refine gdT (miA c m0 e5) ?_
      obtain ⟨g15, h⟩ := p_gdE h
      refine gdT ⟨g15.1, by rw [mlA c m0 e5]; exact g15.2⟩ ?_
      try rw [mzA c m0 e5 (r8 : Int).toNat]
      refine iteC Iff.rfl h (fun b16 h => ?_) (fun b16 h => ?_)
      · try rw [mr10 c m0]
        refine gdT (miA c m0 e10) ?_
        refine gdT ⟨g15.1, by rw [mlA c m0 e10]; exact g15.2⟩ ?_
        try rw [mzA c m0 e10 (r8 : Int).toNat]
        cases h
        rfl
      · try rw [mr14 c m0]
        refine gdT (miA c m0 e14) ?_
        refine gdT ⟨g15.1, by rw [mlA c m0 e14]; exact g15.2⟩ ?_
        try rw [mzA c m0 e14 (r8 : Int).toNat]
        refine iteC Iff.rfl h (fun b17 h => ?_) (fun b17 h => ?_)
        · cases h
          rfl
        · cases h
          rfl
    refine iteC Iff.rfl h (fun b18 h => ?_) (fun b18 h => ?_)
    · try rw [mr16 c m0]
      refine gdT (miA c m0 e16) ?_
      obtain ⟨g19, h⟩ := p_gdE h
      refine gdT ⟨g19.1, by rw [mlA c m0 e16]; exact g19.2⟩ ?_
      try rw [mzA c m0 e16 (r8 : Int).toNat]
      cases h
      rfl
    refine iteC Iff.rfl h (fun b20 h => ?_) (fun b20 h => ?_)
    · try rw [mr17 c m0]
      refine gdT (miA c m0 e17) ?_
      obtain ⟨g21, h⟩ := p_gdE h
      refine gdT ⟨g21.1, by rw [mlA c m0 e17]; exact g21.2⟩ ?_
      try rw [mzA c m0 e17 (r8 : Int).toNat]
      cases h
      rfl
    refine iteC Iff.rfl h (fun b22 h => ?_) (fun b22 h => ?_)
    · try rw [mr18 c m0]
      refine gdT (miA c m0 e18) ?_
      obtain ⟨g23, h⟩ := p_gdE h
      refine gdT ⟨g23.1, by rw [mlA c m0 e18]; exact g23.2⟩ ?_
      try rw [mzA c m0 e18 (r8 : Int).toNat]
      cases h
      rfl
    refine iteC Iff.rfl h (fun b24 h => ?_) (fun b24 h => ?_)
    · try rw [mr19 c m0]
      refine gdT (miA c m0 e19) ?_
      obtain ⟨g25, h⟩ := p_gdE h
      refine gdT ⟨g25.1, by rw [mlA c m0 e19]; exact g25.2⟩ ?_
      try rw [mzA c m0 e19 (r8 : Int).toNat]
      cases h
      rfl
    refine iteC Iff.rfl h (fun b26 h => ?_) (fun b26 h => ?_)
    · try rw [mr20 c m0]
      refine gdT (miA c m0 e20) ?_
      obtain ⟨g27, h⟩ := p_gdE h
      refine gdT ⟨g27.1, by rw [mlA c m0 e20]; exact g27.2⟩ ?_
      try rw [mzA c m0 e20 (r8 : Int).toNat]
      cases h
      rfl
    obtain ⟨r30, q28, h⟩ := q_bvE h
    refine bdC (u_Mo_toldMore c r8 v2 m0 _ q28) ?_
    cases h
    rfl
  · cases h
    rfl
def G_Mo_slot (v1 : Int) (v2 : Int) (m0 : h_M) : Option Int :=
  q_bv (G_Mo_noGear v1 m0) fun r3 =>
  if r3 = 0 then
    q_bv (G_Mo_g v1 m0) fun r8 =>
    p_gd ((0 : Int) ≤ r8 ∧ r8 < (120 : Int)) <|
    q_bv (G_Mo_beyond v2 0 (p_w ((m0 6 (r8 : Int).toNat) - 1)) m0) fun r13 =>
    if r13 = 0 then
      q_bv (G_Mo_g v1 m0) fun r18 =>
      p_gd ((0 : Int) ≤ (p_w ((p_w (8 * r18)) + v2)) ∧ (p_w ((p_w (8 * r18)) + v2)) < (960 : Int)) <|
      some (m0 22 ((p_w ((p_w (8 * r18)) + v2)) : Int).toNat)
    else
      some (-2)
  else
    some (-1)
set_option maxRecDepth 100000 in
set_option maxHeartbeats 4000000 in
theorem u_Mo_slot (c : h_C) (v1 : Int) (v2 : Int) (m0 : h_M) (r : Int) (h : G_Mo_slot v1 v2 m0 = some r) : F_Mo_slot 1125 v1 v2 (h_H c m0) = some (r, (h_H c m0)) := by
  unfold G_Mo_slot at h
  unfold F_Mo_slot
  refine gdT (miS c m0) ?_
  obtain ⟨r3, q1, h⟩ := q_bvE h
  refine bdC (u_Mo_noGear c v1 m0 _ q1) ?_
  refine iteC Iff.rfl h (fun b5 h => ?_) (fun b5 h => ?_)
  · try rw [mr6 c m0]
    obtain ⟨r8, q6, h⟩ := q_bvE h
    refine bdC (u_Mo_g c v1 m0 _ q6) ?_
    refine gdT (miA c m0 e6) ?_
    obtain ⟨g10, h⟩ := p_gdE h
    refine gdT ⟨g10.1, by rw [mlA c m0 e6]; exact g10.2⟩ ?_
    try rw [mzA c m0 e6 (r8 : Int).toNat]
    obtain ⟨r13, q11, h⟩ := q_bvE h
    refine bdC (u_Mo_beyond c v2 0 (p_w ((m0 6 (r8 : Int).toNat) - 1)) m0 _ q11) ?_
    refine iteC Iff.rfl h (fun b15 h => ?_) (fun b15 h => ?_)
    · try rw [mr22 c m0]
      obtain ⟨r18, q16, h⟩ := q_bvE h
      refine bdC (u_Mo_g c v1 m0 _ q16) ?_
      refine gdT (miA c m0 e22) ?_
      obtain ⟨g20, h⟩ := p_gdE h
      refine gdT ⟨g20.1, by rw [mlA c m0 e22]; exact g20.2⟩ ?_
      try rw [mzA c m0 e22 ((p_w ((p_w (8 * r18)) + v2)) : Int).toNat]
      cases h
      rfl
    · cases h
      rfl
  · cases h
    rfl
def G_Mo_linkOf (v1 : Int) (v2 : Int) (m0 : h_M) : Option Int :=
  q_bv (G_Mo_noGear v1 m0) fun r3 =>
  if r3 = 0 then
    q_bv (G_Mo_g v1 m0) fun r8 =>
    p_gd ((0 : Int) ≤ r8 ∧ r8 < (120 : Int)) <|
    q_bv (G_Mo_beyond v2 0 (p_w ((m0 7 (r8 : Int).toNat) - 1)) m0) fun r13 =>
    if r13 = 0 then
      q_bv (G_Mo_g v1 m0) fun r18 =>
      p_gd ((0 : Int) ≤ (p_w ((p_w (3 * r18)) + v2)) ∧ (p_w ((p_w (3 * r18)) + v2)) < (360 : Int)) <|
      some (p_w ((m0 8 ((p_w ((p_w (3 * r18)) + v2)) : Int).toNat) + 1))
    else
      some (-9)
  else
    some (-1)
set_option maxRecDepth 100000 in
set_option maxHeartbeats 4000000 in
theorem u_Mo_linkOf (c : h_C) (v1 : Int) (v2 : Int) (m0 : h_M) (r : Int) (h : G_Mo_linkOf v1 v2 m0 = some r) : F_Mo_linkOf 1125 v1 v2 (h_H c m0) = some (r, (h_H c m0)) := by
  unfold G_Mo_linkOf at h
  unfold F_Mo_linkOf
  refine gdT (miS c m0) ?_
  obtain ⟨r3, q1, h⟩ := q_bvE h
  refine bdC (u_Mo_noGear c v1 m0 _ q1) ?_
  refine iteC Iff.rfl h (fun b5 h => ?_) (fun b5 h => ?_)
  · try rw [mr7 c m0]
    obtain ⟨r8, q6, h⟩ := q_bvE h
    refine bdC (u_Mo_g c v1 m0 _ q6) ?_
    refine gdT (miA c m0 e7) ?_
    obtain ⟨g10, h⟩ := p_gdE h
    refine gdT ⟨g10.1, by rw [mlA c m0 e7]; exact g10.2⟩ ?_
    try rw [mzA c m0 e7 (r8 : Int).toNat]
    obtain ⟨r13, q11, h⟩ := q_bvE h
    refine bdC (u_Mo_beyond c v2 0 (p_w ((m0 7 (r8 : Int).toNat) - 1)) m0 _ q11) ?_
    refine iteC Iff.rfl h (fun b15 h => ?_) (fun b15 h => ?_)
    · try rw [mr8 c m0]
      obtain ⟨r18, q16, h⟩ := q_bvE h
      refine bdC (u_Mo_g c v1 m0 _ q16) ?_
      refine gdT (miA c m0 e8) ?_
      obtain ⟨g20, h⟩ := p_gdE h
      refine gdT ⟨g20.1, by rw [mlA c m0 e8]; exact g20.2⟩ ?_
      try rw [mzA c m0 e8 ((p_w ((p_w (3 * r18)) + v2)) : Int).toNat]
      cases h
      rfl
    · cases h
      rfl
  · cases h
    rfl
def G_Mo_parcel (v1 : Int) (v2 : Int) (m0 : h_M) : Option Int :=
  q_bv (G_Mo_noParcel v1 m0) fun r3 =>
  if r3 = 0 then
    if v2 = 0 then
      p_gd ((0 : Int) ≤ v1 ∧ v1 < (2001 : Int)) <|
      some (m0 26 (v1 : Int).toNat)
    else if v2 = 1 then
      p_gd ((0 : Int) ≤ v1 ∧ v1 < (2001 : Int)) <|
      some (m0 27 (v1 : Int).toNat)
    else if v2 = 2 then
      p_gd ((0 : Int) ≤ v1 ∧ v1 < (2001 : Int)) <|
      some (m0 28 (v1 : Int).toNat)
    else if v2 = 3 then
      p_gd ((0 : Int) ≤ v1 ∧ v1 < (2001 : Int)) <|
      some (m0 29 (v1 : Int).toNat)
    else if v2 = 4 then
      p_gd ((0 : Int) ≤ v1 ∧ v1 < (2001 : Int)) <|
      some (m0 30 (v1 : Int).toNat)
    else if v2 = 5 then
      p_gd ((0 : Int) ≤ v1 ∧ v1 < (2001 : Int)) <|
      some (m0 33 (v1 : Int).toNat)
    else if v2 = 6 then
      p_gd ((0 : Int) ≤ v1 ∧ v1 < (2001 : Int)) <|
      if 0 ≤ (m0 31 (v1 : Int).toNat) then
        some (m0 31 (v1 : Int).toNat)
      else
        some (-9)
    else if v2 = 7 then
      p_gd ((0 : Int) ≤ v1 ∧ v1 < (2001 : Int)) <|
      if (m0 35 (v1 : Int).toNat) = 0 then
        some 0
      else
        some 1
    else 
    some (-2)
  else
    some (-1)
set_option maxRecDepth 100000 in
set_option maxHeartbeats 4000000 in
theorem u_Mo_parcel (c : h_C) (v1 : Int) (v2 : Int) (m0 : h_M) (r : Int) (h : G_Mo_parcel v1 v2 m0 = some r) : F_Mo_parcel 1125 v1 v2 (h_H c m0) = some (r, (h_H c m0)) := by
  unfold G_Mo_parcel at h
  unfold F_Mo_parcel
  refine gdT (miS c m0) ?_
  obtain ⟨r3, q1, h⟩ := q_bvE h
  refine bdC (u_Mo_noParcel c v1 m0 _ q1) ?_
  refine iteC Iff.rfl h (fun b5 h => ?_) (fun b5 h => ?_)
  · refine iteC Iff.rfl h (fun b6 h => ?_) (fun b6 h => ?_)
    · try rw [mr26 c m0]
      refine gdT (miA c m0 e26) ?_
      obtain ⟨g7, h⟩ := p_gdE h
      refine gdT ⟨g7.1, by rw [mlA c m0 e26]; exact g7.2⟩ ?_
      try rw [mzA c m0 e26 (v1 : Int).toNat]
      cases h
      rfl
    refine iteC Iff.rfl h (fun b8 h => ?_) (fun b8 h => ?_)
    · try rw [mr27 c m0]
      refine gdT (miA c m0 e27) ?_
      obtain ⟨g9, h⟩ := p_gdE h
      refine gdT ⟨g9.1, by rw [mlA c m0 e27]; exact g9.2⟩ ?_
      try rw [mzA c m0 e27 (v1 : Int).toNat]
      cases h
      rfl
    refine iteC Iff.rfl h (fun b10 h => ?_) (fun b10 h => ?_)
    · try rw [mr28 c m0]
      refine gdT (miA c m0 e28) ?_
      obtain ⟨g11, h⟩ := p_gdE h
      refine gdT ⟨g11.1, by rw [mlA c m0 e28]; exact g11.2⟩ ?_
      try rw [mzA c m0 e28 (v1 : Int).toNat]
      cases h
      rfl
    refine iteC Iff.rfl h (fun b12 h => ?_) (fun b12 h => ?_)
    · try rw [mr29 c m0]
      refine gdT (miA c m0 e29) ?_
      obtain ⟨g13, h⟩ := p_gdE h
      refine gdT ⟨g13.1, by rw [mlA c m0 e29]; exact g13.2⟩ ?_
      try rw [mzA c m0 e29 (v1 : Int).toNat]
      cases h
      rfl
    refine iteC Iff.rfl h (fun b14 h => ?_) (fun b14 h => ?_)
    · try rw [mr30 c m0]
      refine gdT (miA c m0 e30) ?_
      obtain ⟨g15, h⟩ := p_gdE h
      refine gdT ⟨g15.1, by rw [mlA c m0 e30]; exact g15.2⟩ ?_
      try rw [mzA c m0 e30 (v1 : Int).toNat]
      cases h
      rfl
    refine iteC Iff.rfl h (fun b16 h => ?_) (fun b16 h => ?_)
    · try rw [mr33 c m0]
      refine gdT (miA c m0 e33) ?_
      obtain ⟨g17, h⟩ := p_gdE h
      refine gdT ⟨g17.1, by rw [mlA c m0 e33]; exact g17.2⟩ ?_
      try rw [mzA c m0 e33 (v1 : Int).toNat]
      cases h
      rfl
    refine iteC Iff.rfl h (fun b18 h => ?_) (fun b18 h => ?_)
    · try rw [mr31 c m0]
      refine gdT (miA c m0 e31) ?_
      obtain ⟨g19, h⟩ := p_gdE h
      refine gdT ⟨g19.1, by rw [mlA c m0 e31]; exact g19.2⟩ ?_
      try rw [mzA c m0 e31 (v1 : Int).toNat]
      refine iteC Iff.rfl h (fun b20 h => ?_) (fun b20 h => ?_)
      · try rw [mr31 c m0]
        refine gdT ⟨g19.1, by rw [mlA c m0 e31]; exact g19.2⟩ ?_
        try rw [mzA c m0 e31 (v1 : Int).toNat]
        cases h
        rfl
      · cases h
        rfl
    refine iteC Iff.rfl h (fun b21 h => ?_) (fun b21 h => ?_)
    · try rw [mr35 c m0]
      refine gdT (miA c m0 e35) ?_
      obtain ⟨g22, h⟩ := p_gdE h
      refine gdT ⟨g22.1, by rw [mlA c m0 e35]; exact g22.2⟩ ?_
      try rw [mzA c m0 e35 (v1 : Int).toNat]
      refine iteC Iff.rfl h (fun b23 h => ?_) (fun b23 h => ?_)
      · cases h
        rfl
      · cases h
        rfl
    cases h
    rfl
  · cases h
    rfl
def GB_Mo_way_37  (v1 : Int) (v2 : Int) (w0 : Int) (w1 : Int) (w2 : Int) (m0 : h_M) : Option Int :=
  q_bv (G_Mo_beyond w2 w1 (p_w (w0 - 1)) m0) fun r3 =>
  if r3 = 0 then
    p_gd ((0 : Int) ≤ (p_w ((p_w (16 * v1)) + v2)) ∧ (p_w ((p_w (16 * v1)) + v2)) < (32016 : Int)) <|
    some (m0 34 ((p_w ((p_w (16 * v1)) + v2)) : Int).toNat)
  else
    some (-9)
def G_Mo_way (v1 : Int) (v2 : Int) (m0 : h_M) : Option Int :=
  q_bv (G_Mo_noParcel v1 m0) fun r3 =>
  if r3 = 0 then
    p_gd ((0 : Int) ≤ v1 ∧ v1 < (2001 : Int)) <|
    if 16 ≤ (m0 33 (v1 : Int).toNat) then
      GB_Mo_way_37 v1 v2 16 0 v2 m0
    else
      GB_Mo_way_37 v1 v2 (m0 33 (v1 : Int).toNat) 0 v2 m0
  else
    some (-1)
set_option maxRecDepth 100000 in
set_option maxHeartbeats 4000000 in
theorem uB_Mo_way_37 (c : h_C)  (v1 : Int) (v2 : Int) (w0 : Int) (w1 : Int) (w2 : Int) (m0 : h_M) (r : Int) (h : GB_Mo_way_37 v1 v2 w0 w1 w2 m0 = some r) : B_Mo_way_37 1125 v1 v2 w0 w1 w2 (h_H c m0) = some (r, (h_H c m0)) := by
  unfold GB_Mo_way_37 at h
  unfold B_Mo_way_37
  obtain ⟨r3, q1, h⟩ := q_bvE h
  refine bdC (u_Mo_beyond c w2 w1 (p_w (w0 - 1)) m0 _ q1) ?_
  refine iteC Iff.rfl h (fun b5 h => ?_) (fun b5 h => ?_)
  · refine gdT (miS c m0) ?_
    try rw [mr34 c m0]
    refine gdT (miA c m0 e34) ?_
    obtain ⟨g6, h⟩ := p_gdE h
    refine gdT ⟨g6.1, by rw [mlA c m0 e34]; exact g6.2⟩ ?_
    try rw [mzA c m0 e34 ((p_w ((p_w (16 * v1)) + v2)) : Int).toNat]
    cases h
    rfl
  · cases h
    rfl
set_option maxRecDepth 100000 in
set_option maxHeartbeats 4000000 in
theorem u_Mo_way (c : h_C) (v1 : Int) (v2 : Int) (m0 : h_M) (r : Int) (h : G_Mo_way v1 v2 m0 = some r) : F_Mo_way 1125 v1 v2 (h_H c m0) = some (r, (h_H c m0)) := by
  unfold G_Mo_way at h
  unfold F_Mo_way
  refine gdT (miS c m0) ?_
  obtain ⟨r3, q1, h⟩ := q_bvE h
  refine bdC (u_Mo_noParcel c v1 m0 _ q1) ?_
  refine iteC Iff.rfl h (fun b5 h => ?_) (fun b5 h => ?_)
  · try rw [mr33 c m0]
    refine gdT (miA c m0 e33) ?_
    obtain ⟨g6, h⟩ := p_gdE h
    refine gdT ⟨g6.1, by rw [mlA c m0 e33]; exact g6.2⟩ ?_
    try rw [mzA c m0 e33 (v1 : Int).toNat]
    refine iteC Iff.rfl h (fun b7 h => ?_) (fun b7 h => ?_)
    · exact uB_Mo_way_37 c v1 v2 16 0 v2 m0 _ h
    · try rw [mr33 c m0]
      refine gdT ⟨g6.1, by rw [mlA c m0 e33]; exact g6.2⟩ ?_
      try rw [mzA c m0 e33 (v1 : Int).toNat]
      exact uB_Mo_way_37 c v1 v2 (m0 33 (v1 : Int).toNat) 0 v2 m0 _ h
  · cases h
    rfl
def G_Mo_byteOf (v1 : Int) (v2 : Int) (m0 : h_M) : Option Int :=
  q_bv (G_Mo_noParcel v1 m0) fun r3 =>
  if r3 = 0 then
    p_gd ((0 : Int) ≤ v1 ∧ v1 < (2001 : Int)) <|
    q_bv (G_Mo_beyond v2 0 (p_w ((m0 31 (v1 : Int).toNat) - 1)) m0) fun r9 =>
    if r9 = 0 then
      p_gd ((0 : Int) ≤ (p_w ((p_w (12 * v1)) + v2)) ∧ (p_w ((p_w (12 * v1)) + v2)) < (24012 : Int)) <|
      some (m0 32 ((p_w ((p_w (12 * v1)) + v2)) : Int).toNat)
    else
      some (-9)
  else
    some (-1)
set_option maxRecDepth 100000 in
set_option maxHeartbeats 4000000 in
theorem u_Mo_byteOf (c : h_C) (v1 : Int) (v2 : Int) (m0 : h_M) (r : Int) (h : G_Mo_byteOf v1 v2 m0 = some r) : F_Mo_byteOf 1125 v1 v2 (h_H c m0) = some (r, (h_H c m0)) := by
  unfold G_Mo_byteOf at h
  unfold F_Mo_byteOf
  refine gdT (miS c m0) ?_
  obtain ⟨r3, q1, h⟩ := q_bvE h
  refine bdC (u_Mo_noParcel c v1 m0 _ q1) ?_
  refine iteC Iff.rfl h (fun b5 h => ?_) (fun b5 h => ?_)
  · try rw [mr31 c m0]
    refine gdT (miA c m0 e31) ?_
    obtain ⟨g6, h⟩ := p_gdE h
    refine gdT ⟨g6.1, by rw [mlA c m0 e31]; exact g6.2⟩ ?_
    try rw [mzA c m0 e31 (v1 : Int).toNat]
    obtain ⟨r9, q7, h⟩ := q_bvE h
    refine bdC (u_Mo_beyond c v2 0 (p_w ((m0 31 (v1 : Int).toNat) - 1)) m0 _ q7) ?_
    refine iteC Iff.rfl h (fun b11 h => ?_) (fun b11 h => ?_)
    · try rw [mr32 c m0]
      refine gdT (miA c m0 e32) ?_
      obtain ⟨g12, h⟩ := p_gdE h
      refine gdT ⟨g12.1, by rw [mlA c m0 e32]; exact g12.2⟩ ?_
      try rw [mzA c m0 e32 ((p_w ((p_w (12 * v1)) + v2)) : Int).toNat]
      cases h
      rfl
    · cases h
      rfl
  · cases h
    rfl
def G_Mo_left (v1 : Int) (m0 : h_M) : Option Int :=
  q_bv (G_Mo_beyond v1 1 (m0 123 0) m0) fun r3 =>
  if r3 = 0 then
    p_gd ((0 : Int) ≤ v1 ∧ v1 < (2001 : Int)) <|
    if (m0 25 (v1 : Int).toNat) ≠ 0 then
      if (m0 25 (v1 : Int).toNat) ≠ 1 then
        some (p_w ((p_w (1000 * (m0 24 (v1 : Int).toNat))) + (m0 37 (v1 : Int).toNat)))
      else
        some (p_w ((-10) - (m0 24 (v1 : Int).toNat)))
    else
      some (-9)
  else
    some (-1)
set_option maxRecDepth 100000 in
set_option maxHeartbeats 4000000 in
theorem u_Mo_left (c : h_C) (v1 : Int) (m0 : h_M) (r : Int) (h : G_Mo_left v1 m0 = some r) : F_Mo_left 1125 v1 (h_H c m0) = some (r, (h_H c m0)) := by
  unfold G_Mo_left at h
  unfold F_Mo_left
  refine gdT (miS c m0) ?_
  try rw [zs23 c m0]
  obtain ⟨r3, q1, h⟩ := q_bvE h
  refine bdC (u_Mo_beyond c v1 1 (m0 123 0) m0 _ q1) ?_
  refine iteC Iff.rfl h (fun b5 h => ?_) (fun b5 h => ?_)
  · try rw [mr25 c m0]
    refine gdT (miA c m0 e25) ?_
    obtain ⟨g6, h⟩ := p_gdE h
    refine gdT ⟨g6.1, by rw [mlA c m0 e25]; exact g6.2⟩ ?_
    try rw [mzA c m0 e25 (v1 : Int).toNat]
    refine iteC Iff.rfl h (fun b7 h => ?_) (fun b7 h => ?_)
    · try rw [mr25 c m0]
      refine gdT ⟨g6.1, by rw [mlA c m0 e25]; exact g6.2⟩ ?_
      try rw [mzA c m0 e25 (v1 : Int).toNat]
      refine iteC Iff.rfl h (fun b8 h => ?_) (fun b8 h => ?_)
      · try rw [mr24 c m0]
        refine gdT (miA c m0 e24) ?_
        refine gdT ⟨g6.1, by rw [mlA c m0 e24]; exact g6.2⟩ ?_
        try rw [mzA c m0 e24 (v1 : Int).toNat]
        try rw [mr37 c m0]
        refine gdT (miA c m0 e37) ?_
        refine gdT ⟨g6.1, by rw [mlA c m0 e37]; exact g6.2⟩ ?_
        try rw [mzA c m0 e37 (v1 : Int).toNat]
        cases h
        rfl
      · try rw [mr24 c m0]
        refine gdT (miA c m0 e24) ?_
        refine gdT ⟨g6.1, by rw [mlA c m0 e24]; exact g6.2⟩ ?_
        try rw [mzA c m0 e24 (v1 : Int).toNat]
        cases h
        rfl
    · cases h
      rfl
  · cases h
    rfl
def G_Mo_out (v1 : Int) (v2 : Int) (m0 : h_M) : Option Int :=
  if v1 < 0 then
    some (-9)
  else
    if 30 ≤ v1 then
      some (-9)
    else
      p_gd ((0 : Int) ≤ (m0 100 0) ∧ (m0 100 0) < (3 : Int)) <|
      if (m0 40 ((m0 100 0) : Int).toNat) ≤ v1 then
        some (-9)
      else
        q_bv (G_Mo_beyond v2 0 3 m0) fun r7 =>
        if r7 = 0 then
          p_gd ((0 : Int) ≤ (p_w ((p_w (4 * (p_w ((p_w (30 * (m0 100 0))) + (p_rem (p_w ((p_w ((m0 40 ((m0 100 0) : Int).toNat) - 1)) - v1)) 30))))) + v2)) ∧ (p_w ((p_w (4 * (p_w ((p_w (30 * (m0 100 0))) + (p_rem (p_w ((p_w ((m0 40 ((m0 100 0) : Int).toNat) - 1)) - v1)) 30))))) + v2)) < (360 : Int)) <|
          some (m0 41 ((p_w ((p_w (4 * (p_w ((p_w (30 * (m0 100 0))) + (p_rem (p_w ((p_w ((m0 40 ((m0 100 0) : Int).toNat) - 1)) - v1)) 30))))) + v2)) : Int).toNat)
        else
          some (-9)
set_option maxRecDepth 100000 in
set_option maxHeartbeats 4000000 in
theorem u_Mo_out (c : h_C) (v1 : Int) (v2 : Int) (m0 : h_M) (r : Int) (h : G_Mo_out v1 v2 m0 = some r) : F_Mo_out 1125 v1 v2 (h_H c m0) = some (r, (h_H c m0)) := by
  unfold G_Mo_out at h
  unfold F_Mo_out
  refine iteC Iff.rfl h (fun b1 h => ?_) (fun b1 h => ?_)
  · cases h
    rfl
  · refine iteC Iff.rfl h (fun b2 h => ?_) (fun b2 h => ?_)
    · cases h
      rfl
    · refine gdT (miS c m0) ?_
      try rw [mr40 c m0]
      try rw [zs0 c m0]
      refine gdT (miA c m0 e40) ?_
      obtain ⟨g3, h⟩ := p_gdE h
      refine gdT ⟨g3.1, by rw [mlA c m0 e40]; exact g3.2⟩ ?_
      try rw [mzA c m0 e40 ((m0 100 0) : Int).toNat]
      refine iteC Iff.rfl h (fun b4 h => ?_) (fun b4 h => ?_)
      · cases h
        rfl
      · obtain ⟨r7, q5, h⟩ := q_bvE h
        refine bdC (u_Mo_beyond c v2 0 3 m0 _ q5) ?_
        refine iteC Iff.rfl h (fun b9 h => ?_) (fun b9 h => ?_)
        · try rw [mr41 c m0]
          try rw [zs0 c m0]
          try rw [mr40 c m0]
          try rw [zs0 c m0]
          refine gdT (miA c m0 e40) ?_
          refine gdT ⟨g3.1, by rw [mlA c m0 e40]; exact g3.2⟩ ?_
          try rw [mzA c m0 e40 ((m0 100 0) : Int).toNat]
          refine gdT (miA c m0 e41) ?_
          obtain ⟨g10, h⟩ := p_gdE h
          refine gdT ⟨g10.1, by rw [mlA c m0 e41]; exact g10.2⟩ ?_
          try rw [mzA c m0 e41 ((p_w ((p_w (4 * (p_w ((p_w (30 * (m0 100 0))) + (p_rem (p_w ((p_w ((m0 40 ((m0 100 0) : Int).toNat) - 1)) - v1)) 30))))) + v2)) : Int).toNat]
          cases h
          rfl
        · cases h
          rfl
def G_Mo_rule_1 (v1 : Int) (v2 : Int) (m0 : h_M) : Option Int :=
  p_gd ((0 : Int) ≤ (m0 100 0) ∧ (m0 100 0) < (3 : Int)) <|
  q_bv (G_Mo_beyond v1 0 (p_w ((m0 48 ((m0 100 0) : Int).toNat) - 1)) m0) fun r4 =>
  if r4 ≠ 0 then
    some (-9)
  else
    q_bv (G_Mo_beyond v2 0 2 m0) fun r9 =>
    if r9 = 0 then
      p_bi ((p_w ((p_w (12 * (m0 100 0))) + v1))) fun x13 =>
      if v2 ≠ 0 then
        if v2 ≠ 1 then
          p_gd ((0 : Int) ≤ x13 ∧ x13 < (36 : Int)) <|
          some (m0 51 (x13 : Int).toNat)
        else
          p_gd ((0 : Int) ≤ x13 ∧ x13 < (36 : Int)) <|
          some (m0 50 (x13 : Int).toNat)
      else
        p_gd ((0 : Int) ≤ x13 ∧ x13 < (36 : Int)) <|
        some (m0 49 (x13 : Int).toNat)
    else
      some (-9)
set_option maxRecDepth 100000 in
set_option maxHeartbeats 4000000 in
theorem u_Mo_rule_1 (c : h_C) (v1 : Int) (v2 : Int) (m0 : h_M) (r : Int) (h : G_Mo_rule_1 v1 v2 m0 = some r) : F_Mo_rule_1 1125 v1 v2 (h_H c m0) = some (r, (h_H c m0)) := by
  unfold G_Mo_rule_1 at h
  unfold F_Mo_rule_1
  refine gdT (miS c m0) ?_
  try rw [mr48 c m0]
  try rw [zs0 c m0]
  refine gdT (miA c m0 e48) ?_
  obtain ⟨g1, h⟩ := p_gdE h
  refine gdT ⟨g1.1, by rw [mlA c m0 e48]; exact g1.2⟩ ?_
  try rw [mzA c m0 e48 ((m0 100 0) : Int).toNat]
  obtain ⟨r4, q2, h⟩ := q_bvE h
  refine bdC (u_Mo_beyond c v1 0 (p_w ((m0 48 ((m0 100 0) : Int).toNat) - 1)) m0 _ q2) ?_
  refine iteC Iff.rfl h (fun b6 h => ?_) (fun b6 h => ?_)
  · cases h
    rfl
  · obtain ⟨r9, q7, h⟩ := q_bvE h
    refine bdC (u_Mo_beyond c v2 0 2 m0 _ q7) ?_
    refine iteC Iff.rfl h (fun b11 h => ?_) (fun b11 h => ?_)
    · try rw [zs0 c m0]
      refine bV h ?_
      intro x13 h
      refine iteC Iff.rfl h (fun b14 h => ?_) (fun b14 h => ?_)
      · refine iteC Iff.rfl h (fun b15 h => ?_) (fun b15 h => ?_)
        · try rw [mr51 c m0]
          refine gdT (miA c m0 e51) ?_
          obtain ⟨g16, h⟩ := p_gdE h
          refine gdT ⟨g16.1, by rw [mlA c m0 e51]; exact g16.2⟩ ?_
          try rw [mzA c m0 e51 (x13 : Int).toNat]
          cases h
          rfl
        · try rw [mr50 c m0]
          refine gdT (miA c m0 e50) ?_
          obtain ⟨g17, h⟩ := p_gdE h
          refine gdT ⟨g17.1, by rw [mlA c m0 e50]; exact g17.2⟩ ?_
          try rw [mzA c m0 e50 (x13 : Int).toNat]
          cases h
          rfl
      · try rw [mr49 c m0]
        refine gdT (miA c m0 e49) ?_
        obtain ⟨g18, h⟩ := p_gdE h
        refine gdT ⟨g18.1, by rw [mlA c m0 e49]; exact g18.2⟩ ?_
        try rw [mzA c m0 e49 (x13 : Int).toNat]
        cases h
        rfl
    · cases h
      rfl
def GB_Mo_says_12   (m0 : h_M) : Option h_M :=
  p_bi (wm m0 186 0 (p_w ((m0 186 0) - 1))) fun m1 =>
  some m1
def G_Mo_says (v1 : Int) (m0 : h_M) : Option h_M :=
  if (m0 186 0) ≠ 0 then
    GB_Mo_says_12 m0
  else
    p_bi (wm m0 187 0 v1) fun m2 =>
    GB_Mo_says_12 m2
set_option maxRecDepth 100000 in
set_option maxHeartbeats 4000000 in
theorem uB_Mo_says_12 (c : h_C)   (m0 : h_M) (r : h_M) (h : GB_Mo_says_12  m0 = some r) : B_Mo_says_12 1125 (h_H c m0) = some (h_H c r) := by
  unfold GB_Mo_says_12 at h
  unfold B_Mo_says_12
  refine gdT (miS c m0) ?_
  try rw [zs86 c m0]
  refine bM (ws86 c m0 _) h ?_
  intro m1 h
  cases h
  rfl
set_option maxRecDepth 100000 in
set_option maxHeartbeats 4000000 in
theorem u_Mo_says (c : h_C) (v1 : Int) (m0 : h_M) (r : h_M) (h : G_Mo_says v1 m0 = some r) : F_Mo_says 1125 v1 (h_H c m0) = some (h_H c r) := by
  unfold G_Mo_says at h
  unfold F_Mo_says
  refine gdT (miS c m0) ?_
  try rw [zs86 c m0]
  refine iteC Iff.rfl h (fun b1 h => ?_) (fun b1 h => ?_)
  · exact uB_Mo_says_12 c m0 _ h
  · refine bM (ws87 c m0 _) h ?_
    intro m2 h
    exact uB_Mo_says_12 c m2 _ h
def GL_Mo_saysNumber_37 (k37 : Int → Int → h_M → Option h_M) (v1 : Int) (v2 : Int) (m0 : h_M) : Option h_M :=
  if v2 ≤ 0 then
    some m0
  else
    p_gd (v2 ≠ 0) <|
    q_bv (G_Mo_says (p_w (48 + (p_rem (p_div v1 v2) 10))) m0) fun m5 =>
    p_bi ((p_div v2 10)) fun x7 =>
    k37 v1 x7 m5
def GO_Mo_saysNumber_37  : Nat → Int → Int → h_M → Option h_M
  | 0 => fun _ _ _ => none
  | n + 1 => GL_Mo_saysNumber_37 (GO_Mo_saysNumber_37 n)
def GB_Mo_saysNumber_36  (v1 : Int) (w0 : Int) (m0 : h_M) : Option h_M :=
  GO_Mo_saysNumber_37 3000 v1 w0 m0
def G_Mo_saysNumber (v1 : Int) (m0 : h_M) : Option h_M :=
  if v1 ≤ 999 then
    if v1 ≤ 99 then
      if v1 ≤ 9 then
        GB_Mo_saysNumber_36 v1 1 m0
      else
        GB_Mo_saysNumber_36 v1 10 m0
    else
      GB_Mo_saysNumber_36 v1 100 m0
  else
    GB_Mo_saysNumber_36 v1 1000 m0
set_option maxRecDepth 100000 in
set_option maxHeartbeats 4000000 in
theorem uL_Mo_saysNumber_37 (c : h_C) (j37 : Nat → Int → Int → p_Hp → Option p_Hp) (k37 : Int → Int → h_M → Option h_M) (hk37 : ∀ (v1 : Int) (v2 : Int) (m0 : h_M) (r : h_M), k37 v1 v2 m0 = some r → j37 1125 v1 v2 (h_H c m0) = some (h_H c r)) (v1 : Int) (v2 : Int) (m0 : h_M) (r : h_M) (h : GL_Mo_saysNumber_37 k37 v1 v2 m0 = some r) : L_Mo_saysNumber_37 j37 1125 v1 v2 (h_H c m0) = some (h_H c r) := by
  unfold GL_Mo_saysNumber_37 at h
  unfold L_Mo_saysNumber_37
  refine iteC Iff.rfl h (fun b1 h => ?_) (fun b1 h => ?_)
  · cases h
    rfl
  · obtain ⟨g2, h⟩ := p_gdE h
    refine gdT g2 ?_
    refine gdT (miS c m0) ?_
    obtain ⟨m5, q3, h⟩ := q_bvE h
    refine bvC (u_Mo_says c (p_w (48 + (p_rem (p_div v1 v2) 10))) m0 _ q3) ?_
    refine bV h ?_
    intro x7 h
    exact hk37 v1 x7 m5 _ h
set_option maxRecDepth 100000 in
set_option maxHeartbeats 4000000 in
theorem uO_Mo_saysNumber_37 (c : h_C)  : ∀ (n : Nat) (v1 : Int) (v2 : Int) (m0 : h_M) (r : h_M), GO_Mo_saysNumber_37 n v1 v2 m0 = some r → O_Mo_saysNumber_37 n 1125 v1 v2 (h_H c m0) = some (h_H c r) := by
  intro n
  induction n with
  | zero => intro v1 v2 m0 r h; cases h
  | succ n ih => intro v1 v2 m0 r h; exact uL_Mo_saysNumber_37 c (O_Mo_saysNumber_37 n) (GO_Mo_saysNumber_37 n) ih v1 v2 m0 r h
set_option maxRecDepth 100000 in
set_option maxHeartbeats 4000000 in
theorem uB_Mo_saysNumber_36 (c : h_C)  (v1 : Int) (w0 : Int) (m0 : h_M) (r : h_M) (h : GB_Mo_saysNumber_36 v1 w0 m0 = some r) : B_Mo_saysNumber_36 1125 v1 w0 (h_H c m0) = some (h_H c r) := by
  unfold GB_Mo_saysNumber_36 at h
  unfold B_Mo_saysNumber_36
  exact uO_Mo_saysNumber_37 c 3000 v1 w0 m0 _ h
set_option maxRecDepth 100000 in
set_option maxHeartbeats 4000000 in
theorem u_Mo_saysNumber (c : h_C) (v1 : Int) (m0 : h_M) (r : h_M) (h : G_Mo_saysNumber v1 m0 = some r) : F_Mo_saysNumber 1125 v1 (h_H c m0) = some (h_H c r) := by
  unfold G_Mo_saysNumber at h
  unfold F_Mo_saysNumber
  refine iteC Iff.rfl h (fun b1 h => ?_) (fun b1 h => ?_)
  · refine iteC Iff.rfl h (fun b2 h => ?_) (fun b2 h => ?_)
    · refine iteC Iff.rfl h (fun b3 h => ?_) (fun b3 h => ?_)
      · exact uB_Mo_saysNumber_36 c v1 1 m0 _ h
      · exact uB_Mo_saysNumber_36 c v1 10 m0 _ h
    · exact uB_Mo_saysNumber_36 c v1 100 m0 _ h
  · exact uB_Mo_saysNumber_36 c v1 1000 m0 _ h
def GB_Mo_said_109 (k26 : Int → h_M → Option (Int × h_M)) (k51 : Int → Int → h_M → Option (Int × h_M)) (v2 : Int) (v3 : Int) (m0 : h_M) : Option (Int × h_M) :=
  p_gd ((0 : Int) ≤ v3 ∧ v3 < (144 : Int)) <|
  q_bv (G_Mo_says (m0 54 (v3 : Int).toNat) m0) fun m4 =>
  q_bv (G_Mo_saysNumber (m4 55 (v3 : Int).toNat) m4) fun m7 =>
  p_bi (p_w (v3 + 1)) fun x8 =>
  k51 v2 x8 m7
def GB_Mo_said_78 (k26 : Int → h_M → Option (Int × h_M)) (k51 : Int → Int → h_M → Option (Int × h_M)) (v2 : Int) (v3 : Int) (m0 : h_M) : Option (Int × h_M) :=
  p_gd ((0 : Int) ≤ v3 ∧ v3 < (144 : Int)) <|
  q_bv (G_Mo_says (m0 52 (v3 : Int).toNat) m0) fun m4 =>
  if (m4 52 (v3 : Int).toNat) ≠ 81 then
    GB_Mo_said_109 k26 k51 v2 v3 m4
  else
    q_bv (G_Mo_saysNumber (m4 53 (v3 : Int).toNat) m4) fun m8 =>
    GB_Mo_said_109 k26 k51 v2 v3 m8
def GL_Mo_said_51 (k26 : Int → h_M → Option (Int × h_M)) (k51 : Int → Int → h_M → Option (Int × h_M)) (v2 : Int) (v3 : Int) (m0 : h_M) : Option (Int × h_M) :=
  p_gd ((0 : Int) ≤ v2 ∧ v2 < (36 : Int)) <|
  if (p_w ((p_w (4 * v2)) + (m0 50 (v2 : Int).toNat))) ≤ v3 then
    q_bv (G_Mo_says 58 m0) fun m5 =>
    q_bv (G_Mo_saysNumber (m5 49 (v2 : Int).toNat) m5) fun m8 =>
    q_bv (G_Mo_says 59 m8) fun m11 =>
    p_bi (p_w (v2 + 1)) fun x12 =>
    k26 x12 m11
  else
    if v3 ≤ (p_w (4 * v2)) then
      GB_Mo_said_78 k26 k51 v2 v3 m0
    else
      q_bv (G_Mo_says 44 m0) fun m17 =>
      GB_Mo_said_78 k26 k51 v2 v3 m17
def GO_Mo_said_51 (k26 : Int → h_M → Option (Int × h_M)) : Nat → Int → Int → h_M → Option (Int × h_M)
  | 0 => fun _ _ _ => none
  | n + 1 => GL_Mo_said_51 k26 (GO_Mo_said_51 k26 n)
def GL_Mo_said_26 (k26 : Int → h_M → Option (Int × h_M)) (v2 : Int) (m0 : h_M) : Option (Int × h_M) :=
  p_gd ((0 : Int) ≤ (m0 100 0) ∧ (m0 100 0) < (3 : Int)) <|
  if (p_w ((p_w (12 * (m0 100 0))) + (m0 48 ((m0 100 0) : Int).toNat))) ≤ v2 then
    some ((m0 187 0), m0)
  else
    p_bi ((p_w (4 * v2))) fun x4 =>
    GO_Mo_said_51 k26 3000 v2 x4 m0
def GO_Mo_said_26  : Nat → Int → h_M → Option (Int × h_M)
  | 0 => fun _ _ => none
  | n + 1 => GL_Mo_said_26 (GO_Mo_said_26 n)
def G_Mo_said (v1 : Int) (m0 : h_M) : Option (Int × h_M) :=
  if 0 ≤ v1 then
    p_bi (wm m0 186 0 v1) fun m2 =>
    p_bi (wm m2 187 0 (-9)) fun m4 =>
    p_bi ((p_w (12 * (m4 100 0)))) fun x7 =>
    GO_Mo_said_26 3000 x7 m4
  else
    some ((-9), m0)
set_option maxRecDepth 100000 in
set_option maxHeartbeats 4000000 in
theorem uB_Mo_said_109 (c : h_C) (j26 : Nat → Int → p_Hp → Option (Int × p_Hp)) (k26 : Int → h_M → Option (Int × h_M)) (hk26 : ∀ (v2 : Int) (m0 : h_M) (r : (Int × h_M)), k26 v2 m0 = some r → j26 1125 v2 (h_H c m0) = some (r.1, (h_H c r.2))) (j51 : Nat → Int → Int → p_Hp → Option (Int × p_Hp)) (k51 : Int → Int → h_M → Option (Int × h_M)) (hk51 : ∀ (v2 : Int) (v3 : Int) (m0 : h_M) (r : (Int × h_M)), k51 v2 v3 m0 = some r → j51 1125 v2 v3 (h_H c m0) = some (r.1, (h_H c r.2))) (v2 : Int) (v3 : Int) (m0 : h_M) (r : (Int × h_M)) (h : GB_Mo_said_109 k26 k51 v2 v3 m0 = some r) : B_Mo_said_109 j26 j51 1125 v2 v3 (h_H c m0) = some (r.1, (h_H c r.2)) := by
  unfold GB_Mo_said_109 at h
  unfold B_Mo_said_109
  refine gdT (miS c m0) ?_
  try rw [mr54 c m0]
  refine gdT (miA c m0 e54) ?_
  obtain ⟨g1, h⟩ := p_gdE h
  refine gdT ⟨g1.1, by rw [mlA c m0 e54]; exact g1.2⟩ ?_
  try rw [mzA c m0 e54 (v3 : Int).toNat]
  obtain ⟨m4, q2, h⟩ := q_bvE h
  refine bvC (u_Mo_says c (m0 54 (v3 : Int).toNat) m0 _ q2) ?_
  try rw [mr55 c m4]
  refine gdT (miA c m4 e55) ?_
  refine gdT ⟨g1.1, by rw [mlA c m4 e55]; exact g1.2⟩ ?_
  try rw [mzA c m4 e55 (v3 : Int).toNat]
  obtain ⟨m7, q5, h⟩ := q_bvE h
  refine bvC (u_Mo_saysNumber c (m4 55 (v3 : Int).toNat) m4 _ q5) ?_
  refine bV h ?_
  intro x8 h
  exact hk51 v2 x8 m7 _ h
set_option maxRecDepth 100000 in
set_option maxHeartbeats 4000000 in
theorem uB_Mo_said_78 (c : h_C) (j26 : Nat → Int → p_Hp → Option (Int × p_Hp)) (k26 : Int → h_M → Option (Int × h_M)) (hk26 : ∀ (v2 : Int) (m0 : h_M) (r : (Int × h_M)), k26 v2 m0 = some r → j26 1125 v2 (h_H c m0) = some (r.1, (h_H c r.2))) (j51 : Nat → Int → Int → p_Hp → Option (Int × p_Hp)) (k51 : Int → Int → h_M → Option (Int × h_M)) (hk51 : ∀ (v2 : Int) (v3 : Int) (m0 : h_M) (r : (Int × h_M)), k51 v2 v3 m0 = some r → j51 1125 v2 v3 (h_H c m0) = some (r.1, (h_H c r.2))) (v2 : Int) (v3 : Int) (m0 : h_M) (r : (Int × h_M)) (h : GB_Mo_said_78 k26 k51 v2 v3 m0 = some r) : B_Mo_said_78 j26 j51 1125 v2 v3 (h_H c m0) = some (r.1, (h_H c r.2)) := by
  unfold GB_Mo_said_78 at h
  unfold B_Mo_said_78
  refine gdT (miS c m0) ?_
  try rw [mr52 c m0]
  refine gdT (miA c m0 e52) ?_
  obtain ⟨g1, h⟩ := p_gdE h
  refine gdT ⟨g1.1, by rw [mlA c m0 e52]; exact g1.2⟩ ?_
  try rw [mzA c m0 e52 (v3 : Int).toNat]
  obtain ⟨m4, q2, h⟩ := q_bvE h
  refine bvC (u_Mo_says c (m0 52 (v3 : Int).toNat) m0 _ q2) ?_
  try rw [mr52 c m4]
  refine gdT (miA c m4 e52) ?_
  refine gdT ⟨g1.1, by rw [mlA c m4 e52]; exact g1.2⟩ ?_
  try rw [mzA c m4 e52 (v3 : Int).toNat]
  refine iteC Iff.rfl h (fun b5 h => ?_) (fun b5 h => ?_)
  · exact uB_Mo_said_109 c j26 k26 hk26 j51 k51 hk51 v2 v3 m4 _ h
  · try rw [mr53 c m4]
    refine gdT (miA c m4 e53) ?_
    refine gdT ⟨g1.1, by rw [mlA c m4 e53]; exact g1.2⟩ ?_
    try rw [mzA c m4 e53 (v3 : Int).toNat]
    obtain ⟨m8, q6, h⟩ := q_bvE h
    refine bvC (u_Mo_saysNumber c (m4 53 (v3 : Int).toNat) m4 _ q6) ?_
    exact uB_Mo_said_109 c j26 k26 hk26 j51 k51 hk51 v2 v3 m8 _ h
set_option maxRecDepth 100000 in
set_option maxHeartbeats 4000000 in
theorem uL_Mo_said_51 (c : h_C) (j26 : Nat → Int → p_Hp → Option (Int × p_Hp)) (k26 : Int → h_M → Option (Int × h_M)) (hk26 : ∀ (v2 : Int) (m0 : h_M) (r : (Int × h_M)), k26 v2 m0 = some r → j26 1125 v2 (h_H c m0) = some (r.1, (h_H c r.2))) (j51 : Nat → Int → Int → p_Hp → Option (Int × p_Hp)) (k51 : Int → Int → h_M → Option (Int × h_M)) (hk51 : ∀ (v2 : Int) (v3 : Int) (m0 : h_M) (r : (Int × h_M)), k51 v2 v3 m0 = some r → j51 1125 v2 v3 (h_H c m0) = some (r.1, (h_H c r.2))) (v2 : Int) (v3 : Int) (m0 : h_M) (r : (Int × h_M)) (h : GL_Mo_said_51 k26 k51 v2 v3 m0 = some r) : L_Mo_said_51 j26 j51 1125 v2 v3 (h_H c m0) = some (r.1, (h_H c r.2)) := by
  unfold GL_Mo_said_51 at h
  unfold L_Mo_said_51
  refine gdT (miS c m0) ?_
  try rw [mr50 c m0]
  refine gdT (miA c m0 e50) ?_
  obtain ⟨g1, h⟩ := p_gdE h
  refine gdT ⟨g1.1, by rw [mlA c m0 e50]; exact g1.2⟩ ?_
  try rw [mzA c m0 e50 (v2 : Int).toNat]
  refine iteC Iff.rfl h (fun b2 h => ?_) (fun b2 h => ?_)
  · obtain ⟨m5, q3, h⟩ := q_bvE h
    refine bvC (u_Mo_says c 58 m0 _ q3) ?_
    try rw [mr49 c m5]
    refine gdT (miA c m5 e49) ?_
    refine gdT ⟨g1.1, by rw [mlA c m5 e49]; exact g1.2⟩ ?_
    try rw [mzA c m5 e49 (v2 : Int).toNat]
    obtain ⟨m8, q6, h⟩ := q_bvE h
    refine bvC (u_Mo_saysNumber c (m5 49 (v2 : Int).toNat) m5 _ q6) ?_
    obtain ⟨m11, q9, h⟩ := q_bvE h
    refine bvC (u_Mo_says c 59 m8 _ q9) ?_
    refine bV h ?_
    intro x12 h
    exact hk26 x12 m11 _ h
  · refine iteC Iff.rfl h (fun b14 h => ?_) (fun b14 h => ?_)
    · exact uB_Mo_said_78 c j26 k26 hk26 j51 k51 hk51 v2 v3 m0 _ h
    · obtain ⟨m17, q15, h⟩ := q_bvE h
      refine bvC (u_Mo_says c 44 m0 _ q15) ?_
      exact uB_Mo_said_78 c j26 k26 hk26 j51 k51 hk51 v2 v3 m17 _ h
set_option maxRecDepth 100000 in
set_option maxHeartbeats 4000000 in
theorem uO_Mo_said_51 (c : h_C) (j26 : Nat → Int → p_Hp → Option (Int × p_Hp)) (k26 : Int → h_M → Option (Int × h_M)) (hk26 : ∀ (v2 : Int) (m0 : h_M) (r : (Int × h_M)), k26 v2 m0 = some r → j26 1125 v2 (h_H c m0) = some (r.1, (h_H c r.2))) : ∀ (n : Nat) (v2 : Int) (v3 : Int) (m0 : h_M) (r : (Int × h_M)), GO_Mo_said_51 k26 n v2 v3 m0 = some r → O_Mo_said_51 j26 n 1125 v2 v3 (h_H c m0) = some (r.1, (h_H c r.2)) := by
  intro n
  induction n with
  | zero => intro v2 v3 m0 r h; cases h
  | succ n ih => intro v2 v3 m0 r h; exact uL_Mo_said_51 c j26 k26 hk26 (O_Mo_said_51 j26 n) (GO_Mo_said_51 k26 n) ih v2 v3 m0 r h
set_option maxRecDepth 100000 in
set_option maxHeartbeats 4000000 in
theorem uL_Mo_said_26 (c : h_C) (j26 : Nat → Int → p_Hp → Option (Int × p_Hp)) (k26 : Int → h_M → Option (Int × h_M)) (hk26 : ∀ (v2 : Int) (m0 : h_M) (r : (Int × h_M)), k26 v2 m0 = some r → j26 1125 v2 (h_H c m0) = some (r.1, (h_H c r.2))) (v2 : Int) (m0 : h_M) (r : (Int × h_M)) (h : GL_Mo_said_26 k26 v2 m0 = some r) : L_Mo_said_26 j26 1125 v2 (h_H c m0) = some (r.1, (h_H c r.2)) := by
  unfold GL_Mo_said_26 at h
  unfold L_Mo_said_26
  refine gdT (miS c m0) ?_
  try rw [zs0 c m0]
  try rw [mr48 c m0]
  try rw [zs0 c m0]
  refine gdT (miA c m0 e48) ?_
  obtain ⟨g1, h⟩ := p_gdE h
  refine gdT ⟨g1.1, by rw [mlA c m0 e48]; exact g1.2⟩ ?_
  try rw [mzA c m0 e48 ((m0 100 0) : Int).toNat]
  refine iteC Iff.rfl h (fun b2 h => ?_) (fun b2 h => ?_)
  · try rw [zs87 c m0]
    cases h
    rfl
  · refine bV h ?_
    intro x4 h
    exact uO_Mo_said_51 c j26 k26 hk26 3000 v2 x4 m0 _ h
set_option maxRecDepth 100000 in
set_option maxHeartbeats 4000000 in
theorem uO_Mo_said_26 (c : h_C)  : ∀ (n : Nat) (v2 : Int) (m0 : h_M) (r : (Int × h_M)), GO_Mo_said_26 n v2 m0 = some r → O_Mo_said_26 n 1125 v2 (h_H c m0) = some (r.1, (h_H c r.2)) := by
  intro n
  induction n with
  | zero => intro v2 m0 r h; cases h
  | succ n ih => intro v2 m0 r h; exact uL_Mo_said_26 c (O_Mo_said_26 n) (GO_Mo_said_26 n) ih v2 m0 r h
set_option maxRecDepth 100000 in
set_option maxHeartbeats 4000000 in
theorem u_Mo_said (c : h_C) (v1 : Int) (m0 : h_M) (r : (Int × h_M)) (h : G_Mo_said v1 m0 = some r) : F_Mo_said 1125 v1 (h_H c m0) = some (r.1, (h_H c r.2)) := by
  unfold G_Mo_said at h
  unfold F_Mo_said
  refine iteC Iff.rfl h (fun b1 h => ?_) (fun b1 h => ?_)
  · refine gdT (miS c m0) ?_
    refine bM (ws86 c m0 _) h ?_
    intro m2 h
    refine bM (ws87 c m2 _) h ?_
    intro m4 h
    try rw [zs0 c m4]
    refine bV h ?_
    intro x7 h
    exact uO_Mo_said_26 c 3000 x7 m4 _ h
  · cases h
    rfl
def GB_Mo_unused_43 (k4 : Int → Int → h_M → Option Int) (v2 : Int) (v3 : Int) (m0 : h_M) : Option Int :=
  p_bi (p_w (v3 + 1)) fun x1 =>
  k4 v2 x1 m0
def GL_Mo_unused_4 (k4 : Int → Int → h_M → Option Int) (v2 : Int) (v3 : Int) (m0 : h_M) : Option Int :=
  p_gd ((0 : Int) ≤ (m0 100 0) ∧ (m0 100 0) < (3 : Int)) <|
  if (m0 48 ((m0 100 0) : Int).toNat) ≤ v3 then
    some (-9)
  else
    p_gd ((0 : Int) ≤ (p_w ((p_w (12 * (m0 100 0))) + v3)) ∧ (p_w ((p_w (12 * (m0 100 0))) + v3)) < (36 : Int)) <|
    if (m0 51 ((p_w ((p_w (12 * (m0 100 0))) + v3)) : Int).toNat) ≠ 0 then
      GB_Mo_unused_43 k4 v2 v3 m0
    else
      if v2 ≠ 0 then
        p_bi (p_w (v2 + (-1))) fun x6 =>
        GB_Mo_unused_43 k4 x6 v3 m0
      else
        some v3
def GO_Mo_unused_4  : Nat → Int → Int → h_M → Option Int
  | 0 => fun _ _ _ => none
  | n + 1 => GL_Mo_unused_4 (GO_Mo_unused_4 n)
def G_Mo_unused (v1 : Int) (m0 : h_M) : Option Int :=
  GO_Mo_unused_4 3000 v1 0 m0
set_option maxRecDepth 100000 in
set_option maxHeartbeats 4000000 in
theorem uB_Mo_unused_43 (c : h_C) (j4 : Nat → Int → Int → p_Hp → Option (Int × p_Hp)) (k4 : Int → Int → h_M → Option Int) (hk4 : ∀ (v2 : Int) (v3 : Int) (m0 : h_M) (r : Int), k4 v2 v3 m0 = some r → j4 1125 v2 v3 (h_H c m0) = some (r, (h_H c m0))) (v2 : Int) (v3 : Int) (m0 : h_M) (r : Int) (h : GB_Mo_unused_43 k4 v2 v3 m0 = some r) : B_Mo_unused_43 j4 1125 v2 v3 (h_H c m0) = some (r, (h_H c m0)) := by
  unfold GB_Mo_unused_43 at h
  unfold B_Mo_unused_43
  refine bV h ?_
  intro x1 h
  exact hk4 v2 x1 m0 _ h
set_option maxRecDepth 100000 in
set_option maxHeartbeats 4000000 in
theorem uL_Mo_unused_4 (c : h_C) (j4 : Nat → Int → Int → p_Hp → Option (Int × p_Hp)) (k4 : Int → Int → h_M → Option Int) (hk4 : ∀ (v2 : Int) (v3 : Int) (m0 : h_M) (r : Int), k4 v2 v3 m0 = some r → j4 1125 v2 v3 (h_H c m0) = some (r, (h_H c m0))) (v2 : Int) (v3 : Int) (m0 : h_M) (r : Int) (h : GL_Mo_unused_4 k4 v2 v3 m0 = some r) : L_Mo_unused_4 j4 1125 v2 v3 (h_H c m0) = some (r, (h_H c m0)) := by
  unfold GL_Mo_unused_4 at h
  unfold L_Mo_unused_4
  refine gdT (miS c m0) ?_
  try rw [mr48 c m0]
  try rw [zs0 c m0]
  refine gdT (miA c m0 e48) ?_
  obtain ⟨g1, h⟩ := p_gdE h
  refine gdT ⟨g1.1, by rw [mlA c m0 e48]; exact g1.2⟩ ?_
  try rw [mzA c m0 e48 ((m0 100 0) : Int).toNat]
  refine iteC Iff.rfl h (fun b2 h => ?_) (fun b2 h => ?_)
  · cases h
    rfl
  · try rw [mr51 c m0]
    try rw [zs0 c m0]
    refine gdT (miA c m0 e51) ?_
    obtain ⟨g3, h⟩ := p_gdE h
    refine gdT ⟨g3.1, by rw [mlA c m0 e51]; exact g3.2⟩ ?_
    try rw [mzA c m0 e51 ((p_w ((p_w (12 * (m0 100 0))) + v3)) : Int).toNat]
    refine iteC Iff.rfl h (fun b4 h => ?_) (fun b4 h => ?_)
    · exact uB_Mo_unused_43 c j4 k4 hk4 v2 v3 m0 _ h
    · refine iteC Iff.rfl h (fun b5 h => ?_) (fun b5 h => ?_)
      · refine bV h ?_
        intro x6 h
        exact uB_Mo_unused_43 c j4 k4 hk4 x6 v3 m0 _ h
      · cases h
        rfl
set_option maxRecDepth 100000 in
set_option maxHeartbeats 4000000 in
theorem uO_Mo_unused_4 (c : h_C)  : ∀ (n : Nat) (v2 : Int) (v3 : Int) (m0 : h_M) (r : Int), GO_Mo_unused_4 n v2 v3 m0 = some r → O_Mo_unused_4 n 1125 v2 v3 (h_H c m0) = some (r, (h_H c m0)) := by
  intro n
  induction n with
  | zero => intro v2 v3 m0 r h; cases h
  | succ n ih => intro v2 v3 m0 r h; exact uL_Mo_unused_4 c (O_Mo_unused_4 n) (GO_Mo_unused_4 n) ih v2 v3 m0 r h
set_option maxRecDepth 100000 in
set_option maxHeartbeats 4000000 in
theorem u_Mo_unused (c : h_C) (v1 : Int) (m0 : h_M) (r : Int) (h : G_Mo_unused v1 m0 = some r) : F_Mo_unused 1125 v1 (h_H c m0) = some (r, (h_H c m0)) := by
  unfold G_Mo_unused at h
  unfold F_Mo_unused
  exact uO_Mo_unused_4 c 3000 v1 0 m0 _ h
def G_Mo_finding (v1 : Int) (v2 : Int) (m0 : h_M) : Option Int :=
  if v1 < 0 then
    some (-9)
  else
    if 40 ≤ v1 then
      some (-9)
    else
      p_gd ((0 : Int) ≤ (m0 100 0) ∧ (m0 100 0) < (3 : Int)) <|
      if (m0 42 ((m0 100 0) : Int).toNat) ≤ v1 then
        some (-9)
      else
        q_bv (G_Mo_beyond v2 0 4 m0) fun r7 =>
        if r7 = 0 then
          p_gd ((0 : Int) ≤ (p_w ((p_w (5 * (p_w ((p_w (40 * (m0 100 0))) + (p_rem (p_w ((p_w ((m0 42 ((m0 100 0) : Int).toNat) - 1)) - v1)) 40))))) + v2)) ∧ (p_w ((p_w (5 * (p_w ((p_w (40 * (m0 100 0))) + (p_rem (p_w ((p_w ((m0 42 ((m0 100 0) : Int).toNat) - 1)) - v1)) 40))))) + v2)) < (600 : Int)) <|
          some (m0 43 ((p_w ((p_w (5 * (p_w ((p_w (40 * (m0 100 0))) + (p_rem (p_w ((p_w ((m0 42 ((m0 100 0) : Int).toNat) - 1)) - v1)) 40))))) + v2)) : Int).toNat)
        else
          some (-9)
set_option maxRecDepth 100000 in
set_option maxHeartbeats 4000000 in
theorem u_Mo_finding (c : h_C) (v1 : Int) (v2 : Int) (m0 : h_M) (r : Int) (h : G_Mo_finding v1 v2 m0 = some r) : F_Mo_finding 1125 v1 v2 (h_H c m0) = some (r, (h_H c m0)) := by
  unfold G_Mo_finding at h
  unfold F_Mo_finding
  refine iteC Iff.rfl h (fun b1 h => ?_) (fun b1 h => ?_)
  · cases h
    rfl
  · refine iteC Iff.rfl h (fun b2 h => ?_) (fun b2 h => ?_)
    · cases h
      rfl
    · refine gdT (miS c m0) ?_
      try rw [mr42 c m0]
      try rw [zs0 c m0]
      refine gdT (miA c m0 e42) ?_
      obtain ⟨g3, h⟩ := p_gdE h
      refine gdT ⟨g3.1, by rw [mlA c m0 e42]; exact g3.2⟩ ?_
      try rw [mzA c m0 e42 ((m0 100 0) : Int).toNat]
      refine iteC Iff.rfl h (fun b4 h => ?_) (fun b4 h => ?_)
      · cases h
        rfl
      · obtain ⟨r7, q5, h⟩ := q_bvE h
        refine bdC (u_Mo_beyond c v2 0 4 m0 _ q5) ?_
        refine iteC Iff.rfl h (fun b9 h => ?_) (fun b9 h => ?_)
        · try rw [mr43 c m0]
          try rw [zs0 c m0]
          try rw [mr42 c m0]
          try rw [zs0 c m0]
          refine gdT (miA c m0 e42) ?_
          refine gdT ⟨g3.1, by rw [mlA c m0 e42]; exact g3.2⟩ ?_
          try rw [mzA c m0 e42 ((m0 100 0) : Int).toNat]
          refine gdT (miA c m0 e43) ?_
          obtain ⟨g10, h⟩ := p_gdE h
          refine gdT ⟨g10.1, by rw [mlA c m0 e43]; exact g10.2⟩ ?_
          try rw [mzA c m0 e43 ((p_w ((p_w (5 * (p_w ((p_w (40 * (m0 100 0))) + (p_rem (p_w ((p_w ((m0 42 ((m0 100 0) : Int).toNat) - 1)) - v1)) 40))))) + v2)) : Int).toNat]
          cases h
          rfl
        · cases h
          rfl
def GB_Mo_trace_23   (m0 : h_M) : Option Int :=
  some (-9)
def G_Mo_trace (v1 : Int) (m0 : h_M) : Option Int :=
  if v1 < 0 then
    GB_Mo_trace_23 m0
  else
    if 60 ≤ v1 then
      GB_Mo_trace_23 m0
    else
      p_gd ((0 : Int) ≤ (m0 100 0) ∧ (m0 100 0) < (3 : Int)) <|
      if v1 < (m0 44 ((m0 100 0) : Int).toNat) then
        p_gd ((0 : Int) ≤ (p_w ((p_w (60 * (m0 100 0))) + v1)) ∧ (p_w ((p_w (60 * (m0 100 0))) + v1)) < (180 : Int)) <|
        some (m0 45 ((p_w ((p_w (60 * (m0 100 0))) + v1)) : Int).toNat)
      else
        GB_Mo_trace_23 m0
set_option maxRecDepth 100000 in
set_option maxHeartbeats 4000000 in
theorem uB_Mo_trace_23 (c : h_C)   (m0 : h_M) (r : Int) (h : GB_Mo_trace_23  m0 = some r) : B_Mo_trace_23  (h_H c m0) = some (r, (h_H c m0)) := by
  unfold GB_Mo_trace_23 at h
  unfold B_Mo_trace_23
  cases h
  rfl
set_option maxRecDepth 100000 in
set_option maxHeartbeats 4000000 in
theorem u_Mo_trace (c : h_C) (v1 : Int) (m0 : h_M) (r : Int) (h : G_Mo_trace v1 m0 = some r) : F_Mo_trace 1125 v1 (h_H c m0) = some (r, (h_H c m0)) := by
  unfold G_Mo_trace at h
  unfold F_Mo_trace
  refine iteC Iff.rfl h (fun b1 h => ?_) (fun b1 h => ?_)
  · exact uB_Mo_trace_23 c m0 _ h
  · refine iteC Iff.rfl h (fun b2 h => ?_) (fun b2 h => ?_)
    · exact uB_Mo_trace_23 c m0 _ h
    · refine gdT (miS c m0) ?_
      try rw [mr44 c m0]
      try rw [zs0 c m0]
      refine gdT (miA c m0 e44) ?_
      obtain ⟨g3, h⟩ := p_gdE h
      refine gdT ⟨g3.1, by rw [mlA c m0 e44]; exact g3.2⟩ ?_
      try rw [mzA c m0 e44 ((m0 100 0) : Int).toNat]
      refine iteC Iff.rfl h (fun b4 h => ?_) (fun b4 h => ?_)
      · try rw [mr45 c m0]
        try rw [zs0 c m0]
        refine gdT (miA c m0 e45) ?_
        obtain ⟨g5, h⟩ := p_gdE h
        refine gdT ⟨g5.1, by rw [mlA c m0 e45]; exact g5.2⟩ ?_
        try rw [mzA c m0 e45 ((p_w ((p_w (60 * (m0 100 0))) + v1)) : Int).toNat]
        cases h
        rfl
      · exact uB_Mo_trace_23 c m0 _ h
def GB_Mo_jam_38 (k4 : Int → Int → h_M → Option Int) (v2 : Int) (v3 : Int) (m0 : h_M) : Option Int :=
  p_bi (p_w (v3 + 1)) fun x1 =>
  k4 v2 x1 m0
def GL_Mo_jam_4 (k4 : Int → Int → h_M → Option Int) (v2 : Int) (v3 : Int) (m0 : h_M) : Option Int :=
  p_gd ((0 : Int) ≤ (m0 100 0) ∧ (m0 100 0) < (3 : Int)) <|
  if (m0 3 ((m0 100 0) : Int).toNat) ≤ v3 then
    some (-9)
  else
    q_bv (G_Mo_g v3 m0) fun r5 =>
    q_bv (G_Mo_isJammed r5 m0) fun r9 =>
    if r9 = 0 then
      GB_Mo_jam_38 k4 v2 v3 m0
    else
      if v2 ≠ 0 then
        p_bi (p_w (v2 + (-1))) fun x13 =>
        GB_Mo_jam_38 k4 x13 v3 m0
      else
        some v3
def GO_Mo_jam_4  : Nat → Int → Int → h_M → Option Int
  | 0 => fun _ _ _ => none
  | n + 1 => GL_Mo_jam_4 (GO_Mo_jam_4 n)
def G_Mo_jam (v1 : Int) (m0 : h_M) : Option Int :=
  GO_Mo_jam_4 3000 v1 0 m0
set_option maxRecDepth 100000 in
set_option maxHeartbeats 4000000 in
theorem uB_Mo_jam_38 (c : h_C) (j4 : Nat → Int → Int → p_Hp → Option (Int × p_Hp)) (k4 : Int → Int → h_M → Option Int) (hk4 : ∀ (v2 : Int) (v3 : Int) (m0 : h_M) (r : Int), k4 v2 v3 m0 = some r → j4 1125 v2 v3 (h_H c m0) = some (r, (h_H c m0))) (v2 : Int) (v3 : Int) (m0 : h_M) (r : Int) (h : GB_Mo_jam_38 k4 v2 v3 m0 = some r) : B_Mo_jam_38 j4 1125 v2 v3 (h_H c m0) = some (r, (h_H c m0)) := by
  unfold GB_Mo_jam_38 at h
  unfold B_Mo_jam_38
  refine bV h ?_
  intro x1 h
  exact hk4 v2 x1 m0 _ h
set_option maxRecDepth 100000 in
set_option maxHeartbeats 4000000 in
theorem uL_Mo_jam_4 (c : h_C) (j4 : Nat → Int → Int → p_Hp → Option (Int × p_Hp)) (k4 : Int → Int → h_M → Option Int) (hk4 : ∀ (v2 : Int) (v3 : Int) (m0 : h_M) (r : Int), k4 v2 v3 m0 = some r → j4 1125 v2 v3 (h_H c m0) = some (r, (h_H c m0))) (v2 : Int) (v3 : Int) (m0 : h_M) (r : Int) (h : GL_Mo_jam_4 k4 v2 v3 m0 = some r) : L_Mo_jam_4 j4 1125 v2 v3 (h_H c m0) = some (r, (h_H c m0)) := by
  unfold GL_Mo_jam_4 at h
  unfold L_Mo_jam_4
  refine gdT (miS c m0) ?_
  try rw [mr3 c m0]
  try rw [zs0 c m0]
  refine gdT (miA c m0 e3) ?_
  obtain ⟨g1, h⟩ := p_gdE h
  refine gdT ⟨g1.1, by rw [mlA c m0 e3]; exact g1.2⟩ ?_
  try rw [mzA c m0 e3 ((m0 100 0) : Int).toNat]
  refine iteC Iff.rfl h (fun b2 h => ?_) (fun b2 h => ?_)
  · cases h
    rfl
  · obtain ⟨r5, q3, h⟩ := q_bvE h
    refine bdC (u_Mo_g c v3 m0 _ q3) ?_
    obtain ⟨r9, q7, h⟩ := q_bvE h
    refine bdC (u_Mo_isJammed c r5 m0 _ q7) ?_
    refine iteC Iff.rfl h (fun b11 h => ?_) (fun b11 h => ?_)
    · exact uB_Mo_jam_38 c j4 k4 hk4 v2 v3 m0 _ h
    · refine iteC Iff.rfl h (fun b12 h => ?_) (fun b12 h => ?_)
      · refine bV h ?_
        intro x13 h
        exact uB_Mo_jam_38 c j4 k4 hk4 x13 v3 m0 _ h
      · cases h
        rfl
set_option maxRecDepth 100000 in
set_option maxHeartbeats 4000000 in
theorem uO_Mo_jam_4 (c : h_C)  : ∀ (n : Nat) (v2 : Int) (v3 : Int) (m0 : h_M) (r : Int), GO_Mo_jam_4 n v2 v3 m0 = some r → O_Mo_jam_4 n 1125 v2 v3 (h_H c m0) = some (r, (h_H c m0)) := by
  intro n
  induction n with
  | zero => intro v2 v3 m0 r h; cases h
  | succ n ih => intro v2 v3 m0 r h; exact uL_Mo_jam_4 c (O_Mo_jam_4 n) (GO_Mo_jam_4 n) ih v2 v3 m0 r h
set_option maxRecDepth 100000 in
set_option maxHeartbeats 4000000 in
theorem u_Mo_jam (c : h_C) (v1 : Int) (m0 : h_M) (r : Int) (h : G_Mo_jam v1 m0 = some r) : F_Mo_jam 1125 v1 (h_H c m0) = some (r, (h_H c m0)) := by
  unfold G_Mo_jam at h
  unfold F_Mo_jam
  exact uO_Mo_jam_4 c 3000 v1 0 m0 _ h
