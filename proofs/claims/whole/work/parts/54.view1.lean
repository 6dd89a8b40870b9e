def G_Gear_isChuteFor (v0 : Nat) (v1 : Int) (v2 : Int) (c0 : h_C) : Option Int :=
  p_gd (vG v0) <|
  if (c0 0 v0 0) ≠ 7 then
    if v1 ≠ (-8) then
      some 0
    else
      some 1
  else
    if v1 ≠ v2 then
      some 0
    else
      some 1
set_option maxRecDepth 100000 in
set_option maxHeartbeats 4000000 in
theorem u_Gear_isChuteFor (m : h_M) (v0 : Nat) (v1 : Int) (v2 : Int) (c0 : h_C) (r : Int) (h : G_Gear_isChuteFor v0 v1 v2 c0 = some r) : F_Gear_isChuteFor (h_A 0 v0) v1 v2 (h_H c0 m) = some (r, (h_H c0 m)) := by
  unfold G_Gear_isChuteFor at h
  unfold F_Gear_isChuteFor
  obtain ⟨g1, h⟩ := p_gdE h
  refine gdT (isD c0 m (d0 g1)) ?_
  try rw [zf0 c0 m g1]
  refine iteC Iff.rfl h (fun b2 h => ?_) (fun b2 h => ?_)
  · refine iteC Iff.rfl h (fun b3 h => ?_) (fun b3 h => ?_)
    · cases h
      rfl
    · cases h
      rfl
  · refine iteC Iff.rfl h (fun b4 h => ?_) (fun b4 h => ?_)
    · cases h
      rfl
    · cases h
      rfl
def GB_SW_carry_31   (c0 : h_C) : Option (Int × h_C) :=
  q_bd (G_SW_refuse (-1) c0) fun r3 c4 =>
  some (r3, c4)
def GB_SW_carry_81   (c0 : h_C) : Option (Int × h_C) :=
  q_bd (G_SW_refuse (-3) c0) fun r3 c4 =>
  some (r3, c4)
def GB_SW_carry_88  (v2 : Int) (v3 : Nat) (c0 : h_C) : Option (Int × h_C) :=
  p_gd (vP v3) <|
  p_bi ((c0 105 v3 0)) fun x3 =>
  p_gd (0 ≤ c0 5000 0 0 ∧ c0 5000 0 0 < 3) <|
  q_bv (G_State_carryOver (c0 5000 0 0).toNat v3 v2 c0) fun c8 =>
  q_bd (G_SW_done x3 c8) fun r11 c12 =>
  some (r11, c12)
def G_SW_carry (v1 : Int) (v2 : Int) (c0 : h_C) : Option (Int × h_C) :=
  p_gd (0 ≤ c0 5000 0 0 ∧ c0 5000 0 0 < 3) <|
  q_bv (G_State_find (c0 5000 0 0).toNat v1 c0) fun r5 =>
  q_bv (G_Works_gearOf (c0 5000 0 0).toNat v2 c0) fun r9 =>
  if r5 = 0 then
    GB_SW_carry_31 c0
  else
    if r9 ≠ 0 then
      p_gd (vG r9) <|
      q_bv (G_Gear_isTaker r9 c0) fun r16 =>
      if r16 ≠ 0 then
        q_bv (G_Gear_isFreeAtStart r9 c0) fun r21 =>
        if r21 = 0 then
          GB_SW_carry_81 c0
        else
          q_bv (G_Gear_isChute r9 c0) fun r26 =>
          if r26 = 0 then
            GB_SW_carry_88 v2 r5 c0
          else
            p_gd (vP r5) <|
            q_bv (G_Gear_isChuteFor r9 (c0 104 r5 0) v2 c0) fun r32 =>
            if r32 ≠ 0 then
              GB_SW_carry_88 v2 r5 c0
            else
              GB_SW_carry_81 c0
      else
        q_bd (G_SW_refuse (-12) c0) fun r37 c38 =>
        some (r37, c38)
    else
      GB_SW_carry_31 c0
set_option maxRecDepth 100000 in
set_option maxHeartbeats 4000000 in
theorem uB_SW_carry_31 (m : h_M)   (c0 : h_C) (r : (Int × h_C)) (h : GB_SW_carry_31  c0 = some r) : B_SW_carry_31 1 (h_H c0 m) = some (r.1, (h_H r.2 m)) := by
  unfold GB_SW_carry_31 at h
  unfold B_SW_carry_31
  refine gdT (isD c0 m d600) ?_
  obtain ⟨r3, c4, q1, h⟩ := q_bdE h
  refine bdC (u_SW_refuse m (-1) c0 _ q1) ?_
  cases h
  rfl
set_option maxRecDepth 100000 in
set_option maxHeartbeats 4000000 in
theorem uB_SW_carry_81 (m : h_M)   (c0 : h_C) (r : (Int × h_C)) (h : GB_SW_carry_81  c0 = some r) : B_SW_carry_81 1 (h_H c0 m) = some (r.1, (h_H r.2 m)) := by
  unfold GB_SW_carry_81 at h
  unfold B_SW_carry_81
  refine gdT (isD c0 m d600) ?_
  obtain ⟨r3, c4, q1, h⟩ := q_bdE h
  refine bdC (u_SW_refuse m (-3) c0 _ q1) ?_
  cases h
  rfl
set_option maxRecDepth 100000 in
set_option maxHeartbeats 4000000 in
theorem uB_SW_carry_88 (m : h_M)  (v2 : Int) (v3 : Nat) (c0 : h_C) (r : (Int × h_C)) (h : GB_SW_carry_88 v2 v3 c0 = some r) : B_SW_carry_88 1 v2 (h_A 100 v3) (h_H c0 m) = some (r.1, (h_H r.2 m)) := by
  unfold GB_SW_carry_88 at h
  unfold B_SW_carry_88
  obtain ⟨g1, h⟩ := p_gdE h
  refine gdT (isD c0 m (d100 g1)) ?_
  try rw [zf105 c0 m g1]
  refine bV h ?_
  intro x3 h
  refine gdT (isD c0 m d600) ?_
  obtain ⟨g4, h⟩ := p_gdE h
  try rw [rm5000 c0 m g4]
  have hv5 : vW (c0 5000 0 0).toNat := by omega
  refine gdT (isD c0 m (d200 hv5)) ?_
  try rw [rD c0 m (rr200_1 hv5)]
  refine gdT (isD c0 m (d300 hv5)) ?_
  obtain ⟨c8, q6, h⟩ := q_bvE h
  refine bvC (u_State_carryOver m (c0 5000 0 0).toNat v3 v2 c0 _ q6) ?_
  obtain ⟨r11, c12, q9, h⟩ := q_bdE h
  refine bdC (u_SW_done m x3 c8 _ q9) ?_
  cases h
  rfl
set_option maxRecDepth 100000 in
set_option maxHeartbeats 4000000 in
theorem u_SW_carry (m : h_M) (v1 : Int) (v2 : Int) (c0 : h_C) (r : (Int × h_C)) (h : G_SW_carry v1 v2 c0 = some r) : F_SW_carry 1 v1 v2 (h_H c0 m) = some (r.1, (h_H r.2 m)) := by
  unfold G_SW_carry at h
  unfold F_SW_carry
  refine gdT (isD c0 m d600) ?_
  obtain ⟨g1, h⟩ := p_gdE h
  try rw [rm5000 c0 m g1]
  have hv2 : vW (c0 5000 0 0).toNat := by omega
  refine gdT (isD c0 m (d200 hv2)) ?_
  try rw [rD c0 m (rr200_1 hv2)]
  refine gdT (isD c0 m (d300 hv2)) ?_
  obtain ⟨r5, q3, h⟩ := q_bvE h
  refine bdC (u_State_find m (c0 5000 0 0).toNat v1 c0 _ q3) ?_
  try rw [rm5000 c0 m g1]
  refine gdT (isD c0 m (d200 hv2)) ?_
  obtain ⟨r9, q7, h⟩ := q_bvE h
  refine bdC (u_Works_gearOf m (c0 5000 0 0).toNat v2 c0 _ q7) ?_
  refine iteC (h_A100z _) h (fun b11 h => ?_) (fun b11 h => ?_)
  · exact uB_SW_carry_31 m c0 _ h
  · refine iteC (ne_iff (h_A0z _)) h (fun b12 h => ?_) (fun b12 h => ?_)
    · obtain ⟨g13, h⟩ := p_gdE h
      refine gdT (isD c0 m (d0 g13)) ?_
      obtain ⟨r16, q14, h⟩ := q_bvE h
      refine bdC (u_Gear_isTaker m r9 c0 _ q14) ?_
      refine iteC Iff.rfl h (fun b18 h => ?_) (fun b18 h => ?_)
      · obtain ⟨r21, q19, h⟩ := q_bvE h
        refine bdC (u_Gear_isFreeAtStart m r9 c0 _ q19) ?_
        refine iteC Iff.rfl h (fun b23 h => ?_) (fun b23 h => ?_)
        · exact uB_SW_carry_81 m c0 _ h
        · obtain ⟨r26, q24, h⟩ := q_bvE h
          refine bdC (u_Gear_isChute m r9 c0 _ q24) ?_
          refine iteC Iff.rfl h (fun b28 h => ?_) (fun b28 h => ?_)
          · exact uB_SW_carry_88 m v2 r5 c0 _ h
          · obtain ⟨g29, h⟩ := p_gdE h
            refine gdT (isD c0 m (d100 g29)) ?_
            try rw [zf104 c0 m g29]
            obtain ⟨r32, q30, h⟩ := q_bvE h
            refine bdC (u_Gear_isChuteFor m r9 (c0 104 r5 0) v2 c0 _ q30) ?_
            refine iteC Iff.rfl h (fun b34 h => ?_) (fun b34 h => ?_)
            · exact uB_SW_carry_88 m v2 r5 c0 _ h
            · exact uB_SW_carry_81 m c0 _ h
      · obtain ⟨r37, c38, q35, h⟩ := q_bdE h
        refine bdC (u_SW_refuse m (-12) c0 _ q35) ?_
        cases h
        rfl
    · exact uB_SW_carry_31 m c0 _ h
def G_SW_isGroup (v0 : Int) (c0 : h_C) : Option Int :=
  if v0 < 0 then
    some 0
  else
    if 4 ≤ v0 then
      some 0
    else
      some 1
set_option maxRecDepth 100000 in
set_option maxHeartbeats 4000000 in
theorem u_SW_isGroup (m : h_M) (v0 : Int) (c0 : h_C) (r : Int) (h : G_SW_isGroup v0 c0 = some r) : F_SW_isGroup v0 (h_H c0 m) = some (r, (h_H c0 m)) := by
  unfold G_SW_isGroup at h
  unfold F_SW_isGroup
  refine iteC Iff.rfl h (fun b1 h => ?_) (fun b1 h => ?_)
  · cases h
    rfl
  · refine iteC Iff.rfl h (fun b2 h => ?_) (fun b2 h => ?_)
    · cases h
      rfl
    · cases h
      rfl
def GB_SW_group_28   (c0 : h_C) : Option (Int × h_C) :=
  q_bd (G_SW_refuse (-2) c0) fun r3 c4 =>
  some (r3, c4)
def G_SW_group (v1 : Int) (v2 : Int) (v3 : Int) (c0 : h_C) : Option (Int × h_C) :=
  q_bv (G_SW_isGroup v1 c0) fun r3 =>
  if r3 ≠ 0 then
    if v2 < 0 then
      GB_SW_group_28 c0
    else
      if 3 < v2 then
        GB_SW_group_28 c0
      else
        if v3 ≤ 8 then
          if 0 ≤ v3 then
            p_gd (0 ≤ c0 5000 0 0 ∧ c0 5000 0 0 < 3) <|
            p_gd ((0 : Int) ≤ v1 ∧ v1 < (4 : Int)) <|
            p_bi (wc c0 2035 (c0 5000 0 0).toNat (v1 : Int).toNat v2) fun c13 =>
            p_gd (0 ≤ c13 5000 0 0 ∧ c13 5000 0 0 < 3) <|
            p_bi (wc c13 2036 (c13 5000 0 0).toNat (v1 : Int).toNat v3) fun c17 =>
            p_gd (0 ≤ c17 5000 0 0 ∧ c17 5000 0 0 < 3) <|
            p_bi (sr c17 2034 (4 * (c17 5000 0 0).toNat + (v1 : Int).toNat) (fl (c17 2034 (4 * (c17 5000 0 0).toNat + (v1 : Int).toNat)) 8 (-1))) fun c22 =>
            q_bd (G_SW_done v3 c22) fun r26 c27 =>
            some (r26, c27)
          else
            q_bd (G_SW_refuse (-15) c0) fun r31 c32 =>
            some (r31, c32)
        else
          GB_SW_group_28 c0
  else
    q_bd (G_SW_refuse (-1) c0) fun r36 c37 =>
    some (r36, c37)
set_option maxRecDepth 100000 in
set_option maxHeartbeats 4000000 in
theorem uB_SW_group_28 (m : h_M)   (c0 : h_C) (r : (Int × h_C)) (h : GB_SW_group_28  c0 = some r) : B_SW_group_28 1 (h_H c0 m) = some (r.1, (h_H r.2 m)) := by
  unfold GB_SW_group_28 at h
  unfold B_SW_group_28
  refine gdT (isD c0 m d600) ?_
  obtain ⟨r3, c4, q1, h⟩ := q_bdE h
  refine bdC (u_SW_refuse m (-2) c0 _ q1) ?_
  cases h
  rfl
set_option maxRecDepth 100000 in
set_option maxHeartbeats 4000000 in
theorem u_SW_group (m : h_M) (v1 : Int) (v2 : Int) (v3 : Int) (c0 : h_C) (r : (Int × h_C)) (h : G_SW_group v1 v2 v3 c0 = some r) : F_SW_group 1 v1 v2 v3 (h_H c0 m) = some (r.1, (h_H r.2 m)) := by
  unfold G_SW_group at h
  unfold F_SW_group
  obtain ⟨r3, q1, h⟩ := q_bvE h
  refine bdC (u_SW_isGroup m v1 c0 _ q1) ?_
  refine iteC Iff.rfl h (fun b5 h => ?_) (fun b5 h => ?_)
  · refine iteC Iff.rfl h (fun b6 h => ?_) (fun b6 h => ?_)
    · exact uB_SW_group_28 m c0 _ h
    · refine iteC Iff.rfl h (fun b7 h => ?_) (fun b7 h => ?_)
      · exact uB_SW_group_28 m c0 _ h
      · refine iteC Iff.rfl h (fun b8 h => ?_) (fun b8 h => ?_)
        · refine iteC Iff.rfl h (fun b9 h => ?_) (fun b9 h => ?_)
          · refine gdT (isD c0 m d600) ?_
            obtain ⟨g10, h⟩ := p_gdE h
            try rw [rm5000 c0 m g10]
            have hv11 : vW (c0 5000 0 0).toNat := by omega
            refine gdT (isD c0 m (d200 hv11)) ?_
            try rw [rD c0 m (rr200_8 hv11)]
            refine gdT (isD c0 m (d2035 hv11)) ?_
            obtain ⟨g12, h⟩ := p_gdE h
            refine gdT ⟨g12.1, by (try rw [lenD c0 m (d2035 hv11)]); exact g12.2⟩ ?_
            refine bS (wA c0 m (d2035 hv11) (by decide) _ _) h ?_
            intro c13 h
            obtain ⟨g15, h⟩ := p_gdE h
            try rw [rm5000 c13 m g15]
            have hv16 : vW (c13 5000 0 0).toNat := by omega
            refine gdT (isD c13 m (d200 hv16)) ?_
            try rw [rD c13 m (rr200_9 hv16)]
            refine gdT (isD c13 m (d2036 hv16)) ?_
            refine gdT ⟨g12.1, by (try rw [lenD c13 m (d2036 hv16)]); exact g12.2⟩ ?_
            refine bS (wA c13 m (d2036 hv16) (by decide) _ _) h ?_
            intro c17 h
            obtain ⟨g19, h⟩ := p_gdE h
            try rw [rm5000 c17 m g19]
            have hv20 : vW (c17 5000 0 0).toNat := by omega
            refine gdT (isD c17 m (d200 hv20)) ?_
            try rw [rD c17 m (rr200_7 hv20)]
            refine gdT (isD c17 m (d2033 hv20)) ?_
            refine gdT ⟨g12.1, by (try rw [lenD c17 m (d2033 hv20)]); exact g12.2⟩ ?_
            try rw [rD c17 m (el2033 (k := (v1 : Int).toNat) hv20 (Nat.zero_le _) (by omega))]
            have hv21 : vU (4 * (c17 5000 0 0).toNat + (v1 : Int).toNat) := by have := hv20; omega
            refine bvS (fillI c17 m (d2034 hv21) (by decide) _) h ?_
            intro c22 h
            obtain ⟨r26, c27, q24, h⟩ := q_bdE h
            refine bdC (u_SW_done m v3 c22 _ q24) ?_
            cases h
            rfl
          · refine gdT (isD c0 m d600) ?_
            obtain ⟨r31, c32, q29, h⟩ := q_bdE h
            refine bdC (u_SW_refuse m (-15) c0 _ q29) ?_
            cases h
            rfl
        · exact uB_SW_group_28 m c0 _ h
  · refine gdT (isD c0 m d600) ?_
    obtain ⟨r36, c37, q34, h⟩ := q_bdE h
    refine bdC (u_SW_refuse m (-1) c0 _ q34) ?_
    cases h
    rfl
def G_Gear_isBelt (v0 : Nat) (c0 : h_C) : Option Int :=
  p_gd (vG v0) <|
  if (c0 0 v0 0) < 0 then
    some 0
  else
    if 4 < (c0 0 v0 0) then
      some 0
    else
      some 1
set_option maxRecDepth 100000 in
set_option maxHeartbeats 4000000 in
theorem u_Gear_isBelt (m : h_M) (v0 : Nat) (c0 : h_C) (r : Int) (h : G_Gear_isBelt v0 c0 = some r) : F_Gear_isBelt (h_A 0 v0) (h_H c0 m) = some (r, (h_H c0 m)) := by
  unfold G_Gear_isBelt at h
  unfold F_Gear_isBelt
  obtain ⟨g1, h⟩ := p_gdE h
  refine gdT (isD c0 m (d0 g1)) ?_
  try rw [zf0 c0 m g1]
  refine iteC Iff.rfl h (fun b2 h => ?_) (fun b2 h => ?_)
  · cases h
    rfl
  · try rw [zf0 c0 m g1]
    refine iteC Iff.rfl h (fun b3 h => ?_) (fun b3 h => ?_)
    · cases h
      rfl
    · cases h
      rfl
def GB_Gear_isScanner_16   (c0 : h_C) : Option Int :=
  some 1
def G_Gear_isScanner (v0 : Nat) (c0 : h_C) : Option Int :=
  p_gd (vG v0) <|
  if (c0 0 v0 0) = 3 then
    GB_Gear_isScanner_16 c0
  else
    if (c0 0 v0 0) ≠ 4 then
      some 0
    else
      GB_Gear_isScanner_16 c0
set_option maxRecDepth 100000 in
set_option maxHeartbeats 4000000 in
theorem uB_Gear_isScanner_16 (m : h_M)   (c0 : h_C) (r : Int) (h : GB_Gear_isScanner_16  c0 = some r) : B_Gear_isScanner_16  (h_H c0 m) = some (r, (h_H c0 m)) := by
  unfold GB_Gear_isScanner_16 at h
  unfold B_Gear_isScanner_16
  cases h
  rfl
set_option maxRecDepth 100000 in
set_option maxHeartbeats 4000000 in
theorem u_Gear_isScanner (m : h_M) (v0 : Nat) (c0 : h_C) (r : Int) (h : G_Gear_isScanner v0 c0 = some r) : F_Gear_isScanner (h_A 0 v0) (h_H c0 m) = some (r, (h_H c0 m)) := by
  unfold G_Gear_isScanner at h
  unfold F_Gear_isScanner
  obtain ⟨g1, h⟩ := p_gdE h
  refine gdT (isD c0 m (d0 g1)) ?_
  try rw [zf0 c0 m g1]
  refine iteC Iff.rfl h (fun b2 h => ?_) (fun b2 h => ?_)
  · exact uB_Gear_isScanner_16 m c0 _ h
  · try rw [zf0 c0 m g1]
    refine iteC Iff.rfl h (fun b3 h => ?_) (fun b3 h => ?_)
    · cases h
      rfl
    · exact uB_Gear_isScanner_16 m c0 _ h
def G_Gear_isOfType (v0 : Nat) (v1 : Int) (c0 : h_C) : Option Int :=
  if v1 = 0 then
    some 1
  else if v1 = 1 then
    p_gd (vG v0) <|
    q_bv (G_Gear_isBelt v0 c0) fun r6 =>
    p_gd (r6 = 0 ∨ r6 = 1) <|
    some r6
  else if v1 = 2 then
    p_gd (vG v0) <|
    q_bv (G_Gear_isScanner v0 c0) fun r13 =>
    p_gd (r13 = 0 ∨ r13 = 1) <|
    some r13
  else 
  p_gd (vG v0) <|
  q_bv (G_Gear_isChute v0 c0) fun r19 =>
  p_gd (r19 = 0 ∨ r19 = 1) <|
  some r19
set_option maxRecDepth 100000 in
set_option maxHeartbeats 4000000 in
theorem u_Gear_isOfType (m : h_M) (v0 : Nat) (v1 : Int) (c0 : h_C) (r : Int) (h : G_Gear_isOfType v0 v1 c0 = some r) : F_Gear_isOfType (h_A 0 v0) v1 (h_H c0 m) = some (r, (h_H c0 m)) := by
  unfold G_Gear_isOfType at h
  unfold F_Gear_isOfType
  refine iteC Iff.rfl h (fun b1 h => ?_) (fun b1 h => ?_)
  · cases h
    rfl
  refine iteC Iff.rfl h (fun b2 h => ?_) (fun b2 h => ?_)
  · obtain ⟨g3, h⟩ := p_gdE h
    refine gdT (isD c0 m (d0 g3)) ?_
    obtain ⟨r6, q4, h⟩ := q_bvE h
    refine bdC (u_Gear_isBelt m v0 c0 _ q4) ?_
    obtain ⟨g8, h⟩ := p_gdE h
    refine gdT g8 ?_
    cases h
    rfl
  refine iteC Iff.rfl h (fun b9 h => ?_) (fun b9 h => ?_)
  · obtain ⟨g10, h⟩ := p_gdE h
    refine gdT (isD c0 m (d0 g10)) ?_
    obtain ⟨r13, q11, h⟩ := q_bvE h
    refine bdC (u_Gear_isScanner m v0 c0 _ q11) ?_
    obtain ⟨g15, h⟩ := p_gdE h
    refine gdT g15 ?_
    cases h
    rfl
  obtain ⟨g16, h⟩ := p_gdE h
  refine gdT (isD c0 m (d0 g16)) ?_
  obtain ⟨r19, q17, h⟩ := q_bvE h
  refine bdC (u_Gear_isChute m v0 c0 _ q17) ?_
  obtain ⟨g21, h⟩ := p_gdE h
  refine gdT g21 ?_
  cases h
  rfl
def GB_SW_enter_22   (c0 : h_C) : Option (Int × h_C) :=
  q_bd (G_SW_refuse (-1) c0) fun r3 c4 =>
  some (r3, c4)
def GB_SW_enter_65   (c0 : h_C) : Option (Int × h_C) :=
  q_bd (G_SW_refuse (-13) c0) fun r3 c4 =>
  some (r3, c4)
def G_SW_enter (v1 : Int) (v2 : Int) (v3 : Int) (c0 : h_C) : Option (Int × h_C) :=
  p_gd (0 ≤ c0 5000 0 0 ∧ c0 5000 0 0 < 3) <|
  q_bv (G_Works_gearOf (c0 5000 0 0).toNat v3 c0) fun r5 =>
  q_bv (G_SW_isGroup v1 c0) fun r9 =>
  if r9 = 0 then
    GB_SW_enter_22 c0
  else
    if r5 ≠ 0 then
      p_gd ((0 : Int) ≤ v1 ∧ v1 < (4 : Int)) <|
      if (c0 2036 (c0 5000 0 0).toNat (v1 : Int).toNat) ≠ (-1) then
        if v2 < 0 then
          GB_SW_enter_65 c0
        else
          if v2 < (c0 2036 (c0 5000 0 0).toNat (v1 : Int).toNat) then
            p_gd (vG r5) <|
            q_bv (G_Gear_isOfType r5 (c0 2035 (c0 5000 0 0).toNat (v1 : Int).toNat) c0) fun r20 =>
            if r20 ≠ 0 then
              p_gd ((0 : Int) ≤ v2 ∧ v2 < (8 : Int)) <|
              p_bi (wc c0 2034 (4 * (c0 5000 0 0).toNat + (v1 : Int).toNat) (v2 : Int).toNat v3) fun c25 =>
              q_bd (G_SW_done 1 c25) fun r29 c30 =>
              some (r29, c30)
            else
              q_bd (G_SW_refuse (-14) c0) fun r34 c35 =>
              some (r34, c35)
          else
            GB_SW_enter_65 c0
      else
        q_bd (G_SW_refuse (-11) c0) fun r39 c40 =>
        some (r39, c40)
    else
      GB_SW_enter_22 c0
set_option maxRecDepth 100000 in
set_option maxHeartbeats 4000000 in
theorem uB_SW_enter_22 (m : h_M)   (c0 : h_C) (r : (Int × h_C)) (h : GB_SW_enter_22  c0 = some r) : B_SW_enter_22 1 (h_H c0 m) = some (r.1, (h_H r.2 m)) := by
  unfold GB_SW_enter_22 at h
  unfold B_SW_enter_22
  refine gdT (isD c0 m d600) ?_
  obtain ⟨r3, c4, q1, h⟩ := q_bdE h
  refine bdC (u_SW_refuse m (-1) c0 _ q1) ?_
  cases h
  rfl
set_option maxRecDepth 100000 in
set_option maxHeartbeats 4000000 in
theorem uB_SW_enter_65 (m : h_M)   (c0 : h_C) (r : (Int × h_C)) (h : GB_SW_enter_65  c0 = some r) : B_SW_enter_65 1 (h_H c0 m) = some (r.1, (h_H r.2 m)) := by
  unfold GB_SW_enter_65 at h
  unfold B_SW_enter_65
  refine gdT (isD c0 m d600) ?_
  obtain ⟨r3, c4, q1, h⟩ := q_bdE h
  refine bdC (u_SW_refuse m (-13) c0 _ q1) ?_
  cases h
  rfl
set_option maxRecDepth 100000 in
set_option maxHeartbeats 4000000 in
theorem u_SW_enter (m : h_M) (v1 : Int) (v2 : Int) (v3 : Int) (c0 : h_C) (r : (Int × h_C)) (h : G_SW_enter v1 v2 v3 c0 = some r) : F_SW_enter 1 v1 v2 v3 (h_H c0 m) = some (r.1, (h_H r.2 m)) := by
  unfold G_SW_enter at h
  unfold F_SW_enter
  refine gdT (isD c0 m d600) ?_
  obtain ⟨g1, h⟩ := p_gdE h
  try rw [rm5000 c0 m g1]
  have hv2 : vW (c0 5000 0 0).toNat := by omega
  refine gdT (isD c0 m (d200 hv2)) ?_
  obtain ⟨r5, q3, h⟩ := q_bvE h
  refine bdC (u_Works_gearOf m (c0 5000 0 0).toNat v3 c0 _ q3) ?_
  obtain ⟨r9, q7, h⟩ := q_bvE h
  refine bdC (u_SW_isGroup m v1 c0 _ q7) ?_
  refine iteC Iff.rfl h (fun b11 h => ?_) (fun b11 h => ?_)
  · exact uB_SW_enter_22 m c0 _ h
  · refine iteC (ne_iff (h_A0z _)) h (fun b12 h => ?_) (fun b12 h => ?_)
    · try rw [rm5000 c0 m g1]
      refine gdT (isD c0 m (d200 hv2)) ?_
      try rw [rD c0 m (rr200_9 hv2)]
      refine gdT (isD c0 m (d2036 hv2)) ?_
      obtain ⟨g13, h⟩ := p_gdE h
      refine gdT ⟨g13.1, by (try rw [lenD c0 m (d2036 hv2)]); exact g13.2⟩ ?_
      try rw [zA c0 m (d2036 hv2) (by decide) (v1 : Int).toNat]
      refine iteC Iff.rfl h (fun b14 h => ?_) (fun b14 h => ?_)
      · refine iteC Iff.rfl h (fun b15 h => ?_) (fun b15 h => ?_)
        · exact uB_SW_enter_65 m c0 _ h
        · try rw [rm5000 c0 m g1]
          try rw [rD c0 m (rr200_9 hv2)]
          refine gdT ⟨g13.1, by (try rw [lenD c0 m (d2036 hv2)]); exact g13.2⟩ ?_
          try rw [zA c0 m (d2036 hv2) (by decide) (v1 : Int).toNat]
          refine iteC Iff.rfl h (fun b16 h => ?_) (fun b16 h => ?_)
          · try rw [rm5000 c0 m g1]
            try rw [rD c0 m (rr200_8 hv2)]
            refine gdT (isD c0 m (d2035 hv2)) ?_
            refine gdT ⟨g13.1, by (try rw [lenD c0 m (d2035 hv2)]); exact g13.2⟩ ?_
            try rw [zA c0 m (d2035 hv2) (by decide) (v1 : Int).toNat]
            obtain ⟨g17, h⟩ := p_gdE h
            refine gdT (isD c0 m (d0 g17)) ?_
            obtain ⟨r20, q18, h⟩ := q_bvE h
            refine bdC (u_Gear_isOfType m r5 (c0 2035 (c0 5000 0 0).toNat (v1 : Int).toNat) c0 _ q18) ?_
            refine iteC Iff.rfl h (fun b22 h => ?_) (fun b22 h => ?_)
            · try rw [rm5000 c0 m g1]
              refine gdT (isD c0 m (d200 hv2)) ?_
              try rw [rD c0 m (rr200_7 hv2)]
              refine gdT (isD c0 m (d2033 hv2)) ?_
              refine gdT ⟨g13.1, by (try rw [lenD c0 m (d2033 hv2)]); exact g13.2⟩ ?_
              try rw [rD c0 m (el2033 (k := (v1 : Int).toNat) hv2 (Nat.zero_le _) (by omega))]
              have hv23 : vU (4 * (c0 5000 0 0).toNat + (v1 : Int).toNat) := by have := hv2; omega
              refine gdT (isD c0 m (d2034 hv23)) ?_
              obtain ⟨g24, h⟩ := p_gdE h
              refine gdT ⟨g24.1, by (try rw [lenD c0 m (d2034 hv23)]); exact g24.2⟩ ?_
              refine bS (wA c0 m (d2034 hv23) (by decide) _ _) h ?_
              intro c25 h
              obtain ⟨r29, c30, q27, h⟩ := q_bdE h
              refine bdC (u_SW_done m 1 c25 _ q27) ?_
              cases h
              rfl
            · obtain ⟨r34, c35, q32, h⟩ := q_bdE h
              refine bdC (u_SW_refuse m (-14) c0 _ q32) ?_
              cases h
              rfl
          · exact uB_SW_enter_65 m c0 _ h
      · obtain ⟨r39, c40, q37, h⟩ := q_bdE h
        refine bdC (u_SW_refuse m (-11) c0 _ q37) ?_
        cases h
        rfl
    · exact uB_SW_enter_22 m c0 _ h
def GB_SW_tally_22   (c0 : h_C) : Option (Int × h_C) :=
  q_bd (G_SW_refuse (-2) c0) fun r3 c4 =>
  some (r3, c4)
def GB_SW_tally_132 (k54 : Int → Int → Int → Int → h_C → Option (Int × h_C)) (v1 : Int) (v2 : Int) (v4 : Int) (w0 : Int) (w1 : Int) (c0 : h_C) : Option (Int × h_C) :=
  p_bi ((p_w (w1 + w0))) fun x2 =>
  p_bi (p_w (v4 + 1)) fun x3 =>
  k54 v1 v2 x2 x3 c0
def GL_SW_tally_54 (k54 : Int → Int → Int → Int → h_C → Option (Int × h_C)) (v1 : Int) (v2 : Int) (v3 : Int) (v4 : Int) (c0 : h_C) : Option (Int × h_C) :=
  p_gd (0 ≤ c0 5000 0 0 ∧ c0 5000 0 0 < 3) <|
  p_gd ((0 : Int) ≤ v1 ∧ v1 < (4 : Int)) <|
  if (c0 2036 (c0 5000 0 0).toNat (v1 : Int).toNat) ≤ v4 then
    q_bd (G_SW_done v3 c0) fun r7 c8 =>
    some (r7, c8)
  else
    p_gd ((0 : Int) ≤ v4 ∧ v4 < (8 : Int)) <|
    q_bv (G_Works_gearOf (c0 5000 0 0).toNat (c0 2034 (4 * (c0 5000 0 0).toNat + (v1 : Int).toNat) (v4 : Int).toNat) c0) fun r14 =>
    if r14 ≠ 0 then
      if v2 ≠ 0 then
        if v2 ≠ 1 then
          p_gd (vG r14) <|
          GB_SW_tally_132 k54 v1 v2 v4 (c0 11 r14 0) v3 c0
        else
          p_gd (vG r14) <|
          GB_SW_tally_132 k54 v1 v2 v4 (c0 10 r14 0) v3 c0
      else
        p_gd (vG r14) <|
        q_bv (G_Gear_parcels r14 c0) fun r24 =>
        GB_SW_tally_132 k54 v1 v2 v4 r24 v3 c0
    else
      q_bd (G_SW_refuse (-11) c0) fun r28 c29 =>
      some (r28, c29)
def GO_SW_tally_54  : Nat → Int → Int → Int → Int → h_C → Option (Int × h_C)
  | 0 => fun _ _ _ _ _ => none
  | n + 1 => GL_SW_tally_54 (GO_SW_tally_54 n)
def G_SW_tally (v1 : Int) (v2 : Int) (c0 : h_C) : Option (Int × h_C) :=
  q_bv (G_SW_isGroup v1 c0) fun r3 =>
  if r3 ≠ 0 then
    if v2 < 0 then
      GB_SW_tally_22 c0
    else
      if v2 ≤ 2 then
        p_gd (0 ≤ c0 5000 0 0 ∧ c0 5000 0 0 < 3) <|
        p_gd ((0 : Int) ≤ v1 ∧ v1 < (4 : Int)) <|
        if (c0 2036 (c0 5000 0 0).toNat (v1 : Int).toNat) ≠ (-1) then
          GO_SW_tally_54 3000 v1 v2 0 0 c0
        else
          q_bd (G_SW_refuse (-11) c0) fun r14 c15 =>
          some (r14, c15)
      else
        GB_SW_tally_22 c0
  else
    q_bd (G_SW_refuse (-1) c0) fun r19 c20 =>
    some (r19, c20)
set_option maxRecDepth 100000 in
set_option maxHeartbeats 4000000 in
theorem uB_SW_tally_22 (m : h_M)   (c0 : h_C) (r : (Int × h_C)) (h : GB_SW_tally_22  c0 = some r) : B_SW_tally_22 1 (h_H c0 m) = some (r.1, (h_H r.2 m)) := by
  unfold GB_SW_tally_22 at h
  unfold B_SW_tally_22
  refine gdT (isD c0 m d600) ?_
  obtain ⟨r3, c4, q1, h⟩ := q_bdE h
  refine bdC (u_SW_refuse m (-2) c0 _ q1) ?_
  cases h
  rfl
set_option maxRecDepth 100000 in
set_option maxHeartbeats 4000000 in
theorem uB_SW_tally_132 (m : h_M) (j54 : Nat → Int → Int → Int → Int → p_Hp → Option (Int × p_Hp)) (k54 : Int → Int → Int → Int → h_C → Option (Int × h_C)) (hk54 : ∀ (v1 : Int) (v2 : Int) (v3 : Int) (v4 : Int) (c0 : h_C) (r : (Int × h_C)), k54 v1 v2 v3 v4 c0 = some r → j54 1 v1 v2 v3 v4 (h_H c0 m) = some (r.1, (h_H r.2 m))) (v1 : Int) (v2 : Int) (v4 : Int) (w0 : Int) (w1 : Int) (c0 : h_C) (r : (Int × h_C)) (h : GB_SW_tally_132 k54 v1 v2 v4 w0 w1 c0 = some r) : B_SW_tally_132 j54 1 v1 v2 v4 w0 w1 (h_H c0 m) = some (r.1, (h_H r.2 m)) := by
  unfold GB_SW_tally_132 at h
  unfold B_SW_tally_132
  refine bV h ?_
  intro x2 h
  refine bV h ?_
  intro x3 h
  exact hk54 v1 v2 x2 x3 c0 _ h
set_option maxRecDepth 100000 in
set_option maxHeartbeats 4000000 in
theorem uL_SW_tally_54 (m : h_M) (j54 : Nat → Int → Int → Int → Int → p_Hp → Option (Int × p_Hp)) (k54 : Int → Int → Int → Int → h_C → Option (Int × h_C)) (hk54 : ∀ (v1 : Int) (v2 : Int) (v3 : Int) (v4 : Int) (c0 : h_C) (r : (Int × h_C)), k54 v1 v2 v3 v4 c0 = some r → j54 1 v1 v2 v3 v4 (h_H c0 m) = some (r.1, (h_H r.2 m))) (v1 : Int) (v2 : Int) (v3 : Int) (v4 : Int) (c0 : h_C) (r : (Int × h_C)) (h : GL_SW_tally_54 k54 v1 v2 v3 v4 c0 = some r) : L_SW_tally_54 j54 1 v1 v2 v3 v4 (h_H c0 m) = some (r.1, (h_H r.2 m)) := by
  unfold GL_SW_tally_54 at h
  unfold L_SW_tally_54
  refine gdT (isD c0 m d600) ?_
  obtain ⟨g1, h⟩ := p_gdE h
  try rw [rm5000 c0 m g1]
  have hv2 : vW (c0 5000 0 0).toNat := by omega
  refine gdT (isD c0 m (d200 hv2)) ?_
  try rw [rD c0 m (rr200_9 hv2)]
  refine gdT (isD c0 m (d2036 hv2)) ?_
  obtain ⟨g3, h⟩ := p_gdE h
  refine gdT ⟨g3.1, by (try rw [lenD c0 m (d2036 hv2)]); exact g3.2⟩ ?_
  try rw [zA c0 m (d2036 hv2) (by decide) (v1 : Int).toNat]
  refine iteC Iff.rfl h (fun b4 h => ?_) (fun b4 h => ?_)
  · obtain ⟨r7, c8, q5, h⟩ := q_bdE h
    refine bdC (u_SW_done m v3 c0 _ q5) ?_
    cases h
    rfl
  · try rw [rm5000 c0 m g1]
    try rw [rm5000 c0 m g1]
    try rw [rD c0 m (rr200_7 hv2)]
    refine gdT (isD c0 m (d2033 hv2)) ?_
    refine gdT ⟨g3.1, by (try rw [lenD c0 m (d2033 hv2)]); exact g3.2⟩ ?_
    try rw [rD c0 m (el2033 (k := (v1 : Int).toNat) hv2 (Nat.zero_le _) (by omega))]
    have hv10 : vU (4 * (c0 5000 0 0).toNat + (v1 : Int).toNat) := by have := hv2; omega
    refine gdT (isD c0 m (d2034 hv10)) ?_
    obtain ⟨g11, h⟩ := p_gdE h
    refine gdT ⟨g11.1, by (try rw [lenD c0 m (d2034 hv10)]); exact g11.2⟩ ?_
    try rw [zA c0 m (d2034 hv10) (by decide) (v4 : Int).toNat]
    obtain ⟨r14, q12, h⟩ := q_bvE h
    refine bdC (u_Works_gearOf m (c0 5000 0 0).toNat (c0 2034 (4 * (c0 5000 0 0).toNat + (v1 : Int).toNat) (v4 : Int).toNat) c0 _ q12) ?_
    refine iteC (ne_iff (h_A0z _)) h (fun b16 h => ?_) (fun b16 h => ?_)
    · refine iteC Iff.rfl h (fun b17 h => ?_) (fun b17 h => ?_)
      · refine iteC Iff.rfl h (fun b18 h => ?_) (fun b18 h => ?_)
        · obtain ⟨g19, h⟩ := p_gdE h
          refine gdT (isD c0 m (d0 g19)) ?_
          try rw [zf11 c0 m g19]
          exact uB_SW_tally_132 m j54 k54 hk54 v1 v2 v4 (c0 11 r14 0) v3 c0 _ h
        · obtain ⟨g20, h⟩ := p_gdE h
          refine gdT (isD c0 m (d0 g20)) ?_
          try rw [zf10 c0 m g20]
          exact uB_SW_tally_132 m j54 k54 hk54 v1 v2 v4 (c0 10 r14 0) v3 c0 _ h
      · obtain ⟨g21, h⟩ := p_gdE h
        refine gdT (isD c0 m (d0 g21)) ?_
        obtain ⟨r24, q22, h⟩ := q_bvE h
        refine bdC (u_Gear_parcels m r14 c0 _ q22) ?_
        exact uB_SW_tally_132 m j54 k54 hk54 v1 v2 v4 r24 v3 c0 _ h
    · obtain ⟨r28, c29, q26, h⟩ := q_bdE h
      refine bdC (u_SW_refuse m (-11) c0 _ q26) ?_
      cases h
      rfl
set_option maxRecDepth 100000 in
set_option maxHeartbeats 4000000 in
theorem uO_SW_tally_54 (m : h_M)  : ∀ (n : Nat) (v1 : Int) (v2 : Int) (v3 : Int) (v4 : Int) (c0 : h_C) (r : (Int × h_C)), GO_SW_tally_54 n v1 v2 v3 v4 c0 = some r → O_SW_tally_54 n 1 v1 v2 v3 v4 (h_H c0 m) = some (r.1, (h_H r.2 m)) := by
  intro n
  induction n with
  | zero => intro v1 v2 v3 v4 c0 r h; cases h
  | succ n ih => intro v1 v2 v3 v4 c0 r h; exact uL_SW_tally_54 m (O_SW_tally_54 n) (GO_SW_tally_54 n) ih v1 v2 v3 v4 c0 r h
set_option maxRecDepth 100000 in
set_option maxHeartbeats 4000000 in
theorem u_SW_tally (m : h_M) (v1 : Int) (v2 : Int) (c0 : h_C) (r : (Int × h_C)) (h : G_SW_tally v1 v2 c0 = some r) : F_SW_tally 1 v1 v2 (h_H c0 m) = some (r.1, (h_H r.2 m)) := by
  unfold G_SW_tally at h
  unfold F_SW_tally
  obtain ⟨r3, q1, h⟩ := q_bvE h
  refine bdC (u_SW_isGroup m v1 c0 _ q1) ?_
  refine iteC Iff.rfl h (fun b5 h => ?_) (fun b5 h => ?_)
  · refine iteC Iff.rfl h (fun b6 h => ?_) (fun b6 h => ?_)
    · exact uB_SW_tally_22 m c0 _ h
    · refine iteC Iff.rfl h (fun b7 h => ?_) (fun b7 h => ?_)
      · refine gdT (isD c0 m d600) ?_
        obtain ⟨g8, h⟩ := p_gdE h
        try rw [rm5000 c0 m g8]
        have hv9 : vW (c0 5000 0 0).toNat := by omega
        refine gdT (isD c0 m (d200 hv9)) ?_
        try rw [rD c0 m (rr200_9 hv9)]
        refine gdT (isD c0 m (d2036 hv9)) ?_
        obtain ⟨g10, h⟩ := p_gdE h
        refine gdT ⟨g10.1, by (try rw [lenD c0 m (d2036 hv9)]); exact g10.2⟩ ?_
        try rw [zA c0 m (d2036 hv9) (by decide) (v1 : Int).toNat]
        refine iteC Iff.rfl h (fun b11 h => ?_) (fun b11 h => ?_)
        · exact uO_SW_tally_54 m 3000 v1 v2 0 0 c0 _ h
        · obtain ⟨r14, c15, q12, h⟩ := q_bdE h
          refine bdC (u_SW_refuse m (-11) c0 _ q12) ?_
          cases h
          rfl
      · exact uB_SW_tally_22 m c0 _ h
  · refine gdT (isD c0 m d600) ?_
    obtain ⟨r19, c20, q17, h⟩ := q_bdE h
    refine bdC (u_SW_refuse m (-1) c0 _ q17) ?_
    cases h
    rfl
def GB_Step_addTrace_28   (c0 : h_C) : Option h_C :=
  p_gd (0 ≤ c0 5002 0 0 ∧ c0 5002 0 0 < 3) <|
  p_bi (wc c0 211 (c0 5002 0 0).toNat 0 (p_w ((c0 211 (c0 5002 0 0).toNat 0) + 1))) fun c3 =>
  some c3
def G_Step_addTrace (v1 : Int) (c0 : h_C) : Option h_C :=
  p_gd (0 ≤ c0 5002 0 0 ∧ c0 5002 0 0 < 3) <|
  if 60 ≤ (c0 211 (c0 5002 0 0).toNat 0) then
    GB_Step_addTrace_28 c0
  else
    p_gd ((0 : Int) ≤ (c0 211 (c0 5002 0 0).toNat 0) ∧ (c0 211 (c0 5002 0 0).toNat 0) < (60 : Int)) <|
    p_bi (wc c0 2037 (c0 5002 0 0).toNat ((c0 211 (c0 5002 0 0).toNat 0) : Int).toNat v1) fun c5 =>
    GB_Step_addTrace_28 c5
set_option maxRecDepth 100000 in
set_option maxHeartbeats 4000000 in
theorem uB_Step_addTrace_28 (m : h_M)   (c0 : h_C) (r : h_C) (h : GB_Step_addTrace_28  c0 = some r) : B_Step_addTrace_28 1112 (h_H c0 m) = some (h_H r m) := by
  unfold GB_Step_addTrace_28 at h
  unfold B_Step_addTrace_28
  refine gdT (isD c0 m d800) ?_
  obtain ⟨g1, h⟩ := p_gdE h
  try rw [rm5002 c0 m g1]
  have hv2 : vW (c0 5002 0 0).toNat := by omega
  refine gdT (isD c0 m (d200 hv2)) ?_
  try rw [zf211 c0 m hv2]
  refine bS (wf211 c0 m hv2 _) h ?_
  intro c3 h
  cases h
  rfl
set_option maxRecDepth 100000 in
set_option maxHeartbeats 4000000 in
theorem u_Step_addTrace (m : h_M) (v1 : Int) (c0 : h_C) (r : h_C) (h : G_Step_addTrace v1 c0 = some r) : F_Step_addTrace 1112 v1 (h_H c0 m) = some (h_H r m) := by
  unfold G_Step_addTrace at h
  unfold F_Step_addTrace
  refine gdT (isD c0 m d800) ?_
  obtain ⟨g1, h⟩ := p_gdE h
  try rw [rm5002 c0 m g1]
  have hv2 : vW (c0 5002 0 0).toNat := by omega
  refine gdT (isD c0 m (d200 hv2)) ?_
  try rw [zf211 c0 m hv2]
  refine iteC Iff.rfl h (fun b3 h => ?_) (fun b3 h => ?_)
  · exact uB_Step_addTrace_28 m c0 _ h
  · try rw [rm5002 c0 m g1]
    try rw [rD c0 m (rr200_10 hv2)]
    try rw [rm5002 c0 m g1]
    try rw [zf211 c0 m hv2]
    refine gdT (isD c0 m (d2037 hv2)) ?_
    obtain ⟨g4, h⟩ := p_gdE h
    refine gdT ⟨g4.1, by (try rw [lenD c0 m (d2037 hv2)]); exact g4.2⟩ ?_
    refine bS (wA c0 m (d2037 hv2) (by decide) _ _) h ?_
    intro c5 h
    exact uB_Step_addTrace_28 m c5 _ h
def G_Step_lampOf (v1 : Nat) (c0 : h_C) : Option Int :=
  p_gd (vG v1) <|
  if (c0 0 v1 0) ≠ 9 then
    if (c0 804 0 0) = 0 then
      if (c0 8 v1 0) ≤ 0 then
        some 1
      else
        some 2
    else
      some 3
  else
    if (c0 7 v1 0) = 0 then
      some 0
    else
      some 1
set_option maxRecDepth 100000 in
set_option maxHeartbeats 4000000 in
theorem u_Step_lampOf (m : h_M) (v1 : Nat) (c0 : h_C) (r : Int) (h : G_Step_lampOf v1 c0 = some r) : F_Step_lampOf 1112 (h_A 0 v1) (h_H c0 m) = some (r, (h_H c0 m)) := by
  unfold G_Step_lampOf at h
  unfold F_Step_lampOf
  obtain ⟨g1, h⟩ := p_gdE h
  refine gdT (isD c0 m (d0 g1)) ?_
  try rw [zf0 c0 m g1]
  refine iteC Iff.rfl h (fun b2 h => ?_) (fun b2 h => ?_)
  · refine gdT (isD c0 m d800) ?_
    try rw [zf804 c0 m]
    refine iteC Iff.rfl h (fun b3 h => ?_) (fun b3 h => ?_)
    · try rw [zf8 c0 m g1]
      refine iteC Iff.rfl h (fun b4 h => ?_) (fun b4 h => ?_)
      · cases h
        rfl
      · cases h
        rfl
    · cases h
      rfl
  · try rw [zf7 c0 m g1]
    refine iteC Iff.rfl h (fun b5 h => ?_) (fun b5 h => ?_)
    · cases h
      rfl
    · cases h
      rfl
def GB_Step_moveUp_74 (k7 : Nat → Int → h_C → Option h_C) (v1 : Nat) (v2 : Int) (c0 : h_C) : Option h_C :=
  p_bi (p_w (v2 + (-1))) fun x1 =>
  k7 v1 x1 c0
def GL_Step_moveUp_7 (k7 : Nat → Int → h_C → Option h_C) (v1 : Nat) (v2 : Int) (c0 : h_C) : Option h_C :=
  if v2 < 0 then
    some c0
  else
    p_gd (0 ≤ c0 5003 0 0 ∧ c0 5003 0 0 < 3) <|
    q_bv (G_State_inSlot (c0 5003 0 0).toNat v1 v2 c0) fun r6 =>
    if r6 = 0 then
      GB_Step_moveUp_74 k7 v1 v2 c0
    else
      p_gd (vP r6) <|
      if (c0 108 r6 0) ≠ 0 then
        GB_Step_moveUp_74 k7 v1 v2 c0
      else
        p_gd (vG v1) <|
        p_gd ((0 : Int) ≤ (p_w (v2 + 1)) ∧ (p_w (v2 + 1)) < (8 : Int)) <|
        if (c0 2012 v1 ((p_w (v2 + 1)) : Int).toNat) ≠ 0 then
          GB_Step_moveUp_74 k7 v1 v2 c0
        else
          p_gd ((0 : Int) ≤ v2 ∧ v2 < (8 : Int)) <|
          p_bi (wc c0 2012 v1 (v2 : Int).toNat 0) fun c15 =>
          p_bi (wc c15 2012 v1 ((p_w (v2 + 1)) : Int).toNat (c15 100 r6 0)) fun c17 =>
          p_bi (wc c17 106 r6 0 (p_w (v2 + 1))) fun c19 =>
          p_bi (wc c19 108 r6 0 1) fun c21 =>
          GB_Step_moveUp_74 k7 v1 v2 c21
def GO_Step_moveUp_7  : Nat → Nat → Int → h_C → Option h_C
  | 0 => fun _ _ _ => none
  | n + 1 => GL_Step_moveUp_7 (GO_Step_moveUp_7 n)
def G_Step_moveUp (v1 : Nat) (c0 : h_C) : Option h_C :=
  p_gd (vG v1) <|
  p_bi ((p_w ((c0 1 v1 0) - 2))) fun x3 =>
  GO_Step_moveUp_7 3000 v1 x3 c0
set_option maxRecDepth 100000 in
set_option maxHeartbeats 4000000 in
theorem uB_Step_moveUp_74 (m : h_M) (j7 : Nat → Nat → Int → p_Hp → Option p_Hp) (k7 : Nat → Int → h_C → Option h_C) (hk7 : ∀ (v1 : Nat) (v2 : Int) (c0 : h_C) (r : h_C), k7 v1 v2 c0 = some r → j7 1112 (h_A 0 v1) v2 (h_H c0 m) = some (h_H r m)) (v1 : Nat) (v2 : Int) (c0 : h_C) (r : h_C) (h : GB_Step_moveUp_74 k7 v1 v2 c0 = some r) : B_Step_moveUp_74 j7 1112 (h_A 0 v1) v2 (h_H c0 m) = some (h_H r m) := by
  unfold GB_Step_moveUp_74 at h
  unfold B_Step_moveUp_74
  refine bV h ?_
  intro x1 h
  exact hk7 v1 x1 c0 _ h
set_option maxRecDepth 100000 in
set_option maxHeartbeats 4000000 in
theorem uL_Step_moveUp_7 (m : h_M) (j7 : Nat → Nat → Int → p_Hp → Option p_Hp) (k7 : Nat → Int → h_C → Option h_C) (hk7 : ∀ (v1 : Nat) (v2 : Int) (c0 : h_C) (r : h_C), k7 v1 v2 c0 = some r → j7 1112 (h_A 0 v1) v2 (h_H c0 m) = some (h_H r m)) (v1 : Nat) (v2 : Int) (c0 : h_C) (r : h_C) (h : GL_Step_moveUp_7 k7 v1 v2 c0 = some r) : L_Step_moveUp_7 j7 1112 (h_A 0 v1) v2 (h_H c0 m) = some (h_H r m) := by
  unfold GL_Step_moveUp_7 at h
  unfold L_Step_moveUp_7
  refine iteC Iff.rfl h (fun b1 h => ?_) (fun b1 h => ?_)
  · cases h
    rfl
  · refine gdT (isD c0 m d800) ?_
    obtain ⟨g2, h⟩ := p_gdE h
    try rw [rm5003 c0 m g2]
    have hv3 : vW (c0 5003 0 0).toNat := by omega
    refine gdT (isD c0 m (d300 hv3)) ?_
    obtain ⟨r6, q4, h⟩ := q_bvE h
    refine bdC (u_State_inSlot m (c0 5003 0 0).toNat v1 v2 c0 _ q4) ?_
    refine iteC (h_A100z _) h (fun b8 h => ?_) (fun b8 h => ?_)
    · exact uB_Step_moveUp_74 m j7 k7 hk7 v1 v2 c0 _ h
    · obtain ⟨g9, h⟩ := p_gdE h
      refine gdT (isD c0 m (d100 g9)) ?_
      try rw [zf108 c0 m g9]
      refine iteC Iff.rfl h (fun b10 h => ?_) (fun b10 h => ?_)
      · exact uB_Step_moveUp_74 m j7 k7 hk7 v1 v2 c0 _ h
      · obtain ⟨g11, h⟩ := p_gdE h
        refine gdT (isD c0 m (d0 g11)) ?_
        try rw [rD c0 m (rr0_17 g11)]
        refine gdT (isD c0 m (d2012 g11)) ?_
        obtain ⟨g12, h⟩ := p_gdE h
        refine gdT ⟨g12.1, by (try rw [lenD c0 m (d2012 g11)]); exact g12.2⟩ ?_
        try rw [zA c0 m (d2012 g11) (by decide) ((p_w (v2 + 1)) : Int).toNat]
        refine iteC Iff.rfl h (fun b13 h => ?_) (fun b13 h => ?_)
        · exact uB_Step_moveUp_74 m j7 k7 hk7 v1 v2 c0 _ h
        · try rw [rD c0 m (rr0_17 g11)]
          obtain ⟨g14, h⟩ := p_gdE h
          refine gdT ⟨g14.1, by (try rw [lenD c0 m (d2012 g11)]); exact g14.2⟩ ?_
          refine bS (wA c0 m (d2012 g11) (by decide) _ _) h ?_
          intro c15 h
          try rw [rD c15 m (rr0_17 g11)]
          try rw [zf100 c15 m g9]
          refine gdT (isD c15 m (d2012 g11)) ?_
          refine gdT ⟨g12.1, by (try rw [lenD c15 m (d2012 g11)]); exact g12.2⟩ ?_
          refine bS (wA c15 m (d2012 g11) (by decide) _ _) h ?_
          intro c17 h
          refine bS (wf106 c17 m g9 _) h ?_
          intro c19 h
          refine bS (wf108 c19 m g9 _) h ?_
          intro c21 h
          exact uB_Step_moveUp_74 m j7 k7 hk7 v1 v2 c21 _ h
set_option maxRecDepth 100000 in
set_option maxHeartbeats 4000000 in
theorem uO_Step_moveUp_7 (m : h_M)  : ∀ (n : Nat) (v1 : Nat) (v2 : Int) (c0 : h_C) (r : h_C), GO_Step_moveUp_7 n v1 v2 c0 = some r → O_Step_moveUp_7 n 1112 (h_A 0 v1) v2 (h_H c0 m) = some (h_H r m) := by
  intro n
  induction n with
  | zero => intro v1 v2 c0 r h; cases h
  | succ n ih => intro v1 v2 c0 r h; exact uL_Step_moveUp_7 m (O_Step_moveUp_7 n) (GO_Step_moveUp_7 n) ih v1 v2 c0 r h
set_option maxRecDepth 100000 in
set_option maxHeartbeats 4000000 in
theorem u_Step_moveUp (m : h_M) (v1 : Nat) (c0 : h_C) (r : h_C) (h : G_Step_moveUp v1 c0 = some r) : F_Step_moveUp 1112 (h_A 0 v1) (h_H c0 m) = some (h_H r m) := by
  unfold G_Step_moveUp at h
  unfold F_Step_moveUp
  obtain ⟨g1, h⟩ := p_gdE h
  refine gdT (isD c0 m (d0 g1)) ?_
  try rw [zf1 c0 m g1]
  refine bV h ?_
  intro x3 h
  exact uO_Step_moveUp_7 m 3000 v1 x3 c0 _ h
def G_Gear_isHeld (v0 : Nat) (c0 : h_C) : Option Int :=
  p_gd (vG v0) <|
  if (c0 0 v0 0) ≠ 8 then
    some 0
  else
    if (c0 14 v0 0) ≠ 0 then
      some 0
    else
      some 1
set_option maxRecDepth 100000 in
set_option maxHeartbeats 4000000 in
theorem u_Gear_isHeld (m : h_M) (v0 : Nat) (c0 : h_C) (r : Int) (h : G_Gear_isHeld v0 c0 = some r) : F_Gear_isHeld (h_A 0 v0) (h_H c0 m) = some (r, (h_H c0 m)) := by
  unfold G_Gear_isHeld at h
  unfold F_Gear_isHeld
  obtain ⟨g1, h⟩ := p_gdE h
  refine gdT (isD c0 m (d0 g1)) ?_
  try rw [zf0 c0 m g1]
  refine iteC Iff.rfl h (fun b2 h => ?_) (fun b2 h => ?_)
  · cases h
    rfl
  · try rw [zf14 c0 m g1]
    refine iteC Iff.rfl h (fun b3 h => ?_) (fun b3 h => ?_)
    · cases h
      rfl
    · cases h
      rfl
def G_Gear_linkAhead (v0 : Nat) (c0 : h_C) : Option Int :=
  p_gd (vG v0) <|
  q_bv (G_Gear_isDivert v0 c0) fun r4 =>
  if r4 = 0 then
    some 0
  else
    some (c0 6 v0 0)
set_option maxRecDepth 100000 in
set_option maxHeartbeats 4000000 in
theorem u_Gear_linkAhead (m : h_M) (v0 : Nat) (c0 : h_C) (r : Int) (h : G_Gear_linkAhead v0 c0 = some r) : F_Gear_linkAhead (h_A 0 v0) (h_H c0 m) = some (r, (h_H c0 m)) := by
  unfold G_Gear_linkAhead at h
  unfold F_Gear_linkAhead
  obtain ⟨g1, h⟩ := p_gdE h
  refine gdT (isD c0 m (d0 g1)) ?_
  obtain ⟨r4, q2, h⟩ := q_bvE h
  refine bdC (u_Gear_isDivert m v0 c0 _ q2) ?_
  refine iteC Iff.rfl h (fun b6 h => ?_) (fun b6 h => ?_)
  · cases h
    rfl
  · try rw [zf6 c0 m g1]
    cases h
    rfl
def G_Log_add (v0 : Nat) (v1 : Int) (v2 : Int) (v3 : Int) (v4 : Int) (v5 : Int) (c0 : h_C) : Option h_C :=
  p_gd (vL v0) <|
  p_gd ((c0 400 v0 0) ≠ 0) <|
  p_bi ((p_w ((p_rem (c0 403 v0 0) (c0 400 v0 0)) * 5))) fun x4 =>
  p_gd ((0 : Int) ≤ x4 ∧ x4 < ((if v0 % 2 = 0 then 200 else 150 : Nat) : Int)) <|
  p_bi (wc c0 2005 v0 (x4 : Int).toNat v1) fun c6 =>
  p_gd ((0 : Int) ≤ (p_w (x4 + 1)) ∧ (p_w (x4 + 1)) < ((if v0 % 2 = 0 then 200 else 150 : Nat) : Int)) <|
  p_bi (wc c6 2005 v0 ((p_w (x4 + 1)) : Int).toNat v2) fun c9 =>
  p_gd ((0 : Int) ≤ (p_w (x4 + 2)) ∧ (p_w (x4 + 2)) < ((if v0 % 2 = 0 then 200 else 150 : Nat) : Int)) <|
  p_bi (wc c9 2005 v0 ((p_w (x4 + 2)) : Int).toNat v3) fun c12 =>
  p_gd ((0 : Int) ≤ (p_w (x4 + 3)) ∧ (p_w (x4 + 3)) < ((if v0 % 2 = 0 then 200 else 150 : Nat) : Int)) <|
  p_bi (wc c12 2005 v0 ((p_w (x4 + 3)) : Int).toNat v4) fun c15 =>
  p_gd ((0 : Int) ≤ (p_w (x4 + 4)) ∧ (p_w (x4 + 4)) < ((if v0 % 2 = 0 then 200 else 150 : Nat) : Int)) <|
  p_bi (wc c15 2005 v0 ((p_w (x4 + 4)) : Int).toNat v5) fun c18 =>
  p_bi (wc c18 403 v0 0 (p_w ((c18 403 v0 0) + 1))) fun c20 =>
  some c20
set_option maxRecDepth 100000 in
set_option maxHeartbeats 4000000 in
theorem u_Log_add (m : h_M) (v0 : Nat) (v1 : Int) (v2 : Int) (v3 : Int) (v4 : Int) (v5 : Int) (c0 : h_C) (r : h_C) (h : G_Log_add v0 v1 v2 v3 v4 v5 c0 = some r) : F_Log_add (h_A 400 v0) v1 v2 v3 v4 v5 (h_H c0 m) = some (h_H r m) := by
  unfold G_Log_add at h
  unfold F_Log_add
  obtain ⟨g1, h⟩ := p_gdE h
  refine gdT (isD c0 m (d400 g1)) ?_
  try rw [zf403 c0 m g1]
  try rw [zf400 c0 m g1]
  obtain ⟨g2, h⟩ := p_gdE h
  refine gdT g2 ?_
  refine bV h ?_
  intro x4 h
  try rw [rD c0 m (rr400_2 g1)]
  refine gdT (isD c0 m (d2005 g1)) ?_
  obtain ⟨g5, h⟩ := p_gdE h
  refine gdT ⟨g5.1, by (try rw [lenD c0 m (d2005 g1)]); exact g5.2⟩ ?_
  refine bS (wA c0 m (d2005 g1) (by decide) _ _) h ?_
  intro c6 h
  try rw [rD c6 m (rr400_2 g1)]
  refine gdT (isD c6 m (d2005 g1)) ?_
  obtain ⟨g8, h⟩ := p_gdE h
  refine gdT ⟨g8.1, by (try rw [lenD c6 m (d2005 g1)]); exact g8.2⟩ ?_
  refine bS (wA c6 m (d2005 g1) (by decide) _ _) h ?_
  intro c9 h
  try rw [rD c9 m (rr400_2 g1)]
  refine gdT (isD c9 m (d2005 g1)) ?_
  obtain ⟨g11, h⟩ := p_gdE h
  refine gdT ⟨g11.1, by (try rw [lenD c9 m (d2005 g1)]); exact g11.2⟩ ?_
  refine bS (wA c9 m (d2005 g1) (by decide) _ _) h ?_
  intro c12 h
  try rw [rD c12 m (rr400_2 g1)]
  refine gdT (isD c12 m (d2005 g1)) ?_
  obtain ⟨g14, h⟩ := p_gdE h
  refine gdT ⟨g14.1, by (try rw [lenD c12 m (d2005 g1)]); exact g14.2⟩ ?_
  refine bS (wA c12 m (d2005 g1) (by decide) _ _) h ?_
  intro c15 h
  try rw [rD c15 m (rr400_2 g1)]
  refine gdT (isD c15 m (d2005 g1)) ?_
  obtain ⟨g17, h⟩ := p_gdE h
  refine gdT ⟨g17.1, by (try rw [lenD c15 m (d2005 g1)]); exact g17.2⟩ ?_
  refine bS (wA c15 m (d2005 g1) (by decide) _ _) h ?_
  intro c18 h
  try rw [zf403 c18 m g1]
  refine bS (wf403 c18 m g1 _) h ?_
  intro c20 h
  cases h
  rfl
def G_Step_addFinding (v1 : Int) (v2 : Int) (v3 : Int) (v4 : Int) (c0 : h_C) : Option h_C :=
  p_gd (0 ≤ c0 5003 0 0 ∧ c0 5003 0 0 < 3) <|
  q_bv (G_Log_add (2 * (c0 5003 0 0).toNat) (c0 300 (c0 5003 0 0).toNat 0) v1 v2 (p_w ((-10) - v3)) v4 c0) fun c6 =>
  p_bi (wc c6 804 0 0 1) fun c7 =>
  if v1 = (-9) then
    some c7
  else
    p_gd (0 ≤ c7 5003 0 0 ∧ c7 5003 0 0 < 3) <|
    p_gd ((0 : Int) ≤ v1 ∧ v1 < (40 : Int)) <|
    p_bi (wc c7 12 (40 * (c7 5003 0 0).toNat + (v1 : Int).toNat + 1) 0 (p_w ((c7 12 (40 * (c7 5003 0 0).toNat + (v1 : Int).toNat + 1) 0) + 1))) fun c14 =>
    some c14
set_option maxRecDepth 100000 in
set_option maxHeartbeats 4000000 in
theorem u_Step_addFinding (m : h_M) (v1 : Int) (v2 : Int) (v3 : Int) (v4 : Int) (c0 : h_C) (r : h_C) (h : G_Step_addFinding v1 v2 v3 v4 c0 = some r) : F_Step_addFinding 1112 v1 v2 v3 v4 (h_H c0 m) = some (h_H r m) := by
  unfold G_Step_addFinding at h
  unfold F_Step_addFinding
  refine gdT (isD c0 m d800) ?_
  obtain ⟨g1, h⟩ := p_gdE h
  try rw [rm5003 c0 m g1]
  have hv2 : vW (c0 5003 0 0).toNat := by omega
  refine gdT (isD c0 m (d300 hv2)) ?_
  try rw [rD c0 m (rr300_7 hv2)]
  have hv3 : vL (2 * (c0 5003 0 0).toNat) := by have := hv2; omega
  try rw [rm5003 c0 m g1]
  try rw [zf300 c0 m hv2]
  refine gdT (isD c0 m (d400 hv3)) ?_
  obtain ⟨c6, q4, h⟩ := q_bvE h
  refine bvC (u_Log_add m (2 * (c0 5003 0 0).toNat) (c0 300 (c0 5003 0 0).toNat 0) v1 v2 (p_w ((-10) - v3)) v4 c0 _ q4) ?_
  refine bS (wf804 c6 m _) h ?_
  intro c7 h
  refine iteC Iff.rfl h (fun b9 h => ?_) (fun b9 h => ?_)
  · cases h
    rfl
  · obtain ⟨g10, h⟩ := p_gdE h
    try rw [rm5003 c7 m g10]
    have hv11 : vW (c7 5003 0 0).toNat := by omega
    refine gdT (isD c7 m (d300 hv11)) ?_
    try rw [rD c7 m (rr300_4 hv11)]
    refine gdT (isD c7 m (d2001 hv11)) ?_
    obtain ⟨g12, h⟩ := p_gdE h
    refine gdT ⟨g12.1, by (try rw [lenD c7 m (d2001 hv11)]); exact g12.2⟩ ?_
    try rw [rD c7 m (el2001 (k := (v1 : Int).toNat) hv11 (Nat.zero_le _) (by omega))]
    have hv13 : vG (40 * (c7 5003 0 0).toNat + (v1 : Int).toNat + 1) := ⟨by omega, by have := hv11; omega⟩
    refine gdT (isD c7 m (d0 hv13)) ?_
    try rw [zf12 c7 m hv13]
    refine bS (wf12 c7 m hv13 _) h ?_
    intro c14 h
    cases h
    rfl
def G_Gear_wantedSide (v0 : Nat) (v1 : Int) (c0 : h_C) : Option Int :=
  p_gd (vG v0) <|
  q_bv (G_Gear_aims v0 1 v1 c0) fun r4 =>
  if r4 = 0 then
    q_bv (G_Gear_aims v0 2 v1 c0) fun r9 =>
    if r9 = 0 then
      some 0
    else
      some 2
  else
    some 1
set_option maxRecDepth 100000 in
set_option maxHeartbeats 4000000 in
theorem u_Gear_wantedSide (m : h_M) (v0 : Nat) (v1 : Int) (c0 : h_C) (r : Int) (h : G_Gear_wantedSide v0 v1 c0 = some r) : F_Gear_wantedSide (h_A 0 v0) v1 (h_H c0 m) = some (r, (h_H c0 m)) := by
  unfold G_Gear_wantedSide at h
  unfold F_Gear_wantedSide
  obtain ⟨g1, h⟩ := p_gdE h
  refine gdT (isD c0 m (d0 g1)) ?_
  obtain ⟨r4, q2, h⟩ := q_bvE h
  refine bdC (u_Gear_aims m v0 1 v1 c0 _ q2) ?_
  refine iteC Iff.rfl h (fun b6 h => ?_) (fun b6 h => ?_)
  · obtain ⟨r9, q7, h⟩ := q_bvE h
    refine bdC (u_Gear_aims m v0 2 v1 c0 _ q7) ?_
    refine iteC Iff.rfl h (fun b11 h => ?_) (fun b11 h => ?_)
    · cases h
      rfl
    · cases h
      rfl
  · cases h
    rfl
def G_Step_divertTakes (v0 : Nat) (v1 : Int) (c0 : h_C) : Option (Int × h_C) :=
  p_gd (vG v0) <|
  if (c0 6 v0 0) ≠ v1 then
    q_bv (G_Gear_parcels v0 c0) fun r5 =>
    if r5 ≠ 0 then
      some (0, c0)
    else
      p_bi (wc c0 6 v0 0 v1) fun c8 =>
      some (0, c8)
  else
    q_bv (G_Gear_isFreeAtStart v0 c0) fun r12 =>
    p_gd (r12 = 0 ∨ r12 = 1) <|
    some (r12, c0)
set_option maxRecDepth 100000 in
set_option maxHeartbeats 4000000 in
theorem u_Step_divertTakes (m : h_M) (v0 : Nat) (v1 : Int) (c0 : h_C) (r : (Int × h_C)) (h : G_Step_divertTakes v0 v1 c0 = some r) : F_Step_divertTakes (h_A 0 v0) v1 (h_H c0 m) = some (r.1, (h_H r.2 m)) := by
  unfold G_Step_divertTakes at h
  unfold F_Step_divertTakes
  obtain ⟨g1, h⟩ := p_gdE h
  refine gdT (isD c0 m (d0 g1)) ?_
  try rw [zf6 c0 m g1]
  refine iteC Iff.rfl h (fun b2 h => ?_) (fun b2 h => ?_)
  · obtain ⟨r5, q3, h⟩ := q_bvE h
    refine bdC (u_Gear_parcels m v0 c0 _ q3) ?_
    refine iteC Iff.rfl h (fun b7 h => ?_) (fun b7 h => ?_)
    · cases h
      rfl
    · refine bS (wf6 c0 m g1 _) h ?_
      intro c8 h
      cases h
      rfl
  · obtain ⟨r12, q10, h⟩ := q_bvE h
    refine bdC (u_Gear_isFreeAtStart m v0 c0 _ q10) ?_
    obtain ⟨g14, h⟩ := p_gdE h
    refine gdT g14 ?_
    cases h
    rfl
def G_Step_mergeTakes (v1 : Nat) (v2 : Int) (c0 : h_C) : Option (Int × h_C) :=
  q_bv (G_Step_addTrace 21 c0) fun c3 =>
  p_gd (vG v1) <|
  if (c3 19 v1 0) = v2 then
    q_bv (G_Step_addTrace 20 c3) fun c8 =>
    q_bv (G_Gear_isFreeAtStart v1 c8) fun r11 =>
    if r11 ≠ 0 then
      p_bi (wc c8 15 v1 0 v2) fun c14 =>
      some (1, c14)
    else
      some (0, c8)
  else
    some (0, c3)
set_option maxRecDepth 100000 in
set_option maxHeartbeats 4000000 in
theorem u_Step_mergeTakes (m : h_M) (v1 : Nat) (v2 : Int) (c0 : h_C) (r : (Int × h_C)) (h : G_Step_mergeTakes v1 v2 c0 = some r) : F_Step_mergeTakes 1112 (h_A 0 v1) v2 (h_H c0 m) = some (r.1, (h_H r.2 m)) := by
  unfold G_Step_mergeTakes at h
  unfold F_Step_mergeTakes
  refine gdT (isD c0 m d800) ?_
  obtain ⟨c3, q1, h⟩ := q_bvE h
  refine bvC (u_Step_addTrace m 21 c0 _ q1) ?_
  obtain ⟨g4, h⟩ := p_gdE h
  refine gdT (isD c3 m (d0 g4)) ?_
  try rw [zf19 c3 m g4]
  refine iteC Iff.rfl h (fun b5 h => ?_) (fun b5 h => ?_)
  · obtain ⟨c8, q6, h⟩ := q_bvE h
    refine bvC (u_Step_addTrace m 20 c3 _ q6) ?_
    obtain ⟨r11, q9, h⟩ := q_bvE h
    refine bdC (u_Gear_isFreeAtStart m v1 c8 _ q9) ?_
    refine iteC Iff.rfl h (fun b13 h => ?_) (fun b13 h => ?_)
    · refine bS (wf15 c8 m g4 _) h ?_
      intro c14 h
      cases h
      rfl
    · cases h
      rfl
  · cases h
    rfl
def GB_Step_takes_104  (v1 : Int) (v3 : Int) (v4 : Nat) (w0 : Int) (c0 : h_C) : Option (Int × h_C) :=
  q_bv (G_Step_addTrace w0 c0) fun c3 =>
  p_gd (vG v4) <|
  q_bv (G_Gear_isChuteFor v4 v3 v1 c3) fun r7 =>
  if r7 = 0 then
    some (0, c3)
  else
    q_bv (G_Gear_isFreeAtStart v4 c3) fun r12 =>
    if r12 = 0 then
      some (0, c3)
    else
      some (1, c3)
def G_Step_takes (v1 : Int) (v2 : Int) (v3 : Int) (c0 : h_C) : Option (Int × h_C) :=
  p_gd (0 ≤ c0 5003 0 0 ∧ c0 5003 0 0 < 3) <|
  p_gd ((0 : Int) ≤ v1 ∧ v1 < (40 : Int)) <|
  if (c0 0 (40 * (c0 5003 0 0).toNat + (v1 : Int).toNat + 1) 0) = 2 then
    q_bd (G_Step_mergeTakes (40 * (c0 5003 0 0).toNat + (v1 : Int).toNat + 1) v2 c0) fun r9 c10 =>
    p_gd (r9 = 0 ∨ r9 = 1) <|
    some (r9, c10)
  else if (c0 0 (40 * (c0 5003 0 0).toNat + (v1 : Int).toNat + 1) 0) = 5 then
    q_bv (G_Step_addTrace 22 c0) fun c16 =>
    q_bv (G_Gear_wantedSide (40 * (c0 5003 0 0).toNat + (v1 : Int).toNat + 1) v3 c16) fun r19 =>
    q_bd (G_Step_divertTakes (40 * (c0 5003 0 0).toNat + (v1 : Int).toNat + 1) r19 c16) fun r23 c24 =>
    p_gd (r23 = 0 ∨ r23 = 1) <|
    some (r23, c24)
  else if (c0 0 (40 * (c0 5003 0 0).toNat + (v1 : Int).toNat + 1) 0) = 6 then
    q_bv (G_Step_addTrace 22 c0) fun c30 =>
    q_bv (G_Gear_wantedSide (40 * (c0 5003 0 0).toNat + (v1 : Int).toNat + 1) v3 c30) fun r33 =>
    q_bd (G_Step_divertTakes (40 * (c0 5003 0 0).toNat + (v1 : Int).toNat + 1) r33 c30) fun r37 c38 =>
    p_gd (r37 = 0 ∨ r37 = 1) <|
    some (r37, c38)
  else if (c0 0 (40 * (c0 5003 0 0).toNat + (v1 : Int).toNat + 1) 0) = 7 then
    if (c0 0 (40 * (c0 5003 0 0).toNat + (v1 : Int).toNat + 1) 0) ≠ 7 then
      GB_Step_takes_104 v1 v3 (40 * (c0 5003 0 0).toNat + (v1 : Int).toNat + 1) 24 c0
    else
      GB_Step_takes_104 v1 v3 (40 * (c0 5003 0 0).toNat + (v1 : Int).toNat + 1) 23 c0
  else if (c0 0 (40 * (c0 5003 0 0).toNat + (v1 : Int).toNat + 1) 0) = 8 then
    if (c0 0 (40 * (c0 5003 0 0).toNat + (v1 : Int).toNat + 1) 0) ≠ 7 then
      GB_Step_takes_104 v1 v3 (40 * (c0 5003 0 0).toNat + (v1 : Int).toNat + 1) 24 c0
    else
      GB_Step_takes_104 v1 v3 (40 * (c0 5003 0 0).toNat + (v1 : Int).toNat + 1) 23 c0
  else 
  q_bv (G_Step_addTrace 20 c0) fun c47 =>
  q_bv (G_Gear_isFreeAtStart (40 * (c0 5003 0 0).toNat + (v1 : Int).toNat + 1) c47) fun r50 =>
  p_gd (r50 = 0 ∨ r50 = 1) <|
  some (r50, c47)
set_option maxRecDepth 100000 in
set_option maxHeartbeats 4000000 in
theorem uB_Step_takes_104 (m : h_M)  (v1 : Int) (v3 : Int) (v4 : Nat) (w0 : Int) (c0 : h_C) (r : (Int × h_C)) (h : GB_Step_takes_104 v1 v3 v4 w0 c0 = some r) : B_Step_takes_104 v1 v3 (h_A 0 v4) w0 1112 (h_H c0 m) = some (r.1, (h_H r.2 m)) := by
  unfold GB_Step_takes_104 at h
  unfold B_Step_takes_104
  refine gdT (isD c0 m d800) ?_
  obtain ⟨c3, q1, h⟩ := q_bvE h
  refine bvC (u_Step_addTrace m w0 c0 _ q1) ?_
  obtain ⟨g4, h⟩ := p_gdE h
  refine gdT (isD c3 m (d0 g4)) ?_
  obtain ⟨r7, q5, h⟩ := q_bvE h
  refine bdC (u_Gear_isChuteFor m v4 v3 v1 c3 _ q5) ?_
  refine iteC Iff.rfl h (fun b9 h => ?_) (fun b9 h => ?_)
  · cases h
    rfl
  · obtain ⟨r12, q10, h⟩ := q_bvE h
    refine bdC (u_Gear_isFreeAtStart m v4 c3 _ q10) ?_
    refine iteC Iff.rfl h (fun b14 h => ?_) (fun b14 h => ?_)
    · cases h
      rfl
    · cases h
      rfl
set_option maxRecDepth 100000 in
set_option maxHeartbeats 4000000 in
theorem u_Step_takes (m : h_M) (v1 : Int) (v2 : Int) (v3 : Int) (c0 : h_C) (r : (Int × h_C)) (h : G_Step_takes v1 v2 v3 c0 = some r) : F_Step_takes 1112 v1 v2 v3 (h_H c0 m) = some (r.1, (h_H r.2 m)) := by
  unfold G_Step_takes at h
  unfold F_Step_takes
  refine gdT (isD c0 m d800) ?_
  obtain ⟨g1, h⟩ := p_gdE h
  try rw [rm5003 c0 m g1]
  have hv2 : vW (c0 5003 0 0).toNat := by omega
  refine gdT (isD c0 m (d300 hv2)) ?_
  try rw [rD c0 m (rr300_4 hv2)]
  refine gdT (isD c0 m (d2001 hv2)) ?_
  obtain ⟨g3, h⟩ := p_gdE h
  refine gdT ⟨g3.1, by (try rw [lenD c0 m (d2001 hv2)]); exact g3.2⟩ ?_
  try rw [rD c0 m (el2001 (k := (v1 : Int).toNat) hv2 (Nat.zero_le _) (by omega))]
  have hv4 : vG (40 * (c0 5003 0 0).toNat + (v1 : Int).toNat + 1) := ⟨by omega, by have := hv2; omega⟩
  refine bX ?_
  refine gdT (isD c0 m (d0 hv4)) ?_
  try rw [zf0 c0 m hv4]
  refine iteC Iff.rfl h (fun b6 h => ?_) (fun b6 h => ?_)
  · obtain ⟨r9, c10, q7, h⟩ := q_bdE h
    refine bdC (u_Step_mergeTakes m (40 * (c0 5003 0 0).toNat + (v1 : Int).toNat + 1) v2 c0 _ q7) ?_
    obtain ⟨g12, h⟩ := p_gdE h
    refine gdT g12 ?_
    cases h
    rfl
  refine iteC Iff.rfl h (fun b13 h => ?_) (fun b13 h => ?_)
  · obtain ⟨c16, q14, h⟩ := q_bvE h
    refine bvC (u_Step_addTrace m 22 c0 _ q14) ?_
    obtain ⟨r19, q17, h⟩ := q_bvE h
    refine bdC (u_Gear_wantedSide m (40 * (c0 5003 0 0).toNat + (v1 : Int).toNat + 1) v3 c16 _ q17) ?_
    obtain ⟨r23, c24, q21, h⟩ := q_bdE h
    refine bdC (u_Step_divertTakes m (40 * (c0 5003 0 0).toNat + (v1 : Int).toNat + 1) r19 c16 _ q21) ?_
    obtain ⟨g26, h⟩ := p_gdE h
    refine gdT g26 ?_
    cases h
    rfl
  refine iteC Iff.rfl h (fun b27 h => ?_) (fun b27 h => ?_)
  · obtain ⟨c30, q28, h⟩ := q_bvE h
    refine bvC (u_Step_addTrace m 22 c0 _ q28) ?_
    obtain ⟨r33, q31, h⟩ := q_bvE h
    refine bdC (u_Gear_wantedSide m (40 * (c0 5003 0 0).toNat + (v1 : Int).toNat + 1) v3 c30 _ q31) ?_
    obtain ⟨r37, c38, q35, h⟩ := q_bdE h
    refine bdC (u_Step_divertTakes m (40 * (c0 5003 0 0).toNat + (v1 : Int).toNat + 1) r33 c30 _ q35) ?_
    obtain ⟨g40, h⟩ := p_gdE h
    refine gdT g40 ?_
    cases h
    rfl
  refine iteC Iff.rfl h (fun b41 h => ?_) (fun b41 h => ?_)
  · try rw [zf0 c0 m hv4]
    refine iteC Iff.rfl h (fun b42 h => ?_) (fun b42 h => ?_)
    · exact uB_Step_takes_104 m v1 v3 (40 * (c0 5003 0 0).toNat + (v1 : Int).toNat + 1) 24 c0 _ h
    · exact uB_Step_takes_104 m v1 v3 (40 * (c0 5003 0 0).toNat + (v1 : Int).toNat + 1) 23 c0 _ h
  refine iteC Iff.rfl h (fun b43 h => ?_) (fun b43 h => ?_)
  · try rw [zf0 c0 m hv4]
    refine iteC Iff.rfl h (fun b44 h => ?_) (fun b44 h => ?_)
    · exact uB_Step_takes_104 m v1 v3 (40 * (c0 5003 0 0).toNat + (v1 : Int).toNat + 1) 24 c0 _ h
    · exact uB_Step_takes_104 m v1 v3 (40 * (c0 5003 0 0).toNat + (v1 : Int).toNat + 1) 23 c0 _ h
  obtain ⟨c47, q45, h⟩ := q_bvE h
  refine bvC (u_Step_addTrace m 20 c0 _ q45) ?_
  obtain ⟨r50, q48, h⟩ := q_bvE h
  refine bdC (u_Gear_isFreeAtStart m (40 * (c0 5003 0 0).toNat + (v1 : Int).toNat + 1) c47 _ q48) ?_
  obtain ⟨g52, h⟩ := p_gdE h
  refine gdT g52 ?_
  cases h
  rfl
def G_Works_follow (v0 : Nat) (v1 : Nat) (v2 : Int) (c0 : h_C) : Option Int :=
  p_gd (vG v1) <|
  if (c0 3 v1 0) ≠ (-1) then
    if v2 < 0 then
      some (-13)
    else
      if (c0 3 v1 0) ≤ v2 then
        some (-13)
      else
        p_gd ((0 : Int) ≤ v2 ∧ v2 < (3 : Int)) <|
        if (c0 2010 v1 (v2 : Int).toNat) ≠ (-1) then
          p_gd (vW v0) <|
          if (c0 202 v0 0) ≤ (c0 2010 v1 (v2 : Int).toNat) then
            some (-11)
          else
            some (c0 2010 v1 (v2 : Int).toNat)
        else
          some (-13)
  else
    some (-11)
set_option maxRecDepth 100000 in
set_option maxHeartbeats 4000000 in
theorem u_Works_follow (m : h_M) (v0 : Nat) (v1 : Nat) (v2 : Int) (c0 : h_C) (r : Int) (h : G_Works_follow v0 v1 v2 c0 = some r) : F_Works_follow (h_A 200 v0) (h_A 0 v1) v2 (h_H c0 m) = some (r, (h_H c0 m)) := by
  unfold G_Works_follow at h
  unfold F_Works_follow
  obtain ⟨g1, h⟩ := p_gdE h
  refine gdT (isD c0 m (d0 g1)) ?_
  try rw [zf3 c0 m g1]
  refine iteC Iff.rfl h (fun b2 h => ?_) (fun b2 h => ?_)
  · refine iteC Iff.rfl h (fun b3 h => ?_) (fun b3 h => ?_)
    · cases h
      rfl
    · try rw [zf3 c0 m g1]
      refine iteC Iff.rfl h (fun b4 h => ?_) (fun b4 h => ?_)
      · cases h
        rfl
      · try rw [rD c0 m (rr0_4 g1)]
        refine gdT (isD c0 m (d2010 g1)) ?_
        obtain ⟨g5, h⟩ := p_gdE h
        refine gdT ⟨g5.1, by (try rw [lenD c0 m (d2010 g1)]); exact g5.2⟩ ?_
        try rw [zA c0 m (d2010 g1) (by decide) (v2 : Int).toNat]
        refine iteC Iff.rfl h (fun b6 h => ?_) (fun b6 h => ?_)
        · try rw [rD c0 m (rr0_4 g1)]
          refine gdT ⟨g5.1, by (try rw [lenD c0 m (d2010 g1)]); exact g5.2⟩ ?_
          try rw [zA c0 m (d2010 g1) (by decide) (v2 : Int).toNat]
          obtain ⟨g7, h⟩ := p_gdE h
          refine gdT (isD c0 m (d200 g7)) ?_
          try rw [zf202 c0 m g7]
          refine iteC Iff.rfl h (fun b8 h => ?_) (fun b8 h => ?_)
          · cases h
            rfl
          · try rw [rD c0 m (rr0_4 g1)]
            refine gdT ⟨g5.1, by (try rw [lenD c0 m (d2010 g1)]); exact g5.2⟩ ?_
            try rw [zA c0 m (d2010 g1) (by decide) (v2 : Int).toNat]
            cases h
            rfl
        · cases h
          rfl
  · cases h
    rfl
def GB_Step_giveOn_46  (v1 : Int) (v3 : Nat) (v4 : Int) (w0 : Int) (c0 : h_C) : Option (Int × h_C) :=
  if w0 = 0 then
    p_gd (vP v3) <|
    q_bd (G_Step_takes v4 v1 (c0 104 v3 0) c0) fun r5 c6 =>
    if r5 ≠ 0 then
      p_gd (0 ≤ c6 5003 0 0 ∧ c6 5003 0 0 < 3) <|
      q_bv (G_State_carryOver (c6 5003 0 0).toNat v3 v4 c6) fun c13 =>
      p_bi (wc c13 108 v3 0 1) fun c14 =>
      some (1, c14)
    else
      some (0, c6)
  else
    p_gd (vP v3) <|
    q_bv (G_Step_addFinding v1 1 w0 (c0 101 v3 0) c0) fun c19 =>
    some (0, c19)
def G_Step_giveOn (v1 : Int) (v2 : Nat) (v3 : Nat) (c0 : h_C) : Option (Int × h_C) :=
  p_gd (0 ≤ c0 5002 0 0 ∧ c0 5002 0 0 < 3) <|
  p_gd (vG v2) <|
  q_bv (G_Gear_linkAhead v2 c0) fun r6 =>
  q_bv (G_Works_follow (c0 5002 0 0).toNat v2 r6 c0) fun r10 =>
  if 0 ≤ r10 then
    p_gd (0 ≤ c0 5003 0 0 ∧ c0 5003 0 0 < 3) <|
    p_gd ((0 : Int) ≤ r10 ∧ r10 < (40 : Int)) <|
    q_bv (G_Gear_isTaker (40 * (c0 5003 0 0).toNat + (r10 : Int).toNat + 1) c0) fun r19 =>
    if r19 = 0 then
      GB_Step_giveOn_46 v1 v3 r10 (-12) c0
    else
      GB_Step_giveOn_46 v1 v3 r10 0 c0
  else
    GB_Step_giveOn_46 v1 v3 r10 r10 c0
set_option maxRecDepth 100000 in
set_option maxHeartbeats 4000000 in
theorem uB_Step_giveOn_46 (m : h_M)  (v1 : Int) (v3 : Nat) (v4 : Int) (w0 : Int) (c0 : h_C) (r : (Int × h_C)) (h : GB_Step_giveOn_46 v1 v3 v4 w0 c0 = some r) : B_Step_giveOn_46 1112 v1 (h_A 100 v3) v4 w0 (h_H c0 m) = some (r.1, (h_H r.2 m)) := by
  unfold GB_Step_giveOn_46 at h
  unfold B_Step_giveOn_46
  refine iteC Iff.rfl h (fun b1 h => ?_) (fun b1 h => ?_)
  · obtain ⟨g2, h⟩ := p_gdE h
    refine gdT (isD c0 m (d100 g2)) ?_
    try rw [zf104 c0 m g2]
    refine gdT (isD c0 m d800) ?_
    obtain ⟨r5, c6, q3, h⟩ := q_bdE h
    refine bdC (u_Step_takes m v4 v1 (c0 104 v3 0) c0 _ q3) ?_
    refine iteC Iff.rfl h (fun b8 h => ?_) (fun b8 h => ?_)
    · obtain ⟨g9, h⟩ := p_gdE h
      try rw [rm5003 c6 m g9]
      have hv10 : vW (c6 5003 0 0).toNat := by omega
      refine gdT (isD c6 m (d300 hv10)) ?_
      obtain ⟨c13, q11, h⟩ := q_bvE h
      refine bvC (u_State_carryOver m (c6 5003 0 0).toNat v3 v4 c6 _ q11) ?_
      refine bS (wf108 c13 m g2 _) h ?_
      intro c14 h
      cases h
      rfl
    · cases h
      rfl
  · obtain ⟨g16, h⟩ := p_gdE h
    refine gdT (isD c0 m (d100 g16)) ?_
    try rw [zf101 c0 m g16]
    refine gdT (isD c0 m d800) ?_
    obtain ⟨c19, q17, h⟩ := q_bvE h
    refine bvC (u_Step_addFinding m v1 1 w0 (c0 101 v3 0) c0 _ q17) ?_
    cases h
    rfl
set_option maxRecDepth 100000 in
set_option maxHeartbeats 4000000 in
theorem u_Step_giveOn (m : h_M) (v1 : Int) (v2 : Nat) (v3 : Nat) (c0 : h_C) (r : (Int × h_C)) (h : G_Step_giveOn v1 v2 v3 c0 = some r) : F_Step_giveOn 1112 v1 (h_A 0 v2) (h_A 100 v3) (h_H c0 m) = some (r.1, (h_H r.2 m)) := by
  unfold G_Step_giveOn at h
  unfold F_Step_giveOn
  refine gdT (isD c0 m d800) ?_
  obtain ⟨g1, h⟩ := p_gdE h
  try rw [rm5002 c0 m g1]
  have hv2 : vW (c0 5002 0 0).toNat := by omega
  obtain ⟨g3, h⟩ := p_gdE h
  refine gdT (isD c0 m (d0 g3)) ?_
  obtain ⟨r6, q4, h⟩ := q_bvE h
  refine bdC (u_Gear_linkAhead m v2 c0 _ q4) ?_
  refine gdT (isD c0 m (d200 hv2)) ?_
  obtain ⟨r10, q8, h⟩ := q_bvE h
  refine bdC (u_Works_follow m (c0 5002 0 0).toNat v2 r6 c0 _ q8) ?_
  refine iteC Iff.rfl h (fun b12 h => ?_) (fun b12 h => ?_)
  · obtain ⟨g13, h⟩ := p_gdE h
    try rw [rm5003 c0 m g13]
    have hv14 : vW (c0 5003 0 0).toNat := by omega
    refine gdT (isD c0 m (d300 hv14)) ?_
    try rw [rD c0 m (rr300_4 hv14)]
    refine gdT (isD c0 m (d2001 hv14)) ?_
    obtain ⟨g15, h⟩ := p_gdE h
    refine gdT ⟨g15.1, by (try rw [lenD c0 m (d2001 hv14)]); exact g15.2⟩ ?_
    try rw [rD c0 m (el2001 (k := (r10 : Int).toNat) hv14 (Nat.zero_le _) (by omega))]
    have hv16 : vG (40 * (c0 5003 0 0).toNat + (r10 : Int).toNat + 1) := ⟨by omega, by have := hv14; omega⟩
    refine gdT (isD c0 m (d0 hv16)) ?_
    obtain ⟨r19, q17, h⟩ := q_bvE h
    refine bdC (u_Gear_isTaker m (40 * (c0 5003 0 0).toNat + (r10 : Int).toNat + 1) c0 _ q17) ?_
    refine iteC Iff.rfl h (fun b21 h => ?_) (fun b21 h => ?_)
    · exact uB_Step_giveOn_46 m v1 v3 r10 (-12) c0 _ h
    · exact uB_Step_giveOn_46 m v1 v3 r10 0 c0 _ h
  · exact uB_Step_giveOn_46 m v1 v3 r10 r10 c0 _ h
def G_Numbers_takeOut (v1 : Int) (v2 : Int) (v3 : Int) (c0 : h_C) : Option h_C :=
  p_gd ((0 : Int) ≤ v1 ∧ v1 < (2001 : Int)) <|
  p_bi (wc c0 2040 0 (v1 : Int).toNat (p_w ((p_w (1000 * v2)) + v3))) fun c2 =>
  some c2
set_option maxRecDepth 100000 in
set_option maxHeartbeats 4000000 in
theorem u_Numbers_takeOut (m : h_M) (v1 : Int) (v2 : Int) (v3 : Int) (c0 : h_C) (r : h_C) (h : G_Numbers_takeOut v1 v2 v3 c0 = some r) : F_Numbers_takeOut 1110 v1 v2 v3 (h_H c0 m) = some (h_H r m) := by
  unfold G_Numbers_takeOut at h
  unfold F_Numbers_takeOut
  refine gdT (isD c0 m d700) ?_
  try rw [rs1110_0 c0 m]
  refine gdT (isD c0 m d2040) ?_
  obtain ⟨g1, h⟩ := p_gdE h
  refine gdT ⟨g1.1, by (try rw [lenD c0 m d2040]); exact g1.2⟩ ?_
  refine bS (wA c0 m d2040 (by decide) _ _) h ?_
  intro c2 h
  cases h
  rfl
def G_Step_leaveBy (v1 : Int) (v2 : Int) (v3 : Nat) (c0 : h_C) : Option h_C :=
  p_gd (0 ≤ c0 5003 0 0 ∧ c0 5003 0 0 < 3) <|
  q_bv (G_State_lift (c0 5003 0 0).toNat v3 c0) fun c5 =>
  p_gd (0 ≤ c5 5003 0 0 ∧ c5 5003 0 0 < 3) <|
  p_gd ((0 : Int) ≤ v1 ∧ v1 < (40 : Int)) <|
  p_bi (wc c5 10 (40 * (c5 5003 0 0).toNat + (v1 : Int).toNat + 1) 0 (p_w ((c5 10 (40 * (c5 5003 0 0).toNat + (v1 : Int).toNat + 1) 0) + 1))) fun c10 =>
  p_gd (0 ≤ c10 5003 0 0 ∧ c10 5003 0 0 < 3) <|
  p_bi (wc c10 11 (40 * (c10 5003 0 0).toNat + (v1 : Int).toNat + 1) 0 (p_w ((c10 11 (40 * (c10 5003 0 0).toNat + (v1 : Int).toNat + 1) 0) + 1))) fun c15 =>
  p_gd (0 ≤ c15 5003 0 0 ∧ c15 5003 0 0 < 3) <|
  p_gd (vP v3) <|
  q_bv (G_Log_add (2 * (c15 5003 0 0).toNat + 1) (c15 101 v3 0) v1 (c15 300 (c15 5003 0 0).toNat 0) v2 0 c15) fun c23 =>
  p_gd (c23 5001 0 0 = 1) <|
  p_gd (0 ≤ c23 5002 0 0 ∧ c23 5002 0 0 < 3) <|
  q_bv (G_Numbers_takeOut (c23 101 v3 0) (c23 200 (c23 5002 0 0).toNat 0) v1 c23) fun c29 =>
  p_bi (wc c29 101 v3 0 0) fun c30 =>
  p_gd (0 ≤ c30 5003 0 0 ∧ c30 5003 0 0 < 3) <|
  p_bi (wc c30 302 (c30 5003 0 0).toNat 0 (p_w ((c30 302 (c30 5003 0 0).toNat 0) - 1))) fun c34 =>
  some c34
set_option maxRecDepth 100000 in
set_option maxHeartbeats 4000000 in
theorem u_Step_leaveBy (m : h_M) (v1 : Int) (v2 : Int) (v3 : Nat) (c0 : h_C) (r : h_C) (h : G_Step_leaveBy v1 v2 v3 c0 = some r) : F_Step_leaveBy 1112 v1 v2 (h_A 100 v3) (h_H c0 m) = some (h_H r m) := by
  unfold G_Step_leaveBy at h
  unfold F_Step_leaveBy
  refine gdT (isD c0 m d800) ?_
  obtain ⟨g1, h⟩ := p_gdE h
  try rw [rm5003 c0 m g1]
  have hv2 : vW (c0 5003 0 0).toNat := by omega
  refine gdT (isD c0 m (d300 hv2)) ?_
  obtain ⟨c5, q3, h⟩ := q_bvE h
  refine bvC (u_State_lift m (c0 5003 0 0).toNat v3 c0 _ q3) ?_
  obtain ⟨g6, h⟩ := p_gdE h
  try rw [rm5003 c5 m g6]
  have hv7 : vW (c5 5003 0 0).toNat := by omega
  refine gdT (isD c5 m (d300 hv7)) ?_
  try rw [rD c5 m (rr300_4 hv7)]
  refine gdT (isD c5 m (d2001 hv7)) ?_
  obtain ⟨g8, h⟩ := p_gdE h
  refine gdT ⟨g8.1, by (try rw [lenD c5 m (d2001 hv7)]); exact g8.2⟩ ?_
  try rw [rD c5 m (el2001 (k := (v1 : Int).toNat) hv7 (Nat.zero_le _) (by omega))]
  have hv9 : vG (40 * (c5 5003 0 0).toNat + (v1 : Int).toNat + 1) := ⟨by omega, by have := hv7; omega⟩
  refine gdT (isD c5 m (d0 hv9)) ?_
  try rw [zf10 c5 m hv9]
  refine bS (wf10 c5 m hv9 _) h ?_
  intro c10 h
  obtain ⟨g12, h⟩ := p_gdE h
  try rw [rm5003 c10 m g12]
  have hv13 : vW (c10 5003 0 0).toNat := by omega
  refine gdT (isD c10 m (d300 hv13)) ?_
  try rw [rD c10 m (rr300_4 hv13)]
  refine gdT (isD c10 m (d2001 hv13)) ?_
  refine gdT ⟨g8.1, by (try rw [lenD c10 m (d2001 hv13)]); exact g8.2⟩ ?_
  try rw [rD c10 m (el2001 (k := (v1 : Int).toNat) hv13 (Nat.zero_le _) (by omega))]
  have hv14 : vG (40 * (c10 5003 0 0).toNat + (v1 : Int).toNat + 1) := ⟨by omega, by have := hv13; omega⟩
  refine gdT (isD c10 m (d0 hv14)) ?_
  try rw [zf11 c10 m hv14]
  refine bS (wf11 c10 m hv14 _) h ?_
  intro c15 h
  obtain ⟨g17, h⟩ := p_gdE h
  try rw [rm5003 c15 m g17]
  have hv18 : vW (c15 5003 0 0).toNat := by omega
  refine gdT (isD c15 m (d300 hv18)) ?_
  try rw [rD c15 m (rr300_8 hv18)]
  have hv19 : vL (2 * (c15 5003 0 0).toNat + 1) := by have := hv18; omega
  obtain ⟨g20, h⟩ := p_gdE h
  refine gdT (isD c15 m (d100 g20)) ?_
  try rw [zf101 c15 m g20]
  try rw [rm5003 c15 m g17]
  try rw [zf300 c15 m hv18]
  refine gdT (isD c15 m (d400 hv19)) ?_
  obtain ⟨c23, q21, h⟩ := q_bvE h
  refine bvC (u_Log_add m (2 * (c15 5003 0 0).toNat + 1) (c15 101 v3 0) v1 (c15 300 (c15 5003 0 0).toNat 0) v2 0 c15 _ q21) ?_
  obtain ⟨g24, h⟩ := p_gdE h
  try rw [rm5001 c23 m g24]
  try rw [zf101 c23 m g20]
  obtain ⟨g25, h⟩ := p_gdE h
  try rw [rm5002 c23 m g25]
  have hv26 : vW (c23 5002 0 0).toNat := by omega
  refine gdT (isD c23 m (d200 hv26)) ?_
  try rw [zf200 c23 m hv26]
  refine gdT (isD c23 m d700) ?_
  obtain ⟨c29, q27, h⟩ := q_bvE h
  refine bvC (u_Numbers_takeOut m (c23 101 v3 0) (c23 200 (c23 5002 0 0).toNat 0) v1 c23 _ q27) ?_
  refine bS (wf101 c29 m g20 _) h ?_
  intro c30 h
  obtain ⟨g32, h⟩ := p_gdE h
  try rw [rm5003 c30 m g32]
  have hv33 : vW (c30 5003 0 0).toNat := by omega
  refine gdT (isD c30 m (d300 hv33)) ?_
  try rw [zf302 c30 m hv33]
  refine bS (wf302 c30 m hv33 _) h ?_
  intro c34 h
  cases h
  rfl
def GB_Step_giveOut_74 (k21 : Int → Nat → Nat → Int → Int → h_C → Option (Int × h_C)) (v1 : Int) (v2 : Nat) (v3 : Nat) (v4 : Int) (v5 : Int) (v6 : Int) (w0 : Int) (c0 : h_C) : Option (Int × h_C) :=
  if w0 = 0 then
    p_gd (0 ≤ c0 5003 0 0 ∧ c0 5003 0 0 < 3) <|
    p_gd ((0 : Int) ≤ v6 ∧ v6 < (40 : Int)) <|
    if (c0 7 (40 * (c0 5003 0 0).toNat + (v6 : Int).toNat + 1) 0) = 0 then
      p_bi (p_w (v5 + 1)) fun x7 =>
      k21 v1 v2 v3 v4 x7 c0
    else
      q_bv (G_Step_leaveBy v6 v1 v3 c0) fun c11 =>
      some (1, c11)
  else
    p_gd (vP v3) <|
    q_bv (G_Step_addFinding v1 1 w0 (c0 101 v3 0) c0) fun c15 =>
    some (0, c15)
def GL_Step_giveOut_21 (k21 : Int → Nat → Nat → Int → Int → h_C → Option (Int × h_C)) (v1 : Int) (v2 : Nat) (v3 : Nat) (v4 : Int) (v5 : Int) (c0 : h_C) : Option (Int × h_C) :=
  if v4 ≤ v5 then
    some (0, c0)
  else
    p_gd (0 ≤ c0 5002 0 0 ∧ c0 5002 0 0 < 3) <|
    q_bv (G_Works_follow (c0 5002 0 0).toNat v2 v5 c0) fun r6 =>
    if 0 ≤ r6 then
      p_gd (0 ≤ c0 5003 0 0 ∧ c0 5003 0 0 < 3) <|
      p_gd ((0 : Int) ≤ r6 ∧ r6 < (40 : Int)) <|
      if (c0 0 (40 * (c0 5003 0 0).toNat + (r6 : Int).toNat + 1) 0) = 9 then
        GB_Step_giveOut_74 k21 v1 v2 v3 v4 v5 r6 0 c0
      else
        GB_Step_giveOut_74 k21 v1 v2 v3 v4 v5 r6 (-12) c0
    else
      GB_Step_giveOut_74 k21 v1 v2 v3 v4 v5 r6 r6 c0
def GO_Step_giveOut_21  : Nat → Int → Nat → Nat → Int → Int → h_C → Option (Int × h_C)
  | 0 => fun _ _ _ _ _ _ => none
  | n + 1 => GL_Step_giveOut_21 (GO_Step_giveOut_21 n)
def GB_Step_giveOut_16  (v1 : Int) (v2 : Nat) (v3 : Nat) (w0 : Int) (c0 : h_C) : Option (Int × h_C) :=
  GO_Step_giveOut_21 3000 v1 v2 v3 w0 0 c0
def G_Step_giveOut (v1 : Int) (v2 : Nat) (v3 : Nat) (c0 : h_C) : Option (Int × h_C) :=
  p_gd (vG v2) <|
  if (c0 3 v2 0) ≠ (-1) then
    GB_Step_giveOut_16 v1 v2 v3 (c0 3 v2 0) c0
  else
    GB_Step_giveOut_16 v1 v2 v3 1 c0
set_option maxRecDepth 100000 in
set_option maxHeartbeats 4000000 in
theorem uB_Step_giveOut_74 (m : h_M) (j21 : Nat → Int → Nat → Nat → Int → Int → p_Hp → Option (Int × p_Hp)) (k21 : Int → Nat → Nat → Int → Int → h_C → Option (Int × h_C)) (hk21 : ∀ (v1 : Int) (v2 : Nat) (v3 : Nat) (v4 : Int) (v5 : Int) (c0 : h_C) (r : (Int × h_C)), k21 v1 v2 v3 v4 v5 c0 = some r → j21 1112 v1 (h_A 0 v2) (h_A 100 v3) v4 v5 (h_H c0 m) = some (r.1, (h_H r.2 m))) (v1 : Int) (v2 : Nat) (v3 : Nat) (v4 : Int) (v5 : Int) (v6 : Int) (w0 : Int) (c0 : h_C) (r : (Int × h_C)) (h : GB_Step_giveOut_74 k21 v1 v2 v3 v4 v5 v6 w0 c0 = some r) : B_Step_giveOut_74 j21 1112 v1 (h_A 0 v2) (h_A 100 v3) v4 v5 v6 w0 (h_H c0 m) = some (r.1, (h_H r.2 m)) := by
  unfold GB_Step_giveOut_74 at h
  unfold B_Step_giveOut_74
  refine iteC Iff.rfl h (fun b1 h => ?_) (fun b1 h => ?_)
  · refine gdT (isD c0 m d800) ?_
    obtain ⟨g2, h⟩ := p_gdE h
    try rw [rm5003 c0 m g2]
    have hv3 : vW (c0 5003 0 0).toNat := by omega
    refine gdT (isD c0 m (d300 hv3)) ?_
    try rw [rD c0 m (rr300_4 hv3)]
    refine gdT (isD c0 m (d2001 hv3)) ?_
    obtain ⟨g4, h⟩ := p_gdE h
    refine gdT ⟨g4.1, by (try rw [lenD c0 m (d2001 hv3)]); exact g4.2⟩ ?_
    try rw [rD c0 m (el2001 (k := (v6 : Int).toNat) hv3 (Nat.zero_le _) (by omega))]
    have hv5 : vG (40 * (c0 5003 0 0).toNat + (v6 : Int).toNat + 1) := ⟨by omega, by have := hv3; omega⟩
    refine gdT (isD c0 m (d0 hv5)) ?_
    try rw [zf7 c0 m hv5]
    refine iteC Iff.rfl h (fun b6 h => ?_) (fun b6 h => ?_)
    · refine bV h ?_
      intro x7 h
      exact hk21 v1 v2 v3 v4 x7 c0 _ h
    · obtain ⟨c11, q9, h⟩ := q_bvE h
      refine bvC (u_Step_leaveBy m v6 v1 v3 c0 _ q9) ?_
      cases h
      rfl
  · obtain ⟨g12, h⟩ := p_gdE h
    refine gdT (isD c0 m (d100 g12)) ?_
    try rw [zf101 c0 m g12]
    refine gdT (isD c0 m d800) ?_
    obtain ⟨c15, q13, h⟩ := q_bvE h
    refine bvC (u_Step_addFinding m v1 1 w0 (c0 101 v3 0) c0 _ q13) ?_
    cases h
    rfl
set_option maxRecDepth 100000 in
set_option maxHeartbeats 4000000 in
theorem uL_Step_giveOut_21 (m : h_M) (j21 : Nat → Int → Nat → Nat → Int → Int → p_Hp → Option (Int × p_Hp)) (k21 : Int → Nat → Nat → Int → Int → h_C → Option (Int × h_C)) (hk21 : ∀ (v1 : Int) (v2 : Nat) (v3 : Nat) (v4 : Int) (v5 : Int) (c0 : h_C) (r : (Int × h_C)), k21 v1 v2 v3 v4 v5 c0 = some r → j21 1112 v1 (h_A 0 v2) (h_A 100 v3) v4 v5 (h_H c0 m) = some (r.1, (h_H r.2 m))) (v1 : Int) (v2 : Nat) (v3 : Nat) (v4 : Int) (v5 : Int) (c0 : h_C) (r : (Int × h_C)) (h : GL_Step_giveOut_21 k21 v1 v2 v3 v4 v5 c0 = some r) : L_Step_giveOut_21 j21 1112 v1 (h_A 0 v2) (h_A 100 v3) v4 v5 (h_H c0 m) = some (r.1, (h_H r.2 m)) := by
  unfold GL_Step_giveOut_21 at h
  unfold L_Step_giveOut_21
  refine iteC Iff.rfl h (fun b1 h => ?_) (fun b1 h => ?_)
  · cases h
    rfl
  · refine gdT (isD c0 m d800) ?_
    obtain ⟨g2, h⟩ := p_gdE h
    try rw [rm5002 c0 m g2]
    have hv3 : vW (c0 5002 0 0).toNat := by omega
    refine gdT (isD c0 m (d200 hv3)) ?_
    obtain ⟨r6, q4, h⟩ := q_bvE h
    refine bdC (u_Works_follow m (c0 5002 0 0).toNat v2 v5 c0 _ q4) ?_
    refine iteC Iff.rfl h (fun b8 h => ?_) (fun b8 h => ?_)
    · obtain ⟨g9, h⟩ := p_gdE h
      try rw [rm5003 c0 m g9]
      have hv10 : vW (c0 5003 0 0).toNat := by omega
      refine gdT (isD c0 m (d300 hv10)) ?_
      try rw [rD c0 m (rr300_4 hv10)]
      refine gdT (isD c0 m (d2001 hv10)) ?_
      obtain ⟨g11, h⟩ := p_gdE h
      refine gdT ⟨g11.1, by (try rw [lenD c0 m (d2001 hv10)]); exact g11.2⟩ ?_
      try rw [rD c0 m (el2001 (k := (r6 : Int).toNat) hv10 (Nat.zero_le _) (by omega))]
      have hv12 : vG (40 * (c0 5003 0 0).toNat + (r6 : Int).toNat + 1) := ⟨by omega, by have := hv10; omega⟩
      refine gdT (isD c0 m (d0 hv12)) ?_
      try rw [zf0 c0 m hv12]
      refine iteC Iff.rfl h (fun b13 h => ?_) (fun b13 h => ?_)
      · exact uB_Step_giveOut_74 m j21 k21 hk21 v1 v2 v3 v4 v5 r6 0 c0 _ h
      · exact uB_Step_giveOut_74 m j21 k21 hk21 v1 v2 v3 v4 v5 r6 (-12) c0 _ h
    · exact uB_Step_giveOut_74 m j21 k21 hk21 v1 v2 v3 v4 v5 r6 r6 c0 _ h
set_option maxRecDepth 100000 in
set_option maxHeartbeats 4000000 in
theorem uO_Step_giveOut_21 (m : h_M)  : ∀ (n : Nat) (v1 : Int) (v2 : Nat) (v3 : Nat) (v4 : Int) (v5 : Int) (c0 : h_C) (r : (Int × h_C)), GO_Step_giveOut_21 n v1 v2 v3 v4 v5 c0 = some r → O_Step_giveOut_21 n 1112 v1 (h_A 0 v2) (h_A 100 v3) v4 v5 (h_H c0 m) = some (r.1, (h_H r.2 m)) := by
  intro n
  induction n with
  | zero => intro v1 v2 v3 v4 v5 c0 r h; cases h
  | succ n ih => intro v1 v2 v3 v4 v5 c0 r h; exact uL_Step_giveOut_21 m (O_Step_giveOut_21 n) (GO_Step_giveOut_21 n) ih v1 v2 v3 v4 v5 c0 r h
set_option maxRecDepth 100000 in
set_option maxHeartbeats 4000000 in
theorem uB_Step_giveOut_16 (m : h_M)  (v1 : Int) (v2 : Nat) (v3 : Nat) (w0 : Int) (c0 : h_C) (r : (Int × h_C)) (h : GB_Step_giveOut_16 v1 v2 v3 w0 c0 = some r) : B_Step_giveOut_16 1112 v1 (h_A 0 v2) (h_A 100 v3) w0 (h_H c0 m) = some (r.1, (h_H r.2 m)) := by
  unfold GB_Step_giveOut_16 at h
  unfold B_Step_giveOut_16
  exact uO_Step_giveOut_21 m 3000 v1 v2 v3 w0 0 c0 _ h
set_option maxRecDepth 100000 in
set_option maxHeartbeats 4000000 in
theorem u_Step_giveOut (m : h_M) (v1 : Int) (v2 : Nat) (v3 : Nat) (c0 : h_C) (r : (Int × h_C)) (h : G_Step_giveOut v1 v2 v3 c0 = some r) : F_Step_giveOut 1112 v1 (h_A 0 v2) (h_A 100 v3) (h_H c0 m) = some (r.1, (h_H r.2 m)) := by
  unfold G_Step_giveOut at h
  unfold F_Step_giveOut
  obtain ⟨g1, h⟩ := p_gdE h
  refine gdT (isD c0 m (d0 g1)) ?_
  try rw [zf3 c0 m g1]
  refine iteC Iff.rfl h (fun b2 h => ?_) (fun b2 h => ?_)
  · try rw [zf3 c0 m g1]
    exact uB_Step_giveOut_16 m v1 v2 v3 (c0 3 v2 0) c0 _ h
  · exact uB_Step_giveOut_16 m v1 v2 v3 1 c0 _ h
def GB_Step_passOn_109  (v2 : Nat) (v6 : Int) (w0 : Int) (w1 : Nat) (c0 : h_C) : Option h_C :=
  p_gd (vG w1) <|
  p_bi (wc c0 8 w1 0 w0) fun c2 =>
  if v6 = 0 then
    some c2
  else
    p_gd (vG v2) <|
    if (c2 0 v2 0) ≠ 8 then
      some c2
    else
      p_bi (wc c2 14 v2 0 (p_w ((c2 14 v2 0) - 1))) fun c7 =>
      some c7
def GB_Step_passOn_91  (v2 : Nat) (w0 : Int) (c0 : h_C) : Option h_C :=
  if w0 = 0 then
    p_gd (vG v2) <|
    GB_Step_passOn_109 v2 w0 (p_w ((c0 8 v2 0) + 1)) v2 c0
  else
    GB_Step_passOn_109 v2 w0 0 v2 c0
def GB_Step_passOn_86  (v2 : Nat) (c0 : h_C) : Option h_C :=
  GB_Step_passOn_91 v2 1 c0
def GB_Step_passOn_90  (v2 : Nat) (c0 : h_C) : Option h_C :=
  GB_Step_passOn_91 v2 0 c0
def GB_Step_passOn_45  (v1 : Int) (v2 : Nat) (v4 : Nat) (w0 : Int) (c0 : h_C) : Option h_C :=
  if w0 = 0 then
    GB_Step_passOn_90 v2 c0
  else
    p_gd (vG v2) <|
    if (c0 0 v2 0) ≠ 7 then
      q_bd (G_Step_giveOn v1 v2 v4 c0) fun r6 c7 =>
      if r6 = 0 then
        GB_Step_passOn_90 v2 c7
      else
        GB_Step_passOn_86 v2 c7
    else
      q_bd (G_Step_giveOut v1 v2 v4 c0) fun r12 c13 =>
      if r12 = 0 then
        GB_Step_passOn_90 v2 c13
      else
        GB_Step_passOn_86 v2 c13
def GB_Step_passOn_44  (v1 : Int) (v2 : Nat) (v4 : Nat) (c0 : h_C) : Option h_C :=
  GB_Step_passOn_45 v1 v2 v4 0 c0
def G_Step_passOn (v1 : Int) (v2 : Nat) (v3 : Int) (c0 : h_C) : Option h_C :=
  p_gd (0 ≤ c0 5003 0 0 ∧ c0 5003 0 0 < 3) <|
  q_bv (G_State_inLastSlot (c0 5003 0 0).toNat v2 c0) fun r5 =>
  if r5 = 0 then
    p_gd (vG v2) <|
    p_bi (wc c0 8 v2 0 0) fun c9 =>
    some c9
  else
    p_gd (vP r5) <|
    if (c0 108 r5 0) = 0 then
      if v3 = 0 then
        GB_Step_passOn_44 v1 v2 r5 c0
      else
        p_gd (vG v2) <|
        q_bv (G_Gear_isHeld v2 c0) fun r17 =>
        if r17 ≠ 0 then
          GB_Step_passOn_44 v1 v2 r5 c0
        else
          GB_Step_passOn_45 v1 v2 r5 1 c0
    else
      p_gd (vG v2) <|
      p_bi (wc c0 8 v2 0 0) fun c21 =>
      some c21
set_option maxRecDepth 100000 in
set_option maxHeartbeats 4000000 in
theorem uB_Step_passOn_109 (m : h_M)  (v2 : Nat) (v6 : Int) (w0 : Int) (w1 : Nat) (c0 : h_C) (r : h_C) (h : GB_Step_passOn_109 v2 v6 w0 w1 c0 = some r) : B_Step_passOn_109 (h_A 0 v2) v6 w0 (h_A 0 w1) (h_H c0 m) = some (h_H r m) := by
  unfold GB_Step_passOn_109 at h
  unfold B_Step_passOn_109
  obtain ⟨g1, h⟩ := p_gdE h
  refine gdT (isD c0 m (d0 g1)) ?_
  refine bS (wf8 c0 m g1 _) h ?_
  intro c2 h
  refine iteC Iff.rfl h (fun b4 h => ?_) (fun b4 h => ?_)
  · cases h
    rfl
  · obtain ⟨g5, h⟩ := p_gdE h
    refine gdT (isD c2 m (d0 g5)) ?_
    try rw [zf0 c2 m g5]
    refine iteC Iff.rfl h (fun b6 h => ?_) (fun b6 h => ?_)
    · cases h
      rfl
    · try rw [zf14 c2 m g5]
      refine bS (wf14 c2 m g5 _) h ?_
      intro c7 h
      cases h
      rfl
set_option maxRecDepth 100000 in
set_option maxHeartbeats 4000000 in
theorem uB_Step_passOn_91 (m : h_M)  (v2 : Nat) (w0 : Int) (c0 : h_C) (r : h_C) (h : GB_Step_passOn_91 v2 w0 c0 = some r) : B_Step_passOn_91 (h_A 0 v2) w0 (h_H c0 m) = some (h_H r m) := by
  unfold GB_Step_passOn_91 at h
  unfold B_Step_passOn_91
  refine iteC Iff.rfl h (fun b1 h => ?_) (fun b1 h => ?_)
  · obtain ⟨g2, h⟩ := p_gdE h
    refine gdT (isD c0 m (d0 g2)) ?_
    try rw [zf8 c0 m g2]
    exact uB_Step_passOn_109 m v2 w0 (p_w ((c0 8 v2 0) + 1)) v2 c0 _ h
  · exact uB_Step_passOn_109 m v2 w0 0 v2 c0 _ h
set_option maxRecDepth 100000 in
set_option maxHeartbeats 4000000 in
theorem uB_Step_passOn_86 (m : h_M)  (v2 : Nat) (c0 : h_C) (r : h_C) (h : GB_Step_passOn_86 v2 c0 = some r) : B_Step_passOn_86 (h_A 0 v2) (h_H c0 m) = some (h_H r m) := by
  unfold GB_Step_passOn_86 at h
  unfold B_Step_passOn_86
  exact uB_Step_passOn_91 m v2 1 c0 _ h
set_option maxRecDepth 100000 in
set_option maxHeartbeats 4000000 in
theorem uB_Step_passOn_90 (m : h_M)  (v2 : Nat) (c0 : h_C) (r : h_C) (h : GB_Step_passOn_90 v2 c0 = some r) : B_Step_passOn_90 (h_A 0 v2) (h_H c0 m) = some (h_H r m) := by
  unfold GB_Step_passOn_90 at h
  unfold B_Step_passOn_90
  exact uB_Step_passOn_91 m v2 0 c0 _ h
set_option maxRecDepth 100000 in
set_option maxHeartbeats 4000000 in
theorem uB_Step_passOn_45 (m : h_M)  (v1 : Int) (v2 : Nat) (v4 : Nat) (w0 : Int) (c0 : h_C) (r : h_C) (h : GB_Step_passOn_45 v1 v2 v4 w0 c0 = some r) : B_Step_passOn_45 1112 v1 (h_A 0 v2) (h_A 100 v4) w0 (h_H c0 m) = some (h_H r m) := by
  unfold GB_Step_passOn_45 at h
  unfold B_Step_passOn_45
  refine iteC Iff.rfl h (fun b1 h => ?_) (fun b1 h => ?_)
  · exact uB_Step_passOn_90 m v2 c0 _ h
  · obtain ⟨g2, h⟩ := p_gdE h
    refine gdT (isD c0 m (d0 g2)) ?_
    try rw [zf0 c0 m g2]
    refine iteC Iff.rfl h (fun b3 h => ?_) (fun b3 h => ?_)
    · refine gdT (isD c0 m d800) ?_
      obtain ⟨r6, c7, q4, h⟩ := q_bdE h
      refine bdC (u_Step_giveOn m v1 v2 v4 c0 _ q4) ?_
      refine iteC Iff.rfl h (fun b9 h => ?_) (fun b9 h => ?_)
      · exact uB_Step_passOn_90 m v2 c7 _ h
      · exact uB_Step_passOn_86 m v2 c7 _ h
    · refine gdT (isD c0 m d800) ?_
      obtain ⟨r12, c13, q10, h⟩ := q_bdE h
      refine bdC (u_Step_giveOut m v1 v2 v4 c0 _ q10) ?_
      refine iteC Iff.rfl h (fun b15 h => ?_) (fun b15 h => ?_)
      · exact uB_Step_passOn_90 m v2 c13 _ h
      · exact uB_Step_passOn_86 m v2 c13 _ h
set_option maxRecDepth 100000 in
set_option maxHeartbeats 4000000 in
theorem uB_Step_passOn_44 (m : h_M)  (v1 : Int) (v2 : Nat) (v4 : Nat) (c0 : h_C) (r : h_C) (h : GB_Step_passOn_44 v1 v2 v4 c0 = some r) : B_Step_passOn_44 1112 v1 (h_A 0 v2) (h_A 100 v4) (h_H c0 m) = some (h_H r m) := by
  unfold GB_Step_passOn_44 at h
  unfold B_Step_passOn_44
  exact uB_Step_passOn_45 m v1 v2 v4 0 c0 _ h
set_option maxRecDepth 100000 in
set_option maxHeartbeats 4000000 in
theorem u_Step_passOn (m : h_M) (v1 : Int) (v2 : Nat) (v3 : Int) (c0 : h_C) (r : h_C) (h : G_Step_passOn v1 v2 v3 c0 = some r) : F_Step_passOn 1112 v1 (h_A 0 v2) v3 (h_H c0 m) = some (h_H r m) := by
  unfold G_Step_passOn at h
  unfold F_Step_passOn
  refine gdT (isD c0 m d800) ?_
  obtain ⟨g1, h⟩ := p_gdE h
  try rw [rm5003 c0 m g1]
  have hv2 : vW (c0 5003 0 0).toNat := by omega
  refine gdT (isD c0 m (d300 hv2)) ?_
  obtain ⟨r5, q3, h⟩ := q_bvE h
  refine bdC (u_State_inLastSlot m (c0 5003 0 0).toNat v2 c0 _ q3) ?_
  refine iteC (h_A100z _) h (fun b7 h => ?_) (fun b7 h => ?_)
  · obtain ⟨g8, h⟩ := p_gdE h
    refine gdT (isD c0 m (d0 g8)) ?_
    refine bS (wf8 c0 m g8 _) h ?_
    intro c9 h
    cases h
    rfl
  · obtain ⟨g11, h⟩ := p_gdE h
    refine gdT (isD c0 m (d100 g11)) ?_
    try rw [zf108 c0 m g11]
    refine iteC Iff.rfl h (fun b12 h => ?_) (fun b12 h => ?_)
    · refine iteC Iff.rfl h (fun b13 h => ?_) (fun b13 h => ?_)
      · exact uB_Step_passOn_44 m v1 v2 r5 c0 _ h
      · obtain ⟨g14, h⟩ := p_gdE h
        refine gdT (isD c0 m (d0 g14)) ?_
        obtain ⟨r17, q15, h⟩ := q_bvE h
        refine bdC (u_Gear_isHeld m v2 c0 _ q15) ?_
        refine iteC Iff.rfl h (fun b19 h => ?_) (fun b19 h => ?_)
        · exact uB_Step_passOn_44 m v1 v2 r5 c0 _ h
        · exact uB_Step_passOn_45 m v1 v2 r5 1 c0 _ h
    · obtain ⟨g20, h⟩ := p_gdE h
      refine gdT (isD c0 m (d0 g20)) ?_
      refine bS (wf8 c0 m g20 _) h ?_
      intro c21 h
      cases h
      rfl
def GB_Reading_readFormA_54   (c0 : h_C) : Option (Int × h_C) :=
  p_bi (wc c0 900 0 0 1) fun c1 =>
  some (0, c1)
def GB_Reading_readFormA_133  (w0 : Int) (c0 : h_C) : Option (Int × h_C) :=
  p_gd (w0 = 0 ∨ w0 = 1) <|
  p_bi (wc c0 900 0 0 w0) fun c2 =>
  p_gd ((0 : Int) ≤ 1 ∧ 1 < (8 : Int)) <|
  p_gd ((0 : Int) ≤ 2 ∧ 2 < (8 : Int)) <|
  p_bi (wc c2 901 0 0 (p_w ((p_w (10 * (c2 2041 0 (1 : Int).toNat))) + (c2 2041 0 (2 : Int).toNat)))) fun c6 =>
  p_gd ((0 : Int) ≤ 3 ∧ 3 < (8 : Int)) <|
  p_gd ((0 : Int) ≤ 4 ∧ 4 < (8 : Int)) <|
  p_gd ((0 : Int) ≤ 5 ∧ 5 < (8 : Int)) <|
  p_bi (wc c6 902 0 0 (p_w ((p_w ((p_w (100 * (c6 2041 0 (3 : Int).toNat))) + (p_w (10 * (c6 2041 0 (4 : Int).toNat))))) + (c6 2041 0 (5 : Int).toNat)))) fun c11 =>
  p_gd ((0 : Int) ≤ 6 ∧ 6 < (8 : Int)) <|
  p_bi (wc c11 903 0 0 (c11 2041 0 (6 : Int).toNat)) fun c14 =>
  some (0, c14)
def GL_Reading_readFormA_2 (k2 : Nat → Int → h_C → Option (Int × h_C)) (v1 : Nat) (v2 : Int) (c0 : h_C) : Option (Int × h_C) :=
  if 8 ≤ v2 then
    p_gd ((0 : Int) ≤ 1 ∧ 1 < (8 : Int)) <|
    p_gd ((0 : Int) ≤ 3 ∧ 3 < (8 : Int)) <|
    p_gd ((0 : Int) ≤ 5 ∧ 5 < (8 : Int)) <|
    p_gd ((0 : Int) ≤ 2 ∧ 2 < (8 : Int)) <|
    p_gd ((0 : Int) ≤ 4 ∧ 4 < (8 : Int)) <|
    p_gd ((0 : Int) ≤ 6 ∧ 6 < (8 : Int)) <|
    p_bi ((p_w ((p_w ((p_w ((p_w (3 * (p_w ((p_w ((c0 2041 0 (1 : Int).toNat) + (c0 2041 0 (3 : Int).toNat))) + (c0 2041 0 (5 : Int).toNat))))) + (c0 2041 0 (2 : Int).toNat))) + (c0 2041 0 (4 : Int).toNat))) + (c0 2041 0 (6 : Int).toNat)))) fun x9 =>
    p_gd ((0 : Int) ≤ 7 ∧ 7 < (8 : Int)) <|
    if (p_rem (p_w (x9 + (c0 2041 0 (7 : Int).toNat))) 10) = 0 then
      GB_Reading_readFormA_133 0 c0
    else
      GB_Reading_readFormA_133 1 c0
  else
    p_gd (vP v1) <|
    if v2 < (c0 111 v1 0) then
      p_gd ((0 : Int) ≤ v2 ∧ v2 < (12 : Int)) <|
      p_gd ((0 : Int) ≤ v2 ∧ v2 < (8 : Int)) <|
      p_bi (wc c0 2041 0 (v2 : Int).toNat (p_w ((c0 2015 v1 (v2 : Int).toNat) - 48))) fun c16 =>
      if (c16 2041 0 (v2 : Int).toNat) < 0 then
        GB_Reading_readFormA_54 c16
      else
        if (c16 2041 0 (v2 : Int).toNat) ≤ 9 then
          p_bi (p_w (v2 + 1)) fun x20 =>
          k2 v1 x20 c16
        else
          GB_Reading_readFormA_54 c16
    else
      some ((-13), c0)
def GO_Reading_readFormA_2  : Nat → Nat → Int → h_C → Option (Int × h_C)
  | 0 => fun _ _ _ => none
  | n + 1 => GL_Reading_readFormA_2 (GO_Reading_readFormA_2 n)
def G_Reading_readFormA (v1 : Nat) (c0 : h_C) : Option (Int × h_C) :=
  GO_Reading_readFormA_2 3000 v1 1 c0
set_option maxRecDepth 100000 in
set_option maxHeartbeats 4000000 in
theorem uB_Reading_readFormA_54 (m : h_M)   (c0 : h_C) (r : (Int × h_C)) (h : GB_Reading_readFormA_54  c0 = some r) : B_Reading_readFormA_54 1113 (h_H c0 m) = some (r.1, (h_H r.2 m)) := by
  unfold GB_Reading_readFormA_54 at h
  unfold B_Reading_readFormA_54
  refine gdT (isD c0 m d900) ?_
  refine bS (wf900 c0 m _) h ?_
  intro c1 h
  cases h
  rfl
set_option maxRecDepth 100000 in
set_option maxHeartbeats 4000000 in
theorem uB_Reading_readFormA_133 (m : h_M)  (w0 : Int) (c0 : h_C) (r : (Int × h_C)) (h : GB_Reading_readFormA_133 w0 c0 = some r) : B_Reading_readFormA_133 1113 w0 1113 (h_H c0 m) = some (r.1, (h_H r.2 m)) := by
  unfold GB_Reading_readFormA_133 at h
  unfold B_Reading_readFormA_133
  refine gdT (isD c0 m d900) ?_
  obtain ⟨g1, h⟩ := p_gdE h
  refine gdT g1 ?_
  refine bS (wf900 c0 m _) h ?_
  intro c2 h
  refine gdT (isD c2 m d900) ?_
  try rw [rs1113_4 c2 m]
  refine gdT (isD c2 m d2041) ?_
  obtain ⟨g4, h⟩ := p_gdE h
  refine gdT ⟨g4.1, by (try rw [lenD c2 m d2041]); exact g4.2⟩ ?_
  try rw [zA c2 m d2041 (by decide) (1 : Int).toNat]
  try rw [rs1113_4 c2 m]
  obtain ⟨g5, h⟩ := p_gdE h
  refine gdT ⟨g5.1, by (try rw [lenD c2 m d2041]); exact g5.2⟩ ?_
  try rw [zA c2 m d2041 (by decide) (2 : Int).toNat]
  refine bS (wf901 c2 m _) h ?_
  intro c6 h
  try rw [rs1113_4 c6 m]
  refine gdT (isD c6 m d2041) ?_
  obtain ⟨g8, h⟩ := p_gdE h
  refine gdT ⟨g8.1, by (try rw [lenD c6 m d2041]); exact g8.2⟩ ?_
  try rw [zA c6 m d2041 (by decide) (3 : Int).toNat]
  try rw [rs1113_4 c6 m]
  obtain ⟨g9, h⟩ := p_gdE h
  refine gdT ⟨g9.1, by (try rw [lenD c6 m d2041]); exact g9.2⟩ ?_
  try rw [zA c6 m d2041 (by decide) (4 : Int).toNat]
  try rw [rs1113_4 c6 m]
  obtain ⟨g10, h⟩ := p_gdE h
  refine gdT ⟨g10.1, by (try rw [lenD c6 m d2041]); exact g10.2⟩ ?_
  try rw [zA c6 m d2041 (by decide) (5 : Int).toNat]
  refine bS (wf902 c6 m _) h ?_
  intro c11 h
  try rw [rs1113_4 c11 m]
  refine gdT (isD c11 m d2041) ?_
  obtain ⟨g13, h⟩ := p_gdE h
  refine gdT ⟨g13.1, by (try rw [lenD c11 m d2041]); exact g13.2⟩ ?_
  try rw [zA c11 m d2041 (by decide) (6 : Int).toNat]
  refine bS (wf903 c11 m _) h ?_
  intro c14 h
  cases h
  rfl
set_option maxRecDepth 100000 in
set_option maxHeartbeats 4000000 in
theorem uL_Reading_readFormA_2 (m : h_M) (j2 : Nat → Nat → Int → p_Hp → Option (Int × p_Hp)) (k2 : Nat → Int → h_C → Option (Int × h_C)) (hk2 : ∀ (v1 : Nat) (v2 : Int) (c0 : h_C) (r : (Int × h_C)), k2 v1 v2 c0 = some r → j2 1113 (h_A 100 v1) v2 (h_H c0 m) = some (r.1, (h_H r.2 m))) (v1 : Nat) (v2 : Int) (c0 : h_C) (r : (Int × h_C)) (h : GL_Reading_readFormA_2 k2 v1 v2 c0 = some r) : L_Reading_readFormA_2 j2 1113 (h_A 100 v1) v2 (h_H c0 m) = some (r.1, (h_H r.2 m)) := by
  unfold GL_Reading_readFormA_2 at h
  unfold L_Reading_readFormA_2
  refine iteC Iff.rfl h (fun b1 h => ?_) (fun b1 h => ?_)
  · refine gdT (isD c0 m d900) ?_
    try rw [rs1113_4 c0 m]
    refine gdT (isD c0 m d2041) ?_
    obtain ⟨g2, h⟩ := p_gdE h
    refine gdT ⟨g2.1, by (try rw [lenD c0 m d2041]); exact g2.2⟩ ?_
    try rw [zA c0 m d2041 (by decide) (1 : Int).toNat]
    try rw [rs1113_4 c0 m]
    obtain ⟨g3, h⟩ := p_gdE h
    refine gdT ⟨g3.1, by (try rw [lenD c0 m d2041]); exact g3.2⟩ ?_
    try rw [zA c0 m d2041 (by decide) (3 : Int).toNat]
    try rw [rs1113_4 c0 m]
    obtain ⟨g4, h⟩ := p_gdE h
    refine gdT ⟨g4.1, by (try rw [lenD c0 m d2041]); exact g4.2⟩ ?_
    try rw [zA c0 m d2041 (by decide) (5 : Int).toNat]
    try rw [rs1113_4 c0 m]
    obtain ⟨g5, h⟩ := p_gdE h
    refine gdT ⟨g5.1, by (try rw [lenD c0 m d2041]); exact g5.2⟩ ?_
    try rw [zA c0 m d2041 (by decide) (2 : Int).toNat]
    try rw [rs1113_4 c0 m]
    obtain ⟨g6, h⟩ := p_gdE h
    refine gdT ⟨g6.1, by (try rw [lenD c0 m d2041]); exact g6.2⟩ ?_
    try rw [zA c0 m d2041 (by decide) (4 : Int).toNat]
    try rw [rs1113_4 c0 m]
    obtain ⟨g7, h⟩ := p_gdE h
    refine gdT ⟨g7.1, by (try rw [lenD c0 m d2041]); exact g7.2⟩ ?_
    try rw [zA c0 m d2041 (by decide) (6 : Int).toNat]
    refine bV h ?_
    intro x9 h
    try rw [rs1113_4 c0 m]
    obtain ⟨g10, h⟩ := p_gdE h
    refine gdT ⟨g10.1, by (try rw [lenD c0 m d2041]); exact g10.2⟩ ?_
    try rw [zA c0 m d2041 (by decide) (7 : Int).toNat]
    refine iteC Iff.rfl h (fun b11 h => ?_) (fun b11 h => ?_)
    · exact uB_Reading_readFormA_133 m 0 c0 _ h
    · exact uB_Reading_readFormA_133 m 1 c0 _ h
  · obtain ⟨g12, h⟩ := p_gdE h
    refine gdT (isD c0 m (d100 g12)) ?_
    try rw [zf111 c0 m g12]
    refine iteC Iff.rfl h (fun b13 h => ?_) (fun b13 h => ?_)
    · refine gdT (isD c0 m d900) ?_
      try rw [rs1113_4 c0 m]
      try rw [rD c0 m (rr100_12 g12)]
      refine gdT (isD c0 m (d2015 g12)) ?_
      obtain ⟨g14, h⟩ := p_gdE h
      refine gdT ⟨g14.1, by (try rw [lenD c0 m (d2015 g12)]); exact g14.2⟩ ?_
      try rw [zA c0 m (d2015 g12) (by decide) (v2 : Int).toNat]
      refine gdT (isD c0 m d2041) ?_
      obtain ⟨g15, h⟩ := p_gdE h
      refine gdT ⟨g15.1, by (try rw [lenD c0 m d2041]); exact g15.2⟩ ?_
      refine bS (wA c0 m d2041 (by decide) _ _) h ?_
      intro c16 h
      try rw [rs1113_4 c16 m]
      refine gdT (isD c16 m d2041) ?_
      refine gdT ⟨g15.1, by (try rw [lenD c16 m d2041]); exact g15.2⟩ ?_
      try rw [zA c16 m d2041 (by decide) (v2 : Int).toNat]
      refine iteC Iff.rfl h (fun b18 h => ?_) (fun b18 h => ?_)
      · exact uB_Reading_readFormA_54 m c16 _ h
      · try rw [rs1113_4 c16 m]
        refine gdT ⟨g15.1, by (try rw [lenD c16 m d2041]); exact g15.2⟩ ?_
        try rw [zA c16 m d2041 (by decide) (v2 : Int).toNat]
        refine iteC Iff.rfl h (fun b19 h => ?_) (fun b19 h => ?_)
        · refine bV h ?_
          intro x20 h
          exact hk2 v1 x20 c16 _ h
        · exact uB_Reading_readFormA_54 m c16 _ h
    · cases h
      rfl
set_option maxRecDepth 100000 in
set_option maxHeartbeats 4000000 in
theorem uO_Reading_readFormA_2 (m : h_M)  : ∀ (n : Nat) (v1 : Nat) (v2 : Int) (c0 : h_C) (r : (Int × h_C)), GO_Reading_readFormA_2 n v1 v2 c0 = some r → O_Reading_readFormA_2 n 1113 (h_A 100 v1) v2 (h_H c0 m) = some (r.1, (h_H r.2 m)) := by
  intro n
  induction n with
  | zero => intro v1 v2 c0 r h; cases h
  | succ n ih => intro v1 v2 c0 r h; exact uL_Reading_readFormA_2 m (O_Reading_readFormA_2 n) (GO_Reading_readFormA_2 n) ih v1 v2 c0 r h
set_option maxRecDepth 100000 in
set_option maxHeartbeats 4000000 in
theorem u_Reading_readFormA (m : h_M) (v1 : Nat) (c0 : h_C) (r : (Int × h_C)) (h : G_Reading_readFormA v1 c0 = some r) : F_Reading_readFormA 1113 (h_A 100 v1) (h_H c0 m) = some (r.1, (h_H r.2 m)) := by
  unfold G_Reading_readFormA at h
  unfold F_Reading_readFormA
  exact uO_Reading_readFormA_2 m 3000 v1 1 c0 _ h
def G_Reading_readFormB (v1 : Nat) (c0 : h_C) : Option (Int × h_C) :=
  p_gd (vP v1) <|
  if 6 ≤ (c0 111 v1 0) then
    p_gd ((0 : Int) ≤ 1 ∧ 1 < (12 : Int)) <|
    p_bi (wc c0 901 0 0 (c0 2015 v1 (1 : Int).toNat)) fun c4 =>
    p_gd ((0 : Int) ≤ 2 ∧ 2 < (12 : Int)) <|
    p_gd ((0 : Int) ≤ 3 ∧ 3 < (12 : Int)) <|
    p_bi (wc c4 902 0 0 (p_w ((p_w (256 * (c4 2015 v1 (2 : Int).toNat))) + (c4 2015 v1 (3 : Int).toNat)))) fun c8 =>
    p_gd ((0 : Int) ≤ 4 ∧ 4 < (12 : Int)) <|
    p_bi (wc c8 903 0 0 (c8 2015 v1 (4 : Int).toNat)) fun c11 =>
    p_gd ((0 : Int) ≤ 5 ∧ 5 < (12 : Int)) <|
    if (c11 2015 v1 (5 : Int).toNat) = (p_rem (p_w ((p_w ((p_w ((p_w (7 * (c11 901 0 0))) + (p_w (5 * (c11 2015 v1 (2 : Int).toNat))))) + (p_w (3 * (c11 2015 v1 (3 : Int).toNat))))) + (c11 903 0 0))) 97) then
      p_bi (wc c11 900 0 0 0) fun c15 =>
      some (0, c15)
    else
      p_bi (wc c11 900 0 0 1) fun c17 =>
      some (0, c17)
  else
    some ((-13), c0)
set_option maxRecDepth 100000 in
set_option maxHeartbeats 4000000 in
theorem u_Reading_readFormB (m : h_M) (v1 : Nat) (c0 : h_C) (r : (Int × h_C)) (h : G_Reading_readFormB v1 c0 = some r) : F_Reading_readFormB 1113 (h_A 100 v1) (h_H c0 m) = some (r.1, (h_H r.2 m)) := by
  unfold G_Reading_readFormB at h
  unfold F_Reading_readFormB
  obtain ⟨g1, h⟩ := p_gdE h
  refine gdT (isD c0 m (d100 g1)) ?_
  try rw [zf111 c0 m g1]
  refine iteC Iff.rfl h (fun b2 h => ?_) (fun b2 h => ?_)
  · try rw [rD c0 m (rr100_12 g1)]
    refine gdT (isD c0 m (d2015 g1)) ?_
    obtain ⟨g3, h⟩ := p_gdE h
    refine gdT ⟨g3.1, by (try rw [lenD c0 m (d2015 g1)]); exact g3.2⟩ ?_
    try rw [zA c0 m (d2015 g1) (by decide) (1 : Int).toNat]
    refine gdT (isD c0 m d900) ?_
    refine bS (wf901 c0 m _) h ?_
    intro c4 h
    try rw [rD c4 m (rr100_12 g1)]
    refine gdT (isD c4 m (d2015 g1)) ?_
    obtain ⟨g6, h⟩ := p_gdE h
    refine gdT ⟨g6.1, by (try rw [lenD c4 m (d2015 g1)]); exact g6.2⟩ ?_
    try rw [zA c4 m (d2015 g1) (by decide) (2 : Int).toNat]
    try rw [rD c4 m (rr100_12 g1)]
    obtain ⟨g7, h⟩ := p_gdE h
    refine gdT ⟨g7.1, by (try rw [lenD c4 m (d2015 g1)]); exact g7.2⟩ ?_
    try rw [zA c4 m (d2015 g1) (by decide) (3 : Int).toNat]
    refine bS (wf902 c4 m _) h ?_
    intro c8 h
    try rw [rD c8 m (rr100_12 g1)]
    refine gdT (isD c8 m (d2015 g1)) ?_
    obtain ⟨g10, h⟩ := p_gdE h
    refine gdT ⟨g10.1, by (try rw [lenD c8 m (d2015 g1)]); exact g10.2⟩ ?_
    try rw [zA c8 m (d2015 g1) (by decide) (4 : Int).toNat]
    refine bS (wf903 c8 m _) h ?_
    intro c11 h
    try rw [rD c11 m (rr100_12 g1)]
    refine gdT (isD c11 m (d2015 g1)) ?_
    obtain ⟨g13, h⟩ := p_gdE h
    refine gdT ⟨g13.1, by (try rw [lenD c11 m (d2015 g1)]); exact g13.2⟩ ?_
    try rw [zA c11 m (d2015 g1) (by decide) (5 : Int).toNat]
    try rw [zf901 c11 m]
    try rw [rD c11 m (rr100_12 g1)]
    refine gdT ⟨g6.1, by (try rw [lenD c11 m (d2015 g1)]); exact g6.2⟩ ?_
    try rw [zA c11 m (d2015 g1) (by decide) (2 : Int).toNat]
    try rw [rD c11 m (rr100_12 g1)]
    refine gdT ⟨g7.1, by (try rw [lenD c11 m (d2015 g1)]); exact g7.2⟩ ?_
    try rw [zA c11 m (d2015 g1) (by decide) (3 : Int).toNat]
    try rw [zf903 c11 m]
    refine iteC Iff.rfl h (fun b14 h => ?_) (fun b14 h => ?_)
    · refine bS (wf900 c11 m _) h ?_
      intro c15 h
      cases h
      rfl
    · refine bS (wf900 c11 m _) h ?_
      intro c17 h
      cases h
      rfl
  · cases h
    rfl
def G_Reading_read (v1 : Nat) (c0 : h_C) : Option (Int × h_C) :=
  p_gd (vP v1) <|
  if (c0 111 v1 0) ≠ (-1) then
    if (c0 111 v1 0) ≠ 0 then
      p_gd ((0 : Int) ≤ 0 ∧ 0 < (12 : Int)) <|
      if (c0 2015 v1 (0 : Int).toNat) ≠ 65 then
        if (c0 2015 v1 (0 : Int).toNat) ≠ 66 then
          p_bi (wc c0 900 0 0 1) fun c7 =>
          some (0, c7)
        else
          q_bd (G_Reading_readFormB v1 c0) fun r11 c12 =>
          some (r11, c12)
      else
        q_bd (G_Reading_readFormA v1 c0) fun r16 c17 =>
        some (r16, c17)
    else
      some ((-13), c0)
  else
    some ((-11), c0)
set_option maxRecDepth 100000 in
set_option maxHeartbeats 4000000 in
theorem u_Reading_read (m : h_M) (v1 : Nat) (c0 : h_C) (r : (Int × h_C)) (h : G_Reading_read v1 c0 = some r) : F_Reading_read 1113 (h_A 100 v1) (h_H c0 m) = some (r.1, (h_H r.2 m)) := by
  unfold G_Reading_read at h
  unfold F_Reading_read
  obtain ⟨g1, h⟩ := p_gdE h
  refine gdT (isD c0 m (d100 g1)) ?_
  try rw [zf111 c0 m g1]
  refine iteC Iff.rfl h (fun b2 h => ?_) (fun b2 h => ?_)
  · try rw [zf111 c0 m g1]
    refine iteC Iff.rfl h (fun b3 h => ?_) (fun b3 h => ?_)
    · try rw [rD c0 m (rr100_12 g1)]
      refine gdT (isD c0 m (d2015 g1)) ?_
      obtain ⟨g4, h⟩ := p_gdE h
      refine gdT ⟨g4.1, by (try rw [lenD c0 m (d2015 g1)]); exact g4.2⟩ ?_
      try rw [zA c0 m (d2015 g1) (by decide) (0 : Int).toNat]
      refine iteC Iff.rfl h (fun b5 h => ?_) (fun b5 h => ?_)
      · try rw [rD c0 m (rr100_12 g1)]
        refine gdT ⟨g4.1, by (try rw [lenD c0 m (d2015 g1)]); exact g4.2⟩ ?_
        try rw [zA c0 m (d2015 g1) (by decide) (0 : Int).toNat]
        refine iteC Iff.rfl h (fun b6 h => ?_) (fun b6 h => ?_)
        · refine gdT (isD c0 m d900) ?_
          refine bS (wf900 c0 m _) h ?_
          intro c7 h
          cases h
          rfl
        · refine gdT (isD c0 m d900) ?_
          obtain ⟨r11, c12, q9, h⟩ := q_bdE h
          refine bdC (u_Reading_readFormB m v1 c0 _ q9) ?_
          cases h
          rfl
      · refine gdT (isD c0 m d900) ?_
        obtain ⟨r16, c17, q14, h⟩ := q_bdE h
        refine bdC (u_Reading_readFormA m v1 c0 _ q14) ?_
        cases h
        rfl
    · cases h
      rfl
  · cases h
    rfl
def G_Step_plainValue (v1 : Int) (c0 : h_C) : Option Int :=
  if v1 = 68 then
    some (c0 901 0 0)
  else if v1 = 83 then
    some (c0 903 0 0)
  else if v1 = 87 then
    some (c0 902 0 0)
  else 
  p_gd (0 ≤ c0 5003 0 0 ∧ c0 5003 0 0 < 3) <|
  some (c0 300 (c0 5003 0 0).toNat 0)
set_option maxRecDepth 100000 in
set_option maxHeartbeats 4000000 in
theorem u_Step_plainValue (m : h_M) (v1 : Int) (c0 : h_C) (r : Int) (h : G_Step_plainValue v1 c0 = some r) : F_Step_plainValue 1112 v1 (h_H c0 m) = some (r, (h_H c0 m)) := by
  unfold G_Step_plainValue at h
  unfold F_Step_plainValue
  refine iteC Iff.rfl h (fun b1 h => ?_) (fun b1 h => ?_)
  · refine gdT (isD c0 m d800) ?_
    try rw [rs1112_0 c0 m]
    refine gdT (isD c0 m d900) ?_
    try rw [zf901 c0 m]
    cases h
    rfl
  refine iteC Iff.rfl h (fun b2 h => ?_) (fun b2 h => ?_)
  · refine gdT (isD c0 m d800) ?_
    try rw [rs1112_0 c0 m]
    refine gdT (isD c0 m d900) ?_
    try rw [zf903 c0 m]
    cases h
    rfl
  refine iteC Iff.rfl h (fun b3 h => ?_) (fun b3 h => ?_)
  · refine gdT (isD c0 m d800) ?_
    try rw [rs1112_0 c0 m]
    refine gdT (isD c0 m d900) ?_
    try rw [zf902 c0 m]
    cases h
    rfl
  refine gdT (isD c0 m d800) ?_
  obtain ⟨g4, h⟩ := p_gdE h
  try rw [rm5003 c0 m g4]
  have hv5 : vW (c0 5003 0 0).toNat := by omega
  refine gdT (isD c0 m (d300 hv5)) ?_
  try rw [zf300 c0 m hv5]
  cases h
  rfl
def GB_Step_quotient_115 (k52 : Nat → Int → Int → h_C → Option Int) (v2 : Nat) (v3 : Int) (v4 : Int) (c0 : h_C) : Option Int :=
  p_bi (p_w (v4 + 1)) fun x1 =>
  k52 v2 v3 x1 c0
def GL_Step_quotient_52 (k52 : Nat → Int → Int → h_C → Option Int) (v2 : Nat) (v3 : Int) (v4 : Int) (c0 : h_C) : Option Int :=
  p_gd (vG v2) <|
  if (c0 3 v2 0) ≤ v4 then
    if v3 ≠ 0 then
      q_bv (G_Gear_parcels v2 c0) fun r6 =>
      p_gd (v3 ≠ 0) <|
      some (p_div r6 v3)
    else
      some (-16)
  else
    p_gd (0 ≤ c0 5002 0 0 ∧ c0 5002 0 0 < 3) <|
    q_bv (G_Works_follow (c0 5002 0 0).toNat v2 v4 c0) fun r13 =>
    if r13 < 0 then
      GB_Step_quotient_115 k52 v2 v3 v4 c0
    else
      p_gd (0 ≤ c0 5003 0 0 ∧ c0 5003 0 0 < 3) <|
      p_gd ((0 : Int) ≤ r13 ∧ r13 < (40 : Int)) <|
      if (c0 0 (40 * (c0 5003 0 0).toNat + (r13 : Int).toNat + 1) 0) ≠ 9 then
        GB_Step_quotient_115 k52 v2 v3 v4 c0
      else
        if (c0 7 (40 * (c0 5003 0 0).toNat + (r13 : Int).toNat + 1) 0) = 0 then
          GB_Step_quotient_115 k52 v2 v3 v4 c0
        else
          p_bi (p_w (v3 + 1)) fun x22 =>
          GB_Step_quotient_115 k52 v2 x22 v4 c0
def GO_Step_quotient_52  : Nat → Nat → Int → Int → h_C → Option Int
  | 0 => fun _ _ _ _ => none
  | n + 1 => GL_Step_quotient_52 (GO_Step_quotient_52 n)
def G_Step_quotient (v1 : Int) (c0 : h_C) : Option Int :=
  if v1 < 0 then
    some (-13)
  else
    if v1 < 40 then
      p_gd (0 ≤ c0 5002 0 0 ∧ c0 5002 0 0 < 3) <|
      if v1 < (c0 202 (c0 5002 0 0).toNat 0) then
        p_gd (0 ≤ c0 5003 0 0 ∧ c0 5003 0 0 < 3) <|
        p_gd ((0 : Int) ≤ v1 ∧ v1 < (40 : Int)) <|
        q_bv (G_Gear_isChute (40 * (c0 5003 0 0).toNat + (v1 : Int).toNat + 1) c0) fun r13 =>
        if r13 ≠ 0 then
          GO_Step_quotient_52 3000 (40 * (c0 5003 0 0).toNat + (v1 : Int).toNat + 1) 0 0 c0
        else
          some (-12)
      else
        some (-11)
    else
      some (-13)
set_option maxRecDepth 100000 in
set_option maxHeartbeats 4000000 in
theorem uB_Step_quotient_115 (m : h_M) (j52 : Nat → Nat → Int → Int → p_Hp → Option (Int × p_Hp)) (k52 : Nat → Int → Int → h_C → Option Int) (hk52 : ∀ (v2 : Nat) (v3 : Int) (v4 : Int) (c0 : h_C) (r : Int), k52 v2 v3 v4 c0 = some r → j52 1112 (h_A 0 v2) v3 v4 (h_H c0 m) = some (r, (h_H c0 m))) (v2 : Nat) (v3 : Int) (v4 : Int) (c0 : h_C) (r : Int) (h : GB_Step_quotient_115 k52 v2 v3 v4 c0 = some r) : B_Step_quotient_115 j52 1112 (h_A 0 v2) v3 v4 (h_H c0 m) = some (r, (h_H c0 m)) := by
  unfold GB_Step_quotient_115 at h
  unfold B_Step_quotient_115
  refine bV h ?_
  intro x1 h
  exact hk52 v2 v3 x1 c0 _ h
set_option maxRecDepth 100000 in
set_option maxHeartbeats 4000000 in
theorem uL_Step_quotient_52 (m : h_M) (j52 : Nat → Nat → Int → Int → p_Hp → Option (Int × p_Hp)) (k52 : Nat → Int → Int → h_C → Option Int) (hk52 : ∀ (v2 : Nat) (v3 : Int) (v4 : Int) (c0 : h_C) (r : Int), k52 v2 v3 v4 c0 = some r → j52 1112 (h_A 0 v2) v3 v4 (h_H c0 m) = some (r, (h_H c0 m))) (v2 : Nat) (v3 : Int) (v4 : Int) (c0 : h_C) (r : Int) (h : GL_Step_quotient_52 k52 v2 v3 v4 c0 = some r) : L_Step_quotient_52 j52 1112 (h_A 0 v2) v3 v4 (h_H c0 m) = some (r, (h_H c0 m)) := by
  unfold GL_Step_quotient_52 at h
  unfold L_Step_quotient_52
  obtain ⟨g1, h⟩ := p_gdE h
  refine gdT (isD c0 m (d0 g1)) ?_
  try rw [zf3 c0 m g1]
  refine iteC Iff.rfl h (fun b2 h => ?_) (fun b2 h => ?_)
  · refine iteC Iff.rfl h (fun b3 h => ?_) (fun b3 h => ?_)
    · obtain ⟨r6, q4, h⟩ := q_bvE h
      refine bdC (u_Gear_parcels m v2 c0 _ q4) ?_
      obtain ⟨g8, h⟩ := p_gdE h
      refine gdT g8 ?_
      cases h
      rfl
    · cases h
      rfl
  · refine gdT (isD c0 m d800) ?_
    obtain ⟨g9, h⟩ := p_gdE h
    try rw [rm5002 c0 m g9]
    have hv10 : vW (c0 5002 0 0).toNat := by omega
    refine gdT (isD c0 m (d200 hv10)) ?_
    obtain ⟨r13, q11, h⟩ := q_bvE h
    refine bdC (u_Works_follow m (c0 5002 0 0).toNat v2 v4 c0 _ q11) ?_
    refine iteC Iff.rfl h (fun b15 h => ?_) (fun b15 h => ?_)
    · exact uB_Step_quotient_115 m j52 k52 hk52 v2 v3 v4 c0 _ h
    · obtain ⟨g16, h⟩ := p_gdE h
      try rw [rm5003 c0 m g16]
      have hv17 : vW (c0 5003 0 0).toNat := by omega
      refine gdT (isD c0 m (d300 hv17)) ?_
      try rw [rD c0 m (rr300_4 hv17)]
      refine gdT (isD c0 m (d2001 hv17)) ?_
      obtain ⟨g18, h⟩ := p_gdE h
      refine gdT ⟨g18.1, by (try rw [lenD c0 m (d2001 hv17)]); exact g18.2⟩ ?_
      try rw [rD c0 m (el2001 (k := (r13 : Int).toNat) hv17 (Nat.zero_le _) (by omega))]
      have hv19 : vG (40 * (c0 5003 0 0).toNat + (r13 : Int).toNat + 1) := ⟨by omega, by have := hv17; omega⟩
      refine gdT (isD c0 m (d0 hv19)) ?_
      try rw [zf0 c0 m hv19]
      refine iteC Iff.rfl h (fun b20 h => ?_) (fun b20 h => ?_)
      · exact uB_Step_quotient_115 m j52 k52 hk52 v2 v3 v4 c0 _ h
      · try rw [rm5003 c0 m g16]
        try rw [rD c0 m (rr300_4 hv17)]
        refine gdT ⟨g18.1, by (try rw [lenD c0 m (d2001 hv17)]); exact g18.2⟩ ?_
        try rw [rD c0 m (el2001 (k := (r13 : Int).toNat) hv17 (Nat.zero_le _) (by omega))]
        try rw [zf7 c0 m hv19]
        refine iteC Iff.rfl h (fun b21 h => ?_) (fun b21 h => ?_)
        · exact uB_Step_quotient_115 m j52 k52 hk52 v2 v3 v4 c0 _ h
        · refine bV h ?_
          intro x22 h
          exact uB_Step_quotient_115 m j52 k52 hk52 v2 x22 v4 c0 _ h
set_option maxRecDepth 100000 in
set_option maxHeartbeats 4000000 in
theorem uO_Step_quotient_52 (m : h_M)  : ∀ (n : Nat) (v2 : Nat) (v3 : Int) (v4 : Int) (c0 : h_C) (r : Int), GO_Step_quotient_52 n v2 v3 v4 c0 = some r → O_Step_quotient_52 n 1112 (h_A 0 v2) v3 v4 (h_H c0 m) = some (r, (h_H c0 m)) := by
  intro n
  induction n with
  | zero => intro v2 v3 v4 c0 r h; cases h
  | succ n ih => intro v2 v3 v4 c0 r h; exact uL_Step_quotient_52 m (O_Step_quotient_52 n) (GO_Step_quotient_52 n) ih v2 v3 v4 c0 r h
set_option maxRecDepth 100000 in
set_option maxHeartbeats 4000000 in
theorem u_Step_quotient (m : h_M) (v1 : Int) (c0 : h_C) (r : Int) (h : G_Step_quotient v1 c0 = some r) : F_Step_quotient 1112 v1 (h_H c0 m) = some (r, (h_H c0 m)) := by
  unfold G_Step_quotient at h
  unfold F_Step_quotient
  refine iteC Iff.rfl h (fun b1 h => ?_) (fun b1 h => ?_)
  · cases h
    rfl
  · refine iteC Iff.rfl h (fun b2 h => ?_) (fun b2 h => ?_)
    · refine gdT (isD c0 m d800) ?_
      obtain ⟨g3, h⟩ := p_gdE h
      try rw [rm5002 c0 m g3]
      have hv4 : vW (c0 5002 0 0).toNat := by omega
      refine gdT (isD c0 m (d200 hv4)) ?_
      try rw [zf202 c0 m hv4]
      refine iteC Iff.rfl h (fun b5 h => ?_) (fun b5 h => ?_)
      · obtain ⟨g6, h⟩ := p_gdE h
        try rw [rm5003 c0 m g6]
        have hv7 : vW (c0 5003 0 0).toNat := by omega
        refine gdT (isD c0 m (d300 hv7)) ?_
        try rw [rD c0 m (rr300_4 hv7)]
        refine gdT (isD c0 m (d2001 hv7)) ?_
        obtain ⟨g8, h⟩ := p_gdE h
        refine gdT ⟨g8.1, by (try rw [lenD c0 m (d2001 hv7)]); exact g8.2⟩ ?_
        try rw [rD c0 m (el2001 (k := (v1 : Int).toNat) hv7 (Nat.zero_le _) (by omega))]
        have hv9 : vG (40 * (c0 5003 0 0).toNat + (v1 : Int).toNat + 1) := ⟨by omega, by have := hv7; omega⟩
        refine bX ?_
        refine gdT (isD c0 m (d0 hv9)) ?_
        obtain ⟨r13, q11, h⟩ := q_bvE h
        refine bdC (u_Gear_isChute m (40 * (c0 5003 0 0).toNat + (v1 : Int).toNat + 1) c0 _ q11) ?_
        refine iteC Iff.rfl h (fun b15 h => ?_) (fun b15 h => ?_)
        · exact uO_Step_quotient_52 m 3000 (40 * (c0 5003 0 0).toNat + (v1 : Int).toNat + 1) 0 0 c0 _ h
        · cases h
          rfl
      · cases h
        rfl
    · cases h
      rfl
def G_In_compare (v0 : Int) (v1 : Int) (c0 : h_C) : Option Int :=
  if v1 ≤ v0 then
    if v0 ≠ v1 then
      some 1
    else
      some 0
  else
    some (-1)
set_option maxRecDepth 100000 in
set_option maxHeartbeats 4000000 in
theorem u_In_compare (m : h_M) (v0 : Int) (v1 : Int) (c0 : h_C) (r : Int) (h : G_In_compare v0 v1 c0 = some r) : F_In_compare v0 v1 (h_H c0 m) = some (r, (h_H c0 m)) := by
  unfold G_In_compare at h
  unfold F_In_compare
  refine iteC Iff.rfl h (fun b1 h => ?_) (fun b1 h => ?_)
  · refine iteC Iff.rfl h (fun b2 h => ?_) (fun b2 h => ?_)
    · cases h
      rfl
    · cases h
      rfl
  · cases h
    rfl
def GB_Step_holds_141 (k12 : Int → Nat → Int → h_C → Option Int) (v1 : Int) (v2 : Nat) (v3 : Int) (w0 : Int) (c0 : h_C) : Option Int :=
  if w0 ≠ 0 then
    p_bi (p_w (v3 + 1)) fun x2 =>
    k12 v1 v2 x2 c0
  else
    some 0
def GB_Step_holds_60 (k12 : Int → Nat → Int → h_C → Option Int) (v1 : Int) (v2 : Nat) (v3 : Int) (w0 : Int) (c0 : h_C) : Option Int :=
  if 0 ≤ w0 then
    p_gd (vR v2) <|
    p_gd ((0 : Int) ≤ v3 ∧ v3 < (48 : Int)) <|
    q_bv (G_In_compare w0 (c0 2025 v2 (v3 : Int).toNat) c0) fun r6 =>
    p_bi ((c0 2024 v2 (v3 : Int).toNat)) fun x9 =>
    if x9 ≠ 60 then
      if x9 ≠ 61 then
        if r6 ≤ 0 then
          GB_Step_holds_141 k12 v1 v2 v3 0 c0
        else
          GB_Step_holds_141 k12 v1 v2 v3 1 c0
      else
        if r6 ≠ 0 then
          GB_Step_holds_141 k12 v1 v2 v3 0 c0
        else
          GB_Step_holds_141 k12 v1 v2 v3 1 c0
    else
      if 0 ≤ r6 then
        GB_Step_holds_141 k12 v1 v2 v3 0 c0
      else
        GB_Step_holds_141 k12 v1 v2 v3 1 c0
  else
    some w0
def GL_Step_holds_12 (k12 : Int → Nat → Int → h_C → Option Int) (v1 : Int) (v2 : Nat) (v3 : Int) (c0 : h_C) : Option Int :=
  p_gd (vR v2) <|
  p_gd ((0 : Int) ≤ v1 ∧ v1 < (12 : Int)) <|
  if (p_w ((p_w (4 * v1)) + (c0 2021 v2 (v1 : Int).toNat))) ≤ v3 then
    some 1
  else
    p_gd ((0 : Int) ≤ v3 ∧ v3 < (48 : Int)) <|
    p_bi ((c0 2022 v2 (v3 : Int).toNat)) fun x6 =>
    if x6 ≠ 81 then
      q_bv (G_Step_plainValue x6 c0) fun r10 =>
      GB_Step_holds_60 k12 v1 v2 v3 r10 c0
    else
      q_bv (G_Step_quotient (c0 2023 v2 (v3 : Int).toNat) c0) fun r14 =>
      GB_Step_holds_60 k12 v1 v2 v3 r14 c0
def GO_Step_holds_12  : Nat → Int → Nat → Int → h_C → Option Int
  | 0 => fun _ _ _ _ => none
  | n + 1 => GL_Step_holds_12 (GO_Step_holds_12 n)
def G_Step_holds (v1 : Int) (c0 : h_C) : Option Int :=
  p_gd (0 ≤ c0 5002 0 0 ∧ c0 5002 0 0 < 3) <|
  p_bi ((p_w (4 * v1))) fun x6 =>
  GO_Step_holds_12 3000 v1 (c0 5002 0 0).toNat x6 c0
set_option maxRecDepth 100000 in
set_option maxHeartbeats 4000000 in
theorem uB_Step_holds_141 (m : h_M) (j12 : Nat → Int → Nat → Int → p_Hp → Option (Int × p_Hp)) (k12 : Int → Nat → Int → h_C → Option Int) (hk12 : ∀ (v1 : Int) (v2 : Nat) (v3 : Int) (c0 : h_C) (r : Int), k12 v1 v2 v3 c0 = some r → j12 1112 v1 (h_A 500 v2) v3 (h_H c0 m) = some (r, (h_H c0 m))) (v1 : Int) (v2 : Nat) (v3 : Int) (w0 : Int) (c0 : h_C) (r : Int) (h : GB_Step_holds_141 k12 v1 v2 v3 w0 c0 = some r) : B_Step_holds_141 j12 1112 v1 (h_A 500 v2) v3 w0 (h_H c0 m) = some (r, (h_H c0 m)) := by
  unfold GB_Step_holds_141 at h
  unfold B_Step_holds_141
  refine iteC Iff.rfl h (fun b1 h => ?_) (fun b1 h => ?_)
  · refine bV h ?_
    intro x2 h
    exact hk12 v1 v2 x2 c0 _ h
  · cases h
    rfl
set_option maxRecDepth 100000 in
set_option maxHeartbeats 4000000 in
theorem uB_Step_holds_60 (m : h_M) (j12 : Nat → Int → Nat → Int → p_Hp → Option (Int × p_Hp)) (k12 : Int → Nat → Int → h_C → Option Int) (hk12 : ∀ (v1 : Int) (v2 : Nat) (v3 : Int) (c0 : h_C) (r : Int), k12 v1 v2 v3 c0 = some r → j12 1112 v1 (h_A 500 v2) v3 (h_H c0 m) = some (r, (h_H c0 m))) (v1 : Int) (v2 : Nat) (v3 : Int) (w0 : Int) (c0 : h_C) (r : Int) (h : GB_Step_holds_60 k12 v1 v2 v3 w0 c0 = some r) : B_Step_holds_60 j12 1112 v1 (h_A 500 v2) v3 w0 (h_H c0 m) = some (r, (h_H c0 m)) := by
  unfold GB_Step_holds_60 at h
  unfold B_Step_holds_60
  refine iteC Iff.rfl h (fun b1 h => ?_) (fun b1 h => ?_)
  · obtain ⟨g2, h⟩ := p_gdE h
    refine gdT (isD c0 m (d500 g2)) ?_
    try rw [rD c0 m (rr500_6 g2)]
    refine gdT (isD c0 m (d2025 g2)) ?_
    obtain ⟨g3, h⟩ := p_gdE h
    refine gdT ⟨g3.1, by (try rw [lenD c0 m (d2025 g2)]); exact g3.2⟩ ?_
    try rw [zA c0 m (d2025 g2) (by decide) (v3 : Int).toNat]
    obtain ⟨r6, q4, h⟩ := q_bvE h
    refine bdC (u_In_compare m w0 (c0 2025 v2 (v3 : Int).toNat) c0 _ q4) ?_
    try rw [rD c0 m (rr500_5 g2)]
    refine gdT (isD c0 m (d2024 g2)) ?_
    refine gdT ⟨g3.1, by (try rw [lenD c0 m (d2024 g2)]); exact g3.2⟩ ?_
    try rw [zA c0 m (d2024 g2) (by decide) (v3 : Int).toNat]
    refine bV h ?_
    intro x9 h
    refine iteC Iff.rfl h (fun b10 h => ?_) (fun b10 h => ?_)
    · refine iteC Iff.rfl h (fun b11 h => ?_) (fun b11 h => ?_)
      · refine iteC Iff.rfl h (fun b12 h => ?_) (fun b12 h => ?_)
        · exact uB_Step_holds_141 m j12 k12 hk12 v1 v2 v3 0 c0 _ h
        · exact uB_Step_holds_141 m j12 k12 hk12 v1 v2 v3 1 c0 _ h
      · refine iteC Iff.rfl h (fun b13 h => ?_) (fun b13 h => ?_)
        · exact uB_Step_holds_141 m j12 k12 hk12 v1 v2 v3 0 c0 _ h
        · exact uB_Step_holds_141 m j12 k12 hk12 v1 v2 v3 1 c0 _ h
    · refine iteC Iff.rfl h (fun b14 h => ?_) (fun b14 h => ?_)
      · exact uB_Step_holds_141 m j12 k12 hk12 v1 v2 v3 0 c0 _ h
      · exact uB_Step_holds_141 m j12 k12 hk12 v1 v2 v3 1 c0 _ h
  · cases h
    rfl
set_option maxRecDepth 100000 in
set_option maxHeartbeats 4000000 in
theorem uL_Step_holds_12 (m : h_M) (j12 : Nat → Int → Nat → Int → p_Hp → Option (Int × p_Hp)) (k12 : Int → Nat → Int → h_C → Option Int) (hk12 : ∀ (v1 : Int) (v2 : Nat) (v3 : Int) (c0 : h_C) (r : Int), k12 v1 v2 v3 c0 = some r → j12 1112 v1 (h_A 500 v2) v3 (h_H c0 m) = some (r, (h_H c0 m))) (v1 : Int) (v2 : Nat) (v3 : Int) (c0 : h_C) (r : Int) (h : GL_Step_holds_12 k12 v1 v2 v3 c0 = some r) : L_Step_holds_12 j12 1112 v1 (h_A 500 v2) v3 (h_H c0 m) = some (r, (h_H c0 m)) := by
  unfold GL_Step_holds_12 at h
  unfold L_Step_holds_12
  obtain ⟨g1, h⟩ := p_gdE h
  refine gdT (isD c0 m (d500 g1)) ?_
  try rw [rD c0 m (rr500_2 g1)]
  refine gdT (isD c0 m (d2021 g1)) ?_
  obtain ⟨g2, h⟩ := p_gdE h
  refine gdT ⟨g2.1, by (try rw [lenD c0 m (d2021 g1)]); exact g2.2⟩ ?_
  try rw [zA c0 m (d2021 g1) (by decide) (v1 : Int).toNat]
  refine iteC Iff.rfl h (fun b3 h => ?_) (fun b3 h => ?_)
  · cases h
    rfl
  · try rw [rD c0 m (rr500_3 g1)]
    refine gdT (isD c0 m (d2022 g1)) ?_
    obtain ⟨g4, h⟩ := p_gdE h
    refine gdT ⟨g4.1, by (try rw [lenD c0 m (d2022 g1)]); exact g4.2⟩ ?_
    try rw [zA c0 m (d2022 g1) (by decide) (v3 : Int).toNat]
    refine bV h ?_
    intro x6 h
    refine iteC Iff.rfl h (fun b7 h => ?_) (fun b7 h => ?_)
    · refine gdT (isD c0 m d800) ?_
      obtain ⟨r10, q8, h⟩ := q_bvE h
      refine bdC (u_Step_plainValue m x6 c0 _ q8) ?_
      exact uB_Step_holds_60 m j12 k12 hk12 v1 v2 v3 r10 c0 _ h
    · try rw [rD c0 m (rr500_4 g1)]
      refine gdT (isD c0 m (d2023 g1)) ?_
      refine gdT ⟨g4.1, by (try rw [lenD c0 m (d2023 g1)]); exact g4.2⟩ ?_
      try rw [zA c0 m (d2023 g1) (by decide) (v3 : Int).toNat]
      refine gdT (isD c0 m d800) ?_
      obtain ⟨r14, q12, h⟩ := q_bvE h
      refine bdC (u_Step_quotient m (c0 2023 v2 (v3 : Int).toNat) c0 _ q12) ?_
      exact uB_Step_holds_60 m j12 k12 hk12 v1 v2 v3 r14 c0 _ h
set_option maxRecDepth 100000 in
set_option maxHeartbeats 4000000 in
theorem uO_Step_holds_12 (m : h_M)  : ∀ (n : Nat) (v1 : Int) (v2 : Nat) (v3 : Int) (c0 : h_C) (r : Int), GO_Step_holds_12 n v1 v2 v3 c0 = some r → O_Step_holds_12 n 1112 v1 (h_A 500 v2) v3 (h_H c0 m) = some (r, (h_H c0 m)) := by
  intro n
  induction n with
  | zero => intro v1 v2 v3 c0 r h; cases h
  | succ n ih => intro v1 v2 v3 c0 r h; exact uL_Step_holds_12 m (O_Step_holds_12 n) (GO_Step_holds_12 n) ih v1 v2 v3 c0 r h
set_option maxRecDepth 100000 in
set_option maxHeartbeats 4000000 in
theorem u_Step_holds (m : h_M) (v1 : Int) (c0 : h_C) (r : Int) (h : G_Step_holds v1 c0 = some r) : F_Step_holds 1112 v1 (h_H c0 m) = some (r, (h_H c0 m)) := by
  unfold G_Step_holds at h
  unfold F_Step_holds
  refine gdT (isD c0 m d800) ?_
  obtain ⟨g1, h⟩ := p_gdE h
  try rw [rm5002 c0 m g1]
  have hv2 : vW (c0 5002 0 0).toNat := by omega
  refine gdT (isD c0 m (d200 hv2)) ?_
  try rw [rD c0 m (rr200_3 hv2)]
  have hv3 : vR (c0 5002 0 0).toNat := by have := hv2; omega
  refine bX ?_
  refine bV h ?_
  intro x6 h
  exact uO_Step_holds_12 m 3000 v1 (c0 5002 0 0).toNat x6 c0 _ h
def GB_Step_targetByRules_68 (k2 : Int → Int → h_C → Option (Int × h_C)) (v1 : Int) (v2 : Int) (c0 : h_C) : Option (Int × h_C) :=
  p_bi (p_w (v2 + 1)) fun x1 =>
  k2 v1 x1 c0
def GL_Step_targetByRules_2 (k2 : Int → Int → h_C → Option (Int × h_C)) (v1 : Int) (v2 : Int) (c0 : h_C) : Option (Int × h_C) :=
  p_gd (0 ≤ c0 5002 0 0 ∧ c0 5002 0 0 < 3) <|
  if (c0 500 (c0 5002 0 0).toNat 0) ≤ v2 then
    some ((-9), c0)
  else
    q_bv (G_Step_holds v2 c0) fun r7 =>
    if 0 ≤ r7 then
      if r7 ≠ 1 then
        GB_Step_targetByRules_68 k2 v1 v2 c0
      else
        p_gd (0 ≤ c0 5003 0 0 ∧ c0 5003 0 0 < 3) <|
        p_gd ((0 : Int) ≤ v2 ∧ v2 < (12 : Int)) <|
        p_bi (wc c0 2003 (c0 5003 0 0).toNat (v2 : Int).toNat (p_w ((c0 2003 (c0 5003 0 0).toNat (v2 : Int).toNat) + 1))) fun c14 =>
        p_gd (0 ≤ c14 5002 0 0 ∧ c14 5002 0 0 < 3) <|
        some ((c14 2020 (c14 5002 0 0).toNat (v2 : Int).toNat), c14)
    else
      q_bv (G_Step_addFinding v1 3 r7 v2 c0) fun c21 =>
      GB_Step_targetByRules_68 k2 v1 v2 c21
def GO_Step_targetByRules_2  : Nat → Int → Int → h_C → Option (Int × h_C)
  | 0 => fun _ _ _ => none
  | n + 1 => GL_Step_targetByRules_2 (GO_Step_targetByRules_2 n)
def G_Step_targetByRules (v1 : Int) (c0 : h_C) : Option (Int × h_C) :=
  GO_Step_targetByRules_2 3000 v1 0 c0
set_option maxRecDepth 100000 in
set_option maxHeartbeats 4000000 in
theorem uB_Step_targetByRules_68 (m : h_M) (j2 : Nat → Int → Int → p_Hp → Option (Int × p_Hp)) (k2 : Int → Int → h_C → Option (Int × h_C)) (hk2 : ∀ (v1 : Int) (v2 : Int) (c0 : h_C) (r : (Int × h_C)), k2 v1 v2 c0 = some r → j2 1112 v1 v2 (h_H c0 m) = some (r.1, (h_H r.2 m))) (v1 : Int) (v2 : Int) (c0 : h_C) (r : (Int × h_C)) (h : GB_Step_targetByRules_68 k2 v1 v2 c0 = some r) : B_Step_targetByRules_68 j2 1112 v1 v2 (h_H c0 m) = some (r.1, (h_H r.2 m)) := by
  unfold GB_Step_targetByRules_68 at h
  unfold B_Step_targetByRules_68
  refine bV h ?_
  intro x1 h
  exact hk2 v1 x1 c0 _ h
set_option maxRecDepth 100000 in
set_option maxHeartbeats 4000000 in
theorem uL_Step_targetByRules_2 (m : h_M) (j2 : Nat → Int → Int → p_Hp → Option (Int × p_Hp)) (k2 : Int → Int → h_C → Option (Int × h_C)) (hk2 : ∀ (v1 : Int) (v2 : Int) (c0 : h_C) (r : (Int × h_C)), k2 v1 v2 c0 = some r → j2 1112 v1 v2 (h_H c0 m) = some (r.1, (h_H r.2 m))) (v1 : Int) (v2 : Int) (c0 : h_C) (r : (Int × h_C)) (h : GL_Step_targetByRules_2 k2 v1 v2 c0 = some r) : L_Step_targetByRules_2 j2 1112 v1 v2 (h_H c0 m) = some (r.1, (h_H r.2 m)) := by
  unfold GL_Step_targetByRules_2 at h
  unfold L_Step_targetByRules_2
  refine gdT (isD c0 m d800) ?_
  obtain ⟨g1, h⟩ := p_gdE h
  try rw [rm5002 c0 m g1]
  have hv2 : vW (c0 5002 0 0).toNat := by omega
  refine gdT (isD c0 m (d200 hv2)) ?_
  try rw [rD c0 m (rr200_3 hv2)]
  have hv3 : vR (c0 5002 0 0).toNat := by have := hv2; omega
  refine gdT (isD c0 m (d500 hv3)) ?_
  try rw [zf500 c0 m hv3]
  refine iteC Iff.rfl h (fun b4 h => ?_) (fun b4 h => ?_)
  · cases h
    rfl
  · obtain ⟨r7, q5, h⟩ := q_bvE h
    refine bdC (u_Step_holds m v2 c0 _ q5) ?_
    refine iteC Iff.rfl h (fun b9 h => ?_) (fun b9 h => ?_)
    · refine iteC Iff.rfl h (fun b10 h => ?_) (fun b10 h => ?_)
      · exact uB_Step_targetByRules_68 m j2 k2 hk2 v1 v2 c0 _ h
      · obtain ⟨g11, h⟩ := p_gdE h
        try rw [rm5003 c0 m g11]
        have hv12 : vW (c0 5003 0 0).toNat := by omega
        refine gdT (isD c0 m (d300 hv12)) ?_
        try rw [rD c0 m (rr300_6 hv12)]
        refine gdT (isD c0 m (d2003 hv12)) ?_
        obtain ⟨g13, h⟩ := p_gdE h
        refine gdT ⟨g13.1, by (try rw [lenD c0 m (d2003 hv12)]); exact g13.2⟩ ?_
        try rw [zA c0 m (d2003 hv12) (by decide) (v2 : Int).toNat]
        refine gdT ⟨g13.1, by (try rw [lenD c0 m (d2003 hv12)]); exact g13.2⟩ ?_
        refine bS (wA c0 m (d2003 hv12) (by decide) _ _) h ?_
        intro c14 h
        obtain ⟨g16, h⟩ := p_gdE h
        try rw [rm5002 c14 m g16]
        have hv17 : vW (c14 5002 0 0).toNat := by omega
        refine gdT (isD c14 m (d200 hv17)) ?_
        try rw [rD c14 m (rr200_3 hv17)]
        have hv18 : vR (c14 5002 0 0).toNat := by have := hv17; omega
        refine gdT (isD c14 m (d500 hv18)) ?_
        try rw [rD c14 m (rr500_1 hv18)]
        refine gdT (isD c14 m (d2020 hv18)) ?_
        refine gdT ⟨g13.1, by (try rw [lenD c14 m (d2020 hv18)]); exact g13.2⟩ ?_
        try rw [zA c14 m (d2020 hv18) (by decide) (v2 : Int).toNat]
        cases h
        rfl
    · obtain ⟨c21, q19, h⟩ := q_bvE h
      refine bvC (u_Step_addFinding m v1 3 r7 v2 c0 _ q19) ?_
      exact uB_Step_targetByRules_68 m j2 k2 hk2 v1 v2 c21 _ h
set_option maxRecDepth 100000 in
set_option maxHeartbeats 4000000 in
theorem uO_Step_targetByRules_2 (m : h_M)  : ∀ (n : Nat) (v1 : Int) (v2 : Int) (c0 : h_C) (r : (Int × h_C)), GO_Step_targetByRules_2 n v1 v2 c0 = some r → O_Step_targetByRules_2 n 1112 v1 v2 (h_H c0 m) = some (r.1, (h_H r.2 m)) := by
  intro n
  induction n with
  | zero => intro v1 v2 c0 r h; cases h
  | succ n ih => intro v1 v2 c0 r h; exact uL_Step_targetByRules_2 m (O_Step_targetByRules_2 n) (GO_Step_targetByRules_2 n) ih v1 v2 c0 r h
set_option maxRecDepth 100000 in
set_option maxHeartbeats 4000000 in
theorem u_Step_targetByRules (m : h_M) (v1 : Int) (c0 : h_C) (r : (Int × h_C)) (h : G_Step_targetByRules v1 c0 = some r) : F_Step_targetByRules 1112 v1 (h_H c0 m) = some (r.1, (h_H r.2 m)) := by
  unfold G_Step_targetByRules at h
  unfold F_Step_targetByRules
  exact uO_Step_targetByRules_2 m 3000 v1 0 c0 _ h
def GB_Step_scan_101  (v1 : Int) (v3 : Nat) (c0 : h_C) : Option (Int × h_C) :=
  q_bd (G_Step_targetByRules v1 c0) fun r3 c4 =>
  p_gd (vP v3) <|
  p_bi (wc c4 104 v3 0 r3) fun c7 =>
  some (1, c7)
def G_Step_scan (v1 : Int) (v2 : Nat) (c0 : h_C) : Option (Int × h_C) :=
  p_gd (0 ≤ c0 5003 0 0 ∧ c0 5003 0 0 < 3) <|
  q_bv (G_State_inLastSlot (c0 5003 0 0).toNat v2 c0) fun r5 =>
  if r5 = 0 then
    some (1, c0)
  else
    p_gd (vP r5) <|
    if (c0 108 r5 0) ≠ 0 then
      some (1, c0)
    else
      if (c0 107 r5 0) = 0 then
        p_bi (wc c0 107 r5 0 1) fun c11 =>
        p_bi (wc c11 104 r5 0 (-8)) fun c13 =>
        q_bd (G_Reading_read r5 c13) fun r17 c18 =>
        if r17 = 0 then
          if (c18 900 0 0) ≠ 0 then
            some (1, c18)
          else
            p_gd (vG v2) <|
            if (c18 0 v2 0) ≠ 4 then
              GB_Step_scan_101 v1 r5 c18
            else
              if (c18 902 0 0) ≠ (c18 102 r5 0) then
                some (1, c18)
              else
                GB_Step_scan_101 v1 r5 c18
        else
          q_bv (G_Step_addFinding v1 2 r17 (c18 101 r5 0) c18) fun c27 =>
          some (0, c27)
      else
        some (1, c0)
set_option maxRecDepth 100000 in
set_option maxHeartbeats 4000000 in
theorem uB_Step_scan_101 (m : h_M)  (v1 : Int) (v3 : Nat) (c0 : h_C) (r : (Int × h_C)) (h : GB_Step_scan_101 v1 v3 c0 = some r) : B_Step_scan_101 1112 v1 (h_A 100 v3) (h_H c0 m) = some (r.1, (h_H r.2 m)) := by
  unfold GB_Step_scan_101 at h
  unfold B_Step_scan_101
  refine gdT (isD c0 m d800) ?_
  obtain ⟨r3, c4, q1, h⟩ := q_bdE h
  refine bdC (u_Step_targetByRules m v1 c0 _ q1) ?_
  obtain ⟨g6, h⟩ := p_gdE h
  refine gdT (isD c4 m (d100 g6)) ?_
  refine bS (wf104 c4 m g6 _) h ?_
  intro c7 h
  cases h
  rfl
set_option maxRecDepth 100000 in
set_option maxHeartbeats 4000000 in
theorem u_Step_scan (m : h_M) (v1 : Int) (v2 : Nat) (c0 : h_C) (r : (Int × h_C)) (h : G_Step_scan v1 v2 c0 = some r) : F_Step_scan 1112 v1 (h_A 0 v2) (h_H c0 m) = some (r.1, (h_H r.2 m)) := by
  unfold G_Step_scan at h
  unfold F_Step_scan
  refine gdT (isD c0 m d800) ?_
  obtain ⟨g1, h⟩ := p_gdE h
  try rw [rm5003 c0 m g1]
  have hv2 : vW (c0 5003 0 0).toNat := by omega
  refine gdT (isD c0 m (d300 hv2)) ?_
  obtain ⟨r5, q3, h⟩ := q_bvE h
  refine bdC (u_State_inLastSlot m (c0 5003 0 0).toNat v2 c0 _ q3) ?_
  refine iteC (h_A100z _) h (fun b7 h => ?_) (fun b7 h => ?_)
  · cases h
    rfl
  · obtain ⟨g8, h⟩ := p_gdE h
    refine gdT (isD c0 m (d100 g8)) ?_
    try rw [zf108 c0 m g8]
    refine iteC Iff.rfl h (fun b9 h => ?_) (fun b9 h => ?_)
    · cases h
      rfl
    · try rw [zf107 c0 m g8]
      refine iteC Iff.rfl h (fun b10 h => ?_) (fun b10 h => ?_)
      · refine bS (wf107 c0 m g8 _) h ?_
        intro c11 h
        refine bS (wf104 c11 m g8 _) h ?_
        intro c13 h
        try rw [rs1112_0 c13 m]
        refine gdT (isD c13 m d900) ?_
        obtain ⟨r17, c18, q15, h⟩ := q_bdE h
        refine bdC (u_Reading_read m r5 c13 _ q15) ?_
        refine iteC Iff.rfl h (fun b20 h => ?_) (fun b20 h => ?_)
        · try rw [rs1112_0 c18 m]
          refine gdT (isD c18 m d900) ?_
          try rw [zf900 c18 m]
          refine iteC Iff.rfl h (fun b21 h => ?_) (fun b21 h => ?_)
          · cases h
            rfl
          · obtain ⟨g22, h⟩ := p_gdE h
            refine gdT (isD c18 m (d0 g22)) ?_
            try rw [zf0 c18 m g22]
            refine iteC Iff.rfl h (fun b23 h => ?_) (fun b23 h => ?_)
            · exact uB_Step_scan_101 m v1 r5 c18 _ h
            · try rw [rs1112_0 c18 m]
              try rw [zf902 c18 m]
              try rw [zf102 c18 m g8]
              refine iteC Iff.rfl h (fun b24 h => ?_) (fun b24 h => ?_)
              · cases h
                rfl
              · exact uB_Step_scan_101 m v1 r5 c18 _ h
        · try rw [zf101 c18 m g8]
          obtain ⟨c27, q25, h⟩ := q_bvE h
          refine bvC (u_Step_addFinding m v1 2 r17 (c18 101 r5 0) c18 _ q25) ?_
          cases h
          rfl
      · cases h
        rfl
def GL_Step_setDial_23 (k23 : Int → Nat → Int → Int → Int → h_C → Option h_C) (v1 : Int) (v2 : Nat) (v3 : Int) (v4 : Int) (v5 : Int) (c0 : h_C) : Option h_C :=
  if v4 ≤ v5 then
    p_gd (vG v2) <|
    p_bi (wc c0 16 v2 0 v3) fun c3 =>
    some c3
  else
    p_gd (0 ≤ c0 5002 0 0 ∧ c0 5002 0 0 < 3) <|
    q_bv (G_Works_follow (c0 5002 0 0).toNat v2 v5 c0) fun r9 =>
    if 0 ≤ r9 then
      p_gd (0 ≤ c0 5003 0 0 ∧ c0 5003 0 0 < 3) <|
      p_gd ((0 : Int) ≤ r9 ∧ r9 < (40 : Int)) <|
      q_bv (G_Gear_parcels (40 * (c0 5003 0 0).toNat + (r9 : Int).toNat + 1) c0) fun r18 =>
      p_bi ((p_w (v3 + r18))) fun x21 =>
      p_bi (p_w (v5 + 1)) fun x22 =>
      k23 v1 v2 x21 v4 x22 c0
    else
      q_bv (G_Step_addFinding v1 4 r9 v5 c0) fun c26 =>
      some c26
def GO_Step_setDial_23  : Nat → Int → Nat → Int → Int → Int → h_C → Option h_C
  | 0 => fun _ _ _ _ _ _ => none
  | n + 1 => GL_Step_setDial_23 (GO_Step_setDial_23 n)
def GB_Step_setDial_18  (v1 : Int) (v2 : Nat) (v3 : Int) (w0 : Int) (c0 : h_C) : Option h_C :=
  GO_Step_setDial_23 3000 v1 v2 v3 w0 0 c0
def G_Step_setDial (v1 : Int) (v2 : Nat) (c0 : h_C) : Option h_C :=
  p_gd (vG v2) <|
  if (c0 3 v2 0) ≠ (-1) then
    GB_Step_setDial_18 v1 v2 0 (c0 3 v2 0) c0
  else
    GB_Step_setDial_18 v1 v2 0 1 c0
set_option maxRecDepth 100000 in
set_option maxHeartbeats 4000000 in
theorem uL_Step_setDial_23 (m : h_M) (j23 : Nat → Int → Nat → Int → Int → Int → p_Hp → Option p_Hp) (k23 : Int → Nat → Int → Int → Int → h_C → Option h_C) (hk23 : ∀ (v1 : Int) (v2 : Nat) (v3 : Int) (v4 : Int) (v5 : Int) (c0 : h_C) (r : h_C), k23 v1 v2 v3 v4 v5 c0 = some r → j23 1112 v1 (h_A 0 v2) v3 v4 v5 (h_H c0 m) = some (h_H r m)) (v1 : Int) (v2 : Nat) (v3 : Int) (v4 : Int) (v5 : Int) (c0 : h_C) (r : h_C) (h : GL_Step_setDial_23 k23 v1 v2 v3 v4 v5 c0 = some r) : L_Step_setDial_23 j23 1112 v1 (h_A 0 v2) v3 v4 v5 (h_H c0 m) = some (h_H r m) := by
  unfold GL_Step_setDial_23 at h
  unfold L_Step_setDial_23
  refine iteC Iff.rfl h (fun b1 h => ?_) (fun b1 h => ?_)
  · obtain ⟨g2, h⟩ := p_gdE h
    refine gdT (isD c0 m (d0 g2)) ?_
    refine bS (wf16 c0 m g2 _) h ?_
    intro c3 h
    cases h
    rfl
  · refine gdT (isD c0 m d800) ?_
    obtain ⟨g5, h⟩ := p_gdE h
    try rw [rm5002 c0 m g5]
    have hv6 : vW (c0 5002 0 0).toNat := by omega
    refine gdT (isD c0 m (d200 hv6)) ?_
    obtain ⟨r9, q7, h⟩ := q_bvE h
    refine bdC (u_Works_follow m (c0 5002 0 0).toNat v2 v5 c0 _ q7) ?_
    refine iteC Iff.rfl h (fun b11 h => ?_) (fun b11 h => ?_)
    · obtain ⟨g12, h⟩ := p_gdE h
      try rw [rm5003 c0 m g12]
      have hv13 : vW (c0 5003 0 0).toNat := by omega
      refine gdT (isD c0 m (d300 hv13)) ?_
      try rw [rD c0 m (rr300_4 hv13)]
      refine gdT (isD c0 m (d2001 hv13)) ?_
      obtain ⟨g14, h⟩ := p_gdE h
      refine gdT ⟨g14.1, by (try rw [lenD c0 m (d2001 hv13)]); exact g14.2⟩ ?_
      try rw [rD c0 m (el2001 (k := (r9 : Int).toNat) hv13 (Nat.zero_le _) (by omega))]
      have hv15 : vG (40 * (c0 5003 0 0).toNat + (r9 : Int).toNat + 1) := ⟨by omega, by have := hv13; omega⟩
      refine gdT (isD c0 m (d0 hv15)) ?_
      obtain ⟨r18, q16, h⟩ := q_bvE h
      refine bdC (u_Gear_parcels m (40 * (c0 5003 0 0).toNat + (r9 : Int).toNat + 1) c0 _ q16) ?_
      refine bV h ?_
      intro x21 h
      refine bV h ?_
      intro x22 h
      exact hk23 v1 v2 x21 v4 x22 c0 _ h
    · obtain ⟨c26, q24, h⟩ := q_bvE h
      refine bvC (u_Step_addFinding m v1 4 r9 v5 c0 _ q24) ?_
      cases h
      rfl
set_option maxRecDepth 100000 in
set_option maxHeartbeats 4000000 in
theorem uO_Step_setDial_23 (m : h_M)  : ∀ (n : Nat) (v1 : Int) (v2 : Nat) (v3 : Int) (v4 : Int) (v5 : Int) (c0 : h_C) (r : h_C), GO_Step_setDial_23 n v1 v2 v3 v4 v5 c0 = some r → O_Step_setDial_23 n 1112 v1 (h_A 0 v2) v3 v4 v5 (h_H c0 m) = some (h_H r m) := by
  intro n
  induction n with
  | zero => intro v1 v2 v3 v4 v5 c0 r h; cases h
  | succ n ih => intro v1 v2 v3 v4 v5 c0 r h; exact uL_Step_setDial_23 m (O_Step_setDial_23 n) (GO_Step_setDial_23 n) ih v1 v2 v3 v4 v5 c0 r h
set_option maxRecDepth 100000 in
set_option maxHeartbeats 4000000 in
theorem uB_Step_setDial_18 (m : h_M)  (v1 : Int) (v2 : Nat) (v3 : Int) (w0 : Int) (c0 : h_C) (r : h_C) (h : GB_Step_setDial_18 v1 v2 v3 w0 c0 = some r) : B_Step_setDial_18 1112 v1 (h_A 0 v2) v3 w0 (h_H c0 m) = some (h_H r m) := by
  unfold GB_Step_setDial_18 at h
  unfold B_Step_setDial_18
  exact uO_Step_setDial_23 m 3000 v1 v2 v3 w0 0 c0 _ h
set_option maxRecDepth 100000 in
set_option maxHeartbeats 4000000 in
theorem u_Step_setDial (m : h_M) (v1 : Int) (v2 : Nat) (c0 : h_C) (r : h_C) (h : G_Step_setDial v1 v2 c0 = some r) : F_Step_setDial 1112 v1 (h_A 0 v2) (h_H c0 m) = some (h_H r m) := by
  unfold G_Step_setDial at h
  unfold F_Step_setDial
  obtain ⟨g1, h⟩ := p_gdE h
  refine gdT (isD c0 m (d0 g1)) ?_
  try rw [zf3 c0 m g1]
  refine iteC Iff.rfl h (fun b2 h => ?_) (fun b2 h => ?_)
  · try rw [zf3 c0 m g1]
    exact uB_Step_setDial_18 m v1 v2 0 (c0 3 v2 0) c0 _ h
  · exact uB_Step_setDial_18 m v1 v2 0 1 c0 _ h
def GB_Step_act_51 (k22 : Int → Nat → Int → h_C → Option h_C) (v1 : Int) (v2 : Nat) (v3 : Int) (c0 : h_C) : Option h_C :=
  p_bi (p_w (v3 + 1)) fun x1 =>
  k22 v1 v2 x1 c0
def GB_Step_act_116  (v2 : Nat) (c0 : h_C) : Option h_C :=
  p_gd (vG v2) <|
  p_bi (wc c0 13 v2 0 (p_w ((c0 13 v2 0) + 1))) fun c2 =>
  q_bv (G_Step_lampOf v2 c2) fun r6 =>
  p_bi (wc c2 9 v2 0 r6) fun c8 =>
  some c8
def GB_Step_act_85  (v1 : Int) (v2 : Nat) (w0 : Int) (c0 : h_C) : Option h_C :=
  q_bv (G_Step_passOn v1 v2 w0 c0) fun c3 =>
  q_bv (G_Step_moveUp v2 c3) fun c6 =>
  GB_Step_act_116 v2 c6
def GB_Step_act_80  (v1 : Int) (v2 : Nat) (c0 : h_C) : Option h_C :=
  GB_Step_act_85 v1 v2 1 c0
def GL_Step_act_22 (k22 : Int → Nat → Int → h_C → Option h_C) (v1 : Int) (v2 : Nat) (v3 : Int) (c0 : h_C) : Option h_C :=
  p_gd (vG v2) <|
  if (p_w (3 * (p_w ((c0 0 v2 0) + 1)))) ≤ v3 then
    q_bv (G_Gear_isTaker v2 c0) fun r5 =>
    if r5 = 0 then
      if (c0 0 v2 0) ≠ 10 then
        GB_Step_act_116 v2 c0
      else
        q_bv (G_Step_setDial v1 v2 c0) fun c11 =>
        GB_Step_act_116 v2 c11
    else
      q_bv (G_Gear_isScanner v2 c0) fun r14 =>
      if r14 = 0 then
        GB_Step_act_80 v1 v2 c0
      else
        q_bd (G_Step_scan v1 v2 c0) fun r19 c20 =>
        if r19 = 0 then
          GB_Step_act_85 v1 v2 0 c20
        else
          GB_Step_act_80 v1 v2 c20
  else
    p_gd ((0 : Int) ≤ v3 ∧ v3 < (sw_tl 3 : Int)) <|
    if (sw_tab 3 (v3 : Int).toNat) = 0 then
      GB_Step_act_51 k22 v1 v2 v3 c0
    else
      q_bv (G_Step_addTrace (sw_tab 3 (v3 : Int).toNat) c0) fun c27 =>
      GB_Step_act_51 k22 v1 v2 v3 c27
def GO_Step_act_22  : Nat → Int → Nat → Int → h_C → Option h_C
  | 0 => fun _ _ _ _ => none
  | n + 1 => GL_Step_act_22 (GO_Step_act_22 n)
def G_Step_act (v1 : Int) (c0 : h_C) : Option h_C :=
  p_gd (0 ≤ c0 5003 0 0 ∧ c0 5003 0 0 < 3) <|
  p_gd ((0 : Int) ≤ v1 ∧ v1 < (40 : Int)) <|
  p_bi (wc c0 804 0 0 0) fun c6 =>
  p_bi ((p_w (3 * (c6 0 (40 * (c0 5003 0 0).toNat + (v1 : Int).toNat + 1) 0)))) fun x9 =>
  GO_Step_act_22 3000 v1 (40 * (c0 5003 0 0).toNat + (v1 : Int).toNat + 1) x9 c6
set_option maxRecDepth 100000 in
set_option maxHeartbeats 4000000 in
theorem uB_Step_act_51 (m : h_M) (j22 : Nat → Int → Nat → Int → p_Hp → Option p_Hp) (k22 : Int → Nat → Int → h_C → Option h_C) (hk22 : ∀ (v1 : Int) (v2 : Nat) (v3 : Int) (c0 : h_C) (r : h_C), k22 v1 v2 v3 c0 = some r → j22 1112 v1 (h_A 0 v2) v3 (h_H c0 m) = some (h_H r m)) (v1 : Int) (v2 : Nat) (v3 : Int) (c0 : h_C) (r : h_C) (h : GB_Step_act_51 k22 v1 v2 v3 c0 = some r) : B_Step_act_51 j22 1112 v1 (h_A 0 v2) v3 (h_H c0 m) = some (h_H r m) := by
  unfold GB_Step_act_51 at h
  unfold B_Step_act_51
  refine bV h ?_
  intro x1 h
  exact hk22 v1 v2 x1 c0 _ h
set_option maxRecDepth 100000 in
set_option maxHeartbeats 4000000 in
theorem uB_Step_act_116 (m : h_M)  (v2 : Nat) (c0 : h_C) (r : h_C) (h : GB_Step_act_116 v2 c0 = some r) : B_Step_act_116 1112 (h_A 0 v2) (h_H c0 m) = some (h_H r m) := by
  unfold GB_Step_act_116 at h
  unfold B_Step_act_116
  obtain ⟨g1, h⟩ := p_gdE h
  refine gdT (isD c0 m (d0 g1)) ?_
  try rw [zf13 c0 m g1]
  refine bS (wf13 c0 m g1 _) h ?_
  intro c2 h
  refine gdT (isD c2 m d800) ?_
  obtain ⟨r6, q4, h⟩ := q_bvE h
  refine bdC (u_Step_lampOf m v2 c2 _ q4) ?_
  refine bS (wf9 c2 m g1 _) h ?_
  intro c8 h
  cases h
  rfl
set_option maxRecDepth 100000 in
set_option maxHeartbeats 4000000 in
theorem uB_Step_act_85 (m : h_M)  (v1 : Int) (v2 : Nat) (w0 : Int) (c0 : h_C) (r : h_C) (h : GB_Step_act_85 v1 v2 w0 c0 = some r) : B_Step_act_85 1112 v1 (h_A 0 v2) w0 (h_H c0 m) = some (h_H r m) := by
  unfold GB_Step_act_85 at h
  unfold B_Step_act_85
  refine gdT (isD c0 m d800) ?_
  obtain ⟨c3, q1, h⟩ := q_bvE h
  refine bvC (u_Step_passOn m v1 v2 w0 c0 _ q1) ?_
  obtain ⟨c6, q4, h⟩ := q_bvE h
  refine bvC (u_Step_moveUp m v2 c3 _ q4) ?_
  exact uB_Step_act_116 m v2 c6 _ h
set_option maxRecDepth 100000 in
set_option maxHeartbeats 4000000 in
theorem uB_Step_act_80 (m : h_M)  (v1 : Int) (v2 : Nat) (c0 : h_C) (r : h_C) (h : GB_Step_act_80 v1 v2 c0 = some r) : B_Step_act_80 1112 v1 (h_A 0 v2) (h_H c0 m) = some (h_H r m) := by
  unfold GB_Step_act_80 at h
  unfold B_Step_act_80
  exact uB_Step_act_85 m v1 v2 1 c0 _ h
set_option maxRecDepth 100000 in
set_option maxHeartbeats 4000000 in
theorem uL_Step_act_22 (m : h_M) (j22 : Nat → Int → Nat → Int → p_Hp → Option p_Hp) (k22 : Int → Nat → Int → h_C → Option h_C) (hk22 : ∀ (v1 : Int) (v2 : Nat) (v3 : Int) (c0 : h_C) (r : h_C), k22 v1 v2 v3 c0 = some r → j22 1112 v1 (h_A 0 v2) v3 (h_H c0 m) = some (h_H r m)) (v1 : Int) (v2 : Nat) (v3 : Int) (c0 : h_C) (r : h_C) (h : GL_Step_act_22 k22 v1 v2 v3 c0 = some r) : L_Step_act_22 j22 1112 v1 (h_A 0 v2) v3 (h_H c0 m) = some (h_H r m) := by
  unfold GL_Step_act_22 at h
  unfold L_Step_act_22
  obtain ⟨g1, h⟩ := p_gdE h
  refine gdT (isD c0 m (d0 g1)) ?_
  try rw [zf0 c0 m g1]
  refine iteC Iff.rfl h (fun b2 h => ?_) (fun b2 h => ?_)
  · obtain ⟨r5, q3, h⟩ := q_bvE h
    refine bdC (u_Gear_isTaker m v2 c0 _ q3) ?_
    refine iteC Iff.rfl h (fun b7 h => ?_) (fun b7 h => ?_)
    · try rw [zf0 c0 m g1]
      refine iteC Iff.rfl h (fun b8 h => ?_) (fun b8 h => ?_)
      · exact uB_Step_act_116 m v2 c0 _ h
      · refine gdT (isD c0 m d800) ?_
        obtain ⟨c11, q9, h⟩ := q_bvE h
        refine bvC (u_Step_setDial m v1 v2 c0 _ q9) ?_
        exact uB_Step_act_116 m v2 c11 _ h
    · obtain ⟨r14, q12, h⟩ := q_bvE h
      refine bdC (u_Gear_isScanner m v2 c0 _ q12) ?_
      refine iteC Iff.rfl h (fun b16 h => ?_) (fun b16 h => ?_)
      · exact uB_Step_act_80 m v1 v2 c0 _ h
      · refine gdT (isD c0 m d800) ?_
        obtain ⟨r19, c20, q17, h⟩ := q_bdE h
        refine bdC (u_Step_scan m v1 v2 c0 _ q17) ?_
        refine iteC Iff.rfl h (fun b22 h => ?_) (fun b22 h => ?_)
        · exact uB_Step_act_85 m v1 v2 0 c20 _ h
        · exact uB_Step_act_80 m v1 v2 c20 _ h
  · obtain ⟨g23, h⟩ := p_gdE h
    refine gdT g23 ?_
    refine iteC Iff.rfl h (fun b24 h => ?_) (fun b24 h => ?_)
    · exact uB_Step_act_51 m j22 k22 hk22 v1 v2 v3 c0 _ h
    · refine gdT g23 ?_
      refine gdT (isD c0 m d800) ?_
      obtain ⟨c27, q25, h⟩ := q_bvE h
      refine bvC (u_Step_addTrace m (sw_tab 3 (v3 : Int).toNat) c0 _ q25) ?_
      exact uB_Step_act_51 m j22 k22 hk22 v1 v2 v3 c27 _ h
set_option maxRecDepth 100000 in
set_option maxHeartbeats 4000000 in
theorem uO_Step_act_22 (m : h_M)  : ∀ (n : Nat) (v1 : Int) (v2 : Nat) (v3 : Int) (c0 : h_C) (r : h_C), GO_Step_act_22 n v1 v2 v3 c0 = some r → O_Step_act_22 n 1112 v1 (h_A 0 v2) v3 (h_H c0 m) = some (h_H r m) := by
  intro n
  induction n with
  | zero => intro v1 v2 v3 c0 r h; cases h
  | succ n ih => intro v1 v2 v3 c0 r h; exact uL_Step_act_22 m (O_Step_act_22 n) (GO_Step_act_22 n) ih v1 v2 v3 c0 r h
set_option maxRecDepth 100000 in
set_option maxHeartbeats 4000000 in
theorem u_Step_act (m : h_M) (v1 : Int) (c0 : h_C) (r : h_C) (h : G_Step_act v1 c0 = some r) : F_Step_act 1112 v1 (h_H c0 m) = some (h_H r m) := by
  unfold G_Step_act at h
  unfold F_Step_act
  refine gdT (isD c0 m d800) ?_
  obtain ⟨g1, h⟩ := p_gdE h
  try rw [rm5003 c0 m g1]
  have hv2 : vW (c0 5003 0 0).toNat := by omega
  refine gdT (isD c0 m (d300 hv2)) ?_
  try rw [rD c0 m (rr300_4 hv2)]
  refine gdT (isD c0 m (d2001 hv2)) ?_
  obtain ⟨g3, h⟩ := p_gdE h
  refine gdT ⟨g3.1, by (try rw [lenD c0 m (d2001 hv2)]); exact g3.2⟩ ?_
  try rw [rD c0 m (el2001 (k := (v1 : Int).toNat) hv2 (Nat.zero_le _) (by omega))]
  have hv4 : vG (40 * (c0 5003 0 0).toNat + (v1 : Int).toNat + 1) := ⟨by omega, by have := hv2; omega⟩
  refine bX ?_
  refine bS (wf804 c0 m _) h ?_
  intro c6 h
  refine gdT (isD c6 m (d0 hv4)) ?_
  try rw [zf0 c6 m hv4]
  refine bV h ?_
  intro x9 h
  exact uO_Step_act_22 m 3000 v1 (40 * (c0 5003 0 0).toNat + (v1 : Int).toNat + 1) x9 c6 _ h
def G_Step_isForPlan (v0 : Nat) (v1 : Int) (c0 : h_C) : Option Int :=
  if v1 ≠ 0 then
    if v1 ≠ 1 then
      p_gd (vG v0) <|
      if (c0 0 v0 0) ≠ 8 then
        some 0
      else
        some 1
    else
      p_gd (vG v0) <|
      q_bv (G_Gear_isDivert v0 c0) fun r8 =>
      p_gd (r8 = 0 ∨ r8 = 1) <|
      some r8
  else
    p_gd (vG v0) <|
    if (c0 0 v0 0) ≠ 9 then
      some 0
    else
      some 1
set_option maxRecDepth 100000 in
set_option maxHeartbeats 4000000 in
theorem u_Step_isForPlan (m : h_M) (v0 : Nat) (v1 : Int) (c0 : h_C) (r : Int) (h : G_Step_isForPlan v0 v1 c0 = some r) : F_Step_isForPlan (h_A 0 v0) v1 (h_H c0 m) = some (r, (h_H c0 m)) := by
  unfold G_Step_isForPlan at h
  unfold F_Step_isForPlan
  refine iteC Iff.rfl h (fun b1 h => ?_) (fun b1 h => ?_)
  · refine iteC Iff.rfl h (fun b2 h => ?_) (fun b2 h => ?_)
    · obtain ⟨g3, h⟩ := p_gdE h
      refine gdT (isD c0 m (d0 g3)) ?_
      try rw [zf0 c0 m g3]
      refine iteC Iff.rfl h (fun b4 h => ?_) (fun b4 h => ?_)
      · cases h
        rfl
      · cases h
        rfl
    · obtain ⟨g5, h⟩ := p_gdE h
      refine gdT (isD c0 m (d0 g5)) ?_
      obtain ⟨r8, q6, h⟩ := q_bvE h
      refine bdC (u_Gear_isDivert m v0 c0 _ q6) ?_
      obtain ⟨g10, h⟩ := p_gdE h
      refine gdT g10 ?_
      cases h
      rfl
  · obtain ⟨g11, h⟩ := p_gdE h
    refine gdT (isD c0 m (d0 g11)) ?_
    try rw [zf0 c0 m g11]
    refine iteC Iff.rfl h (fun b12 h => ?_) (fun b12 h => ?_)
    · cases h
      rfl
    · cases h
      rfl
def G_Step_planByNumber (v0 : Nat) (v1 : Int) (v2 : Int) (c0 : h_C) : Option (Int × h_C) :=
  if v1 ≠ 0 then
    if v1 ≠ 1 then
      if v2 < 0 then
        some ((-13), c0)
      else
        if v2 ≤ 20 then
          p_gd (vG v0) <|
          p_bi (wc c0 14 v0 0 v2) fun c6 =>
          some (0, c6)
        else
          some ((-13), c0)
    else
      p_gd (vG v0) <|
      q_bv (G_Gear_parcels v0 c0) fun r11 =>
      if r11 ≤ 0 then
        q_bv (G_Gear_hasSide v0 v2 c0) fun r16 =>
        if r16 ≠ 0 then
          p_bi (wc c0 6 v0 0 v2) fun c19 =>
          some (0, c19)
        else
          some ((-13), c0)
      else
        some (0, c0)
  else
    if v2 = 0 then
      p_gd (vG v0) <|
      p_bi (wc c0 7 v0 0 0) fun c23 =>
      some (0, c23)
    else
      p_gd (vG v0) <|
      p_bi (wc c0 7 v0 0 1) fun c26 =>
      some (0, c26)
set_option maxRecDepth 100000 in
set_option maxHeartbeats 4000000 in
theorem u_Step_planByNumber (m : h_M) (v0 : Nat) (v1 : Int) (v2 : Int) (c0 : h_C) (r : (Int × h_C)) (h : G_Step_planByNumber v0 v1 v2 c0 = some r) : F_Step_planByNumber (h_A 0 v0) v1 v2 (h_H c0 m) = some (r.1, (h_H r.2 m)) := by
  unfold G_Step_planByNumber at h
  unfold F_Step_planByNumber
  refine iteC Iff.rfl h (fun b1 h => ?_) (fun b1 h => ?_)
  · refine iteC Iff.rfl h (fun b2 h => ?_) (fun b2 h => ?_)
    · refine iteC Iff.rfl h (fun b3 h => ?_) (fun b3 h => ?_)
      · cases h
        rfl
      · refine iteC Iff.rfl h (fun b4 h => ?_) (fun b4 h => ?_)
        · obtain ⟨g5, h⟩ := p_gdE h
          refine gdT (isD c0 m (d0 g5)) ?_
          refine bS (wf14 c0 m g5 _) h ?_
          intro c6 h
          cases h
          rfl
        · cases h
          rfl
    · obtain ⟨g8, h⟩ := p_gdE h
      refine gdT (isD c0 m (d0 g8)) ?_
      obtain ⟨r11, q9, h⟩ := q_bvE h
      refine bdC (u_Gear_parcels m v0 c0 _ q9) ?_
      refine iteC Iff.rfl h (fun b13 h => ?_) (fun b13 h => ?_)
      · obtain ⟨r16, q14, h⟩ := q_bvE h
        refine bdC (u_Gear_hasSide m v0 v2 c0 _ q14) ?_
        refine iteC Iff.rfl h (fun b18 h => ?_) (fun b18 h => ?_)
        · refine bS (wf6 c0 m g8 _) h ?_
          intro c19 h
          cases h
          rfl
        · cases h
          rfl
      · cases h
        rfl
  · refine iteC Iff.rfl h (fun b21 h => ?_) (fun b21 h => ?_)
    · obtain ⟨g22, h⟩ := p_gdE h
      refine gdT (isD c0 m (d0 g22)) ?_
      refine bS (wf7 c0 m g22 _) h ?_
      intro c23 h
      cases h
      rfl
    · obtain ⟨g25, h⟩ := p_gdE h
      refine gdT (isD c0 m (d0 g25)) ?_
      refine bS (wf7 c0 m g25 _) h ?_
      intro c26 h
      cases h
      rfl
def G_Step_planFault (v1 : Nat) (v2 : Int) (c0 : h_C) : Option (Int × h_C) :=
  if v2 < 2 then
    some ((-13), c0)
  else
    p_gd (vQ v1) <|
    p_gd ((0 : Int) ≤ 1 ∧ 1 < (4 : Int)) <|
    if (c0 2031 v1 (1 : Int).toNat) < 0 then
      some ((-13), c0)
    else
      if (c0 2031 v1 (1 : Int).toNat) ≤ 2 then
        if v2 < 3 then
          some ((-13), c0)
        else
          p_gd ((0 : Int) ≤ 2 ∧ 2 < (4 : Int)) <|
          if (c0 2031 v1 (2 : Int).toNat) < 0 then
            some ((-13), c0)
          else
            if (c0 2031 v1 (2 : Int).toNat) < 40 then
              p_gd (0 ≤ c0 5002 0 0 ∧ c0 5002 0 0 < 3) <|
              q_bv (G_Works_gearOf (c0 5002 0 0).toNat (c0 2031 v1 (2 : Int).toNat) c0) fun r14 =>
              if r14 ≠ 0 then
                q_bv (G_Step_isForPlan r14 (c0 2031 v1 (1 : Int).toNat) c0) fun r19 =>
                if r19 ≠ 0 then
                  if 4 ≤ v2 then
                    p_gd ((0 : Int) ≤ 3 ∧ 3 < (4 : Int)) <|
                    q_bd (G_Step_planByNumber r14 (c0 2031 v1 (1 : Int).toNat) (c0 2031 v1 (3 : Int).toNat) c0) fun r26 c27 =>
                    some (r26, c27)
                  else
                    some ((-13), c0)
                else
                  some ((-12), c0)
              else
                some ((-11), c0)
            else
              some ((-13), c0)
      else
        some ((-13), c0)
set_option maxRecDepth 100000 in
set_option maxHeartbeats 4000000 in
theorem u_Step_planFault (m : h_M) (v1 : Nat) (v2 : Int) (c0 : h_C) (r : (Int × h_C)) (h : G_Step_planFault v1 v2 c0 = some r) : F_Step_planFault 1112 (h_A 2031 v1) v2 (h_H c0 m) = some (r.1, (h_H r.2 m)) := by
  unfold G_Step_planFault at h
  unfold F_Step_planFault
  refine iteC Iff.rfl h (fun b1 h => ?_) (fun b1 h => ?_)
  · cases h
    rfl
  · obtain ⟨g2, h⟩ := p_gdE h
    refine gdT (isD c0 m (d2031 g2)) ?_
    obtain ⟨g3, h⟩ := p_gdE h
    refine gdT ⟨g3.1, by (try rw [lenD c0 m (d2031 g2)]); exact g3.2⟩ ?_
    try rw [zA c0 m (d2031 g2) (by decide) (1 : Int).toNat]
    refine iteC Iff.rfl h (fun b4 h => ?_) (fun b4 h => ?_)
    · cases h
      rfl
    · refine gdT ⟨g3.1, by (try rw [lenD c0 m (d2031 g2)]); exact g3.2⟩ ?_
      try rw [zA c0 m (d2031 g2) (by decide) (1 : Int).toNat]
      refine iteC Iff.rfl h (fun b5 h => ?_) (fun b5 h => ?_)
      · refine iteC Iff.rfl h (fun b6 h => ?_) (fun b6 h => ?_)
        · cases h
          rfl
        · obtain ⟨g7, h⟩ := p_gdE h
          refine gdT ⟨g7.1, by (try rw [lenD c0 m (d2031 g2)]); exact g7.2⟩ ?_
          try rw [zA c0 m (d2031 g2) (by decide) (2 : Int).toNat]
          refine iteC Iff.rfl h (fun b8 h => ?_) (fun b8 h => ?_)
          · cases h
            rfl
          · refine gdT ⟨g7.1, by (try rw [lenD c0 m (d2031 g2)]); exact g7.2⟩ ?_
            try rw [zA c0 m (d2031 g2) (by decide) (2 : Int).toNat]
            refine iteC Iff.rfl h (fun b9 h => ?_) (fun b9 h => ?_)
            · refine gdT (isD c0 m d800) ?_
              obtain ⟨g10, h⟩ := p_gdE h
              try rw [rm5002 c0 m g10]
              have hv11 : vW (c0 5002 0 0).toNat := by omega
              refine gdT ⟨g7.1, by (try rw [lenD c0 m (d2031 g2)]); exact g7.2⟩ ?_
              try rw [zA c0 m (d2031 g2) (by decide) (2 : Int).toNat]
              refine gdT (isD c0 m (d200 hv11)) ?_
              obtain ⟨r14, q12, h⟩ := q_bvE h
              refine bdC (u_Works_gearOf m (c0 5002 0 0).toNat (c0 2031 v1 (2 : Int).toNat) c0 _ q12) ?_
              refine iteC (ne_iff (h_A0z _)) h (fun b16 h => ?_) (fun b16 h => ?_)
              · refine gdT ⟨g3.1, by (try rw [lenD c0 m (d2031 g2)]); exact g3.2⟩ ?_
                try rw [zA c0 m (d2031 g2) (by decide) (1 : Int).toNat]
                obtain ⟨r19, q17, h⟩ := q_bvE h
                refine bdC (u_Step_isForPlan m r14 (c0 2031 v1 (1 : Int).toNat) c0 _ q17) ?_
                refine iteC Iff.rfl h (fun b21 h => ?_) (fun b21 h => ?_)
                · refine iteC Iff.rfl h (fun b22 h => ?_) (fun b22 h => ?_)
                  · refine gdT ⟨g3.1, by (try rw [lenD c0 m (d2031 g2)]); exact g3.2⟩ ?_
                    try rw [zA c0 m (d2031 g2) (by decide) (1 : Int).toNat]
                    obtain ⟨g23, h⟩ := p_gdE h
                    refine gdT ⟨g23.1, by (try rw [lenD c0 m (d2031 g2)]); exact g23.2⟩ ?_
                    try rw [zA c0 m (d2031 g2) (by decide) (3 : Int).toNat]
                    obtain ⟨r26, c27, q24, h⟩ := q_bdE h
                    refine bdC (u_Step_planByNumber m r14 (c0 2031 v1 (1 : Int).toNat) (c0 2031 v1 (3 : Int).toNat) c0 _ q24) ?_
                    cases h
                    rfl
                  · cases h
                    rfl
                · cases h
                  rfl
              · cases h
                rfl
            · cases h
              rfl
      · cases h
        rfl
def G_Step_doPlan (v1 : Int) (c0 : h_C) : Option h_C :=
  p_gd (0 ≤ c0 5002 0 0 ∧ c0 5002 0 0 < 3) <|
  p_gd ((0 : Int) ≤ v1 ∧ v1 < (16 : Int)) <|
  p_gd ((0 : Int) ≤ 0 ∧ 0 < (4 : Int)) <|
  p_gd (0 ≤ c0 5003 0 0 ∧ c0 5003 0 0 < 3) <|
  if (c0 2031 (16 * (c0 5002 0 0).toNat + (v1 : Int).toNat) (0 : Int).toNat) = (c0 300 (c0 5003 0 0).toNat 0) then
    q_bd (G_Step_planFault (16 * (c0 5002 0 0).toNat + (v1 : Int).toNat) (c0 2032 (c0 5002 0 0).toNat (v1 : Int).toNat) c0) fun r12 c13 =>
    if r12 = 0 then
      some c13
    else
      q_bv (G_Step_addFinding (-9) 5 r12 v1 c13) fun c18 =>
      some c18
  else
    some c0
set_option maxRecDepth 100000 in
set_option maxHeartbeats 4000000 in
theorem u_Step_doPlan (m : h_M) (v1 : Int) (c0 : h_C) (r : h_C) (h : G_Step_doPlan v1 c0 = some r) : F_Step_doPlan 1112 v1 (h_H c0 m) = some (h_H r m) := by
  unfold G_Step_doPlan at h
  unfold F_Step_doPlan
  refine gdT (isD c0 m d800) ?_
  obtain ⟨g1, h⟩ := p_gdE h
  try rw [rm5002 c0 m g1]
  have hv2 : vW (c0 5002 0 0).toNat := by omega
  refine gdT (isD c0 m (d200 hv2)) ?_
  try rw [rD c0 m (rr200_4 hv2)]
  refine gdT (isD c0 m (d2030 hv2)) ?_
  obtain ⟨g3, h⟩ := p_gdE h
  refine gdT ⟨g3.1, by (try rw [lenD c0 m (d2030 hv2)]); exact g3.2⟩ ?_
  try rw [rD c0 m (el2030 (k := (v1 : Int).toNat) hv2 (Nat.zero_le _) (by omega))]
  have hv4 : vQ (16 * (c0 5002 0 0).toNat + (v1 : Int).toNat) := by have := hv2; omega
  refine bX ?_
  refine gdT (isD c0 m (d2031 hv4)) ?_
  obtain ⟨g6, h⟩ := p_gdE h
  refine gdT ⟨g6.1, by (try rw [lenD c0 m (d2031 hv4)]); exact g6.2⟩ ?_
  try rw [zA c0 m (d2031 hv4) (by decide) (0 : Int).toNat]
  obtain ⟨g7, h⟩ := p_gdE h
  try rw [rm5003 c0 m g7]
  have hv8 : vW (c0 5003 0 0).toNat := by omega
  refine gdT (isD c0 m (d300 hv8)) ?_
  try rw [zf300 c0 m hv8]
  refine iteC Iff.rfl h (fun b9 h => ?_) (fun b9 h => ?_)
  · try rw [rm5002 c0 m g1]
    try rw [rD c0 m (rr200_5 hv2)]
    refine gdT (isD c0 m (d2032 hv2)) ?_
    refine gdT ⟨g3.1, by (try rw [lenD c0 m (d2032 hv2)]); exact g3.2⟩ ?_
    try rw [zA c0 m (d2032 hv2) (by decide) (v1 : Int).toNat]
    obtain ⟨r12, c13, q10, h⟩ := q_bdE h
    refine bdC (u_Step_planFault m (16 * (c0 5002 0 0).toNat + (v1 : Int).toNat) (c0 2032 (c0 5002 0 0).toNat (v1 : Int).toNat) c0 _ q10) ?_
    refine iteC Iff.rfl h (fun b15 h => ?_) (fun b15 h => ?_)
    · cases h
      rfl
    · obtain ⟨c18, q16, h⟩ := q_bvE h
      refine bvC (u_Step_addFinding m (-9) 5 r12 v1 c13 _ q16) ?_
      cases h
      rfl
  · cases h
    rfl
def G_Step_isInStep (v1 : Nat) (c0 : h_C) : Option Int :=
  p_gd (0 ≤ c0 5003 0 0 ∧ c0 5003 0 0 < 3) <|
  p_gd (vG v1) <|
  p_gd ((0 : Int) ≤ (c0 0 v1 0) ∧ (c0 0 v1 0) < (sw_tl 2 : Int)) <|
  p_gd ((sw_tab 2 ((c0 0 v1 0) : Int).toNat) ≠ 0) <|
  if (p_rem (c0 300 (c0 5003 0 0).toNat 0) (sw_tab 2 ((c0 0 v1 0) : Int).toNat)) ≠ 0 then
    some 0
  else
    some 1
set_option maxRecDepth 100000 in
set_option maxHeartbeats 4000000 in
theorem u_Step_isInStep (m : h_M) (v1 : Nat) (c0 : h_C) (r : Int) (h : G_Step_isInStep v1 c0 = some r) : F_Step_isInStep 1112 (h_A 0 v1) (h_H c0 m) = some (r, (h_H c0 m)) := by
  unfold G_Step_isInStep at h
  unfold F_Step_isInStep
  refine gdT (isD c0 m d800) ?_
  obtain ⟨g1, h⟩ := p_gdE h
  try rw [rm5003 c0 m g1]
  have hv2 : vW (c0 5003 0 0).toNat := by omega
  refine gdT (isD c0 m (d300 hv2)) ?_
  try rw [zf300 c0 m hv2]
  obtain ⟨g3, h⟩ := p_gdE h
  refine gdT (isD c0 m (d0 g3)) ?_
  try rw [zf0 c0 m g3]
  obtain ⟨g4, h⟩ := p_gdE h
  refine gdT g4 ?_
  obtain ⟨g5, h⟩ := p_gdE h
  refine gdT g5 ?_
  refine iteC Iff.rfl h (fun b6 h => ?_) (fun b6 h => ?_)
  · cases h
    rfl
  · cases h
    rfl
def GB_Step_isBetter_71   (c0 : h_C) : Option Int :=
  some 1
def G_Step_isBetter (v1 : Int) (v2 : Nat) (c0 : h_C) : Option Int :=
  p_gd (vG v2) <|
  if (c0 19 v2 0) ≠ (-1) then
    p_gd (0 ≤ c0 5003 0 0 ∧ c0 5003 0 0 < 3) <|
    p_gd ((0 : Int) ≤ v1 ∧ v1 < (40 : Int)) <|
    p_bi ((c0 2 (40 * (c0 5003 0 0).toNat + (v1 : Int).toNat + 1) 0)) fun x8 =>
    p_gd ((0 : Int) ≤ (c0 19 v2 0) ∧ (c0 19 v2 0) < (40 : Int)) <|
    p_bi ((c0 2 (40 * (c0 5003 0 0).toNat + ((c0 19 v2 0) : Int).toNat + 1) 0)) fun x12 =>
    if x12 < x8 then
      GB_Step_isBetter_71 c0
    else
      if x8 ≠ x12 then
        some 0
      else
        if (c0 15 v2 0) < (c0 19 v2 0) then
          some 0
        else
          if v1 ≤ (c0 15 v2 0) then
            some 0
          else
            GB_Step_isBetter_71 c0
  else
    some 1
set_option maxRecDepth 100000 in
set_option maxHeartbeats 4000000 in
theorem uB_Step_isBetter_71 (m : h_M)   (c0 : h_C) (r : Int) (h : GB_Step_isBetter_71  c0 = some r) : B_Step_isBetter_71  (h_H c0 m) = some (r, (h_H c0 m)) := by
  unfold GB_Step_isBetter_71 at h
  unfold B_Step_isBetter_71
  cases h
  rfl
set_option maxRecDepth 100000 in
set_option maxHeartbeats 4000000 in
theorem u_Step_isBetter (m : h_M) (v1 : Int) (v2 : Nat) (c0 : h_C) (r : Int) (h : G_Step_isBetter v1 v2 c0 = some r) : F_Step_isBetter 1112 v1 (h_A 0 v2) (h_H c0 m) = some (r, (h_H c0 m)) := by
  unfold G_Step_isBetter at h
  unfold F_Step_isBetter
  obtain ⟨g1, h⟩ := p_gdE h
  refine gdT (isD c0 m (d0 g1)) ?_
  try rw [zf19 c0 m g1]
  refine iteC Iff.rfl h (fun b2 h => ?_) (fun b2 h => ?_)
  · refine gdT (isD c0 m d800) ?_
    obtain ⟨g3, h⟩ := p_gdE h
    try rw [rm5003 c0 m g3]
    have hv4 : vW (c0 5003 0 0).toNat := by omega
    refine gdT (isD c0 m (d300 hv4)) ?_
    try rw [rD c0 m (rr300_4 hv4)]
    refine gdT (isD c0 m (d2001 hv4)) ?_
    obtain ⟨g5, h⟩ := p_gdE h
    refine gdT ⟨g5.1, by (try rw [lenD c0 m (d2001 hv4)]); exact g5.2⟩ ?_
    try rw [rD c0 m (el2001 (k := (v1 : Int).toNat) hv4 (Nat.zero_le _) (by omega))]
    have hv6 : vG (40 * (c0 5003 0 0).toNat + (v1 : Int).toNat + 1) := ⟨by omega, by have := hv4; omega⟩
    refine gdT (isD c0 m (d0 hv6)) ?_
    try rw [zf2 c0 m hv6]
    refine bV h ?_
    intro x8 h
    try rw [rm5003 c0 m g3]
    try rw [rD c0 m (rr300_4 hv4)]
    try rw [zf19 c0 m g1]
    obtain ⟨g9, h⟩ := p_gdE h
    refine gdT ⟨g9.1, by (try rw [lenD c0 m (d2001 hv4)]); exact g9.2⟩ ?_
    try rw [rD c0 m (el2001 (k := ((c0 19 v2 0) : Int).toNat) hv4 (Nat.zero_le _) (by omega))]
    have hv10 : vG (40 * (c0 5003 0 0).toNat + ((c0 19 v2 0) : Int).toNat + 1) := ⟨by omega, by have := hv4; omega⟩
    refine gdT (isD c0 m (d0 hv10)) ?_
    try rw [zf2 c0 m hv10]
    refine bV h ?_
    intro x12 h
    refine iteC Iff.rfl h (fun b13 h => ?_) (fun b13 h => ?_)
    · exact uB_Step_isBetter_71 m c0 _ h
    · refine iteC Iff.rfl h (fun b14 h => ?_) (fun b14 h => ?_)
      · cases h
        rfl
      · try rw [zf19 c0 m g1]
        try rw [zf15 c0 m g1]
        refine iteC Iff.rfl h (fun b15 h => ?_) (fun b15 h => ?_)
        · cases h
          rfl
        · try rw [zf15 c0 m g1]
          refine iteC Iff.rfl h (fun b16 h => ?_) (fun b16 h => ?_)
          · cases h
            rfl
          · exact uB_Step_isBetter_71 m c0 _ h
  · cases h
    rfl
def G_Step_isReadyToGive (v1 : Nat) (c0 : h_C) : Option Int :=
  p_gd (vG v1) <|
  q_bv (G_Gear_isTaker v1 c0) fun r4 =>
  if r4 = 0 then
    some 0
  else
    if (c0 0 v1 0) = 7 then
      some 0
    else
      q_bv (G_Step_isInStep v1 c0) fun r10 =>
      if r10 = 0 then
        some 0
      else
        p_gd (0 ≤ c0 5003 0 0 ∧ c0 5003 0 0 < 3) <|
        q_bv (G_State_inLastSlot (c0 5003 0 0).toNat v1 c0) fun r17 =>
        if r17 = 0 then
          some 0
        else
          q_bv (G_Gear_isHeld v1 c0) fun r22 =>
          if r22 ≠ 0 then
            some 0
          else
            some 1
set_option maxRecDepth 100000 in
set_option maxHeartbeats 4000000 in
theorem u_Step_isReadyToGive (m : h_M) (v1 : Nat) (c0 : h_C) (r : Int) (h : G_Step_isReadyToGive v1 c0 = some r) : F_Step_isReadyToGive 1112 (h_A 0 v1) (h_H c0 m) = some (r, (h_H c0 m)) := by
  unfold G_Step_isReadyToGive at h
  unfold F_Step_isReadyToGive
  obtain ⟨g1, h⟩ := p_gdE h
  refine gdT (isD c0 m (d0 g1)) ?_
  obtain ⟨r4, q2, h⟩ := q_bvE h
  refine bdC (u_Gear_isTaker m v1 c0 _ q2) ?_
  refine iteC Iff.rfl h (fun b6 h => ?_) (fun b6 h => ?_)
  · cases h
    rfl
  · try rw [zf0 c0 m g1]
    refine iteC Iff.rfl h (fun b7 h => ?_) (fun b7 h => ?_)
    · cases h
      rfl
    · refine gdT (isD c0 m d800) ?_
      obtain ⟨r10, q8, h⟩ := q_bvE h
      refine bdC (u_Step_isInStep m v1 c0 _ q8) ?_
      refine iteC Iff.rfl h (fun b12 h => ?_) (fun b12 h => ?_)
      · cases h
        rfl
      · obtain ⟨g13, h⟩ := p_gdE h
        try rw [rm5003 c0 m g13]
        have hv14 : vW (c0 5003 0 0).toNat := by omega
        refine gdT (isD c0 m (d300 hv14)) ?_
        obtain ⟨r17, q15, h⟩ := q_bvE h
        refine bdC (u_State_inLastSlot m (c0 5003 0 0).toNat v1 c0 _ q15) ?_
        refine iteC (h_A100z _) h (fun b19 h => ?_) (fun b19 h => ?_)
        · cases h
          rfl
        · obtain ⟨r22, q20, h⟩ := q_bvE h
          refine bdC (u_Gear_isHeld m v1 c0 _ q20) ?_
          refine iteC Iff.rfl h (fun b24 h => ?_) (fun b24 h => ?_)
          · cases h
            rfl
          · cases h
            rfl
def GB_Step_letMergesChoose_144 (k34 : Int → h_C → Option h_C) (v1 : Int) (c0 : h_C) : Option h_C :=
  p_bi (p_w (v1 + 1)) fun x1 =>
  k34 x1 c0
def GB_Step_letMergesChoose_93 (k34 : Int → h_C → Option h_C) (v1 : Int) (w0 : Int) (c0 : h_C) : Option h_C :=
  if w0 < 0 then
    GB_Step_letMergesChoose_144 k34 v1 c0
  else
    p_gd (0 ≤ c0 5003 0 0 ∧ c0 5003 0 0 < 3) <|
    p_gd ((0 : Int) ≤ w0 ∧ w0 < (40 : Int)) <|
    if (c0 0 (40 * (c0 5003 0 0).toNat + (w0 : Int).toNat + 1) 0) ≠ 2 then
      GB_Step_letMergesChoose_144 k34 v1 c0
    else
      q_bv (G_Step_isBetter v1 (40 * (c0 5003 0 0).toNat + (w0 : Int).toNat + 1) c0) fun r9 =>
      if r9 = 0 then
        GB_Step_letMergesChoose_144 k34 v1 c0
      else
        p_bi (wc c0 19 (40 * (c0 5003 0 0).toNat + (w0 : Int).toNat + 1) 0 v1) fun c12 =>
        GB_Step_letMergesChoose_144 k34 v1 c12
def GL_Step_letMergesChoose_34 (k34 : Int → h_C → Option h_C) (v1 : Int) (c0 : h_C) : Option h_C :=
  p_gd (0 ≤ c0 5002 0 0 ∧ c0 5002 0 0 < 3) <|
  if (c0 202 (c0 5002 0 0).toNat 0) ≤ v1 then
    some c0
  else
    p_gd (0 ≤ c0 5003 0 0 ∧ c0 5003 0 0 < 3) <|
    p_gd ((0 : Int) ≤ v1 ∧ v1 < (40 : Int)) <|
    q_bv (G_Step_isReadyToGive (40 * (c0 5003 0 0).toNat + (v1 : Int).toNat + 1) c0) fun r10 =>
    if r10 = 0 then
      GB_Step_letMergesChoose_93 k34 v1 (-1) c0
    else
      q_bv (G_Gear_linkAhead (40 * (c0 5003 0 0).toNat + (v1 : Int).toNat + 1) c0) fun r15 =>
      q_bv (G_Works_follow (c0 5002 0 0).toNat (40 * (c0 5003 0 0).toNat + (v1 : Int).toNat + 1) r15 c0) fun r19 =>
      GB_Step_letMergesChoose_93 k34 v1 r19 c0
def GO_Step_letMergesChoose_34  : Nat → Int → h_C → Option h_C
  | 0 => fun _ _ => none
  | n + 1 => GL_Step_letMergesChoose_34 (GO_Step_letMergesChoose_34 n)
def GL_Step_letMergesChoose_2 (k2 : Int → h_C → Option h_C) (v1 : Int) (c0 : h_C) : Option h_C :=
  p_gd (0 ≤ c0 5002 0 0 ∧ c0 5002 0 0 < 3) <|
  if (c0 202 (c0 5002 0 0).toNat 0) ≤ v1 then
    GO_Step_letMergesChoose_34 3000 0 c0
  else
    p_gd (0 ≤ c0 5003 0 0 ∧ c0 5003 0 0 < 3) <|
    p_gd ((0 : Int) ≤ v1 ∧ v1 < (40 : Int)) <|
    p_bi (wc c0 19 (40 * (c0 5003 0 0).toNat + (v1 : Int).toNat + 1) 0 (-1)) fun c8 =>
    p_bi (p_w (v1 + 1)) fun x10 =>
    k2 x10 c8
def GO_Step_letMergesChoose_2  : Nat → Int → h_C → Option h_C
  | 0 => fun _ _ => none
  | n + 1 => GL_Step_letMergesChoose_2 (GO_Step_letMergesChoose_2 n)
def G_Step_letMergesChoose  (c0 : h_C) : Option h_C :=
  GO_Step_letMergesChoose_2 3000 0 c0
set_option maxRecDepth 100000 in
set_option maxHeartbeats 4000000 in
theorem uB_Step_letMergesChoose_144 (m : h_M) (j34 : Nat → Int → p_Hp → Option p_Hp) (k34 : Int → h_C → Option h_C) (hk34 : ∀ (v1 : Int) (c0 : h_C) (r : h_C), k34 v1 c0 = some r → j34 1112 v1 (h_H c0 m) = some (h_H r m)) (v1 : Int) (c0 : h_C) (r : h_C) (h : GB_Step_letMergesChoose_144 k34 v1 c0 = some r) : B_Step_letMergesChoose_144 j34 1112 v1 (h_H c0 m) = some (h_H r m) := by
  unfold GB_Step_letMergesChoose_144 at h
  unfold B_Step_letMergesChoose_144
  refine bV h ?_
  intro x1 h
  exact hk34 x1 c0 _ h
set_option maxRecDepth 100000 in
set_option maxHeartbeats 4000000 in
theorem uB_Step_letMergesChoose_93 (m : h_M) (j34 : Nat → Int → p_Hp → Option p_Hp) (k34 : Int → h_C → Option h_C) (hk34 : ∀ (v1 : Int) (c0 : h_C) (r : h_C), k34 v1 c0 = some r → j34 1112 v1 (h_H c0 m) = some (h_H r m)) (v1 : Int) (w0 : Int) (c0 : h_C) (r : h_C) (h : GB_Step_letMergesChoose_93 k34 v1 w0 c0 = some r) : B_Step_letMergesChoose_93 j34 1112 v1 w0 (h_H c0 m) = some (h_H r m) := by
  unfold GB_Step_letMergesChoose_93 at h
  unfold B_Step_letMergesChoose_93
  refine iteC Iff.rfl h (fun b1 h => ?_) (fun b1 h => ?_)
  · exact uB_Step_letMergesChoose_144 m j34 k34 hk34 v1 c0 _ h
  · refine gdT (isD c0 m d800) ?_
    obtain ⟨g2, h⟩ := p_gdE h
    try rw [rm5003 c0 m g2]
    have hv3 : vW (c0 5003 0 0).toNat := by omega
    refine gdT (isD c0 m (d300 hv3)) ?_
    try rw [rD c0 m (rr300_4 hv3)]
    refine gdT (isD c0 m (d2001 hv3)) ?_
    obtain ⟨g4, h⟩ := p_gdE h
    refine gdT ⟨g4.1, by (try rw [lenD c0 m (d2001 hv3)]); exact g4.2⟩ ?_
    try rw [rD c0 m (el2001 (k := (w0 : Int).toNat) hv3 (Nat.zero_le _) (by omega))]
    have hv5 : vG (40 * (c0 5003 0 0).toNat + (w0 : Int).toNat + 1) := ⟨by omega, by have := hv3; omega⟩
    refine gdT (isD c0 m (d0 hv5)) ?_
    try rw [zf0 c0 m hv5]
    refine iteC Iff.rfl h (fun b6 h => ?_) (fun b6 h => ?_)
    · exact uB_Step_letMergesChoose_144 m j34 k34 hk34 v1 c0 _ h
    · try rw [rm5003 c0 m g2]
      try rw [rD c0 m (rr300_4 hv3)]
      refine gdT ⟨g4.1, by (try rw [lenD c0 m (d2001 hv3)]); exact g4.2⟩ ?_
      try rw [rD c0 m (el2001 (k := (w0 : Int).toNat) hv3 (Nat.zero_le _) (by omega))]
      obtain ⟨r9, q7, h⟩ := q_bvE h
      refine bdC (u_Step_isBetter m v1 (40 * (c0 5003 0 0).toNat + (w0 : Int).toNat + 1) c0 _ q7) ?_
      refine iteC Iff.rfl h (fun b11 h => ?_) (fun b11 h => ?_)
      · exact uB_Step_letMergesChoose_144 m j34 k34 hk34 v1 c0 _ h
      · try rw [rm5003 c0 m g2]
        refine gdT (isD c0 m (d300 hv3)) ?_
        try rw [rD c0 m (rr300_4 hv3)]
        refine gdT (isD c0 m (d2001 hv3)) ?_
        refine gdT ⟨g4.1, by (try rw [lenD c0 m (d2001 hv3)]); exact g4.2⟩ ?_
        try rw [rD c0 m (el2001 (k := (w0 : Int).toNat) hv3 (Nat.zero_le _) (by omega))]
        refine gdT (isD c0 m (d0 hv5)) ?_
        refine bS (wf19 c0 m hv5 _) h ?_
        intro c12 h
        exact uB_Step_letMergesChoose_144 m j34 k34 hk34 v1 c12 _ h
set_option maxRecDepth 100000 in
set_option maxHeartbeats 4000000 in
theorem uL_Step_letMergesChoose_34 (m : h_M) (j34 : Nat → Int → p_Hp → Option p_Hp) (k34 : Int → h_C → Option h_C) (hk34 : ∀ (v1 : Int) (c0 : h_C) (r : h_C), k34 v1 c0 = some r → j34 1112 v1 (h_H c0 m) = some (h_H r m)) (v1 : Int) (c0 : h_C) (r : h_C) (h : GL_Step_letMergesChoose_34 k34 v1 c0 = some r) : L_Step_letMergesChoose_34 j34 1112 v1 (h_H c0 m) = some (h_H r m) := by
  unfold GL_Step_letMergesChoose_34 at h
  unfold L_Step_letMergesChoose_34
  refine gdT (isD c0 m d800) ?_
  obtain ⟨g1, h⟩ := p_gdE h
  try rw [rm5002 c0 m g1]
  have hv2 : vW (c0 5002 0 0).toNat := by omega
  refine gdT (isD c0 m (d200 hv2)) ?_
  try rw [zf202 c0 m hv2]
  refine iteC Iff.rfl h (fun b3 h => ?_) (fun b3 h => ?_)
  · cases h
    rfl
  · obtain ⟨g4, h⟩ := p_gdE h
    try rw [rm5003 c0 m g4]
    have hv5 : vW (c0 5003 0 0).toNat := by omega
    refine gdT (isD c0 m (d300 hv5)) ?_
    try rw [rD c0 m (rr300_4 hv5)]
    refine gdT (isD c0 m (d2001 hv5)) ?_
    obtain ⟨g6, h⟩ := p_gdE h
    refine gdT ⟨g6.1, by (try rw [lenD c0 m (d2001 hv5)]); exact g6.2⟩ ?_
    try rw [rD c0 m (el2001 (k := (v1 : Int).toNat) hv5 (Nat.zero_le _) (by omega))]
    have hv7 : vG (40 * (c0 5003 0 0).toNat + (v1 : Int).toNat + 1) := ⟨by omega, by have := hv5; omega⟩
    obtain ⟨r10, q8, h⟩ := q_bvE h
    refine bdC (u_Step_isReadyToGive m (40 * (c0 5003 0 0).toNat + (v1 : Int).toNat + 1) c0 _ q8) ?_
    refine iteC Iff.rfl h (fun b12 h => ?_) (fun b12 h => ?_)
    · exact uB_Step_letMergesChoose_93 m j34 k34 hk34 v1 (-1) c0 _ h
    · try rw [rm5002 c0 m g1]
      try rw [rm5003 c0 m g4]
      refine gdT (isD c0 m (d300 hv5)) ?_
      try rw [rD c0 m (rr300_4 hv5)]
      refine gdT (isD c0 m (d2001 hv5)) ?_
      refine gdT ⟨g6.1, by (try rw [lenD c0 m (d2001 hv5)]); exact g6.2⟩ ?_
      try rw [rD c0 m (el2001 (k := (v1 : Int).toNat) hv5 (Nat.zero_le _) (by omega))]
      try rw [rm5003 c0 m g4]
      try rw [rD c0 m (rr300_4 hv5)]
      refine gdT ⟨g6.1, by (try rw [lenD c0 m (d2001 hv5)]); exact g6.2⟩ ?_
      try rw [rD c0 m (el2001 (k := (v1 : Int).toNat) hv5 (Nat.zero_le _) (by omega))]
      refine gdT (isD c0 m (d0 hv7)) ?_
      obtain ⟨r15, q13, h⟩ := q_bvE h
      refine bdC (u_Gear_linkAhead m (40 * (c0 5003 0 0).toNat + (v1 : Int).toNat + 1) c0 _ q13) ?_
      refine gdT (isD c0 m (d200 hv2)) ?_
      obtain ⟨r19, q17, h⟩ := q_bvE h
      refine bdC (u_Works_follow m (c0 5002 0 0).toNat (40 * (c0 5003 0 0).toNat + (v1 : Int).toNat + 1) r15 c0 _ q17) ?_
      exact uB_Step_letMergesChoose_93 m j34 k34 hk34 v1 r19 c0 _ h
set_option maxRecDepth 100000 in
set_option maxHeartbeats 4000000 in
theorem uO_Step_letMergesChoose_34 (m : h_M)  : ∀ (n : Nat) (v1 : Int) (c0 : h_C) (r : h_C), GO_Step_letMergesChoose_34 n v1 c0 = some r → O_Step_letMergesChoose_34 n 1112 v1 (h_H c0 m) = some (h_H r m) := by
  intro n
  induction n with
  | zero => intro v1 c0 r h; cases h
  | succ n ih => intro v1 c0 r h; exact uL_Step_letMergesChoose_34 m (O_Step_letMergesChoose_34 n) (GO_Step_letMergesChoose_34 n) ih v1 c0 r h
set_option maxRecDepth 100000 in
set_option maxHeartbeats 4000000 in
theorem uL_Step_letMergesChoose_2 (m : h_M) (j2 : Nat → Int → p_Hp → Option p_Hp) (k2 : Int → h_C → Option h_C) (hk2 : ∀ (v1 : Int) (c0 : h_C) (r : h_C), k2 v1 c0 = some r → j2 1112 v1 (h_H c0 m) = some (h_H r m)) (v1 : Int) (c0 : h_C) (r : h_C) (h : GL_Step_letMergesChoose_2 k2 v1 c0 = some r) : L_Step_letMergesChoose_2 j2 1112 v1 (h_H c0 m) = some (h_H r m) := by
  unfold GL_Step_letMergesChoose_2 at h
  unfold L_Step_letMergesChoose_2
  refine gdT (isD c0 m d800) ?_
  obtain ⟨g1, h⟩ := p_gdE h
  try rw [rm5002 c0 m g1]
  have hv2 : vW (c0 5002 0 0).toNat := by omega
  refine gdT (isD c0 m (d200 hv2)) ?_
  try rw [zf202 c0 m hv2]
  refine iteC Iff.rfl h (fun b3 h => ?_) (fun b3 h => ?_)
  · exact uO_Step_letMergesChoose_34 m 3000 0 c0 _ h
  · obtain ⟨g4, h⟩ := p_gdE h
    try rw [rm5003 c0 m g4]
    have hv5 : vW (c0 5003 0 0).toNat := by omega
    refine gdT (isD c0 m (d300 hv5)) ?_
    try rw [rD c0 m (rr300_4 hv5)]
    refine gdT (isD c0 m (d2001 hv5)) ?_
    obtain ⟨g6, h⟩ := p_gdE h
    refine gdT ⟨g6.1, by (try rw [lenD c0 m (d2001 hv5)]); exact g6.2⟩ ?_
    try rw [rD c0 m (el2001 (k := (v1 : Int).toNat) hv5 (Nat.zero_le _) (by omega))]
    have hv7 : vG (40 * (c0 5003 0 0).toNat + (v1 : Int).toNat + 1) := ⟨by omega, by have := hv5; omega⟩
    refine gdT (isD c0 m (d0 hv7)) ?_
    refine bS (wf19 c0 m hv7 _) h ?_
    intro c8 h
    refine bV h ?_
    intro x10 h
    exact hk2 x10 c8 _ h
set_option maxRecDepth 100000 in
set_option maxHeartbeats 4000000 in
theorem uO_Step_letMergesChoose_2 (m : h_M)  : ∀ (n : Nat) (v1 : Int) (c0 : h_C) (r : h_C), GO_Step_letMergesChoose_2 n v1 c0 = some r → O_Step_letMergesChoose_2 n 1112 v1 (h_H c0 m) = some (h_H r m) := by
  intro n
  induction n with
  | zero => intro v1 c0 r h; cases h
  | succ n ih => intro v1 c0 r h; exact uL_Step_letMergesChoose_2 m (O_Step_letMergesChoose_2 n) (GO_Step_letMergesChoose_2 n) ih v1 c0 r h
set_option maxRecDepth 100000 in
set_option maxHeartbeats 4000000 in
theorem u_Step_letMergesChoose (m : h_M)  (c0 : h_C) (r : h_C) (h : G_Step_letMergesChoose  c0 = some r) : F_Step_letMergesChoose 1112 (h_H c0 m) = some (h_H r m) := by
  unfold G_Step_letMergesChoose at h
  unfold F_Step_letMergesChoose
  exact uO_Step_letMergesChoose_2 m 3000 0 c0 _ h
def GB_Gear_keep_34  (v0 : Nat) (v2 : Int) (w0 : Int) (w1 : Int) (w2 : Nat) (c0 : h_C) : Option h_C :=
  p_gd (vG w2) <|
  p_gd ((0 : Int) ≤ w1 ∧ w1 < (330 : Int)) <|
  p_bi (wc c0 2013 w2 (w1 : Int).toNat w0) fun c3 =>
  p_gd (vG v0) <|
  p_gd ((0 : Int) ≤ (p_w (v2 + 2)) ∧ (p_w (v2 + 2)) < (330 : Int)) <|
  p_bi (wc c3 2013 v0 ((p_w (v2 + 2)) : Int).toNat (c3 8 v0 0)) fun c7 =>
  p_gd ((0 : Int) ≤ (p_w (v2 + 3)) ∧ (p_w (v2 + 3)) < (330 : Int)) <|
  p_bi (wc c7 2013 v0 ((p_w (v2 + 3)) : Int).toNat (c7 9 v0 0)) fun c10 =>
  p_gd ((0 : Int) ≤ (p_w (v2 + 4)) ∧ (p_w (v2 + 4)) < (330 : Int)) <|
  p_bi (wc c10 2013 v0 ((p_w (v2 + 4)) : Int).toNat (c10 10 v0 0)) fun c13 =>
  p_gd ((0 : Int) ≤ (p_w (v2 + 5)) ∧ (p_w (v2 + 5)) < (330 : Int)) <|
  p_bi (wc c13 2013 v0 ((p_w (v2 + 5)) : Int).toNat (c13 11 v0 0)) fun c16 =>
  p_gd ((0 : Int) ≤ (p_w (v2 + 6)) ∧ (p_w (v2 + 6)) < (330 : Int)) <|
  p_bi (wc c16 2013 v0 ((p_w (v2 + 6)) : Int).toNat (c16 12 v0 0)) fun c19 =>
  p_gd ((0 : Int) ≤ (p_w (v2 + 7)) ∧ (p_w (v2 + 7)) < (330 : Int)) <|
  p_bi (wc c19 2013 v0 ((p_w (v2 + 7)) : Int).toNat (c19 13 v0 0)) fun c22 =>
  p_gd ((0 : Int) ≤ (p_w (v2 + 8)) ∧ (p_w (v2 + 8)) < (330 : Int)) <|
  p_bi (wc c22 2013 v0 ((p_w (v2 + 8)) : Int).toNat (c22 14 v0 0)) fun c25 =>
  p_gd ((0 : Int) ≤ (p_w (v2 + 9)) ∧ (p_w (v2 + 9)) < (330 : Int)) <|
  p_bi (wc c25 2013 v0 ((p_w (v2 + 9)) : Int).toNat (c25 15 v0 0)) fun c28 =>
  p_gd ((0 : Int) ≤ (p_w (v2 + 10)) ∧ (p_w (v2 + 10)) < (330 : Int)) <|
  p_bi (wc c28 2013 v0 ((p_w (v2 + 10)) : Int).toNat (c28 16 v0 0)) fun c31 =>
  some c31
def G_Gear_keep (v0 : Nat) (v1 : Int) (c0 : h_C) : Option h_C :=
  p_bi ((p_w (11 * v1))) fun x2 =>
  p_gd (vG v0) <|
  p_gd ((0 : Int) ≤ x2 ∧ x2 < (330 : Int)) <|
  p_bi (wc c0 2013 v0 (x2 : Int).toNat (c0 6 v0 0)) fun c5 =>
  if (c5 7 v0 0) = 0 then
    GB_Gear_keep_34 v0 x2 0 (p_w (x2 + 1)) v0 c5
  else
    GB_Gear_keep_34 v0 x2 1 (p_w (x2 + 1)) v0 c5
set_option maxRecDepth 100000 in
set_option maxHeartbeats 4000000 in
theorem uB_Gear_keep_34 (m : h_M)  (v0 : Nat) (v2 : Int) (w0 : Int) (w1 : Int) (w2 : Nat) (c0 : h_C) (r : h_C) (h : GB_Gear_keep_34 v0 v2 w0 w1 w2 c0 = some r) : B_Gear_keep_34 (h_A 0 v0) v2 w0 w1 (h_A 2013 w2) (h_H c0 m) = some (h_H r m) := by
  unfold GB_Gear_keep_34 at h
  unfold B_Gear_keep_34
  obtain ⟨g1, h⟩ := p_gdE h
  refine gdT (isD c0 m (d2013 g1)) ?_
  obtain ⟨g2, h⟩ := p_gdE h
  refine gdT ⟨g2.1, by (try rw [lenD c0 m (d2013 g1)]); exact g2.2⟩ ?_
  refine bS (wA c0 m (d2013 g1) (by decide) _ _) h ?_
  intro c3 h
  obtain ⟨g5, h⟩ := p_gdE h
  refine gdT (isD c3 m (d0 g5)) ?_
  try rw [rD c3 m (rr0_18 g5)]
  try rw [zf8 c3 m g5]
  refine gdT (isD c3 m (d2013 g5)) ?_
  obtain ⟨g6, h⟩ := p_gdE h
  refine gdT ⟨g6.1, by (try rw [lenD c3 m (d2013 g5)]); exact g6.2⟩ ?_
  refine bS (wA c3 m (d2013 g5) (by decide) _ _) h ?_
  intro c7 h
  try rw [rD c7 m (rr0_18 g5)]
  try rw [zf9 c7 m g5]
  refine gdT (isD c7 m (d2013 g5)) ?_
  obtain ⟨g9, h⟩ := p_gdE h
  refine gdT ⟨g9.1, by (try rw [lenD c7 m (d2013 g5)]); exact g9.2⟩ ?_
  refine bS (wA c7 m (d2013 g5) (by decide) _ _) h ?_
  intro c10 h
  try rw [rD c10 m (rr0_18 g5)]
  try rw [zf10 c10 m g5]
  refine gdT (isD c10 m (d2013 g5)) ?_
  obtain ⟨g12, h⟩ := p_gdE h
  refine gdT ⟨g12.1, by (try rw [lenD c10 m (d2013 g5)]); exact g12.2⟩ ?_
  refine bS (wA c10 m (d2013 g5) (by decide) _ _) h ?_
  intro c13 h
  try rw [rD c13 m (rr0_18 g5)]
  try rw [zf11 c13 m g5]
  refine gdT (isD c13 m (d2013 g5)) ?_
  obtain ⟨g15, h⟩ := p_gdE h
  refine gdT ⟨g15.1, by (try rw [lenD c13 m (d2013 g5)]); exact g15.2⟩ ?_
  refine bS (wA c13 m (d2013 g5) (by decide) _ _) h ?_
  intro c16 h
  try rw [rD c16 m (rr0_18 g5)]
  try rw [zf12 c16 m g5]
  refine gdT (isD c16 m (d2013 g5)) ?_
  obtain ⟨g18, h⟩ := p_gdE h
  refine gdT ⟨g18.1, by (try rw [lenD c16 m (d2013 g5)]); exact g18.2⟩ ?_
  refine bS (wA c16 m (d2013 g5) (by decide) _ _) h ?_
  intro c19 h
  try rw [rD c19 m (rr0_18 g5)]
  try rw [zf13 c19 m g5]
  refine gdT (isD c19 m (d2013 g5)) ?_
  obtain ⟨g21, h⟩ := p_gdE h
  refine gdT ⟨g21.1, by (try rw [lenD c19 m (d2013 g5)]); exact g21.2⟩ ?_
  refine bS (wA c19 m (d2013 g5) (by decide) _ _) h ?_
  intro c22 h
  try rw [rD c22 m (rr0_18 g5)]
  try rw [zf14 c22 m g5]
  refine gdT (isD c22 m (d2013 g5)) ?_
  obtain ⟨g24, h⟩ := p_gdE h
  refine gdT ⟨g24.1, by (try rw [lenD c22 m (d2013 g5)]); exact g24.2⟩ ?_
  refine bS (wA c22 m (d2013 g5) (by decide) _ _) h ?_
  intro c25 h
  try rw [rD c25 m (rr0_18 g5)]
  try rw [zf15 c25 m g5]
  refine gdT (isD c25 m (d2013 g5)) ?_
  obtain ⟨g27, h⟩ := p_gdE h
  refine gdT ⟨g27.1, by (try rw [lenD c25 m (d2013 g5)]); exact g27.2⟩ ?_
  refine bS (wA c25 m (d2013 g5) (by decide) _ _) h ?_
  intro c28 h
  try rw [rD c28 m (rr0_18 g5)]
  try rw [zf16 c28 m g5]
  refine gdT (isD c28 m (d2013 g5)) ?_
  obtain ⟨g30, h⟩ := p_gdE h
  refine gdT ⟨g30.1, by (try rw [lenD c28 m (d2013 g5)]); exact g30.2⟩ ?_
  refine bS (wA c28 m (d2013 g5) (by decide) _ _) h ?_
  intro c31 h
  cases h
  rfl
set_option maxRecDepth 100000 in
set_option maxHeartbeats 4000000 in
theorem u_Gear_keep (m : h_M) (v0 : Nat) (v1 : Int) (c0 : h_C) (r : h_C) (h : G_Gear_keep v0 v1 c0 = some r) : F_Gear_keep (h_A 0 v0) v1 (h_H c0 m) = some (h_H r m) := by
  unfold G_Gear_keep at h
  unfold F_Gear_keep
  refine bV h ?_
  intro x2 h
  obtain ⟨g3, h⟩ := p_gdE h
  refine gdT (isD c0 m (d0 g3)) ?_
  try rw [rD c0 m (rr0_18 g3)]
  try rw [zf6 c0 m g3]
  refine gdT (isD c0 m (d2013 g3)) ?_
  obtain ⟨g4, h⟩ := p_gdE h
  refine gdT ⟨g4.1, by (try rw [lenD c0 m (d2013 g3)]); exact g4.2⟩ ?_
  refine bS (wA c0 m (d2013 g3) (by decide) _ _) h ?_
  intro c5 h
  try rw [rD c5 m (rr0_18 g3)]
  try rw [zf7 c5 m g3]
  refine iteC Iff.rfl h (fun b7 h => ?_) (fun b7 h => ?_)
  · exact uB_Gear_keep_34 m v0 x2 0 (p_w (x2 + 1)) v0 c5 _ h
  · exact uB_Gear_keep_34 m v0 x2 1 (p_w (x2 + 1)) v0 c5 _ h
def G_Log_keep (v0 : Nat) (v1 : Int) (c0 : h_C) : Option h_C :=
  p_gd (vL v0) <|
  p_gd ((0 : Int) ≤ v1 ∧ v1 < (30 : Int)) <|
  p_bi (wc c0 2004 v0 (v1 : Int).toNat (c0 403 v0 0)) fun c3 =>
  p_gd ((0 : Int) ≤ 0 ∧ (0 : Int) ≤ (p_w (v1 * ((if v0 % 2 = 0 then 200 else 150 : Nat) : Int))) ∧ (0 : Int) ≤ ((if v0 % 2 = 0 then 200 else 150 : Nat) : Int) ∧ 0 + ((if v0 % 2 = 0 then 200 else 150 : Nat) : Int) ≤ ((if v0 % 2 = 0 then 200 else 150 : Nat) : Int) ∧ (p_w (v1 * ((if v0 % 2 = 0 then 200 else 150 : Nat) : Int))) + ((if v0 % 2 = 0 then 200 else 150 : Nat) : Int) ≤ ((if v0 % 2 = 0 then 6000 else 4500 : Nat) : Int)) <|
  p_bi (sr c3 2006 v0 (cp (c3 2005 v0) (0 : Int).toNat (c3 2006 v0) ((p_w (v1 * ((if v0 % 2 = 0 then 200 else 150 : Nat) : Int))) : Int).toNat (((if v0 % 2 = 0 then 200 else 150 : Nat) : Int) : Int).toNat)) fun c6 =>
  some c6
set_option maxRecDepth 100000 in
set_option maxHeartbeats 4000000 in
theorem u_Log_keep (m : h_M) (v0 : Nat) (v1 : Int) (c0 : h_C) (r : h_C) (h : G_Log_keep v0 v1 c0 = some r) : F_Log_keep (h_A 400 v0) v1 (h_H c0 m) = some (h_H r m) := by
  unfold G_Log_keep at h
  unfold F_Log_keep
  obtain ⟨g1, h⟩ := p_gdE h
  refine gdT (isD c0 m (d400 g1)) ?_
  try rw [rD c0 m (rr400_5 g1)]
  try rw [zf403 c0 m g1]
  refine gdT (isD c0 m (d2004 g1)) ?_
  obtain ⟨g2, h⟩ := p_gdE h
  refine gdT ⟨g2.1, by (try rw [lenD c0 m (d2004 g1)]); exact g2.2⟩ ?_
  refine bS (wA c0 m (d2004 g1) (by decide) _ _) h ?_
  intro c3 h
  try rw [rD c3 m (rr400_2 g1)]
  try rw [rD c3 m (rr400_4 g1)]
  try rw [rD c3 m (rr400_2 g1)]
  refine gdT (isD c3 m (d2005 g1)) ?_
  try rw [lenD c3 m (d2005 g1)]
  try rw [rD c3 m (rr400_2 g1)]
  try rw [lenD c3 m (d2005 g1)]
  refine gdT (isD c3 m (d2006 g1)) ?_
  obtain ⟨g5, h⟩ := p_gdE h
  refine gdT ⟨g5.1, g5.2.1, g5.2.2.1, by (try rw [lenD c3 m (d2005 g1)]); exact g5.2.2.2.1, by (try rw [lenD c3 m (d2006 g1)]); exact g5.2.2.2.2⟩ ?_
  refine bS (cA c3 m (d2005 g1) (by decide) (d2006 g1) (by decide) _ _ _) h ?_
  intro c6 h
  cases h
  rfl
def GB_Parcel_keep_103  (v0 : Nat) (v2 : Int) (w0 : Int) (w1 : Int) (w2 : Nat) (c0 : h_C) : Option h_C :=
  p_gd (vP w2) <|
  p_gd ((0 : Int) ≤ w1 ∧ w1 < (1110 : Int)) <|
  p_bi (wc c0 2016 w2 (w1 : Int).toNat w0) fun c3 =>
  p_gd (vP v0) <|
  p_gd ((0 : Int) ≤ (p_w (v2 + 7)) ∧ (p_w (v2 + 7)) < (1110 : Int)) <|
  p_bi (wc c3 2016 v0 ((p_w (v2 + 7)) : Int).toNat (c3 109 v0 0)) fun c7 =>
  p_gd ((0 : Int) ≤ (p_w (v2 + 8)) ∧ (p_w (v2 + 8)) < (1110 : Int)) <|
  p_bi (wc c7 2016 v0 ((p_w (v2 + 8)) : Int).toNat (c7 111 v0 0)) fun c10 =>
  p_gd ((0 : Int) ≤ 0 ∧ (0 : Int) ≤ (p_w (v2 + 9)) ∧ (0 : Int) ≤ 16 ∧ 0 + 16 ≤ (16 : Int) ∧ (p_w (v2 + 9)) + 16 ≤ (1110 : Int)) <|
  p_bi (sr c10 2016 v0 (cp (c10 2014 v0) (0 : Int).toNat (c10 2016 v0) ((p_w (v2 + 9)) : Int).toNat (16 : Int).toNat)) fun c13 =>
  p_gd ((0 : Int) ≤ 0 ∧ (0 : Int) ≤ (p_w (v2 + 25)) ∧ (0 : Int) ≤ 12 ∧ 0 + 12 ≤ (12 : Int) ∧ (p_w (v2 + 25)) + 12 ≤ (1110 : Int)) <|
  p_bi (sr c13 2016 v0 (cp (c13 2015 v0) (0 : Int).toNat (c13 2016 v0) ((p_w (v2 + 25)) : Int).toNat (12 : Int).toNat)) fun c16 =>
  some c16
def G_Parcel_keep (v0 : Nat) (v1 : Int) (c0 : h_C) : Option h_C :=
  p_bi ((p_w (37 * v1))) fun x2 =>
  p_gd (vP v0) <|
  p_gd ((0 : Int) ≤ x2 ∧ x2 < (1110 : Int)) <|
  p_bi (wc c0 2016 v0 (x2 : Int).toNat (c0 101 v0 0)) fun c5 =>
  if (c5 101 v0 0) ≠ 0 then
    p_gd ((0 : Int) ≤ (p_w (x2 + 1)) ∧ (p_w (x2 + 1)) < (1110 : Int)) <|
    p_bi (wc c5 2016 v0 ((p_w (x2 + 1)) : Int).toNat (c5 102 v0 0)) fun c9 =>
    p_gd ((0 : Int) ≤ (p_w (x2 + 2)) ∧ (p_w (x2 + 2)) < (1110 : Int)) <|
    p_bi (wc c9 2016 v0 ((p_w (x2 + 2)) : Int).toNat (c9 103 v0 0)) fun c12 =>
    p_gd ((0 : Int) ≤ (p_w (x2 + 3)) ∧ (p_w (x2 + 3)) < (1110 : Int)) <|
    p_bi (wc c12 2016 v0 ((p_w (x2 + 3)) : Int).toNat (c12 104 v0 0)) fun c15 =>
    p_gd ((0 : Int) ≤ (p_w (x2 + 4)) ∧ (p_w (x2 + 4)) < (1110 : Int)) <|
    p_bi (wc c15 2016 v0 ((p_w (x2 + 4)) : Int).toNat (c15 105 v0 0)) fun c18 =>
    p_gd ((0 : Int) ≤ (p_w (x2 + 5)) ∧ (p_w (x2 + 5)) < (1110 : Int)) <|
    p_bi (wc c18 2016 v0 ((p_w (x2 + 5)) : Int).toNat (c18 106 v0 0)) fun c21 =>
    if (c21 107 v0 0) = 0 then
      GB_Parcel_keep_103 v0 x2 0 (p_w (x2 + 6)) v0 c21
    else
      GB_Parcel_keep_103 v0 x2 1 (p_w (x2 + 6)) v0 c21
  else
    some c5
set_option maxRecDepth 100000 in
set_option maxHeartbeats 4000000 in
theorem uB_Parcel_keep_103 (m : h_M)  (v0 : Nat) (v2 : Int) (w0 : Int) (w1 : Int) (w2 : Nat) (c0 : h_C) (r : h_C) (h : GB_Parcel_keep_103 v0 v2 w0 w1 w2 c0 = some r) : B_Parcel_keep_103 (h_A 100 v0) v2 w0 w1 (h_A 2016 w2) (h_H c0 m) = some (h_H r m) := by
  unfold GB_Parcel_keep_103 at h
  unfold B_Parcel_keep_103
  obtain ⟨g1, h⟩ := p_gdE h
  refine gdT (isD c0 m (d2016 g1)) ?_
  obtain ⟨g2, h⟩ := p_gdE h
  refine gdT ⟨g2.1, by (try rw [lenD c0 m (d2016 g1)]); exact g2.2⟩ ?_
  refine bS (wA c0 m (d2016 g1) (by decide) _ _) h ?_
  intro c3 h
  obtain ⟨g5, h⟩ := p_gdE h
  refine gdT (isD c3 m (d100 g5)) ?_
  try rw [rD c3 m (rr100_13 g5)]
  try rw [zf109 c3 m g5]
  refine gdT (isD c3 m (d2016 g5)) ?_
  obtain ⟨g6, h⟩ := p_gdE h
  refine gdT ⟨g6.1, by (try rw [lenD c3 m (d2016 g5)]); exact g6.2⟩ ?_
  refine bS (wA c3 m (d2016 g5) (by decide) _ _) h ?_
  intro c7 h
  try rw [rD c7 m (rr100_13 g5)]
  try rw [zf111 c7 m g5]
  refine gdT (isD c7 m (d2016 g5)) ?_
  obtain ⟨g9, h⟩ := p_gdE h
  refine gdT ⟨g9.1, by (try rw [lenD c7 m (d2016 g5)]); exact g9.2⟩ ?_
  refine bS (wA c7 m (d2016 g5) (by decide) _ _) h ?_
  intro c10 h
  try rw [rD c10 m (rr100_10 g5)]
  try rw [rD c10 m (rr100_13 g5)]
  refine gdT (isD c10 m (d2014 g5)) ?_
  refine gdT (isD c10 m (d2016 g5)) ?_
  obtain ⟨g12, h⟩ := p_gdE h
  refine gdT ⟨g12.1, g12.2.1, g12.2.2.1, by (try rw [lenD c10 m (d2014 g5)]); exact g12.2.2.2.1, by (try rw [lenD c10 m (d2016 g5)]); exact g12.2.2.2.2⟩ ?_
  refine bS (cA c10 m (d2014 g5) (by decide) (d2016 g5) (by decide) _ _ _) h ?_
  intro c13 h
  try rw [rD c13 m (rr100_12 g5)]
  try rw [rD c13 m (rr100_13 g5)]
  refine gdT (isD c13 m (d2015 g5)) ?_
  refine gdT (isD c13 m (d2016 g5)) ?_
  obtain ⟨g15, h⟩ := p_gdE h
  refine gdT ⟨g15.1, g15.2.1, g15.2.2.1, by (try rw [lenD c13 m (d2015 g5)]); exact g15.2.2.2.1, by (try rw [lenD c13 m (d2016 g5)]); exact g15.2.2.2.2⟩ ?_
  refine bS (cA c13 m (d2015 g5) (by decide) (d2016 g5) (by decide) _ _ _) h ?_
  intro c16 h
  cases h
  rfl
set_option maxRecDepth 100000 in
set_option maxHeartbeats 4000000 in
theorem u_Parcel_keep (m : h_M) (v0 : Nat) (v1 : Int) (c0 : h_C) (r : h_C) (h : G_Parcel_keep v0 v1 c0 = some r) : F_Parcel_keep (h_A 100 v0) v1 (h_H c0 m) = some (h_H r m) := by
  unfold G_Parcel_keep at h
  unfold F_Parcel_keep
  refine bV h ?_
  intro x2 h
  obtain ⟨g3, h⟩ := p_gdE h
  refine gdT (isD c0 m (d100 g3)) ?_
  try rw [rD c0 m (rr100_13 g3)]
  try rw [zf101 c0 m g3]
  refine gdT (isD c0 m (d2016 g3)) ?_
  obtain ⟨g4, h⟩ := p_gdE h
  refine gdT ⟨g4.1, by (try rw [lenD c0 m (d2016 g3)]); exact g4.2⟩ ?_
  refine bS (wA c0 m (d2016 g3) (by decide) _ _) h ?_
  intro c5 h
  try rw [zf101 c5 m g3]
  refine iteC Iff.rfl h (fun b7 h => ?_) (fun b7 h => ?_)
  · try rw [rD c5 m (rr100_13 g3)]
    try rw [zf102 c5 m g3]
    refine gdT (isD c5 m (d2016 g3)) ?_
    obtain ⟨g8, h⟩ := p_gdE h
    refine gdT ⟨g8.1, by (try rw [lenD c5 m (d2016 g3)]); exact g8.2⟩ ?_
    refine bS (wA c5 m (d2016 g3) (by decide) _ _) h ?_
    intro c9 h
    try rw [rD c9 m (rr100_13 g3)]
    try rw [zf103 c9 m g3]
    refine gdT (isD c9 m (d2016 g3)) ?_
    obtain ⟨g11, h⟩ := p_gdE h
    refine gdT ⟨g11.1, by (try rw [lenD c9 m (d2016 g3)]); exact g11.2⟩ ?_
    refine bS (wA c9 m (d2016 g3) (by decide) _ _) h ?_
    intro c12 h
    try rw [rD c12 m (rr100_13 g3)]
    try rw [zf104 c12 m g3]
    refine gdT (isD c12 m (d2016 g3)) ?_
    obtain ⟨g14, h⟩ := p_gdE h
    refine gdT ⟨g14.1, by (try rw [lenD c12 m (d2016 g3)]); exact g14.2⟩ ?_
    refine bS (wA c12 m (d2016 g3) (by decide) _ _) h ?_
    intro c15 h
    try rw [rD c15 m (rr100_13 g3)]
    try rw [zf105 c15 m g3]
    refine gdT (isD c15 m (d2016 g3)) ?_
    obtain ⟨g17, h⟩ := p_gdE h
    refine gdT ⟨g17.1, by (try rw [lenD c15 m (d2016 g3)]); exact g17.2⟩ ?_
    refine bS (wA c15 m (d2016 g3) (by decide) _ _) h ?_
    intro c18 h
    try rw [rD c18 m (rr100_13 g3)]
    try rw [zf106 c18 m g3]
    refine gdT (isD c18 m (d2016 g3)) ?_
    obtain ⟨g20, h⟩ := p_gdE h
    refine gdT ⟨g20.1, by (try rw [lenD c18 m (d2016 g3)]); exact g20.2⟩ ?_
    refine bS (wA c18 m (d2016 g3) (by decide) _ _) h ?_
    intro c21 h
    try rw [rD c21 m (rr100_13 g3)]
    try rw [zf107 c21 m g3]
    refine iteC Iff.rfl h (fun b23 h => ?_) (fun b23 h => ?_)
    · exact uB_Parcel_keep_103 m v0 x2 0 (p_w (x2 + 6)) v0 c21 _ h
    · exact uB_Parcel_keep_103 m v0 x2 1 (p_w (x2 + 6)) v0 c21 _ h
  · cases h
    rfl
