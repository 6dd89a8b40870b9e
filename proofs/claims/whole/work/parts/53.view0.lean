def G_SW_done (v1 : Int) (c0 : h_C) : Option (Int × h_C) :=
  p_bi (wc c0 608 0 0 0) fun c1 =>
  some (v1, c1)
set_option maxRecDepth 100000 in
set_option maxHeartbeats 4000000 in
theorem u_SW_done (m : h_M) (v1 : Int) (c0 : h_C) (r : (Int × h_C)) (h : G_SW_done v1 c0 = some r) : F_SW_done 1 v1 (h_H c0 m) = some (r.1, (h_H r.2 m)) := by
  unfold G_SW_done at h
  unfold F_SW_done
  refine gdT (isD c0 m d600) ?_
  refine bS (wf608 c0 m _) h ?_
  intro c1 h
  cases h
  rfl
def GB_SW_refuse_22  (v1 : Int) (c0 : h_C) : Option (Int × h_C) :=
  p_bi (wc c0 608 0 0 v1) fun c1 =>
  some (v1, c1)
def G_SW_refuse (v1 : Int) (c0 : h_C) : Option (Int × h_C) :=
  if (-11) < v1 then
    GB_SW_refuse_22 v1 c0
  else
    if v1 < (-16) then
      GB_SW_refuse_22 v1 c0
    else
      p_bi (wc c0 607 0 0 (p_w ((c0 607 0 0) + 1))) fun c3 =>
      GB_SW_refuse_22 v1 c3
set_option maxRecDepth 100000 in
set_option maxHeartbeats 4000000 in
theorem uB_SW_refuse_22 (m : h_M)  (v1 : Int) (c0 : h_C) (r : (Int × h_C)) (h : GB_SW_refuse_22 v1 c0 = some r) : B_SW_refuse_22 1 v1 (h_H c0 m) = some (r.1, (h_H r.2 m)) := by
  unfold GB_SW_refuse_22 at h
  unfold B_SW_refuse_22
  refine gdT (isD c0 m d600) ?_
  refine bS (wf608 c0 m _) h ?_
  intro c1 h
  cases h
  rfl
set_option maxRecDepth 100000 in
set_option maxHeartbeats 4000000 in
theorem u_SW_refuse (m : h_M) (v1 : Int) (c0 : h_C) (r : (Int × h_C)) (h : G_SW_refuse v1 c0 = some r) : F_SW_refuse 1 v1 (h_H c0 m) = some (r.1, (h_H r.2 m)) := by
  unfold G_SW_refuse at h
  unfold F_SW_refuse
  refine iteC Iff.rfl h (fun b1 h => ?_) (fun b1 h => ?_)
  · exact uB_SW_refuse_22 m v1 c0 _ h
  · refine iteC Iff.rfl h (fun b2 h => ?_) (fun b2 h => ?_)
    · exact uB_SW_refuse_22 m v1 c0 _ h
    · refine gdT (isD c0 m d600) ?_
      try rw [zf607 c0 m]
      refine bS (wf607 c0 m _) h ?_
      intro c3 h
      exact uB_SW_refuse_22 m v1 c3 _ h
def GB_SW_works_9   (c0 : h_C) : Option (Int × h_C) :=
  q_bd (G_SW_refuse (-1) c0) fun r3 c4 =>
  some (r3, c4)
def G_SW_works (v1 : Int) (c0 : h_C) : Option (Int × h_C) :=
  if v1 < 0 then
    GB_SW_works_9 c0
  else
    if v1 < 3 then
      p_gd (0 ≤ c0 5000 0 0 ∧ c0 5000 0 0 < 3) <|
      p_bi ((c0 200 (c0 5000 0 0).toNat 0)) fun x6 =>
      p_gd ((0 : Int) ≤ v1 ∧ v1 < (3 : Int)) <|
      p_bi (wc c0 5000 0 0 ((v1 : Int).toNat : Nat)) fun c9 =>
      q_bd (G_SW_done x6 c9) fun r13 c14 =>
      some (r13, c14)
    else
      GB_SW_works_9 c0
set_option maxRecDepth 100000 in
set_option maxHeartbeats 4000000 in
theorem uB_SW_works_9 (m : h_M)   (c0 : h_C) (r : (Int × h_C)) (h : GB_SW_works_9  c0 = some r) : B_SW_works_9 1 (h_H c0 m) = some (r.1, (h_H r.2 m)) := by
  unfold GB_SW_works_9 at h
  unfold B_SW_works_9
  refine gdT (isD c0 m d600) ?_
  obtain ⟨r3, c4, q1, h⟩ := q_bdE h
  refine bdC (u_SW_refuse m (-1) c0 _ q1) ?_
  cases h
  rfl
set_option maxRecDepth 100000 in
set_option maxHeartbeats 4000000 in
theorem u_SW_works (m : h_M) (v1 : Int) (c0 : h_C) (r : (Int × h_C)) (h : G_SW_works v1 c0 = some r) : F_SW_works 1 v1 (h_H c0 m) = some (r.1, (h_H r.2 m)) := by
  unfold G_SW_works at h
  unfold F_SW_works
  refine iteC Iff.rfl h (fun b1 h => ?_) (fun b1 h => ?_)
  · exact uB_SW_works_9 m c0 _ h
  · refine iteC Iff.rfl h (fun b2 h => ?_) (fun b2 h => ?_)
    · refine gdT (isD c0 m d600) ?_
      obtain ⟨g3, h⟩ := p_gdE h
      try rw [rm5000 c0 m g3]
      have hv4 : vW (c0 5000 0 0).toNat := by omega
      refine gdT (isD c0 m (d200 hv4)) ?_
      try rw [zf200 c0 m hv4]
      refine bV h ?_
      intro x6 h
      try rw [rs1_0 c0 m]
      refine gdT (isD c0 m d2000) ?_
      obtain ⟨g7, h⟩ := p_gdE h
      refine gdT ⟨g7.1, by (try rw [lenD c0 m d2000]); exact g7.2⟩ ?_
      try rw [rD c0 m (el2000 (k := (v1 : Int).toNat) (by omega))]
      have hv8 : vW (v1 : Int).toNat := by omega
      refine bS (h_wR5000 c0 m _) h ?_
      intro c9 h
      obtain ⟨r13, c14, q11, h⟩ := q_bdE h
      refine bdC (u_SW_done m x6 c9 _ q11) ?_
      cases h
      rfl
    · exact uB_SW_works_9 m c0 _ h
def G_Works_forget (v0 : Nat) (c0 : h_C) : Option h_C :=
  p_gd (vW v0) <|
  p_bi (wc c0 213 v0 0 0) fun c2 =>
  some c2
set_option maxRecDepth 100000 in
set_option maxHeartbeats 4000000 in
theorem u_Works_forget (m : h_M) (v0 : Nat) (c0 : h_C) (r : h_C) (h : G_Works_forget v0 c0 = some r) : F_Works_forget (h_A 200 v0) (h_H c0 m) = some (h_H r m) := by
  unfold G_Works_forget at h
  unfold F_Works_forget
  obtain ⟨g1, h⟩ := p_gdE h
  refine gdT (isD c0 m (d200 g1)) ?_
  refine bS (wf213 c0 m g1 _) h ?_
  intro c2 h
  cases h
  rfl
def G_SW_built (v1 : Int) (c0 : h_C) : Option (Int × h_C) :=
  p_gd (0 ≤ c0 5000 0 0 ∧ c0 5000 0 0 < 3) <|
  q_bv (G_Works_forget (c0 5000 0 0).toNat c0) fun c5 =>
  q_bd (G_SW_done v1 c5) fun r8 c9 =>
  some (r8, c9)
set_option maxRecDepth 100000 in
set_option maxHeartbeats 4000000 in
theorem u_SW_built (m : h_M) (v1 : Int) (c0 : h_C) (r : (Int × h_C)) (h : G_SW_built v1 c0 = some r) : F_SW_built 1 v1 (h_H c0 m) = some (r.1, (h_H r.2 m)) := by
  unfold G_SW_built at h
  unfold F_SW_built
  refine gdT (isD c0 m d600) ?_
  obtain ⟨g1, h⟩ := p_gdE h
  try rw [rm5000 c0 m g1]
  have hv2 : vW (c0 5000 0 0).toNat := by omega
  refine gdT (isD c0 m (d200 hv2)) ?_
  obtain ⟨c5, q3, h⟩ := q_bvE h
  refine bvC (u_Works_forget m (c0 5000 0 0).toNat c0 _ q3) ?_
  obtain ⟨r8, c9, q6, h⟩ := q_bdE h
  refine bdC (u_SW_done m v1 c5 _ q6) ?_
  cases h
  rfl
def G_SW_isKind (v0 : Int) (c0 : h_C) : Option Int :=
  if v0 < 0 then
    some 0
  else
    if 11 ≤ v0 then
      some 0
    else
      some 1
set_option maxRecDepth 100000 in
set_option maxHeartbeats 4000000 in
theorem u_SW_isKind (m : h_M) (v0 : Int) (c0 : h_C) (r : Int) (h : G_SW_isKind v0 c0 = some r) : F_SW_isKind v0 (h_H c0 m) = some (r, (h_H c0 m)) := by
  unfold G_SW_isKind at h
  unfold F_SW_isKind
  refine iteC Iff.rfl h (fun b1 h => ?_) (fun b1 h => ?_)
  · cases h
    rfl
  · refine iteC Iff.rfl h (fun b2 h => ?_) (fun b2 h => ?_)
    · cases h
      rfl
    · cases h
      rfl
def G_SW_isTakerKind (v0 : Int) (c0 : h_C) : Option Int :=
  if v0 < 0 then
    some 0
  else
    if 8 < v0 then
      some 0
    else
      some 1
set_option maxRecDepth 100000 in
set_option maxHeartbeats 4000000 in
theorem u_SW_isTakerKind (m : h_M) (v0 : Int) (c0 : h_C) (r : Int) (h : G_SW_isTakerKind v0 c0 = some r) : F_SW_isTakerKind v0 (h_H c0 m) = some (r, (h_H c0 m)) := by
  unfold G_SW_isTakerKind at h
  unfold F_SW_isTakerKind
  refine iteC Iff.rfl h (fun b1 h => ?_) (fun b1 h => ?_)
  · cases h
    rfl
  · refine iteC Iff.rfl h (fun b2 h => ?_) (fun b2 h => ?_)
    · cases h
      rfl
    · cases h
      rfl
def G_Gear_begin (v0 : Nat) (v1 : Int) (c0 : h_C) : Option h_C :=
  p_gd (vG v0) <|
  p_bi (wc c0 0 v0 0 v1) fun c2 =>
  p_gd ((0 : Int) ≤ v1 ∧ v1 < (sw_tl 0 : Int)) <|
  p_bi (wc c2 2 v0 0 (sw_tab 0 (v1 : Int).toNat)) fun c5 =>
  p_bi (sr c5 2011 v0 (fl (c5 2011 v0) 3 0)) fun c7 =>
  p_bi (wc c7 6 v0 0 0) fun c9 =>
  p_bi (wc c9 7 v0 0 0) fun c11 =>
  p_bi (wc c11 8 v0 0 0) fun c13 =>
  p_bi (wc c13 9 v0 0 0) fun c15 =>
  p_bi (wc c15 10 v0 0 0) fun c17 =>
  p_bi (wc c17 11 v0 0 0) fun c19 =>
  p_bi (wc c19 12 v0 0 0) fun c21 =>
  p_bi (wc c21 13 v0 0 0) fun c23 =>
  p_bi (wc c23 14 v0 0 0) fun c25 =>
  p_bi (wc c25 15 v0 0 (-1)) fun c27 =>
  p_bi (wc c27 16 v0 0 0) fun c29 =>
  some c29
set_option maxRecDepth 100000 in
set_option maxHeartbeats 4000000 in
theorem u_Gear_begin (m : h_M) (v0 : Nat) (v1 : Int) (c0 : h_C) (r : h_C) (h : G_Gear_begin v0 v1 c0 = some r) : F_Gear_begin (h_A 0 v0) v1 (h_H c0 m) = some (h_H r m) := by
  unfold G_Gear_begin at h
  unfold F_Gear_begin
  obtain ⟨g1, h⟩ := p_gdE h
  refine gdT (isD c0 m (d0 g1)) ?_
  refine bS (wf0 c0 m g1 _) h ?_
  intro c2 h
  obtain ⟨g4, h⟩ := p_gdE h
  refine gdT g4 ?_
  refine bS (wf2 c2 m g1 _) h ?_
  intro c5 h
  try rw [rD c5 m (rr0_5 g1)]
  refine bvS (fillJ c5 m (d2011 g1) (by decide) _) h ?_
  intro c7 h
  refine bS (wf6 c7 m g1 _) h ?_
  intro c9 h
  refine bS (wf7 c9 m g1 _) h ?_
  intro c11 h
  refine bS (wf8 c11 m g1 _) h ?_
  intro c13 h
  refine bS (wf9 c13 m g1 _) h ?_
  intro c15 h
  refine bS (wf10 c15 m g1 _) h ?_
  intro c17 h
  refine bS (wf11 c17 m g1 _) h ?_
  intro c19 h
  refine bS (wf12 c19 m g1 _) h ?_
  intro c21 h
  refine bS (wf13 c21 m g1 _) h ?_
  intro c23 h
  refine bS (wf14 c23 m g1 _) h ?_
  intro c25 h
  refine bS (wf15 c25 m g1 _) h ?_
  intro c27 h
  refine bS (wf16 c27 m g1 _) h ?_
  intro c29 h
  cases h
  rfl
def GB_SW_gear_25   (c0 : h_C) : Option (Int × h_C) :=
  q_bd (G_SW_refuse (-2) c0) fun r3 c4 =>
  some (r3, c4)
def GB_SW_gear_100  (v3 : Int) (w0 : Int) (w1 : Nat) (c0 : h_C) : Option (Int × h_C) :=
  p_gd (vG w1) <|
  p_bi (wc c0 1 w1 0 w0) fun c2 =>
  q_bd (G_SW_built v3 c2) fun r6 c7 =>
  some (r6, c7)
def GB_SW_gear_32  (v1 : Int) (v2 : Int) (c0 : h_C) : Option (Int × h_C) :=
  p_gd (0 ≤ c0 5000 0 0 ∧ c0 5000 0 0 < 3) <|
  if (c0 202 (c0 5000 0 0).toNat 0) < 40 then
    p_bi (wc c0 202 (c0 5000 0 0).toNat 0 (p_w ((c0 202 (c0 5000 0 0).toNat 0) + 1))) fun c4 =>
    p_bi ((c0 202 (c0 5000 0 0).toNat 0)) fun x7 =>
    p_gd (0 ≤ c4 5000 0 0 ∧ c4 5000 0 0 < 3) <|
    p_gd ((0 : Int) ≤ x7 ∧ x7 < (40 : Int)) <|
    q_bv (G_Gear_begin (40 * (c4 5000 0 0).toNat + (x7 : Int).toNat + 1) v1 c4) fun c15 =>
    q_bv (G_SW_isTakerKind v1 c15) fun r18 =>
    if r18 = 0 then
      GB_SW_gear_100 x7 0 (40 * (c4 5000 0 0).toNat + (x7 : Int).toNat + 1) c15
    else
      GB_SW_gear_100 x7 v2 (40 * (c4 5000 0 0).toNat + (x7 : Int).toNat + 1) c15
  else
    q_bd (G_SW_refuse (-4) c0) fun r23 c24 =>
    some (r23, c24)
def G_SW_gear (v1 : Int) (v2 : Int) (c0 : h_C) : Option (Int × h_C) :=
  q_bv (G_SW_isKind v1 c0) fun r3 =>
  if r3 = 0 then
    GB_SW_gear_25 c0
  else
    q_bv (G_SW_isTakerKind v1 c0) fun r8 =>
    if r8 = 0 then
      GB_SW_gear_32 v1 v2 c0
    else
      if v2 < 1 then
        GB_SW_gear_25 c0
      else
        if v2 ≤ 8 then
          GB_SW_gear_32 v1 v2 c0
        else
          GB_SW_gear_25 c0
set_option maxRecDepth 100000 in
set_option maxHeartbeats 4000000 in
theorem uB_SW_gear_25 (m : h_M)   (c0 : h_C) (r : (Int × h_C)) (h : GB_SW_gear_25  c0 = some r) : B_SW_gear_25 1 (h_H c0 m) = some (r.1, (h_H r.2 m)) := by
  unfold GB_SW_gear_25 at h
  unfold B_SW_gear_25
  refine gdT (isD c0 m d600) ?_
  obtain ⟨r3, c4, q1, h⟩ := q_bdE h
  refine bdC (u_SW_refuse m (-2) c0 _ q1) ?_
  cases h
  rfl
set_option maxRecDepth 100000 in
set_option maxHeartbeats 4000000 in
theorem uB_SW_gear_100 (m : h_M)  (v3 : Int) (w0 : Int) (w1 : Nat) (c0 : h_C) (r : (Int × h_C)) (h : GB_SW_gear_100 v3 w0 w1 c0 = some r) : B_SW_gear_100 1 v3 w0 (h_A 0 w1) (h_H c0 m) = some (r.1, (h_H r.2 m)) := by
  unfold GB_SW_gear_100 at h
  unfold B_SW_gear_100
  obtain ⟨g1, h⟩ := p_gdE h
  refine gdT (isD c0 m (d0 g1)) ?_
  refine bS (wf1 c0 m g1 _) h ?_
  intro c2 h
  refine gdT (isD c2 m d600) ?_
  obtain ⟨r6, c7, q4, h⟩ := q_bdE h
  refine bdC (u_SW_built m v3 c2 _ q4) ?_
  cases h
  rfl
set_option maxRecDepth 100000 in
set_option maxHeartbeats 4000000 in
theorem uB_SW_gear_32 (m : h_M)  (v1 : Int) (v2 : Int) (c0 : h_C) (r : (Int × h_C)) (h : GB_SW_gear_32 v1 v2 c0 = some r) : B_SW_gear_32 1 v1 v2 (h_H c0 m) = some (r.1, (h_H r.2 m)) := by
  unfold GB_SW_gear_32 at h
  unfold B_SW_gear_32
  refine gdT (isD c0 m d600) ?_
  obtain ⟨g1, h⟩ := p_gdE h
  try rw [rm5000 c0 m g1]
  have hv2 : vW (c0 5000 0 0).toNat := by omega
  refine gdT (isD c0 m (d200 hv2)) ?_
  try rw [zf202 c0 m hv2]
  refine iteC Iff.rfl h (fun b3 h => ?_) (fun b3 h => ?_)
  · try rw [rm5000 c0 m g1]
    try rw [zf202 c0 m hv2]
    refine bS (wf202 c0 m hv2 _) h ?_
    intro c4 h
    refine bV h ?_
    intro x7 h
    obtain ⟨g8, h⟩ := p_gdE h
    try rw [rm5000 c4 m g8]
    have hv9 : vW (c4 5000 0 0).toNat := by omega
    refine gdT (isD c4 m (d200 hv9)) ?_
    try rw [rD c4 m (rr200_1 hv9)]
    refine gdT (isD c4 m (d300 hv9)) ?_
    try rw [rD c4 m (rr300_4 hv9)]
    refine gdT (isD c4 m (d2001 hv9)) ?_
    obtain ⟨g10, h⟩ := p_gdE h
    refine gdT ⟨g10.1, by (try rw [lenD c4 m (d2001 hv9)]); exact g10.2⟩ ?_
    try rw [rD c4 m (el2001 (k := (x7 : Int).toNat) hv9 (Nat.zero_le _) (by omega))]
    have hv11 : vG (40 * (c4 5000 0 0).toNat + (x7 : Int).toNat + 1) := ⟨by omega, by have := hv9; omega⟩
    refine bX ?_
    refine gdT (isD c4 m (d0 hv11)) ?_
    obtain ⟨c15, q13, h⟩ := q_bvE h
    refine bvC (u_Gear_begin m (40 * (c4 5000 0 0).toNat + (x7 : Int).toNat + 1) v1 c4 _ q13) ?_
    obtain ⟨r18, q16, h⟩ := q_bvE h
    refine bdC (u_SW_isTakerKind m v1 c15 _ q16) ?_
    refine iteC Iff.rfl h (fun b20 h => ?_) (fun b20 h => ?_)
    · exact uB_SW_gear_100 m x7 0 (40 * (c4 5000 0 0).toNat + (x7 : Int).toNat + 1) c15 _ h
    · exact uB_SW_gear_100 m x7 v2 (40 * (c4 5000 0 0).toNat + (x7 : Int).toNat + 1) c15 _ h
  · obtain ⟨r23, c24, q21, h⟩ := q_bdE h
    refine bdC (u_SW_refuse m (-4) c0 _ q21) ?_
    cases h
    rfl
set_option maxRecDepth 100000 in
set_option maxHeartbeats 4000000 in
theorem u_SW_gear (m : h_M) (v1 : Int) (v2 : Int) (c0 : h_C) (r : (Int × h_C)) (h : G_SW_gear v1 v2 c0 = some r) : F_SW_gear 1 v1 v2 (h_H c0 m) = some (r.1, (h_H r.2 m)) := by
  unfold G_SW_gear at h
  unfold F_SW_gear
  obtain ⟨r3, q1, h⟩ := q_bvE h
  refine bdC (u_SW_isKind m v1 c0 _ q1) ?_
  refine iteC Iff.rfl h (fun b5 h => ?_) (fun b5 h => ?_)
  · exact uB_SW_gear_25 m c0 _ h
  · obtain ⟨r8, q6, h⟩ := q_bvE h
    refine bdC (u_SW_isTakerKind m v1 c0 _ q6) ?_
    refine iteC Iff.rfl h (fun b10 h => ?_) (fun b10 h => ?_)
    · exact uB_SW_gear_32 m v1 v2 c0 _ h
    · refine iteC Iff.rfl h (fun b11 h => ?_) (fun b11 h => ?_)
      · exact uB_SW_gear_25 m c0 _ h
      · refine iteC Iff.rfl h (fun b12 h => ?_) (fun b12 h => ?_)
        · exact uB_SW_gear_32 m v1 v2 c0 _ h
        · exact uB_SW_gear_25 m c0 _ h
def G_Works_gearOf (v0 : Nat) (v1 : Int) (c0 : h_C) : Option Nat :=
  if v1 < 0 then
    some 0
  else
    p_gd (vW v0) <|
    if (c0 202 v0 0) ≤ v1 then
      some 0
    else
      p_gd ((0 : Int) ≤ v1 ∧ v1 < (40 : Int)) <|
      some (40 * v0 + (v1 : Int).toNat + 1)
set_option maxRecDepth 100000 in
set_option maxHeartbeats 4000000 in
theorem u_Works_gearOf (m : h_M) (v0 : Nat) (v1 : Int) (c0 : h_C) (r : Nat) (h : G_Works_gearOf v0 v1 c0 = some r) : F_Works_gearOf (h_A 200 v0) v1 (h_H c0 m) = some (h_A 0 r, (h_H c0 m)) := by
  unfold G_Works_gearOf at h
  unfold F_Works_gearOf
  refine iteC Iff.rfl h (fun b1 h => ?_) (fun b1 h => ?_)
  · cases h
    rfl
  · obtain ⟨g2, h⟩ := p_gdE h
    refine gdT (isD c0 m (d200 g2)) ?_
    try rw [zf202 c0 m g2]
    refine iteC Iff.rfl h (fun b3 h => ?_) (fun b3 h => ?_)
    · cases h
      rfl
    · try rw [rD c0 m (rr200_1 g2)]
      refine gdT (isD c0 m (d300 g2)) ?_
      try rw [rD c0 m (rr300_4 g2)]
      refine gdT (isD c0 m (d2001 g2)) ?_
      obtain ⟨g4, h⟩ := p_gdE h
      refine gdT ⟨g4.1, by (try rw [lenD c0 m (d2001 g2)]); exact g4.2⟩ ?_
      try rw [rD c0 m (el2001 (k := (v1 : Int).toNat) g2 (Nat.zero_le _) (by omega))]
      have hv5 : vG (40 * v0 + (v1 : Int).toNat + 1) := ⟨by omega, by have := g2; omega⟩
      cases h
      rfl
def G_SW_links (v1 : Int) (v2 : Int) (c0 : h_C) : Option (Int × h_C) :=
  p_gd (0 ≤ c0 5000 0 0 ∧ c0 5000 0 0 < 3) <|
  q_bv (G_Works_gearOf (c0 5000 0 0).toNat v1 c0) fun r5 =>
  if r5 ≠ 0 then
    if v2 ≤ 3 then
      if (-1) ≤ v2 then
        p_gd (vG r5) <|
        p_bi (sr c0 2010 r5 (fl (c0 2010 r5) 3 (-1))) fun c11 =>
        p_bi (wc c11 3 r5 0 v2) fun c13 =>
        q_bd (G_SW_built v2 c13) fun r17 c18 =>
        some (r17, c18)
      else
        q_bd (G_SW_refuse (-15) c0) fun r22 c23 =>
        some (r22, c23)
    else
      q_bd (G_SW_refuse (-2) c0) fun r27 c28 =>
      some (r27, c28)
  else
    q_bd (G_SW_refuse (-1) c0) fun r32 c33 =>
    some (r32, c33)
set_option maxRecDepth 100000 in
set_option maxHeartbeats 4000000 in
theorem u_SW_links (m : h_M) (v1 : Int) (v2 : Int) (c0 : h_C) (r : (Int × h_C)) (h : G_SW_links v1 v2 c0 = some r) : F_SW_links 1 v1 v2 (h_H c0 m) = some (r.1, (h_H r.2 m)) := by
  unfold G_SW_links at h
  unfold F_SW_links
  refine gdT (isD c0 m d600) ?_
  obtain ⟨g1, h⟩ := p_gdE h
  try rw [rm5000 c0 m g1]
  have hv2 : vW (c0 5000 0 0).toNat := by omega
  refine gdT (isD c0 m (d200 hv2)) ?_
  obtain ⟨r5, q3, h⟩ := q_bvE h
  refine bdC (u_Works_gearOf m (c0 5000 0 0).toNat v1 c0 _ q3) ?_
  refine iteC (ne_iff (h_A0z _)) h (fun b7 h => ?_) (fun b7 h => ?_)
  · refine iteC Iff.rfl h (fun b8 h => ?_) (fun b8 h => ?_)
    · refine iteC Iff.rfl h (fun b9 h => ?_) (fun b9 h => ?_)
      · obtain ⟨g10, h⟩ := p_gdE h
        refine gdT (isD c0 m (d0 g10)) ?_
        try rw [rD c0 m (rr0_4 g10)]
        refine bvS (fillI c0 m (d2010 g10) (by decide) _) h ?_
        intro c11 h
        refine bS (wf3 c11 m g10 _) h ?_
        intro c13 h
        obtain ⟨r17, c18, q15, h⟩ := q_bdE h
        refine bdC (u_SW_built m v2 c13 _ q15) ?_
        cases h
        rfl
      · obtain ⟨r22, c23, q20, h⟩ := q_bdE h
        refine bdC (u_SW_refuse m (-15) c0 _ q20) ?_
        cases h
        rfl
    · obtain ⟨r27, c28, q25, h⟩ := q_bdE h
      refine bdC (u_SW_refuse m (-2) c0 _ q25) ?_
      cases h
      rfl
  · obtain ⟨r32, c33, q30, h⟩ := q_bdE h
    refine bdC (u_SW_refuse m (-1) c0 _ q30) ?_
    cases h
    rfl
def GB_SW_link_32   (c0 : h_C) : Option (Int × h_C) :=
  q_bd (G_SW_refuse (-2) c0) fun r3 c4 =>
  some (r3, c4)
def GB_SW_link_68   (c0 : h_C) : Option (Int × h_C) :=
  q_bd (G_SW_refuse (-13) c0) fun r3 c4 =>
  some (r3, c4)
def G_SW_link (v1 : Int) (v2 : Int) (v3 : Int) (c0 : h_C) : Option (Int × h_C) :=
  p_gd (0 ≤ c0 5000 0 0 ∧ c0 5000 0 0 < 3) <|
  q_bv (G_Works_gearOf (c0 5000 0 0).toNat v1 c0) fun r5 =>
  if r5 ≠ 0 then
    if v3 < (-1) then
      GB_SW_link_32 c0
    else
      if v3 < 40 then
        p_gd (vG r5) <|
        if (c0 3 r5 0) ≠ (-1) then
          if v2 < 0 then
            GB_SW_link_68 c0
          else
            if v2 < (c0 3 r5 0) then
              p_gd ((0 : Int) ≤ v2 ∧ v2 < (3 : Int)) <|
              p_bi (wc c0 2010 r5 (v2 : Int).toNat v3) fun c15 =>
              q_bd (G_SW_built 1 c15) fun r19 c20 =>
              some (r19, c20)
            else
              GB_SW_link_68 c0
        else
          q_bd (G_SW_refuse (-11) c0) fun r24 c25 =>
          some (r24, c25)
      else
        GB_SW_link_32 c0
  else
    q_bd (G_SW_refuse (-1) c0) fun r29 c30 =>
    some (r29, c30)
set_option maxRecDepth 100000 in
set_option maxHeartbeats 4000000 in
theorem uB_SW_link_32 (m : h_M)   (c0 : h_C) (r : (Int × h_C)) (h : GB_SW_link_32  c0 = some r) : B_SW_link_32 1 (h_H c0 m) = some (r.1, (h_H r.2 m)) := by
  unfold GB_SW_link_32 at h
  unfold B_SW_link_32
  refine gdT (isD c0 m d600) ?_
  obtain ⟨r3, c4, q1, h⟩ := q_bdE h
  refine bdC (u_SW_refuse m (-2) c0 _ q1) ?_
  cases h
  rfl
set_option maxRecDepth 100000 in
set_option maxHeartbeats 4000000 in
theorem uB_SW_link_68 (m : h_M)   (c0 : h_C) (r : (Int × h_C)) (h : GB_SW_link_68  c0 = some r) : B_SW_link_68 1 (h_H c0 m) = some (r.1, (h_H r.2 m)) := by
  unfold GB_SW_link_68 at h
  unfold B_SW_link_68
  refine gdT (isD c0 m d600) ?_
  obtain ⟨r3, c4, q1, h⟩ := q_bdE h
  refine bdC (u_SW_refuse m (-13) c0 _ q1) ?_
  cases h
  rfl
set_option maxRecDepth 100000 in
set_option maxHeartbeats 4000000 in
theorem u_SW_link (m : h_M) (v1 : Int) (v2 : Int) (v3 : Int) (c0 : h_C) (r : (Int × h_C)) (h : G_SW_link v1 v2 v3 c0 = some r) : F_SW_link 1 v1 v2 v3 (h_H c0 m) = some (r.1, (h_H r.2 m)) := by
  unfold G_SW_link at h
  unfold F_SW_link
  refine gdT (isD c0 m d600) ?_
  obtain ⟨g1, h⟩ := p_gdE h
  try rw [rm5000 c0 m g1]
  have hv2 : vW (c0 5000 0 0).toNat := by omega
  refine gdT (isD c0 m (d200 hv2)) ?_
  obtain ⟨r5, q3, h⟩ := q_bvE h
  refine bdC (u_Works_gearOf m (c0 5000 0 0).toNat v1 c0 _ q3) ?_
  refine iteC (ne_iff (h_A0z _)) h (fun b7 h => ?_) (fun b7 h => ?_)
  · refine iteC Iff.rfl h (fun b8 h => ?_) (fun b8 h => ?_)
    · exact uB_SW_link_32 m c0 _ h
    · refine iteC Iff.rfl h (fun b9 h => ?_) (fun b9 h => ?_)
      · obtain ⟨g10, h⟩ := p_gdE h
        refine gdT (isD c0 m (d0 g10)) ?_
        try rw [zf3 c0 m g10]
        refine iteC Iff.rfl h (fun b11 h => ?_) (fun b11 h => ?_)
        · refine iteC Iff.rfl h (fun b12 h => ?_) (fun b12 h => ?_)
          · exact uB_SW_link_68 m c0 _ h
          · try rw [zf3 c0 m g10]
            refine iteC Iff.rfl h (fun b13 h => ?_) (fun b13 h => ?_)
            · try rw [rD c0 m (rr0_4 g10)]
              refine gdT (isD c0 m (d2010 g10)) ?_
              obtain ⟨g14, h⟩ := p_gdE h
              refine gdT ⟨g14.1, by (try rw [lenD c0 m (d2010 g10)]); exact g14.2⟩ ?_
              refine bS (wA c0 m (d2010 g10) (by decide) _ _) h ?_
              intro c15 h
              obtain ⟨r19, c20, q17, h⟩ := q_bdE h
              refine bdC (u_SW_built m 1 c15 _ q17) ?_
              cases h
              rfl
            · exact uB_SW_link_68 m c0 _ h
        · obtain ⟨r24, c25, q22, h⟩ := q_bdE h
          refine bdC (u_SW_refuse m (-11) c0 _ q22) ?_
          cases h
          rfl
      · exact uB_SW_link_32 m c0 _ h
  · obtain ⟨r29, c30, q27, h⟩ := q_bdE h
    refine bdC (u_SW_refuse m (-1) c0 _ q27) ?_
    cases h
    rfl
def G_Gear_aimAt (v0 : Nat) (v1 : Int) (v2 : Int) (v3 : Int) (c0 : h_C) : Option h_C :=
  p_bi ((p_shl6 1 v2)) fun x2 =>
  p_gd (vG v0) <|
  if v3 = 0 then
    p_gd ((0 : Int) ≤ v1 ∧ v1 < (3 : Int)) <|
    p_bi (wc c0 2011 v0 (v1 : Int).toNat (p_and6 (c0 2011 v0 (v1 : Int).toNat) (p_xor6 x2 (-1)))) fun c6 =>
    some c6
  else
    p_gd ((0 : Int) ≤ v1 ∧ v1 < (3 : Int)) <|
    p_bi (wc c0 2011 v0 (v1 : Int).toNat (p_or6 (c0 2011 v0 (v1 : Int).toNat) x2)) fun c9 =>
    some c9
set_option maxRecDepth 100000 in
set_option maxHeartbeats 4000000 in
theorem u_Gear_aimAt (m : h_M) (v0 : Nat) (v1 : Int) (v2 : Int) (v3 : Int) (c0 : h_C) (r : h_C) (h : G_Gear_aimAt v0 v1 v2 v3 c0 = some r) : F_Gear_aimAt (h_A 0 v0) v1 v2 v3 (h_H c0 m) = some (h_H r m) := by
  unfold G_Gear_aimAt at h
  unfold F_Gear_aimAt
  refine bV h ?_
  intro x2 h
  obtain ⟨g3, h⟩ := p_gdE h
  refine gdT (isD c0 m (d0 g3)) ?_
  try rw [rD c0 m (rr0_5 g3)]
  refine iteC Iff.rfl h (fun b4 h => ?_) (fun b4 h => ?_)
  · try rw [rD c0 m (rr0_5 g3)]
    refine gdT (isD c0 m (d2011 g3)) ?_
    obtain ⟨g5, h⟩ := p_gdE h
    refine gdT ⟨g5.1, by (try rw [lenD c0 m (d2011 g3)]); exact g5.2⟩ ?_
    try rw [zA c0 m (d2011 g3) (by decide) (v1 : Int).toNat]
    refine gdT ⟨g5.1, by (try rw [lenD c0 m (d2011 g3)]); exact g5.2⟩ ?_
    refine bS (wA c0 m (d2011 g3) (by decide) _ _) h ?_
    intro c6 h
    cases h
    rfl
  · try rw [rD c0 m (rr0_5 g3)]
    refine gdT (isD c0 m (d2011 g3)) ?_
    obtain ⟨g8, h⟩ := p_gdE h
    refine gdT ⟨g8.1, by (try rw [lenD c0 m (d2011 g3)]); exact g8.2⟩ ?_
    try rw [zA c0 m (d2011 g3) (by decide) (v1 : Int).toNat]
    refine gdT ⟨g8.1, by (try rw [lenD c0 m (d2011 g3)]); exact g8.2⟩ ?_
    refine bS (wA c0 m (d2011 g3) (by decide) _ _) h ?_
    intro c9 h
    cases h
    rfl
def G_Gear_aims (v0 : Nat) (v1 : Int) (v2 : Int) (c0 : h_C) : Option Int :=
  if v2 < 0 then
    some 0
  else
    p_gd (vG v0) <|
    p_gd ((0 : Int) ≤ v1 ∧ v1 < (3 : Int)) <|
    if (p_cmp (p_and6 (p_ushr6 (c0 2011 v0 (v1 : Int).toNat) v2) 1) 1) ≠ 0 then
      some 0
    else
      some 1
set_option maxRecDepth 100000 in
set_option maxHeartbeats 4000000 in
theorem u_Gear_aims (m : h_M) (v0 : Nat) (v1 : Int) (v2 : Int) (c0 : h_C) (r : Int) (h : G_Gear_aims v0 v1 v2 c0 = some r) : F_Gear_aims (h_A 0 v0) v1 v2 (h_H c0 m) = some (r, (h_H c0 m)) := by
  unfold G_Gear_aims at h
  unfold F_Gear_aims
  refine iteC Iff.rfl h (fun b1 h => ?_) (fun b1 h => ?_)
  · cases h
    rfl
  · obtain ⟨g2, h⟩ := p_gdE h
    refine gdT (isD c0 m (d0 g2)) ?_
    try rw [rD c0 m (rr0_5 g2)]
    refine gdT (isD c0 m (d2011 g2)) ?_
    obtain ⟨g3, h⟩ := p_gdE h
    refine gdT ⟨g3.1, by (try rw [lenD c0 m (d2011 g2)]); exact g3.2⟩ ?_
    try rw [zA c0 m (d2011 g2) (by decide) (v1 : Int).toNat]
    refine iteC Iff.rfl h (fun b4 h => ?_) (fun b4 h => ?_)
    · cases h
      rfl
    · cases h
      rfl
def G_Gear_hasSide (v0 : Nat) (v1 : Int) (c0 : h_C) : Option Int :=
  if v1 < 0 then
    some 0
  else
    p_gd (vG v0) <|
    p_gd ((0 : Int) ≤ (c0 0 v0 0) ∧ (c0 0 v0 0) < (sw_tl 1 : Int)) <|
    if (sw_tab 1 ((c0 0 v0 0) : Int).toNat) ≤ v1 then
      some 0
    else
      some 1
set_option maxRecDepth 100000 in
set_option maxHeartbeats 4000000 in
theorem u_Gear_hasSide (m : h_M) (v0 : Nat) (v1 : Int) (c0 : h_C) (r : Int) (h : G_Gear_hasSide v0 v1 c0 = some r) : F_Gear_hasSide (h_A 0 v0) v1 (h_H c0 m) = some (r, (h_H c0 m)) := by
  unfold G_Gear_hasSide at h
  unfold F_Gear_hasSide
  refine iteC Iff.rfl h (fun b1 h => ?_) (fun b1 h => ?_)
  · cases h
    rfl
  · obtain ⟨g2, h⟩ := p_gdE h
    refine gdT (isD c0 m (d0 g2)) ?_
    try rw [zf0 c0 m g2]
    obtain ⟨g3, h⟩ := p_gdE h
    refine gdT g3 ?_
    refine iteC Iff.rfl h (fun b4 h => ?_) (fun b4 h => ?_)
    · cases h
      rfl
    · cases h
      rfl
def GB_Gear_isDivert_17   (c0 : h_C) : Option Int :=
  some 1
def G_Gear_isDivert (v0 : Nat) (c0 : h_C) : Option Int :=
  p_gd (vG v0) <|
  if (c0 0 v0 0) = 5 then
    GB_Gear_isDivert_17 c0
  else
    if (c0 0 v0 0) ≠ 6 then
      some 0
    else
      GB_Gear_isDivert_17 c0
set_option maxRecDepth 100000 in
set_option maxHeartbeats 4000000 in
theorem uB_Gear_isDivert_17 (m : h_M)   (c0 : h_C) (r : Int) (h : GB_Gear_isDivert_17  c0 = some r) : B_Gear_isDivert_17  (h_H c0 m) = some (r, (h_H c0 m)) := by
  unfold GB_Gear_isDivert_17 at h
  unfold B_Gear_isDivert_17
  cases h
  rfl
set_option maxRecDepth 100000 in
set_option maxHeartbeats 4000000 in
theorem u_Gear_isDivert (m : h_M) (v0 : Nat) (c0 : h_C) (r : Int) (h : G_Gear_isDivert v0 c0 = some r) : F_Gear_isDivert (h_A 0 v0) (h_H c0 m) = some (r, (h_H c0 m)) := by
  unfold G_Gear_isDivert at h
  unfold F_Gear_isDivert
  obtain ⟨g1, h⟩ := p_gdE h
  refine gdT (isD c0 m (d0 g1)) ?_
  try rw [zf0 c0 m g1]
  refine iteC Iff.rfl h (fun b2 h => ?_) (fun b2 h => ?_)
  · exact uB_Gear_isDivert_17 m c0 _ h
  · try rw [zf0 c0 m g1]
    refine iteC Iff.rfl h (fun b3 h => ?_) (fun b3 h => ?_)
    · cases h
      rfl
    · exact uB_Gear_isDivert_17 m c0 _ h
def GB_SW_aim_41   (c0 : h_C) : Option (Int × h_C) :=
  q_bd (G_SW_refuse (-2) c0) fun r3 c4 =>
  some (r3, c4)
def GB_SW_aim_110  (w0 : Int) (c0 : h_C) : Option (Int × h_C) :=
  q_bd (G_SW_built w0 c0) fun r3 c4 =>
  some (r3, c4)
def G_SW_aim (v1 : Int) (v2 : Int) (v3 : Int) (v4 : Int) (c0 : h_C) : Option (Int × h_C) :=
  p_gd (0 ≤ c0 5000 0 0 ∧ c0 5000 0 0 < 3) <|
  q_bv (G_Works_gearOf (c0 5000 0 0).toNat v1 c0) fun r5 =>
  if r5 ≠ 0 then
    if v2 < 1 then
      GB_SW_aim_41 c0
    else
      if 2 < v2 then
        GB_SW_aim_41 c0
      else
        if v3 < 0 then
          GB_SW_aim_41 c0
        else
          if v3 < 40 then
            p_gd (vG r5) <|
            q_bv (G_Gear_isDivert r5 c0) fun r15 =>
            if r15 ≠ 0 then
              q_bv (G_Gear_hasSide r5 v2 c0) fun r20 =>
              if r20 ≠ 0 then
                q_bv (G_Gear_aims r5 v2 v3 c0) fun r25 =>
                q_bv (G_Gear_aimAt r5 v2 v3 v4 c0) fun c29 =>
                if r25 ≠ v4 then
                  GB_SW_aim_110 1 c29
                else
                  GB_SW_aim_110 0 c29
              else
                q_bd (G_SW_refuse (-13) c0) fun r33 c34 =>
                some (r33, c34)
            else
              q_bd (G_SW_refuse (-12) c0) fun r38 c39 =>
              some (r38, c39)
          else
            GB_SW_aim_41 c0
  else
    q_bd (G_SW_refuse (-1) c0) fun r43 c44 =>
    some (r43, c44)
set_option maxRecDepth 100000 in
set_option maxHeartbeats 4000000 in
theorem uB_SW_aim_41 (m : h_M)   (c0 : h_C) (r : (Int × h_C)) (h : GB_SW_aim_41  c0 = some r) : B_SW_aim_41 1 (h_H c0 m) = some (r.1, (h_H r.2 m)) := by
  unfold GB_SW_aim_41 at h
  unfold B_SW_aim_41
  refine gdT (isD c0 m d600) ?_
  obtain ⟨r3, c4, q1, h⟩ := q_bdE h
  refine bdC (u_SW_refuse m (-2) c0 _ q1) ?_
  cases h
  rfl
set_option maxRecDepth 100000 in
set_option maxHeartbeats 4000000 in
theorem uB_SW_aim_110 (m : h_M)  (w0 : Int) (c0 : h_C) (r : (Int × h_C)) (h : GB_SW_aim_110 w0 c0 = some r) : B_SW_aim_110 w0 1 (h_H c0 m) = some (r.1, (h_H r.2 m)) := by
  unfold GB_SW_aim_110 at h
  unfold B_SW_aim_110
  refine gdT (isD c0 m d600) ?_
  obtain ⟨r3, c4, q1, h⟩ := q_bdE h
  refine bdC (u_SW_built m w0 c0 _ q1) ?_
  cases h
  rfl
set_option maxRecDepth 100000 in
set_option maxHeartbeats 4000000 in
theorem u_SW_aim (m : h_M) (v1 : Int) (v2 : Int) (v3 : Int) (v4 : Int) (c0 : h_C) (r : (Int × h_C)) (h : G_SW_aim v1 v2 v3 v4 c0 = some r) : F_SW_aim 1 v1 v2 v3 v4 (h_H c0 m) = some (r.1, (h_H r.2 m)) := by
  unfold G_SW_aim at h
  unfold F_SW_aim
  refine gdT (isD c0 m d600) ?_
  obtain ⟨g1, h⟩ := p_gdE h
  try rw [rm5000 c0 m g1]
  have hv2 : vW (c0 5000 0 0).toNat := by omega
  refine gdT (isD c0 m (d200 hv2)) ?_
  obtain ⟨r5, q3, h⟩ := q_bvE h
  refine bdC (u_Works_gearOf m (c0 5000 0 0).toNat v1 c0 _ q3) ?_
  refine iteC (ne_iff (h_A0z _)) h (fun b7 h => ?_) (fun b7 h => ?_)
  · refine iteC Iff.rfl h (fun b8 h => ?_) (fun b8 h => ?_)
    · exact uB_SW_aim_41 m c0 _ h
    · refine iteC Iff.rfl h (fun b9 h => ?_) (fun b9 h => ?_)
      · exact uB_SW_aim_41 m c0 _ h
      · refine iteC Iff.rfl h (fun b10 h => ?_) (fun b10 h => ?_)
        · exact uB_SW_aim_41 m c0 _ h
        · refine iteC Iff.rfl h (fun b11 h => ?_) (fun b11 h => ?_)
          · obtain ⟨g12, h⟩ := p_gdE h
            refine gdT (isD c0 m (d0 g12)) ?_
            obtain ⟨r15, q13, h⟩ := q_bvE h
            refine bdC (u_Gear_isDivert m r5 c0 _ q13) ?_
            refine iteC Iff.rfl h (fun b17 h => ?_) (fun b17 h => ?_)
            · obtain ⟨r20, q18, h⟩ := q_bvE h
              refine bdC (u_Gear_hasSide m r5 v2 c0 _ q18) ?_
              refine iteC Iff.rfl h (fun b22 h => ?_) (fun b22 h => ?_)
              · obtain ⟨r25, q23, h⟩ := q_bvE h
                refine bdC (u_Gear_aims m r5 v2 v3 c0 _ q23) ?_
                obtain ⟨c29, q27, h⟩ := q_bvE h
                refine bvC (u_Gear_aimAt m r5 v2 v3 v4 c0 _ q27) ?_
                refine iteC Iff.rfl h (fun b30 h => ?_) (fun b30 h => ?_)
                · exact uB_SW_aim_110 m 1 c29 _ h
                · exact uB_SW_aim_110 m 0 c29 _ h
              · obtain ⟨r33, c34, q31, h⟩ := q_bdE h
                refine bdC (u_SW_refuse m (-13) c0 _ q31) ?_
                cases h
                rfl
            · obtain ⟨r38, c39, q36, h⟩ := q_bdE h
              refine bdC (u_SW_refuse m (-12) c0 _ q36) ?_
              cases h
              rfl
          · exact uB_SW_aim_41 m c0 _ h
  · obtain ⟨r43, c44, q41, h⟩ := q_bdE h
    refine bdC (u_SW_refuse m (-1) c0 _ q41) ?_
    cases h
    rfl
def G_Gear_isTaker (v0 : Nat) (c0 : h_C) : Option Int :=
  p_gd (vG v0) <|
  q_bv (G_SW_isTakerKind (c0 0 v0 0) c0) fun r4 =>
  p_gd (r4 = 0 ∨ r4 = 1) <|
  some r4
set_option maxRecDepth 100000 in
set_option maxHeartbeats 4000000 in
theorem u_Gear_isTaker (m : h_M) (v0 : Nat) (c0 : h_C) (r : Int) (h : G_Gear_isTaker v0 c0 = some r) : F_Gear_isTaker (h_A 0 v0) (h_H c0 m) = some (r, (h_H c0 m)) := by
  unfold G_Gear_isTaker at h
  unfold F_Gear_isTaker
  obtain ⟨g1, h⟩ := p_gdE h
  refine gdT (isD c0 m (d0 g1)) ?_
  try rw [zf0 c0 m g1]
  obtain ⟨r4, q2, h⟩ := q_bvE h
  refine bdC (u_SW_isTakerKind m (c0 0 v0 0) c0 _ q2) ?_
  obtain ⟨g6, h⟩ := p_gdE h
  refine gdT g6 ?_
  cases h
  rfl
def GB_SW_rank_29   (c0 : h_C) : Option (Int × h_C) :=
  q_bd (G_SW_refuse (-2) c0) fun r3 c4 =>
  some (r3, c4)
def G_SW_rank (v1 : Int) (v2 : Int) (c0 : h_C) : Option (Int × h_C) :=
  p_gd (0 ≤ c0 5000 0 0 ∧ c0 5000 0 0 < 3) <|
  q_bv (G_Works_gearOf (c0 5000 0 0).toNat v1 c0) fun r5 =>
  if r5 ≠ 0 then
    if v2 < 0 then
      GB_SW_rank_29 c0
    else
      if v2 ≤ 9 then
        p_gd (vG r5) <|
        q_bv (G_Gear_isTaker r5 c0) fun r13 =>
        if r13 ≠ 0 then
          p_bi ((c0 2 r5 0)) fun x17 =>
          p_bi (wc c0 2 r5 0 v2) fun c18 =>
          q_bd (G_SW_built x17 c18) fun r22 c23 =>
          some (r22, c23)
        else
          q_bd (G_SW_refuse (-12) c0) fun r27 c28 =>
          some (r27, c28)
      else
        GB_SW_rank_29 c0
  else
    q_bd (G_SW_refuse (-1) c0) fun r32 c33 =>
    some (r32, c33)
set_option maxRecDepth 100000 in
set_option maxHeartbeats 4000000 in
theorem uB_SW_rank_29 (m : h_M)   (c0 : h_C) (r : (Int × h_C)) (h : GB_SW_rank_29  c0 = some r) : B_SW_rank_29 1 (h_H c0 m) = some (r.1, (h_H r.2 m)) := by
  unfold GB_SW_rank_29 at h
  unfold B_SW_rank_29
  refine gdT (isD c0 m d600) ?_
  obtain ⟨r3, c4, q1, h⟩ := q_bdE h
  refine bdC (u_SW_refuse m (-2) c0 _ q1) ?_
  cases h
  rfl
set_option maxRecDepth 100000 in
set_option maxHeartbeats 4000000 in
theorem u_SW_rank (m : h_M) (v1 : Int) (v2 : Int) (c0 : h_C) (r : (Int × h_C)) (h : G_SW_rank v1 v2 c0 = some r) : F_SW_rank 1 v1 v2 (h_H c0 m) = some (r.1, (h_H r.2 m)) := by
  unfold G_SW_rank at h
  unfold F_SW_rank
  refine gdT (isD c0 m d600) ?_
  obtain ⟨g1, h⟩ := p_gdE h
  try rw [rm5000 c0 m g1]
  have hv2 : vW (c0 5000 0 0).toNat := by omega
  refine gdT (isD c0 m (d200 hv2)) ?_
  obtain ⟨r5, q3, h⟩ := q_bvE h
  refine bdC (u_Works_gearOf m (c0 5000 0 0).toNat v1 c0 _ q3) ?_
  refine iteC (ne_iff (h_A0z _)) h (fun b7 h => ?_) (fun b7 h => ?_)
  · refine iteC Iff.rfl h (fun b8 h => ?_) (fun b8 h => ?_)
    · exact uB_SW_rank_29 m c0 _ h
    · refine iteC Iff.rfl h (fun b9 h => ?_) (fun b9 h => ?_)
      · obtain ⟨g10, h⟩ := p_gdE h
        refine gdT (isD c0 m (d0 g10)) ?_
        obtain ⟨r13, q11, h⟩ := q_bvE h
        refine bdC (u_Gear_isTaker m r5 c0 _ q11) ?_
        refine iteC Iff.rfl h (fun b15 h => ?_) (fun b15 h => ?_)
        · try rw [zf2 c0 m g10]
          refine bV h ?_
          intro x17 h
          refine bS (wf2 c0 m g10 _) h ?_
          intro c18 h
          obtain ⟨r22, c23, q20, h⟩ := q_bdE h
          refine bdC (u_SW_built m x17 c18 _ q20) ?_
          cases h
          rfl
        · obtain ⟨r27, c28, q25, h⟩ := q_bdE h
          refine bdC (u_SW_refuse m (-12) c0 _ q25) ?_
          cases h
          rfl
      · exact uB_SW_rank_29 m c0 _ h
  · obtain ⟨r32, c33, q30, h⟩ := q_bdE h
    refine bdC (u_SW_refuse m (-1) c0 _ q30) ?_
    cases h
    rfl
def GB_Gear_parcels_24 (k4 : Nat → Int → Int → h_C → Option Int) (v0 : Nat) (v1 : Int) (v2 : Int) (c0 : h_C) : Option Int :=
  p_bi (p_w (v2 + 1)) fun x1 =>
  k4 v0 v1 x1 c0
def GL_Gear_parcels_4 (k4 : Nat → Int → Int → h_C → Option Int) (v0 : Nat) (v1 : Int) (v2 : Int) (c0 : h_C) : Option Int :=
  p_gd (vG v0) <|
  if (c0 1 v0 0) ≤ v2 then
    some v1
  else
    p_gd ((0 : Int) ≤ v2 ∧ v2 < (8 : Int)) <|
    if (c0 2012 v0 (v2 : Int).toNat) = 0 then
      GB_Gear_parcels_24 k4 v0 v1 v2 c0
    else
      p_bi (p_w (v1 + 1)) fun x5 =>
      GB_Gear_parcels_24 k4 v0 x5 v2 c0
def GO_Gear_parcels_4  : Nat → Nat → Int → Int → h_C → Option Int
  | 0 => fun _ _ _ _ => none
  | n + 1 => GL_Gear_parcels_4 (GO_Gear_parcels_4 n)
def G_Gear_parcels (v0 : Nat) (c0 : h_C) : Option Int :=
  GO_Gear_parcels_4 3000 v0 0 0 c0
set_option maxRecDepth 100000 in
set_option maxHeartbeats 4000000 in
theorem uB_Gear_parcels_24 (m : h_M) (j4 : Nat → Int → Int → p_Hp → Option (Int × p_Hp)) (k4 : Nat → Int → Int → h_C → Option Int) (hk4 : ∀ (v0 : Nat) (v1 : Int) (v2 : Int) (c0 : h_C) (r : Int), k4 v0 v1 v2 c0 = some r → j4 (h_A 0 v0) v1 v2 (h_H c0 m) = some (r, (h_H c0 m))) (v0 : Nat) (v1 : Int) (v2 : Int) (c0 : h_C) (r : Int) (h : GB_Gear_parcels_24 k4 v0 v1 v2 c0 = some r) : B_Gear_parcels_24 j4 (h_A 0 v0) v1 v2 (h_H c0 m) = some (r, (h_H c0 m)) := by
  unfold GB_Gear_parcels_24 at h
  unfold B_Gear_parcels_24
  refine bV h ?_
  intro x1 h
  exact hk4 v0 v1 x1 c0 _ h
set_option maxRecDepth 100000 in
set_option maxHeartbeats 4000000 in
theorem uL_Gear_parcels_4 (m : h_M) (j4 : Nat → Int → Int → p_Hp → Option (Int × p_Hp)) (k4 : Nat → Int → Int → h_C → Option Int) (hk4 : ∀ (v0 : Nat) (v1 : Int) (v2 : Int) (c0 : h_C) (r : Int), k4 v0 v1 v2 c0 = some r → j4 (h_A 0 v0) v1 v2 (h_H c0 m) = some (r, (h_H c0 m))) (v0 : Nat) (v1 : Int) (v2 : Int) (c0 : h_C) (r : Int) (h : GL_Gear_parcels_4 k4 v0 v1 v2 c0 = some r) : L_Gear_parcels_4 j4 (h_A 0 v0) v1 v2 (h_H c0 m) = some (r, (h_H c0 m)) := by
  unfold GL_Gear_parcels_4 at h
  unfold L_Gear_parcels_4
  obtain ⟨g1, h⟩ := p_gdE h
  refine gdT (isD c0 m (d0 g1)) ?_
  try rw [zf1 c0 m g1]
  refine iteC Iff.rfl h (fun b2 h => ?_) (fun b2 h => ?_)
  · cases h
    rfl
  · try rw [rD c0 m (rr0_17 g1)]
    refine gdT (isD c0 m (d2012 g1)) ?_
    obtain ⟨g3, h⟩ := p_gdE h
    refine gdT ⟨g3.1, by (try rw [lenD c0 m (d2012 g1)]); exact g3.2⟩ ?_
    try rw [zA c0 m (d2012 g1) (by decide) (v2 : Int).toNat]
    refine iteC Iff.rfl h (fun b4 h => ?_) (fun b4 h => ?_)
    · exact uB_Gear_parcels_24 m j4 k4 hk4 v0 v1 v2 c0 _ h
    · refine bV h ?_
      intro x5 h
      exact uB_Gear_parcels_24 m j4 k4 hk4 v0 x5 v2 c0 _ h
set_option maxRecDepth 100000 in
set_option maxHeartbeats 4000000 in
theorem uO_Gear_parcels_4 (m : h_M)  : ∀ (n : Nat) (v0 : Nat) (v1 : Int) (v2 : Int) (c0 : h_C) (r : Int), GO_Gear_parcels_4 n v0 v1 v2 c0 = some r → O_Gear_parcels_4 n (h_A 0 v0) v1 v2 (h_H c0 m) = some (r, (h_H c0 m)) := by
  intro n
  induction n with
  | zero => intro v0 v1 v2 c0 r h; cases h
  | succ n ih => intro v0 v1 v2 c0 r h; exact uL_Gear_parcels_4 m (O_Gear_parcels_4 n) (GO_Gear_parcels_4 n) ih v0 v1 v2 c0 r h
set_option maxRecDepth 100000 in
set_option maxHeartbeats 4000000 in
theorem u_Gear_parcels (m : h_M) (v0 : Nat) (c0 : h_C) (r : Int) (h : G_Gear_parcels v0 c0 = some r) : F_Gear_parcels (h_A 0 v0) (h_H c0 m) = some (r, (h_H c0 m)) := by
  unfold G_Gear_parcels at h
  unfold F_Gear_parcels
  exact uO_Gear_parcels_4 m 3000 v0 0 0 c0 _ h
def G_SW_refit (v1 : Int) (v2 : Int) (c0 : h_C) : Option (Int × h_C) :=
  p_gd (0 ≤ c0 5000 0 0 ∧ c0 5000 0 0 < 3) <|
  q_bv (G_Works_gearOf (c0 5000 0 0).toNat v1 c0) fun r5 =>
  if r5 ≠ 0 then
    q_bv (G_SW_isKind v2 c0) fun r10 =>
    if r10 ≠ 0 then
      p_gd (vG r5) <|
      q_bv (G_Gear_isTaker r5 c0) fun r16 =>
      q_bv (G_SW_isTakerKind v2 c0) fun r20 =>
      if r16 = r20 then
        q_bv (G_Gear_parcels r5 c0) fun r25 =>
        if r25 ≤ 0 then
          p_bi ((c0 0 r5 0)) fun x29 =>
          q_bv (G_Gear_begin r5 v2 c0) fun c32 =>
          q_bd (G_SW_built x29 c32) fun r35 c36 =>
          some (r35, c36)
        else
          q_bd (G_SW_refuse (-3) c0) fun r40 c41 =>
          some (r40, c41)
      else
        q_bd (G_SW_refuse (-12) c0) fun r45 c46 =>
        some (r45, c46)
    else
      q_bd (G_SW_refuse (-2) c0) fun r50 c51 =>
      some (r50, c51)
  else
    q_bd (G_SW_refuse (-1) c0) fun r55 c56 =>
    some (r55, c56)
set_option maxRecDepth 100000 in
set_option maxHeartbeats 4000000 in
theorem u_SW_refit (m : h_M) (v1 : Int) (v2 : Int) (c0 : h_C) (r : (Int × h_C)) (h : G_SW_refit v1 v2 c0 = some r) : F_SW_refit 1 v1 v2 (h_H c0 m) = some (r.1, (h_H r.2 m)) := by
  unfold G_SW_refit at h
  unfold F_SW_refit
  refine gdT (isD c0 m d600) ?_
  obtain ⟨g1, h⟩ := p_gdE h
  try rw [rm5000 c0 m g1]
  have hv2 : vW (c0 5000 0 0).toNat := by omega
  refine gdT (isD c0 m (d200 hv2)) ?_
  obtain ⟨r5, q3, h⟩ := q_bvE h
  refine bdC (u_Works_gearOf m (c0 5000 0 0).toNat v1 c0 _ q3) ?_
  refine iteC (ne_iff (h_A0z _)) h (fun b7 h => ?_) (fun b7 h => ?_)
  · obtain ⟨r10, q8, h⟩ := q_bvE h
    refine bdC (u_SW_isKind m v2 c0 _ q8) ?_
    refine iteC Iff.rfl h (fun b12 h => ?_) (fun b12 h => ?_)
    · obtain ⟨g13, h⟩ := p_gdE h
      refine gdT (isD c0 m (d0 g13)) ?_
      obtain ⟨r16, q14, h⟩ := q_bvE h
      refine bdC (u_Gear_isTaker m r5 c0 _ q14) ?_
      obtain ⟨r20, q18, h⟩ := q_bvE h
      refine bdC (u_SW_isTakerKind m v2 c0 _ q18) ?_
      refine iteC Iff.rfl h (fun b22 h => ?_) (fun b22 h => ?_)
      · obtain ⟨r25, q23, h⟩ := q_bvE h
        refine bdC (u_Gear_parcels m r5 c0 _ q23) ?_
        refine iteC Iff.rfl h (fun b27 h => ?_) (fun b27 h => ?_)
        · try rw [zf0 c0 m g13]
          refine bV h ?_
          intro x29 h
          obtain ⟨c32, q30, h⟩ := q_bvE h
          refine bvC (u_Gear_begin m r5 v2 c0 _ q30) ?_
          obtain ⟨r35, c36, q33, h⟩ := q_bdE h
          refine bdC (u_SW_built m x29 c32 _ q33) ?_
          cases h
          rfl
        · obtain ⟨r40, c41, q38, h⟩ := q_bdE h
          refine bdC (u_SW_refuse m (-3) c0 _ q38) ?_
          cases h
          rfl
      · obtain ⟨r45, c46, q43, h⟩ := q_bdE h
        refine bdC (u_SW_refuse m (-12) c0 _ q43) ?_
        cases h
        rfl
    · obtain ⟨r50, c51, q48, h⟩ := q_bdE h
      refine bdC (u_SW_refuse m (-2) c0 _ q48) ?_
      cases h
      rfl
  · obtain ⟨r55, c56, q53, h⟩ := q_bdE h
    refine bdC (u_SW_refuse m (-1) c0 _ q53) ?_
    cases h
    rfl
def G_Gear_buildAs (v0 : Nat) (v1 : Nat) (c0 : h_C) : Option h_C :=
  p_gd (vG v1) <|
  p_gd (vG v0) <|
  q_bv (G_Gear_begin v0 (c0 0 v1 0) c0) fun c5 =>
  p_bi (wc c5 1 v0 0 (c5 1 v1 0)) fun c6 =>
  p_bi (wc c6 2 v0 0 (c6 2 v1 0)) fun c8 =>
  p_bi (wc c8 3 v0 0 (c8 3 v1 0)) fun c10 =>
  p_gd ((0 : Int) ≤ 0 ∧ (0 : Int) ≤ 0 ∧ (0 : Int) ≤ 3 ∧ 0 + 3 ≤ (3 : Int) ∧ 0 + 3 ≤ (3 : Int)) <|
  p_bi (sr c10 2010 v0 (cp (c10 2010 v1) (0 : Int).toNat (c10 2010 v0) (0 : Int).toNat (3 : Int).toNat)) fun c13 =>
  p_bi (sr c13 2011 v0 (cp (c13 2011 v1) (0 : Int).toNat (c13 2011 v0) (0 : Int).toNat (3 : Int).toNat)) fun c15 =>
  p_gd ((c15 7 v1 0) = 0 ∨ (c15 7 v1 0) = 1) <|
  p_bi (wc c15 7 v0 0 (c15 7 v1 0)) fun c18 =>
  some c18
set_option maxRecDepth 100000 in
set_option maxHeartbeats 4000000 in
theorem u_Gear_buildAs (m : h_M) (v0 : Nat) (v1 : Nat) (c0 : h_C) (r : h_C) (h : G_Gear_buildAs v0 v1 c0 = some r) : F_Gear_buildAs (h_A 0 v0) (h_A 0 v1) (h_H c0 m) = some (h_H r m) := by
  unfold G_Gear_buildAs at h
  unfold F_Gear_buildAs
  obtain ⟨g1, h⟩ := p_gdE h
  refine gdT (isD c0 m (d0 g1)) ?_
  try rw [zf0 c0 m g1]
  obtain ⟨g2, h⟩ := p_gdE h
  refine gdT (isD c0 m (d0 g2)) ?_
  obtain ⟨c5, q3, h⟩ := q_bvE h
  refine bvC (u_Gear_begin m v0 (c0 0 v1 0) c0 _ q3) ?_
  try rw [zf1 c5 m g1]
  refine bS (wf1 c5 m g2 _) h ?_
  intro c6 h
  try rw [zf2 c6 m g1]
  refine bS (wf2 c6 m g2 _) h ?_
  intro c8 h
  try rw [zf3 c8 m g1]
  refine bS (wf3 c8 m g2 _) h ?_
  intro c10 h
  try rw [rD c10 m (rr0_4 g1)]
  try rw [rD c10 m (rr0_4 g2)]
  refine gdT (isD c10 m (d2010 g1)) ?_
  refine gdT (isD c10 m (d2010 g2)) ?_
  obtain ⟨g12, h⟩ := p_gdE h
  refine gdT ⟨g12.1, g12.2.1, g12.2.2.1, by (try rw [lenD c10 m (d2010 g1)]); exact g12.2.2.2.1, by (try rw [lenD c10 m (d2010 g2)]); exact g12.2.2.2.2⟩ ?_
  refine bS (cA c10 m (d2010 g1) (by decide) (d2010 g2) (by decide) _ _ _) h ?_
  intro c13 h
  try rw [rD c13 m (rr0_5 g1)]
  try rw [rD c13 m (rr0_5 g2)]
  refine gdT (isD c13 m (d2011 g1)) ?_
  refine gdT (isD c13 m (d2011 g2)) ?_
  refine gdT ⟨g12.1, g12.2.1, g12.2.2.1, by (try rw [lenD c13 m (d2011 g1)]); exact g12.2.2.2.1, by (try rw [lenD c13 m (d2011 g2)]); exact g12.2.2.2.2⟩ ?_
  refine bS (cA c13 m (d2011 g1) (by decide) (d2011 g2) (by decide) _ _ _) h ?_
  intro c15 h
  try rw [zf7 c15 m g1]
  obtain ⟨g17, h⟩ := p_gdE h
  refine gdT g17 ?_
  refine bS (wf7 c15 m g2 _) h ?_
  intro c18 h
  cases h
  rfl
def G_Rules_becomeAs (v0 : Nat) (v1 : Nat) (c0 : h_C) : Option h_C :=
  p_gd (vR v1) <|
  p_gd (vR v0) <|
  p_bi (wc c0 500 v0 0 (c0 500 v1 0)) fun c3 =>
  p_gd ((0 : Int) ≤ 0 ∧ (0 : Int) ≤ 0 ∧ (0 : Int) ≤ (12 : Int) ∧ 0 + (12 : Int) ≤ (12 : Int) ∧ 0 + (12 : Int) ≤ (12 : Int)) <|
  p_bi (sr c3 2020 v0 (cp (c3 2020 v1) (0 : Int).toNat (c3 2020 v0) (0 : Int).toNat ((12 : Int) : Int).toNat)) fun c6 =>
  p_bi (sr c6 2021 v0 (cp (c6 2021 v1) (0 : Int).toNat (c6 2021 v0) (0 : Int).toNat ((12 : Int) : Int).toNat)) fun c8 =>
  p_gd ((0 : Int) ≤ 0 ∧ (0 : Int) ≤ 0 ∧ (0 : Int) ≤ (48 : Int) ∧ 0 + (48 : Int) ≤ (48 : Int) ∧ 0 + (48 : Int) ≤ (48 : Int)) <|
  p_bi (sr c8 2022 v0 (cp (c8 2022 v1) (0 : Int).toNat (c8 2022 v0) (0 : Int).toNat ((48 : Int) : Int).toNat)) fun c11 =>
  p_bi (sr c11 2023 v0 (cp (c11 2023 v1) (0 : Int).toNat (c11 2023 v0) (0 : Int).toNat ((48 : Int) : Int).toNat)) fun c13 =>
  p_bi (sr c13 2024 v0 (cp (c13 2024 v1) (0 : Int).toNat (c13 2024 v0) (0 : Int).toNat ((48 : Int) : Int).toNat)) fun c15 =>
  p_bi (sr c15 2025 v0 (cp (c15 2025 v1) (0 : Int).toNat (c15 2025 v0) (0 : Int).toNat ((48 : Int) : Int).toNat)) fun c17 =>
  p_gd ((0 : Int) ≤ 0 ∧ (0 : Int) ≤ 0 ∧ (0 : Int) ≤ (200 : Int) ∧ 0 + (200 : Int) ≤ (200 : Int) ∧ 0 + (200 : Int) ≤ (200 : Int)) <|
  p_bi (sr c17 2026 v0 (cp (c17 2026 v1) (0 : Int).toNat (c17 2026 v0) (0 : Int).toNat ((200 : Int) : Int).toNat)) fun c20 =>
  p_bi (wc c20 508 v0 0 (c20 508 v1 0)) fun c22 =>
  some c22
set_option maxRecDepth 100000 in
set_option maxHeartbeats 4000000 in
theorem u_Rules_becomeAs (m : h_M) (v0 : Nat) (v1 : Nat) (c0 : h_C) (r : h_C) (h : G_Rules_becomeAs v0 v1 c0 = some r) : F_Rules_becomeAs (h_A 500 v0) (h_A 500 v1) (h_H c0 m) = some (h_H r m) := by
  unfold G_Rules_becomeAs at h
  unfold F_Rules_becomeAs
  obtain ⟨g1, h⟩ := p_gdE h
  refine gdT (isD c0 m (d500 g1)) ?_
  try rw [zf500 c0 m g1]
  obtain ⟨g2, h⟩ := p_gdE h
  refine gdT (isD c0 m (d500 g2)) ?_
  refine bS (wf500 c0 m g2 _) h ?_
  intro c3 h
  try rw [rD c3 m (rr500_1 g1)]
  try rw [rD c3 m (rr500_1 g2)]
  try rw [rD c3 m (rr500_1 g2)]
  refine gdT (isD c3 m (d2020 g2)) ?_
  try rw [lenD c3 m (d2020 g2)]
  refine gdT (isD c3 m (d2020 g1)) ?_
  obtain ⟨g5, h⟩ := p_gdE h
  refine gdT ⟨g5.1, g5.2.1, g5.2.2.1, by (try rw [lenD c3 m (d2020 g1)]); exact g5.2.2.2.1, by (try rw [lenD c3 m (d2020 g2)]); exact g5.2.2.2.2⟩ ?_
  refine bS (cA c3 m (d2020 g1) (by decide) (d2020 g2) (by decide) _ _ _) h ?_
  intro c6 h
  try rw [rD c6 m (rr500_2 g1)]
  try rw [rD c6 m (rr500_2 g2)]
  try rw [rD c6 m (rr500_2 g2)]
  refine gdT (isD c6 m (d2021 g2)) ?_
  try rw [lenD c6 m (d2021 g2)]
  refine gdT (isD c6 m (d2021 g1)) ?_
  refine gdT ⟨g5.1, g5.2.1, g5.2.2.1, by (try rw [lenD c6 m (d2021 g1)]); exact g5.2.2.2.1, by (try rw [lenD c6 m (d2021 g2)]); exact g5.2.2.2.2⟩ ?_
  refine bS (cA c6 m (d2021 g1) (by decide) (d2021 g2) (by decide) _ _ _) h ?_
  intro c8 h
  try rw [rD c8 m (rr500_3 g1)]
  try rw [rD c8 m (rr500_3 g2)]
  try rw [rD c8 m (rr500_3 g2)]
  refine gdT (isD c8 m (d2022 g2)) ?_
  try rw [lenD c8 m (d2022 g2)]
  refine gdT (isD c8 m (d2022 g1)) ?_
  obtain ⟨g10, h⟩ := p_gdE h
  refine gdT ⟨g10.1, g10.2.1, g10.2.2.1, by (try rw [lenD c8 m (d2022 g1)]); exact g10.2.2.2.1, by (try rw [lenD c8 m (d2022 g2)]); exact g10.2.2.2.2⟩ ?_
  refine bS (cA c8 m (d2022 g1) (by decide) (d2022 g2) (by decide) _ _ _) h ?_
  intro c11 h
  try rw [rD c11 m (rr500_4 g1)]
  try rw [rD c11 m (rr500_4 g2)]
  try rw [rD c11 m (rr500_4 g2)]
  refine gdT (isD c11 m (d2023 g2)) ?_
  try rw [lenD c11 m (d2023 g2)]
  refine gdT (isD c11 m (d2023 g1)) ?_
  refine gdT ⟨g10.1, g10.2.1, g10.2.2.1, by (try rw [lenD c11 m (d2023 g1)]); exact g10.2.2.2.1, by (try rw [lenD c11 m (d2023 g2)]); exact g10.2.2.2.2⟩ ?_
  refine bS (cA c11 m (d2023 g1) (by decide) (d2023 g2) (by decide) _ _ _) h ?_
  intro c13 h
  try rw [rD c13 m (rr500_5 g1)]
  try rw [rD c13 m (rr500_5 g2)]
  try rw [rD c13 m (rr500_5 g2)]
  refine gdT (isD c13 m (d2024 g2)) ?_
  try rw [lenD c13 m (d2024 g2)]
  refine gdT (isD c13 m (d2024 g1)) ?_
  refine gdT ⟨g10.1, g10.2.1, g10.2.2.1, by (try rw [lenD c13 m (d2024 g1)]); exact g10.2.2.2.1, by (try rw [lenD c13 m (d2024 g2)]); exact g10.2.2.2.2⟩ ?_
  refine bS (cA c13 m (d2024 g1) (by decide) (d2024 g2) (by decide) _ _ _) h ?_
  intro c15 h
  try rw [rD c15 m (rr500_6 g1)]
  try rw [rD c15 m (rr500_6 g2)]
  try rw [rD c15 m (rr500_6 g2)]
  refine gdT (isD c15 m (d2025 g2)) ?_
  try rw [lenD c15 m (d2025 g2)]
  refine gdT (isD c15 m (d2025 g1)) ?_
  refine gdT ⟨g10.1, g10.2.1, g10.2.2.1, by (try rw [lenD c15 m (d2025 g1)]); exact g10.2.2.2.1, by (try rw [lenD c15 m (d2025 g2)]); exact g10.2.2.2.2⟩ ?_
  refine bS (cA c15 m (d2025 g1) (by decide) (d2025 g2) (by decide) _ _ _) h ?_
  intro c17 h
  try rw [rD c17 m (rr500_7 g1)]
  try rw [rD c17 m (rr500_7 g2)]
  try rw [rD c17 m (rr500_7 g2)]
  refine gdT (isD c17 m (d2026 g2)) ?_
  try rw [lenD c17 m (d2026 g2)]
  refine gdT (isD c17 m (d2026 g1)) ?_
  obtain ⟨g19, h⟩ := p_gdE h
  refine gdT ⟨g19.1, g19.2.1, g19.2.2.1, by (try rw [lenD c17 m (d2026 g1)]); exact g19.2.2.2.1, by (try rw [lenD c17 m (d2026 g2)]); exact g19.2.2.2.2⟩ ?_
  refine bS (cA c17 m (d2026 g1) (by decide) (d2026 g2) (by decide) _ _ _) h ?_
  intro c20 h
  try rw [zf508 c20 m g1]
  refine bS (wf508 c20 m g2 _) h ?_
  intro c22 h
  cases h
  rfl
def G_Works_ruleBy (v0 : Nat) (v1 : Nat) (c0 : h_C) : Option h_C :=
  p_gd (vW v0) <|
  q_bv (G_Rules_becomeAs v0 v1 c0) fun c5 =>
  p_bi (sr c5 2003 v0 (fl (c5 2003 v0) 12 0)) fun c6 =>
  some c6
set_option maxRecDepth 100000 in
set_option maxHeartbeats 4000000 in
theorem u_Works_ruleBy (m : h_M) (v0 : Nat) (v1 : Nat) (c0 : h_C) (r : h_C) (h : G_Works_ruleBy v0 v1 c0 = some r) : F_Works_ruleBy (h_A 200 v0) (h_A 500 v1) (h_H c0 m) = some (h_H r m) := by
  unfold G_Works_ruleBy at h
  unfold F_Works_ruleBy
  obtain ⟨g1, h⟩ := p_gdE h
  refine gdT (isD c0 m (d200 g1)) ?_
  try rw [rD c0 m (rr200_3 g1)]
  have hv2 : vR v0 := by have := g1; omega
  refine gdT (isD c0 m (d500 hv2)) ?_
  obtain ⟨c5, q3, h⟩ := q_bvE h
  refine bvC (u_Rules_becomeAs m v0 v1 c0 _ q3) ?_
  try rw [rD c5 m (rr200_1 g1)]
  refine gdT (isD c5 m (d300 g1)) ?_
  try rw [rD c5 m (rr300_6 g1)]
  refine bvS (fillI c5 m (d2003 g1) (by decide) _) h ?_
  intro c6 h
  cases h
  rfl
def GL_Works_buildLike_63 (k63 : Nat → Nat → Int → h_C → Option h_C) (v0 : Nat) (v1 : Nat) (v2 : Int) (c0 : h_C) : Option h_C :=
  p_gd (vW v0) <|
  if (c0 206 v0 0) ≤ v2 then
    some c0
  else
    p_gd (vW v1) <|
    p_gd ((0 : Int) ≤ v2 ∧ v2 < (16 : Int)) <|
    p_gd ((0 : Int) ≤ 0 ∧ (0 : Int) ≤ 0 ∧ (0 : Int) ≤ 4 ∧ 0 + 4 ≤ (4 : Int) ∧ 0 + 4 ≤ (4 : Int)) <|
    p_bi (sr c0 2031 (16 * v0 + (v2 : Int).toNat) (cp (c0 2031 (16 * v1 + (v2 : Int).toNat)) (0 : Int).toNat (c0 2031 (16 * v0 + (v2 : Int).toNat)) (0 : Int).toNat (4 : Int).toNat)) fun c8 =>
    p_bi (wc c8 2032 v0 (v2 : Int).toNat (c8 2032 v1 (v2 : Int).toNat)) fun c10 =>
    p_bi (p_w (v2 + 1)) fun x12 =>
    k63 v0 v1 x12 c10
def GO_Works_buildLike_63  : Nat → Nat → Nat → Int → h_C → Option h_C
  | 0 => fun _ _ _ _ => none
  | n + 1 => GL_Works_buildLike_63 (GO_Works_buildLike_63 n)
def GL_Works_buildLike_10 (k10 : Nat → Nat → Int → h_C → Option h_C) (v0 : Nat) (v1 : Nat) (v2 : Int) (c0 : h_C) : Option h_C :=
  p_gd (vW v0) <|
  if (c0 202 v0 0) ≤ v2 then
    p_gd (vW v1) <|
    q_bv (G_Works_ruleBy v0 v1 c0) fun c7 =>
    p_bi (wc c7 206 v0 0 (c7 206 v1 0)) fun c8 =>
    GO_Works_buildLike_63 3000 v0 v1 0 c8
  else
    p_gd ((0 : Int) ≤ v2 ∧ v2 < (40 : Int)) <|
    p_gd (vW v1) <|
    q_bv (G_Gear_buildAs (40 * v0 + (v2 : Int).toNat + 1) (40 * v1 + (v2 : Int).toNat + 1) c0) fun c16 =>
    p_bi (p_w (v2 + 1)) fun x17 =>
    k10 v0 v1 x17 c16
def GO_Works_buildLike_10  : Nat → Nat → Nat → Int → h_C → Option h_C
  | 0 => fun _ _ _ _ => none
  | n + 1 => GL_Works_buildLike_10 (GO_Works_buildLike_10 n)
def G_Works_buildLike (v0 : Nat) (v1 : Nat) (c0 : h_C) : Option h_C :=
  p_gd (vW v1) <|
  p_gd (vW v0) <|
  p_bi (wc c0 202 v0 0 (c0 202 v1 0)) fun c3 =>
  GO_Works_buildLike_10 3000 v0 v1 0 c3
set_option maxRecDepth 100000 in
set_option maxHeartbeats 4000000 in
theorem uL_Works_buildLike_63 (m : h_M) (j63 : Nat → Nat → Int → p_Hp → Option p_Hp) (k63 : Nat → Nat → Int → h_C → Option h_C) (hk63 : ∀ (v0 : Nat) (v1 : Nat) (v2 : Int) (c0 : h_C) (r : h_C), k63 v0 v1 v2 c0 = some r → j63 (h_A 200 v0) (h_A 200 v1) v2 (h_H c0 m) = some (h_H r m)) (v0 : Nat) (v1 : Nat) (v2 : Int) (c0 : h_C) (r : h_C) (h : GL_Works_buildLike_63 k63 v0 v1 v2 c0 = some r) : L_Works_buildLike_63 j63 (h_A 200 v0) (h_A 200 v1) v2 (h_H c0 m) = some (h_H r m) := by
  unfold GL_Works_buildLike_63 at h
  unfold L_Works_buildLike_63
  obtain ⟨g1, h⟩ := p_gdE h
  refine gdT (isD c0 m (d200 g1)) ?_
  try rw [zf206 c0 m g1]
  refine iteC Iff.rfl h (fun b2 h => ?_) (fun b2 h => ?_)
  · cases h
    rfl
  · obtain ⟨g3, h⟩ := p_gdE h
    refine gdT (isD c0 m (d200 g3)) ?_
    try rw [rD c0 m (rr200_4 g3)]
    refine gdT (isD c0 m (d2030 g3)) ?_
    obtain ⟨g4, h⟩ := p_gdE h
    refine gdT ⟨g4.1, by (try rw [lenD c0 m (d2030 g3)]); exact g4.2⟩ ?_
    try rw [rD c0 m (el2030 (k := (v2 : Int).toNat) g3 (Nat.zero_le _) (by omega))]
    have hv5 : vQ (16 * v1 + (v2 : Int).toNat) := by have := g3; omega
    try rw [rD c0 m (rr200_4 g1)]
    refine gdT (isD c0 m (d2030 g1)) ?_
    refine gdT ⟨g4.1, by (try rw [lenD c0 m (d2030 g1)]); exact g4.2⟩ ?_
    try rw [rD c0 m (el2030 (k := (v2 : Int).toNat) g1 (Nat.zero_le _) (by omega))]
    have hv6 : vQ (16 * v0 + (v2 : Int).toNat) := by have := g1; omega
    refine gdT (isD c0 m (d2031 hv5)) ?_
    refine gdT (isD c0 m (d2031 hv6)) ?_
    obtain ⟨g7, h⟩ := p_gdE h
    refine gdT ⟨g7.1, g7.2.1, g7.2.2.1, by (try rw [lenD c0 m (d2031 hv5)]); exact g7.2.2.2.1, by (try rw [lenD c0 m (d2031 hv6)]); exact g7.2.2.2.2⟩ ?_
    refine bS (cA c0 m (d2031 hv5) (by decide) (d2031 hv6) (by decide) _ _ _) h ?_
    intro c8 h
    try rw [rD c8 m (rr200_5 g1)]
    try rw [rD c8 m (rr200_5 g3)]
    refine gdT (isD c8 m (d2032 g3)) ?_
    refine gdT ⟨g4.1, by (try rw [lenD c8 m (d2032 g3)]); exact g4.2⟩ ?_
    try rw [zA c8 m (d2032 g3) (by decide) (v2 : Int).toNat]
    refine gdT (isD c8 m (d2032 g1)) ?_
    refine gdT ⟨g4.1, by (try rw [lenD c8 m (d2032 g1)]); exact g4.2⟩ ?_
    refine bS (wA c8 m (d2032 g1) (by decide) _ _) h ?_
    intro c10 h
    refine bV h ?_
    intro x12 h
    exact hk63 v0 v1 x12 c10 _ h
set_option maxRecDepth 100000 in
set_option maxHeartbeats 4000000 in
theorem uO_Works_buildLike_63 (m : h_M)  : ∀ (n : Nat) (v0 : Nat) (v1 : Nat) (v2 : Int) (c0 : h_C) (r : h_C), GO_Works_buildLike_63 n v0 v1 v2 c0 = some r → O_Works_buildLike_63 n (h_A 200 v0) (h_A 200 v1) v2 (h_H c0 m) = some (h_H r m) := by
  intro n
  induction n with
  | zero => intro v0 v1 v2 c0 r h; cases h
  | succ n ih => intro v0 v1 v2 c0 r h; exact uL_Works_buildLike_63 m (O_Works_buildLike_63 n) (GO_Works_buildLike_63 n) ih v0 v1 v2 c0 r h
set_option maxRecDepth 100000 in
set_option maxHeartbeats 4000000 in
theorem uL_Works_buildLike_10 (m : h_M) (j10 : Nat → Nat → Int → p_Hp → Option p_Hp) (k10 : Nat → Nat → Int → h_C → Option h_C) (hk10 : ∀ (v0 : Nat) (v1 : Nat) (v2 : Int) (c0 : h_C) (r : h_C), k10 v0 v1 v2 c0 = some r → j10 (h_A 200 v0) (h_A 200 v1) v2 (h_H c0 m) = some (h_H r m)) (v0 : Nat) (v1 : Nat) (v2 : Int) (c0 : h_C) (r : h_C) (h : GL_Works_buildLike_10 k10 v0 v1 v2 c0 = some r) : L_Works_buildLike_10 j10 (h_A 200 v0) (h_A 200 v1) v2 (h_H c0 m) = some (h_H r m) := by
  unfold GL_Works_buildLike_10 at h
  unfold L_Works_buildLike_10
  obtain ⟨g1, h⟩ := p_gdE h
  refine gdT (isD c0 m (d200 g1)) ?_
  try rw [zf202 c0 m g1]
  refine iteC Iff.rfl h (fun b2 h => ?_) (fun b2 h => ?_)
  · obtain ⟨g3, h⟩ := p_gdE h
    refine gdT (isD c0 m (d200 g3)) ?_
    try rw [rD c0 m (rr200_3 g3)]
    have hv4 : vR v1 := by have := g3; omega
    obtain ⟨c7, q5, h⟩ := q_bvE h
    refine bvC (u_Works_ruleBy m v0 v1 c0 _ q5) ?_
    try rw [zf206 c7 m g3]
    refine bS (wf206 c7 m g1 _) h ?_
    intro c8 h
    exact uO_Works_buildLike_63 m 3000 v0 v1 0 c8 _ h
  · try rw [rD c0 m (rr200_1 g1)]
    refine gdT (isD c0 m (d300 g1)) ?_
    try rw [rD c0 m (rr300_4 g1)]
    refine gdT (isD c0 m (d2001 g1)) ?_
    obtain ⟨g10, h⟩ := p_gdE h
    refine gdT ⟨g10.1, by (try rw [lenD c0 m (d2001 g1)]); exact g10.2⟩ ?_
    try rw [rD c0 m (el2001 (k := (v2 : Int).toNat) g1 (Nat.zero_le _) (by omega))]
    have hv11 : vG (40 * v0 + (v2 : Int).toNat + 1) := ⟨by omega, by have := g1; omega⟩
    obtain ⟨g12, h⟩ := p_gdE h
    refine gdT (isD c0 m (d200 g12)) ?_
    try rw [rD c0 m (rr200_1 g12)]
    refine gdT (isD c0 m (d300 g12)) ?_
    try rw [rD c0 m (rr300_4 g12)]
    refine gdT (isD c0 m (d2001 g12)) ?_
    refine gdT ⟨g10.1, by (try rw [lenD c0 m (d2001 g12)]); exact g10.2⟩ ?_
    try rw [rD c0 m (el2001 (k := (v2 : Int).toNat) g12 (Nat.zero_le _) (by omega))]
    have hv13 : vG (40 * v1 + (v2 : Int).toNat + 1) := ⟨by omega, by have := g12; omega⟩
    refine gdT (isD c0 m (d0 hv11)) ?_
    obtain ⟨c16, q14, h⟩ := q_bvE h
    refine bvC (u_Gear_buildAs m (40 * v0 + (v2 : Int).toNat + 1) (40 * v1 + (v2 : Int).toNat + 1) c0 _ q14) ?_
    refine bV h ?_
    intro x17 h
    exact hk10 v0 v1 x17 c16 _ h
set_option maxRecDepth 100000 in
set_option maxHeartbeats 4000000 in
theorem uO_Works_buildLike_10 (m : h_M)  : ∀ (n : Nat) (v0 : Nat) (v1 : Nat) (v2 : Int) (c0 : h_C) (r : h_C), GO_Works_buildLike_10 n v0 v1 v2 c0 = some r → O_Works_buildLike_10 n (h_A 200 v0) (h_A 200 v1) v2 (h_H c0 m) = some (h_H r m) := by
  intro n
  induction n with
  | zero => intro v0 v1 v2 c0 r h; cases h
  | succ n ih => intro v0 v1 v2 c0 r h; exact uL_Works_buildLike_10 m (O_Works_buildLike_10 n) (GO_Works_buildLike_10 n) ih v0 v1 v2 c0 r h
set_option maxRecDepth 100000 in
set_option maxHeartbeats 4000000 in
theorem u_Works_buildLike (m : h_M) (v0 : Nat) (v1 : Nat) (c0 : h_C) (r : h_C) (h : G_Works_buildLike v0 v1 c0 = some r) : F_Works_buildLike (h_A 200 v0) (h_A 200 v1) (h_H c0 m) = some (h_H r m) := by
  unfold G_Works_buildLike at h
  unfold F_Works_buildLike
  obtain ⟨g1, h⟩ := p_gdE h
  refine gdT (isD c0 m (d200 g1)) ?_
  try rw [zf202 c0 m g1]
  obtain ⟨g2, h⟩ := p_gdE h
  refine gdT (isD c0 m (d200 g2)) ?_
  refine bS (wf202 c0 m g2 _) h ?_
  intro c3 h
  exact uO_Works_buildLike_10 m 3000 v0 v1 0 c3 _ h
def GB_SW_copy_9   (c0 : h_C) : Option (Int × h_C) :=
  q_bd (G_SW_refuse (-1) c0) fun r3 c4 =>
  some (r3, c4)
def G_SW_copy (v1 : Int) (c0 : h_C) : Option (Int × h_C) :=
  if v1 < 0 then
    GB_SW_copy_9 c0
  else
    if v1 < 3 then
      p_gd (0 ≤ c0 5000 0 0 ∧ c0 5000 0 0 < 3) <|
      if (c0 202 (c0 5000 0 0).toNat 0) ≤ 0 then
        p_gd ((0 : Int) ≤ v1 ∧ v1 < (3 : Int)) <|
        q_bv (G_Works_buildLike (c0 5000 0 0).toNat (v1 : Int).toNat c0) fun c10 =>
        p_gd (0 ≤ c10 5000 0 0 ∧ c10 5000 0 0 < 3) <|
        q_bd (G_SW_built (c10 202 (c10 5000 0 0).toNat 0) c10) fun r15 c16 =>
        some (r15, c16)
      else
        q_bd (G_SW_refuse (-3) c0) fun r20 c21 =>
        some (r20, c21)
    else
      GB_SW_copy_9 c0
set_option maxRecDepth 100000 in
set_option maxHeartbeats 4000000 in
theorem uB_SW_copy_9 (m : h_M)   (c0 : h_C) (r : (Int × h_C)) (h : GB_SW_copy_9  c0 = some r) : B_SW_copy_9 1 (h_H c0 m) = some (r.1, (h_H r.2 m)) := by
  unfold GB_SW_copy_9 at h
  unfold B_SW_copy_9
  refine gdT (isD c0 m d600) ?_
  obtain ⟨r3, c4, q1, h⟩ := q_bdE h
  refine bdC (u_SW_refuse m (-1) c0 _ q1) ?_
  cases h
  rfl
set_option maxRecDepth 100000 in
set_option maxHeartbeats 4000000 in
theorem u_SW_copy (m : h_M) (v1 : Int) (c0 : h_C) (r : (Int × h_C)) (h : G_SW_copy v1 c0 = some r) : F_SW_copy 1 v1 (h_H c0 m) = some (r.1, (h_H r.2 m)) := by
  unfold G_SW_copy at h
  unfold F_SW_copy
  refine iteC Iff.rfl h (fun b1 h => ?_) (fun b1 h => ?_)
  · exact uB_SW_copy_9 m c0 _ h
  · refine iteC Iff.rfl h (fun b2 h => ?_) (fun b2 h => ?_)
    · refine gdT (isD c0 m d600) ?_
      obtain ⟨g3, h⟩ := p_gdE h
      try rw [rm5000 c0 m g3]
      have hv4 : vW (c0 5000 0 0).toNat := by omega
      refine gdT (isD c0 m (d200 hv4)) ?_
      try rw [zf202 c0 m hv4]
      refine iteC Iff.rfl h (fun b5 h => ?_) (fun b5 h => ?_)
      · try rw [rm5000 c0 m g3]
        try rw [rs1_0 c0 m]
        refine gdT (isD c0 m d2000) ?_
        obtain ⟨g6, h⟩ := p_gdE h
        refine gdT ⟨g6.1, by (try rw [lenD c0 m d2000]); exact g6.2⟩ ?_
        try rw [rD c0 m (el2000 (k := (v1 : Int).toNat) (by omega))]
        have hv7 : vW (v1 : Int).toNat := by omega
        obtain ⟨c10, q8, h⟩ := q_bvE h
        refine bvC (u_Works_buildLike m (c0 5000 0 0).toNat (v1 : Int).toNat c0 _ q8) ?_
        obtain ⟨g11, h⟩ := p_gdE h
        try rw [rm5000 c10 m g11]
        have hv12 : vW (c10 5000 0 0).toNat := by omega
        refine gdT (isD c10 m (d200 hv12)) ?_
        try rw [zf202 c10 m hv12]
        obtain ⟨r15, c16, q13, h⟩ := q_bdE h
        refine bdC (u_SW_built m (c10 202 (c10 5000 0 0).toNat 0) c10 _ q13) ?_
        cases h
        rfl
      · obtain ⟨r20, c21, q18, h⟩ := q_bdE h
        refine bdC (u_SW_refuse m (-3) c0 _ q18) ?_
        cases h
        rfl
    · exact uB_SW_copy_9 m c0 _ h
def GB_SW_letter_12   (c0 : h_C) : Option (Int × h_C) :=
  q_bd (G_SW_refuse (-2) c0) fun r3 c4 =>
  some (r3, c4)
def G_SW_letter (v1 : Int) (c0 : h_C) : Option (Int × h_C) :=
  if v1 < 33 then
    GB_SW_letter_12 c0
  else
    if v1 ≤ 126 then
      if (c0 606 0 0) < 200 then
        p_gd ((0 : Int) ≤ (c0 606 0 0) ∧ (c0 606 0 0) < (200 : Int)) <|
        p_bi (wc c0 2042 0 ((c0 606 0 0) : Int).toNat v1) fun c5 =>
        p_bi (wc c5 606 0 0 (p_w ((c5 606 0 0) + 1))) fun c7 =>
        q_bd (G_SW_done (c7 606 0 0) c7) fun r11 c12 =>
        some (r11, c12)
      else
        q_bd (G_SW_refuse (-4) c0) fun r16 c17 =>
        some (r16, c17)
    else
      GB_SW_letter_12 c0
set_option maxRecDepth 100000 in
set_option maxHeartbeats 4000000 in
theorem uB_SW_letter_12 (m : h_M)   (c0 : h_C) (r : (Int × h_C)) (h : GB_SW_letter_12  c0 = some r) : B_SW_letter_12 1 (h_H c0 m) = some (r.1, (h_H r.2 m)) := by
  unfold GB_SW_letter_12 at h
  unfold B_SW_letter_12
  refine gdT (isD c0 m d600) ?_
  obtain ⟨r3, c4, q1, h⟩ := q_bdE h
  refine bdC (u_SW_refuse m (-2) c0 _ q1) ?_
  cases h
  rfl
set_option maxRecDepth 100000 in
set_option maxHeartbeats 4000000 in
theorem u_SW_letter (m : h_M) (v1 : Int) (c0 : h_C) (r : (Int × h_C)) (h : G_SW_letter v1 c0 = some r) : F_SW_letter 1 v1 (h_H c0 m) = some (r.1, (h_H r.2 m)) := by
  unfold G_SW_letter at h
  unfold F_SW_letter
  refine iteC Iff.rfl h (fun b1 h => ?_) (fun b1 h => ?_)
  · exact uB_SW_letter_12 m c0 _ h
  · refine iteC Iff.rfl h (fun b2 h => ?_) (fun b2 h => ?_)
    · refine gdT (isD c0 m d600) ?_
      try rw [zf606 c0 m]
      refine iteC Iff.rfl h (fun b3 h => ?_) (fun b3 h => ?_)
      · try rw [rs1_5 c0 m]
        try rw [zf606 c0 m]
        refine gdT (isD c0 m d2042) ?_
        obtain ⟨g4, h⟩ := p_gdE h
        refine gdT ⟨g4.1, by (try rw [lenD c0 m d2042]); exact g4.2⟩ ?_
        refine bS (wA c0 m d2042 (by decide) _ _) h ?_
        intro c5 h
        try rw [zf606 c5 m]
        refine bS (wf606 c5 m _) h ?_
        intro c7 h
        try rw [zf606 c7 m]
        obtain ⟨r11, c12, q9, h⟩ := q_bdE h
        refine bdC (u_SW_done m (c7 606 0 0) c7 _ q9) ?_
        cases h
        rfl
      · obtain ⟨r16, c17, q14, h⟩ := q_bdE h
        refine bdC (u_SW_refuse m (-4) c0 _ q14) ?_
        cases h
        rfl
    · exact uB_SW_letter_12 m c0 _ h
def G_Judge_next  (c0 : h_C) : Option Int :=
  if (c0 1002 0 0) ≤ (c0 1003 0 0) then
    some (-1)
  else
    p_gd (c0 5004 0 0 = 1) <|
    p_gd ((0 : Int) ≤ (c0 1003 0 0) ∧ (c0 1003 0 0) < (200 : Int)) <|
    some (c0 2042 0 ((c0 1003 0 0) : Int).toNat)
set_option maxRecDepth 100000 in
set_option maxHeartbeats 4000000 in
theorem u_Judge_next (m : h_M)  (c0 : h_C) (r : Int) (h : G_Judge_next  c0 = some r) : F_Judge_next 1115 (h_H c0 m) = some (r, (h_H c0 m)) := by
  unfold G_Judge_next at h
  unfold F_Judge_next
  refine gdT (isD c0 m d1000) ?_
  try rw [zf1003 c0 m]
  try rw [zf1002 c0 m]
  refine iteC Iff.rfl h (fun b1 h => ?_) (fun b1 h => ?_)
  · cases h
    rfl
  · obtain ⟨g2, h⟩ := p_gdE h
    try rw [rm5004 c0 m g2]
    try rw [zf1003 c0 m]
    refine gdT (isD c0 m d2042) ?_
    obtain ⟨g3, h⟩ := p_gdE h
    refine gdT ⟨g3.1, by (try rw [lenD c0 m d2042]); exact g3.2⟩ ?_
    try rw [zA c0 m d2042 (by decide) ((c0 1003 0 0) : Int).toNat]
    cases h
    rfl
def G_Judge_take (v1 : Int) (c0 : h_C) : Option (Int × h_C) :=
  if (c0 1002 0 0) ≤ (c0 1003 0 0) then
    some (0, c0)
  else
    p_gd (c0 5004 0 0 = 1) <|
    p_gd ((0 : Int) ≤ (c0 1003 0 0) ∧ (c0 1003 0 0) < (200 : Int)) <|
    if (c0 2042 0 ((c0 1003 0 0) : Int).toNat) = v1 then
      p_gd ((0 : Int) ≤ (c0 508 3 0) ∧ (c0 508 3 0) < (200 : Int)) <|
      p_bi (wc c0 2026 3 ((c0 508 3 0) : Int).toNat v1) fun c6 =>
      p_bi (wc c6 508 3 0 (p_w ((c6 508 3 0) + 1))) fun c8 =>
      p_bi (wc c8 1003 0 0 (p_w ((c8 1003 0 0) + 1))) fun c10 =>
      some (1, c10)
    else
      some (0, c0)
set_option maxRecDepth 100000 in
set_option maxHeartbeats 4000000 in
theorem u_Judge_take (m : h_M) (v1 : Int) (c0 : h_C) (r : (Int × h_C)) (h : G_Judge_take v1 c0 = some r) : F_Judge_take 1115 v1 (h_H c0 m) = some (r.1, (h_H r.2 m)) := by
  unfold G_Judge_take at h
  unfold F_Judge_take
  refine gdT (isD c0 m d1000) ?_
  try rw [zf1003 c0 m]
  try rw [zf1002 c0 m]
  refine iteC Iff.rfl h (fun b1 h => ?_) (fun b1 h => ?_)
  · cases h
    rfl
  · obtain ⟨g2, h⟩ := p_gdE h
    try rw [rm5004 c0 m g2]
    try rw [zf1003 c0 m]
    refine gdT (isD c0 m d2042) ?_
    obtain ⟨g3, h⟩ := p_gdE h
    refine gdT ⟨g3.1, by (try rw [lenD c0 m d2042]); exact g3.2⟩ ?_
    try rw [zA c0 m d2042 (by decide) ((c0 1003 0 0) : Int).toNat]
    refine iteC Iff.rfl h (fun b4 h => ?_) (fun b4 h => ?_)
    · try rw [rs1115_0 c0 m]
      refine gdT (isD c0 m (d500 (show vR 3 by decide))) ?_
      try rw [rD c0 m (rr500_7 (show vR 3 by decide))]
      try rw [rs1115_0 c0 m]
      try rw [zf508 c0 m (show vR 3 by decide)]
      refine gdT (isD c0 m (d2026 (show vR 3 by decide))) ?_
      obtain ⟨g5, h⟩ := p_gdE h
      refine gdT ⟨g5.1, by (try rw [lenD c0 m (d2026 (show vR 3 by decide))]); exact g5.2⟩ ?_
      refine bS (wA c0 m (d2026 (show vR 3 by decide)) (by decide) _ _) h ?_
      intro c6 h
      try rw [rs1115_0 c6 m]
      refine gdT (isD c6 m (d500 (show vR 3 by decide))) ?_
      try rw [zf508 c6 m (show vR 3 by decide)]
      refine bS (wf508 c6 m (show vR 3 by decide) _) h ?_
      intro c8 h
      try rw [zf1003 c8 m]
      refine bS (wf1003 c8 m _) h ?_
      intro c10 h
      cases h
      rfl
    · cases h
      rfl
def GB_Judge_takeNumber_67 (k4 : Int → Int → h_C → Option (Int × h_C)) (v2 : Int) (w0 : Int) (c0 : h_C) : Option (Int × h_C) :=
  q_bv (G_Judge_next c0) fun r3 =>
  q_bd (G_Judge_take r3 c0) fun r7 c8 =>
  p_bi (p_w (v2 + 1)) fun x10 =>
  k4 w0 x10 c8
def GB_Judge_takeNumber_52 (k4 : Int → Int → h_C → Option (Int × h_C)) (v1 : Int) (v2 : Int) (v3 : Int) (c0 : h_C) : Option (Int × h_C) :=
  if v1 ≠ (-1) then
    GB_Judge_takeNumber_67 k4 v2 (p_w ((p_w (10 * v1)) + v3)) c0
  else
    GB_Judge_takeNumber_67 k4 v2 v3 c0
def GL_Judge_takeNumber_4 (k4 : Int → Int → h_C → Option (Int × h_C)) (v1 : Int) (v2 : Int) (c0 : h_C) : Option (Int × h_C) :=
  if 4 ≤ v2 then
    some (v1, c0)
  else
    q_bv (G_Judge_next c0) fun r4 =>
    if r4 < 48 then
      some (v1, c0)
    else
      q_bv (G_Judge_next c0) fun r9 =>
      if 57 < r9 then
        some (v1, c0)
      else
        q_bv (G_Judge_next c0) fun r14 =>
        p_bi ((p_w (r14 - 48))) fun x17 =>
        if v1 ≠ 0 then
          GB_Judge_takeNumber_52 k4 v1 v2 x17 c0
        else
          p_bi (wc c0 508 3 0 (p_w ((c0 508 3 0) - 1))) fun c19 =>
          GB_Judge_takeNumber_52 k4 v1 v2 x17 c19
def GO_Judge_takeNumber_4  : Nat → Int → Int → h_C → Option (Int × h_C)
  | 0 => fun _ _ _ => none
  | n + 1 => GL_Judge_takeNumber_4 (GO_Judge_takeNumber_4 n)
def G_Judge_takeNumber  (c0 : h_C) : Option (Int × h_C) :=
  GO_Judge_takeNumber_4 3000 (-1) 0 c0
set_option maxRecDepth 100000 in
set_option maxHeartbeats 4000000 in
theorem uB_Judge_takeNumber_67 (m : h_M) (j4 : Nat → Int → Int → p_Hp → Option (Int × p_Hp)) (k4 : Int → Int → h_C → Option (Int × h_C)) (hk4 : ∀ (v1 : Int) (v2 : Int) (c0 : h_C) (r : (Int × h_C)), k4 v1 v2 c0 = some r → j4 1115 v1 v2 (h_H c0 m) = some (r.1, (h_H r.2 m))) (v2 : Int) (w0 : Int) (c0 : h_C) (r : (Int × h_C)) (h : GB_Judge_takeNumber_67 k4 v2 w0 c0 = some r) : B_Judge_takeNumber_67 j4 1115 v2 w0 (h_H c0 m) = some (r.1, (h_H r.2 m)) := by
  unfold GB_Judge_takeNumber_67 at h
  unfold B_Judge_takeNumber_67
  refine gdT (isD c0 m d1000) ?_
  obtain ⟨r3, q1, h⟩ := q_bvE h
  refine bdC (u_Judge_next m c0 _ q1) ?_
  obtain ⟨r7, c8, q5, h⟩ := q_bdE h
  refine bdC (u_Judge_take m r3 c0 _ q5) ?_
  refine bV h ?_
  intro x10 h
  exact hk4 w0 x10 c8 _ h
set_option maxRecDepth 100000 in
set_option maxHeartbeats 4000000 in
theorem uB_Judge_takeNumber_52 (m : h_M) (j4 : Nat → Int → Int → p_Hp → Option (Int × p_Hp)) (k4 : Int → Int → h_C → Option (Int × h_C)) (hk4 : ∀ (v1 : Int) (v2 : Int) (c0 : h_C) (r : (Int × h_C)), k4 v1 v2 c0 = some r → j4 1115 v1 v2 (h_H c0 m) = some (r.1, (h_H r.2 m))) (v1 : Int) (v2 : Int) (v3 : Int) (c0 : h_C) (r : (Int × h_C)) (h : GB_Judge_takeNumber_52 k4 v1 v2 v3 c0 = some r) : B_Judge_takeNumber_52 j4 1115 v1 v2 v3 (h_H c0 m) = some (r.1, (h_H r.2 m)) := by
  unfold GB_Judge_takeNumber_52 at h
  unfold B_Judge_takeNumber_52
  refine iteC Iff.rfl h (fun b1 h => ?_) (fun b1 h => ?_)
  · exact uB_Judge_takeNumber_67 m j4 k4 hk4 v2 (p_w ((p_w (10 * v1)) + v3)) c0 _ h
  · exact uB_Judge_takeNumber_67 m j4 k4 hk4 v2 v3 c0 _ h
set_option maxRecDepth 100000 in
set_option maxHeartbeats 4000000 in
theorem uL_Judge_takeNumber_4 (m : h_M) (j4 : Nat → Int → Int → p_Hp → Option (Int × p_Hp)) (k4 : Int → Int → h_C → Option (Int × h_C)) (hk4 : ∀ (v1 : Int) (v2 : Int) (c0 : h_C) (r : (Int × h_C)), k4 v1 v2 c0 = some r → j4 1115 v1 v2 (h_H c0 m) = some (r.1, (h_H r.2 m))) (v1 : Int) (v2 : Int) (c0 : h_C) (r : (Int × h_C)) (h : GL_Judge_takeNumber_4 k4 v1 v2 c0 = some r) : L_Judge_takeNumber_4 j4 1115 v1 v2 (h_H c0 m) = some (r.1, (h_H r.2 m)) := by
  unfold GL_Judge_takeNumber_4 at h
  unfold L_Judge_takeNumber_4
  refine iteC Iff.rfl h (fun b1 h => ?_) (fun b1 h => ?_)
  · cases h
    rfl
  · refine gdT (isD c0 m d1000) ?_
    obtain ⟨r4, q2, h⟩ := q_bvE h
    refine bdC (u_Judge_next m c0 _ q2) ?_
    refine iteC Iff.rfl h (fun b6 h => ?_) (fun b6 h => ?_)
    · cases h
      rfl
    · obtain ⟨r9, q7, h⟩ := q_bvE h
      refine bdC (u_Judge_next m c0 _ q7) ?_
      refine iteC Iff.rfl h (fun b11 h => ?_) (fun b11 h => ?_)
      · cases h
        rfl
      · obtain ⟨r14, q12, h⟩ := q_bvE h
        refine bdC (u_Judge_next m c0 _ q12) ?_
        refine bV h ?_
        intro x17 h
        refine iteC Iff.rfl h (fun b18 h => ?_) (fun b18 h => ?_)
        · exact uB_Judge_takeNumber_52 m j4 k4 hk4 v1 v2 x17 c0 _ h
        · try rw [rs1115_0 c0 m]
          refine gdT (isD c0 m (d500 (show vR 3 by decide))) ?_
          try rw [zf508 c0 m (show vR 3 by decide)]
          refine bS (wf508 c0 m (show vR 3 by decide) _) h ?_
          intro c19 h
          exact uB_Judge_takeNumber_52 m j4 k4 hk4 v1 v2 x17 c19 _ h
set_option maxRecDepth 100000 in
set_option maxHeartbeats 4000000 in
theorem uO_Judge_takeNumber_4 (m : h_M)  : ∀ (n : Nat) (v1 : Int) (v2 : Int) (c0 : h_C) (r : (Int × h_C)), GO_Judge_takeNumber_4 n v1 v2 c0 = some r → O_Judge_takeNumber_4 n 1115 v1 v2 (h_H c0 m) = some (r.1, (h_H r.2 m)) := by
  intro n
  induction n with
  | zero => intro v1 v2 c0 r h; cases h
  | succ n ih => intro v1 v2 c0 r h; exact uL_Judge_takeNumber_4 m (O_Judge_takeNumber_4 n) (GO_Judge_takeNumber_4 n) ih v1 v2 c0 r h
set_option maxRecDepth 100000 in
set_option maxHeartbeats 4000000 in
theorem u_Judge_takeNumber (m : h_M)  (c0 : h_C) (r : (Int × h_C)) (h : G_Judge_takeNumber  c0 = some r) : F_Judge_takeNumber 1115 (h_H c0 m) = some (r.1, (h_H r.2 m)) := by
  unfold G_Judge_takeNumber at h
  unfold F_Judge_takeNumber
  exact uO_Judge_takeNumber_4 m 3000 (-1) 0 c0 _ h
def GB_Judge_takeTest_131  (v1 : Int) (c0 : h_C) : Option (Int × h_C) :=
  q_bd (G_Judge_takeNumber c0) fun r3 c4 =>
  p_gd ((0 : Int) ≤ v1 ∧ v1 < (48 : Int)) <|
  p_bi (wc c4 2025 3 (v1 : Int).toNat r3) fun c7 =>
  if (c7 2025 3 (v1 : Int).toNat) = (-1) then
    some (0, c7)
  else
    some (1, c7)
def GB_Judge_takeTest_87  (v1 : Int) (c0 : h_C) : Option (Int × h_C) :=
  q_bv (G_Judge_next c0) fun r3 =>
  p_gd ((0 : Int) ≤ v1 ∧ v1 < (48 : Int)) <|
  p_bi (wc c0 2024 3 (v1 : Int).toNat r3) fun c6 =>
  q_bd (G_Judge_take 60 c6) fun r10 c11 =>
  if r10 ≠ 0 then
    GB_Judge_takeTest_131 v1 c11
  else
    q_bd (G_Judge_take 61 c11) fun r16 c17 =>
    if r16 ≠ 0 then
      GB_Judge_takeTest_131 v1 c17
    else
      q_bd (G_Judge_take 62 c17) fun r22 c23 =>
      if r22 ≠ 0 then
        GB_Judge_takeTest_131 v1 c23
      else
        some (0, c23)
def GB_Judge_takeTest_37  (v1 : Int) (v2 : Int) (c0 : h_C) : Option (Int × h_C) :=
  q_bd (G_Judge_take v2 c0) fun r3 c4 =>
  p_gd ((0 : Int) ≤ v1 ∧ v1 < (48 : Int)) <|
  p_bi (wc c4 2022 3 (v1 : Int).toNat v2) fun c7 =>
  if v2 ≠ 81 then
    GB_Judge_takeTest_87 v1 c7
  else
    q_bd (G_Judge_takeNumber c7) fun r12 c13 =>
    p_bi (wc c13 2023 3 (v1 : Int).toNat r12) fun c15 =>
    if (c15 2023 3 (v1 : Int).toNat) ≠ (-1) then
      GB_Judge_takeTest_87 v1 c15
    else
      some (0, c15)
def G_Judge_takeTest (v1 : Int) (c0 : h_C) : Option (Int × h_C) :=
  q_bv (G_Judge_next c0) fun r3 =>
  if r3 = 68 then
    GB_Judge_takeTest_37 v1 r3 c0
  else
    if r3 = 87 then
      GB_Judge_takeTest_37 v1 r3 c0
    else
      if r3 = 83 then
        GB_Judge_takeTest_37 v1 r3 c0
      else
        if r3 = 84 then
          GB_Judge_takeTest_37 v1 r3 c0
        else
          if r3 = 81 then
            GB_Judge_takeTest_37 v1 r3 c0
          else
            some (0, c0)
set_option maxRecDepth 100000 in
set_option maxHeartbeats 4000000 in
theorem uB_Judge_takeTest_131 (m : h_M)  (v1 : Int) (c0 : h_C) (r : (Int × h_C)) (h : GB_Judge_takeTest_131 v1 c0 = some r) : B_Judge_takeTest_131 1115 v1 (h_H c0 m) = some (r.1, (h_H r.2 m)) := by
  unfold GB_Judge_takeTest_131 at h
  unfold B_Judge_takeTest_131
  refine gdT (isD c0 m d1000) ?_
  try rw [rs1115_0 c0 m]
  refine gdT (isD c0 m (d500 (show vR 3 by decide))) ?_
  try rw [rD c0 m (rr500_6 (show vR 3 by decide))]
  obtain ⟨r3, c4, q1, h⟩ := q_bdE h
  refine bdC (u_Judge_takeNumber m c0 _ q1) ?_
  refine gdT (isD c4 m (d2025 (show vR 3 by decide))) ?_
  obtain ⟨g6, h⟩ := p_gdE h
  refine gdT ⟨g6.1, by (try rw [lenD c4 m (d2025 (show vR 3 by decide))]); exact g6.2⟩ ?_
  refine bS (wA c4 m (d2025 (show vR 3 by decide)) (by decide) _ _) h ?_
  intro c7 h
  try rw [rs1115_0 c7 m]
  refine gdT (isD c7 m (d500 (show vR 3 by decide))) ?_
  try rw [rD c7 m (rr500_6 (show vR 3 by decide))]
  refine gdT (isD c7 m (d2025 (show vR 3 by decide))) ?_
  refine gdT ⟨g6.1, by (try rw [lenD c7 m (d2025 (show vR 3 by decide))]); exact g6.2⟩ ?_
  try rw [zA c7 m (d2025 (show vR 3 by decide)) (by decide) (v1 : Int).toNat]
  refine iteC Iff.rfl h (fun b9 h => ?_) (fun b9 h => ?_)
  · cases h
    rfl
  · cases h
    rfl
set_option maxRecDepth 100000 in
set_option maxHeartbeats 4000000 in
theorem uB_Judge_takeTest_87 (m : h_M)  (v1 : Int) (c0 : h_C) (r : (Int × h_C)) (h : GB_Judge_takeTest_87 v1 c0 = some r) : B_Judge_takeTest_87 1115 v1 (h_H c0 m) = some (r.1, (h_H r.2 m)) := by
  unfold GB_Judge_takeTest_87 at h
  unfold B_Judge_takeTest_87
  refine gdT (isD c0 m d1000) ?_
  obtain ⟨r3, q1, h⟩ := q_bvE h
  refine bdC (u_Judge_next m c0 _ q1) ?_
  try rw [rs1115_0 c0 m]
  refine gdT (isD c0 m (d500 (show vR 3 by decide))) ?_
  try rw [rD c0 m (rr500_5 (show vR 3 by decide))]
  refine gdT (isD c0 m (d2024 (show vR 3 by decide))) ?_
  obtain ⟨g5, h⟩ := p_gdE h
  refine gdT ⟨g5.1, by (try rw [lenD c0 m (d2024 (show vR 3 by decide))]); exact g5.2⟩ ?_
  refine bS (wA c0 m (d2024 (show vR 3 by decide)) (by decide) _ _) h ?_
  intro c6 h
  obtain ⟨r10, c11, q8, h⟩ := q_bdE h
  refine bdC (u_Judge_take m 60 c6 _ q8) ?_
  refine iteC Iff.rfl h (fun b13 h => ?_) (fun b13 h => ?_)
  · exact uB_Judge_takeTest_131 m v1 c11 _ h
  · obtain ⟨r16, c17, q14, h⟩ := q_bdE h
    refine bdC (u_Judge_take m 61 c11 _ q14) ?_
    refine iteC Iff.rfl h (fun b19 h => ?_) (fun b19 h => ?_)
    · exact uB_Judge_takeTest_131 m v1 c17 _ h
    · obtain ⟨r22, c23, q20, h⟩ := q_bdE h
      refine bdC (u_Judge_take m 62 c17 _ q20) ?_
      refine iteC Iff.rfl h (fun b25 h => ?_) (fun b25 h => ?_)
      · exact uB_Judge_takeTest_131 m v1 c23 _ h
      · cases h
        rfl
set_option maxRecDepth 100000 in
set_option maxHeartbeats 4000000 in
theorem uB_Judge_takeTest_37 (m : h_M)  (v1 : Int) (v2 : Int) (c0 : h_C) (r : (Int × h_C)) (h : GB_Judge_takeTest_37 v1 v2 c0 = some r) : B_Judge_takeTest_37 1115 v1 v2 (h_H c0 m) = some (r.1, (h_H r.2 m)) := by
  unfold GB_Judge_takeTest_37 at h
  unfold B_Judge_takeTest_37
  refine gdT (isD c0 m d1000) ?_
  obtain ⟨r3, c4, q1, h⟩ := q_bdE h
  refine bdC (u_Judge_take m v2 c0 _ q1) ?_
  try rw [rs1115_0 c4 m]
  refine gdT (isD c4 m (d500 (show vR 3 by decide))) ?_
  try rw [rD c4 m (rr500_3 (show vR 3 by decide))]
  refine gdT (isD c4 m (d2022 (show vR 3 by decide))) ?_
  obtain ⟨g6, h⟩ := p_gdE h
  refine gdT ⟨g6.1, by (try rw [lenD c4 m (d2022 (show vR 3 by decide))]); exact g6.2⟩ ?_
  refine bS (wA c4 m (d2022 (show vR 3 by decide)) (by decide) _ _) h ?_
  intro c7 h
  refine iteC Iff.rfl h (fun b9 h => ?_) (fun b9 h => ?_)
  · exact uB_Judge_takeTest_87 m v1 c7 _ h
  · try rw [rs1115_0 c7 m]
    refine gdT (isD c7 m (d500 (show vR 3 by decide))) ?_
    try rw [rD c7 m (rr500_4 (show vR 3 by decide))]
    obtain ⟨r12, c13, q10, h⟩ := q_bdE h
    refine bdC (u_Judge_takeNumber m c7 _ q10) ?_
    refine gdT (isD c13 m (d2023 (show vR 3 by decide))) ?_
    refine gdT ⟨g6.1, by (try rw [lenD c13 m (d2023 (show vR 3 by decide))]); exact g6.2⟩ ?_
    refine bS (wA c13 m (d2023 (show vR 3 by decide)) (by decide) _ _) h ?_
    intro c15 h
    try rw [rs1115_0 c15 m]
    refine gdT (isD c15 m (d500 (show vR 3 by decide))) ?_
    try rw [rD c15 m (rr500_4 (show vR 3 by decide))]
    refine gdT (isD c15 m (d2023 (show vR 3 by decide))) ?_
    refine gdT ⟨g6.1, by (try rw [lenD c15 m (d2023 (show vR 3 by decide))]); exact g6.2⟩ ?_
    try rw [zA c15 m (d2023 (show vR 3 by decide)) (by decide) (v1 : Int).toNat]
    refine iteC Iff.rfl h (fun b17 h => ?_) (fun b17 h => ?_)
    · exact uB_Judge_takeTest_87 m v1 c15 _ h
    · cases h
      rfl
set_option maxRecDepth 100000 in
set_option maxHeartbeats 4000000 in
theorem u_Judge_takeTest (m : h_M) (v1 : Int) (c0 : h_C) (r : (Int × h_C)) (h : G_Judge_takeTest v1 c0 = some r) : F_Judge_takeTest 1115 v1 (h_H c0 m) = some (r.1, (h_H r.2 m)) := by
  unfold G_Judge_takeTest at h
  unfold F_Judge_takeTest
  refine gdT (isD c0 m d1000) ?_
  obtain ⟨r3, q1, h⟩ := q_bvE h
  refine bdC (u_Judge_next m c0 _ q1) ?_
  refine iteC Iff.rfl h (fun b5 h => ?_) (fun b5 h => ?_)
  · exact uB_Judge_takeTest_37 m v1 r3 c0 _ h
  · refine iteC Iff.rfl h (fun b6 h => ?_) (fun b6 h => ?_)
    · exact uB_Judge_takeTest_37 m v1 r3 c0 _ h
    · refine iteC Iff.rfl h (fun b7 h => ?_) (fun b7 h => ?_)
      · exact uB_Judge_takeTest_37 m v1 r3 c0 _ h
      · refine iteC Iff.rfl h (fun b8 h => ?_) (fun b8 h => ?_)
        · exact uB_Judge_takeTest_37 m v1 r3 c0 _ h
        · refine iteC Iff.rfl h (fun b9 h => ?_) (fun b9 h => ?_)
          · exact uB_Judge_takeTest_37 m v1 r3 c0 _ h
          · cases h
            rfl
def GL_Judge_takeTests_2 (k2 : Int → Int → h_C → Option (Int × h_C)) (v1 : Int) (v2 : Int) (c0 : h_C) : Option (Int × h_C) :=
  if 4 ≤ v2 then
    some (0, c0)
  else
    q_bd (G_Judge_takeTest (p_w ((p_w (4 * v1)) + v2)) c0) fun r4 c5 =>
    if r4 ≠ 0 then
      p_gd ((0 : Int) ≤ v1 ∧ v1 < (12 : Int)) <|
      p_bi (wc c5 2021 3 (v1 : Int).toNat (p_w (v2 + 1))) fun c9 =>
      q_bd (G_Judge_take 44 c9) fun r13 c14 =>
      if r13 ≠ 0 then
        p_bi (p_w (v2 + 1)) fun x17 =>
        k2 v1 x17 c14
      else
        some (1, c14)
    else
      some (0, c5)
def GO_Judge_takeTests_2  : Nat → Int → Int → h_C → Option (Int × h_C)
  | 0 => fun _ _ _ => none
  | n + 1 => GL_Judge_takeTests_2 (GO_Judge_takeTests_2 n)
def G_Judge_takeTests (v1 : Int) (c0 : h_C) : Option (Int × h_C) :=
  GO_Judge_takeTests_2 3000 v1 0 c0
set_option maxRecDepth 100000 in
set_option maxHeartbeats 4000000 in
theorem uL_Judge_takeTests_2 (m : h_M) (j2 : Nat → Int → Int → p_Hp → Option (Int × p_Hp)) (k2 : Int → Int → h_C → Option (Int × h_C)) (hk2 : ∀ (v1 : Int) (v2 : Int) (c0 : h_C) (r : (Int × h_C)), k2 v1 v2 c0 = some r → j2 1115 v1 v2 (h_H c0 m) = some (r.1, (h_H r.2 m))) (v1 : Int) (v2 : Int) (c0 : h_C) (r : (Int × h_C)) (h : GL_Judge_takeTests_2 k2 v1 v2 c0 = some r) : L_Judge_takeTests_2 j2 1115 v1 v2 (h_H c0 m) = some (r.1, (h_H r.2 m)) := by
  unfold GL_Judge_takeTests_2 at h
  unfold L_Judge_takeTests_2
  refine iteC Iff.rfl h (fun b1 h => ?_) (fun b1 h => ?_)
  · cases h
    rfl
  · refine gdT (isD c0 m d1000) ?_
    obtain ⟨r4, c5, q2, h⟩ := q_bdE h
    refine bdC (u_Judge_takeTest m (p_w ((p_w (4 * v1)) + v2)) c0 _ q2) ?_
    refine iteC Iff.rfl h (fun b7 h => ?_) (fun b7 h => ?_)
    · try rw [rs1115_0 c5 m]
      refine gdT (isD c5 m (d500 (show vR 3 by decide))) ?_
      try rw [rD c5 m (rr500_2 (show vR 3 by decide))]
      refine gdT (isD c5 m (d2021 (show vR 3 by decide))) ?_
      obtain ⟨g8, h⟩ := p_gdE h
      refine gdT ⟨g8.1, by (try rw [lenD c5 m (d2021 (show vR 3 by decide))]); exact g8.2⟩ ?_
      refine bS (wA c5 m (d2021 (show vR 3 by decide)) (by decide) _ _) h ?_
      intro c9 h
      obtain ⟨r13, c14, q11, h⟩ := q_bdE h
      refine bdC (u_Judge_take m 44 c9 _ q11) ?_
      refine iteC Iff.rfl h (fun b16 h => ?_) (fun b16 h => ?_)
      · refine bV h ?_
        intro x17 h
        exact hk2 v1 x17 c14 _ h
      · cases h
        rfl
    · cases h
      rfl
set_option maxRecDepth 100000 in
set_option maxHeartbeats 4000000 in
theorem uO_Judge_takeTests_2 (m : h_M)  : ∀ (n : Nat) (v1 : Int) (v2 : Int) (c0 : h_C) (r : (Int × h_C)), GO_Judge_takeTests_2 n v1 v2 c0 = some r → O_Judge_takeTests_2 n 1115 v1 v2 (h_H c0 m) = some (r.1, (h_H r.2 m)) := by
  intro n
  induction n with
  | zero => intro v1 v2 c0 r h; cases h
  | succ n ih => intro v1 v2 c0 r h; exact uL_Judge_takeTests_2 m (O_Judge_takeTests_2 n) (GO_Judge_takeTests_2 n) ih v1 v2 c0 r h
set_option maxRecDepth 100000 in
set_option maxHeartbeats 4000000 in
theorem u_Judge_takeTests (m : h_M) (v1 : Int) (c0 : h_C) (r : (Int × h_C)) (h : G_Judge_takeTests v1 c0 = some r) : F_Judge_takeTests 1115 v1 (h_H c0 m) = some (r.1, (h_H r.2 m)) := by
  unfold G_Judge_takeTests at h
  unfold F_Judge_takeTests
  exact uO_Judge_takeTests_2 m 3000 v1 0 c0 _ h
def GB_Judge_takeTold_63  (v1 : Int) (v3 : Int) (c0 : h_C) : Option (Int × h_C) :=
  p_gd ((0 : Int) ≤ v1 ∧ v1 < (12 : Int)) <|
  p_bi (wc c0 2020 3 (v1 : Int).toNat v3) fun c2 =>
  some (1, c2)
def GB_Judge_takeTold_43  (v1 : Int) (v2 : Int) (v3 : Int) (w0 : Int) (c0 : h_C) : Option (Int × h_C) :=
  if v3 < 40 then
    GB_Judge_takeTold_63 v1 v3 c0
  else
    if w0 = 0 then
      GB_Judge_takeTold_63 v1 v3 c0
    else
      p_bi (wc c0 1003 0 0 v2) fun c3 =>
      some (0, c3)
def GB_Judge_takeTold_38  (v1 : Int) (v2 : Int) (v3 : Int) (c0 : h_C) : Option (Int × h_C) :=
  GB_Judge_takeTold_43 v1 v2 v3 1 c0
def G_Judge_takeTold (v1 : Int) (c0 : h_C) : Option (Int × h_C) :=
  p_bi ((c0 1003 0 0)) fun x2 =>
  q_bd (G_Judge_takeNumber c0) fun r5 c6 =>
  if r5 ≠ (-1) then
    if (p_w ((c6 1003 0 0) - x2)) = 4 then
      GB_Judge_takeTold_38 v1 x2 r5 c6
    else
      if (c6 1002 0 0) ≤ (c6 1003 0 0) then
        GB_Judge_takeTold_43 v1 x2 r5 0 c6
      else
        GB_Judge_takeTold_38 v1 x2 r5 c6
  else
    some (0, c6)
set_option maxRecDepth 100000 in
set_option maxHeartbeats 4000000 in
theorem uB_Judge_takeTold_63 (m : h_M)  (v1 : Int) (v3 : Int) (c0 : h_C) (r : (Int × h_C)) (h : GB_Judge_takeTold_63 v1 v3 c0 = some r) : B_Judge_takeTold_63 1115 v1 v3 (h_H c0 m) = some (r.1, (h_H r.2 m)) := by
  unfold GB_Judge_takeTold_63 at h
  unfold B_Judge_takeTold_63
  refine gdT (isD c0 m d1000) ?_
  try rw [rs1115_0 c0 m]
  refine gdT (isD c0 m (d500 (show vR 3 by decide))) ?_
  try rw [rD c0 m (rr500_1 (show vR 3 by decide))]
  refine gdT (isD c0 m (d2020 (show vR 3 by decide))) ?_
  obtain ⟨g1, h⟩ := p_gdE h
  refine gdT ⟨g1.1, by (try rw [lenD c0 m (d2020 (show vR 3 by decide))]); exact g1.2⟩ ?_
  refine bS (wA c0 m (d2020 (show vR 3 by decide)) (by decide) _ _) h ?_
  intro c2 h
  cases h
  rfl
set_option maxRecDepth 100000 in
set_option maxHeartbeats 4000000 in
theorem uB_Judge_takeTold_43 (m : h_M)  (v1 : Int) (v2 : Int) (v3 : Int) (w0 : Int) (c0 : h_C) (r : (Int × h_C)) (h : GB_Judge_takeTold_43 v1 v2 v3 w0 c0 = some r) : B_Judge_takeTold_43 1115 v1 v2 v3 w0 (h_H c0 m) = some (r.1, (h_H r.2 m)) := by
  unfold GB_Judge_takeTold_43 at h
  unfold B_Judge_takeTold_43
  refine iteC Iff.rfl h (fun b1 h => ?_) (fun b1 h => ?_)
  · exact uB_Judge_takeTold_63 m v1 v3 c0 _ h
  · refine iteC Iff.rfl h (fun b2 h => ?_) (fun b2 h => ?_)
    · exact uB_Judge_takeTold_63 m v1 v3 c0 _ h
    · refine gdT (isD c0 m d1000) ?_
      refine bS (wf1003 c0 m _) h ?_
      intro c3 h
      cases h
      rfl
set_option maxRecDepth 100000 in
set_option maxHeartbeats 4000000 in
theorem uB_Judge_takeTold_38 (m : h_M)  (v1 : Int) (v2 : Int) (v3 : Int) (c0 : h_C) (r : (Int × h_C)) (h : GB_Judge_takeTold_38 v1 v2 v3 c0 = some r) : B_Judge_takeTold_38 1115 v1 v2 v3 (h_H c0 m) = some (r.1, (h_H r.2 m)) := by
  unfold GB_Judge_takeTold_38 at h
  unfold B_Judge_takeTold_38
  exact uB_Judge_takeTold_43 m v1 v2 v3 1 c0 _ h
set_option maxRecDepth 100000 in
set_option maxHeartbeats 4000000 in
theorem u_Judge_takeTold (m : h_M) (v1 : Int) (c0 : h_C) (r : (Int × h_C)) (h : G_Judge_takeTold v1 c0 = some r) : F_Judge_takeTold 1115 v1 (h_H c0 m) = some (r.1, (h_H r.2 m)) := by
  unfold G_Judge_takeTold at h
  unfold F_Judge_takeTold
  refine gdT (isD c0 m d1000) ?_
  try rw [zf1003 c0 m]
  refine bV h ?_
  intro x2 h
  obtain ⟨r5, c6, q3, h⟩ := q_bdE h
  refine bdC (u_Judge_takeNumber m c0 _ q3) ?_
  refine iteC Iff.rfl h (fun b8 h => ?_) (fun b8 h => ?_)
  · try rw [zf1003 c6 m]
    refine iteC Iff.rfl h (fun b9 h => ?_) (fun b9 h => ?_)
    · exact uB_Judge_takeTold_38 m v1 x2 r5 c6 _ h
    · try rw [zf1003 c6 m]
      try rw [zf1002 c6 m]
      refine iteC Iff.rfl h (fun b10 h => ?_) (fun b10 h => ?_)
      · exact uB_Judge_takeTold_43 m v1 x2 r5 0 c6 _ h
      · exact uB_Judge_takeTold_38 m v1 x2 r5 c6 _ h
  · cases h
    rfl
def GB_Judge_takeRule_29  (v1 : Int) (c0 : h_C) : Option (Int × h_C) :=
  q_bd (G_Judge_take 58 c0) fun r3 c4 =>
  if r3 = 0 then
    some (0, c4)
  else
    q_bd (G_Judge_takeTold v1 c4) fun r9 c10 =>
    if r9 = 0 then
      some (0, c10)
    else
      q_bd (G_Judge_take 59 c10) fun r15 c16 =>
      if r15 = 0 then
        some (0, c16)
      else
        some (1, c16)
def G_Judge_takeRule (v1 : Int) (c0 : h_C) : Option (Int × h_C) :=
  p_gd ((0 : Int) ≤ v1 ∧ v1 < (12 : Int)) <|
  p_bi (wc c0 2021 3 (v1 : Int).toNat 0) fun c2 =>
  q_bv (G_Judge_next c2) fun r6 =>
  if r6 = 58 then
    GB_Judge_takeRule_29 v1 c2
  else
    q_bd (G_Judge_takeTests v1 c2) fun r11 c12 =>
    if r11 ≠ 0 then
      GB_Judge_takeRule_29 v1 c12
    else
      some (0, c12)
set_option maxRecDepth 100000 in
set_option maxHeartbeats 4000000 in
theorem uB_Judge_takeRule_29 (m : h_M)  (v1 : Int) (c0 : h_C) (r : (Int × h_C)) (h : GB_Judge_takeRule_29 v1 c0 = some r) : B_Judge_takeRule_29 1115 v1 (h_H c0 m) = some (r.1, (h_H r.2 m)) := by
  unfold GB_Judge_takeRule_29 at h
  unfold B_Judge_takeRule_29
  refine gdT (isD c0 m d1000) ?_
  obtain ⟨r3, c4, q1, h⟩ := q_bdE h
  refine bdC (u_Judge_take m 58 c0 _ q1) ?_
  refine iteC Iff.rfl h (fun b6 h => ?_) (fun b6 h => ?_)
  · cases h
    rfl
  · obtain ⟨r9, c10, q7, h⟩ := q_bdE h
    refine bdC (u_Judge_takeTold m v1 c4 _ q7) ?_
    refine iteC Iff.rfl h (fun b12 h => ?_) (fun b12 h => ?_)
    · cases h
      rfl
    · obtain ⟨r15, c16, q13, h⟩ := q_bdE h
      refine bdC (u_Judge_take m 59 c10 _ q13) ?_
      refine iteC Iff.rfl h (fun b18 h => ?_) (fun b18 h => ?_)
      · cases h
        rfl
      · cases h
        rfl
set_option maxRecDepth 100000 in
set_option maxHeartbeats 4000000 in
theorem u_Judge_takeRule (m : h_M) (v1 : Int) (c0 : h_C) (r : (Int × h_C)) (h : G_Judge_takeRule v1 c0 = some r) : F_Judge_takeRule 1115 v1 (h_H c0 m) = some (r.1, (h_H r.2 m)) := by
  unfold G_Judge_takeRule at h
  unfold F_Judge_takeRule
  refine gdT (isD c0 m d1000) ?_
  try rw [rs1115_0 c0 m]
  refine gdT (isD c0 m (d500 (show vR 3 by decide))) ?_
  try rw [rD c0 m (rr500_2 (show vR 3 by decide))]
  refine gdT (isD c0 m (d2021 (show vR 3 by decide))) ?_
  obtain ⟨g1, h⟩ := p_gdE h
  refine gdT ⟨g1.1, by (try rw [lenD c0 m (d2021 (show vR 3 by decide))]); exact g1.2⟩ ?_
  refine bS (wA c0 m (d2021 (show vR 3 by decide)) (by decide) _ _) h ?_
  intro c2 h
  obtain ⟨r6, q4, h⟩ := q_bvE h
  refine bdC (u_Judge_next m c2 _ q4) ?_
  refine iteC Iff.rfl h (fun b8 h => ?_) (fun b8 h => ?_)
  · exact uB_Judge_takeRule_29 m v1 c2 _ h
  · obtain ⟨r11, c12, q9, h⟩ := q_bdE h
    refine bdC (u_Judge_takeTests m v1 c2 _ q9) ?_
    refine iteC Iff.rfl h (fun b14 h => ?_) (fun b14 h => ?_)
    · exact uB_Judge_takeRule_29 m v1 c12 _ h
    · cases h
      rfl
def GL_Judge_wrongPlace_25 (k25 : Int → h_C → Option (Int × h_C)) (v3 : Int) (c0 : h_C) : Option (Int × h_C) :=
  if 12 ≤ v3 then
    some ((c0 1003 0 0), c0)
  else
    q_bd (G_Judge_takeRule v3 c0) fun r4 c5 =>
    if r4 ≠ 0 then
      p_bi (wc c5 500 3 0 (p_w (v3 + 1))) fun c8 =>
      if (c8 1003 0 0) ≠ (c8 1002 0 0) then
        p_bi (p_w (v3 + 1)) fun x11 =>
        k25 x11 c8
      else
        some ((-1), c8)
    else
      some ((c5 1003 0 0), c5)
def GO_Judge_wrongPlace_25  : Nat → Int → h_C → Option (Int × h_C)
  | 0 => fun _ _ => none
  | n + 1 => GL_Judge_wrongPlace_25 (GO_Judge_wrongPlace_25 n)
def G_Judge_wrongPlace (v2 : Int) (c0 : h_C) : Option (Int × h_C) :=
  p_bi (wc c0 5004 0 0 1) fun c1 =>
  p_bi (wc c1 1002 0 0 v2) fun c3 =>
  p_bi (wc c3 1003 0 0 0) fun c5 =>
  p_bi (wc c5 508 3 0 0) fun c7 =>
  GO_Judge_wrongPlace_25 3000 0 c7
set_option maxRecDepth 100000 in
set_option maxHeartbeats 4000000 in
theorem uL_Judge_wrongPlace_25 (m : h_M) (j25 : Nat → Int → p_Hp → Option (Int × p_Hp)) (k25 : Int → h_C → Option (Int × h_C)) (hk25 : ∀ (v3 : Int) (c0 : h_C) (r : (Int × h_C)), k25 v3 c0 = some r → j25 1115 v3 (h_H c0 m) = some (r.1, (h_H r.2 m))) (v3 : Int) (c0 : h_C) (r : (Int × h_C)) (h : GL_Judge_wrongPlace_25 k25 v3 c0 = some r) : L_Judge_wrongPlace_25 j25 1115 v3 (h_H c0 m) = some (r.1, (h_H r.2 m)) := by
  unfold GL_Judge_wrongPlace_25 at h
  unfold L_Judge_wrongPlace_25
  refine iteC Iff.rfl h (fun b1 h => ?_) (fun b1 h => ?_)
  · refine gdT (isD c0 m d1000) ?_
    try rw [zf1003 c0 m]
    cases h
    rfl
  · refine gdT (isD c0 m d1000) ?_
    obtain ⟨r4, c5, q2, h⟩ := q_bdE h
    refine bdC (u_Judge_takeRule m v3 c0 _ q2) ?_
    refine iteC Iff.rfl h (fun b7 h => ?_) (fun b7 h => ?_)
    · try rw [rs1115_0 c5 m]
      refine gdT (isD c5 m (d500 (show vR 3 by decide))) ?_
      refine bS (wf500 c5 m (show vR 3 by decide) _) h ?_
      intro c8 h
      try rw [zf1003 c8 m]
      try rw [zf1002 c8 m]
      refine iteC Iff.rfl h (fun b10 h => ?_) (fun b10 h => ?_)
      · refine bV h ?_
        intro x11 h
        exact hk25 x11 c8 _ h
      · cases h
        rfl
    · try rw [zf1003 c5 m]
      cases h
      rfl
set_option maxRecDepth 100000 in
set_option maxHeartbeats 4000000 in
theorem uO_Judge_wrongPlace_25 (m : h_M)  : ∀ (n : Nat) (v3 : Int) (c0 : h_C) (r : (Int × h_C)), GO_Judge_wrongPlace_25 n v3 c0 = some r → O_Judge_wrongPlace_25 n 1115 v3 (h_H c0 m) = some (r.1, (h_H r.2 m)) := by
  intro n
  induction n with
  | zero => intro v3 c0 r h; cases h
  | succ n ih => intro v3 c0 r h; exact uL_Judge_wrongPlace_25 m (O_Judge_wrongPlace_25 n) (GO_Judge_wrongPlace_25 n) ih v3 c0 r h
set_option maxRecDepth 100000 in
set_option maxHeartbeats 4000000 in
theorem u_Judge_wrongPlace (m : h_M) (v2 : Int) (c0 : h_C) (r : (Int × h_C)) (h : G_Judge_wrongPlace v2 c0 = some r) : F_Judge_wrongPlace 1115 1124 v2 (h_H c0 m) = some (r.1, (h_H r.2 m)) := by
  unfold G_Judge_wrongPlace at h
  unfold F_Judge_wrongPlace
  refine gdT (isD c0 m d1000) ?_
  refine bS (h_wR5004 c0 m) h ?_
  intro c1 h
  refine bS (wf1002 c1 m _) h ?_
  intro c3 h
  refine bS (wf1003 c3 m _) h ?_
  intro c5 h
  try rw [rs1115_0 c5 m]
  refine gdT (isD c5 m (d500 (show vR 3 by decide))) ?_
  refine bS (wf508 c5 m (show vR 3 by decide) _) h ?_
  intro c7 h
  exact uO_Judge_wrongPlace_25 m 3000 0 c7 _ h
def G_SW_load  (c0 : h_C) : Option (Int × h_C) :=
  q_bd (G_Judge_wrongPlace (c0 606 0 0) c0) fun r3 c4 =>
  p_bi (wc c4 606 0 0 0) fun c6 =>
  if r3 = (-1) then
    p_gd (0 ≤ c6 5000 0 0 ∧ c6 5000 0 0 < 3) <|
    q_bv (G_Works_ruleBy (c6 5000 0 0).toNat 3 c6) fun c13 =>
    p_gd (0 ≤ c13 5000 0 0 ∧ c13 5000 0 0 < 3) <|
    q_bd (G_SW_built (c13 500 (c13 5000 0 0).toNat 0) c13) fun r19 c20 =>
    some (r19, c20)
  else
    q_bd (G_SW_refuse (p_w ((-100) - r3)) c6) fun r24 c25 =>
    some (r24, c25)
set_option maxRecDepth 100000 in
set_option maxHeartbeats 4000000 in
theorem u_SW_load (m : h_M)  (c0 : h_C) (r : (Int × h_C)) (h : G_SW_load  c0 = some r) : F_SW_load 1 (h_H c0 m) = some (r.1, (h_H r.2 m)) := by
  unfold G_SW_load at h
  unfold F_SW_load
  refine gdT (isD c0 m d600) ?_
  try rw [rs1_4 c0 m]
  try rw [rs1_5 c0 m]
  try rw [zf606 c0 m]
  refine gdT (isD c0 m d1000) ?_
  obtain ⟨r3, c4, q1, h⟩ := q_bdE h
  refine bdC (u_Judge_wrongPlace m (c0 606 0 0) c0 _ q1) ?_
  refine bS (wf606 c4 m _) h ?_
  intro c6 h
  refine iteC Iff.rfl h (fun b8 h => ?_) (fun b8 h => ?_)
  · obtain ⟨g9, h⟩ := p_gdE h
    try rw [rm5000 c6 m g9]
    have hv10 : vW (c6 5000 0 0).toNat := by omega
    try rw [rs1_4 c6 m]
    refine gdT (isD c6 m d1000) ?_
    try rw [rs1115_0 c6 m]
    refine gdT (isD c6 m (d200 hv10)) ?_
    obtain ⟨c13, q11, h⟩ := q_bvE h
    refine bvC (u_Works_ruleBy m (c6 5000 0 0).toNat 3 c6 _ q11) ?_
    obtain ⟨g14, h⟩ := p_gdE h
    try rw [rm5000 c13 m g14]
    have hv15 : vW (c13 5000 0 0).toNat := by omega
    refine gdT (isD c13 m (d200 hv15)) ?_
    try rw [rD c13 m (rr200_3 hv15)]
    have hv16 : vR (c13 5000 0 0).toNat := by have := hv15; omega
    refine gdT (isD c13 m (d500 hv16)) ?_
    try rw [zf500 c13 m hv16]
    obtain ⟨r19, c20, q17, h⟩ := q_bdE h
    refine bdC (u_SW_built m (c13 500 (c13 5000 0 0).toNat 0) c13 _ q17) ?_
    cases h
    rfl
  · obtain ⟨r24, c25, q22, h⟩ := q_bdE h
    refine bdC (u_SW_refuse m (p_w ((-100) - r3)) c6 _ q22) ?_
    cases h
    rfl
def GB_SW_plan_21   (c0 : h_C) : Option (Int × h_C) :=
  q_bd (G_SW_refuse (-2) c0) fun r3 c4 =>
  some (r3, c4)
def G_SW_plan (v1 : Int) (v2 : Int) (v3 : Int) (v4 : Int) (v5 : Int) (c0 : h_C) : Option (Int × h_C) :=
  if v1 < 1 then
    GB_SW_plan_21 c0
  else
    if 4 < v1 then
      GB_SW_plan_21 c0
    else
      if v2 < 0 then
        GB_SW_plan_21 c0
      else
        if v2 ≤ 9999 then
          p_gd (0 ≤ c0 5000 0 0 ∧ c0 5000 0 0 < 3) <|
          if (c0 206 (c0 5000 0 0).toNat 0) < 16 then
            p_bi (wc c0 206 (c0 5000 0 0).toNat 0 (p_w ((c0 206 (c0 5000 0 0).toNat 0) + 1))) fun c8 =>
            p_bi ((c0 206 (c0 5000 0 0).toNat 0)) fun x11 =>
            p_gd (0 ≤ c8 5000 0 0 ∧ c8 5000 0 0 < 3) <|
            p_gd ((0 : Int) ≤ x11 ∧ x11 < (16 : Int)) <|
            p_gd ((0 : Int) ≤ 0 ∧ 0 < (4 : Int)) <|
            p_bi (wc c8 2031 (16 * (c8 5000 0 0).toNat + (x11 : Int).toNat) (0 : Int).toNat v2) fun c18 =>
            p_gd ((0 : Int) ≤ 1 ∧ 1 < (4 : Int)) <|
            p_bi (wc c18 2031 (16 * (c8 5000 0 0).toNat + (x11 : Int).toNat) (1 : Int).toNat v3) fun c21 =>
            p_gd ((0 : Int) ≤ 2 ∧ 2 < (4 : Int)) <|
            p_bi (wc c21 2031 (16 * (c8 5000 0 0).toNat + (x11 : Int).toNat) (2 : Int).toNat v4) fun c24 =>
            p_gd ((0 : Int) ≤ 3 ∧ 3 < (4 : Int)) <|
            p_bi (wc c24 2031 (16 * (c8 5000 0 0).toNat + (x11 : Int).toNat) (3 : Int).toNat v5) fun c27 =>
            p_gd (0 ≤ c27 5000 0 0 ∧ c27 5000 0 0 < 3) <|
            p_bi (wc c27 2032 (c27 5000 0 0).toNat (x11 : Int).toNat v1) fun c31 =>
            q_bd (G_SW_built x11 c31) fun r35 c36 =>
            some (r35, c36)
          else
            q_bd (G_SW_refuse (-4) c0) fun r40 c41 =>
            some (r40, c41)
        else
          GB_SW_plan_21 c0
set_option maxRecDepth 100000 in
set_option maxHeartbeats 4000000 in
theorem uB_SW_plan_21 (m : h_M)   (c0 : h_C) (r : (Int × h_C)) (h : GB_SW_plan_21  c0 = some r) : B_SW_plan_21 1 (h_H c0 m) = some (r.1, (h_H r.2 m)) := by
  unfold GB_SW_plan_21 at h
  unfold B_SW_plan_21
  refine gdT (isD c0 m d600) ?_
  obtain ⟨r3, c4, q1, h⟩ := q_bdE h
  refine bdC (u_SW_refuse m (-2) c0 _ q1) ?_
  cases h
  rfl
set_option maxRecDepth 100000 in
set_option maxHeartbeats 4000000 in
theorem u_SW_plan (m : h_M) (v1 : Int) (v2 : Int) (v3 : Int) (v4 : Int) (v5 : Int) (c0 : h_C) (r : (Int × h_C)) (h : G_SW_plan v1 v2 v3 v4 v5 c0 = some r) : F_SW_plan 1 v1 v2 v3 v4 v5 (h_H c0 m) = some (r.1, (h_H r.2 m)) := by
  unfold G_SW_plan at h
  unfold F_SW_plan
  refine iteC Iff.rfl h (fun b1 h => ?_) (fun b1 h => ?_)
  · exact uB_SW_plan_21 m c0 _ h
  · refine iteC Iff.rfl h (fun b2 h => ?_) (fun b2 h => ?_)
    · exact uB_SW_plan_21 m c0 _ h
    · refine iteC Iff.rfl h (fun b3 h => ?_) (fun b3 h => ?_)
      · exact uB_SW_plan_21 m c0 _ h
      · refine iteC Iff.rfl h (fun b4 h => ?_) (fun b4 h => ?_)
        · refine gdT (isD c0 m d600) ?_
          obtain ⟨g5, h⟩ := p_gdE h
          try rw [rm5000 c0 m g5]
          have hv6 : vW (c0 5000 0 0).toNat := by omega
          refine gdT (isD c0 m (d200 hv6)) ?_
          try rw [zf206 c0 m hv6]
          refine iteC Iff.rfl h (fun b7 h => ?_) (fun b7 h => ?_)
          · try rw [rm5000 c0 m g5]
            try rw [zf206 c0 m hv6]
            refine bS (wf206 c0 m hv6 _) h ?_
            intro c8 h
            refine bV h ?_
            intro x11 h
            obtain ⟨g12, h⟩ := p_gdE h
            try rw [rm5000 c8 m g12]
            have hv13 : vW (c8 5000 0 0).toNat := by omega
            refine gdT (isD c8 m (d200 hv13)) ?_
            try rw [rD c8 m (rr200_4 hv13)]
            refine gdT (isD c8 m (d2030 hv13)) ?_
            obtain ⟨g14, h⟩ := p_gdE h
            refine gdT ⟨g14.1, by (try rw [lenD c8 m (d2030 hv13)]); exact g14.2⟩ ?_
            try rw [rD c8 m (el2030 (k := (x11 : Int).toNat) hv13 (Nat.zero_le _) (by omega))]
            have hv15 : vQ (16 * (c8 5000 0 0).toNat + (x11 : Int).toNat) := by have := hv13; omega
            refine bX ?_
            refine gdT (isD c8 m (d2031 hv15)) ?_
            obtain ⟨g17, h⟩ := p_gdE h
            refine gdT ⟨g17.1, by (try rw [lenD c8 m (d2031 hv15)]); exact g17.2⟩ ?_
            refine bS (wA c8 m (d2031 hv15) (by decide) _ _) h ?_
            intro c18 h
            obtain ⟨g20, h⟩ := p_gdE h
            refine gdT ⟨g20.1, by (try rw [lenD c18 m (d2031 hv15)]); exact g20.2⟩ ?_
            refine bS (wA c18 m (d2031 hv15) (by decide) _ _) h ?_
            intro c21 h
            obtain ⟨g23, h⟩ := p_gdE h
            refine gdT ⟨g23.1, by (try rw [lenD c21 m (d2031 hv15)]); exact g23.2⟩ ?_
            refine bS (wA c21 m (d2031 hv15) (by decide) _ _) h ?_
            intro c24 h
            obtain ⟨g26, h⟩ := p_gdE h
            refine gdT ⟨g26.1, by (try rw [lenD c24 m (d2031 hv15)]); exact g26.2⟩ ?_
            refine bS (wA c24 m (d2031 hv15) (by decide) _ _) h ?_
            intro c27 h
            obtain ⟨g29, h⟩ := p_gdE h
            try rw [rm5000 c27 m g29]
            have hv30 : vW (c27 5000 0 0).toNat := by omega
            refine gdT (isD c27 m (d200 hv30)) ?_
            try rw [rD c27 m (rr200_5 hv30)]
            refine gdT (isD c27 m (d2032 hv30)) ?_
            refine gdT ⟨g14.1, by (try rw [lenD c27 m (d2032 hv30)]); exact g14.2⟩ ?_
            refine bS (wA c27 m (d2032 hv30) (by decide) _ _) h ?_
            intro c31 h
            obtain ⟨r35, c36, q33, h⟩ := q_bdE h
            refine bdC (u_SW_built m x11 c31 _ q33) ?_
            cases h
            rfl
          · obtain ⟨r40, c41, q38, h⟩ := q_bdE h
            refine bdC (u_SW_refuse m (-4) c0 _ q38) ?_
            cases h
            rfl
        · exact uB_SW_plan_21 m c0 _ h
def G_Numbers_insideOf (v0 : Int) (c0 : h_C) : Option Int :=
  some (p_w ((-10) - v0))
set_option maxRecDepth 100000 in
set_option maxHeartbeats 4000000 in
theorem u_Numbers_insideOf (m : h_M) (v0 : Int) (c0 : h_C) (r : Int) (h : G_Numbers_insideOf v0 c0 = some r) : F_Numbers_insideOf v0 (h_H c0 m) = some (r, (h_H c0 m)) := by
  unfold G_Numbers_insideOf at h
  unfold F_Numbers_insideOf
  cases h
  rfl
def G_Numbers_giveTo (v1 : Int) (c0 : h_C) : Option (Int × h_C) :=
  p_bi (wc c0 701 0 0 (p_w ((c0 701 0 0) + 1))) fun c1 =>
  q_bv (G_Numbers_insideOf v1 c1) fun r5 =>
  p_gd ((0 : Int) ≤ (c1 701 0 0) ∧ (c1 701 0 0) < (2001 : Int)) <|
  p_bi (wc c1 2040 0 ((c1 701 0 0) : Int).toNat r5) fun c8 =>
  some ((c8 701 0 0), c8)
set_option maxRecDepth 100000 in
set_option maxHeartbeats 4000000 in
theorem u_Numbers_giveTo (m : h_M) (v1 : Int) (c0 : h_C) (r : (Int × h_C)) (h : G_Numbers_giveTo v1 c0 = some r) : F_Numbers_giveTo 1110 v1 (h_H c0 m) = some (r.1, (h_H r.2 m)) := by
  unfold G_Numbers_giveTo at h
  unfold F_Numbers_giveTo
  refine gdT (isD c0 m d700) ?_
  try rw [zf701 c0 m]
  refine bS (wf701 c0 m _) h ?_
  intro c1 h
  try rw [rs1110_0 c1 m]
  try rw [zf701 c1 m]
  obtain ⟨r5, q3, h⟩ := q_bvE h
  refine bdC (u_Numbers_insideOf m v1 c1 _ q3) ?_
  refine gdT (isD c1 m d2040) ?_
  obtain ⟨g7, h⟩ := p_gdE h
  refine gdT ⟨g7.1, by (try rw [lenD c1 m d2040]); exact g7.2⟩ ?_
  refine bS (wA c1 m d2040 (by decide) _ _) h ?_
  intro c8 h
  try rw [zf701 c8 m]
  cases h
  rfl
def GL_State_freeParcel_2 (k2 : Nat → Int → h_C → Option Nat) (v0 : Nat) (v1 : Int) (c0 : h_C) : Option Nat :=
  if 30 < v1 then
    some 0
  else
    p_gd (vW v0) <|
    p_gd ((0 : Int) ≤ v1 ∧ v1 < (31 : Int)) <|
    p_gd (v1 ≠ 0) <|
    if (c0 101 (31 * v0 + (v1 : Int).toNat) 0) ≠ 0 then
      p_bi (p_w (v1 + 1)) fun x7 =>
      k2 v0 x7 c0
    else
      some (31 * v0 + (v1 : Int).toNat)
def GO_State_freeParcel_2  : Nat → Nat → Int → h_C → Option Nat
  | 0 => fun _ _ _ => none
  | n + 1 => GL_State_freeParcel_2 (GO_State_freeParcel_2 n)
def G_State_freeParcel (v0 : Nat) (c0 : h_C) : Option Nat :=
  GO_State_freeParcel_2 3000 v0 1 c0
set_option maxRecDepth 100000 in
set_option maxHeartbeats 4000000 in
theorem uL_State_freeParcel_2 (m : h_M) (j2 : Nat → Int → p_Hp → Option (Nat × p_Hp)) (k2 : Nat → Int → h_C → Option Nat) (hk2 : ∀ (v0 : Nat) (v1 : Int) (c0 : h_C) (r : Nat), k2 v0 v1 c0 = some r → j2 (h_A 300 v0) v1 (h_H c0 m) = some (h_A 100 r, (h_H c0 m))) (v0 : Nat) (v1 : Int) (c0 : h_C) (r : Nat) (h : GL_State_freeParcel_2 k2 v0 v1 c0 = some r) : L_State_freeParcel_2 j2 (h_A 300 v0) v1 (h_H c0 m) = some (h_A 100 r, (h_H c0 m)) := by
  unfold GL_State_freeParcel_2 at h
  unfold L_State_freeParcel_2
  refine iteC Iff.rfl h (fun b1 h => ?_) (fun b1 h => ?_)
  · cases h
    rfl
  · obtain ⟨g2, h⟩ := p_gdE h
    refine gdT (isD c0 m (d300 g2)) ?_
    try rw [rD c0 m (rr300_5 g2)]
    refine gdT (isD c0 m (d2002 g2)) ?_
    obtain ⟨g3, h⟩ := p_gdE h
    refine gdT ⟨g3.1, by (try rw [lenD c0 m (d2002 g2)]); exact g3.2⟩ ?_
    obtain ⟨g4, h⟩ := p_gdE h
    try rw [rD c0 m (el2002 (k := (v1 : Int).toNat) g2 (by omega) (by omega))]
    have hv5 : vP (31 * v0 + (v1 : Int).toNat) := ⟨by omega, by have := g2; omega⟩
    refine gdT (isD c0 m (d100 hv5)) ?_
    try rw [zf101 c0 m hv5]
    refine iteC Iff.rfl h (fun b6 h => ?_) (fun b6 h => ?_)
    · refine bV h ?_
      intro x7 h
      exact hk2 v0 x7 c0 _ h
    · try rw [rD c0 m (rr300_5 g2)]
      refine gdT ⟨g3.1, by (try rw [lenD c0 m (d2002 g2)]); exact g3.2⟩ ?_
      try rw [rD c0 m (el2002 (k := (v1 : Int).toNat) g2 (by omega) (by omega))]
      cases h
      rfl
set_option maxRecDepth 100000 in
set_option maxHeartbeats 4000000 in
theorem uO_State_freeParcel_2 (m : h_M)  : ∀ (n : Nat) (v0 : Nat) (v1 : Int) (c0 : h_C) (r : Nat), GO_State_freeParcel_2 n v0 v1 c0 = some r → O_State_freeParcel_2 n (h_A 300 v0) v1 (h_H c0 m) = some (h_A 100 r, (h_H c0 m)) := by
  intro n
  induction n with
  | zero => intro v0 v1 c0 r h; cases h
  | succ n ih => intro v0 v1 c0 r h; exact uL_State_freeParcel_2 m (O_State_freeParcel_2 n) (GO_State_freeParcel_2 n) ih v0 v1 c0 r h
set_option maxRecDepth 100000 in
set_option maxHeartbeats 4000000 in
theorem u_State_freeParcel (m : h_M) (v0 : Nat) (c0 : h_C) (r : Nat) (h : G_State_freeParcel v0 c0 = some r) : F_State_freeParcel (h_A 300 v0) (h_H c0 m) = some (h_A 100 r, (h_H c0 m)) := by
  unfold G_State_freeParcel at h
  unfold F_State_freeParcel
  exact uO_State_freeParcel_2 m 3000 v0 1 c0 _ h
def G_SW_newParcel  (c0 : h_C) : Option (Nat × h_C) :=
  p_gd (0 ≤ c0 5000 0 0 ∧ c0 5000 0 0 < 3) <|
  q_bv (G_State_freeParcel (c0 5000 0 0).toNat c0) fun r5 =>
  if r5 = 0 then
    some (0, c0)
  else
    if (c0 701 0 0) < 2000 then
      q_bd (G_Numbers_giveTo (c0 200 (c0 5000 0 0).toNat 0) c0) fun r11 c12 =>
      p_gd (vP r5) <|
      p_bi (wc c12 101 r5 0 r11) fun c15 =>
      some (r5, c15)
    else
      some (0, c0)
set_option maxRecDepth 100000 in
set_option maxHeartbeats 4000000 in
theorem u_SW_newParcel (m : h_M)  (c0 : h_C) (r : (Nat × h_C)) (h : G_SW_newParcel  c0 = some r) : F_SW_newParcel 1 (h_H c0 m) = some (h_A 100 r.1, (h_H r.2 m)) := by
  unfold G_SW_newParcel at h
  unfold F_SW_newParcel
  refine gdT (isD c0 m d600) ?_
  obtain ⟨g1, h⟩ := p_gdE h
  try rw [rm5000 c0 m g1]
  have hv2 : vW (c0 5000 0 0).toNat := by omega
  refine gdT (isD c0 m (d200 hv2)) ?_
  try rw [rD c0 m (rr200_1 hv2)]
  refine gdT (isD c0 m (d300 hv2)) ?_
  obtain ⟨r5, q3, h⟩ := q_bvE h
  refine bdC (u_State_freeParcel m (c0 5000 0 0).toNat c0 _ q3) ?_
  refine iteC (h_A100z _) h (fun b7 h => ?_) (fun b7 h => ?_)
  · cases h
    rfl
  · try rw [rs1_2 c0 m]
    refine gdT (isD c0 m d700) ?_
    try rw [zf701 c0 m]
    refine iteC Iff.rfl h (fun b8 h => ?_) (fun b8 h => ?_)
    · try rw [rs1_2 c0 m]
      try rw [rm5000 c0 m g1]
      refine gdT (isD c0 m (d200 hv2)) ?_
      try rw [zf200 c0 m hv2]
      obtain ⟨r11, c12, q9, h⟩ := q_bdE h
      refine bdC (u_Numbers_giveTo m (c0 200 (c0 5000 0 0).toNat 0) c0 _ q9) ?_
      obtain ⟨g14, h⟩ := p_gdE h
      refine gdT (isD c12 m (d100 g14)) ?_
      refine bS (wf101 c12 m g14 _) h ?_
      intro c15 h
      cases h
      rfl
    · cases h
      rfl
def GB_Gear_isChute_18   (c0 : h_C) : Option Int :=
  some 1
def G_Gear_isChute (v0 : Nat) (c0 : h_C) : Option Int :=
  p_gd (vG v0) <|
  if (c0 0 v0 0) = 7 then
    GB_Gear_isChute_18 c0
  else
    if (c0 0 v0 0) ≠ 8 then
      some 0
    else
      GB_Gear_isChute_18 c0
set_option maxRecDepth 100000 in
set_option maxHeartbeats 4000000 in
theorem uB_Gear_isChute_18 (m : h_M)   (c0 : h_C) (r : Int) (h : GB_Gear_isChute_18  c0 = some r) : B_Gear_isChute_18  (h_H c0 m) = some (r, (h_H c0 m)) := by
  unfold GB_Gear_isChute_18 at h
  unfold B_Gear_isChute_18
  cases h
  rfl
set_option maxRecDepth 100000 in
set_option maxHeartbeats 4000000 in
theorem u_Gear_isChute (m : h_M) (v0 : Nat) (c0 : h_C) (r : Int) (h : G_Gear_isChute v0 c0 = some r) : F_Gear_isChute (h_A 0 v0) (h_H c0 m) = some (r, (h_H c0 m)) := by
  unfold G_Gear_isChute at h
  unfold F_Gear_isChute
  obtain ⟨g1, h⟩ := p_gdE h
  refine gdT (isD c0 m (d0 g1)) ?_
  try rw [zf0 c0 m g1]
  refine iteC Iff.rfl h (fun b2 h => ?_) (fun b2 h => ?_)
  · exact uB_Gear_isChute_18 m c0 _ h
  · try rw [zf0 c0 m g1]
    refine iteC Iff.rfl h (fun b3 h => ?_) (fun b3 h => ?_)
    · cases h
      rfl
    · exact uB_Gear_isChute_18 m c0 _ h
def G_Gear_isFreeAtStart (v0 : Nat) (c0 : h_C) : Option Int :=
  p_gd (vG v0) <|
  p_gd ((0 : Int) ≤ 0 ∧ 0 < (8 : Int)) <|
  if (c0 2012 v0 (0 : Int).toNat) ≠ 0 then
    some 0
  else
    some 1
set_option maxRecDepth 100000 in
set_option maxHeartbeats 4000000 in
theorem u_Gear_isFreeAtStart (m : h_M) (v0 : Nat) (c0 : h_C) (r : Int) (h : G_Gear_isFreeAtStart v0 c0 = some r) : F_Gear_isFreeAtStart (h_A 0 v0) (h_H c0 m) = some (r, (h_H c0 m)) := by
  unfold G_Gear_isFreeAtStart at h
  unfold F_Gear_isFreeAtStart
  obtain ⟨g1, h⟩ := p_gdE h
  refine gdT (isD c0 m (d0 g1)) ?_
  try rw [rD c0 m (rr0_17 g1)]
  refine gdT (isD c0 m (d2012 g1)) ?_
  obtain ⟨g2, h⟩ := p_gdE h
  refine gdT ⟨g2.1, by (try rw [lenD c0 m (d2012 g1)]); exact g2.2⟩ ?_
  try rw [zA c0 m (d2012 g1) (by decide) (0 : Int).toNat]
  refine iteC Iff.rfl h (fun b3 h => ?_) (fun b3 h => ?_)
  · cases h
    rfl
  · cases h
    rfl
def GB_State_setDown_61  (v1 : Nat) (c0 : h_C) : Option h_C :=
  p_gd (vP v1) <|
  p_bi (wc c0 109 v1 0 (p_w ((c0 109 v1 0) + 1))) fun c2 =>
  some c2
def G_State_setDown (v0 : Nat) (v1 : Nat) (v2 : Int) (c0 : h_C) : Option h_C :=
  p_gd (vW v0) <|
  p_gd ((0 : Int) ≤ v2 ∧ v2 < (40 : Int)) <|
  p_gd (vP v1) <|
  p_gd ((0 : Int) ≤ 0 ∧ 0 < (8 : Int)) <|
  p_bi (wc c0 2012 (40 * v0 + (v2 : Int).toNat + 1) (0 : Int).toNat (c0 100 v1 0)) fun c7 =>
  p_bi (wc c7 10 (40 * v0 + (v2 : Int).toNat + 1) 0 (p_w ((c7 10 (40 * v0 + (v2 : Int).toNat + 1) 0) + 1))) fun c9 =>
  p_bi (wc c9 105 v1 0 v2) fun c11 =>
  p_bi (wc c11 106 v1 0 0) fun c13 =>
  p_bi (wc c13 107 v1 0 0) fun c15 =>
  if 16 ≤ (c15 109 v1 0) then
    GB_State_setDown_61 v1 c15
  else
    p_gd ((0 : Int) ≤ (c15 109 v1 0) ∧ (c15 109 v1 0) < (16 : Int)) <|
    p_bi (wc c15 2014 v1 ((c15 109 v1 0) : Int).toNat v2) fun c19 =>
    GB_State_setDown_61 v1 c19
set_option maxRecDepth 100000 in
set_option maxHeartbeats 4000000 in
theorem uB_State_setDown_61 (m : h_M)  (v1 : Nat) (c0 : h_C) (r : h_C) (h : GB_State_setDown_61 v1 c0 = some r) : B_State_setDown_61 (h_A 100 v1) (h_H c0 m) = some (h_H r m) := by
  unfold GB_State_setDown_61 at h
  unfold B_State_setDown_61
  obtain ⟨g1, h⟩ := p_gdE h
  refine gdT (isD c0 m (d100 g1)) ?_
  try rw [zf109 c0 m g1]
  refine bS (wf109 c0 m g1 _) h ?_
  intro c2 h
  cases h
  rfl
set_option maxRecDepth 100000 in
set_option maxHeartbeats 4000000 in
theorem u_State_setDown (m : h_M) (v0 : Nat) (v1 : Nat) (v2 : Int) (c0 : h_C) (r : h_C) (h : G_State_setDown v0 v1 v2 c0 = some r) : F_State_setDown (h_A 300 v0) (h_A 100 v1) v2 (h_H c0 m) = some (h_H r m) := by
  unfold G_State_setDown at h
  unfold F_State_setDown
  obtain ⟨g1, h⟩ := p_gdE h
  refine gdT (isD c0 m (d300 g1)) ?_
  try rw [rD c0 m (rr300_4 g1)]
  refine gdT (isD c0 m (d2001 g1)) ?_
  obtain ⟨g2, h⟩ := p_gdE h
  refine gdT ⟨g2.1, by (try rw [lenD c0 m (d2001 g1)]); exact g2.2⟩ ?_
  try rw [rD c0 m (el2001 (k := (v2 : Int).toNat) g1 (Nat.zero_le _) (by omega))]
  have hv3 : vG (40 * v0 + (v2 : Int).toNat + 1) := ⟨by omega, by have := g1; omega⟩
  refine bX ?_
  refine gdT (isD c0 m (d0 hv3)) ?_
  try rw [rD c0 m (rr0_17 hv3)]
  obtain ⟨g5, h⟩ := p_gdE h
  refine gdT (isD c0 m (d100 g5)) ?_
  try rw [zf100 c0 m g5]
  refine gdT (isD c0 m (d2012 hv3)) ?_
  obtain ⟨g6, h⟩ := p_gdE h
  refine gdT ⟨g6.1, by (try rw [lenD c0 m (d2012 hv3)]); exact g6.2⟩ ?_
  refine bS (wA c0 m (d2012 hv3) (by decide) _ _) h ?_
  intro c7 h
  try rw [zf10 c7 m hv3]
  refine bS (wf10 c7 m hv3 _) h ?_
  intro c9 h
  refine bS (wf105 c9 m g5 _) h ?_
  intro c11 h
  refine bS (wf106 c11 m g5 _) h ?_
  intro c13 h
  refine bS (wf107 c13 m g5 _) h ?_
  intro c15 h
  try rw [zf109 c15 m g5]
  refine iteC Iff.rfl h (fun b17 h => ?_) (fun b17 h => ?_)
  · exact uB_State_setDown_61 m v1 c15 _ h
  · try rw [rD c15 m (rr100_10 g5)]
    try rw [zf109 c15 m g5]
    refine gdT (isD c15 m (d2014 g5)) ?_
    obtain ⟨g18, h⟩ := p_gdE h
    refine gdT ⟨g18.1, by (try rw [lenD c15 m (d2014 g5)]); exact g18.2⟩ ?_
    refine bS (wA c15 m (d2014 g5) (by decide) _ _) h ?_
    intro c19 h
    exact uB_State_setDown_61 m v1 c19 _ h
def G_State_bringIn (v0 : Nat) (v1 : Nat) (v2 : Int) (v3 : Int) (v4 : Int) (c0 : h_C) : Option h_C :=
  p_gd (vP v1) <|
  p_bi (wc c0 102 v1 0 v3) fun c2 =>
  p_bi (wc c2 103 v1 0 v4) fun c4 =>
  p_bi (wc c4 104 v1 0 (-9)) fun c6 =>
  p_bi (wc c6 109 v1 0 0) fun c8 =>
  p_bi (wc c8 111 v1 0 (-1)) fun c10 =>
  p_gd (vW v0) <|
  p_bi (wc c10 301 v0 0 (p_w ((c10 301 v0 0) + 1))) fun c13 =>
  p_bi (wc c13 302 v0 0 (p_w ((c13 302 v0 0) + 1))) fun c15 =>
  q_bv (G_State_setDown v0 v1 v2 c15) fun c19 =>
  some c19
set_option maxRecDepth 100000 in
set_option maxHeartbeats 4000000 in
theorem u_State_bringIn (m : h_M) (v0 : Nat) (v1 : Nat) (v2 : Int) (v3 : Int) (v4 : Int) (c0 : h_C) (r : h_C) (h : G_State_bringIn v0 v1 v2 v3 v4 c0 = some r) : F_State_bringIn (h_A 300 v0) (h_A 100 v1) v2 v3 v4 (h_H c0 m) = some (h_H r m) := by
  unfold G_State_bringIn at h
  unfold F_State_bringIn
  obtain ⟨g1, h⟩ := p_gdE h
  refine gdT (isD c0 m (d100 g1)) ?_
  refine bS (wf102 c0 m g1 _) h ?_
  intro c2 h
  refine bS (wf103 c2 m g1 _) h ?_
  intro c4 h
  refine bS (wf104 c4 m g1 _) h ?_
  intro c6 h
  refine bS (wf109 c6 m g1 _) h ?_
  intro c8 h
  refine bS (wf111 c8 m g1 _) h ?_
  intro c10 h
  obtain ⟨g12, h⟩ := p_gdE h
  refine gdT (isD c10 m (d300 g12)) ?_
  try rw [zf301 c10 m g12]
  refine bS (wf301 c10 m g12 _) h ?_
  intro c13 h
  try rw [zf302 c13 m g12]
  refine bS (wf302 c13 m g12 _) h ?_
  intro c15 h
  obtain ⟨c19, q17, h⟩ := q_bvE h
  refine bvC (u_State_setDown m v0 v1 v2 c15 _ q17) ?_
  cases h
  rfl
def GB_SW_come_43   (c0 : h_C) : Option (Int × h_C) :=
  q_bd (G_SW_refuse (-2) c0) fun r3 c4 =>
  some (r3, c4)
def GB_SW_come_81   (c0 : h_C) : Option (Int × h_C) :=
  q_bd (G_SW_refuse (-3) c0) fun r3 c4 =>
  some (r3, c4)
def G_SW_come (v1 : Int) (v2 : Int) (v3 : Int) (c0 : h_C) : Option (Int × h_C) :=
  p_gd (0 ≤ c0 5000 0 0 ∧ c0 5000 0 0 < 3) <|
  q_bv (G_Works_gearOf (c0 5000 0 0).toNat v1 c0) fun r5 =>
  if r5 ≠ 0 then
    if v2 < 1 then
      GB_SW_come_43 c0
    else
      if 999 < v2 then
        GB_SW_come_43 c0
      else
        if v3 < 0 then
          GB_SW_come_43 c0
        else
          if v3 ≤ 9 then
            p_gd (vG r5) <|
            q_bv (G_Gear_isTaker r5 c0) fun r15 =>
            if r15 ≠ 0 then
              q_bv (G_Gear_isChute r5 c0) fun r20 =>
              if r20 ≠ 0 then
                GB_SW_come_81 c0
              else
                q_bv (G_Gear_isFreeAtStart r5 c0) fun r25 =>
                if r25 ≠ 0 then
                  q_bd (G_SW_newParcel c0) fun r30 c31 =>
                  if r30 ≠ 0 then
                    p_gd (0 ≤ c31 5000 0 0 ∧ c31 5000 0 0 < 3) <|
                    q_bv (G_State_bringIn (c31 5000 0 0).toNat r30 v1 v2 v3 c31) fun c38 =>
                    p_gd (vP r30) <|
                    q_bd (G_SW_done (c38 101 r30 0) c38) fun r42 c43 =>
                    some (r42, c43)
                  else
                    q_bd (G_SW_refuse (-4) c31) fun r47 c48 =>
                    some (r47, c48)
                else
                  GB_SW_come_81 c0
            else
              q_bd (G_SW_refuse (-12) c0) fun r52 c53 =>
              some (r52, c53)
          else
            GB_SW_come_43 c0
  else
    q_bd (G_SW_refuse (-1) c0) fun r57 c58 =>
    some (r57, c58)
set_option maxRecDepth 100000 in
set_option maxHeartbeats 4000000 in
theorem uB_SW_come_43 (m : h_M)   (c0 : h_C) (r : (Int × h_C)) (h : GB_SW_come_43  c0 = some r) : B_SW_come_43 1 (h_H c0 m) = some (r.1, (h_H r.2 m)) := by
  unfold GB_SW_come_43 at h
  unfold B_SW_come_43
  refine gdT (isD c0 m d600) ?_
  obtain ⟨r3, c4, q1, h⟩ := q_bdE h
  refine bdC (u_SW_refuse m (-2) c0 _ q1) ?_
  cases h
  rfl
set_option maxRecDepth 100000 in
set_option maxHeartbeats 4000000 in
theorem uB_SW_come_81 (m : h_M)   (c0 : h_C) (r : (Int × h_C)) (h : GB_SW_come_81  c0 = some r) : B_SW_come_81 1 (h_H c0 m) = some (r.1, (h_H r.2 m)) := by
  unfold GB_SW_come_81 at h
  unfold B_SW_come_81
  refine gdT (isD c0 m d600) ?_
  obtain ⟨r3, c4, q1, h⟩ := q_bdE h
  refine bdC (u_SW_refuse m (-3) c0 _ q1) ?_
  cases h
  rfl
set_option maxRecDepth 100000 in
set_option maxHeartbeats 4000000 in
theorem u_SW_come (m : h_M) (v1 : Int) (v2 : Int) (v3 : Int) (c0 : h_C) (r : (Int × h_C)) (h : G_SW_come v1 v2 v3 c0 = some r) : F_SW_come 1 v1 v2 v3 (h_H c0 m) = some (r.1, (h_H r.2 m)) := by
  unfold G_SW_come at h
  unfold F_SW_come
  refine gdT (isD c0 m d600) ?_
  obtain ⟨g1, h⟩ := p_gdE h
  try rw [rm5000 c0 m g1]
  have hv2 : vW (c0 5000 0 0).toNat := by omega
  refine gdT (isD c0 m (d200 hv2)) ?_
  obtain ⟨r5, q3, h⟩ := q_bvE h
  refine bdC (u_Works_gearOf m (c0 5000 0 0).toNat v1 c0 _ q3) ?_
  refine iteC (ne_iff (h_A0z _)) h (fun b7 h => ?_) (fun b7 h => ?_)
  · refine iteC Iff.rfl h (fun b8 h => ?_) (fun b8 h => ?_)
    · exact uB_SW_come_43 m c0 _ h
    · refine iteC Iff.rfl h (fun b9 h => ?_) (fun b9 h => ?_)
      · exact uB_SW_come_43 m c0 _ h
      · refine iteC Iff.rfl h (fun b10 h => ?_) (fun b10 h => ?_)
        · exact uB_SW_come_43 m c0 _ h
        · refine iteC Iff.rfl h (fun b11 h => ?_) (fun b11 h => ?_)
          · obtain ⟨g12, h⟩ := p_gdE h
            refine gdT (isD c0 m (d0 g12)) ?_
            obtain ⟨r15, q13, h⟩ := q_bvE h
            refine bdC (u_Gear_isTaker m r5 c0 _ q13) ?_
            refine iteC Iff.rfl h (fun b17 h => ?_) (fun b17 h => ?_)
            · obtain ⟨r20, q18, h⟩ := q_bvE h
              refine bdC (u_Gear_isChute m r5 c0 _ q18) ?_
              refine iteC Iff.rfl h (fun b22 h => ?_) (fun b22 h => ?_)
              · exact uB_SW_come_81 m c0 _ h
              · obtain ⟨r25, q23, h⟩ := q_bvE h
                refine bdC (u_Gear_isFreeAtStart m r5 c0 _ q23) ?_
                refine iteC Iff.rfl h (fun b27 h => ?_) (fun b27 h => ?_)
                · obtain ⟨r30, c31, q28, h⟩ := q_bdE h
                  refine bdC (u_SW_newParcel m c0 _ q28) ?_
                  refine iteC (ne_iff (h_A100z _)) h (fun b33 h => ?_) (fun b33 h => ?_)
                  · obtain ⟨g34, h⟩ := p_gdE h
                    try rw [rm5000 c31 m g34]
                    have hv35 : vW (c31 5000 0 0).toNat := by omega
                    refine gdT (isD c31 m (d200 hv35)) ?_
                    try rw [rD c31 m (rr200_1 hv35)]
                    refine gdT (isD c31 m (d300 hv35)) ?_
                    obtain ⟨c38, q36, h⟩ := q_bvE h
                    refine bvC (u_State_bringIn m (c31 5000 0 0).toNat r30 v1 v2 v3 c31 _ q36) ?_
                    obtain ⟨g39, h⟩ := p_gdE h
                    refine gdT (isD c38 m (d100 g39)) ?_
                    try rw [zf101 c38 m g39]
                    obtain ⟨r42, c43, q40, h⟩ := q_bdE h
                    refine bdC (u_SW_done m (c38 101 r30 0) c38 _ q40) ?_
                    cases h
                    rfl
                  · obtain ⟨r47, c48, q45, h⟩ := q_bdE h
                    refine bdC (u_SW_refuse m (-4) c31 _ q45) ?_
                    cases h
                    rfl
                · exact uB_SW_come_81 m c0 _ h
            · obtain ⟨r52, c53, q50, h⟩ := q_bdE h
              refine bdC (u_SW_refuse m (-12) c0 _ q50) ?_
              cases h
              rfl
          · exact uB_SW_come_43 m c0 _ h
  · obtain ⟨r57, c58, q55, h⟩ := q_bdE h
    refine bdC (u_SW_refuse m (-1) c0 _ q55) ?_
    cases h
    rfl
def GL_State_find_9 (k9 : Nat → Int → Int → h_C → Option Nat) (v0 : Nat) (v1 : Int) (v2 : Int) (c0 : h_C) : Option Nat :=
  if 30 < v2 then
    some 0
  else
    p_gd (vW v0) <|
    p_gd ((0 : Int) ≤ v2 ∧ v2 < (31 : Int)) <|
    p_gd (v2 ≠ 0) <|
    if (c0 101 (31 * v0 + (v2 : Int).toNat) 0) ≠ v1 then
      p_bi (p_w (v2 + 1)) fun x7 =>
      k9 v0 v1 x7 c0
    else
      some (31 * v0 + (v2 : Int).toNat)
def GO_State_find_9  : Nat → Nat → Int → Int → h_C → Option Nat
  | 0 => fun _ _ _ _ => none
  | n + 1 => GL_State_find_9 (GO_State_find_9 n)
def G_State_find (v0 : Nat) (v1 : Int) (c0 : h_C) : Option Nat :=
  if 1 ≤ v1 then
    GO_State_find_9 3000 v0 v1 1 c0
  else
    some 0
set_option maxRecDepth 100000 in
set_option maxHeartbeats 4000000 in
theorem uL_State_find_9 (m : h_M) (j9 : Nat → Int → Int → p_Hp → Option (Nat × p_Hp)) (k9 : Nat → Int → Int → h_C → Option Nat) (hk9 : ∀ (v0 : Nat) (v1 : Int) (v2 : Int) (c0 : h_C) (r : Nat), k9 v0 v1 v2 c0 = some r → j9 (h_A 300 v0) v1 v2 (h_H c0 m) = some (h_A 100 r, (h_H c0 m))) (v0 : Nat) (v1 : Int) (v2 : Int) (c0 : h_C) (r : Nat) (h : GL_State_find_9 k9 v0 v1 v2 c0 = some r) : L_State_find_9 j9 (h_A 300 v0) v1 v2 (h_H c0 m) = some (h_A 100 r, (h_H c0 m)) := by
  unfold GL_State_find_9 at h
  unfold L_State_find_9
  refine iteC Iff.rfl h (fun b1 h => ?_) (fun b1 h => ?_)
  · cases h
    rfl
  · obtain ⟨g2, h⟩ := p_gdE h
    refine gdT (isD c0 m (d300 g2)) ?_
    try rw [rD c0 m (rr300_5 g2)]
    refine gdT (isD c0 m (d2002 g2)) ?_
    obtain ⟨g3, h⟩ := p_gdE h
    refine gdT ⟨g3.1, by (try rw [lenD c0 m (d2002 g2)]); exact g3.2⟩ ?_
    obtain ⟨g4, h⟩ := p_gdE h
    try rw [rD c0 m (el2002 (k := (v2 : Int).toNat) g2 (by omega) (by omega))]
    have hv5 : vP (31 * v0 + (v2 : Int).toNat) := ⟨by omega, by have := g2; omega⟩
    refine gdT (isD c0 m (d100 hv5)) ?_
    try rw [zf101 c0 m hv5]
    refine iteC Iff.rfl h (fun b6 h => ?_) (fun b6 h => ?_)
    · refine bV h ?_
      intro x7 h
      exact hk9 v0 v1 x7 c0 _ h
    · try rw [rD c0 m (rr300_5 g2)]
      refine gdT ⟨g3.1, by (try rw [lenD c0 m (d2002 g2)]); exact g3.2⟩ ?_
      try rw [rD c0 m (el2002 (k := (v2 : Int).toNat) g2 (by omega) (by omega))]
      cases h
      rfl
set_option maxRecDepth 100000 in
set_option maxHeartbeats 4000000 in
theorem uO_State_find_9 (m : h_M)  : ∀ (n : Nat) (v0 : Nat) (v1 : Int) (v2 : Int) (c0 : h_C) (r : Nat), GO_State_find_9 n v0 v1 v2 c0 = some r → O_State_find_9 n (h_A 300 v0) v1 v2 (h_H c0 m) = some (h_A 100 r, (h_H c0 m)) := by
  intro n
  induction n with
  | zero => intro v0 v1 v2 c0 r h; cases h
  | succ n ih => intro v0 v1 v2 c0 r h; exact uL_State_find_9 m (O_State_find_9 n) (GO_State_find_9 n) ih v0 v1 v2 c0 r h
set_option maxRecDepth 100000 in
set_option maxHeartbeats 4000000 in
theorem u_State_find (m : h_M) (v0 : Nat) (v1 : Int) (c0 : h_C) (r : Nat) (h : G_State_find v0 v1 c0 = some r) : F_State_find (h_A 300 v0) v1 (h_H c0 m) = some (h_A 100 r, (h_H c0 m)) := by
  unfold G_State_find at h
  unfold F_State_find
  refine iteC Iff.rfl h (fun b1 h => ?_) (fun b1 h => ?_)
  · exact uO_State_find_9 m 3000 v0 v1 1 c0 _ h
  · cases h
    rfl
def G_SW_label (v1 : Int) (v2 : Int) (c0 : h_C) : Option (Int × h_C) :=
  p_gd (0 ≤ c0 5000 0 0 ∧ c0 5000 0 0 < 3) <|
  q_bv (G_State_find (c0 5000 0 0).toNat v1 c0) fun r5 =>
  if r5 ≠ 0 then
    if v2 ≤ 12 then
      if (-1) ≤ v2 then
        p_gd (vP r5) <|
        p_bi (sr c0 2015 r5 (fl (c0 2015 r5) 12 0)) fun c11 =>
        p_bi (wc c11 111 r5 0 v2) fun c13 =>
        q_bd (G_SW_done v2 c13) fun r17 c18 =>
        some (r17, c18)
      else
        q_bd (G_SW_refuse (-15) c0) fun r22 c23 =>
        some (r22, c23)
    else
      q_bd (G_SW_refuse (-2) c0) fun r27 c28 =>
      some (r27, c28)
  else
    q_bd (G_SW_refuse (-1) c0) fun r32 c33 =>
    some (r32, c33)
set_option maxRecDepth 100000 in
set_option maxHeartbeats 4000000 in
theorem u_SW_label (m : h_M) (v1 : Int) (v2 : Int) (c0 : h_C) (r : (Int × h_C)) (h : G_SW_label v1 v2 c0 = some r) : F_SW_label 1 v1 v2 (h_H c0 m) = some (r.1, (h_H r.2 m)) := by
  unfold G_SW_label at h
  unfold F_SW_label
  refine gdT (isD c0 m d600) ?_
  obtain ⟨g1, h⟩ := p_gdE h
  try rw [rm5000 c0 m g1]
  have hv2 : vW (c0 5000 0 0).toNat := by omega
  refine gdT (isD c0 m (d200 hv2)) ?_
  try rw [rD c0 m (rr200_1 hv2)]
  refine gdT (isD c0 m (d300 hv2)) ?_
  obtain ⟨r5, q3, h⟩ := q_bvE h
  refine bdC (u_State_find m (c0 5000 0 0).toNat v1 c0 _ q3) ?_
  refine iteC (ne_iff (h_A100z _)) h (fun b7 h => ?_) (fun b7 h => ?_)
  · refine iteC Iff.rfl h (fun b8 h => ?_) (fun b8 h => ?_)
    · refine iteC Iff.rfl h (fun b9 h => ?_) (fun b9 h => ?_)
      · obtain ⟨g10, h⟩ := p_gdE h
        refine gdT (isD c0 m (d100 g10)) ?_
        try rw [rD c0 m (rr100_12 g10)]
        refine bvS (fillI c0 m (d2015 g10) (by decide) _) h ?_
        intro c11 h
        refine bS (wf111 c11 m g10 _) h ?_
        intro c13 h
        obtain ⟨r17, c18, q15, h⟩ := q_bdE h
        refine bdC (u_SW_done m v2 c13 _ q15) ?_
        cases h
        rfl
      · obtain ⟨r22, c23, q20, h⟩ := q_bdE h
        refine bdC (u_SW_refuse m (-15) c0 _ q20) ?_
        cases h
        rfl
    · obtain ⟨r27, c28, q25, h⟩ := q_bdE h
      refine bdC (u_SW_refuse m (-2) c0 _ q25) ?_
      cases h
      rfl
  · obtain ⟨r32, c33, q30, h⟩ := q_bdE h
    refine bdC (u_SW_refuse m (-1) c0 _ q30) ?_
    cases h
    rfl
def GB_SW_put_53   (c0 : h_C) : Option (Int × h_C) :=
  q_bd (G_SW_refuse (-13) c0) fun r3 c4 =>
  some (r3, c4)
def G_SW_put (v1 : Int) (v2 : Int) (v3 : Int) (c0 : h_C) : Option (Int × h_C) :=
  p_gd (0 ≤ c0 5000 0 0 ∧ c0 5000 0 0 < 3) <|
  q_bv (G_State_find (c0 5000 0 0).toNat v1 c0) fun r5 =>
  if r5 ≠ 0 then
    p_gd (vP r5) <|
    if (c0 111 r5 0) ≠ (-1) then
      if v2 < 0 then
        GB_SW_put_53 c0
      else
        if v2 < (c0 111 r5 0) then
          p_gd ((0 : Int) ≤ v2 ∧ v2 < (12 : Int)) <|
          p_bi (wc c0 2015 r5 (v2 : Int).toNat (p_and v3 255)) fun c13 =>
          q_bd (G_SW_done 1 c13) fun r17 c18 =>
          some (r17, c18)
        else
          GB_SW_put_53 c0
    else
      q_bd (G_SW_refuse (-11) c0) fun r22 c23 =>
      some (r22, c23)
  else
    q_bd (G_SW_refuse (-1) c0) fun r27 c28 =>
    some (r27, c28)
set_option maxRecDepth 100000 in
set_option maxHeartbeats 4000000 in
theorem uB_SW_put_53 (m : h_M)   (c0 : h_C) (r : (Int × h_C)) (h : GB_SW_put_53  c0 = some r) : B_SW_put_53 1 (h_H c0 m) = some (r.1, (h_H r.2 m)) := by
  unfold GB_SW_put_53 at h
  unfold B_SW_put_53
  refine gdT (isD c0 m d600) ?_
  obtain ⟨r3, c4, q1, h⟩ := q_bdE h
  refine bdC (u_SW_refuse m (-13) c0 _ q1) ?_
  cases h
  rfl
set_option maxRecDepth 100000 in
set_option maxHeartbeats 4000000 in
theorem u_SW_put (m : h_M) (v1 : Int) (v2 : Int) (v3 : Int) (c0 : h_C) (r : (Int × h_C)) (h : G_SW_put v1 v2 v3 c0 = some r) : F_SW_put 1 v1 v2 v3 (h_H c0 m) = some (r.1, (h_H r.2 m)) := by
  unfold G_SW_put at h
  unfold F_SW_put
  refine gdT (isD c0 m d600) ?_
  obtain ⟨g1, h⟩ := p_gdE h
  try rw [rm5000 c0 m g1]
  have hv2 : vW (c0 5000 0 0).toNat := by omega
  refine gdT (isD c0 m (d200 hv2)) ?_
  try rw [rD c0 m (rr200_1 hv2)]
  refine gdT (isD c0 m (d300 hv2)) ?_
  obtain ⟨r5, q3, h⟩ := q_bvE h
  refine bdC (u_State_find m (c0 5000 0 0).toNat v1 c0 _ q3) ?_
  refine iteC (ne_iff (h_A100z _)) h (fun b7 h => ?_) (fun b7 h => ?_)
  · obtain ⟨g8, h⟩ := p_gdE h
    refine gdT (isD c0 m (d100 g8)) ?_
    try rw [zf111 c0 m g8]
    refine iteC Iff.rfl h (fun b9 h => ?_) (fun b9 h => ?_)
    · refine iteC Iff.rfl h (fun b10 h => ?_) (fun b10 h => ?_)
      · exact uB_SW_put_53 m c0 _ h
      · try rw [zf111 c0 m g8]
        refine iteC Iff.rfl h (fun b11 h => ?_) (fun b11 h => ?_)
        · try rw [rD c0 m (rr100_12 g8)]
          refine gdT (isD c0 m (d2015 g8)) ?_
          obtain ⟨g12, h⟩ := p_gdE h
          refine gdT ⟨g12.1, by (try rw [lenD c0 m (d2015 g8)]); exact g12.2⟩ ?_
          refine bS (wA c0 m (d2015 g8) (by decide) _ _) h ?_
          intro c13 h
          obtain ⟨r17, c18, q15, h⟩ := q_bdE h
          refine bdC (u_SW_done m 1 c13 _ q15) ?_
          cases h
          rfl
        · exact uB_SW_put_53 m c0 _ h
    · obtain ⟨r22, c23, q20, h⟩ := q_bdE h
      refine bdC (u_SW_refuse m (-11) c0 _ q20) ?_
      cases h
      rfl
  · obtain ⟨r27, c28, q25, h⟩ := q_bdE h
    refine bdC (u_SW_refuse m (-1) c0 _ q25) ?_
    cases h
    rfl
def GB_Parcel_writeFormA_167  (v0 : Nat) (c0 : h_C) : Option h_C :=
  p_gd (vP v0) <|
  p_bi (wc c0 111 v0 0 8) fun c2 =>
  some c2
def G_Parcel_writeFormA (v0 : Nat) (v1 : Int) (c0 : h_C) : Option h_C :=
  p_gd (vP v0) <|
  p_gd ((0 : Int) ≤ 0 ∧ 0 < (12 : Int)) <|
  p_bi (wc c0 2015 v0 (0 : Int).toNat 65) fun c3 =>
  p_gd ((0 : Int) ≤ 1 ∧ 1 < (12 : Int)) <|
  p_bi (wc c3 2015 v0 (1 : Int).toNat (p_w (48 + (p_div v1 10)))) fun c6 =>
  p_gd ((0 : Int) ≤ 2 ∧ 2 < (12 : Int)) <|
  p_bi (wc c6 2015 v0 (2 : Int).toNat (p_w (48 + (p_rem v1 10)))) fun c9 =>
  p_gd ((0 : Int) ≤ 3 ∧ 3 < (12 : Int)) <|
  p_bi (wc c9 2015 v0 (3 : Int).toNat (p_w (48 + (p_div (c9 102 v0 0) 100)))) fun c12 =>
  p_gd ((0 : Int) ≤ 4 ∧ 4 < (12 : Int)) <|
  p_bi (wc c12 2015 v0 (4 : Int).toNat (p_w (48 + (p_rem (p_div (c12 102 v0 0) 10) 10)))) fun c15 =>
  p_gd ((0 : Int) ≤ 5 ∧ 5 < (12 : Int)) <|
  p_bi (wc c15 2015 v0 (5 : Int).toNat (p_w (48 + (p_rem (c15 102 v0 0) 10)))) fun c18 =>
  p_gd ((0 : Int) ≤ 6 ∧ 6 < (12 : Int)) <|
  p_bi (wc c18 2015 v0 (6 : Int).toNat (p_w (48 + (c18 103 v0 0)))) fun c21 =>
  p_bi ((p_w ((p_w ((p_w ((p_w ((p_w ((p_w (3 * (p_div v1 10))) + (p_rem v1 10))) + (p_w (3 * (p_div (c21 102 v0 0) 100))))) + (p_rem (p_div (c21 102 v0 0) 10) 10))) + (p_w (3 * (p_rem (c21 102 v0 0) 10))))) + (c21 103 v0 0)))) fun x24 =>
  p_gd ((0 : Int) ≤ 7 ∧ 7 < (12 : Int)) <|
  p_bi (wc c21 2015 v0 (7 : Int).toNat (p_w (48 + (p_rem (p_w (10 - (p_rem x24 10))) 10)))) fun c26 =>
  GB_Parcel_writeFormA_167 v0 c26
set_option maxRecDepth 100000 in
set_option maxHeartbeats 4000000 in
theorem uB_Parcel_writeFormA_167 (m : h_M)  (v0 : Nat) (c0 : h_C) (r : h_C) (h : GB_Parcel_writeFormA_167 v0 c0 = some r) : B_Parcel_writeFormA_167 (h_A 100 v0) (h_H c0 m) = some (h_H r m) := by
  unfold GB_Parcel_writeFormA_167 at h
  unfold B_Parcel_writeFormA_167
  obtain ⟨g1, h⟩ := p_gdE h
  refine gdT (isD c0 m (d100 g1)) ?_
  refine bS (wf111 c0 m g1 _) h ?_
  intro c2 h
  cases h
  rfl
set_option maxRecDepth 100000 in
set_option maxHeartbeats 4000000 in
theorem u_Parcel_writeFormA (m : h_M) (v0 : Nat) (v1 : Int) (c0 : h_C) (r : h_C) (h : G_Parcel_writeFormA v0 v1 c0 = some r) : F_Parcel_writeFormA (h_A 100 v0) v1 (h_H c0 m) = some (h_H r m) := by
  unfold G_Parcel_writeFormA at h
  unfold F_Parcel_writeFormA
  obtain ⟨g1, h⟩ := p_gdE h
  refine gdT (isD c0 m (d100 g1)) ?_
  try rw [rD c0 m (rr100_12 g1)]
  refine gdT (isD c0 m (d2015 g1)) ?_
  obtain ⟨g2, h⟩ := p_gdE h
  refine gdT ⟨g2.1, by (try rw [lenD c0 m (d2015 g1)]); exact g2.2⟩ ?_
  refine bS (wA c0 m (d2015 g1) (by decide) _ _) h ?_
  intro c3 h
  try rw [rD c3 m (rr100_12 g1)]
  refine gdT (isD c3 m (d2015 g1)) ?_
  obtain ⟨g5, h⟩ := p_gdE h
  refine gdT ⟨g5.1, by (try rw [lenD c3 m (d2015 g1)]); exact g5.2⟩ ?_
  refine bS (wA c3 m (d2015 g1) (by decide) _ _) h ?_
  intro c6 h
  try rw [rD c6 m (rr100_12 g1)]
  refine gdT (isD c6 m (d2015 g1)) ?_
  obtain ⟨g8, h⟩ := p_gdE h
  refine gdT ⟨g8.1, by (try rw [lenD c6 m (d2015 g1)]); exact g8.2⟩ ?_
  refine bS (wA c6 m (d2015 g1) (by decide) _ _) h ?_
  intro c9 h
  try rw [rD c9 m (rr100_12 g1)]
  try rw [zf102 c9 m g1]
  refine gdT (isD c9 m (d2015 g1)) ?_
  obtain ⟨g11, h⟩ := p_gdE h
  refine gdT ⟨g11.1, by (try rw [lenD c9 m (d2015 g1)]); exact g11.2⟩ ?_
  refine bS (wA c9 m (d2015 g1) (by decide) _ _) h ?_
  intro c12 h
  try rw [rD c12 m (rr100_12 g1)]
  try rw [zf102 c12 m g1]
  refine gdT (isD c12 m (d2015 g1)) ?_
  obtain ⟨g14, h⟩ := p_gdE h
  refine gdT ⟨g14.1, by (try rw [lenD c12 m (d2015 g1)]); exact g14.2⟩ ?_
  refine bS (wA c12 m (d2015 g1) (by decide) _ _) h ?_
  intro c15 h
  try rw [rD c15 m (rr100_12 g1)]
  try rw [zf102 c15 m g1]
  refine gdT (isD c15 m (d2015 g1)) ?_
  obtain ⟨g17, h⟩ := p_gdE h
  refine gdT ⟨g17.1, by (try rw [lenD c15 m (d2015 g1)]); exact g17.2⟩ ?_
  refine bS (wA c15 m (d2015 g1) (by decide) _ _) h ?_
  intro c18 h
  try rw [rD c18 m (rr100_12 g1)]
  try rw [zf103 c18 m g1]
  refine gdT (isD c18 m (d2015 g1)) ?_
  obtain ⟨g20, h⟩ := p_gdE h
  refine gdT ⟨g20.1, by (try rw [lenD c18 m (d2015 g1)]); exact g20.2⟩ ?_
  refine bS (wA c18 m (d2015 g1) (by decide) _ _) h ?_
  intro c21 h
  try rw [zf102 c21 m g1]
  try rw [zf102 c21 m g1]
  try rw [zf102 c21 m g1]
  try rw [zf103 c21 m g1]
  refine bV h ?_
  intro x24 h
  try rw [rD c21 m (rr100_12 g1)]
  refine gdT (isD c21 m (d2015 g1)) ?_
  obtain ⟨g25, h⟩ := p_gdE h
  refine gdT ⟨g25.1, by (try rw [lenD c21 m (d2015 g1)]); exact g25.2⟩ ?_
  refine bS (wA c21 m (d2015 g1) (by decide) _ _) h ?_
  intro c26 h
  exact uB_Parcel_writeFormA_167 m v0 c26 _ h
def G_Parcel_writeFormB (v0 : Nat) (v1 : Int) (c0 : h_C) : Option h_C :=
  p_gd (vP v0) <|
  p_gd ((0 : Int) ≤ 0 ∧ 0 < (12 : Int)) <|
  p_bi (wc c0 2015 v0 (0 : Int).toNat 66) fun c3 =>
  p_gd ((0 : Int) ≤ 1 ∧ 1 < (12 : Int)) <|
  p_bi (wc c3 2015 v0 (1 : Int).toNat v1) fun c6 =>
  p_gd ((0 : Int) ≤ 2 ∧ 2 < (12 : Int)) <|
  p_bi (wc c6 2015 v0 (2 : Int).toNat (p_div (c6 102 v0 0) 256)) fun c9 =>
  p_gd ((0 : Int) ≤ 3 ∧ 3 < (12 : Int)) <|
  p_bi (wc c9 2015 v0 (3 : Int).toNat (p_rem (c9 102 v0 0) 256)) fun c12 =>
  p_gd ((0 : Int) ≤ 4 ∧ 4 < (12 : Int)) <|
  p_bi (wc c12 2015 v0 (4 : Int).toNat (c12 103 v0 0)) fun c15 =>
  p_gd ((0 : Int) ≤ 5 ∧ 5 < (12 : Int)) <|
  p_bi (wc c15 2015 v0 (5 : Int).toNat (p_rem (p_w ((p_w ((p_w ((p_w (7 * (c15 2015 v0 (1 : Int).toNat))) + (p_w (5 * (c15 2015 v0 (2 : Int).toNat))))) + (p_w (3 * (c15 2015 v0 (3 : Int).toNat))))) + (c15 2015 v0 (4 : Int).toNat))) 97)) fun c18 =>
  p_bi (wc c18 111 v0 0 6) fun c20 =>
  some c20
set_option maxRecDepth 100000 in
set_option maxHeartbeats 4000000 in
theorem u_Parcel_writeFormB (m : h_M) (v0 : Nat) (v1 : Int) (c0 : h_C) (r : h_C) (h : G_Parcel_writeFormB v0 v1 c0 = some r) : F_Parcel_writeFormB (h_A 100 v0) v1 (h_H c0 m) = some (h_H r m) := by
  unfold G_Parcel_writeFormB at h
  unfold F_Parcel_writeFormB
  obtain ⟨g1, h⟩ := p_gdE h
  refine gdT (isD c0 m (d100 g1)) ?_
  try rw [rD c0 m (rr100_12 g1)]
  refine gdT (isD c0 m (d2015 g1)) ?_
  obtain ⟨g2, h⟩ := p_gdE h
  refine gdT ⟨g2.1, by (try rw [lenD c0 m (d2015 g1)]); exact g2.2⟩ ?_
  refine bS (wA c0 m (d2015 g1) (by decide) _ _) h ?_
  intro c3 h
  try rw [rD c3 m (rr100_12 g1)]
  refine gdT (isD c3 m (d2015 g1)) ?_
  obtain ⟨g5, h⟩ := p_gdE h
  refine gdT ⟨g5.1, by (try rw [lenD c3 m (d2015 g1)]); exact g5.2⟩ ?_
  refine bS (wA c3 m (d2015 g1) (by decide) _ _) h ?_
  intro c6 h
  try rw [rD c6 m (rr100_12 g1)]
  try rw [zf102 c6 m g1]
  refine gdT (isD c6 m (d2015 g1)) ?_
  obtain ⟨g8, h⟩ := p_gdE h
  refine gdT ⟨g8.1, by (try rw [lenD c6 m (d2015 g1)]); exact g8.2⟩ ?_
  refine bS (wA c6 m (d2015 g1) (by decide) _ _) h ?_
  intro c9 h
  try rw [rD c9 m (rr100_12 g1)]
  try rw [zf102 c9 m g1]
  refine gdT (isD c9 m (d2015 g1)) ?_
  obtain ⟨g11, h⟩ := p_gdE h
  refine gdT ⟨g11.1, by (try rw [lenD c9 m (d2015 g1)]); exact g11.2⟩ ?_
  refine bS (wA c9 m (d2015 g1) (by decide) _ _) h ?_
  intro c12 h
  try rw [rD c12 m (rr100_12 g1)]
  try rw [zf103 c12 m g1]
  refine gdT (isD c12 m (d2015 g1)) ?_
  obtain ⟨g14, h⟩ := p_gdE h
  refine gdT ⟨g14.1, by (try rw [lenD c12 m (d2015 g1)]); exact g14.2⟩ ?_
  refine bS (wA c12 m (d2015 g1) (by decide) _ _) h ?_
  intro c15 h
  try rw [rD c15 m (rr100_12 g1)]
  try rw [rD c15 m (rr100_12 g1)]
  refine gdT (isD c15 m (d2015 g1)) ?_
  refine gdT ⟨g5.1, by (try rw [lenD c15 m (d2015 g1)]); exact g5.2⟩ ?_
  try rw [zA c15 m (d2015 g1) (by decide) (1 : Int).toNat]
  try rw [rD c15 m (rr100_12 g1)]
  refine gdT ⟨g8.1, by (try rw [lenD c15 m (d2015 g1)]); exact g8.2⟩ ?_
  try rw [zA c15 m (d2015 g1) (by decide) (2 : Int).toNat]
  try rw [rD c15 m (rr100_12 g1)]
  refine gdT ⟨g11.1, by (try rw [lenD c15 m (d2015 g1)]); exact g11.2⟩ ?_
  try rw [zA c15 m (d2015 g1) (by decide) (3 : Int).toNat]
  try rw [rD c15 m (rr100_12 g1)]
  refine gdT ⟨g14.1, by (try rw [lenD c15 m (d2015 g1)]); exact g14.2⟩ ?_
  try rw [zA c15 m (d2015 g1) (by decide) (4 : Int).toNat]
  obtain ⟨g17, h⟩ := p_gdE h
  refine gdT ⟨g17.1, by (try rw [lenD c15 m (d2015 g1)]); exact g17.2⟩ ?_
  refine bS (wA c15 m (d2015 g1) (by decide) _ _) h ?_
  intro c18 h
  refine bS (wf111 c18 m g1 _) h ?_
  intro c20 h
  cases h
  rfl
def G_Parcel_write (v0 : Nat) (v1 : Int) (v2 : Int) (c0 : h_C) : Option h_C :=
  if v1 ≠ 0 then
    p_gd (vP v0) <|
    q_bv (G_Parcel_writeFormB v0 v2 c0) fun c5 =>
    some c5
  else
    p_gd (vP v0) <|
    q_bv (G_Parcel_writeFormA v0 v2 c0) fun c9 =>
    some c9
set_option maxRecDepth 100000 in
set_option maxHeartbeats 4000000 in
theorem u_Parcel_write (m : h_M) (v0 : Nat) (v1 : Int) (v2 : Int) (c0 : h_C) (r : h_C) (h : G_Parcel_write v0 v1 v2 c0 = some r) : F_Parcel_write (h_A 100 v0) v1 v2 (h_H c0 m) = some (h_H r m) := by
  unfold G_Parcel_write at h
  unfold F_Parcel_write
  refine iteC Iff.rfl h (fun b1 h => ?_) (fun b1 h => ?_)
  · obtain ⟨g2, h⟩ := p_gdE h
    refine gdT (isD c0 m (d100 g2)) ?_
    obtain ⟨c5, q3, h⟩ := q_bvE h
    refine bvC (u_Parcel_writeFormB m v0 v2 c0 _ q3) ?_
    cases h
    rfl
  · obtain ⟨g6, h⟩ := p_gdE h
    refine gdT (isD c0 m (d100 g6)) ?_
    obtain ⟨c9, q7, h⟩ := q_bvE h
    refine bvC (u_Parcel_writeFormA m v0 v2 c0 _ q7) ?_
    cases h
    rfl
def GB_SW_tag_43   (c0 : h_C) : Option (Int × h_C) :=
  q_bd (G_SW_refuse (-2) c0) fun r3 c4 =>
  some (r3, c4)
def G_SW_tag (v1 : Int) (v2 : Int) (v3 : Int) (c0 : h_C) : Option (Int × h_C) :=
  p_gd (0 ≤ c0 5000 0 0 ∧ c0 5000 0 0 < 3) <|
  q_bv (G_State_find (c0 5000 0 0).toNat v1 c0) fun r5 =>
  if r5 ≠ 0 then
    if v2 < 0 then
      GB_SW_tag_43 c0
    else
      if 1 < v2 then
        GB_SW_tag_43 c0
      else
        if v3 < 0 then
          GB_SW_tag_43 c0
        else
          if v3 ≤ 99 then
            p_gd (vP r5) <|
            q_bv (G_Parcel_write r5 v2 v3 c0) fun c15 =>
            q_bd (G_SW_done (c15 111 r5 0) c15) fun r18 c19 =>
            some (r18, c19)
          else
            GB_SW_tag_43 c0
  else
    q_bd (G_SW_refuse (-1) c0) fun r23 c24 =>
    some (r23, c24)
set_option maxRecDepth 100000 in
set_option maxHeartbeats 4000000 in
theorem uB_SW_tag_43 (m : h_M)   (c0 : h_C) (r : (Int × h_C)) (h : GB_SW_tag_43  c0 = some r) : B_SW_tag_43 1 (h_H c0 m) = some (r.1, (h_H r.2 m)) := by
  unfold GB_SW_tag_43 at h
  unfold B_SW_tag_43
  refine gdT (isD c0 m d600) ?_
  obtain ⟨r3, c4, q1, h⟩ := q_bdE h
  refine bdC (u_SW_refuse m (-2) c0 _ q1) ?_
  cases h
  rfl
set_option maxRecDepth 100000 in
set_option maxHeartbeats 4000000 in
theorem u_SW_tag (m : h_M) (v1 : Int) (v2 : Int) (v3 : Int) (c0 : h_C) (r : (Int × h_C)) (h : G_SW_tag v1 v2 v3 c0 = some r) : F_SW_tag 1 v1 v2 v3 (h_H c0 m) = some (r.1, (h_H r.2 m)) := by
  unfold G_SW_tag at h
  unfold F_SW_tag
  refine gdT (isD c0 m d600) ?_
  obtain ⟨g1, h⟩ := p_gdE h
  try rw [rm5000 c0 m g1]
  have hv2 : vW (c0 5000 0 0).toNat := by omega
  refine gdT (isD c0 m (d200 hv2)) ?_
  try rw [rD c0 m (rr200_1 hv2)]
  refine gdT (isD c0 m (d300 hv2)) ?_
  obtain ⟨r5, q3, h⟩ := q_bvE h
  refine bdC (u_State_find m (c0 5000 0 0).toNat v1 c0 _ q3) ?_
  refine iteC (ne_iff (h_A100z _)) h (fun b7 h => ?_) (fun b7 h => ?_)
  · refine iteC Iff.rfl h (fun b8 h => ?_) (fun b8 h => ?_)
    · exact uB_SW_tag_43 m c0 _ h
    · refine iteC Iff.rfl h (fun b9 h => ?_) (fun b9 h => ?_)
      · exact uB_SW_tag_43 m c0 _ h
      · refine iteC Iff.rfl h (fun b10 h => ?_) (fun b10 h => ?_)
        · exact uB_SW_tag_43 m c0 _ h
        · refine iteC Iff.rfl h (fun b11 h => ?_) (fun b11 h => ?_)
          · obtain ⟨g12, h⟩ := p_gdE h
            refine gdT (isD c0 m (d100 g12)) ?_
            obtain ⟨c15, q13, h⟩ := q_bvE h
            refine bvC (u_Parcel_write m r5 v2 v3 c0 _ q13) ?_
            try rw [zf111 c15 m g12]
            obtain ⟨r18, c19, q16, h⟩ := q_bdE h
            refine bdC (u_SW_done m (c15 111 r5 0) c15 _ q16) ?_
            cases h
            rfl
          · exact uB_SW_tag_43 m c0 _ h
  · obtain ⟨r23, c24, q21, h⟩ := q_bdE h
    refine bdC (u_SW_refuse m (-1) c0 _ q21) ?_
    cases h
    rfl
def GB_SW_door_57  (w0 : Int) (c0 : h_C) : Option (Int × h_C) :=
  q_bd (G_SW_done w0 c0) fun r3 c4 =>
  some (r3, c4)
def G_SW_door (v1 : Int) (v2 : Int) (c0 : h_C) : Option (Int × h_C) :=
  p_gd (0 ≤ c0 5000 0 0 ∧ c0 5000 0 0 < 3) <|
  q_bv (G_Works_gearOf (c0 5000 0 0).toNat v1 c0) fun r5 =>
  if r5 ≠ 0 then
    p_gd (vG r5) <|
    if (c0 0 r5 0) = 9 then
      p_bi ((c0 7 r5 0)) fun x11 =>
      p_gd (v2 = 0 ∨ v2 = 1) <|
      p_bi (wc c0 7 r5 0 v2) fun c13 =>
      if x11 = 0 then
        GB_SW_door_57 0 c13
      else
        GB_SW_door_57 1 c13
    else
      q_bd (G_SW_refuse (-12) c0) fun r18 c19 =>
      some (r18, c19)
  else
    q_bd (G_SW_refuse (-1) c0) fun r23 c24 =>
    some (r23, c24)
set_option maxRecDepth 100000 in
set_option maxHeartbeats 4000000 in
theorem uB_SW_door_57 (m : h_M)  (w0 : Int) (c0 : h_C) (r : (Int × h_C)) (h : GB_SW_door_57 w0 c0 = some r) : B_SW_door_57 w0 1 (h_H c0 m) = some (r.1, (h_H r.2 m)) := by
  unfold GB_SW_door_57 at h
  unfold B_SW_door_57
  refine gdT (isD c0 m d600) ?_
  obtain ⟨r3, c4, q1, h⟩ := q_bdE h
  refine bdC (u_SW_done m w0 c0 _ q1) ?_
  cases h
  rfl
set_option maxRecDepth 100000 in
set_option maxHeartbeats 4000000 in
theorem u_SW_door (m : h_M) (v1 : Int) (v2 : Int) (c0 : h_C) (r : (Int × h_C)) (h : G_SW_door v1 v2 c0 = some r) : F_SW_door 1 v1 v2 (h_H c0 m) = some (r.1, (h_H r.2 m)) := by
  unfold G_SW_door at h
  unfold F_SW_door
  refine gdT (isD c0 m d600) ?_
  obtain ⟨g1, h⟩ := p_gdE h
  try rw [rm5000 c0 m g1]
  have hv2 : vW (c0 5000 0 0).toNat := by omega
  refine gdT (isD c0 m (d200 hv2)) ?_
  obtain ⟨r5, q3, h⟩ := q_bvE h
  refine bdC (u_Works_gearOf m (c0 5000 0 0).toNat v1 c0 _ q3) ?_
  refine iteC (ne_iff (h_A0z _)) h (fun b7 h => ?_) (fun b7 h => ?_)
  · obtain ⟨g8, h⟩ := p_gdE h
    refine gdT (isD c0 m (d0 g8)) ?_
    try rw [zf0 c0 m g8]
    refine iteC Iff.rfl h (fun b9 h => ?_) (fun b9 h => ?_)
    · try rw [zf7 c0 m g8]
      refine bV h ?_
      intro x11 h
      obtain ⟨g12, h⟩ := p_gdE h
      refine gdT g12 ?_
      refine bS (wf7 c0 m g8 _) h ?_
      intro c13 h
      refine iteC Iff.rfl h (fun b15 h => ?_) (fun b15 h => ?_)
      · exact uB_SW_door_57 m 0 c13 _ h
      · exact uB_SW_door_57 m 1 c13 _ h
    · obtain ⟨r18, c19, q16, h⟩ := q_bdE h
      refine bdC (u_SW_refuse m (-12) c0 _ q16) ?_
      cases h
      rfl
  · obtain ⟨r23, c24, q21, h⟩ := q_bdE h
    refine bdC (u_SW_refuse m (-1) c0 _ q21) ?_
    cases h
    rfl
def G_SW_turn (v1 : Int) (v2 : Int) (c0 : h_C) : Option (Int × h_C) :=
  p_gd (0 ≤ c0 5000 0 0 ∧ c0 5000 0 0 < 3) <|
  q_bv (G_Works_gearOf (c0 5000 0 0).toNat v1 c0) fun r5 =>
  if r5 ≠ 0 then
    p_gd (vG r5) <|
    q_bv (G_Gear_isDivert r5 c0) fun r11 =>
    if r11 ≠ 0 then
      q_bv (G_Gear_hasSide r5 v2 c0) fun r16 =>
      if r16 ≠ 0 then
        q_bv (G_Gear_parcels r5 c0) fun r21 =>
        if r21 ≤ 0 then
          p_bi ((c0 6 r5 0)) fun x25 =>
          p_bi (wc c0 6 r5 0 v2) fun c26 =>
          q_bd (G_SW_done x25 c26) fun r30 c31 =>
          some (r30, c31)
        else
          q_bd (G_SW_refuse (-3) c0) fun r35 c36 =>
          some (r35, c36)
      else
        q_bd (G_SW_refuse (-13) c0) fun r40 c41 =>
        some (r40, c41)
    else
      q_bd (G_SW_refuse (-12) c0) fun r45 c46 =>
      some (r45, c46)
  else
    q_bd (G_SW_refuse (-1) c0) fun r50 c51 =>
    some (r50, c51)
set_option maxRecDepth 100000 in
set_option maxHeartbeats 4000000 in
theorem u_SW_turn (m : h_M) (v1 : Int) (v2 : Int) (c0 : h_C) (r : (Int × h_C)) (h : G_SW_turn v1 v2 c0 = some r) : F_SW_turn 1 v1 v2 (h_H c0 m) = some (r.1, (h_H r.2 m)) := by
  unfold G_SW_turn at h
  unfold F_SW_turn
  refine gdT (isD c0 m d600) ?_
  obtain ⟨g1, h⟩ := p_gdE h
  try rw [rm5000 c0 m g1]
  have hv2 : vW (c0 5000 0 0).toNat := by omega
  refine gdT (isD c0 m (d200 hv2)) ?_
  obtain ⟨r5, q3, h⟩ := q_bvE h
  refine bdC (u_Works_gearOf m (c0 5000 0 0).toNat v1 c0 _ q3) ?_
  refine iteC (ne_iff (h_A0z _)) h (fun b7 h => ?_) (fun b7 h => ?_)
  · obtain ⟨g8, h⟩ := p_gdE h
    refine gdT (isD c0 m (d0 g8)) ?_
    obtain ⟨r11, q9, h⟩ := q_bvE h
    refine bdC (u_Gear_isDivert m r5 c0 _ q9) ?_
    refine iteC Iff.rfl h (fun b13 h => ?_) (fun b13 h => ?_)
    · obtain ⟨r16, q14, h⟩ := q_bvE h
      refine bdC (u_Gear_hasSide m r5 v2 c0 _ q14) ?_
      refine iteC Iff.rfl h (fun b18 h => ?_) (fun b18 h => ?_)
      · obtain ⟨r21, q19, h⟩ := q_bvE h
        refine bdC (u_Gear_parcels m r5 c0 _ q19) ?_
        refine iteC Iff.rfl h (fun b23 h => ?_) (fun b23 h => ?_)
        · try rw [zf6 c0 m g8]
          refine bV h ?_
          intro x25 h
          refine bS (wf6 c0 m g8 _) h ?_
          intro c26 h
          obtain ⟨r30, c31, q28, h⟩ := q_bdE h
          refine bdC (u_SW_done m x25 c26 _ q28) ?_
          cases h
          rfl
        · obtain ⟨r35, c36, q33, h⟩ := q_bdE h
          refine bdC (u_SW_refuse m (-3) c0 _ q33) ?_
          cases h
          rfl
      · obtain ⟨r40, c41, q38, h⟩ := q_bdE h
        refine bdC (u_SW_refuse m (-13) c0 _ q38) ?_
        cases h
        rfl
    · obtain ⟨r45, c46, q43, h⟩ := q_bdE h
      refine bdC (u_SW_refuse m (-12) c0 _ q43) ?_
      cases h
      rfl
  · obtain ⟨r50, c51, q48, h⟩ := q_bdE h
    refine bdC (u_SW_refuse m (-1) c0 _ q48) ?_
    cases h
    rfl
def GB_SW_release_29   (c0 : h_C) : Option (Int × h_C) :=
  q_bd (G_SW_refuse (-2) c0) fun r3 c4 =>
  some (r3, c4)
def G_SW_release (v1 : Int) (v2 : Int) (c0 : h_C) : Option (Int × h_C) :=
  p_gd (0 ≤ c0 5000 0 0 ∧ c0 5000 0 0 < 3) <|
  q_bv (G_Works_gearOf (c0 5000 0 0).toNat v1 c0) fun r5 =>
  if r5 ≠ 0 then
    if v2 < 0 then
      GB_SW_release_29 c0
    else
      if v2 ≤ 20 then
        p_gd (vG r5) <|
        if (c0 0 r5 0) = 8 then
          p_bi ((c0 14 r5 0)) fun x13 =>
          p_bi (wc c0 14 r5 0 v2) fun c14 =>
          q_bd (G_SW_done x13 c14) fun r18 c19 =>
          some (r18, c19)
        else
          q_bd (G_SW_refuse (-12) c0) fun r23 c24 =>
          some (r23, c24)
      else
        GB_SW_release_29 c0
  else
    q_bd (G_SW_refuse (-1) c0) fun r28 c29 =>
    some (r28, c29)
set_option maxRecDepth 100000 in
set_option maxHeartbeats 4000000 in
theorem uB_SW_release_29 (m : h_M)   (c0 : h_C) (r : (Int × h_C)) (h : GB_SW_release_29  c0 = some r) : B_SW_release_29 1 (h_H c0 m) = some (r.1, (h_H r.2 m)) := by
  unfold GB_SW_release_29 at h
  unfold B_SW_release_29
  refine gdT (isD c0 m d600) ?_
  obtain ⟨r3, c4, q1, h⟩ := q_bdE h
  refine bdC (u_SW_refuse m (-2) c0 _ q1) ?_
  cases h
  rfl
set_option maxRecDepth 100000 in
set_option maxHeartbeats 4000000 in
theorem u_SW_release (m : h_M) (v1 : Int) (v2 : Int) (c0 : h_C) (r : (Int × h_C)) (h : G_SW_release v1 v2 c0 = some r) : F_SW_release 1 v1 v2 (h_H c0 m) = some (r.1, (h_H r.2 m)) := by
  unfold G_SW_release at h
  unfold F_SW_release
  refine gdT (isD c0 m d600) ?_
  obtain ⟨g1, h⟩ := p_gdE h
  try rw [rm5000 c0 m g1]
  have hv2 : vW (c0 5000 0 0).toNat := by omega
  refine gdT (isD c0 m (d200 hv2)) ?_
  obtain ⟨r5, q3, h⟩ := q_bvE h
  refine bdC (u_Works_gearOf m (c0 5000 0 0).toNat v1 c0 _ q3) ?_
  refine iteC (ne_iff (h_A0z _)) h (fun b7 h => ?_) (fun b7 h => ?_)
  · refine iteC Iff.rfl h (fun b8 h => ?_) (fun b8 h => ?_)
    · exact uB_SW_release_29 m c0 _ h
    · refine iteC Iff.rfl h (fun b9 h => ?_) (fun b9 h => ?_)
      · obtain ⟨g10, h⟩ := p_gdE h
        refine gdT (isD c0 m (d0 g10)) ?_
        try rw [zf0 c0 m g10]
        refine iteC Iff.rfl h (fun b11 h => ?_) (fun b11 h => ?_)
        · try rw [zf14 c0 m g10]
          refine bV h ?_
          intro x13 h
          refine bS (wf14 c0 m g10 _) h ?_
          intro c14 h
          obtain ⟨r18, c19, q16, h⟩ := q_bdE h
          refine bdC (u_SW_done m x13 c14 _ q16) ?_
          cases h
          rfl
        · obtain ⟨r23, c24, q21, h⟩ := q_bdE h
          refine bdC (u_SW_refuse m (-12) c0 _ q21) ?_
          cases h
          rfl
      · exact uB_SW_release_29 m c0 _ h
  · obtain ⟨r28, c29, q26, h⟩ := q_bdE h
    refine bdC (u_SW_refuse m (-1) c0 _ q26) ?_
    cases h
    rfl
def G_Gear_isJammed (v0 : Nat) (c0 : h_C) : Option Int :=
  p_gd (vG v0) <|
  if (c0 8 v0 0) < 8 then
    some 0
  else
    q_bv (G_Gear_isTaker v0 c0) fun r5 =>
    if r5 = 0 then
      some 0
    else
      some 1
set_option maxRecDepth 100000 in
set_option maxHeartbeats 4000000 in
theorem u_Gear_isJammed (m : h_M) (v0 : Nat) (c0 : h_C) (r : Int) (h : G_Gear_isJammed v0 c0 = some r) : F_Gear_isJammed (h_A 0 v0) (h_H c0 m) = some (r, (h_H c0 m)) := by
  unfold G_Gear_isJammed at h
  unfold F_Gear_isJammed
  obtain ⟨g1, h⟩ := p_gdE h
  refine gdT (isD c0 m (d0 g1)) ?_
  try rw [zf8 c0 m g1]
  refine iteC Iff.rfl h (fun b2 h => ?_) (fun b2 h => ?_)
  · cases h
    rfl
  · obtain ⟨r5, q3, h⟩ := q_bvE h
    refine bdC (u_Gear_isTaker m v0 c0 _ q3) ?_
    refine iteC Iff.rfl h (fun b7 h => ?_) (fun b7 h => ?_)
    · cases h
      rfl
    · cases h
      rfl
def G_State_lift (v0 : Nat) (v1 : Nat) (c0 : h_C) : Option h_C :=
  p_gd (vW v0) <|
  p_gd (vP v1) <|
  p_gd ((0 : Int) ≤ (c0 105 v1 0) ∧ (c0 105 v1 0) < (40 : Int)) <|
  p_gd ((0 : Int) ≤ (c0 106 v1 0) ∧ (c0 106 v1 0) < (8 : Int)) <|
  p_bi (wc c0 2012 (40 * v0 + ((c0 105 v1 0) : Int).toNat + 1) ((c0 106 v1 0) : Int).toNat 0) fun c7 =>
  p_bi (wc c7 11 (40 * v0 + ((c0 105 v1 0) : Int).toNat + 1) 0 (p_w ((c7 11 (40 * v0 + ((c0 105 v1 0) : Int).toNat + 1) 0) + 1))) fun c9 =>
  some c9
set_option maxRecDepth 100000 in
set_option maxHeartbeats 4000000 in
theorem u_State_lift (m : h_M) (v0 : Nat) (v1 : Nat) (c0 : h_C) (r : h_C) (h : G_State_lift v0 v1 c0 = some r) : F_State_lift (h_A 300 v0) (h_A 100 v1) (h_H c0 m) = some (h_H r m) := by
  unfold G_State_lift at h
  unfold F_State_lift
  obtain ⟨g1, h⟩ := p_gdE h
  refine gdT (isD c0 m (d300 g1)) ?_
  try rw [rD c0 m (rr300_4 g1)]
  obtain ⟨g2, h⟩ := p_gdE h
  refine gdT (isD c0 m (d100 g2)) ?_
  try rw [zf105 c0 m g2]
  refine gdT (isD c0 m (d2001 g1)) ?_
  obtain ⟨g3, h⟩ := p_gdE h
  refine gdT ⟨g3.1, by (try rw [lenD c0 m (d2001 g1)]); exact g3.2⟩ ?_
  try rw [rD c0 m (el2001 (k := ((c0 105 v1 0) : Int).toNat) g1 (Nat.zero_le _) (by omega))]
  have hv4 : vG (40 * v0 + ((c0 105 v1 0) : Int).toNat + 1) := ⟨by omega, by have := g1; omega⟩
  refine bX ?_
  refine gdT (isD c0 m (d0 hv4)) ?_
  try rw [rD c0 m (rr0_17 hv4)]
  try rw [zf106 c0 m g2]
  refine gdT (isD c0 m (d2012 hv4)) ?_
  obtain ⟨g6, h⟩ := p_gdE h
  refine gdT ⟨g6.1, by (try rw [lenD c0 m (d2012 hv4)]); exact g6.2⟩ ?_
  refine bS (wA c0 m (d2012 hv4) (by decide) _ _) h ?_
  intro c7 h
  try rw [zf11 c7 m hv4]
  refine bS (wf11 c7 m hv4 _) h ?_
  intro c9 h
  cases h
  rfl
def G_State_carryOver (v0 : Nat) (v1 : Nat) (v2 : Int) (c0 : h_C) : Option h_C :=
  p_gd (vW v0) <|
  q_bv (G_State_lift v0 v1 c0) fun c4 =>
  q_bv (G_State_setDown v0 v1 v2 c4) fun c7 =>
  some c7
set_option maxRecDepth 100000 in
set_option maxHeartbeats 4000000 in
theorem u_State_carryOver (m : h_M) (v0 : Nat) (v1 : Nat) (v2 : Int) (c0 : h_C) (r : h_C) (h : G_State_carryOver v0 v1 v2 c0 = some r) : F_State_carryOver (h_A 300 v0) (h_A 100 v1) v2 (h_H c0 m) = some (h_H r m) := by
  unfold G_State_carryOver at h
  unfold F_State_carryOver
  obtain ⟨g1, h⟩ := p_gdE h
  refine gdT (isD c0 m (d300 g1)) ?_
  obtain ⟨c4, q2, h⟩ := q_bvE h
  refine bvC (u_State_lift m v0 v1 c0 _ q2) ?_
  obtain ⟨c7, q5, h⟩ := q_bvE h
  refine bvC (u_State_setDown m v0 v1 v2 c4 _ q5) ?_
  cases h
  rfl
def G_State_inSlot (v0 : Nat) (v1 : Nat) (v2 : Int) (c0 : h_C) : Option Nat :=
  p_gd (vG v1) <|
  p_gd ((0 : Int) ≤ v2 ∧ v2 < (8 : Int)) <|
  if (c0 2012 v1 (v2 : Int).toNat) ≠ 0 then
    p_gd (vW v0) <|
    p_gd ((0 : Int) ≤ (c0 2012 v1 (v2 : Int).toNat) ∧ (c0 2012 v1 (v2 : Int).toNat) < (31 : Int)) <|
    p_gd ((c0 2012 v1 (v2 : Int).toNat) ≠ 0) <|
    some (31 * v0 + ((c0 2012 v1 (v2 : Int).toNat) : Int).toNat)
  else
    some 0
set_option maxRecDepth 100000 in
set_option maxHeartbeats 4000000 in
theorem u_State_inSlot (m : h_M) (v0 : Nat) (v1 : Nat) (v2 : Int) (c0 : h_C) (r : Nat) (h : G_State_inSlot v0 v1 v2 c0 = some r) : F_State_inSlot (h_A 300 v0) (h_A 0 v1) v2 (h_H c0 m) = some (h_A 100 r, (h_H c0 m)) := by
  unfold G_State_inSlot at h
  unfold F_State_inSlot
  obtain ⟨g1, h⟩ := p_gdE h
  refine gdT (isD c0 m (d0 g1)) ?_
  try rw [rD c0 m (rr0_17 g1)]
  refine gdT (isD c0 m (d2012 g1)) ?_
  obtain ⟨g2, h⟩ := p_gdE h
  refine gdT ⟨g2.1, by (try rw [lenD c0 m (d2012 g1)]); exact g2.2⟩ ?_
  try rw [zA c0 m (d2012 g1) (by decide) (v2 : Int).toNat]
  refine iteC Iff.rfl h (fun b3 h => ?_) (fun b3 h => ?_)
  · obtain ⟨g4, h⟩ := p_gdE h
    refine gdT (isD c0 m (d300 g4)) ?_
    try rw [rD c0 m (rr300_5 g4)]
    try rw [rD c0 m (rr0_17 g1)]
    refine gdT ⟨g2.1, by (try rw [lenD c0 m (d2012 g1)]); exact g2.2⟩ ?_
    try rw [zA c0 m (d2012 g1) (by decide) (v2 : Int).toNat]
    refine gdT (isD c0 m (d2002 g4)) ?_
    obtain ⟨g5, h⟩ := p_gdE h
    refine gdT ⟨g5.1, by (try rw [lenD c0 m (d2002 g4)]); exact g5.2⟩ ?_
    obtain ⟨g6, h⟩ := p_gdE h
    try rw [rD c0 m (el2002 (k := ((c0 2012 v1 (v2 : Int).toNat) : Int).toNat) g4 (by omega) (by omega))]
    have hv7 : vP (31 * v0 + ((c0 2012 v1 (v2 : Int).toNat) : Int).toNat) := ⟨by omega, by have := g4; omega⟩
    cases h
    rfl
  · cases h
    rfl
def G_State_inLastSlot (v0 : Nat) (v1 : Nat) (c0 : h_C) : Option Nat :=
  p_gd (vG v1) <|
  if (c0 1 v1 0) ≠ 0 then
    p_gd (vW v0) <|
    q_bv (G_State_inSlot v0 v1 (p_w ((c0 1 v1 0) - 1)) c0) fun r6 =>
    some r6
  else
    some 0
set_option maxRecDepth 100000 in
set_option maxHeartbeats 4000000 in
theorem u_State_inLastSlot (m : h_M) (v0 : Nat) (v1 : Nat) (c0 : h_C) (r : Nat) (h : G_State_inLastSlot v0 v1 c0 = some r) : F_State_inLastSlot (h_A 300 v0) (h_A 0 v1) (h_H c0 m) = some (h_A 100 r, (h_H c0 m)) := by
  unfold G_State_inLastSlot at h
  unfold F_State_inLastSlot
  obtain ⟨g1, h⟩ := p_gdE h
  refine gdT (isD c0 m (d0 g1)) ?_
  try rw [zf1 c0 m g1]
  refine iteC Iff.rfl h (fun b2 h => ?_) (fun b2 h => ?_)
  · try rw [zf1 c0 m g1]
    obtain ⟨g3, h⟩ := p_gdE h
    refine gdT (isD c0 m (d300 g3)) ?_
    obtain ⟨r6, q4, h⟩ := q_bvE h
    refine bdC (u_State_inSlot m v0 v1 (p_w ((c0 1 v1 0) - 1)) c0 _ q4) ?_
    cases h
    rfl
  · cases h
    rfl
def GB_Works_freeHoldBut_49 (k2 : Nat → Int → Int → h_C → Option Int) (v0 : Nat) (v1 : Int) (v2 : Int) (c0 : h_C) : Option Int :=
  p_bi (p_w (v2 + 1)) fun x1 =>
  k2 v0 v1 x1 c0
def GL_Works_freeHoldBut_2 (k2 : Nat → Int → Int → h_C → Option Int) (v0 : Nat) (v1 : Int) (v2 : Int) (c0 : h_C) : Option Int :=
  p_gd (vW v0) <|
  if (c0 202 v0 0) ≤ v2 then
    some (-1)
  else
    if v2 = v1 then
      GB_Works_freeHoldBut_49 k2 v0 v1 v2 c0
    else
      p_gd ((0 : Int) ≤ v2 ∧ v2 < (40 : Int)) <|
      if (c0 0 (40 * v0 + (v2 : Int).toNat + 1) 0) ≠ 8 then
        GB_Works_freeHoldBut_49 k2 v0 v1 v2 c0
      else
        q_bv (G_Gear_isFreeAtStart (40 * v0 + (v2 : Int).toNat + 1) c0) fun r9 =>
        if r9 = 0 then
          GB_Works_freeHoldBut_49 k2 v0 v1 v2 c0
        else
          some v2
def GO_Works_freeHoldBut_2  : Nat → Nat → Int → Int → h_C → Option Int
  | 0 => fun _ _ _ _ => none
  | n + 1 => GL_Works_freeHoldBut_2 (GO_Works_freeHoldBut_2 n)
def G_Works_freeHoldBut (v0 : Nat) (v1 : Int) (c0 : h_C) : Option Int :=
  GO_Works_freeHoldBut_2 3000 v0 v1 0 c0
set_option maxRecDepth 100000 in
set_option maxHeartbeats 4000000 in
theorem uB_Works_freeHoldBut_49 (m : h_M) (j2 : Nat → Int → Int → p_Hp → Option (Int × p_Hp)) (k2 : Nat → Int → Int → h_C → Option Int) (hk2 : ∀ (v0 : Nat) (v1 : Int) (v2 : Int) (c0 : h_C) (r : Int), k2 v0 v1 v2 c0 = some r → j2 (h_A 200 v0) v1 v2 (h_H c0 m) = some (r, (h_H c0 m))) (v0 : Nat) (v1 : Int) (v2 : Int) (c0 : h_C) (r : Int) (h : GB_Works_freeHoldBut_49 k2 v0 v1 v2 c0 = some r) : B_Works_freeHoldBut_49 j2 (h_A 200 v0) v1 v2 (h_H c0 m) = some (r, (h_H c0 m)) := by
  unfold GB_Works_freeHoldBut_49 at h
  unfold B_Works_freeHoldBut_49
  refine bV h ?_
  intro x1 h
  exact hk2 v0 v1 x1 c0 _ h
set_option maxRecDepth 100000 in
set_option maxHeartbeats 4000000 in
theorem uL_Works_freeHoldBut_2 (m : h_M) (j2 : Nat → Int → Int → p_Hp → Option (Int × p_Hp)) (k2 : Nat → Int → Int → h_C → Option Int) (hk2 : ∀ (v0 : Nat) (v1 : Int) (v2 : Int) (c0 : h_C) (r : Int), k2 v0 v1 v2 c0 = some r → j2 (h_A 200 v0) v1 v2 (h_H c0 m) = some (r, (h_H c0 m))) (v0 : Nat) (v1 : Int) (v2 : Int) (c0 : h_C) (r : Int) (h : GL_Works_freeHoldBut_2 k2 v0 v1 v2 c0 = some r) : L_Works_freeHoldBut_2 j2 (h_A 200 v0) v1 v2 (h_H c0 m) = some (r, (h_H c0 m)) := by
  unfold GL_Works_freeHoldBut_2 at h
  unfold L_Works_freeHoldBut_2
  obtain ⟨g1, h⟩ := p_gdE h
  refine gdT (isD c0 m (d200 g1)) ?_
  try rw [zf202 c0 m g1]
  refine iteC Iff.rfl h (fun b2 h => ?_) (fun b2 h => ?_)
  · cases h
    rfl
  · refine iteC Iff.rfl h (fun b3 h => ?_) (fun b3 h => ?_)
    · exact uB_Works_freeHoldBut_49 m j2 k2 hk2 v0 v1 v2 c0 _ h
    · try rw [rD c0 m (rr200_1 g1)]
      refine gdT (isD c0 m (d300 g1)) ?_
      try rw [rD c0 m (rr300_4 g1)]
      refine gdT (isD c0 m (d2001 g1)) ?_
      obtain ⟨g4, h⟩ := p_gdE h
      refine gdT ⟨g4.1, by (try rw [lenD c0 m (d2001 g1)]); exact g4.2⟩ ?_
      try rw [rD c0 m (el2001 (k := (v2 : Int).toNat) g1 (Nat.zero_le _) (by omega))]
      have hv5 : vG (40 * v0 + (v2 : Int).toNat + 1) := ⟨by omega, by have := g1; omega⟩
      refine gdT (isD c0 m (d0 hv5)) ?_
      try rw [zf0 c0 m hv5]
      refine iteC Iff.rfl h (fun b6 h => ?_) (fun b6 h => ?_)
      · exact uB_Works_freeHoldBut_49 m j2 k2 hk2 v0 v1 v2 c0 _ h
      · try rw [rD c0 m (rr200_1 g1)]
        try rw [rD c0 m (rr300_4 g1)]
        refine gdT ⟨g4.1, by (try rw [lenD c0 m (d2001 g1)]); exact g4.2⟩ ?_
        try rw [rD c0 m (el2001 (k := (v2 : Int).toNat) g1 (Nat.zero_le _) (by omega))]
        obtain ⟨r9, q7, h⟩ := q_bvE h
        refine bdC (u_Gear_isFreeAtStart m (40 * v0 + (v2 : Int).toNat + 1) c0 _ q7) ?_
        refine iteC Iff.rfl h (fun b11 h => ?_) (fun b11 h => ?_)
        · exact uB_Works_freeHoldBut_49 m j2 k2 hk2 v0 v1 v2 c0 _ h
        · cases h
          rfl
set_option maxRecDepth 100000 in
set_option maxHeartbeats 4000000 in
theorem uO_Works_freeHoldBut_2 (m : h_M)  : ∀ (n : Nat) (v0 : Nat) (v1 : Int) (v2 : Int) (c0 : h_C) (r : Int), GO_Works_freeHoldBut_2 n v0 v1 v2 c0 = some r → O_Works_freeHoldBut_2 n (h_A 200 v0) v1 v2 (h_H c0 m) = some (r, (h_H c0 m)) := by
  intro n
  induction n with
  | zero => intro v0 v1 v2 c0 r h; cases h
  | succ n ih => intro v0 v1 v2 c0 r h; exact uL_Works_freeHoldBut_2 m (O_Works_freeHoldBut_2 n) (GO_Works_freeHoldBut_2 n) ih v0 v1 v2 c0 r h
set_option maxRecDepth 100000 in
set_option maxHeartbeats 4000000 in
theorem u_Works_freeHoldBut (m : h_M) (v0 : Nat) (v1 : Int) (c0 : h_C) (r : Int) (h : G_Works_freeHoldBut v0 v1 c0 = some r) : F_Works_freeHoldBut (h_A 200 v0) v1 (h_H c0 m) = some (r, (h_H c0 m)) := by
  unfold G_Works_freeHoldBut at h
  unfold F_Works_freeHoldBut
  exact uO_Works_freeHoldBut_2 m 3000 v0 v1 0 c0 _ h
def GB_SW_clear_56   (c0 : h_C) : Option (Int × h_C) :=
  q_bd (G_SW_refuse (-3) c0) fun r3 c4 =>
  some (r3, c4)
def G_SW_clear (v1 : Int) (c0 : h_C) : Option (Int × h_C) :=
  p_gd (0 ≤ c0 5000 0 0 ∧ c0 5000 0 0 < 3) <|
  q_bv (G_Works_gearOf (c0 5000 0 0).toNat v1 c0) fun r5 =>
  if r5 ≠ 0 then
    p_gd (vG r5) <|
    q_bv (G_Gear_isTaker r5 c0) fun r11 =>
    if r11 ≠ 0 then
      q_bv (G_State_inLastSlot (c0 5000 0 0).toNat r5 c0) fun r16 =>
      q_bv (G_Gear_isJammed r5 c0) fun r20 =>
      if r20 = 0 then
        GB_SW_clear_56 c0
      else
        if r16 ≠ 0 then
          q_bv (G_Works_freeHoldBut (c0 5000 0 0).toNat v1 c0) fun r26 =>
          if r26 ≠ (-1) then
            q_bv (G_State_carryOver (c0 5000 0 0).toNat r16 r26 c0) fun c31 =>
            p_gd (vP r16) <|
            p_bi (wc c31 104 r16 0 (-8)) fun c33 =>
            p_bi (wc c33 8 r5 0 0) fun c35 =>
            q_bd (G_SW_done r26 c35) fun r39 c40 =>
            some (r39, c40)
          else
            q_bd (G_SW_refuse (-4) c0) fun r44 c45 =>
            some (r44, c45)
        else
          GB_SW_clear_56 c0
    else
      q_bd (G_SW_refuse (-12) c0) fun r49 c50 =>
      some (r49, c50)
  else
    q_bd (G_SW_refuse (-1) c0) fun r54 c55 =>
    some (r54, c55)
set_option maxRecDepth 100000 in
set_option maxHeartbeats 4000000 in
theorem uB_SW_clear_56 (m : h_M)   (c0 : h_C) (r : (Int × h_C)) (h : GB_SW_clear_56  c0 = some r) : B_SW_clear_56 1 (h_H c0 m) = some (r.1, (h_H r.2 m)) := by
  unfold GB_SW_clear_56 at h
  unfold B_SW_clear_56
  refine gdT (isD c0 m d600) ?_
  obtain ⟨r3, c4, q1, h⟩ := q_bdE h
  refine bdC (u_SW_refuse m (-3) c0 _ q1) ?_
  cases h
  rfl
set_option maxRecDepth 100000 in
set_option maxHeartbeats 4000000 in
theorem u_SW_clear (m : h_M) (v1 : Int) (c0 : h_C) (r : (Int × h_C)) (h : G_SW_clear v1 c0 = some r) : F_SW_clear 1 v1 (h_H c0 m) = some (r.1, (h_H r.2 m)) := by
  unfold G_SW_clear at h
  unfold F_SW_clear
  refine gdT (isD c0 m d600) ?_
  obtain ⟨g1, h⟩ := p_gdE h
  try rw [rm5000 c0 m g1]
  have hv2 : vW (c0 5000 0 0).toNat := by omega
  refine gdT (isD c0 m (d200 hv2)) ?_
  obtain ⟨r5, q3, h⟩ := q_bvE h
  refine bdC (u_Works_gearOf m (c0 5000 0 0).toNat v1 c0 _ q3) ?_
  refine iteC (ne_iff (h_A0z _)) h (fun b7 h => ?_) (fun b7 h => ?_)
  · obtain ⟨g8, h⟩ := p_gdE h
    refine gdT (isD c0 m (d0 g8)) ?_
    obtain ⟨r11, q9, h⟩ := q_bvE h
    refine bdC (u_Gear_isTaker m r5 c0 _ q9) ?_
    refine iteC Iff.rfl h (fun b13 h => ?_) (fun b13 h => ?_)
    · try rw [rm5000 c0 m g1]
      refine gdT (isD c0 m (d200 hv2)) ?_
      try rw [rD c0 m (rr200_1 hv2)]
      refine gdT (isD c0 m (d300 hv2)) ?_
      obtain ⟨r16, q14, h⟩ := q_bvE h
      refine bdC (u_State_inLastSlot m (c0 5000 0 0).toNat r5 c0 _ q14) ?_
      obtain ⟨r20, q18, h⟩ := q_bvE h
      refine bdC (u_Gear_isJammed m r5 c0 _ q18) ?_
      refine iteC Iff.rfl h (fun b22 h => ?_) (fun b22 h => ?_)
      · exact uB_SW_clear_56 m c0 _ h
      · refine iteC (ne_iff (h_A100z _)) h (fun b23 h => ?_) (fun b23 h => ?_)
        · try rw [rm5000 c0 m g1]
          refine gdT (isD c0 m (d200 hv2)) ?_
          obtain ⟨r26, q24, h⟩ := q_bvE h
          refine bdC (u_Works_freeHoldBut m (c0 5000 0 0).toNat v1 c0 _ q24) ?_
          refine iteC Iff.rfl h (fun b28 h => ?_) (fun b28 h => ?_)
          · try rw [rm5000 c0 m g1]
            refine gdT (isD c0 m (d200 hv2)) ?_
            try rw [rD c0 m (rr200_1 hv2)]
            refine gdT (isD c0 m (d300 hv2)) ?_
            obtain ⟨c31, q29, h⟩ := q_bvE h
            refine bvC (u_State_carryOver m (c0 5000 0 0).toNat r16 r26 c0 _ q29) ?_
            obtain ⟨g32, h⟩ := p_gdE h
            refine gdT (isD c31 m (d100 g32)) ?_
            refine bS (wf104 c31 m g32 _) h ?_
            intro c33 h
            refine bS (wf8 c33 m g8 _) h ?_
            intro c35 h
            obtain ⟨r39, c40, q37, h⟩ := q_bdE h
            refine bdC (u_SW_done m r26 c35 _ q37) ?_
            cases h
            rfl
          · obtain ⟨r44, c45, q42, h⟩ := q_bdE h
            refine bdC (u_SW_refuse m (-4) c0 _ q42) ?_
            cases h
            rfl
        · exact uB_SW_clear_56 m c0 _ h
    · obtain ⟨r49, c50, q47, h⟩ := q_bdE h
      refine bdC (u_SW_refuse m (-12) c0 _ q47) ?_
      cases h
      rfl
  · obtain ⟨r54, c55, q52, h⟩ := q_bdE h
    refine bdC (u_SW_refuse m (-1) c0 _ q52) ?_
    cases h
    rfl
