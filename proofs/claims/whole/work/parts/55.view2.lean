def GL_State_keep_97 (k97 : Nat → Int → Int → h_C → Option h_C) (v0 : Nat) (v1 : Int) (v4 : Int) (c0 : h_C) : Option h_C :=
  if 30 < v4 then
    p_gd (vW v0) <|
    q_bv (G_Log_keep (2 * v0) v1 c0) fun c6 =>
    q_bv (G_Log_keep (2 * v0 + 1) v1 c6) fun c10 =>
    some c10
  else
    p_gd (vW v0) <|
    p_gd ((0 : Int) ≤ v4 ∧ v4 < (31 : Int)) <|
    p_gd (v4 ≠ 0) <|
    q_bv (G_Parcel_keep (31 * v0 + (v4 : Int).toNat) v1 c0) fun c17 =>
    p_bi (p_w (v4 + 1)) fun x18 =>
    k97 v0 v1 x18 c17
def GO_State_keep_97  : Nat → Nat → Int → Int → h_C → Option h_C
  | 0 => fun _ _ _ _ => none
  | n + 1 => GL_State_keep_97 (GO_State_keep_97 n)
def GL_State_keep_71 (k71 : Nat → Int → Int → Int → h_C → Option h_C) (v0 : Nat) (v1 : Int) (v2 : Int) (v4 : Int) (c0 : h_C) : Option h_C :=
  if v2 ≤ v4 then
    GO_State_keep_97 3000 v0 v1 1 c0
  else
    p_gd (vW v0) <|
    p_gd ((0 : Int) ≤ v4 ∧ v4 < (40 : Int)) <|
    q_bv (G_Gear_keep (40 * v0 + (v4 : Int).toNat + 1) v1 c0) fun c7 =>
    p_bi (p_w (v4 + 1)) fun x8 =>
    k71 v0 v1 v2 x8 c7
def GO_State_keep_71  : Nat → Nat → Int → Int → Int → h_C → Option h_C
  | 0 => fun _ _ _ _ _ => none
  | n + 1 => GL_State_keep_71 (GO_State_keep_71 n)
def G_State_keep (v0 : Nat) (v1 : Int) (v2 : Int) (c0 : h_C) : Option h_C :=
  p_bi ((p_w (16 * v1))) fun x2 =>
  p_gd (vW v0) <|
  p_gd ((0 : Int) ≤ x2 ∧ x2 < (480 : Int)) <|
  p_bi (wc c0 2007 v0 (x2 : Int).toNat (c0 300 v0 0)) fun c5 =>
  p_gd ((0 : Int) ≤ (p_w (x2 + 1)) ∧ (p_w (x2 + 1)) < (480 : Int)) <|
  p_bi (wc c5 2007 v0 ((p_w (x2 + 1)) : Int).toNat (c5 301 v0 0)) fun c8 =>
  p_gd ((0 : Int) ≤ (p_w (x2 + 2)) ∧ (p_w (x2 + 2)) < (480 : Int)) <|
  p_bi (wc c8 2007 v0 ((p_w (x2 + 2)) : Int).toNat (c8 302 v0 0)) fun c11 =>
  p_gd ((0 : Int) ≤ (p_w (x2 + 3)) ∧ (p_w (x2 + 3)) < (480 : Int)) <|
  p_bi (wc c11 2007 v0 ((p_w (x2 + 3)) : Int).toNat (c11 303 v0 0)) fun c14 =>
  p_gd ((0 : Int) ≤ 0 ∧ (0 : Int) ≤ (p_w (x2 + 4)) ∧ (0 : Int) ≤ 12 ∧ 0 + 12 ≤ (12 : Int) ∧ (p_w (x2 + 4)) + 12 ≤ (480 : Int)) <|
  p_bi (sr c14 2007 v0 (cp (c14 2003 v0) (0 : Int).toNat (c14 2007 v0) ((p_w (x2 + 4)) : Int).toNat (12 : Int).toNat)) fun c17 =>
  GO_State_keep_71 3000 v0 v1 v2 0 c17
set_option maxRecDepth 100000 in
set_option maxHeartbeats 4000000 in
theorem uL_State_keep_97 (m : h_M) (j97 : Nat → Int → Int → p_Hp → Option p_Hp) (k97 : Nat → Int → Int → h_C → Option h_C) (hk97 : ∀ (v0 : Nat) (v1 : Int) (v4 : Int) (c0 : h_C) (r : h_C), k97 v0 v1 v4 c0 = some r → j97 (h_A 300 v0) v1 v4 (h_H c0 m) = some (h_H r m)) (v0 : Nat) (v1 : Int) (v4 : Int) (c0 : h_C) (r : h_C) (h : GL_State_keep_97 k97 v0 v1 v4 c0 = some r) : L_State_keep_97 j97 (h_A 300 v0) v1 v4 (h_H c0 m) = some (h_H r m) := by
  unfold GL_State_keep_97 at h
  unfold L_State_keep_97
  refine iteC Iff.rfl h (fun b1 h => ?_) (fun b1 h => ?_)
  · obtain ⟨g2, h⟩ := p_gdE h
    refine gdT (isD c0 m (d300 g2)) ?_
    try rw [rD c0 m (rr300_7 g2)]
    have hv3 : vL (2 * v0) := by have := g2; omega
    refine gdT (isD c0 m (d400 hv3)) ?_
    obtain ⟨c6, q4, h⟩ := q_bvE h
    refine bvC (u_Log_keep m (2 * v0) v1 c0 _ q4) ?_
    try rw [rD c6 m (rr300_8 g2)]
    have hv7 : vL (2 * v0 + 1) := by have := g2; omega
    refine gdT (isD c6 m (d400 hv7)) ?_
    obtain ⟨c10, q8, h⟩ := q_bvE h
    refine bvC (u_Log_keep m (2 * v0 + 1) v1 c6 _ q8) ?_
    cases h
    rfl
  · obtain ⟨g11, h⟩ := p_gdE h
    refine gdT (isD c0 m (d300 g11)) ?_
    try rw [rD c0 m (rr300_5 g11)]
    refine gdT (isD c0 m (d2002 g11)) ?_
    obtain ⟨g12, h⟩ := p_gdE h
    refine gdT ⟨g12.1, by (try rw [lenD c0 m (d2002 g11)]); exact g12.2⟩ ?_
    obtain ⟨g13, h⟩ := p_gdE h
    try rw [rD c0 m (el2002 (k := (v4 : Int).toNat) g11 (by omega) (by omega))]
    have hv14 : vP (31 * v0 + (v4 : Int).toNat) := ⟨by omega, by have := g11; omega⟩
    refine gdT (isD c0 m (d100 hv14)) ?_
    obtain ⟨c17, q15, h⟩ := q_bvE h
    refine bvC (u_Parcel_keep m (31 * v0 + (v4 : Int).toNat) v1 c0 _ q15) ?_
    refine bV h ?_
    intro x18 h
    exact hk97 v0 v1 x18 c17 _ h
set_option maxRecDepth 100000 in
set_option maxHeartbeats 4000000 in
theorem uO_State_keep_97 (m : h_M)  : ∀ (n : Nat) (v0 : Nat) (v1 : Int) (v4 : Int) (c0 : h_C) (r : h_C), GO_State_keep_97 n v0 v1 v4 c0 = some r → O_State_keep_97 n (h_A 300 v0) v1 v4 (h_H c0 m) = some (h_H r m) := by
  intro n
  induction n with
  | zero => intro v0 v1 v4 c0 r h; cases h
  | succ n ih => intro v0 v1 v4 c0 r h; exact uL_State_keep_97 m (O_State_keep_97 n) (GO_State_keep_97 n) ih v0 v1 v4 c0 r h
set_option maxRecDepth 100000 in
set_option maxHeartbeats 4000000 in
theorem uL_State_keep_71 (m : h_M) (j71 : Nat → Int → Int → Int → p_Hp → Option p_Hp) (k71 : Nat → Int → Int → Int → h_C → Option h_C) (hk71 : ∀ (v0 : Nat) (v1 : Int) (v2 : Int) (v4 : Int) (c0 : h_C) (r : h_C), k71 v0 v1 v2 v4 c0 = some r → j71 (h_A 300 v0) v1 v2 v4 (h_H c0 m) = some (h_H r m)) (v0 : Nat) (v1 : Int) (v2 : Int) (v4 : Int) (c0 : h_C) (r : h_C) (h : GL_State_keep_71 k71 v0 v1 v2 v4 c0 = some r) : L_State_keep_71 j71 (h_A 300 v0) v1 v2 v4 (h_H c0 m) = some (h_H r m) := by
  unfold GL_State_keep_71 at h
  unfold L_State_keep_71
  refine iteC Iff.rfl h (fun b1 h => ?_) (fun b1 h => ?_)
  · exact uO_State_keep_97 m 3000 v0 v1 1 c0 _ h
  · obtain ⟨g2, h⟩ := p_gdE h
    refine gdT (isD c0 m (d300 g2)) ?_
    try rw [rD c0 m (rr300_4 g2)]
    refine gdT (isD c0 m (d2001 g2)) ?_
    obtain ⟨g3, h⟩ := p_gdE h
    refine gdT ⟨g3.1, by (try rw [lenD c0 m (d2001 g2)]); exact g3.2⟩ ?_
    try rw [rD c0 m (el2001 (k := (v4 : Int).toNat) g2 (Nat.zero_le _) (by omega))]
    have hv4 : vG (40 * v0 + (v4 : Int).toNat + 1) := ⟨by omega, by have := g2; omega⟩
    refine gdT (isD c0 m (d0 hv4)) ?_
    obtain ⟨c7, q5, h⟩ := q_bvE h
    refine bvC (u_Gear_keep m (40 * v0 + (v4 : Int).toNat + 1) v1 c0 _ q5) ?_
    refine bV h ?_
    intro x8 h
    exact hk71 v0 v1 v2 x8 c7 _ h
set_option maxRecDepth 100000 in
set_option maxHeartbeats 4000000 in
theorem uO_State_keep_71 (m : h_M)  : ∀ (n : Nat) (v0 : Nat) (v1 : Int) (v2 : Int) (v4 : Int) (c0 : h_C) (r : h_C), GO_State_keep_71 n v0 v1 v2 v4 c0 = some r → O_State_keep_71 n (h_A 300 v0) v1 v2 v4 (h_H c0 m) = some (h_H r m) := by
  intro n
  induction n with
  | zero => intro v0 v1 v2 v4 c0 r h; cases h
  | succ n ih => intro v0 v1 v2 v4 c0 r h; exact uL_State_keep_71 m (O_State_keep_71 n) (GO_State_keep_71 n) ih v0 v1 v2 v4 c0 r h
set_option maxRecDepth 100000 in
set_option maxHeartbeats 4000000 in
theorem u_State_keep (m : h_M) (v0 : Nat) (v1 : Int) (v2 : Int) (c0 : h_C) (r : h_C) (h : G_State_keep v0 v1 v2 c0 = some r) : F_State_keep (h_A 300 v0) v1 v2 (h_H c0 m) = some (h_H r m) := by
  unfold G_State_keep at h
  unfold F_State_keep
  refine bV h ?_
  intro x2 h
  obtain ⟨g3, h⟩ := p_gdE h
  refine gdT (isD c0 m (d300 g3)) ?_
  try rw [rD c0 m (rr300_9 g3)]
  try rw [zf300 c0 m g3]
  refine gdT (isD c0 m (d2007 g3)) ?_
  obtain ⟨g4, h⟩ := p_gdE h
  refine gdT ⟨g4.1, by (try rw [lenD c0 m (d2007 g3)]); exact g4.2⟩ ?_
  refine bS (wA c0 m (d2007 g3) (by decide) _ _) h ?_
  intro c5 h
  try rw [rD c5 m (rr300_9 g3)]
  try rw [zf301 c5 m g3]
  refine gdT (isD c5 m (d2007 g3)) ?_
  obtain ⟨g7, h⟩ := p_gdE h
  refine gdT ⟨g7.1, by (try rw [lenD c5 m (d2007 g3)]); exact g7.2⟩ ?_
  refine bS (wA c5 m (d2007 g3) (by decide) _ _) h ?_
  intro c8 h
  try rw [rD c8 m (rr300_9 g3)]
  try rw [zf302 c8 m g3]
  refine gdT (isD c8 m (d2007 g3)) ?_
  obtain ⟨g10, h⟩ := p_gdE h
  refine gdT ⟨g10.1, by (try rw [lenD c8 m (d2007 g3)]); exact g10.2⟩ ?_
  refine bS (wA c8 m (d2007 g3) (by decide) _ _) h ?_
  intro c11 h
  try rw [rD c11 m (rr300_9 g3)]
  try rw [zf303 c11 m g3]
  refine gdT (isD c11 m (d2007 g3)) ?_
  obtain ⟨g13, h⟩ := p_gdE h
  refine gdT ⟨g13.1, by (try rw [lenD c11 m (d2007 g3)]); exact g13.2⟩ ?_
  refine bS (wA c11 m (d2007 g3) (by decide) _ _) h ?_
  intro c14 h
  try rw [rD c14 m (rr300_6 g3)]
  try rw [rD c14 m (rr300_9 g3)]
  refine gdT (isD c14 m (d2003 g3)) ?_
  refine gdT (isD c14 m (d2007 g3)) ?_
  obtain ⟨g16, h⟩ := p_gdE h
  refine gdT ⟨g16.1, g16.2.1, g16.2.2.1, by (try rw [lenD c14 m (d2003 g3)]); exact g16.2.2.2.1, by (try rw [lenD c14 m (d2007 g3)]); exact g16.2.2.2.2⟩ ?_
  refine bS (cA c14 m (d2003 g3) (by decide) (d2007 g3) (by decide) _ _ _) h ?_
  intro c17 h
  exact uO_State_keep_71 m 3000 v0 v1 v2 0 c17 _ h
def G_Ma_min (v0 : Int) (v1 : Int) (c0 : h_C) : Option Int :=
  if v1 < v0 then
    some v1
  else
    some v0
set_option maxRecDepth 100000 in
set_option maxHeartbeats 4000000 in
theorem u_Ma_min (m : h_M) (v0 : Int) (v1 : Int) (c0 : h_C) (r : Int) (h : G_Ma_min v0 v1 c0 = some r) : F_Ma_min v0 v1 (h_H c0 m) = some (r, (h_H c0 m)) := by
  unfold G_Ma_min at h
  unfold F_Ma_min
  refine iteC Iff.rfl h (fun b1 h => ?_) (fun b1 h => ?_)
  · cases h
    rfl
  · cases h
    rfl
def G_Works_keep (v0 : Nat) (v1 : Int) (c0 : h_C) : Option h_C :=
  p_gd (vW v0) <|
  p_bi (wc c0 303 v0 0 v1) fun c2 =>
  q_bv (G_State_keep v0 (c2 212 v0 0) (c2 202 v0 0) c2) fun c6 =>
  p_bi (wc c6 212 v0 0 (p_rem (p_w ((c6 212 v0 0) + 1)) 30)) fun c7 =>
  q_bv (G_Ma_min (p_w ((c7 213 v0 0) + 1)) 30 c7) fun r11 =>
  p_bi (wc c7 213 v0 0 r11) fun c13 =>
  some c13
set_option maxRecDepth 100000 in
set_option maxHeartbeats 4000000 in
theorem u_Works_keep (m : h_M) (v0 : Nat) (v1 : Int) (c0 : h_C) (r : h_C) (h : G_Works_keep v0 v1 c0 = some r) : F_Works_keep (h_A 200 v0) v1 (h_H c0 m) = some (h_H r m) := by
  unfold G_Works_keep at h
  unfold F_Works_keep
  obtain ⟨g1, h⟩ := p_gdE h
  refine gdT (isD c0 m (d200 g1)) ?_
  try rw [rD c0 m (rr200_1 g1)]
  refine gdT (isD c0 m (d300 g1)) ?_
  refine bS (wf303 c0 m g1 _) h ?_
  intro c2 h
  try rw [rD c2 m (rr200_1 g1)]
  try rw [zf212 c2 m g1]
  try rw [zf202 c2 m g1]
  refine gdT (isD c2 m (d300 g1)) ?_
  obtain ⟨c6, q4, h⟩ := q_bvE h
  refine bvC (u_State_keep m v0 (c2 212 v0 0) (c2 202 v0 0) c2 _ q4) ?_
  try rw [zf212 c6 m g1]
  refine bS (wf212 c6 m g1 _) h ?_
  intro c7 h
  try rw [zf213 c7 m g1]
  obtain ⟨r11, q9, h⟩ := q_bvE h
  refine bdC (u_Ma_min m (p_w ((c7 213 v0 0) + 1)) 30 c7 _ q9) ?_
  refine bS (wf213 c7 m g1 _) h ?_
  intro c13 h
  cases h
  rfl
def GB_Step_run_163 (k128 : Int → Int → h_C → Option (Int × h_C)) (v3 : Int) (v4 : Int) (c0 : h_C) : Option (Int × h_C) :=
  p_bi (p_w (v4 + 1)) fun x1 =>
  k128 v3 x1 c0
def GL_Step_run_128 (k128 : Int → Int → h_C → Option (Int × h_C)) (v3 : Int) (v4 : Int) (c0 : h_C) : Option (Int × h_C) :=
  p_gd (0 ≤ c0 5002 0 0 ∧ c0 5002 0 0 < 3) <|
  if (c0 202 (c0 5002 0 0).toNat 0) ≤ v4 then
    p_gd (0 ≤ c0 5003 0 0 ∧ c0 5003 0 0 < 3) <|
    some ((p_w ((c0 403 (2 * (c0 5003 0 0).toNat) 0) - v3)), c0)
  else
    p_gd (0 ≤ c0 5003 0 0 ∧ c0 5003 0 0 < 3) <|
    p_gd ((0 : Int) ≤ v4 ∧ v4 < (40 : Int)) <|
    q_bv (G_Step_isInStep (40 * (c0 5003 0 0).toNat + (v4 : Int).toNat + 1) c0) fun r13 =>
    if r13 = 0 then
      GB_Step_run_163 k128 v3 v4 c0
    else
      q_bv (G_Step_act v4 c0) fun c18 =>
      GB_Step_run_163 k128 v3 v4 c18
def GO_Step_run_128  : Nat → Int → Int → h_C → Option (Int × h_C)
  | 0 => fun _ _ _ => none
  | n + 1 => GL_Step_run_128 (GO_Step_run_128 n)
def GL_Step_run_97 (k97 : Int → Int → h_C → Option (Int × h_C)) (v3 : Int) (v4 : Int) (c0 : h_C) : Option (Int × h_C) :=
  p_gd (0 ≤ c0 5002 0 0 ∧ c0 5002 0 0 < 3) <|
  if (c0 206 (c0 5002 0 0).toNat 0) ≤ v4 then
    q_bv (G_Step_letMergesChoose c0) fun c6 =>
    GO_Step_run_128 3000 v3 0 c6
  else
    q_bv (G_Step_doPlan v4 c0) fun c9 =>
    p_bi (p_w (v4 + 1)) fun x10 =>
    k97 v3 x10 c9
def GO_Step_run_97  : Nat → Int → Int → h_C → Option (Int × h_C)
  | 0 => fun _ _ _ => none
  | n + 1 => GL_Step_run_97 (GO_Step_run_97 n)
def GL_Step_run_67 (k67 : Int → Int → h_C → Option (Int × h_C)) (v3 : Int) (v4 : Int) (c0 : h_C) : Option (Int × h_C) :=
  if 30 < v4 then
    GO_Step_run_97 3000 v3 0 c0
  else
    p_gd (0 ≤ c0 5003 0 0 ∧ c0 5003 0 0 < 3) <|
    p_gd ((0 : Int) ≤ v4 ∧ v4 < (31 : Int)) <|
    p_gd (v4 ≠ 0) <|
    p_bi (wc c0 108 (31 * (c0 5003 0 0).toNat + (v4 : Int).toNat) 0 0) fun c7 =>
    p_bi (p_w (v4 + 1)) fun x9 =>
    k67 v3 x9 c7
def GO_Step_run_67  : Nat → Int → Int → h_C → Option (Int × h_C)
  | 0 => fun _ _ _ => none
  | n + 1 => GL_Step_run_67 (GO_Step_run_67 n)
def G_Step_run (v1 : Nat) (c0 : h_C) : Option (Int × h_C) :=
  p_bi (wc c0 5002 0 0 (v1 : Nat)) fun c1 =>
  p_gd (vW v1) <|
  p_bi (wc c1 5003 0 0 (v1 : Nat)) fun c4 =>
  p_bi (wc c4 5001 0 0 1) fun c6 =>
  p_gd (0 ≤ c6 5003 0 0 ∧ c6 5003 0 0 < 3) <|
  p_bi ((c6 403 (2 * (c6 5003 0 0).toNat) 0)) fun x12 =>
  p_gd (0 ≤ c6 5002 0 0 ∧ c6 5002 0 0 < 3) <|
  p_gd (c6 5001 0 0 = 1) <|
  q_bv (G_Works_keep (c6 5002 0 0).toNat (c6 701 0 0) c6) fun c18 =>
  p_gd (0 ≤ c18 5003 0 0 ∧ c18 5003 0 0 < 3) <|
  p_bi (wc c18 300 (c18 5003 0 0).toNat 0 (p_w ((c18 300 (c18 5003 0 0).toNat 0) + 1))) fun c21 =>
  p_gd (0 ≤ c21 5002 0 0 ∧ c21 5002 0 0 < 3) <|
  p_bi (wc c21 211 (c21 5002 0 0).toNat 0 0) fun c25 =>
  GO_Step_run_67 3000 x12 1 c25
set_option maxRecDepth 100000 in
set_option maxHeartbeats 4000000 in
theorem uB_Step_run_163 (m : h_M) (j128 : Nat → Int → Int → p_Hp → Option (Int × p_Hp)) (k128 : Int → Int → h_C → Option (Int × h_C)) (hk128 : ∀ (v3 : Int) (v4 : Int) (c0 : h_C) (r : (Int × h_C)), k128 v3 v4 c0 = some r → j128 1112 v3 v4 (h_H c0 m) = some (r.1, (h_H r.2 m))) (v3 : Int) (v4 : Int) (c0 : h_C) (r : (Int × h_C)) (h : GB_Step_run_163 k128 v3 v4 c0 = some r) : B_Step_run_163 j128 1112 v3 v4 (h_H c0 m) = some (r.1, (h_H r.2 m)) := by
  unfold GB_Step_run_163 at h
  unfold B_Step_run_163
  refine bV h ?_
  intro x1 h
  exact hk128 v3 x1 c0 _ h
set_option maxRecDepth 100000 in
set_option maxHeartbeats 4000000 in
theorem uL_Step_run_128 (m : h_M) (j128 : Nat → Int → Int → p_Hp → Option (Int × p_Hp)) (k128 : Int → Int → h_C → Option (Int × h_C)) (hk128 : ∀ (v3 : Int) (v4 : Int) (c0 : h_C) (r : (Int × h_C)), k128 v3 v4 c0 = some r → j128 1112 v3 v4 (h_H c0 m) = some (r.1, (h_H r.2 m))) (v3 : Int) (v4 : Int) (c0 : h_C) (r : (Int × h_C)) (h : GL_Step_run_128 k128 v3 v4 c0 = some r) : L_Step_run_128 j128 1112 v3 v4 (h_H c0 m) = some (r.1, (h_H r.2 m)) := by
  unfold GL_Step_run_128 at h
  unfold L_Step_run_128
  refine gdT (isD c0 m d800) ?_
  obtain ⟨g1, h⟩ := p_gdE h
  try rw [rm5002 c0 m g1]
  have hv2 : vW (c0 5002 0 0).toNat := by omega
  refine gdT (isD c0 m (d200 hv2)) ?_
  try rw [zf202 c0 m hv2]
  refine iteC Iff.rfl h (fun b3 h => ?_) (fun b3 h => ?_)
  · obtain ⟨g4, h⟩ := p_gdE h
    try rw [rm5003 c0 m g4]
    have hv5 : vW (c0 5003 0 0).toNat := by omega
    refine gdT (isD c0 m (d300 hv5)) ?_
    try rw [rD c0 m (rr300_7 hv5)]
    have hv6 : vL (2 * (c0 5003 0 0).toNat) := by have := hv5; omega
    refine gdT (isD c0 m (d400 hv6)) ?_
    try rw [zf403 c0 m hv6]
    cases h
    rfl
  · obtain ⟨g7, h⟩ := p_gdE h
    try rw [rm5003 c0 m g7]
    have hv8 : vW (c0 5003 0 0).toNat := by omega
    refine gdT (isD c0 m (d300 hv8)) ?_
    try rw [rD c0 m (rr300_4 hv8)]
    refine gdT (isD c0 m (d2001 hv8)) ?_
    obtain ⟨g9, h⟩ := p_gdE h
    refine gdT ⟨g9.1, by (try rw [lenD c0 m (d2001 hv8)]); exact g9.2⟩ ?_
    try rw [rD c0 m (el2001 (k := (v4 : Int).toNat) hv8 (Nat.zero_le _) (by omega))]
    have hv10 : vG (40 * (c0 5003 0 0).toNat + (v4 : Int).toNat + 1) := ⟨by omega, by have := hv8; omega⟩
    obtain ⟨r13, q11, h⟩ := q_bvE h
    refine bdC (u_Step_isInStep m (40 * (c0 5003 0 0).toNat + (v4 : Int).toNat + 1) c0 _ q11) ?_
    refine iteC Iff.rfl h (fun b15 h => ?_) (fun b15 h => ?_)
    · exact uB_Step_run_163 m j128 k128 hk128 v3 v4 c0 _ h
    · obtain ⟨c18, q16, h⟩ := q_bvE h
      refine bvC (u_Step_act m v4 c0 _ q16) ?_
      exact uB_Step_run_163 m j128 k128 hk128 v3 v4 c18 _ h
set_option maxRecDepth 100000 in
set_option maxHeartbeats 4000000 in
theorem uO_Step_run_128 (m : h_M)  : ∀ (n : Nat) (v3 : Int) (v4 : Int) (c0 : h_C) (r : (Int × h_C)), GO_Step_run_128 n v3 v4 c0 = some r → O_Step_run_128 n 1112 v3 v4 (h_H c0 m) = some (r.1, (h_H r.2 m)) := by
  intro n
  induction n with
  | zero => intro v3 v4 c0 r h; cases h
  | succ n ih => intro v3 v4 c0 r h; exact uL_Step_run_128 m (O_Step_run_128 n) (GO_Step_run_128 n) ih v3 v4 c0 r h
set_option maxRecDepth 100000 in
set_option maxHeartbeats 4000000 in
theorem uL_Step_run_97 (m : h_M) (j97 : Nat → Int → Int → p_Hp → Option (Int × p_Hp)) (k97 : Int → Int → h_C → Option (Int × h_C)) (hk97 : ∀ (v3 : Int) (v4 : Int) (c0 : h_C) (r : (Int × h_C)), k97 v3 v4 c0 = some r → j97 1112 v3 v4 (h_H c0 m) = some (r.1, (h_H r.2 m))) (v3 : Int) (v4 : Int) (c0 : h_C) (r : (Int × h_C)) (h : GL_Step_run_97 k97 v3 v4 c0 = some r) : L_Step_run_97 j97 1112 v3 v4 (h_H c0 m) = some (r.1, (h_H r.2 m)) := by
  unfold GL_Step_run_97 at h
  unfold L_Step_run_97
  refine gdT (isD c0 m d800) ?_
  obtain ⟨g1, h⟩ := p_gdE h
  try rw [rm5002 c0 m g1]
  have hv2 : vW (c0 5002 0 0).toNat := by omega
  refine gdT (isD c0 m (d200 hv2)) ?_
  try rw [zf206 c0 m hv2]
  refine iteC Iff.rfl h (fun b3 h => ?_) (fun b3 h => ?_)
  · obtain ⟨c6, q4, h⟩ := q_bvE h
    refine bvC (u_Step_letMergesChoose m c0 _ q4) ?_
    exact uO_Step_run_128 m 3000 v3 0 c6 _ h
  · obtain ⟨c9, q7, h⟩ := q_bvE h
    refine bvC (u_Step_doPlan m v4 c0 _ q7) ?_
    refine bV h ?_
    intro x10 h
    exact hk97 v3 x10 c9 _ h
set_option maxRecDepth 100000 in
set_option maxHeartbeats 4000000 in
theorem uO_Step_run_97 (m : h_M)  : ∀ (n : Nat) (v3 : Int) (v4 : Int) (c0 : h_C) (r : (Int × h_C)), GO_Step_run_97 n v3 v4 c0 = some r → O_Step_run_97 n 1112 v3 v4 (h_H c0 m) = some (r.1, (h_H r.2 m)) := by
  intro n
  induction n with
  | zero => intro v3 v4 c0 r h; cases h
  | succ n ih => intro v3 v4 c0 r h; exact uL_Step_run_97 m (O_Step_run_97 n) (GO_Step_run_97 n) ih v3 v4 c0 r h
set_option maxRecDepth 100000 in
set_option maxHeartbeats 4000000 in
theorem uL_Step_run_67 (m : h_M) (j67 : Nat → Int → Int → p_Hp → Option (Int × p_Hp)) (k67 : Int → Int → h_C → Option (Int × h_C)) (hk67 : ∀ (v3 : Int) (v4 : Int) (c0 : h_C) (r : (Int × h_C)), k67 v3 v4 c0 = some r → j67 1112 v3 v4 (h_H c0 m) = some (r.1, (h_H r.2 m))) (v3 : Int) (v4 : Int) (c0 : h_C) (r : (Int × h_C)) (h : GL_Step_run_67 k67 v3 v4 c0 = some r) : L_Step_run_67 j67 1112 v3 v4 (h_H c0 m) = some (r.1, (h_H r.2 m)) := by
  unfold GL_Step_run_67 at h
  unfold L_Step_run_67
  refine iteC Iff.rfl h (fun b1 h => ?_) (fun b1 h => ?_)
  · exact uO_Step_run_97 m 3000 v3 0 c0 _ h
  · refine gdT (isD c0 m d800) ?_
    obtain ⟨g2, h⟩ := p_gdE h
    try rw [rm5003 c0 m g2]
    have hv3 : vW (c0 5003 0 0).toNat := by omega
    refine gdT (isD c0 m (d300 hv3)) ?_
    try rw [rD c0 m (rr300_5 hv3)]
    refine gdT (isD c0 m (d2002 hv3)) ?_
    obtain ⟨g4, h⟩ := p_gdE h
    refine gdT ⟨g4.1, by (try rw [lenD c0 m (d2002 hv3)]); exact g4.2⟩ ?_
    obtain ⟨g5, h⟩ := p_gdE h
    try rw [rD c0 m (el2002 (k := (v4 : Int).toNat) hv3 (by omega) (by omega))]
    have hv6 : vP (31 * (c0 5003 0 0).toNat + (v4 : Int).toNat) := ⟨by omega, by have := hv3; omega⟩
    refine gdT (isD c0 m (d100 hv6)) ?_
    refine bS (wf108 c0 m hv6 _) h ?_
    intro c7 h
    refine bV h ?_
    intro x9 h
    exact hk67 v3 x9 c7 _ h
set_option maxRecDepth 100000 in
set_option maxHeartbeats 4000000 in
theorem uO_Step_run_67 (m : h_M)  : ∀ (n : Nat) (v3 : Int) (v4 : Int) (c0 : h_C) (r : (Int × h_C)), GO_Step_run_67 n v3 v4 c0 = some r → O_Step_run_67 n 1112 v3 v4 (h_H c0 m) = some (r.1, (h_H r.2 m)) := by
  intro n
  induction n with
  | zero => intro v3 v4 c0 r h; cases h
  | succ n ih => intro v3 v4 c0 r h; exact uL_Step_run_67 m (O_Step_run_67 n) (GO_Step_run_67 n) ih v3 v4 c0 r h
set_option maxRecDepth 100000 in
set_option maxHeartbeats 4000000 in
theorem u_Step_run (m : h_M) (v1 : Nat) (c0 : h_C) (r : (Int × h_C)) (h : G_Step_run v1 c0 = some r) : F_Step_run 1112 (h_A 200 v1) 1110 (h_H c0 m) = some (r.1, (h_H r.2 m)) := by
  unfold G_Step_run at h
  unfold F_Step_run
  refine gdT (isD c0 m d800) ?_
  refine bS (h_wR5002 c0 m _) h ?_
  intro c1 h
  obtain ⟨g3, h⟩ := p_gdE h
  refine gdT (isD c1 m (d200 g3)) ?_
  try rw [rD c1 m (rr200_1 g3)]
  refine bS (h_wR5003 c1 m _) h ?_
  intro c4 h
  refine bS (h_wR5001 c4 m) h ?_
  intro c6 h
  obtain ⟨g8, h⟩ := p_gdE h
  try rw [rm5003 c6 m g8]
  have hv9 : vW (c6 5003 0 0).toNat := by omega
  refine gdT (isD c6 m (d300 hv9)) ?_
  try rw [rD c6 m (rr300_7 hv9)]
  have hv10 : vL (2 * (c6 5003 0 0).toNat) := by have := hv9; omega
  refine gdT (isD c6 m (d400 hv10)) ?_
  try rw [zf403 c6 m hv10]
  refine bV h ?_
  intro x12 h
  obtain ⟨g13, h⟩ := p_gdE h
  try rw [rm5002 c6 m g13]
  have hv14 : vW (c6 5002 0 0).toNat := by omega
  obtain ⟨g15, h⟩ := p_gdE h
  try rw [rm5001 c6 m g15]
  refine gdT (isD c6 m d700) ?_
  try rw [zf701 c6 m]
  refine gdT (isD c6 m (d200 hv14)) ?_
  obtain ⟨c18, q16, h⟩ := q_bvE h
  refine bvC (u_Works_keep m (c6 5002 0 0).toNat (c6 701 0 0) c6 _ q16) ?_
  obtain ⟨g19, h⟩ := p_gdE h
  try rw [rm5003 c18 m g19]
  have hv20 : vW (c18 5003 0 0).toNat := by omega
  refine gdT (isD c18 m (d300 hv20)) ?_
  try rw [zf300 c18 m hv20]
  refine bS (wf300 c18 m hv20 _) h ?_
  intro c21 h
  obtain ⟨g23, h⟩ := p_gdE h
  try rw [rm5002 c21 m g23]
  have hv24 : vW (c21 5002 0 0).toNat := by omega
  refine gdT (isD c21 m (d200 hv24)) ?_
  refine bS (wf211 c21 m hv24 _) h ?_
  intro c25 h
  exact uO_Step_run_67 m 3000 x12 1 c25 _ h
def G_SW_step  (c0 : h_C) : Option (Int × h_C) :=
  if (c0 607 0 0) < 5000 then
    p_gd (0 ≤ c0 5000 0 0 ∧ c0 5000 0 0 < 3) <|
    q_bd (G_Step_run (c0 5000 0 0).toNat c0) fun r6 c7 =>
    p_bi (wc c7 607 0 0 (p_w ((c0 607 0 0) + r6))) fun c9 =>
    p_gd (0 ≤ c9 5000 0 0 ∧ c9 5000 0 0 < 3) <|
    q_bd (G_SW_done (c9 300 (c9 5000 0 0).toNat 0) c9) fun r15 c16 =>
    some (r15, c16)
  else
    q_bd (G_SW_refuse (-4) c0) fun r20 c21 =>
    some (r20, c21)
set_option maxRecDepth 100000 in
set_option maxHeartbeats 4000000 in
theorem u_SW_step (m : h_M)  (c0 : h_C) (r : (Int × h_C)) (h : G_SW_step  c0 = some r) : F_SW_step 1 (h_H c0 m) = some (r.1, (h_H r.2 m)) := by
  unfold G_SW_step at h
  unfold F_SW_step
  refine gdT (isD c0 m d600) ?_
  try rw [zf607 c0 m]
  refine iteC Iff.rfl h (fun b1 h => ?_) (fun b1 h => ?_)
  · try rw [zf607 c0 m]
    try rw [rs1_3 c0 m]
    obtain ⟨g2, h⟩ := p_gdE h
    try rw [rm5000 c0 m g2]
    have hv3 : vW (c0 5000 0 0).toNat := by omega
    try rw [rs1_2 c0 m]
    refine gdT (isD c0 m d800) ?_
    obtain ⟨r6, c7, q4, h⟩ := q_bdE h
    refine bdC (u_Step_run m (c0 5000 0 0).toNat c0 _ q4) ?_
    refine bS (wf607 c7 m _) h ?_
    intro c9 h
    obtain ⟨g11, h⟩ := p_gdE h
    try rw [rm5000 c9 m g11]
    have hv12 : vW (c9 5000 0 0).toNat := by omega
    refine gdT (isD c9 m (d200 hv12)) ?_
    try rw [rD c9 m (rr200_1 hv12)]
    refine gdT (isD c9 m (d300 hv12)) ?_
    try rw [zf300 c9 m hv12]
    obtain ⟨r15, c16, q13, h⟩ := q_bdE h
    refine bdC (u_SW_done m (c9 300 (c9 5000 0 0).toNat 0) c9 _ q13) ?_
    cases h
    rfl
  · obtain ⟨r20, c21, q18, h⟩ := q_bdE h
    refine bdC (u_SW_refuse m (-4) c0 _ q18) ?_
    cases h
    rfl
def G_Parcel_raiseLastByte (v0 : Nat) (c0 : h_C) : Option h_C :=
  p_gd (vP v0) <|
  p_bi ((p_w ((c0 111 v0 0) - 1))) fun x3 =>
  if x3 < 0 then
    some c0
  else
    p_gd ((0 : Int) ≤ x3 ∧ x3 < (12 : Int)) <|
    p_bi (wc c0 2015 v0 (x3 : Int).toNat (p_and (p_w ((c0 2015 v0 (x3 : Int).toNat) + 1)) 255)) fun c6 =>
    some c6
set_option maxRecDepth 100000 in
set_option maxHeartbeats 4000000 in
theorem u_Parcel_raiseLastByte (m : h_M) (v0 : Nat) (c0 : h_C) (r : h_C) (h : G_Parcel_raiseLastByte v0 c0 = some r) : F_Parcel_raiseLastByte (h_A 100 v0) (h_H c0 m) = some (h_H r m) := by
  unfold G_Parcel_raiseLastByte at h
  unfold F_Parcel_raiseLastByte
  obtain ⟨g1, h⟩ := p_gdE h
  refine gdT (isD c0 m (d100 g1)) ?_
  try rw [zf111 c0 m g1]
  refine bV h ?_
  intro x3 h
  refine iteC Iff.rfl h (fun b4 h => ?_) (fun b4 h => ?_)
  · cases h
    rfl
  · try rw [rD c0 m (rr100_12 g1)]
    try rw [rD c0 m (rr100_12 g1)]
    refine gdT (isD c0 m (d2015 g1)) ?_
    obtain ⟨g5, h⟩ := p_gdE h
    refine gdT ⟨g5.1, by (try rw [lenD c0 m (d2015 g1)]); exact g5.2⟩ ?_
    try rw [zA c0 m (d2015 g1) (by decide) (x3 : Int).toNat]
    refine gdT ⟨g5.1, by (try rw [lenD c0 m (d2015 g1)]); exact g5.2⟩ ?_
    refine bS (wA c0 m (d2015 g1) (by decide) _ _) h ?_
    intro c6 h
    cases h
    rfl
def G_Parcel_spoil (v0 : Nat) (v1 : Int) (c0 : h_C) : Option h_C :=
  if (p_rem v1 8) = 0 then
    p_gd (vP v0) <|
    p_bi (wc c0 111 v0 0 (-1)) fun c3 =>
    some c3
  else if (p_rem v1 8) = 1 then
    p_gd (vP v0) <|
    p_bi (wc c0 111 v0 0 (p_rem (p_div v1 8) 6)) fun c7 =>
    some c7
  else if (p_rem v1 8) = 2 then
    p_gd (vP v0) <|
    q_bv (G_Parcel_raiseLastByte v0 c0) fun c13 =>
    some c13
  else 
  some c0
set_option maxRecDepth 100000 in
set_option maxHeartbeats 4000000 in
theorem u_Parcel_spoil (m : h_M) (v0 : Nat) (v1 : Int) (c0 : h_C) (r : h_C) (h : G_Parcel_spoil v0 v1 c0 = some r) : F_Parcel_spoil (h_A 100 v0) v1 (h_H c0 m) = some (h_H r m) := by
  unfold G_Parcel_spoil at h
  unfold F_Parcel_spoil
  refine iteC Iff.rfl h (fun b1 h => ?_) (fun b1 h => ?_)
  · obtain ⟨g2, h⟩ := p_gdE h
    refine gdT (isD c0 m (d100 g2)) ?_
    refine bS (wf111 c0 m g2 _) h ?_
    intro c3 h
    cases h
    rfl
  refine iteC Iff.rfl h (fun b5 h => ?_) (fun b5 h => ?_)
  · obtain ⟨g6, h⟩ := p_gdE h
    refine gdT (isD c0 m (d100 g6)) ?_
    refine bS (wf111 c0 m g6 _) h ?_
    intro c7 h
    cases h
    rfl
  refine iteC Iff.rfl h (fun b9 h => ?_) (fun b9 h => ?_)
  · obtain ⟨g10, h⟩ := p_gdE h
    refine gdT (isD c0 m (d100 g10)) ?_
    obtain ⟨c13, q11, h⟩ := q_bvE h
    refine bvC (u_Parcel_raiseLastByte m v0 c0 _ q11) ?_
    cases h
    rfl
  cases h
  rfl
def G_SW_comeByNight (v1 : Int) (v2 : Int) (v3 : Int) (c0 : h_C) : Option (Int × h_C) :=
  p_gd (0 ≤ c0 5000 0 0 ∧ c0 5000 0 0 < 3) <|
  q_bv (G_Works_gearOf (c0 5000 0 0).toNat 0 c0) fun r5 =>
  if r5 = 0 then
    some (0, c0)
  else
    p_gd (vG r5) <|
    q_bv (G_Gear_isTaker r5 c0) fun r11 =>
    if r11 = 0 then
      some (0, c0)
    else
      q_bv (G_Gear_isChute r5 c0) fun r16 =>
      if r16 ≠ 0 then
        some (0, c0)
      else
        q_bv (G_Gear_isFreeAtStart r5 c0) fun r21 =>
        if r21 ≠ 0 then
          q_bd (G_SW_newParcel c0) fun r26 c27 =>
          if r26 ≠ 0 then
            p_gd (0 ≤ c27 5000 0 0 ∧ c27 5000 0 0 < 3) <|
            q_bv (G_State_bringIn (c27 5000 0 0).toNat r26 0 (p_w (1 + (p_rem v1 200))) (p_rem (p_div v1 200) 10) c27) fun c34 =>
            p_gd (vP r26) <|
            q_bv (G_Parcel_write r26 (p_rem (p_div v2 100) 2) (p_rem v2 100) c34) fun c38 =>
            q_bv (G_Parcel_spoil r26 v3 c38) fun c41 =>
            some (1, c41)
          else
            some (0, c27)
        else
          some (0, c0)
set_option maxRecDepth 100000 in
set_option maxHeartbeats 4000000 in
theorem u_SW_comeByNight (m : h_M) (v1 : Int) (v2 : Int) (v3 : Int) (c0 : h_C) (r : (Int × h_C)) (h : G_SW_comeByNight v1 v2 v3 c0 = some r) : F_SW_comeByNight 1 v1 v2 v3 (h_H c0 m) = some (r.1, (h_H r.2 m)) := by
  unfold G_SW_comeByNight at h
  unfold F_SW_comeByNight
  refine gdT (isD c0 m d600) ?_
  obtain ⟨g1, h⟩ := p_gdE h
  try rw [rm5000 c0 m g1]
  have hv2 : vW (c0 5000 0 0).toNat := by omega
  refine gdT (isD c0 m (d200 hv2)) ?_
  obtain ⟨r5, q3, h⟩ := q_bvE h
  refine bdC (u_Works_gearOf m (c0 5000 0 0).toNat 0 c0 _ q3) ?_
  refine iteC (h_A0z _) h (fun b7 h => ?_) (fun b7 h => ?_)
  · cases h
    rfl
  · obtain ⟨g8, h⟩ := p_gdE h
    refine gdT (isD c0 m (d0 g8)) ?_
    obtain ⟨r11, q9, h⟩ := q_bvE h
    refine bdC (u_Gear_isTaker m r5 c0 _ q9) ?_
    refine iteC Iff.rfl h (fun b13 h => ?_) (fun b13 h => ?_)
    · cases h
      rfl
    · obtain ⟨r16, q14, h⟩ := q_bvE h
      refine bdC (u_Gear_isChute m r5 c0 _ q14) ?_
      refine iteC Iff.rfl h (fun b18 h => ?_) (fun b18 h => ?_)
      · cases h
        rfl
      · obtain ⟨r21, q19, h⟩ := q_bvE h
        refine bdC (u_Gear_isFreeAtStart m r5 c0 _ q19) ?_
        refine iteC Iff.rfl h (fun b23 h => ?_) (fun b23 h => ?_)
        · obtain ⟨r26, c27, q24, h⟩ := q_bdE h
          refine bdC (u_SW_newParcel m c0 _ q24) ?_
          refine iteC (ne_iff (h_A100z _)) h (fun b29 h => ?_) (fun b29 h => ?_)
          · obtain ⟨g30, h⟩ := p_gdE h
            try rw [rm5000 c27 m g30]
            have hv31 : vW (c27 5000 0 0).toNat := by omega
            refine gdT (isD c27 m (d200 hv31)) ?_
            try rw [rD c27 m (rr200_1 hv31)]
            refine gdT (isD c27 m (d300 hv31)) ?_
            obtain ⟨c34, q32, h⟩ := q_bvE h
            refine bvC (u_State_bringIn m (c27 5000 0 0).toNat r26 0 (p_w (1 + (p_rem v1 200))) (p_rem (p_div v1 200) 10) c27 _ q32) ?_
            obtain ⟨g35, h⟩ := p_gdE h
            refine gdT (isD c34 m (d100 g35)) ?_
            obtain ⟨c38, q36, h⟩ := q_bvE h
            refine bvC (u_Parcel_write m r26 (p_rem (p_div v2 100) 2) (p_rem v2 100) c34 _ q36) ?_
            obtain ⟨c41, q39, h⟩ := q_bvE h
            refine bvC (u_Parcel_spoil m r26 v3 c38 _ q39) ?_
            cases h
            rfl
          · cases h
            rfl
        · cases h
          rfl
def G_SW_drawnAfter (v0 : Int) (c0 : h_C) : Option Int :=
  some (p_w ((p_w (v0 * 1103515245)) + 12345))
set_option maxRecDepth 100000 in
set_option maxHeartbeats 4000000 in
theorem u_SW_drawnAfter (m : h_M) (v0 : Int) (c0 : h_C) (r : Int) (h : G_SW_drawnAfter v0 c0 = some r) : F_SW_drawnAfter v0 (h_H c0 m) = some (r, (h_H c0 m)) := by
  unfold G_SW_drawnAfter at h
  unfold F_SW_drawnAfter
  cases h
  rfl
def GB_SW_night_11   (c0 : h_C) : Option (Int × h_C) :=
  q_bd (G_SW_refuse (-2) c0) fun r3 c4 =>
  some (r3, c4)
def GB_SW_night_123  (v4 : Int) (c0 : h_C) : Option (Int × h_C) :=
  q_bd (G_SW_done v4 c0) fun r3 c4 =>
  some (r3, c4)
def GL_SW_night_26 (k26 : Int → Int → Int → Int → h_C → Option (Int × h_C)) (v2 : Int) (v3 : Int) (v4 : Int) (v5 : Int) (c0 : h_C) : Option (Int × h_C) :=
  if v2 ≤ v5 then
    GB_SW_night_123 v4 c0
  else
    q_bv (G_SW_drawnAfter v3 c0) fun r4 =>
    p_bi ((p_ushr r4 16)) fun x7 =>
    q_bv (G_SW_drawnAfter r4 c0) fun r10 =>
    p_bi ((p_ushr r10 16)) fun x13 =>
    q_bv (G_SW_drawnAfter r10 c0) fun r16 =>
    p_bi ((p_ushr r16 16)) fun x19 =>
    q_bd (G_SW_comeByNight x7 x13 x19 c0) fun r22 c23 =>
    p_bi ((p_w (v4 + r22))) fun x26 =>
    if (c23 607 0 0) < 5000 then
      p_gd (0 ≤ c23 5000 0 0 ∧ c23 5000 0 0 < 3) <|
      q_bd (G_Step_run (c23 5000 0 0).toNat c23) fun r32 c33 =>
      p_bi (wc c33 607 0 0 (p_w ((c23 607 0 0) + r32))) fun c35 =>
      p_bi (p_w (v5 + 1)) fun x37 =>
      k26 v2 r16 x26 x37 c35
    else
      GB_SW_night_123 x26 c23
def GO_SW_night_26  : Nat → Int → Int → Int → Int → h_C → Option (Int × h_C)
  | 0 => fun _ _ _ _ _ => none
  | n + 1 => GL_SW_night_26 (GO_SW_night_26 n)
def G_SW_night (v1 : Int) (v2 : Int) (c0 : h_C) : Option (Int × h_C) :=
  if v2 < 1 then
    GB_SW_night_11 c0
  else
    if v2 ≤ 20 then
      GO_SW_night_26 3000 v2 v1 0 0 c0
    else
      GB_SW_night_11 c0
set_option maxRecDepth 100000 in
set_option maxHeartbeats 4000000 in
theorem uB_SW_night_11 (m : h_M)   (c0 : h_C) (r : (Int × h_C)) (h : GB_SW_night_11  c0 = some r) : B_SW_night_11 1 (h_H c0 m) = some (r.1, (h_H r.2 m)) := by
  unfold GB_SW_night_11 at h
  unfold B_SW_night_11
  refine gdT (isD c0 m d600) ?_
  obtain ⟨r3, c4, q1, h⟩ := q_bdE h
  refine bdC (u_SW_refuse m (-2) c0 _ q1) ?_
  cases h
  rfl
set_option maxRecDepth 100000 in
set_option maxHeartbeats 4000000 in
theorem uB_SW_night_123 (m : h_M)  (v4 : Int) (c0 : h_C) (r : (Int × h_C)) (h : GB_SW_night_123 v4 c0 = some r) : B_SW_night_123 1 v4 (h_H c0 m) = some (r.1, (h_H r.2 m)) := by
  unfold GB_SW_night_123 at h
  unfold B_SW_night_123
  refine gdT (isD c0 m d600) ?_
  obtain ⟨r3, c4, q1, h⟩ := q_bdE h
  refine bdC (u_SW_done m v4 c0 _ q1) ?_
  cases h
  rfl
set_option maxRecDepth 100000 in
set_option maxHeartbeats 4000000 in
theorem uL_SW_night_26 (m : h_M) (j26 : Nat → Int → Int → Int → Int → p_Hp → Option (Int × p_Hp)) (k26 : Int → Int → Int → Int → h_C → Option (Int × h_C)) (hk26 : ∀ (v2 : Int) (v3 : Int) (v4 : Int) (v5 : Int) (c0 : h_C) (r : (Int × h_C)), k26 v2 v3 v4 v5 c0 = some r → j26 1 v2 v3 v4 v5 (h_H c0 m) = some (r.1, (h_H r.2 m))) (v2 : Int) (v3 : Int) (v4 : Int) (v5 : Int) (c0 : h_C) (r : (Int × h_C)) (h : GL_SW_night_26 k26 v2 v3 v4 v5 c0 = some r) : L_SW_night_26 j26 1 v2 v3 v4 v5 (h_H c0 m) = some (r.1, (h_H r.2 m)) := by
  unfold GL_SW_night_26 at h
  unfold L_SW_night_26
  refine iteC Iff.rfl h (fun b1 h => ?_) (fun b1 h => ?_)
  · exact uB_SW_night_123 m v4 c0 _ h
  · obtain ⟨r4, q2, h⟩ := q_bvE h
    refine bdC (u_SW_drawnAfter m v3 c0 _ q2) ?_
    refine bV h ?_
    intro x7 h
    obtain ⟨r10, q8, h⟩ := q_bvE h
    refine bdC (u_SW_drawnAfter m r4 c0 _ q8) ?_
    refine bV h ?_
    intro x13 h
    obtain ⟨r16, q14, h⟩ := q_bvE h
    refine bdC (u_SW_drawnAfter m r10 c0 _ q14) ?_
    refine bV h ?_
    intro x19 h
    refine gdT (isD c0 m d600) ?_
    obtain ⟨r22, c23, q20, h⟩ := q_bdE h
    refine bdC (u_SW_comeByNight m x7 x13 x19 c0 _ q20) ?_
    refine bV h ?_
    intro x26 h
    try rw [zf607 c23 m]
    refine iteC Iff.rfl h (fun b27 h => ?_) (fun b27 h => ?_)
    · try rw [zf607 c23 m]
      try rw [rs1_3 c23 m]
      obtain ⟨g28, h⟩ := p_gdE h
      try rw [rm5000 c23 m g28]
      have hv29 : vW (c23 5000 0 0).toNat := by omega
      try rw [rs1_2 c23 m]
      refine gdT (isD c23 m d800) ?_
      obtain ⟨r32, c33, q30, h⟩ := q_bdE h
      refine bdC (u_Step_run m (c23 5000 0 0).toNat c23 _ q30) ?_
      refine bS (wf607 c33 m _) h ?_
      intro c35 h
      refine bV h ?_
      intro x37 h
      exact hk26 v2 r16 x26 x37 c35 _ h
    · exact uB_SW_night_123 m x26 c23 _ h
set_option maxRecDepth 100000 in
set_option maxHeartbeats 4000000 in
theorem uO_SW_night_26 (m : h_M)  : ∀ (n : Nat) (v2 : Int) (v3 : Int) (v4 : Int) (v5 : Int) (c0 : h_C) (r : (Int × h_C)), GO_SW_night_26 n v2 v3 v4 v5 c0 = some r → O_SW_night_26 n 1 v2 v3 v4 v5 (h_H c0 m) = some (r.1, (h_H r.2 m)) := by
  intro n
  induction n with
  | zero => intro v2 v3 v4 v5 c0 r h; cases h
  | succ n ih => intro v2 v3 v4 v5 c0 r h; exact uL_SW_night_26 m (O_SW_night_26 n) (GO_SW_night_26 n) ih v2 v3 v4 v5 c0 r h
set_option maxRecDepth 100000 in
set_option maxHeartbeats 4000000 in
theorem u_SW_night (m : h_M) (v1 : Int) (v2 : Int) (c0 : h_C) (r : (Int × h_C)) (h : G_SW_night v1 v2 c0 = some r) : F_SW_night 1 v1 v2 (h_H c0 m) = some (r.1, (h_H r.2 m)) := by
  unfold G_SW_night at h
  unfold F_SW_night
  refine iteC Iff.rfl h (fun b1 h => ?_) (fun b1 h => ?_)
  · exact uB_SW_night_11 m c0 _ h
  · refine iteC Iff.rfl h (fun b2 h => ?_) (fun b2 h => ?_)
    · exact uO_SW_night_26 m 3000 v2 v1 0 0 c0 _ h
    · exact uB_SW_night_11 m c0 _ h
def GB_Numbers_undoSince_59 (k7 : Int → Nat → Int → h_C → Option h_C) (v1 : Int) (v2 : Nat) (v3 : Int) (c0 : h_C) : Option h_C :=
  p_bi (p_w (v3 + 1)) fun x1 =>
  k7 v1 v2 x1 c0
def GB_Numbers_undoSince_51 (k7 : Int → Nat → Int → h_C → Option h_C) (v1 : Int) (v2 : Nat) (v3 : Int) (c0 : h_C) : Option h_C :=
  p_gd ((0 : Int) ≤ v3 ∧ v3 < (2001 : Int)) <|
  p_bi (wc c0 2040 0 (v3 : Int).toNat (-9)) fun c2 =>
  GB_Numbers_undoSince_59 k7 v1 v2 v3 c2
def GB_Numbers_undoSince_100 (k67 : Int → Nat → Int → h_C → Option h_C) (v1 : Int) (v2 : Nat) (v3 : Int) (c0 : h_C) : Option h_C :=
  p_bi (p_w (v3 + 1)) fun x1 =>
  k67 v1 v2 x1 c0
def GL_Numbers_undoSince_67 (k67 : Int → Nat → Int → h_C → Option h_C) (v1 : Int) (v2 : Nat) (v3 : Int) (c0 : h_C) : Option h_C :=
  if 30 < v3 then
    some c0
  else
    p_gd (vW v2) <|
    p_gd ((0 : Int) ≤ v3 ∧ v3 < (31 : Int)) <|
    p_gd (v3 ≠ 0) <|
    p_bi ((c0 101 (31 * v2 + (v3 : Int).toNat) 0)) fun x7 =>
    if x7 = 0 then
      GB_Numbers_undoSince_100 k67 v1 v2 v3 c0
    else
      q_bv (G_Numbers_insideOf v1 c0) fun r11 =>
      p_gd ((0 : Int) ≤ x7 ∧ x7 < (2001 : Int)) <|
      p_bi (wc c0 2040 0 (x7 : Int).toNat r11) fun c14 =>
      GB_Numbers_undoSince_100 k67 v1 v2 v3 c14
def GO_Numbers_undoSince_67  : Nat → Int → Nat → Int → h_C → Option h_C
  | 0 => fun _ _ _ _ => none
  | n + 1 => GL_Numbers_undoSince_67 (GO_Numbers_undoSince_67 n)
def GL_Numbers_undoSince_7 (k7 : Int → Nat → Int → h_C → Option h_C) (v1 : Int) (v2 : Nat) (v3 : Int) (c0 : h_C) : Option h_C :=
  if (c0 701 0 0) < v3 then
    GO_Numbers_undoSince_67 3000 v1 v2 1 c0
  else
    p_gd ((0 : Int) ≤ v3 ∧ v3 < (2001 : Int)) <|
    q_bv (G_Numbers_insideOf v1 c0) fun r5 =>
    if (c0 2040 0 (v3 : Int).toNat) = r5 then
      GB_Numbers_undoSince_51 k7 v1 v2 v3 c0
    else
      if (c0 2040 0 (v3 : Int).toNat) < 0 then
        GB_Numbers_undoSince_59 k7 v1 v2 v3 c0
      else
        if (p_div (c0 2040 0 (v3 : Int).toNat) 1000) ≠ v1 then
          GB_Numbers_undoSince_59 k7 v1 v2 v3 c0
        else
          GB_Numbers_undoSince_51 k7 v1 v2 v3 c0
def GO_Numbers_undoSince_7  : Nat → Int → Nat → Int → h_C → Option h_C
  | 0 => fun _ _ _ _ => none
  | n + 1 => GL_Numbers_undoSince_7 (GO_Numbers_undoSince_7 n)
def G_Numbers_undoSince (v1 : Int) (v2 : Nat) (c0 : h_C) : Option h_C :=
  p_gd (vW v2) <|
  p_bi ((p_w ((c0 303 v2 0) + 1))) fun x3 =>
  GO_Numbers_undoSince_7 3000 v1 v2 x3 c0
set_option maxRecDepth 100000 in
set_option maxHeartbeats 4000000 in
theorem uB_Numbers_undoSince_59 (m : h_M) (j7 : Nat → Int → Nat → Int → p_Hp → Option p_Hp) (k7 : Int → Nat → Int → h_C → Option h_C) (hk7 : ∀ (v1 : Int) (v2 : Nat) (v3 : Int) (c0 : h_C) (r : h_C), k7 v1 v2 v3 c0 = some r → j7 1110 v1 (h_A 300 v2) v3 (h_H c0 m) = some (h_H r m)) (v1 : Int) (v2 : Nat) (v3 : Int) (c0 : h_C) (r : h_C) (h : GB_Numbers_undoSince_59 k7 v1 v2 v3 c0 = some r) : B_Numbers_undoSince_59 j7 1110 v1 (h_A 300 v2) v3 (h_H c0 m) = some (h_H r m) := by
  unfold GB_Numbers_undoSince_59 at h
  unfold B_Numbers_undoSince_59
  refine bV h ?_
  intro x1 h
  exact hk7 v1 v2 x1 c0 _ h
set_option maxRecDepth 100000 in
set_option maxHeartbeats 4000000 in
theorem uB_Numbers_undoSince_51 (m : h_M) (j7 : Nat → Int → Nat → Int → p_Hp → Option p_Hp) (k7 : Int → Nat → Int → h_C → Option h_C) (hk7 : ∀ (v1 : Int) (v2 : Nat) (v3 : Int) (c0 : h_C) (r : h_C), k7 v1 v2 v3 c0 = some r → j7 1110 v1 (h_A 300 v2) v3 (h_H c0 m) = some (h_H r m)) (v1 : Int) (v2 : Nat) (v3 : Int) (c0 : h_C) (r : h_C) (h : GB_Numbers_undoSince_51 k7 v1 v2 v3 c0 = some r) : B_Numbers_undoSince_51 j7 1110 v1 (h_A 300 v2) v3 (h_H c0 m) = some (h_H r m) := by
  unfold GB_Numbers_undoSince_51 at h
  unfold B_Numbers_undoSince_51
  refine gdT (isD c0 m d700) ?_
  try rw [rs1110_0 c0 m]
  refine gdT (isD c0 m d2040) ?_
  obtain ⟨g1, h⟩ := p_gdE h
  refine gdT ⟨g1.1, by (try rw [lenD c0 m d2040]); exact g1.2⟩ ?_
  refine bS (wA c0 m d2040 (by decide) _ _) h ?_
  intro c2 h
  exact uB_Numbers_undoSince_59 m j7 k7 hk7 v1 v2 v3 c2 _ h
set_option maxRecDepth 100000 in
set_option maxHeartbeats 4000000 in
theorem uB_Numbers_undoSince_100 (m : h_M) (j67 : Nat → Int → Nat → Int → p_Hp → Option p_Hp) (k67 : Int → Nat → Int → h_C → Option h_C) (hk67 : ∀ (v1 : Int) (v2 : Nat) (v3 : Int) (c0 : h_C) (r : h_C), k67 v1 v2 v3 c0 = some r → j67 1110 v1 (h_A 300 v2) v3 (h_H c0 m) = some (h_H r m)) (v1 : Int) (v2 : Nat) (v3 : Int) (c0 : h_C) (r : h_C) (h : GB_Numbers_undoSince_100 k67 v1 v2 v3 c0 = some r) : B_Numbers_undoSince_100 j67 1110 v1 (h_A 300 v2) v3 (h_H c0 m) = some (h_H r m) := by
  unfold GB_Numbers_undoSince_100 at h
  unfold B_Numbers_undoSince_100
  refine bV h ?_
  intro x1 h
  exact hk67 v1 v2 x1 c0 _ h
set_option maxRecDepth 100000 in
set_option maxHeartbeats 4000000 in
theorem uL_Numbers_undoSince_67 (m : h_M) (j67 : Nat → Int → Nat → Int → p_Hp → Option p_Hp) (k67 : Int → Nat → Int → h_C → Option h_C) (hk67 : ∀ (v1 : Int) (v2 : Nat) (v3 : Int) (c0 : h_C) (r : h_C), k67 v1 v2 v3 c0 = some r → j67 1110 v1 (h_A 300 v2) v3 (h_H c0 m) = some (h_H r m)) (v1 : Int) (v2 : Nat) (v3 : Int) (c0 : h_C) (r : h_C) (h : GL_Numbers_undoSince_67 k67 v1 v2 v3 c0 = some r) : L_Numbers_undoSince_67 j67 1110 v1 (h_A 300 v2) v3 (h_H c0 m) = some (h_H r m) := by
  unfold GL_Numbers_undoSince_67 at h
  unfold L_Numbers_undoSince_67
  refine iteC Iff.rfl h (fun b1 h => ?_) (fun b1 h => ?_)
  · cases h
    rfl
  · obtain ⟨g2, h⟩ := p_gdE h
    refine gdT (isD c0 m (d300 g2)) ?_
    try rw [rD c0 m (rr300_5 g2)]
    refine gdT (isD c0 m (d2002 g2)) ?_
    obtain ⟨g3, h⟩ := p_gdE h
    refine gdT ⟨g3.1, by (try rw [lenD c0 m (d2002 g2)]); exact g3.2⟩ ?_
    obtain ⟨g4, h⟩ := p_gdE h
    try rw [rD c0 m (el2002 (k := (v3 : Int).toNat) g2 (by omega) (by omega))]
    have hv5 : vP (31 * v2 + (v3 : Int).toNat) := ⟨by omega, by have := g2; omega⟩
    refine gdT (isD c0 m (d100 hv5)) ?_
    try rw [zf101 c0 m hv5]
    refine bV h ?_
    intro x7 h
    refine iteC Iff.rfl h (fun b8 h => ?_) (fun b8 h => ?_)
    · exact uB_Numbers_undoSince_100 m j67 k67 hk67 v1 v2 v3 c0 _ h
    · refine gdT (isD c0 m d700) ?_
      try rw [rs1110_0 c0 m]
      obtain ⟨r11, q9, h⟩ := q_bvE h
      refine bdC (u_Numbers_insideOf m v1 c0 _ q9) ?_
      refine gdT (isD c0 m d2040) ?_
      obtain ⟨g13, h⟩ := p_gdE h
      refine gdT ⟨g13.1, by (try rw [lenD c0 m d2040]); exact g13.2⟩ ?_
      refine bS (wA c0 m d2040 (by decide) _ _) h ?_
      intro c14 h
      exact uB_Numbers_undoSince_100 m j67 k67 hk67 v1 v2 v3 c14 _ h
set_option maxRecDepth 100000 in
set_option maxHeartbeats 4000000 in
theorem uO_Numbers_undoSince_67 (m : h_M)  : ∀ (n : Nat) (v1 : Int) (v2 : Nat) (v3 : Int) (c0 : h_C) (r : h_C), GO_Numbers_undoSince_67 n v1 v2 v3 c0 = some r → O_Numbers_undoSince_67 n 1110 v1 (h_A 300 v2) v3 (h_H c0 m) = some (h_H r m) := by
  intro n
  induction n with
  | zero => intro v1 v2 v3 c0 r h; cases h
  | succ n ih => intro v1 v2 v3 c0 r h; exact uL_Numbers_undoSince_67 m (O_Numbers_undoSince_67 n) (GO_Numbers_undoSince_67 n) ih v1 v2 v3 c0 r h
set_option maxRecDepth 100000 in
set_option maxHeartbeats 4000000 in
theorem uL_Numbers_undoSince_7 (m : h_M) (j7 : Nat → Int → Nat → Int → p_Hp → Option p_Hp) (k7 : Int → Nat → Int → h_C → Option h_C) (hk7 : ∀ (v1 : Int) (v2 : Nat) (v3 : Int) (c0 : h_C) (r : h_C), k7 v1 v2 v3 c0 = some r → j7 1110 v1 (h_A 300 v2) v3 (h_H c0 m) = some (h_H r m)) (v1 : Int) (v2 : Nat) (v3 : Int) (c0 : h_C) (r : h_C) (h : GL_Numbers_undoSince_7 k7 v1 v2 v3 c0 = some r) : L_Numbers_undoSince_7 j7 1110 v1 (h_A 300 v2) v3 (h_H c0 m) = some (h_H r m) := by
  unfold GL_Numbers_undoSince_7 at h
  unfold L_Numbers_undoSince_7
  refine gdT (isD c0 m d700) ?_
  try rw [zf701 c0 m]
  refine iteC Iff.rfl h (fun b1 h => ?_) (fun b1 h => ?_)
  · exact uO_Numbers_undoSince_67 m 3000 v1 v2 1 c0 _ h
  · try rw [rs1110_0 c0 m]
    refine gdT (isD c0 m d2040) ?_
    obtain ⟨g2, h⟩ := p_gdE h
    refine gdT ⟨g2.1, by (try rw [lenD c0 m d2040]); exact g2.2⟩ ?_
    try rw [zA c0 m d2040 (by decide) (v3 : Int).toNat]
    obtain ⟨r5, q3, h⟩ := q_bvE h
    refine bdC (u_Numbers_insideOf m v1 c0 _ q3) ?_
    refine iteC Iff.rfl h (fun b7 h => ?_) (fun b7 h => ?_)
    · exact uB_Numbers_undoSince_51 m j7 k7 hk7 v1 v2 v3 c0 _ h
    · try rw [rs1110_0 c0 m]
      refine gdT (isD c0 m d2040) ?_
      refine gdT ⟨g2.1, by (try rw [lenD c0 m d2040]); exact g2.2⟩ ?_
      try rw [zA c0 m d2040 (by decide) (v3 : Int).toNat]
      refine iteC Iff.rfl h (fun b8 h => ?_) (fun b8 h => ?_)
      · exact uB_Numbers_undoSince_59 m j7 k7 hk7 v1 v2 v3 c0 _ h
      · try rw [rs1110_0 c0 m]
        refine gdT ⟨g2.1, by (try rw [lenD c0 m d2040]); exact g2.2⟩ ?_
        try rw [zA c0 m d2040 (by decide) (v3 : Int).toNat]
        refine iteC Iff.rfl h (fun b9 h => ?_) (fun b9 h => ?_)
        · exact uB_Numbers_undoSince_59 m j7 k7 hk7 v1 v2 v3 c0 _ h
        · exact uB_Numbers_undoSince_51 m j7 k7 hk7 v1 v2 v3 c0 _ h
set_option maxRecDepth 100000 in
set_option maxHeartbeats 4000000 in
theorem uO_Numbers_undoSince_7 (m : h_M)  : ∀ (n : Nat) (v1 : Int) (v2 : Nat) (v3 : Int) (c0 : h_C) (r : h_C), GO_Numbers_undoSince_7 n v1 v2 v3 c0 = some r → O_Numbers_undoSince_7 n 1110 v1 (h_A 300 v2) v3 (h_H c0 m) = some (h_H r m) := by
  intro n
  induction n with
  | zero => intro v1 v2 v3 c0 r h; cases h
  | succ n ih => intro v1 v2 v3 c0 r h; exact uL_Numbers_undoSince_7 m (O_Numbers_undoSince_7 n) (GO_Numbers_undoSince_7 n) ih v1 v2 v3 c0 r h
set_option maxRecDepth 100000 in
set_option maxHeartbeats 4000000 in
theorem u_Numbers_undoSince (m : h_M) (v1 : Int) (v2 : Nat) (c0 : h_C) (r : h_C) (h : G_Numbers_undoSince v1 v2 c0 = some r) : F_Numbers_undoSince 1110 v1 (h_A 300 v2) (h_H c0 m) = some (h_H r m) := by
  unfold G_Numbers_undoSince at h
  unfold F_Numbers_undoSince
  obtain ⟨g1, h⟩ := p_gdE h
  refine gdT (isD c0 m (d300 g1)) ?_
  try rw [zf303 c0 m g1]
  refine bV h ?_
  intro x3 h
  exact uO_Numbers_undoSince_7 m 3000 v1 v2 x3 c0 _ h
def GB_Gear_goBack_33  (v0 : Nat) (v2 : Int) (w0 : Int) (w1 : Nat) (c0 : h_C) : Option h_C :=
  p_gd (vG w1) <|
  p_gd (w0 = 0 ∨ w0 = 1) <|
  p_bi (wc c0 7 w1 0 w0) fun c3 =>
  p_gd (vG v0) <|
  p_gd ((0 : Int) ≤ (p_w (v2 + 2)) ∧ (p_w (v2 + 2)) < (330 : Int)) <|
  p_bi (wc c3 8 v0 0 (c3 2013 v0 ((p_w (v2 + 2)) : Int).toNat)) fun c7 =>
  p_gd ((0 : Int) ≤ (p_w (v2 + 3)) ∧ (p_w (v2 + 3)) < (330 : Int)) <|
  p_bi (wc c7 9 v0 0 (c7 2013 v0 ((p_w (v2 + 3)) : Int).toNat)) fun c10 =>
  p_gd ((0 : Int) ≤ (p_w (v2 + 4)) ∧ (p_w (v2 + 4)) < (330 : Int)) <|
  p_bi (wc c10 10 v0 0 (c10 2013 v0 ((p_w (v2 + 4)) : Int).toNat)) fun c13 =>
  p_gd ((0 : Int) ≤ (p_w (v2 + 5)) ∧ (p_w (v2 + 5)) < (330 : Int)) <|
  p_bi (wc c13 11 v0 0 (c13 2013 v0 ((p_w (v2 + 5)) : Int).toNat)) fun c16 =>
  p_gd ((0 : Int) ≤ (p_w (v2 + 6)) ∧ (p_w (v2 + 6)) < (330 : Int)) <|
  p_bi (wc c16 12 v0 0 (c16 2013 v0 ((p_w (v2 + 6)) : Int).toNat)) fun c19 =>
  p_gd ((0 : Int) ≤ (p_w (v2 + 7)) ∧ (p_w (v2 + 7)) < (330 : Int)) <|
  p_bi (wc c19 13 v0 0 (c19 2013 v0 ((p_w (v2 + 7)) : Int).toNat)) fun c22 =>
  p_gd ((0 : Int) ≤ (p_w (v2 + 8)) ∧ (p_w (v2 + 8)) < (330 : Int)) <|
  p_bi (wc c22 14 v0 0 (c22 2013 v0 ((p_w (v2 + 8)) : Int).toNat)) fun c25 =>
  p_gd ((0 : Int) ≤ (p_w (v2 + 9)) ∧ (p_w (v2 + 9)) < (330 : Int)) <|
  p_bi (wc c25 15 v0 0 (c25 2013 v0 ((p_w (v2 + 9)) : Int).toNat)) fun c28 =>
  p_gd ((0 : Int) ≤ (p_w (v2 + 10)) ∧ (p_w (v2 + 10)) < (330 : Int)) <|
  p_bi (wc c28 16 v0 0 (c28 2013 v0 ((p_w (v2 + 10)) : Int).toNat)) fun c31 =>
  p_bi (sr c31 2012 v0 (fl (c31 2012 v0) 8 0)) fun c33 =>
  some c33
def G_Gear_goBack (v0 : Nat) (v1 : Int) (c0 : h_C) : Option h_C :=
  p_bi ((p_w (11 * v1))) fun x2 =>
  p_gd (vG v0) <|
  p_gd ((0 : Int) ≤ x2 ∧ x2 < (330 : Int)) <|
  p_bi (wc c0 6 v0 0 (c0 2013 v0 (x2 : Int).toNat)) fun c5 =>
  p_gd ((0 : Int) ≤ (p_w (x2 + 1)) ∧ (p_w (x2 + 1)) < (330 : Int)) <|
  if (c5 2013 v0 ((p_w (x2 + 1)) : Int).toNat) ≠ 1 then
    GB_Gear_goBack_33 v0 x2 0 v0 c5
  else
    GB_Gear_goBack_33 v0 x2 1 v0 c5
set_option maxRecDepth 100000 in
set_option maxHeartbeats 4000000 in
theorem uB_Gear_goBack_33 (m : h_M)  (v0 : Nat) (v2 : Int) (w0 : Int) (w1 : Nat) (c0 : h_C) (r : h_C) (h : GB_Gear_goBack_33 v0 v2 w0 w1 c0 = some r) : B_Gear_goBack_33 (h_A 0 v0) v2 w0 (h_A 0 w1) (h_H c0 m) = some (h_H r m) := by
  unfold GB_Gear_goBack_33 at h
  unfold B_Gear_goBack_33
  obtain ⟨g1, h⟩ := p_gdE h
  refine gdT (isD c0 m (d0 g1)) ?_
  obtain ⟨g2, h⟩ := p_gdE h
  refine gdT g2 ?_
  refine bS (wf7 c0 m g1 _) h ?_
  intro c3 h
  obtain ⟨g5, h⟩ := p_gdE h
  refine gdT (isD c3 m (d0 g5)) ?_
  try rw [rD c3 m (rr0_18 g5)]
  refine gdT (isD c3 m (d2013 g5)) ?_
  obtain ⟨g6, h⟩ := p_gdE h
  refine gdT ⟨g6.1, by (try rw [lenD c3 m (d2013 g5)]); exact g6.2⟩ ?_
  try rw [zA c3 m (d2013 g5) (by decide) ((p_w (v2 + 2)) : Int).toNat]
  refine bS (wf8 c3 m g5 _) h ?_
  intro c7 h
  try rw [rD c7 m (rr0_18 g5)]
  refine gdT (isD c7 m (d2013 g5)) ?_
  obtain ⟨g9, h⟩ := p_gdE h
  refine gdT ⟨g9.1, by (try rw [lenD c7 m (d2013 g5)]); exact g9.2⟩ ?_
  try rw [zA c7 m (d2013 g5) (by decide) ((p_w (v2 + 3)) : Int).toNat]
  refine bS (wf9 c7 m g5 _) h ?_
  intro c10 h
  try rw [rD c10 m (rr0_18 g5)]
  refine gdT (isD c10 m (d2013 g5)) ?_
  obtain ⟨g12, h⟩ := p_gdE h
  refine gdT ⟨g12.1, by (try rw [lenD c10 m (d2013 g5)]); exact g12.2⟩ ?_
  try rw [zA c10 m (d2013 g5) (by decide) ((p_w (v2 + 4)) : Int).toNat]
  refine bS (wf10 c10 m g5 _) h ?_
  intro c13 h
  try rw [rD c13 m (rr0_18 g5)]
  refine gdT (isD c13 m (d2013 g5)) ?_
  obtain ⟨g15, h⟩ := p_gdE h
  refine gdT ⟨g15.1, by (try rw [lenD c13 m (d2013 g5)]); exact g15.2⟩ ?_
  try rw [zA c13 m (d2013 g5) (by decide) ((p_w (v2 + 5)) : Int).toNat]
  refine bS (wf11 c13 m g5 _) h ?_
  intro c16 h
  try rw [rD c16 m (rr0_18 g5)]
  refine gdT (isD c16 m (d2013 g5)) ?_
  obtain ⟨g18, h⟩ := p_gdE h
  refine gdT ⟨g18.1, by (try rw [lenD c16 m (d2013 g5)]); exact g18.2⟩ ?_
  try rw [zA c16 m (d2013 g5) (by decide) ((p_w (v2 + 6)) : Int).toNat]
  refine bS (wf12 c16 m g5 _) h ?_
  intro c19 h
  try rw [rD c19 m (rr0_18 g5)]
  refine gdT (isD c19 m (d2013 g5)) ?_
  obtain ⟨g21, h⟩ := p_gdE h
  refine gdT ⟨g21.1, by (try rw [lenD c19 m (d2013 g5)]); exact g21.2⟩ ?_
  try rw [zA c19 m (d2013 g5) (by decide) ((p_w (v2 + 7)) : Int).toNat]
  refine bS (wf13 c19 m g5 _) h ?_
  intro c22 h
  try rw [rD c22 m (rr0_18 g5)]
  refine gdT (isD c22 m (d2013 g5)) ?_
  obtain ⟨g24, h⟩ := p_gdE h
  refine gdT ⟨g24.1, by (try rw [lenD c22 m (d2013 g5)]); exact g24.2⟩ ?_
  try rw [zA c22 m (d2013 g5) (by decide) ((p_w (v2 + 8)) : Int).toNat]
  refine bS (wf14 c22 m g5 _) h ?_
  intro c25 h
  try rw [rD c25 m (rr0_18 g5)]
  refine gdT (isD c25 m (d2013 g5)) ?_
  obtain ⟨g27, h⟩ := p_gdE h
  refine gdT ⟨g27.1, by (try rw [lenD c25 m (d2013 g5)]); exact g27.2⟩ ?_
  try rw [zA c25 m (d2013 g5) (by decide) ((p_w (v2 + 9)) : Int).toNat]
  refine bS (wf15 c25 m g5 _) h ?_
  intro c28 h
  try rw [rD c28 m (rr0_18 g5)]
  refine gdT (isD c28 m (d2013 g5)) ?_
  obtain ⟨g30, h⟩ := p_gdE h
  refine gdT ⟨g30.1, by (try rw [lenD c28 m (d2013 g5)]); exact g30.2⟩ ?_
  try rw [zA c28 m (d2013 g5) (by decide) ((p_w (v2 + 10)) : Int).toNat]
  refine bS (wf16 c28 m g5 _) h ?_
  intro c31 h
  try rw [rD c31 m (rr0_17 g5)]
  refine bvS (fillI c31 m (d2012 g5) (by decide) _) h ?_
  intro c33 h
  cases h
  rfl
set_option maxRecDepth 100000 in
set_option maxHeartbeats 4000000 in
theorem u_Gear_goBack (m : h_M) (v0 : Nat) (v1 : Int) (c0 : h_C) (r : h_C) (h : G_Gear_goBack v0 v1 c0 = some r) : F_Gear_goBack (h_A 0 v0) v1 (h_H c0 m) = some (h_H r m) := by
  unfold G_Gear_goBack at h
  unfold F_Gear_goBack
  refine bV h ?_
  intro x2 h
  obtain ⟨g3, h⟩ := p_gdE h
  refine gdT (isD c0 m (d0 g3)) ?_
  try rw [rD c0 m (rr0_18 g3)]
  refine gdT (isD c0 m (d2013 g3)) ?_
  obtain ⟨g4, h⟩ := p_gdE h
  refine gdT ⟨g4.1, by (try rw [lenD c0 m (d2013 g3)]); exact g4.2⟩ ?_
  try rw [zA c0 m (d2013 g3) (by decide) (x2 : Int).toNat]
  refine bS (wf6 c0 m g3 _) h ?_
  intro c5 h
  try rw [rD c5 m (rr0_18 g3)]
  refine gdT (isD c5 m (d2013 g3)) ?_
  obtain ⟨g7, h⟩ := p_gdE h
  refine gdT ⟨g7.1, by (try rw [lenD c5 m (d2013 g3)]); exact g7.2⟩ ?_
  try rw [zA c5 m (d2013 g3) (by decide) ((p_w (x2 + 1)) : Int).toNat]
  refine iteC Iff.rfl h (fun b8 h => ?_) (fun b8 h => ?_)
  · exact uB_Gear_goBack_33 m v0 x2 0 v0 c5 _ h
  · exact uB_Gear_goBack_33 m v0 x2 1 v0 c5 _ h
def G_Log_goBack (v0 : Nat) (v1 : Int) (c0 : h_C) : Option h_C :=
  p_gd (vL v0) <|
  p_gd ((0 : Int) ≤ v1 ∧ v1 < (30 : Int)) <|
  p_bi (wc c0 403 v0 0 (c0 2004 v0 (v1 : Int).toNat)) fun c3 =>
  p_gd ((0 : Int) ≤ (p_w (v1 * ((if v0 % 2 = 0 then 200 else 150 : Nat) : Int))) ∧ (0 : Int) ≤ 0 ∧ (0 : Int) ≤ ((if v0 % 2 = 0 then 200 else 150 : Nat) : Int) ∧ (p_w (v1 * ((if v0 % 2 = 0 then 200 else 150 : Nat) : Int))) + ((if v0 % 2 = 0 then 200 else 150 : Nat) : Int) ≤ ((if v0 % 2 = 0 then 6000 else 4500 : Nat) : Int) ∧ 0 + ((if v0 % 2 = 0 then 200 else 150 : Nat) : Int) ≤ ((if v0 % 2 = 0 then 200 else 150 : Nat) : Int)) <|
  p_bi (sr c3 2005 v0 (cp (c3 2006 v0) ((p_w (v1 * ((if v0 % 2 = 0 then 200 else 150 : Nat) : Int))) : Int).toNat (c3 2005 v0) (0 : Int).toNat (((if v0 % 2 = 0 then 200 else 150 : Nat) : Int) : Int).toNat)) fun c6 =>
  some c6
set_option maxRecDepth 100000 in
set_option maxHeartbeats 4000000 in
theorem u_Log_goBack (m : h_M) (v0 : Nat) (v1 : Int) (c0 : h_C) (r : h_C) (h : G_Log_goBack v0 v1 c0 = some r) : F_Log_goBack (h_A 400 v0) v1 (h_H c0 m) = some (h_H r m) := by
  unfold G_Log_goBack at h
  unfold F_Log_goBack
  obtain ⟨g1, h⟩ := p_gdE h
  refine gdT (isD c0 m (d400 g1)) ?_
  try rw [rD c0 m (rr400_5 g1)]
  refine gdT (isD c0 m (d2004 g1)) ?_
  obtain ⟨g2, h⟩ := p_gdE h
  refine gdT ⟨g2.1, by (try rw [lenD c0 m (d2004 g1)]); exact g2.2⟩ ?_
  try rw [zA c0 m (d2004 g1) (by decide) (v1 : Int).toNat]
  refine bS (wf403 c0 m g1 _) h ?_
  intro c3 h
  try rw [rD c3 m (rr400_4 g1)]
  try rw [rD c3 m (rr400_2 g1)]
  refine gdT (isD c3 m (d2005 g1)) ?_
  try rw [lenD c3 m (d2005 g1)]
  try rw [rD c3 m (rr400_2 g1)]
  try rw [rD c3 m (rr400_2 g1)]
  try rw [lenD c3 m (d2005 g1)]
  refine gdT (isD c3 m (d2006 g1)) ?_
  obtain ⟨g5, h⟩ := p_gdE h
  refine gdT ⟨g5.1, g5.2.1, g5.2.2.1, by (try rw [lenD c3 m (d2006 g1)]); exact g5.2.2.2.1, by (try rw [lenD c3 m (d2005 g1)]); exact g5.2.2.2.2⟩ ?_
  refine bS (cA c3 m (d2006 g1) (by decide) (d2005 g1) (by decide) _ _ _) h ?_
  intro c6 h
  cases h
  rfl
def GB_Parcel_goBack_102  (v0 : Nat) (v2 : Int) (w0 : Int) (w1 : Nat) (c0 : h_C) : Option h_C :=
  p_gd (vP w1) <|
  p_gd (w0 = 0 ∨ w0 = 1) <|
  p_bi (wc c0 107 w1 0 w0) fun c3 =>
  p_gd (vP v0) <|
  p_gd ((0 : Int) ≤ (p_w (v2 + 7)) ∧ (p_w (v2 + 7)) < (1110 : Int)) <|
  p_bi (wc c3 109 v0 0 (c3 2016 v0 ((p_w (v2 + 7)) : Int).toNat)) fun c7 =>
  p_gd ((0 : Int) ≤ (p_w (v2 + 8)) ∧ (p_w (v2 + 8)) < (1110 : Int)) <|
  p_bi (wc c7 111 v0 0 (c7 2016 v0 ((p_w (v2 + 8)) : Int).toNat)) fun c10 =>
  p_gd ((0 : Int) ≤ (p_w (v2 + 9)) ∧ (0 : Int) ≤ 0 ∧ (0 : Int) ≤ 16 ∧ (p_w (v2 + 9)) + 16 ≤ (1110 : Int) ∧ 0 + 16 ≤ (16 : Int)) <|
  p_bi (sr c10 2014 v0 (cp (c10 2016 v0) ((p_w (v2 + 9)) : Int).toNat (c10 2014 v0) (0 : Int).toNat (16 : Int).toNat)) fun c13 =>
  p_gd ((0 : Int) ≤ (p_w (v2 + 25)) ∧ (0 : Int) ≤ 0 ∧ (0 : Int) ≤ 12 ∧ (p_w (v2 + 25)) + 12 ≤ (1110 : Int) ∧ 0 + 12 ≤ (12 : Int)) <|
  p_bi (sr c13 2015 v0 (cp (c13 2016 v0) ((p_w (v2 + 25)) : Int).toNat (c13 2015 v0) (0 : Int).toNat (12 : Int).toNat)) fun c16 =>
  some c16
def G_Parcel_goBack (v0 : Nat) (v1 : Int) (c0 : h_C) : Option h_C :=
  p_bi ((p_w (37 * v1))) fun x2 =>
  p_gd (vP v0) <|
  p_gd ((0 : Int) ≤ x2 ∧ x2 < (1110 : Int)) <|
  p_bi (wc c0 101 v0 0 (c0 2016 v0 (x2 : Int).toNat)) fun c5 =>
  if (c5 101 v0 0) ≠ 0 then
    p_gd ((0 : Int) ≤ (p_w (x2 + 1)) ∧ (p_w (x2 + 1)) < (1110 : Int)) <|
    p_bi (wc c5 102 v0 0 (c5 2016 v0 ((p_w (x2 + 1)) : Int).toNat)) fun c9 =>
    p_gd ((0 : Int) ≤ (p_w (x2 + 2)) ∧ (p_w (x2 + 2)) < (1110 : Int)) <|
    p_bi (wc c9 103 v0 0 (c9 2016 v0 ((p_w (x2 + 2)) : Int).toNat)) fun c12 =>
    p_gd ((0 : Int) ≤ (p_w (x2 + 3)) ∧ (p_w (x2 + 3)) < (1110 : Int)) <|
    p_bi (wc c12 104 v0 0 (c12 2016 v0 ((p_w (x2 + 3)) : Int).toNat)) fun c15 =>
    p_gd ((0 : Int) ≤ (p_w (x2 + 4)) ∧ (p_w (x2 + 4)) < (1110 : Int)) <|
    p_bi (wc c15 105 v0 0 (c15 2016 v0 ((p_w (x2 + 4)) : Int).toNat)) fun c18 =>
    p_gd ((0 : Int) ≤ (p_w (x2 + 5)) ∧ (p_w (x2 + 5)) < (1110 : Int)) <|
    p_bi (wc c18 106 v0 0 (c18 2016 v0 ((p_w (x2 + 5)) : Int).toNat)) fun c21 =>
    p_gd ((0 : Int) ≤ (p_w (x2 + 6)) ∧ (p_w (x2 + 6)) < (1110 : Int)) <|
    if (c21 2016 v0 ((p_w (x2 + 6)) : Int).toNat) ≠ 1 then
      GB_Parcel_goBack_102 v0 x2 0 v0 c21
    else
      GB_Parcel_goBack_102 v0 x2 1 v0 c21
  else
    some c5
set_option maxRecDepth 100000 in
set_option maxHeartbeats 4000000 in
theorem uB_Parcel_goBack_102 (m : h_M)  (v0 : Nat) (v2 : Int) (w0 : Int) (w1 : Nat) (c0 : h_C) (r : h_C) (h : GB_Parcel_goBack_102 v0 v2 w0 w1 c0 = some r) : B_Parcel_goBack_102 (h_A 100 v0) v2 w0 (h_A 100 w1) (h_H c0 m) = some (h_H r m) := by
  unfold GB_Parcel_goBack_102 at h
  unfold B_Parcel_goBack_102
  obtain ⟨g1, h⟩ := p_gdE h
  refine gdT (isD c0 m (d100 g1)) ?_
  obtain ⟨g2, h⟩ := p_gdE h
  refine gdT g2 ?_
  refine bS (wf107 c0 m g1 _) h ?_
  intro c3 h
  obtain ⟨g5, h⟩ := p_gdE h
  refine gdT (isD c3 m (d100 g5)) ?_
  try rw [rD c3 m (rr100_13 g5)]
  refine gdT (isD c3 m (d2016 g5)) ?_
  obtain ⟨g6, h⟩ := p_gdE h
  refine gdT ⟨g6.1, by (try rw [lenD c3 m (d2016 g5)]); exact g6.2⟩ ?_
  try rw [zA c3 m (d2016 g5) (by decide) ((p_w (v2 + 7)) : Int).toNat]
  refine bS (wf109 c3 m g5 _) h ?_
  intro c7 h
  try rw [rD c7 m (rr100_13 g5)]
  refine gdT (isD c7 m (d2016 g5)) ?_
  obtain ⟨g9, h⟩ := p_gdE h
  refine gdT ⟨g9.1, by (try rw [lenD c7 m (d2016 g5)]); exact g9.2⟩ ?_
  try rw [zA c7 m (d2016 g5) (by decide) ((p_w (v2 + 8)) : Int).toNat]
  refine bS (wf111 c7 m g5 _) h ?_
  intro c10 h
  try rw [rD c10 m (rr100_13 g5)]
  try rw [rD c10 m (rr100_10 g5)]
  refine gdT (isD c10 m (d2016 g5)) ?_
  refine gdT (isD c10 m (d2014 g5)) ?_
  obtain ⟨g12, h⟩ := p_gdE h
  refine gdT ⟨g12.1, g12.2.1, g12.2.2.1, by (try rw [lenD c10 m (d2016 g5)]); exact g12.2.2.2.1, by (try rw [lenD c10 m (d2014 g5)]); exact g12.2.2.2.2⟩ ?_
  refine bS (cA c10 m (d2016 g5) (by decide) (d2014 g5) (by decide) _ _ _) h ?_
  intro c13 h
  try rw [rD c13 m (rr100_13 g5)]
  try rw [rD c13 m (rr100_12 g5)]
  refine gdT (isD c13 m (d2016 g5)) ?_
  refine gdT (isD c13 m (d2015 g5)) ?_
  obtain ⟨g15, h⟩ := p_gdE h
  refine gdT ⟨g15.1, g15.2.1, g15.2.2.1, by (try rw [lenD c13 m (d2016 g5)]); exact g15.2.2.2.1, by (try rw [lenD c13 m (d2015 g5)]); exact g15.2.2.2.2⟩ ?_
  refine bS (cA c13 m (d2016 g5) (by decide) (d2015 g5) (by decide) _ _ _) h ?_
  intro c16 h
  cases h
  rfl
set_option maxRecDepth 100000 in
set_option maxHeartbeats 4000000 in
theorem u_Parcel_goBack (m : h_M) (v0 : Nat) (v1 : Int) (c0 : h_C) (r : h_C) (h : G_Parcel_goBack v0 v1 c0 = some r) : F_Parcel_goBack (h_A 100 v0) v1 (h_H c0 m) = some (h_H r m) := by
  unfold G_Parcel_goBack at h
  unfold F_Parcel_goBack
  refine bV h ?_
  intro x2 h
  obtain ⟨g3, h⟩ := p_gdE h
  refine gdT (isD c0 m (d100 g3)) ?_
  try rw [rD c0 m (rr100_13 g3)]
  refine gdT (isD c0 m (d2016 g3)) ?_
  obtain ⟨g4, h⟩ := p_gdE h
  refine gdT ⟨g4.1, by (try rw [lenD c0 m (d2016 g3)]); exact g4.2⟩ ?_
  try rw [zA c0 m (d2016 g3) (by decide) (x2 : Int).toNat]
  refine bS (wf101 c0 m g3 _) h ?_
  intro c5 h
  try rw [zf101 c5 m g3]
  refine iteC Iff.rfl h (fun b7 h => ?_) (fun b7 h => ?_)
  · try rw [rD c5 m (rr100_13 g3)]
    refine gdT (isD c5 m (d2016 g3)) ?_
    obtain ⟨g8, h⟩ := p_gdE h
    refine gdT ⟨g8.1, by (try rw [lenD c5 m (d2016 g3)]); exact g8.2⟩ ?_
    try rw [zA c5 m (d2016 g3) (by decide) ((p_w (x2 + 1)) : Int).toNat]
    refine bS (wf102 c5 m g3 _) h ?_
    intro c9 h
    try rw [rD c9 m (rr100_13 g3)]
    refine gdT (isD c9 m (d2016 g3)) ?_
    obtain ⟨g11, h⟩ := p_gdE h
    refine gdT ⟨g11.1, by (try rw [lenD c9 m (d2016 g3)]); exact g11.2⟩ ?_
    try rw [zA c9 m (d2016 g3) (by decide) ((p_w (x2 + 2)) : Int).toNat]
    refine bS (wf103 c9 m g3 _) h ?_
    intro c12 h
    try rw [rD c12 m (rr100_13 g3)]
    refine gdT (isD c12 m (d2016 g3)) ?_
    obtain ⟨g14, h⟩ := p_gdE h
    refine gdT ⟨g14.1, by (try rw [lenD c12 m (d2016 g3)]); exact g14.2⟩ ?_
    try rw [zA c12 m (d2016 g3) (by decide) ((p_w (x2 + 3)) : Int).toNat]
    refine bS (wf104 c12 m g3 _) h ?_
    intro c15 h
    try rw [rD c15 m (rr100_13 g3)]
    refine gdT (isD c15 m (d2016 g3)) ?_
    obtain ⟨g17, h⟩ := p_gdE h
    refine gdT ⟨g17.1, by (try rw [lenD c15 m (d2016 g3)]); exact g17.2⟩ ?_
    try rw [zA c15 m (d2016 g3) (by decide) ((p_w (x2 + 4)) : Int).toNat]
    refine bS (wf105 c15 m g3 _) h ?_
    intro c18 h
    try rw [rD c18 m (rr100_13 g3)]
    refine gdT (isD c18 m (d2016 g3)) ?_
    obtain ⟨g20, h⟩ := p_gdE h
    refine gdT ⟨g20.1, by (try rw [lenD c18 m (d2016 g3)]); exact g20.2⟩ ?_
    try rw [zA c18 m (d2016 g3) (by decide) ((p_w (x2 + 5)) : Int).toNat]
    refine bS (wf106 c18 m g3 _) h ?_
    intro c21 h
    try rw [rD c21 m (rr100_13 g3)]
    refine gdT (isD c21 m (d2016 g3)) ?_
    obtain ⟨g23, h⟩ := p_gdE h
    refine gdT ⟨g23.1, by (try rw [lenD c21 m (d2016 g3)]); exact g23.2⟩ ?_
    try rw [zA c21 m (d2016 g3) (by decide) ((p_w (x2 + 6)) : Int).toNat]
    refine iteC Iff.rfl h (fun b24 h => ?_) (fun b24 h => ?_)
    · exact uB_Parcel_goBack_102 m v0 x2 0 v0 c21 _ h
    · exact uB_Parcel_goBack_102 m v0 x2 1 v0 c21 _ h
  · cases h
    rfl
def GB_State_goBack_148 (k97 : Nat → Int → Int → h_C → Option h_C) (v0 : Nat) (v1 : Int) (v4 : Int) (c0 : h_C) : Option h_C :=
  p_bi (p_w (v4 + 1)) fun x1 =>
  k97 v0 v1 x1 c0
def GL_State_goBack_97 (k97 : Nat → Int → Int → h_C → Option h_C) (v0 : Nat) (v1 : Int) (v4 : Int) (c0 : h_C) : Option h_C :=
  if 30 < v4 then
    p_gd (vW v0) <|
    q_bv (G_Log_goBack (2 * v0) v1 c0) fun c6 =>
    q_bv (G_Log_goBack (2 * v0 + 1) v1 c6) fun c10 =>
    some c10
  else
    p_gd (vW v0) <|
    p_gd ((0 : Int) ≤ v4 ∧ v4 < (31 : Int)) <|
    p_gd (v4 ≠ 0) <|
    q_bv (G_Parcel_goBack (31 * v0 + (v4 : Int).toNat) v1 c0) fun c18 =>
    if (c18 101 (31 * v0 + (v4 : Int).toNat) 0) = 0 then
      GB_State_goBack_148 k97 v0 v1 v4 c18
    else
      p_gd ((0 : Int) ≤ (c18 105 (31 * v0 + (v4 : Int).toNat) 0) ∧ (c18 105 (31 * v0 + (v4 : Int).toNat) 0) < (40 : Int)) <|
      p_gd ((0 : Int) ≤ (c18 106 (31 * v0 + (v4 : Int).toNat) 0) ∧ (c18 106 (31 * v0 + (v4 : Int).toNat) 0) < (8 : Int)) <|
      p_bi (wc c18 2012 (40 * v0 + ((c18 105 (31 * v0 + (v4 : Int).toNat) 0) : Int).toNat + 1) ((c18 106 (31 * v0 + (v4 : Int).toNat) 0) : Int).toNat v4) fun c23 =>
      GB_State_goBack_148 k97 v0 v1 v4 c23
def GO_State_goBack_97  : Nat → Nat → Int → Int → h_C → Option h_C
  | 0 => fun _ _ _ _ => none
  | n + 1 => GL_State_goBack_97 (GO_State_goBack_97 n)
def GL_State_goBack_71 (k71 : Nat → Int → Int → Int → h_C → Option h_C) (v0 : Nat) (v1 : Int) (v2 : Int) (v4 : Int) (c0 : h_C) : Option h_C :=
  if v2 ≤ v4 then
    GO_State_goBack_97 3000 v0 v1 1 c0
  else
    p_gd (vW v0) <|
    p_gd ((0 : Int) ≤ v4 ∧ v4 < (40 : Int)) <|
    q_bv (G_Gear_goBack (40 * v0 + (v4 : Int).toNat + 1) v1 c0) fun c7 =>
    p_bi (p_w (v4 + 1)) fun x8 =>
    k71 v0 v1 v2 x8 c7
def GO_State_goBack_71  : Nat → Nat → Int → Int → Int → h_C → Option h_C
  | 0 => fun _ _ _ _ _ => none
  | n + 1 => GL_State_goBack_71 (GO_State_goBack_71 n)
def G_State_goBack (v0 : Nat) (v1 : Int) (v2 : Int) (c0 : h_C) : Option h_C :=
  p_bi ((p_w (16 * v1))) fun x2 =>
  p_gd (vW v0) <|
  p_gd ((0 : Int) ≤ x2 ∧ x2 < (480 : Int)) <|
  p_bi (wc c0 300 v0 0 (c0 2007 v0 (x2 : Int).toNat)) fun c5 =>
  p_gd ((0 : Int) ≤ (p_w (x2 + 1)) ∧ (p_w (x2 + 1)) < (480 : Int)) <|
  p_bi (wc c5 301 v0 0 (c5 2007 v0 ((p_w (x2 + 1)) : Int).toNat)) fun c8 =>
  p_gd ((0 : Int) ≤ (p_w (x2 + 2)) ∧ (p_w (x2 + 2)) < (480 : Int)) <|
  p_bi (wc c8 302 v0 0 (c8 2007 v0 ((p_w (x2 + 2)) : Int).toNat)) fun c11 =>
  p_gd ((0 : Int) ≤ (p_w (x2 + 3)) ∧ (p_w (x2 + 3)) < (480 : Int)) <|
  p_bi (wc c11 303 v0 0 (c11 2007 v0 ((p_w (x2 + 3)) : Int).toNat)) fun c14 =>
  p_gd ((0 : Int) ≤ (p_w (x2 + 4)) ∧ (0 : Int) ≤ 0 ∧ (0 : Int) ≤ 12 ∧ (p_w (x2 + 4)) + 12 ≤ (480 : Int) ∧ 0 + 12 ≤ (12 : Int)) <|
  p_bi (sr c14 2003 v0 (cp (c14 2007 v0) ((p_w (x2 + 4)) : Int).toNat (c14 2003 v0) (0 : Int).toNat (12 : Int).toNat)) fun c17 =>
  GO_State_goBack_71 3000 v0 v1 v2 0 c17
set_option maxRecDepth 100000 in
set_option maxHeartbeats 4000000 in
theorem uB_State_goBack_148 (m : h_M) (j97 : Nat → Int → Int → p_Hp → Option p_Hp) (k97 : Nat → Int → Int → h_C → Option h_C) (hk97 : ∀ (v0 : Nat) (v1 : Int) (v4 : Int) (c0 : h_C) (r : h_C), k97 v0 v1 v4 c0 = some r → j97 (h_A 300 v0) v1 v4 (h_H c0 m) = some (h_H r m)) (v0 : Nat) (v1 : Int) (v4 : Int) (c0 : h_C) (r : h_C) (h : GB_State_goBack_148 k97 v0 v1 v4 c0 = some r) : B_State_goBack_148 j97 (h_A 300 v0) v1 v4 (h_H c0 m) = some (h_H r m) := by
  unfold GB_State_goBack_148 at h
  unfold B_State_goBack_148
  refine bV h ?_
  intro x1 h
  exact hk97 v0 v1 x1 c0 _ h
set_option maxRecDepth 100000 in
set_option maxHeartbeats 4000000 in
theorem uL_State_goBack_97 (m : h_M) (j97 : Nat → Int → Int → p_Hp → Option p_Hp) (k97 : Nat → Int → Int → h_C → Option h_C) (hk97 : ∀ (v0 : Nat) (v1 : Int) (v4 : Int) (c0 : h_C) (r : h_C), k97 v0 v1 v4 c0 = some r → j97 (h_A 300 v0) v1 v4 (h_H c0 m) = some (h_H r m)) (v0 : Nat) (v1 : Int) (v4 : Int) (c0 : h_C) (r : h_C) (h : GL_State_goBack_97 k97 v0 v1 v4 c0 = some r) : L_State_goBack_97 j97 (h_A 300 v0) v1 v4 (h_H c0 m) = some (h_H r m) := by
  unfold GL_State_goBack_97 at h
  unfold L_State_goBack_97
  refine iteC Iff.rfl h (fun b1 h => ?_) (fun b1 h => ?_)
  · obtain ⟨g2, h⟩ := p_gdE h
    refine gdT (isD c0 m (d300 g2)) ?_
    try rw [rD c0 m (rr300_7 g2)]
    have hv3 : vL (2 * v0) := by have := g2; omega
    refine gdT (isD c0 m (d400 hv3)) ?_
    obtain ⟨c6, q4, h⟩ := q_bvE h
    refine bvC (u_Log_goBack m (2 * v0) v1 c0 _ q4) ?_
    try rw [rD c6 m (rr300_8 g2)]
    have hv7 : vL (2 * v0 + 1) := by have := g2; omega
    refine gdT (isD c6 m (d400 hv7)) ?_
    obtain ⟨c10, q8, h⟩ := q_bvE h
    refine bvC (u_Log_goBack m (2 * v0 + 1) v1 c6 _ q8) ?_
    cases h
    rfl
  · obtain ⟨g11, h⟩ := p_gdE h
    refine gdT (isD c0 m (d300 g11)) ?_
    try rw [rD c0 m (rr300_5 g11)]
    refine gdT (isD c0 m (d2002 g11)) ?_
    obtain ⟨g12, h⟩ := p_gdE h
    refine gdT ⟨g12.1, by (try rw [lenD c0 m (d2002 g11)]); exact g12.2⟩ ?_
    obtain ⟨g13, h⟩ := p_gdE h
    try rw [rD c0 m (el2002 (k := (v4 : Int).toNat) g11 (by omega) (by omega))]
    have hv14 : vP (31 * v0 + (v4 : Int).toNat) := ⟨by omega, by have := g11; omega⟩
    refine bX ?_
    refine gdT (isD c0 m (d100 hv14)) ?_
    obtain ⟨c18, q16, h⟩ := q_bvE h
    refine bvC (u_Parcel_goBack m (31 * v0 + (v4 : Int).toNat) v1 c0 _ q16) ?_
    try rw [zf101 c18 m hv14]
    refine iteC Iff.rfl h (fun b19 h => ?_) (fun b19 h => ?_)
    · exact uB_State_goBack_148 m j97 k97 hk97 v0 v1 v4 c18 _ h
    · try rw [rD c18 m (rr300_4 g11)]
      try rw [zf105 c18 m hv14]
      refine gdT (isD c18 m (d2001 g11)) ?_
      obtain ⟨g20, h⟩ := p_gdE h
      refine gdT ⟨g20.1, by (try rw [lenD c18 m (d2001 g11)]); exact g20.2⟩ ?_
      try rw [rD c18 m (el2001 (k := ((c18 105 (31 * v0 + (v4 : Int).toNat) 0) : Int).toNat) g11 (Nat.zero_le _) (by omega))]
      have hv21 : vG (40 * v0 + ((c18 105 (31 * v0 + (v4 : Int).toNat) 0) : Int).toNat + 1) := ⟨by omega, by have := g11; omega⟩
      refine gdT (isD c18 m (d0 hv21)) ?_
      try rw [rD c18 m (rr0_17 hv21)]
      try rw [zf106 c18 m hv14]
      refine gdT (isD c18 m (d2012 hv21)) ?_
      obtain ⟨g22, h⟩ := p_gdE h
      refine gdT ⟨g22.1, by (try rw [lenD c18 m (d2012 hv21)]); exact g22.2⟩ ?_
      refine bS (wA c18 m (d2012 hv21) (by decide) _ _) h ?_
      intro c23 h
      exact uB_State_goBack_148 m j97 k97 hk97 v0 v1 v4 c23 _ h
set_option maxRecDepth 100000 in
set_option maxHeartbeats 4000000 in
theorem uO_State_goBack_97 (m : h_M)  : ∀ (n : Nat) (v0 : Nat) (v1 : Int) (v4 : Int) (c0 : h_C) (r : h_C), GO_State_goBack_97 n v0 v1 v4 c0 = some r → O_State_goBack_97 n (h_A 300 v0) v1 v4 (h_H c0 m) = some (h_H r m) := by
  intro n
  induction n with
  | zero => intro v0 v1 v4 c0 r h; cases h
  | succ n ih => intro v0 v1 v4 c0 r h; exact uL_State_goBack_97 m (O_State_goBack_97 n) (GO_State_goBack_97 n) ih v0 v1 v4 c0 r h
set_option maxRecDepth 100000 in
set_option maxHeartbeats 4000000 in
theorem uL_State_goBack_71 (m : h_M) (j71 : Nat → Int → Int → Int → p_Hp → Option p_Hp) (k71 : Nat → Int → Int → Int → h_C → Option h_C) (hk71 : ∀ (v0 : Nat) (v1 : Int) (v2 : Int) (v4 : Int) (c0 : h_C) (r : h_C), k71 v0 v1 v2 v4 c0 = some r → j71 (h_A 300 v0) v1 v2 v4 (h_H c0 m) = some (h_H r m)) (v0 : Nat) (v1 : Int) (v2 : Int) (v4 : Int) (c0 : h_C) (r : h_C) (h : GL_State_goBack_71 k71 v0 v1 v2 v4 c0 = some r) : L_State_goBack_71 j71 (h_A 300 v0) v1 v2 v4 (h_H c0 m) = some (h_H r m) := by
  unfold GL_State_goBack_71 at h
  unfold L_State_goBack_71
  refine iteC Iff.rfl h (fun b1 h => ?_) (fun b1 h => ?_)
  · exact uO_State_goBack_97 m 3000 v0 v1 1 c0 _ h
  · obtain ⟨g2, h⟩ := p_gdE h
    refine gdT (isD c0 m (d300 g2)) ?_
    try rw [rD c0 m (rr300_4 g2)]
    refine gdT (isD c0 m (d2001 g2)) ?_
    obtain ⟨g3, h⟩ := p_gdE h
    refine gdT ⟨g3.1, by (try rw [lenD c0 m (d2001 g2)]); exact g3.2⟩ ?_
    try rw [rD c0 m (el2001 (k := (v4 : Int).toNat) g2 (Nat.zero_le _) (by omega))]
    have hv4 : vG (40 * v0 + (v4 : Int).toNat + 1) := ⟨by omega, by have := g2; omega⟩
    refine gdT (isD c0 m (d0 hv4)) ?_
    obtain ⟨c7, q5, h⟩ := q_bvE h
    refine bvC (u_Gear_goBack m (40 * v0 + (v4 : Int).toNat + 1) v1 c0 _ q5) ?_
    refine bV h ?_
    intro x8 h
    exact hk71 v0 v1 v2 x8 c7 _ h
set_option maxRecDepth 100000 in
set_option maxHeartbeats 4000000 in
theorem uO_State_goBack_71 (m : h_M)  : ∀ (n : Nat) (v0 : Nat) (v1 : Int) (v2 : Int) (v4 : Int) (c0 : h_C) (r : h_C), GO_State_goBack_71 n v0 v1 v2 v4 c0 = some r → O_State_goBack_71 n (h_A 300 v0) v1 v2 v4 (h_H c0 m) = some (h_H r m) := by
  intro n
  induction n with
  | zero => intro v0 v1 v2 v4 c0 r h; cases h
  | succ n ih => intro v0 v1 v2 v4 c0 r h; exact uL_State_goBack_71 m (O_State_goBack_71 n) (GO_State_goBack_71 n) ih v0 v1 v2 v4 c0 r h
set_option maxRecDepth 100000 in
set_option maxHeartbeats 4000000 in
theorem u_State_goBack (m : h_M) (v0 : Nat) (v1 : Int) (v2 : Int) (c0 : h_C) (r : h_C) (h : G_State_goBack v0 v1 v2 c0 = some r) : F_State_goBack (h_A 300 v0) v1 v2 (h_H c0 m) = some (h_H r m) := by
  unfold G_State_goBack at h
  unfold F_State_goBack
  refine bV h ?_
  intro x2 h
  obtain ⟨g3, h⟩ := p_gdE h
  refine gdT (isD c0 m (d300 g3)) ?_
  try rw [rD c0 m (rr300_9 g3)]
  refine gdT (isD c0 m (d2007 g3)) ?_
  obtain ⟨g4, h⟩ := p_gdE h
  refine gdT ⟨g4.1, by (try rw [lenD c0 m (d2007 g3)]); exact g4.2⟩ ?_
  try rw [zA c0 m (d2007 g3) (by decide) (x2 : Int).toNat]
  refine bS (wf300 c0 m g3 _) h ?_
  intro c5 h
  try rw [rD c5 m (rr300_9 g3)]
  refine gdT (isD c5 m (d2007 g3)) ?_
  obtain ⟨g7, h⟩ := p_gdE h
  refine gdT ⟨g7.1, by (try rw [lenD c5 m (d2007 g3)]); exact g7.2⟩ ?_
  try rw [zA c5 m (d2007 g3) (by decide) ((p_w (x2 + 1)) : Int).toNat]
  refine bS (wf301 c5 m g3 _) h ?_
  intro c8 h
  try rw [rD c8 m (rr300_9 g3)]
  refine gdT (isD c8 m (d2007 g3)) ?_
  obtain ⟨g10, h⟩ := p_gdE h
  refine gdT ⟨g10.1, by (try rw [lenD c8 m (d2007 g3)]); exact g10.2⟩ ?_
  try rw [zA c8 m (d2007 g3) (by decide) ((p_w (x2 + 2)) : Int).toNat]
  refine bS (wf302 c8 m g3 _) h ?_
  intro c11 h
  try rw [rD c11 m (rr300_9 g3)]
  refine gdT (isD c11 m (d2007 g3)) ?_
  obtain ⟨g13, h⟩ := p_gdE h
  refine gdT ⟨g13.1, by (try rw [lenD c11 m (d2007 g3)]); exact g13.2⟩ ?_
  try rw [zA c11 m (d2007 g3) (by decide) ((p_w (x2 + 3)) : Int).toNat]
  refine bS (wf303 c11 m g3 _) h ?_
  intro c14 h
  try rw [rD c14 m (rr300_9 g3)]
  try rw [rD c14 m (rr300_6 g3)]
  refine gdT (isD c14 m (d2007 g3)) ?_
  refine gdT (isD c14 m (d2003 g3)) ?_
  obtain ⟨g16, h⟩ := p_gdE h
  refine gdT ⟨g16.1, g16.2.1, g16.2.2.1, by (try rw [lenD c14 m (d2007 g3)]); exact g16.2.2.2.1, by (try rw [lenD c14 m (d2003 g3)]); exact g16.2.2.2.2⟩ ?_
  refine bS (cA c14 m (d2007 g3) (by decide) (d2003 g3) (by decide) _ _ _) h ?_
  intro c17 h
  exact uO_State_goBack_71 m 3000 v0 v1 v2 0 c17 _ h
def G_Ma_floorMod (v0 : Int) (v1 : Int) (c0 : h_C) : Option Int :=
  p_gd (v1 ≠ 0) <|
  p_bi ((p_rem v0 v1)) fun x3 =>
  if 0 ≤ (p_xor v0 v1) then
    some x3
  else
    if x3 = 0 then
      some x3
    else
      some (p_w (x3 + v1))
set_option maxRecDepth 100000 in
set_option maxHeartbeats 4000000 in
theorem u_Ma_floorMod (m : h_M) (v0 : Int) (v1 : Int) (c0 : h_C) (r : Int) (h : G_Ma_floorMod v0 v1 c0 = some r) : F_Ma_floorMod v0 v1 (h_H c0 m) = some (r, (h_H c0 m)) := by
  unfold G_Ma_floorMod at h
  unfold F_Ma_floorMod
  obtain ⟨g1, h⟩ := p_gdE h
  refine gdT g1 ?_
  refine bV h ?_
  intro x3 h
  refine iteC Iff.rfl h (fun b4 h => ?_) (fun b4 h => ?_)
  · cases h
    rfl
  · refine iteC Iff.rfl h (fun b5 h => ?_) (fun b5 h => ?_)
    · cases h
      rfl
    · cases h
      rfl
def G_Works_goBack (v0 : Nat) (v1 : Int) (c0 : h_C) : Option h_C :=
  p_gd (vW v0) <|
  q_bv (G_Ma_floorMod (p_w ((c0 212 v0 0) - v1)) 30 c0) fun r4 =>
  p_bi (wc c0 212 v0 0 r4) fun c6 =>
  p_bi (wc c6 213 v0 0 (p_w ((c6 213 v0 0) - v1))) fun c8 =>
  p_bi (wc c8 211 v0 0 0) fun c10 =>
  q_bv (G_State_goBack v0 (c10 212 v0 0) (c10 202 v0 0) c10) fun c14 =>
  some c14
set_option maxRecDepth 100000 in
set_option maxHeartbeats 4000000 in
theorem u_Works_goBack (m : h_M) (v0 : Nat) (v1 : Int) (c0 : h_C) (r : h_C) (h : G_Works_goBack v0 v1 c0 = some r) : F_Works_goBack (h_A 200 v0) v1 (h_H c0 m) = some (h_H r m) := by
  unfold G_Works_goBack at h
  unfold F_Works_goBack
  obtain ⟨g1, h⟩ := p_gdE h
  refine gdT (isD c0 m (d200 g1)) ?_
  try rw [zf212 c0 m g1]
  obtain ⟨r4, q2, h⟩ := q_bvE h
  refine bdC (u_Ma_floorMod m (p_w ((c0 212 v0 0) - v1)) 30 c0 _ q2) ?_
  refine bS (wf212 c0 m g1 _) h ?_
  intro c6 h
  try rw [zf213 c6 m g1]
  refine bS (wf213 c6 m g1 _) h ?_
  intro c8 h
  refine bS (wf211 c8 m g1 _) h ?_
  intro c10 h
  try rw [rD c10 m (rr200_1 g1)]
  try rw [zf212 c10 m g1]
  try rw [zf202 c10 m g1]
  refine gdT (isD c10 m (d300 g1)) ?_
  obtain ⟨c14, q12, h⟩ := q_bvE h
  refine bvC (u_State_goBack m v0 (c10 212 v0 0) (c10 202 v0 0) c10 _ q12) ?_
  cases h
  rfl
def GB_SW_back_11   (c0 : h_C) : Option (Int × h_C) :=
  q_bd (G_SW_refuse (-2) c0) fun r3 c4 =>
  some (r3, c4)
def G_SW_back (v1 : Int) (c0 : h_C) : Option (Int × h_C) :=
  if v1 < 1 then
    GB_SW_back_11 c0
  else
    if v1 ≤ 30 then
      p_gd (0 ≤ c0 5000 0 0 ∧ c0 5000 0 0 < 3) <|
      if v1 ≤ (c0 213 (c0 5000 0 0).toNat 0) then
        q_bv (G_Works_goBack (c0 5000 0 0).toNat v1 c0) fun c8 =>
        p_gd (0 ≤ c8 5000 0 0 ∧ c8 5000 0 0 < 3) <|
        q_bv (G_Numbers_undoSince (c8 200 (c8 5000 0 0).toNat 0) (c8 5000 0 0).toNat c8) fun c13 =>
        p_gd (0 ≤ c13 5000 0 0 ∧ c13 5000 0 0 < 3) <|
        q_bd (G_SW_done (c13 300 (c13 5000 0 0).toNat 0) c13) fun r18 c19 =>
        some (r18, c19)
      else
        q_bd (G_SW_refuse (-3) c0) fun r23 c24 =>
        some (r23, c24)
    else
      GB_SW_back_11 c0
set_option maxRecDepth 100000 in
set_option maxHeartbeats 4000000 in
theorem uB_SW_back_11 (m : h_M)   (c0 : h_C) (r : (Int × h_C)) (h : GB_SW_back_11  c0 = some r) : B_SW_back_11 1 (h_H c0 m) = some (r.1, (h_H r.2 m)) := by
  unfold GB_SW_back_11 at h
  unfold B_SW_back_11
  refine gdT (isD c0 m d600) ?_
  obtain ⟨r3, c4, q1, h⟩ := q_bdE h
  refine bdC (u_SW_refuse m (-2) c0 _ q1) ?_
  cases h
  rfl
set_option maxRecDepth 100000 in
set_option maxHeartbeats 4000000 in
theorem u_SW_back (m : h_M) (v1 : Int) (c0 : h_C) (r : (Int × h_C)) (h : G_SW_back v1 c0 = some r) : F_SW_back 1 v1 (h_H c0 m) = some (r.1, (h_H r.2 m)) := by
  unfold G_SW_back at h
  unfold F_SW_back
  refine iteC Iff.rfl h (fun b1 h => ?_) (fun b1 h => ?_)
  · exact uB_SW_back_11 m c0 _ h
  · refine iteC Iff.rfl h (fun b2 h => ?_) (fun b2 h => ?_)
    · refine gdT (isD c0 m d600) ?_
      obtain ⟨g3, h⟩ := p_gdE h
      try rw [rm5000 c0 m g3]
      have hv4 : vW (c0 5000 0 0).toNat := by omega
      refine gdT (isD c0 m (d200 hv4)) ?_
      try rw [zf213 c0 m hv4]
      refine iteC Iff.rfl h (fun b5 h => ?_) (fun b5 h => ?_)
      · try rw [rm5000 c0 m g3]
        obtain ⟨c8, q6, h⟩ := q_bvE h
        refine bvC (u_Works_goBack m (c0 5000 0 0).toNat v1 c0 _ q6) ?_
        try rw [rs1_2 c8 m]
        obtain ⟨g9, h⟩ := p_gdE h
        try rw [rm5000 c8 m g9]
        have hv10 : vW (c8 5000 0 0).toNat := by omega
        refine gdT (isD c8 m (d200 hv10)) ?_
        try rw [zf200 c8 m hv10]
        try rw [rm5000 c8 m g9]
        try rw [rD c8 m (rr200_1 hv10)]
        refine gdT (isD c8 m d700) ?_
        obtain ⟨c13, q11, h⟩ := q_bvE h
        refine bvC (u_Numbers_undoSince m (c8 200 (c8 5000 0 0).toNat 0) (c8 5000 0 0).toNat c8 _ q11) ?_
        obtain ⟨g14, h⟩ := p_gdE h
        try rw [rm5000 c13 m g14]
        have hv15 : vW (c13 5000 0 0).toNat := by omega
        refine gdT (isD c13 m (d200 hv15)) ?_
        try rw [rD c13 m (rr200_1 hv15)]
        refine gdT (isD c13 m (d300 hv15)) ?_
        try rw [zf300 c13 m hv15]
        obtain ⟨r18, c19, q16, h⟩ := q_bdE h
        refine bdC (u_SW_done m (c13 300 (c13 5000 0 0).toNat 0) c13 _ q16) ?_
        cases h
        rfl
      · obtain ⟨r23, c24, q21, h⟩ := q_bdE h
        refine bdC (u_SW_refuse m (-3) c0 _ q21) ?_
        cases h
        rfl
    · exact uB_SW_back_11 m c0 _ h
def G_SW_status  (c0 : h_C) : Option Int :=
  some (c0 608 0 0)
set_option maxRecDepth 100000 in
set_option maxHeartbeats 4000000 in
theorem u_SW_status (m : h_M)  (c0 : h_C) (r : Int) (h : G_SW_status  c0 = some r) : F_SW_status 1 (h_H c0 m) = some (r, (h_H c0 m)) := by
  unfold G_SW_status at h
  unfold F_SW_status
  refine gdT (isD c0 m d600) ?_
  try rw [zf608 c0 m]
  cases h
  rfl
def G_Gear_tell (v0 : Nat) (v1 : Int) (c0 : h_C) : Option Int :=
  if v1 = 0 then
    p_gd (vG v0) <|
    some (c0 0 v0 0)
  else if v1 = 1 then
    p_gd (vG v0) <|
    some (c0 1 v0 0)
  else if v1 = 2 then
    p_gd (vG v0) <|
    if (c0 0 v0 0) ≠ 9 then
      some (c0 6 v0 0)
    else
      if (c0 7 v0 0) = 0 then
        some (c0 6 v0 0)
      else
        some 1
  else if v1 = 3 then
    p_gd (vG v0) <|
    some (c0 8 v0 0)
  else if v1 = 4 then
    p_gd (vG v0) <|
    some (c0 9 v0 0)
  else if v1 = 5 then
    p_gd (vG v0) <|
    some (c0 10 v0 0)
  else if v1 = 6 then
    p_gd (vG v0) <|
    some (c0 11 v0 0)
  else if v1 = 7 then
    p_gd (vG v0) <|
    some (c0 12 v0 0)
  else if v1 = 8 then
    p_gd (vG v0) <|
    some (c0 13 v0 0)
  else if v1 = 9 then
    p_gd (vG v0) <|
    q_bv (G_Gear_parcels v0 c0) fun r25 =>
    some r25
  else if v1 = 10 then
    p_gd (vG v0) <|
    some (c0 14 v0 0)
  else if v1 = 11 then
    p_gd (vG v0) <|
    some (c0 2 v0 0)
  else if v1 = 12 then
    p_gd (vG v0) <|
    p_gd ((0 : Int) ≤ (c0 0 v0 0) ∧ (c0 0 v0 0) < (sw_tl 2 : Int)) <|
    some (sw_tab 2 ((c0 0 v0 0) : Int).toNat)
  else if v1 = 13 then
    p_gd (vG v0) <|
    some (p_w ((c0 15 v0 0) + 1))
  else if v1 = 14 then
    p_gd (vG v0) <|
    some (c0 16 v0 0)
  else if v1 = 15 then
    p_gd (vG v0) <|
    if (c0 3 v0 0) ≠ (-1) then
      some (c0 3 v0 0)
    else
      some (-9)
  else 
  some (-2)
set_option maxRecDepth 100000 in
set_option maxHeartbeats 4000000 in
theorem u_Gear_tell (m : h_M) (v0 : Nat) (v1 : Int) (c0 : h_C) (r : Int) (h : G_Gear_tell v0 v1 c0 = some r) : F_Gear_tell (h_A 0 v0) v1 (h_H c0 m) = some (r, (h_H c0 m)) := by
  unfold G_Gear_tell at h
  unfold F_Gear_tell
  refine iteC Iff.rfl h (fun b1 h => ?_) (fun b1 h => ?_)
  · obtain ⟨g2, h⟩ := p_gdE h
    refine gdT (isD c0 m (d0 g2)) ?_
    try rw [zf0 c0 m g2]
    cases h
    rfl
  refine iteC Iff.rfl h (fun b3 h => ?_) (fun b3 h => ?_)
  · obtain ⟨g4, h⟩ := p_gdE h
    refine gdT (isD c0 m (d0 g4)) ?_
    try rw [zf1 c0 m g4]
    cases h
    rfl
  refine iteC Iff.rfl h (fun b5 h => ?_) (fun b5 h => ?_)
  · obtain ⟨g6, h⟩ := p_gdE h
    refine gdT (isD c0 m (d0 g6)) ?_
    try rw [zf0 c0 m g6]
    refine iteC Iff.rfl h (fun b7 h => ?_) (fun b7 h => ?_)
    · try rw [zf6 c0 m g6]
      cases h
      rfl
    · try rw [zf7 c0 m g6]
      refine iteC Iff.rfl h (fun b8 h => ?_) (fun b8 h => ?_)
      · try rw [zf6 c0 m g6]
        cases h
        rfl
      · cases h
        rfl
  refine iteC Iff.rfl h (fun b9 h => ?_) (fun b9 h => ?_)
  · obtain ⟨g10, h⟩ := p_gdE h
    refine gdT (isD c0 m (d0 g10)) ?_
    try rw [zf8 c0 m g10]
    cases h
    rfl
  refine iteC Iff.rfl h (fun b11 h => ?_) (fun b11 h => ?_)
  · obtain ⟨g12, h⟩ := p_gdE h
    refine gdT (isD c0 m (d0 g12)) ?_
    try rw [zf9 c0 m g12]
    cases h
    rfl
  refine iteC Iff.rfl h (fun b13 h => ?_) (fun b13 h => ?_)
  · obtain ⟨g14, h⟩ := p_gdE h
    refine gdT (isD c0 m (d0 g14)) ?_
    try rw [zf10 c0 m g14]
    cases h
    rfl
  refine iteC Iff.rfl h (fun b15 h => ?_) (fun b15 h => ?_)
  · obtain ⟨g16, h⟩ := p_gdE h
    refine gdT (isD c0 m (d0 g16)) ?_
    try rw [zf11 c0 m g16]
    cases h
    rfl
  refine iteC Iff.rfl h (fun b17 h => ?_) (fun b17 h => ?_)
  · obtain ⟨g18, h⟩ := p_gdE h
    refine gdT (isD c0 m (d0 g18)) ?_
    try rw [zf12 c0 m g18]
    cases h
    rfl
  refine iteC Iff.rfl h (fun b19 h => ?_) (fun b19 h => ?_)
  · obtain ⟨g20, h⟩ := p_gdE h
    refine gdT (isD c0 m (d0 g20)) ?_
    try rw [zf13 c0 m g20]
    cases h
    rfl
  refine iteC Iff.rfl h (fun b21 h => ?_) (fun b21 h => ?_)
  · obtain ⟨g22, h⟩ := p_gdE h
    refine gdT (isD c0 m (d0 g22)) ?_
    obtain ⟨r25, q23, h⟩ := q_bvE h
    refine bdC (u_Gear_parcels m v0 c0 _ q23) ?_
    cases h
    rfl
  refine iteC Iff.rfl h (fun b27 h => ?_) (fun b27 h => ?_)
  · obtain ⟨g28, h⟩ := p_gdE h
    refine gdT (isD c0 m (d0 g28)) ?_
    try rw [zf14 c0 m g28]
    cases h
    rfl
  refine iteC Iff.rfl h (fun b29 h => ?_) (fun b29 h => ?_)
  · obtain ⟨g30, h⟩ := p_gdE h
    refine gdT (isD c0 m (d0 g30)) ?_
    try rw [zf2 c0 m g30]
    cases h
    rfl
  refine iteC Iff.rfl h (fun b31 h => ?_) (fun b31 h => ?_)
  · obtain ⟨g32, h⟩ := p_gdE h
    refine gdT (isD c0 m (d0 g32)) ?_
    try rw [zf0 c0 m g32]
    obtain ⟨g33, h⟩ := p_gdE h
    refine gdT g33 ?_
    cases h
    rfl
  refine iteC Iff.rfl h (fun b34 h => ?_) (fun b34 h => ?_)
  · obtain ⟨g35, h⟩ := p_gdE h
    refine gdT (isD c0 m (d0 g35)) ?_
    try rw [zf15 c0 m g35]
    cases h
    rfl
  refine iteC Iff.rfl h (fun b36 h => ?_) (fun b36 h => ?_)
  · obtain ⟨g37, h⟩ := p_gdE h
    refine gdT (isD c0 m (d0 g37)) ?_
    try rw [zf16 c0 m g37]
    cases h
    rfl
  refine iteC Iff.rfl h (fun b38 h => ?_) (fun b38 h => ?_)
  · obtain ⟨g39, h⟩ := p_gdE h
    refine gdT (isD c0 m (d0 g39)) ?_
    try rw [zf3 c0 m g39]
    refine iteC Iff.rfl h (fun b40 h => ?_) (fun b40 h => ?_)
    · try rw [zf3 c0 m g39]
      cases h
      rfl
    · cases h
      rfl
  cases h
  rfl
def G_SW_told (v1 : Int) (v2 : Int) (c0 : h_C) : Option Int :=
  p_gd (0 ≤ c0 5000 0 0 ∧ c0 5000 0 0 < 3) <|
  q_bv (G_Works_gearOf (c0 5000 0 0).toNat v1 c0) fun r5 =>
  if r5 ≠ 0 then
    p_gd (vG r5) <|
    q_bv (G_Gear_tell r5 v2 c0) fun r11 =>
    some r11
  else
    some (-1)
set_option maxRecDepth 100000 in
set_option maxHeartbeats 4000000 in
theorem u_SW_told (m : h_M) (v1 : Int) (v2 : Int) (c0 : h_C) (r : Int) (h : G_SW_told v1 v2 c0 = some r) : F_SW_told 1 v1 v2 (h_H c0 m) = some (r, (h_H c0 m)) := by
  unfold G_SW_told at h
  unfold F_SW_told
  refine gdT (isD c0 m d600) ?_
  obtain ⟨g1, h⟩ := p_gdE h
  try rw [rm5000 c0 m g1]
  have hv2 : vW (c0 5000 0 0).toNat := by omega
  refine gdT (isD c0 m (d200 hv2)) ?_
  obtain ⟨r5, q3, h⟩ := q_bvE h
  refine bdC (u_Works_gearOf m (c0 5000 0 0).toNat v1 c0 _ q3) ?_
  refine iteC (ne_iff (h_A0z _)) h (fun b7 h => ?_) (fun b7 h => ?_)
  · obtain ⟨g8, h⟩ := p_gdE h
    refine gdT (isD c0 m (d0 g8)) ?_
    obtain ⟨r11, q9, h⟩ := q_bvE h
    refine bdC (u_Gear_tell m r5 v2 c0 _ q9) ?_
    cases h
    rfl
  · cases h
    rfl
def G_SW_slot (v1 : Int) (v2 : Int) (c0 : h_C) : Option Int :=
  p_gd (0 ≤ c0 5000 0 0 ∧ c0 5000 0 0 < 3) <|
  q_bv (G_Works_gearOf (c0 5000 0 0).toNat v1 c0) fun r5 =>
  if r5 ≠ 0 then
    if v2 < 0 then
      some (-2)
    else
      p_gd (vG r5) <|
      if v2 < (c0 1 r5 0) then
        q_bv (G_State_inSlot (c0 5000 0 0).toNat r5 v2 c0) fun r13 =>
        if r13 ≠ 0 then
          p_gd (vP r13) <|
          some (c0 101 r13 0)
        else
          some 0
      else
        some (-2)
  else
    some (-1)
set_option maxRecDepth 100000 in
set_option maxHeartbeats 4000000 in
theorem u_SW_slot (m : h_M) (v1 : Int) (v2 : Int) (c0 : h_C) (r : Int) (h : G_SW_slot v1 v2 c0 = some r) : F_SW_slot 1 v1 v2 (h_H c0 m) = some (r, (h_H c0 m)) := by
  unfold G_SW_slot at h
  unfold F_SW_slot
  refine gdT (isD c0 m d600) ?_
  obtain ⟨g1, h⟩ := p_gdE h
  try rw [rm5000 c0 m g1]
  have hv2 : vW (c0 5000 0 0).toNat := by omega
  refine gdT (isD c0 m (d200 hv2)) ?_
  obtain ⟨r5, q3, h⟩ := q_bvE h
  refine bdC (u_Works_gearOf m (c0 5000 0 0).toNat v1 c0 _ q3) ?_
  refine iteC (ne_iff (h_A0z _)) h (fun b7 h => ?_) (fun b7 h => ?_)
  · refine iteC Iff.rfl h (fun b8 h => ?_) (fun b8 h => ?_)
    · cases h
      rfl
    · obtain ⟨g9, h⟩ := p_gdE h
      refine gdT (isD c0 m (d0 g9)) ?_
      try rw [zf1 c0 m g9]
      refine iteC Iff.rfl h (fun b10 h => ?_) (fun b10 h => ?_)
      · try rw [rm5000 c0 m g1]
        refine gdT (isD c0 m (d200 hv2)) ?_
        try rw [rD c0 m (rr200_1 hv2)]
        refine gdT (isD c0 m (d300 hv2)) ?_
        obtain ⟨r13, q11, h⟩ := q_bvE h
        refine bdC (u_State_inSlot m (c0 5000 0 0).toNat r5 v2 c0 _ q11) ?_
        refine iteC (ne_iff (h_A100z _)) h (fun b15 h => ?_) (fun b15 h => ?_)
        · obtain ⟨g16, h⟩ := p_gdE h
          refine gdT (isD c0 m (d100 g16)) ?_
          try rw [zf101 c0 m g16]
          cases h
          rfl
        · cases h
          rfl
      · cases h
        rfl
  · cases h
    rfl
def G_SW_linkOf (v1 : Int) (v2 : Int) (c0 : h_C) : Option Int :=
  p_gd (0 ≤ c0 5000 0 0 ∧ c0 5000 0 0 < 3) <|
  q_bv (G_Works_gearOf (c0 5000 0 0).toNat v1 c0) fun r5 =>
  if r5 ≠ 0 then
    if v2 < 0 then
      some (-9)
    else
      p_gd (vG r5) <|
      if v2 < (c0 3 r5 0) then
        p_gd ((0 : Int) ≤ v2 ∧ v2 < (3 : Int)) <|
        some (p_w ((c0 2010 r5 (v2 : Int).toNat) + 1))
      else
        some (-9)
  else
    some (-1)
set_option maxRecDepth 100000 in
set_option maxHeartbeats 4000000 in
theorem u_SW_linkOf (m : h_M) (v1 : Int) (v2 : Int) (c0 : h_C) (r : Int) (h : G_SW_linkOf v1 v2 c0 = some r) : F_SW_linkOf 1 v1 v2 (h_H c0 m) = some (r, (h_H c0 m)) := by
  unfold G_SW_linkOf at h
  unfold F_SW_linkOf
  refine gdT (isD c0 m d600) ?_
  obtain ⟨g1, h⟩ := p_gdE h
  try rw [rm5000 c0 m g1]
  have hv2 : vW (c0 5000 0 0).toNat := by omega
  refine gdT (isD c0 m (d200 hv2)) ?_
  obtain ⟨r5, q3, h⟩ := q_bvE h
  refine bdC (u_Works_gearOf m (c0 5000 0 0).toNat v1 c0 _ q3) ?_
  refine iteC (ne_iff (h_A0z _)) h (fun b7 h => ?_) (fun b7 h => ?_)
  · refine iteC Iff.rfl h (fun b8 h => ?_) (fun b8 h => ?_)
    · cases h
      rfl
    · obtain ⟨g9, h⟩ := p_gdE h
      refine gdT (isD c0 m (d0 g9)) ?_
      try rw [zf3 c0 m g9]
      refine iteC Iff.rfl h (fun b10 h => ?_) (fun b10 h => ?_)
      · try rw [rD c0 m (rr0_4 g9)]
        refine gdT (isD c0 m (d2010 g9)) ?_
        obtain ⟨g11, h⟩ := p_gdE h
        refine gdT ⟨g11.1, by (try rw [lenD c0 m (d2010 g9)]); exact g11.2⟩ ?_
        try rw [zA c0 m (d2010 g9) (by decide) (v2 : Int).toNat]
        cases h
        rfl
      · cases h
        rfl
  · cases h
    rfl
def G_Parcel_tell (v0 : Nat) (v1 : Int) (c0 : h_C) : Option Int :=
  if v1 = 0 then
    p_gd (vP v0) <|
    some (c0 105 v0 0)
  else if v1 = 1 then
    p_gd (vP v0) <|
    some (c0 106 v0 0)
  else if v1 = 2 then
    p_gd (vP v0) <|
    some (c0 102 v0 0)
  else if v1 = 3 then
    p_gd (vP v0) <|
    some (c0 103 v0 0)
  else if v1 = 4 then
    p_gd (vP v0) <|
    some (c0 104 v0 0)
  else if v1 = 5 then
    p_gd (vP v0) <|
    some (c0 109 v0 0)
  else if v1 = 6 then
    p_gd (vP v0) <|
    if (c0 111 v0 0) ≠ (-1) then
      some (c0 111 v0 0)
    else
      some (-9)
  else if v1 = 7 then
    p_gd (vP v0) <|
    if (c0 107 v0 0) = 0 then
      some 0
    else
      some 1
  else 
  some (-2)
set_option maxRecDepth 100000 in
set_option maxHeartbeats 4000000 in
theorem u_Parcel_tell (m : h_M) (v0 : Nat) (v1 : Int) (c0 : h_C) (r : Int) (h : G_Parcel_tell v0 v1 c0 = some r) : F_Parcel_tell (h_A 100 v0) v1 (h_H c0 m) = some (r, (h_H c0 m)) := by
  unfold G_Parcel_tell at h
  unfold F_Parcel_tell
  refine iteC Iff.rfl h (fun b1 h => ?_) (fun b1 h => ?_)
  · obtain ⟨g2, h⟩ := p_gdE h
    refine gdT (isD c0 m (d100 g2)) ?_
    try rw [zf105 c0 m g2]
    cases h
    rfl
  refine iteC Iff.rfl h (fun b3 h => ?_) (fun b3 h => ?_)
  · obtain ⟨g4, h⟩ := p_gdE h
    refine gdT (isD c0 m (d100 g4)) ?_
    try rw [zf106 c0 m g4]
    cases h
    rfl
  refine iteC Iff.rfl h (fun b5 h => ?_) (fun b5 h => ?_)
  · obtain ⟨g6, h⟩ := p_gdE h
    refine gdT (isD c0 m (d100 g6)) ?_
    try rw [zf102 c0 m g6]
    cases h
    rfl
  refine iteC Iff.rfl h (fun b7 h => ?_) (fun b7 h => ?_)
  · obtain ⟨g8, h⟩ := p_gdE h
    refine gdT (isD c0 m (d100 g8)) ?_
    try rw [zf103 c0 m g8]
    cases h
    rfl
  refine iteC Iff.rfl h (fun b9 h => ?_) (fun b9 h => ?_)
  · obtain ⟨g10, h⟩ := p_gdE h
    refine gdT (isD c0 m (d100 g10)) ?_
    try rw [zf104 c0 m g10]
    cases h
    rfl
  refine iteC Iff.rfl h (fun b11 h => ?_) (fun b11 h => ?_)
  · obtain ⟨g12, h⟩ := p_gdE h
    refine gdT (isD c0 m (d100 g12)) ?_
    try rw [zf109 c0 m g12]
    cases h
    rfl
  refine iteC Iff.rfl h (fun b13 h => ?_) (fun b13 h => ?_)
  · obtain ⟨g14, h⟩ := p_gdE h
    refine gdT (isD c0 m (d100 g14)) ?_
    try rw [zf111 c0 m g14]
    refine iteC Iff.rfl h (fun b15 h => ?_) (fun b15 h => ?_)
    · try rw [zf111 c0 m g14]
      cases h
      rfl
    · cases h
      rfl
  refine iteC Iff.rfl h (fun b16 h => ?_) (fun b16 h => ?_)
  · obtain ⟨g17, h⟩ := p_gdE h
    refine gdT (isD c0 m (d100 g17)) ?_
    try rw [zf107 c0 m g17]
    refine iteC Iff.rfl h (fun b18 h => ?_) (fun b18 h => ?_)
    · cases h
      rfl
    · cases h
      rfl
  cases h
  rfl
def G_SW_parcel (v1 : Int) (v2 : Int) (c0 : h_C) : Option Int :=
  p_gd (0 ≤ c0 5000 0 0 ∧ c0 5000 0 0 < 3) <|
  q_bv (G_State_find (c0 5000 0 0).toNat v1 c0) fun r5 =>
  if r5 ≠ 0 then
    p_gd (vP r5) <|
    q_bv (G_Parcel_tell r5 v2 c0) fun r11 =>
    some r11
  else
    some (-1)
set_option maxRecDepth 100000 in
set_option maxHeartbeats 4000000 in
theorem u_SW_parcel (m : h_M) (v1 : Int) (v2 : Int) (c0 : h_C) (r : Int) (h : G_SW_parcel v1 v2 c0 = some r) : F_SW_parcel 1 v1 v2 (h_H c0 m) = some (r, (h_H c0 m)) := by
  unfold G_SW_parcel at h
  unfold F_SW_parcel
  refine gdT (isD c0 m d600) ?_
  obtain ⟨g1, h⟩ := p_gdE h
  try rw [rm5000 c0 m g1]
  have hv2 : vW (c0 5000 0 0).toNat := by omega
  refine gdT (isD c0 m (d200 hv2)) ?_
  try rw [rD c0 m (rr200_1 hv2)]
  refine gdT (isD c0 m (d300 hv2)) ?_
  obtain ⟨r5, q3, h⟩ := q_bvE h
  refine bdC (u_State_find m (c0 5000 0 0).toNat v1 c0 _ q3) ?_
  refine iteC (ne_iff (h_A100z _)) h (fun b7 h => ?_) (fun b7 h => ?_)
  · obtain ⟨g8, h⟩ := p_gdE h
    refine gdT (isD c0 m (d100 g8)) ?_
    obtain ⟨r11, q9, h⟩ := q_bvE h
    refine bdC (u_Parcel_tell m r5 v2 c0 _ q9) ?_
    cases h
    rfl
  · cases h
    rfl
def GB_SW_way_36   (c0 : h_C) : Option Int :=
  some (-9)
def G_SW_way (v1 : Int) (v2 : Int) (c0 : h_C) : Option Int :=
  p_gd (0 ≤ c0 5000 0 0 ∧ c0 5000 0 0 < 3) <|
  q_bv (G_State_find (c0 5000 0 0).toNat v1 c0) fun r5 =>
  if r5 ≠ 0 then
    if v2 < 0 then
      GB_SW_way_36 c0
    else
      p_gd (vP r5) <|
      if (c0 109 r5 0) ≤ v2 then
        GB_SW_way_36 c0
      else
        if v2 < 16 then
          p_gd ((0 : Int) ≤ v2 ∧ v2 < (16 : Int)) <|
          some (c0 2014 r5 (v2 : Int).toNat)
        else
          GB_SW_way_36 c0
  else
    some (-1)
set_option maxRecDepth 100000 in
set_option maxHeartbeats 4000000 in
theorem uB_SW_way_36 (m : h_M)   (c0 : h_C) (r : Int) (h : GB_SW_way_36  c0 = some r) : B_SW_way_36  (h_H c0 m) = some (r, (h_H c0 m)) := by
  unfold GB_SW_way_36 at h
  unfold B_SW_way_36
  cases h
  rfl
set_option maxRecDepth 100000 in
set_option maxHeartbeats 4000000 in
theorem u_SW_way (m : h_M) (v1 : Int) (v2 : Int) (c0 : h_C) (r : Int) (h : G_SW_way v1 v2 c0 = some r) : F_SW_way 1 v1 v2 (h_H c0 m) = some (r, (h_H c0 m)) := by
  unfold G_SW_way at h
  unfold F_SW_way
  refine gdT (isD c0 m d600) ?_
  obtain ⟨g1, h⟩ := p_gdE h
  try rw [rm5000 c0 m g1]
  have hv2 : vW (c0 5000 0 0).toNat := by omega
  refine gdT (isD c0 m (d200 hv2)) ?_
  try rw [rD c0 m (rr200_1 hv2)]
  refine gdT (isD c0 m (d300 hv2)) ?_
  obtain ⟨r5, q3, h⟩ := q_bvE h
  refine bdC (u_State_find m (c0 5000 0 0).toNat v1 c0 _ q3) ?_
  refine iteC (ne_iff (h_A100z _)) h (fun b7 h => ?_) (fun b7 h => ?_)
  · refine iteC Iff.rfl h (fun b8 h => ?_) (fun b8 h => ?_)
    · exact uB_SW_way_36 m c0 _ h
    · obtain ⟨g9, h⟩ := p_gdE h
      refine gdT (isD c0 m (d100 g9)) ?_
      try rw [zf109 c0 m g9]
      refine iteC Iff.rfl h (fun b10 h => ?_) (fun b10 h => ?_)
      · exact uB_SW_way_36 m c0 _ h
      · refine iteC Iff.rfl h (fun b11 h => ?_) (fun b11 h => ?_)
        · try rw [rD c0 m (rr100_10 g9)]
          refine gdT (isD c0 m (d2014 g9)) ?_
          obtain ⟨g12, h⟩ := p_gdE h
          refine gdT ⟨g12.1, by (try rw [lenD c0 m (d2014 g9)]); exact g12.2⟩ ?_
          try rw [zA c0 m (d2014 g9) (by decide) (v2 : Int).toNat]
          cases h
          rfl
        · exact uB_SW_way_36 m c0 _ h
  · cases h
    rfl
def GB_SW_byteOf_30   (c0 : h_C) : Option Int :=
  some (-9)
def G_SW_byteOf (v1 : Int) (v2 : Int) (c0 : h_C) : Option Int :=
  p_gd (0 ≤ c0 5000 0 0 ∧ c0 5000 0 0 < 3) <|
  q_bv (G_State_find (c0 5000 0 0).toNat v1 c0) fun r5 =>
  if r5 ≠ 0 then
    if v2 < 0 then
      GB_SW_byteOf_30 c0
    else
      p_gd (vP r5) <|
      if v2 < (c0 111 r5 0) then
        p_gd ((0 : Int) ≤ v2 ∧ v2 < (12 : Int)) <|
        some (c0 2015 r5 (v2 : Int).toNat)
      else
        GB_SW_byteOf_30 c0
  else
    some (-1)
set_option maxRecDepth 100000 in
set_option maxHeartbeats 4000000 in
theorem uB_SW_byteOf_30 (m : h_M)   (c0 : h_C) (r : Int) (h : GB_SW_byteOf_30  c0 = some r) : B_SW_byteOf_30  (h_H c0 m) = some (r, (h_H c0 m)) := by
  unfold GB_SW_byteOf_30 at h
  unfold B_SW_byteOf_30
  cases h
  rfl
set_option maxRecDepth 100000 in
set_option maxHeartbeats 4000000 in
theorem u_SW_byteOf (m : h_M) (v1 : Int) (v2 : Int) (c0 : h_C) (r : Int) (h : G_SW_byteOf v1 v2 c0 = some r) : F_SW_byteOf 1 v1 v2 (h_H c0 m) = some (r, (h_H c0 m)) := by
  unfold G_SW_byteOf at h
  unfold F_SW_byteOf
  refine gdT (isD c0 m d600) ?_
  obtain ⟨g1, h⟩ := p_gdE h
  try rw [rm5000 c0 m g1]
  have hv2 : vW (c0 5000 0 0).toNat := by omega
  refine gdT (isD c0 m (d200 hv2)) ?_
  try rw [rD c0 m (rr200_1 hv2)]
  refine gdT (isD c0 m (d300 hv2)) ?_
  obtain ⟨r5, q3, h⟩ := q_bvE h
  refine bdC (u_State_find m (c0 5000 0 0).toNat v1 c0 _ q3) ?_
  refine iteC (ne_iff (h_A100z _)) h (fun b7 h => ?_) (fun b7 h => ?_)
  · refine iteC Iff.rfl h (fun b8 h => ?_) (fun b8 h => ?_)
    · exact uB_SW_byteOf_30 m c0 _ h
    · obtain ⟨g9, h⟩ := p_gdE h
      refine gdT (isD c0 m (d100 g9)) ?_
      try rw [zf111 c0 m g9]
      refine iteC Iff.rfl h (fun b10 h => ?_) (fun b10 h => ?_)
      · try rw [rD c0 m (rr100_12 g9)]
        refine gdT (isD c0 m (d2015 g9)) ?_
        obtain ⟨g11, h⟩ := p_gdE h
        refine gdT ⟨g11.1, by (try rw [lenD c0 m (d2015 g9)]); exact g11.2⟩ ?_
        try rw [zA c0 m (d2015 g9) (by decide) (v2 : Int).toNat]
        cases h
        rfl
      · exact uB_SW_byteOf_30 m c0 _ h
  · cases h
    rfl
def GB_SW_left_16   (c0 : h_C) : Option Int :=
  some (-1)
def G_SW_left (v1 : Int) (c0 : h_C) : Option Int :=
  if v1 < 1 then
    GB_SW_left_16 c0
  else
    if v1 ≤ (c0 701 0 0) then
      p_gd ((0 : Int) ≤ v1 ∧ v1 < (2001 : Int)) <|
      some (c0 2040 0 (v1 : Int).toNat)
    else
      GB_SW_left_16 c0
set_option maxRecDepth 100000 in
set_option maxHeartbeats 4000000 in
theorem uB_SW_left_16 (m : h_M)   (c0 : h_C) (r : Int) (h : GB_SW_left_16  c0 = some r) : B_SW_left_16  (h_H c0 m) = some (r, (h_H c0 m)) := by
  unfold GB_SW_left_16 at h
  unfold B_SW_left_16
  cases h
  rfl
set_option maxRecDepth 100000 in
set_option maxHeartbeats 4000000 in
theorem u_SW_left (m : h_M) (v1 : Int) (c0 : h_C) (r : Int) (h : G_SW_left v1 c0 = some r) : F_SW_left 1 v1 (h_H c0 m) = some (r, (h_H c0 m)) := by
  unfold G_SW_left at h
  unfold F_SW_left
  refine iteC Iff.rfl h (fun b1 h => ?_) (fun b1 h => ?_)
  · exact uB_SW_left_16 m c0 _ h
  · refine gdT (isD c0 m d600) ?_
    try rw [rs1_2 c0 m]
    refine gdT (isD c0 m d700) ?_
    try rw [zf701 c0 m]
    refine iteC Iff.rfl h (fun b2 h => ?_) (fun b2 h => ?_)
    · try rw [rs1_2 c0 m]
      try rw [rs1110_0 c0 m]
      refine gdT (isD c0 m d2040) ?_
      obtain ⟨g3, h⟩ := p_gdE h
      refine gdT ⟨g3.1, by (try rw [lenD c0 m d2040]); exact g3.2⟩ ?_
      try rw [zA c0 m d2040 (by decide) (v1 : Int).toNat]
      cases h
      rfl
    · exact uB_SW_left_16 m c0 _ h
def G_Log_tell (v0 : Nat) (v1 : Int) (v2 : Int) (c0 : h_C) : Option Int :=
  if v1 < 0 then
    some (-9)
  else
    p_gd (vL v0) <|
    if (c0 400 v0 0) ≤ v1 then
      some (-9)
    else
      if (c0 403 v0 0) ≤ v1 then
        some (-9)
      else
        if v2 < 0 then
          some (-9)
        else
          if v2 < (c0 401 v0 0) then
            p_gd ((c0 400 v0 0) ≠ 0) <|
            p_gd ((0 : Int) ≤ (p_w ((p_w ((p_rem (p_w ((p_w ((c0 403 v0 0) - 1)) - v1)) (c0 400 v0 0)) * 5)) + v2)) ∧ (p_w ((p_w ((p_rem (p_w ((p_w ((c0 403 v0 0) - 1)) - v1)) (c0 400 v0 0)) * 5)) + v2)) < ((if v0 % 2 = 0 then 200 else 150 : Nat) : Int)) <|
            some (c0 2005 v0 ((p_w ((p_w ((p_rem (p_w ((p_w ((c0 403 v0 0) - 1)) - v1)) (c0 400 v0 0)) * 5)) + v2)) : Int).toNat)
          else
            some (-9)
set_option maxRecDepth 100000 in
set_option maxHeartbeats 4000000 in
theorem u_Log_tell (m : h_M) (v0 : Nat) (v1 : Int) (v2 : Int) (c0 : h_C) (r : Int) (h : G_Log_tell v0 v1 v2 c0 = some r) : F_Log_tell (h_A 400 v0) v1 v2 (h_H c0 m) = some (r, (h_H c0 m)) := by
  unfold G_Log_tell at h
  unfold F_Log_tell
  refine iteC Iff.rfl h (fun b1 h => ?_) (fun b1 h => ?_)
  · cases h
    rfl
  · obtain ⟨g2, h⟩ := p_gdE h
    refine gdT (isD c0 m (d400 g2)) ?_
    try rw [zf400 c0 m g2]
    refine iteC Iff.rfl h (fun b3 h => ?_) (fun b3 h => ?_)
    · cases h
      rfl
    · try rw [zf403 c0 m g2]
      refine iteC Iff.rfl h (fun b4 h => ?_) (fun b4 h => ?_)
      · cases h
        rfl
      · refine iteC Iff.rfl h (fun b5 h => ?_) (fun b5 h => ?_)
        · cases h
          rfl
        · try rw [zf401 c0 m g2]
          refine iteC Iff.rfl h (fun b6 h => ?_) (fun b6 h => ?_)
          · try rw [rD c0 m (rr400_2 g2)]
            try rw [zf403 c0 m g2]
            try rw [zf400 c0 m g2]
            obtain ⟨g7, h⟩ := p_gdE h
            refine gdT g7 ?_
            refine gdT (isD c0 m (d2005 g2)) ?_
            obtain ⟨g8, h⟩ := p_gdE h
            refine gdT ⟨g8.1, by (try rw [lenD c0 m (d2005 g2)]); exact g8.2⟩ ?_
            try rw [zA c0 m (d2005 g2) (by decide) ((p_w ((p_w ((p_rem (p_w ((p_w ((c0 403 v0 0) - 1)) - v1)) (c0 400 v0 0)) * 5)) + v2)) : Int).toNat]
            cases h
            rfl
          · cases h
            rfl
def G_SW_out (v1 : Int) (v2 : Int) (c0 : h_C) : Option Int :=
  p_gd (0 ≤ c0 5000 0 0 ∧ c0 5000 0 0 < 3) <|
  q_bv (G_Log_tell (2 * (c0 5000 0 0).toNat + 1) v1 v2 c0) fun r6 =>
  some r6
set_option maxRecDepth 100000 in
set_option maxHeartbeats 4000000 in
theorem u_SW_out (m : h_M) (v1 : Int) (v2 : Int) (c0 : h_C) (r : Int) (h : G_SW_out v1 v2 c0 = some r) : F_SW_out 1 v1 v2 (h_H c0 m) = some (r, (h_H c0 m)) := by
  unfold G_SW_out at h
  unfold F_SW_out
  refine gdT (isD c0 m d600) ?_
  obtain ⟨g1, h⟩ := p_gdE h
  try rw [rm5000 c0 m g1]
  have hv2 : vW (c0 5000 0 0).toNat := by omega
  refine gdT (isD c0 m (d200 hv2)) ?_
  try rw [rD c0 m (rr200_1 hv2)]
  refine gdT (isD c0 m (d300 hv2)) ?_
  try rw [rD c0 m (rr300_8 hv2)]
  have hv3 : vL (2 * (c0 5000 0 0).toNat + 1) := by have := hv2; omega
  refine gdT (isD c0 m (d400 hv3)) ?_
  obtain ⟨r6, q4, h⟩ := q_bvE h
  refine bdC (u_Log_tell m (2 * (c0 5000 0 0).toNat + 1) v1 v2 c0 _ q4) ?_
  cases h
  rfl
def G_SW_rule (v1 : Int) (v2 : Int) (c0 : h_C) : Option Int :=
  if v1 < 0 then
    some (-9)
  else
    p_gd (0 ≤ c0 5000 0 0 ∧ c0 5000 0 0 < 3) <|
    if v1 < (c0 500 (c0 5000 0 0).toNat 0) then
      if v2 = 0 then
        p_gd ((0 : Int) ≤ v1 ∧ v1 < (12 : Int)) <|
        some (c0 2020 (c0 5000 0 0).toNat (v1 : Int).toNat)
      else if v2 = 1 then
        p_gd ((0 : Int) ≤ v1 ∧ v1 < (12 : Int)) <|
        some (c0 2021 (c0 5000 0 0).toNat (v1 : Int).toNat)
      else if v2 = 2 then
        p_gd ((0 : Int) ≤ v1 ∧ v1 < (12 : Int)) <|
        some (c0 2003 (c0 5000 0 0).toNat (v1 : Int).toNat)
      else 
      some (-9)
    else
      some (-9)
set_option maxRecDepth 100000 in
set_option maxHeartbeats 4000000 in
theorem u_SW_rule (m : h_M) (v1 : Int) (v2 : Int) (c0 : h_C) (r : Int) (h : G_SW_rule v1 v2 c0 = some r) : F_SW_rule 1 v1 v2 (h_H c0 m) = some (r, (h_H c0 m)) := by
  unfold G_SW_rule at h
  unfold F_SW_rule
  refine iteC Iff.rfl h (fun b1 h => ?_) (fun b1 h => ?_)
  · cases h
    rfl
  · refine gdT (isD c0 m d600) ?_
    obtain ⟨g2, h⟩ := p_gdE h
    try rw [rm5000 c0 m g2]
    have hv3 : vW (c0 5000 0 0).toNat := by omega
    refine gdT (isD c0 m (d200 hv3)) ?_
    try rw [rD c0 m (rr200_3 hv3)]
    have hv4 : vR (c0 5000 0 0).toNat := by have := hv3; omega
    refine gdT (isD c0 m (d500 hv4)) ?_
    try rw [zf500 c0 m hv4]
    refine iteC Iff.rfl h (fun b5 h => ?_) (fun b5 h => ?_)
    · refine iteC Iff.rfl h (fun b6 h => ?_) (fun b6 h => ?_)
      · try rw [rm5000 c0 m g2]
        try rw [rD c0 m (rr200_3 hv3)]
        try rw [rD c0 m (rr500_1 hv4)]
        refine gdT (isD c0 m (d2020 hv4)) ?_
        obtain ⟨g7, h⟩ := p_gdE h
        refine gdT ⟨g7.1, by (try rw [lenD c0 m (d2020 hv4)]); exact g7.2⟩ ?_
        try rw [zA c0 m (d2020 hv4) (by decide) (v1 : Int).toNat]
        cases h
        rfl
      refine iteC Iff.rfl h (fun b8 h => ?_) (fun b8 h => ?_)
      · try rw [rm5000 c0 m g2]
        try rw [rD c0 m (rr200_3 hv3)]
        try rw [rD c0 m (rr500_2 hv4)]
        refine gdT (isD c0 m (d2021 hv4)) ?_
        obtain ⟨g9, h⟩ := p_gdE h
        refine gdT ⟨g9.1, by (try rw [lenD c0 m (d2021 hv4)]); exact g9.2⟩ ?_
        try rw [zA c0 m (d2021 hv4) (by decide) (v1 : Int).toNat]
        cases h
        rfl
      refine iteC Iff.rfl h (fun b10 h => ?_) (fun b10 h => ?_)
      · try rw [rm5000 c0 m g2]
        try rw [rD c0 m (rr200_1 hv3)]
        refine gdT (isD c0 m (d300 hv3)) ?_
        try rw [rD c0 m (rr300_6 hv3)]
        refine gdT (isD c0 m (d2003 hv3)) ?_
        obtain ⟨g11, h⟩ := p_gdE h
        refine gdT ⟨g11.1, by (try rw [lenD c0 m (d2003 hv3)]); exact g11.2⟩ ?_
        try rw [zA c0 m (d2003 hv3) (by decide) (v1 : Int).toNat]
        cases h
        rfl
      cases h
      rfl
    · cases h
      rfl
def GB_SW_said_18   (c0 : h_C) : Option Int :=
  some (-9)
def G_SW_said (v1 : Int) (c0 : h_C) : Option Int :=
  if v1 < 0 then
    GB_SW_said_18 c0
  else
    p_gd (0 ≤ c0 5000 0 0 ∧ c0 5000 0 0 < 3) <|
    if v1 < (c0 508 (c0 5000 0 0).toNat 0) then
      p_gd ((0 : Int) ≤ v1 ∧ v1 < (200 : Int)) <|
      some (c0 2026 (c0 5000 0 0).toNat (v1 : Int).toNat)
    else
      GB_SW_said_18 c0
set_option maxRecDepth 100000 in
set_option maxHeartbeats 4000000 in
theorem uB_SW_said_18 (m : h_M)   (c0 : h_C) (r : Int) (h : GB_SW_said_18  c0 = some r) : B_SW_said_18  (h_H c0 m) = some (r, (h_H c0 m)) := by
  unfold GB_SW_said_18 at h
  unfold B_SW_said_18
  cases h
  rfl
set_option maxRecDepth 100000 in
set_option maxHeartbeats 4000000 in
theorem u_SW_said (m : h_M) (v1 : Int) (c0 : h_C) (r : Int) (h : G_SW_said v1 c0 = some r) : F_SW_said 1 v1 (h_H c0 m) = some (r, (h_H c0 m)) := by
  unfold G_SW_said at h
  unfold F_SW_said
  refine iteC Iff.rfl h (fun b1 h => ?_) (fun b1 h => ?_)
  · exact uB_SW_said_18 m c0 _ h
  · refine gdT (isD c0 m d600) ?_
    obtain ⟨g2, h⟩ := p_gdE h
    try rw [rm5000 c0 m g2]
    have hv3 : vW (c0 5000 0 0).toNat := by omega
    refine gdT (isD c0 m (d200 hv3)) ?_
    try rw [rD c0 m (rr200_3 hv3)]
    have hv4 : vR (c0 5000 0 0).toNat := by have := hv3; omega
    refine gdT (isD c0 m (d500 hv4)) ?_
    try rw [zf508 c0 m hv4]
    refine iteC Iff.rfl h (fun b5 h => ?_) (fun b5 h => ?_)
    · try rw [rm5000 c0 m g2]
      try rw [rD c0 m (rr200_3 hv3)]
      try rw [rD c0 m (rr500_7 hv4)]
      refine gdT (isD c0 m (d2026 hv4)) ?_
      obtain ⟨g6, h⟩ := p_gdE h
      refine gdT ⟨g6.1, by (try rw [lenD c0 m (d2026 hv4)]); exact g6.2⟩ ?_
      try rw [zA c0 m (d2026 hv4) (by decide) (v1 : Int).toNat]
      cases h
      rfl
    · exact uB_SW_said_18 m c0 _ h
def GB_SW_unused_43 (k4 : Int → Int → Int → h_C → Option Int) (v1 : Int) (v2 : Int) (v3 : Int) (c0 : h_C) : Option Int :=
  p_bi (p_w (v3 + 1)) fun x1 =>
  k4 v1 v2 x1 c0
def GL_SW_unused_4 (k4 : Int → Int → Int → h_C → Option Int) (v1 : Int) (v2 : Int) (v3 : Int) (c0 : h_C) : Option Int :=
  p_gd (0 ≤ c0 5000 0 0 ∧ c0 5000 0 0 < 3) <|
  if (c0 500 (c0 5000 0 0).toNat 0) ≤ v3 then
    some (-9)
  else
    p_gd ((0 : Int) ≤ v3 ∧ v3 < (12 : Int)) <|
    if (c0 2003 (c0 5000 0 0).toNat (v3 : Int).toNat) ≠ 0 then
      GB_SW_unused_43 k4 v1 v2 v3 c0
    else
      if v2 ≠ v1 then
        p_bi (p_w (v2 + 1)) fun x8 =>
        GB_SW_unused_43 k4 v1 x8 v3 c0
      else
        some v3
def GO_SW_unused_4  : Nat → Int → Int → Int → h_C → Option Int
  | 0 => fun _ _ _ _ => none
  | n + 1 => GL_SW_unused_4 (GO_SW_unused_4 n)
def G_SW_unused (v1 : Int) (c0 : h_C) : Option Int :=
  GO_SW_unused_4 3000 v1 0 0 c0
set_option maxRecDepth 100000 in
set_option maxHeartbeats 4000000 in
theorem uB_SW_unused_43 (m : h_M) (j4 : Nat → Int → Int → Int → p_Hp → Option (Int × p_Hp)) (k4 : Int → Int → Int → h_C → Option Int) (hk4 : ∀ (v1 : Int) (v2 : Int) (v3 : Int) (c0 : h_C) (r : Int), k4 v1 v2 v3 c0 = some r → j4 1 v1 v2 v3 (h_H c0 m) = some (r, (h_H c0 m))) (v1 : Int) (v2 : Int) (v3 : Int) (c0 : h_C) (r : Int) (h : GB_SW_unused_43 k4 v1 v2 v3 c0 = some r) : B_SW_unused_43 j4 1 v1 v2 v3 (h_H c0 m) = some (r, (h_H c0 m)) := by
  unfold GB_SW_unused_43 at h
  unfold B_SW_unused_43
  refine bV h ?_
  intro x1 h
  exact hk4 v1 v2 x1 c0 _ h
set_option maxRecDepth 100000 in
set_option maxHeartbeats 4000000 in
theorem uL_SW_unused_4 (m : h_M) (j4 : Nat → Int → Int → Int → p_Hp → Option (Int × p_Hp)) (k4 : Int → Int → Int → h_C → Option Int) (hk4 : ∀ (v1 : Int) (v2 : Int) (v3 : Int) (c0 : h_C) (r : Int), k4 v1 v2 v3 c0 = some r → j4 1 v1 v2 v3 (h_H c0 m) = some (r, (h_H c0 m))) (v1 : Int) (v2 : Int) (v3 : Int) (c0 : h_C) (r : Int) (h : GL_SW_unused_4 k4 v1 v2 v3 c0 = some r) : L_SW_unused_4 j4 1 v1 v2 v3 (h_H c0 m) = some (r, (h_H c0 m)) := by
  unfold GL_SW_unused_4 at h
  unfold L_SW_unused_4
  refine gdT (isD c0 m d600) ?_
  obtain ⟨g1, h⟩ := p_gdE h
  try rw [rm5000 c0 m g1]
  have hv2 : vW (c0 5000 0 0).toNat := by omega
  refine gdT (isD c0 m (d200 hv2)) ?_
  try rw [rD c0 m (rr200_3 hv2)]
  have hv3 : vR (c0 5000 0 0).toNat := by have := hv2; omega
  refine gdT (isD c0 m (d500 hv3)) ?_
  try rw [zf500 c0 m hv3]
  refine iteC Iff.rfl h (fun b4 h => ?_) (fun b4 h => ?_)
  · cases h
    rfl
  · try rw [rm5000 c0 m g1]
    try rw [rD c0 m (rr200_1 hv2)]
    refine gdT (isD c0 m (d300 hv2)) ?_
    try rw [rD c0 m (rr300_6 hv2)]
    refine gdT (isD c0 m (d2003 hv2)) ?_
    obtain ⟨g5, h⟩ := p_gdE h
    refine gdT ⟨g5.1, by (try rw [lenD c0 m (d2003 hv2)]); exact g5.2⟩ ?_
    try rw [zA c0 m (d2003 hv2) (by decide) (v3 : Int).toNat]
    refine iteC Iff.rfl h (fun b6 h => ?_) (fun b6 h => ?_)
    · exact uB_SW_unused_43 m j4 k4 hk4 v1 v2 v3 c0 _ h
    · refine iteC Iff.rfl h (fun b7 h => ?_) (fun b7 h => ?_)
      · refine bV h ?_
        intro x8 h
        exact uB_SW_unused_43 m j4 k4 hk4 v1 x8 v3 c0 _ h
      · cases h
        rfl
set_option maxRecDepth 100000 in
set_option maxHeartbeats 4000000 in
theorem uO_SW_unused_4 (m : h_M)  : ∀ (n : Nat) (v1 : Int) (v2 : Int) (v3 : Int) (c0 : h_C) (r : Int), GO_SW_unused_4 n v1 v2 v3 c0 = some r → O_SW_unused_4 n 1 v1 v2 v3 (h_H c0 m) = some (r, (h_H c0 m)) := by
  intro n
  induction n with
  | zero => intro v1 v2 v3 c0 r h; cases h
  | succ n ih => intro v1 v2 v3 c0 r h; exact uL_SW_unused_4 m (O_SW_unused_4 n) (GO_SW_unused_4 n) ih v1 v2 v3 c0 r h
set_option maxRecDepth 100000 in
set_option maxHeartbeats 4000000 in
theorem u_SW_unused (m : h_M) (v1 : Int) (c0 : h_C) (r : Int) (h : G_SW_unused v1 c0 = some r) : F_SW_unused 1 v1 (h_H c0 m) = some (r, (h_H c0 m)) := by
  unfold G_SW_unused at h
  unfold F_SW_unused
  exact uO_SW_unused_4 m 3000 v1 0 0 c0 _ h
def G_SW_finding (v1 : Int) (v2 : Int) (c0 : h_C) : Option Int :=
  p_gd (0 ≤ c0 5000 0 0 ∧ c0 5000 0 0 < 3) <|
  q_bv (G_Log_tell (2 * (c0 5000 0 0).toNat) v1 v2 c0) fun r6 =>
  some r6
set_option maxRecDepth 100000 in
set_option maxHeartbeats 4000000 in
theorem u_SW_finding (m : h_M) (v1 : Int) (v2 : Int) (c0 : h_C) (r : Int) (h : G_SW_finding v1 v2 c0 = some r) : F_SW_finding 1 v1 v2 (h_H c0 m) = some (r, (h_H c0 m)) := by
  unfold G_SW_finding at h
  unfold F_SW_finding
  refine gdT (isD c0 m d600) ?_
  obtain ⟨g1, h⟩ := p_gdE h
  try rw [rm5000 c0 m g1]
  have hv2 : vW (c0 5000 0 0).toNat := by omega
  refine gdT (isD c0 m (d200 hv2)) ?_
  try rw [rD c0 m (rr200_1 hv2)]
  refine gdT (isD c0 m (d300 hv2)) ?_
  try rw [rD c0 m (rr300_7 hv2)]
  have hv3 : vL (2 * (c0 5000 0 0).toNat) := by have := hv2; omega
  refine gdT (isD c0 m (d400 hv3)) ?_
  obtain ⟨r6, q4, h⟩ := q_bvE h
  refine bdC (u_Log_tell m (2 * (c0 5000 0 0).toNat) v1 v2 c0 _ q4) ?_
  cases h
  rfl
def GB_SW_trace_21   (c0 : h_C) : Option Int :=
  some (-9)
def G_SW_trace (v1 : Int) (c0 : h_C) : Option Int :=
  if v1 < 0 then
    GB_SW_trace_21 c0
  else
    p_gd (0 ≤ c0 5000 0 0 ∧ c0 5000 0 0 < 3) <|
    if (c0 211 (c0 5000 0 0).toNat 0) ≤ v1 then
      GB_SW_trace_21 c0
    else
      if v1 < 60 then
        p_gd ((0 : Int) ≤ v1 ∧ v1 < (60 : Int)) <|
        some (c0 2037 (c0 5000 0 0).toNat (v1 : Int).toNat)
      else
        GB_SW_trace_21 c0
set_option maxRecDepth 100000 in
set_option maxHeartbeats 4000000 in
theorem uB_SW_trace_21 (m : h_M)   (c0 : h_C) (r : Int) (h : GB_SW_trace_21  c0 = some r) : B_SW_trace_21  (h_H c0 m) = some (r, (h_H c0 m)) := by
  unfold GB_SW_trace_21 at h
  unfold B_SW_trace_21
  cases h
  rfl
set_option maxRecDepth 100000 in
set_option maxHeartbeats 4000000 in
theorem u_SW_trace (m : h_M) (v1 : Int) (c0 : h_C) (r : Int) (h : G_SW_trace v1 c0 = some r) : F_SW_trace 1 v1 (h_H c0 m) = some (r, (h_H c0 m)) := by
  unfold G_SW_trace at h
  unfold F_SW_trace
  refine iteC Iff.rfl h (fun b1 h => ?_) (fun b1 h => ?_)
  · exact uB_SW_trace_21 m c0 _ h
  · refine gdT (isD c0 m d600) ?_
    obtain ⟨g2, h⟩ := p_gdE h
    try rw [rm5000 c0 m g2]
    have hv3 : vW (c0 5000 0 0).toNat := by omega
    refine gdT (isD c0 m (d200 hv3)) ?_
    try rw [zf211 c0 m hv3]
    refine iteC Iff.rfl h (fun b4 h => ?_) (fun b4 h => ?_)
    · exact uB_SW_trace_21 m c0 _ h
    · refine iteC Iff.rfl h (fun b5 h => ?_) (fun b5 h => ?_)
      · try rw [rm5000 c0 m g2]
        try rw [rD c0 m (rr200_10 hv3)]
        refine gdT (isD c0 m (d2037 hv3)) ?_
        obtain ⟨g6, h⟩ := p_gdE h
        refine gdT ⟨g6.1, by (try rw [lenD c0 m (d2037 hv3)]); exact g6.2⟩ ?_
        try rw [zA c0 m (d2037 hv3) (by decide) (v1 : Int).toNat]
        cases h
        rfl
      · exact uB_SW_trace_21 m c0 _ h
def GB_SW_jam_43 (k4 : Int → Int → Int → h_C → Option Int) (v1 : Int) (v2 : Int) (v3 : Int) (c0 : h_C) : Option Int :=
  p_bi (p_w (v3 + 1)) fun x1 =>
  k4 v1 v2 x1 c0
def GL_SW_jam_4 (k4 : Int → Int → Int → h_C → Option Int) (v1 : Int) (v2 : Int) (v3 : Int) (c0 : h_C) : Option Int :=
  p_gd (0 ≤ c0 5000 0 0 ∧ c0 5000 0 0 < 3) <|
  if (c0 202 (c0 5000 0 0).toNat 0) ≤ v3 then
    some (-9)
  else
    p_gd ((0 : Int) ≤ v3 ∧ v3 < (40 : Int)) <|
    q_bv (G_Gear_isJammed (40 * (c0 5000 0 0).toNat + (v3 : Int).toNat + 1) c0) fun r8 =>
    if r8 = 0 then
      GB_SW_jam_43 k4 v1 v2 v3 c0
    else
      if v2 ≠ v1 then
        p_bi (p_w (v2 + 1)) fun x12 =>
        GB_SW_jam_43 k4 v1 x12 v3 c0
      else
        some v3
def GO_SW_jam_4  : Nat → Int → Int → Int → h_C → Option Int
  | 0 => fun _ _ _ _ => none
  | n + 1 => GL_SW_jam_4 (GO_SW_jam_4 n)
def G_SW_jam (v1 : Int) (c0 : h_C) : Option Int :=
  GO_SW_jam_4 3000 v1 0 0 c0
set_option maxRecDepth 100000 in
set_option maxHeartbeats 4000000 in
theorem uB_SW_jam_43 (m : h_M) (j4 : Nat → Int → Int → Int → p_Hp → Option (Int × p_Hp)) (k4 : Int → Int → Int → h_C → Option Int) (hk4 : ∀ (v1 : Int) (v2 : Int) (v3 : Int) (c0 : h_C) (r : Int), k4 v1 v2 v3 c0 = some r → j4 1 v1 v2 v3 (h_H c0 m) = some (r, (h_H c0 m))) (v1 : Int) (v2 : Int) (v3 : Int) (c0 : h_C) (r : Int) (h : GB_SW_jam_43 k4 v1 v2 v3 c0 = some r) : B_SW_jam_43 j4 1 v1 v2 v3 (h_H c0 m) = some (r, (h_H c0 m)) := by
  unfold GB_SW_jam_43 at h
  unfold B_SW_jam_43
  refine bV h ?_
  intro x1 h
  exact hk4 v1 v2 x1 c0 _ h
set_option maxRecDepth 100000 in
set_option maxHeartbeats 4000000 in
theorem uL_SW_jam_4 (m : h_M) (j4 : Nat → Int → Int → Int → p_Hp → Option (Int × p_Hp)) (k4 : Int → Int → Int → h_C → Option Int) (hk4 : ∀ (v1 : Int) (v2 : Int) (v3 : Int) (c0 : h_C) (r : Int), k4 v1 v2 v3 c0 = some r → j4 1 v1 v2 v3 (h_H c0 m) = some (r, (h_H c0 m))) (v1 : Int) (v2 : Int) (v3 : Int) (c0 : h_C) (r : Int) (h : GL_SW_jam_4 k4 v1 v2 v3 c0 = some r) : L_SW_jam_4 j4 1 v1 v2 v3 (h_H c0 m) = some (r, (h_H c0 m)) := by
  unfold GL_SW_jam_4 at h
  unfold L_SW_jam_4
  refine gdT (isD c0 m d600) ?_
  obtain ⟨g1, h⟩ := p_gdE h
  try rw [rm5000 c0 m g1]
  have hv2 : vW (c0 5000 0 0).toNat := by omega
  refine gdT (isD c0 m (d200 hv2)) ?_
  try rw [zf202 c0 m hv2]
  refine iteC Iff.rfl h (fun b3 h => ?_) (fun b3 h => ?_)
  · cases h
    rfl
  · try rw [rm5000 c0 m g1]
    try rw [rD c0 m (rr200_1 hv2)]
    refine gdT (isD c0 m (d300 hv2)) ?_
    try rw [rD c0 m (rr300_4 hv2)]
    refine gdT (isD c0 m (d2001 hv2)) ?_
    obtain ⟨g4, h⟩ := p_gdE h
    refine gdT ⟨g4.1, by (try rw [lenD c0 m (d2001 hv2)]); exact g4.2⟩ ?_
    try rw [rD c0 m (el2001 (k := (v3 : Int).toNat) hv2 (Nat.zero_le _) (by omega))]
    have hv5 : vG (40 * (c0 5000 0 0).toNat + (v3 : Int).toNat + 1) := ⟨by omega, by have := hv2; omega⟩
    refine gdT (isD c0 m (d0 hv5)) ?_
    obtain ⟨r8, q6, h⟩ := q_bvE h
    refine bdC (u_Gear_isJammed m (40 * (c0 5000 0 0).toNat + (v3 : Int).toNat + 1) c0 _ q6) ?_
    refine iteC Iff.rfl h (fun b10 h => ?_) (fun b10 h => ?_)
    · exact uB_SW_jam_43 m j4 k4 hk4 v1 v2 v3 c0 _ h
    · refine iteC Iff.rfl h (fun b11 h => ?_) (fun b11 h => ?_)
      · refine bV h ?_
        intro x12 h
        exact uB_SW_jam_43 m j4 k4 hk4 v1 x12 v3 c0 _ h
      · cases h
        rfl
set_option maxRecDepth 100000 in
set_option maxHeartbeats 4000000 in
theorem uO_SW_jam_4 (m : h_M)  : ∀ (n : Nat) (v1 : Int) (v2 : Int) (v3 : Int) (c0 : h_C) (r : Int), GO_SW_jam_4 n v1 v2 v3 c0 = some r → O_SW_jam_4 n 1 v1 v2 v3 (h_H c0 m) = some (r, (h_H c0 m)) := by
  intro n
  induction n with
  | zero => intro v1 v2 v3 c0 r h; cases h
  | succ n ih => intro v1 v2 v3 c0 r h; exact uL_SW_jam_4 m (O_SW_jam_4 n) (GO_SW_jam_4 n) ih v1 v2 v3 c0 r h
set_option maxRecDepth 100000 in
set_option maxHeartbeats 4000000 in
theorem u_SW_jam (m : h_M) (v1 : Int) (c0 : h_C) (r : Int) (h : G_SW_jam v1 c0 = some r) : F_SW_jam 1 v1 (h_H c0 m) = some (r, (h_H c0 m)) := by
  unfold G_SW_jam at h
  unfold F_SW_jam
  exact uO_SW_jam_4 m 3000 v1 0 0 c0 _ h
def GB_Works_goAhead_91 (k16 : Nat → Int → Nat → Int → Int → h_C → Option (Int × h_C)) (v0 : Nat) (v2 : Int) (v3 : Nat) (v4 : Int) (v5 : Int) (c0 : h_C) : Option (Int × h_C) :=
  p_bi (p_w (v5 + 1)) fun x1 =>
  k16 v0 v2 v3 v4 x1 c0
def GL_Works_goAhead_16 (k16 : Nat → Int → Nat → Int → Int → h_C → Option (Int × h_C)) (v0 : Nat) (v2 : Int) (v3 : Nat) (v4 : Int) (v5 : Int) (c0 : h_C) : Option (Int × h_C) :=
  p_gd (vG v3) <|
  p_gd ((0 : Int) ≤ (c0 0 v3 0) ∧ (c0 0 v3 0) < (sw_tl 1 : Int)) <|
  if (sw_tab 1 ((c0 0 v3 0) : Int).toNat) ≤ v5 then
    p_gd (v4 = 0 ∨ v4 = 1) <|
    some (v4, c0)
  else
    p_gd (vW v0) <|
    q_bv (G_Works_follow v0 v3 v5 c0) fun r8 =>
    if r8 < 0 then
      GB_Works_goAhead_91 k16 v0 v2 v3 v4 v5 c0
    else
      p_gd ((0 : Int) ≤ r8 ∧ r8 < (40 : Int)) <|
      q_bv (G_Gear_isTaker (40 * v0 + (r8 : Int).toNat + 1) c0) fun r15 =>
      if r15 = 0 then
        GB_Works_goAhead_91 k16 v0 v2 v3 v4 v5 c0
      else
        if (c0 2038 v0 (r8 : Int).toNat) ≤ (p_w (v2 + (c0 1 v3 0))) then
          GB_Works_goAhead_91 k16 v0 v2 v3 v4 v5 c0
        else
          p_bi (wc c0 2038 v0 (r8 : Int).toNat (p_w (v2 + (c0 1 v3 0)))) fun c19 =>
          GB_Works_goAhead_91 k16 v0 v2 v3 1 v5 c19
def GO_Works_goAhead_16  : Nat → Nat → Int → Nat → Int → Int → h_C → Option (Int × h_C)
  | 0 => fun _ _ _ _ _ _ => none
  | n + 1 => GL_Works_goAhead_16 (GO_Works_goAhead_16 n)
def G_Works_goAhead (v0 : Nat) (v1 : Int) (v2 : Int) (c0 : h_C) : Option (Int × h_C) :=
  p_gd (vW v0) <|
  p_gd ((0 : Int) ≤ v1 ∧ v1 < (40 : Int)) <|
  GO_Works_goAhead_16 3000 v0 v2 (40 * v0 + (v1 : Int).toNat + 1) 0 0 c0
set_option maxRecDepth 100000 in
set_option maxHeartbeats 4000000 in
theorem uB_Works_goAhead_91 (m : h_M) (j16 : Nat → Int → Nat → Int → Int → p_Hp → Option (Int × p_Hp)) (k16 : Nat → Int → Nat → Int → Int → h_C → Option (Int × h_C)) (hk16 : ∀ (v0 : Nat) (v2 : Int) (v3 : Nat) (v4 : Int) (v5 : Int) (c0 : h_C) (r : (Int × h_C)), k16 v0 v2 v3 v4 v5 c0 = some r → j16 (h_A 200 v0) v2 (h_A 0 v3) v4 v5 (h_H c0 m) = some (r.1, (h_H r.2 m))) (v0 : Nat) (v2 : Int) (v3 : Nat) (v4 : Int) (v5 : Int) (c0 : h_C) (r : (Int × h_C)) (h : GB_Works_goAhead_91 k16 v0 v2 v3 v4 v5 c0 = some r) : B_Works_goAhead_91 j16 (h_A 200 v0) v2 (h_A 0 v3) v4 v5 (h_H c0 m) = some (r.1, (h_H r.2 m)) := by
  unfold GB_Works_goAhead_91 at h
  unfold B_Works_goAhead_91
  refine bV h ?_
  intro x1 h
  exact hk16 v0 v2 v3 v4 x1 c0 _ h
set_option maxRecDepth 100000 in
set_option maxHeartbeats 4000000 in
theorem uL_Works_goAhead_16 (m : h_M) (j16 : Nat → Int → Nat → Int → Int → p_Hp → Option (Int × p_Hp)) (k16 : Nat → Int → Nat → Int → Int → h_C → Option (Int × h_C)) (hk16 : ∀ (v0 : Nat) (v2 : Int) (v3 : Nat) (v4 : Int) (v5 : Int) (c0 : h_C) (r : (Int × h_C)), k16 v0 v2 v3 v4 v5 c0 = some r → j16 (h_A 200 v0) v2 (h_A 0 v3) v4 v5 (h_H c0 m) = some (r.1, (h_H r.2 m))) (v0 : Nat) (v2 : Int) (v3 : Nat) (v4 : Int) (v5 : Int) (c0 : h_C) (r : (Int × h_C)) (h : GL_Works_goAhead_16 k16 v0 v2 v3 v4 v5 c0 = some r) : L_Works_goAhead_16 j16 (h_A 200 v0) v2 (h_A 0 v3) v4 v5 (h_H c0 m) = some (r.1, (h_H r.2 m)) := by
  unfold GL_Works_goAhead_16 at h
  unfold L_Works_goAhead_16
  obtain ⟨g1, h⟩ := p_gdE h
  refine gdT (isD c0 m (d0 g1)) ?_
  try rw [zf0 c0 m g1]
  obtain ⟨g2, h⟩ := p_gdE h
  refine gdT g2 ?_
  refine iteC Iff.rfl h (fun b3 h => ?_) (fun b3 h => ?_)
  · obtain ⟨g4, h⟩ := p_gdE h
    refine gdT g4 ?_
    cases h
    rfl
  · obtain ⟨g5, h⟩ := p_gdE h
    refine gdT (isD c0 m (d200 g5)) ?_
    obtain ⟨r8, q6, h⟩ := q_bvE h
    refine bdC (u_Works_follow m v0 v3 v5 c0 _ q6) ?_
    refine iteC Iff.rfl h (fun b10 h => ?_) (fun b10 h => ?_)
    · exact uB_Works_goAhead_91 m j16 k16 hk16 v0 v2 v3 v4 v5 c0 _ h
    · try rw [rD c0 m (rr200_1 g5)]
      refine gdT (isD c0 m (d300 g5)) ?_
      try rw [rD c0 m (rr300_4 g5)]
      refine gdT (isD c0 m (d2001 g5)) ?_
      obtain ⟨g11, h⟩ := p_gdE h
      refine gdT ⟨g11.1, by (try rw [lenD c0 m (d2001 g5)]); exact g11.2⟩ ?_
      try rw [rD c0 m (el2001 (k := (r8 : Int).toNat) g5 (Nat.zero_le _) (by omega))]
      have hv12 : vG (40 * v0 + (r8 : Int).toNat + 1) := ⟨by omega, by have := g5; omega⟩
      refine gdT (isD c0 m (d0 hv12)) ?_
      obtain ⟨r15, q13, h⟩ := q_bvE h
      refine bdC (u_Gear_isTaker m (40 * v0 + (r8 : Int).toNat + 1) c0 _ q13) ?_
      refine iteC Iff.rfl h (fun b17 h => ?_) (fun b17 h => ?_)
      · exact uB_Works_goAhead_91 m j16 k16 hk16 v0 v2 v3 v4 v5 c0 _ h
      · try rw [zf1 c0 m g1]
        try rw [rD c0 m (rr200_14 g5)]
        refine gdT (isD c0 m (d2038 g5)) ?_
        refine gdT ⟨g11.1, by (try rw [lenD c0 m (d2038 g5)]); exact g11.2⟩ ?_
        try rw [zA c0 m (d2038 g5) (by decide) (r8 : Int).toNat]
        refine iteC Iff.rfl h (fun b18 h => ?_) (fun b18 h => ?_)
        · exact uB_Works_goAhead_91 m j16 k16 hk16 v0 v2 v3 v4 v5 c0 _ h
        · try rw [rD c0 m (rr200_14 g5)]
          try rw [zf1 c0 m g1]
          refine gdT ⟨g11.1, by (try rw [lenD c0 m (d2038 g5)]); exact g11.2⟩ ?_
          refine bS (wA c0 m (d2038 g5) (by decide) _ _) h ?_
          intro c19 h
          exact uB_Works_goAhead_91 m j16 k16 hk16 v0 v2 v3 1 v5 c19 _ h
set_option maxRecDepth 100000 in
set_option maxHeartbeats 4000000 in
theorem uO_Works_goAhead_16 (m : h_M)  : ∀ (n : Nat) (v0 : Nat) (v2 : Int) (v3 : Nat) (v4 : Int) (v5 : Int) (c0 : h_C) (r : (Int × h_C)), GO_Works_goAhead_16 n v0 v2 v3 v4 v5 c0 = some r → O_Works_goAhead_16 n (h_A 200 v0) v2 (h_A 0 v3) v4 v5 (h_H c0 m) = some (r.1, (h_H r.2 m)) := by
  intro n
  induction n with
  | zero => intro v0 v2 v3 v4 v5 c0 r h; cases h
  | succ n ih => intro v0 v2 v3 v4 v5 c0 r h; exact uL_Works_goAhead_16 m (O_Works_goAhead_16 n) (GO_Works_goAhead_16 n) ih v0 v2 v3 v4 v5 c0 r h
set_option maxRecDepth 100000 in
set_option maxHeartbeats 4000000 in
theorem u_Works_goAhead (m : h_M) (v0 : Nat) (v1 : Int) (v2 : Int) (c0 : h_C) (r : (Int × h_C)) (h : G_Works_goAhead v0 v1 v2 c0 = some r) : F_Works_goAhead (h_A 200 v0) v1 v2 (h_H c0 m) = some (r.1, (h_H r.2 m)) := by
  unfold G_Works_goAhead at h
  unfold F_Works_goAhead
  obtain ⟨g1, h⟩ := p_gdE h
  refine gdT (isD c0 m (d200 g1)) ?_
  try rw [rD c0 m (rr200_1 g1)]
  refine gdT (isD c0 m (d300 g1)) ?_
  try rw [rD c0 m (rr300_4 g1)]
  refine gdT (isD c0 m (d2001 g1)) ?_
  obtain ⟨g2, h⟩ := p_gdE h
  refine gdT ⟨g2.1, by (try rw [lenD c0 m (d2001 g1)]); exact g2.2⟩ ?_
  try rw [rD c0 m (el2001 (k := (v1 : Int).toNat) g1 (Nat.zero_le _) (by omega))]
  have hv3 : vG (40 * v0 + (v1 : Int).toNat + 1) := ⟨by omega, by have := g1; omega⟩
  refine bX ?_
  exact uO_Works_goAhead_16 m 3000 v0 v2 (40 * v0 + (v1 : Int).toNat + 1) 0 0 c0 _ h
def GB_Works_measureWays_76 (k20 : Nat → Int → Int → h_C → Option h_C) (k37 : Nat → Int → Int → Int → h_C → Option h_C) (v0 : Nat) (v2 : Int) (v3 : Int) (v4 : Int) (c0 : h_C) : Option h_C :=
  p_bi (p_w (v4 + 1)) fun x1 =>
  k37 v0 v2 v3 x1 c0
def GL_Works_measureWays_37 (k20 : Nat → Int → Int → h_C → Option h_C) (k37 : Nat → Int → Int → Int → h_C → Option h_C) (v0 : Nat) (v2 : Int) (v3 : Int) (v4 : Int) (c0 : h_C) : Option h_C :=
  p_gd (vW v0) <|
  if (c0 202 v0 0) ≤ v4 then
    p_bi (p_w (v3 + 1)) fun x3 =>
    k20 v0 v2 x3 c0
  else
    p_gd ((0 : Int) ≤ v4 ∧ v4 < (40 : Int)) <|
    if (c0 2038 v0 (v4 : Int).toNat) = 1000000 then
      GB_Works_measureWays_76 k20 k37 v0 v2 v3 v4 c0
    else
      q_bd (G_Works_goAhead v0 v4 (c0 2038 v0 (v4 : Int).toNat) c0) fun r9 c10 =>
      if r9 = 0 then
        GB_Works_measureWays_76 k20 k37 v0 v2 v3 v4 c10
      else
        GB_Works_measureWays_76 k20 k37 v0 1 v3 v4 c10
def GO_Works_measureWays_37 (k20 : Nat → Int → Int → h_C → Option h_C) : Nat → Nat → Int → Int → Int → h_C → Option h_C
  | 0 => fun _ _ _ _ _ => none
  | n + 1 => GL_Works_measureWays_37 k20 (GO_Works_measureWays_37 k20 n)
def GL_Works_measureWays_20 (k20 : Nat → Int → Int → h_C → Option h_C) (v0 : Nat) (v2 : Int) (v3 : Int) (c0 : h_C) : Option h_C :=
  p_gd (vW v0) <|
  if (c0 202 v0 0) ≤ v3 then
    some c0
  else
    if v2 = 0 then
      some c0
    else
      GO_Works_measureWays_37 k20 3000 v0 0 v3 0 c0
def GO_Works_measureWays_20  : Nat → Nat → Int → Int → h_C → Option h_C
  | 0 => fun _ _ _ _ => none
  | n + 1 => GL_Works_measureWays_20 (GO_Works_measureWays_20 n)
def G_Works_measureWays (v0 : Nat) (v1 : Int) (c0 : h_C) : Option h_C :=
  p_gd (vW v0) <|
  p_bi (sr c0 2038 v0 (fl (c0 2038 v0) 40 1000000)) fun c2 =>
  q_bd (G_Works_goAhead v0 v1 0 c2) fun r6 c7 =>
  GO_Works_measureWays_20 3000 v0 1 0 c7
set_option maxRecDepth 100000 in
set_option maxHeartbeats 4000000 in
theorem uB_Works_measureWays_76 (m : h_M) (j20 : Nat → Int → Int → p_Hp → Option p_Hp) (k20 : Nat → Int → Int → h_C → Option h_C) (hk20 : ∀ (v0 : Nat) (v2 : Int) (v3 : Int) (c0 : h_C) (r : h_C), k20 v0 v2 v3 c0 = some r → j20 (h_A 200 v0) v2 v3 (h_H c0 m) = some (h_H r m)) (j37 : Nat → Int → Int → Int → p_Hp → Option p_Hp) (k37 : Nat → Int → Int → Int → h_C → Option h_C) (hk37 : ∀ (v0 : Nat) (v2 : Int) (v3 : Int) (v4 : Int) (c0 : h_C) (r : h_C), k37 v0 v2 v3 v4 c0 = some r → j37 (h_A 200 v0) v2 v3 v4 (h_H c0 m) = some (h_H r m)) (v0 : Nat) (v2 : Int) (v3 : Int) (v4 : Int) (c0 : h_C) (r : h_C) (h : GB_Works_measureWays_76 k20 k37 v0 v2 v3 v4 c0 = some r) : B_Works_measureWays_76 j20 j37 (h_A 200 v0) v2 v3 v4 (h_H c0 m) = some (h_H r m) := by
  unfold GB_Works_measureWays_76 at h
  unfold B_Works_measureWays_76
  refine bV h ?_
  intro x1 h
  exact hk37 v0 v2 v3 x1 c0 _ h
set_option maxRecDepth 100000 in
set_option maxHeartbeats 4000000 in
theorem uL_Works_measureWays_37 (m : h_M) (j20 : Nat → Int → Int → p_Hp → Option p_Hp) (k20 : Nat → Int → Int → h_C → Option h_C) (hk20 : ∀ (v0 : Nat) (v2 : Int) (v3 : Int) (c0 : h_C) (r : h_C), k20 v0 v2 v3 c0 = some r → j20 (h_A 200 v0) v2 v3 (h_H c0 m) = some (h_H r m)) (j37 : Nat → Int → Int → Int → p_Hp → Option p_Hp) (k37 : Nat → Int → Int → Int → h_C → Option h_C) (hk37 : ∀ (v0 : Nat) (v2 : Int) (v3 : Int) (v4 : Int) (c0 : h_C) (r : h_C), k37 v0 v2 v3 v4 c0 = some r → j37 (h_A 200 v0) v2 v3 v4 (h_H c0 m) = some (h_H r m)) (v0 : Nat) (v2 : Int) (v3 : Int) (v4 : Int) (c0 : h_C) (r : h_C) (h : GL_Works_measureWays_37 k20 k37 v0 v2 v3 v4 c0 = some r) : L_Works_measureWays_37 j20 j37 (h_A 200 v0) v2 v3 v4 (h_H c0 m) = some (h_H r m) := by
  unfold GL_Works_measureWays_37 at h
  unfold L_Works_measureWays_37
  obtain ⟨g1, h⟩ := p_gdE h
  refine gdT (isD c0 m (d200 g1)) ?_
  try rw [zf202 c0 m g1]
  refine iteC Iff.rfl h (fun b2 h => ?_) (fun b2 h => ?_)
  · refine bV h ?_
    intro x3 h
    exact hk20 v0 v2 x3 c0 _ h
  · try rw [rD c0 m (rr200_14 g1)]
    refine gdT (isD c0 m (d2038 g1)) ?_
    obtain ⟨g5, h⟩ := p_gdE h
    refine gdT ⟨g5.1, by (try rw [lenD c0 m (d2038 g1)]); exact g5.2⟩ ?_
    try rw [zA c0 m (d2038 g1) (by decide) (v4 : Int).toNat]
    refine iteC Iff.rfl h (fun b6 h => ?_) (fun b6 h => ?_)
    · exact uB_Works_measureWays_76 m j20 k20 hk20 j37 k37 hk37 v0 v2 v3 v4 c0 _ h
    · try rw [rD c0 m (rr200_14 g1)]
      refine gdT ⟨g5.1, by (try rw [lenD c0 m (d2038 g1)]); exact g5.2⟩ ?_
      try rw [zA c0 m (d2038 g1) (by decide) (v4 : Int).toNat]
      obtain ⟨r9, c10, q7, h⟩ := q_bdE h
      refine bdC (u_Works_goAhead m v0 v4 (c0 2038 v0 (v4 : Int).toNat) c0 _ q7) ?_
      refine iteC Iff.rfl h (fun b12 h => ?_) (fun b12 h => ?_)
      · exact uB_Works_measureWays_76 m j20 k20 hk20 j37 k37 hk37 v0 v2 v3 v4 c10 _ h
      · exact uB_Works_measureWays_76 m j20 k20 hk20 j37 k37 hk37 v0 1 v3 v4 c10 _ h
set_option maxRecDepth 100000 in
set_option maxHeartbeats 4000000 in
theorem uO_Works_measureWays_37 (m : h_M) (j20 : Nat → Int → Int → p_Hp → Option p_Hp) (k20 : Nat → Int → Int → h_C → Option h_C) (hk20 : ∀ (v0 : Nat) (v2 : Int) (v3 : Int) (c0 : h_C) (r : h_C), k20 v0 v2 v3 c0 = some r → j20 (h_A 200 v0) v2 v3 (h_H c0 m) = some (h_H r m)) : ∀ (n : Nat) (v0 : Nat) (v2 : Int) (v3 : Int) (v4 : Int) (c0 : h_C) (r : h_C), GO_Works_measureWays_37 k20 n v0 v2 v3 v4 c0 = some r → O_Works_measureWays_37 j20 n (h_A 200 v0) v2 v3 v4 (h_H c0 m) = some (h_H r m) := by
  intro n
  induction n with
  | zero => intro v0 v2 v3 v4 c0 r h; cases h
  | succ n ih => intro v0 v2 v3 v4 c0 r h; exact uL_Works_measureWays_37 m j20 k20 hk20 (O_Works_measureWays_37 j20 n) (GO_Works_measureWays_37 k20 n) ih v0 v2 v3 v4 c0 r h
set_option maxRecDepth 100000 in
set_option maxHeartbeats 4000000 in
theorem uL_Works_measureWays_20 (m : h_M) (j20 : Nat → Int → Int → p_Hp → Option p_Hp) (k20 : Nat → Int → Int → h_C → Option h_C) (hk20 : ∀ (v0 : Nat) (v2 : Int) (v3 : Int) (c0 : h_C) (r : h_C), k20 v0 v2 v3 c0 = some r → j20 (h_A 200 v0) v2 v3 (h_H c0 m) = some (h_H r m)) (v0 : Nat) (v2 : Int) (v3 : Int) (c0 : h_C) (r : h_C) (h : GL_Works_measureWays_20 k20 v0 v2 v3 c0 = some r) : L_Works_measureWays_20 j20 (h_A 200 v0) v2 v3 (h_H c0 m) = some (h_H r m) := by
  unfold GL_Works_measureWays_20 at h
  unfold L_Works_measureWays_20
  obtain ⟨g1, h⟩ := p_gdE h
  refine gdT (isD c0 m (d200 g1)) ?_
  try rw [zf202 c0 m g1]
  refine iteC Iff.rfl h (fun b2 h => ?_) (fun b2 h => ?_)
  · cases h
    rfl
  · refine iteC Iff.rfl h (fun b3 h => ?_) (fun b3 h => ?_)
    · cases h
      rfl
    · exact uO_Works_measureWays_37 m j20 k20 hk20 3000 v0 0 v3 0 c0 _ h
set_option maxRecDepth 100000 in
set_option maxHeartbeats 4000000 in
theorem uO_Works_measureWays_20 (m : h_M)  : ∀ (n : Nat) (v0 : Nat) (v2 : Int) (v3 : Int) (c0 : h_C) (r : h_C), GO_Works_measureWays_20 n v0 v2 v3 c0 = some r → O_Works_measureWays_20 n (h_A 200 v0) v2 v3 (h_H c0 m) = some (h_H r m) := by
  intro n
  induction n with
  | zero => intro v0 v2 v3 c0 r h; cases h
  | succ n ih => intro v0 v2 v3 c0 r h; exact uL_Works_measureWays_20 m (O_Works_measureWays_20 n) (GO_Works_measureWays_20 n) ih v0 v2 v3 c0 r h
set_option maxRecDepth 100000 in
set_option maxHeartbeats 4000000 in
theorem u_Works_measureWays (m : h_M) (v0 : Nat) (v1 : Int) (c0 : h_C) (r : h_C) (h : G_Works_measureWays v0 v1 c0 = some r) : F_Works_measureWays (h_A 200 v0) v1 (h_H c0 m) = some (h_H r m) := by
  unfold G_Works_measureWays at h
  unfold F_Works_measureWays
  obtain ⟨g1, h⟩ := p_gdE h
  refine gdT (isD c0 m (d200 g1)) ?_
  try rw [rD c0 m (rr200_14 g1)]
  refine bvS (fillI c0 m (d2038 g1) (by decide) _) h ?_
  intro c2 h
  obtain ⟨r6, c7, q4, h⟩ := q_bdE h
  refine bdC (u_Works_goAhead m v0 v1 0 c2 _ q4) ?_
  exact uO_Works_measureWays_20 m 3000 v0 1 0 c7 _ h
def G_Works_fewestSlots (v0 : Nat) (v1 : Int) (v2 : Int) (c0 : h_C) : Option (Int × h_C) :=
  p_gd (vW v0) <|
  q_bv (G_Works_measureWays v0 v1 c0) fun c4 =>
  p_gd ((0 : Int) ≤ v2 ∧ v2 < (40 : Int)) <|
  if (c4 2038 v0 (v2 : Int).toNat) ≠ 1000000 then
    some ((c4 2038 v0 (v2 : Int).toNat), c4)
  else
    some ((-9), c4)
set_option maxRecDepth 100000 in
set_option maxHeartbeats 4000000 in
theorem u_Works_fewestSlots (m : h_M) (v0 : Nat) (v1 : Int) (v2 : Int) (c0 : h_C) (r : (Int × h_C)) (h : G_Works_fewestSlots v0 v1 v2 c0 = some r) : F_Works_fewestSlots (h_A 200 v0) v1 v2 (h_H c0 m) = some (r.1, (h_H r.2 m)) := by
  unfold G_Works_fewestSlots at h
  unfold F_Works_fewestSlots
  obtain ⟨g1, h⟩ := p_gdE h
  refine gdT (isD c0 m (d200 g1)) ?_
  obtain ⟨c4, q2, h⟩ := q_bvE h
  refine bvC (u_Works_measureWays m v0 v1 c0 _ q2) ?_
  try rw [rD c4 m (rr200_14 g1)]
  refine gdT (isD c4 m (d2038 g1)) ?_
  obtain ⟨g5, h⟩ := p_gdE h
  refine gdT ⟨g5.1, by (try rw [lenD c4 m (d2038 g1)]); exact g5.2⟩ ?_
  try rw [zA c4 m (d2038 g1) (by decide) (v2 : Int).toNat]
  refine iteC Iff.rfl h (fun b6 h => ?_) (fun b6 h => ?_)
  · try rw [rD c4 m (rr200_14 g1)]
    refine gdT ⟨g5.1, by (try rw [lenD c4 m (d2038 g1)]); exact g5.2⟩ ?_
    try rw [zA c4 m (d2038 g1) (by decide) (v2 : Int).toNat]
    cases h
    rfl
  · cases h
    rfl
def G_SW_far (v1 : Int) (v2 : Int) (c0 : h_C) : Option (Int × h_C) :=
  p_gd (0 ≤ c0 5000 0 0 ∧ c0 5000 0 0 < 3) <|
  q_bv (G_Works_gearOf (c0 5000 0 0).toNat v1 c0) fun r5 =>
  if r5 = 0 then
    some ((-1), c0)
  else
    q_bv (G_Works_gearOf (c0 5000 0 0).toNat v2 c0) fun r10 =>
    if r10 ≠ 0 then
      if v1 ≠ v2 then
        q_bd (G_Works_fewestSlots (c0 5000 0 0).toNat v1 v2 c0) fun r16 c17 =>
        some (r16, c17)
      else
        some (0, c0)
    else
      some ((-1), c0)
set_option maxRecDepth 100000 in
set_option maxHeartbeats 4000000 in
theorem u_SW_far (m : h_M) (v1 : Int) (v2 : Int) (c0 : h_C) (r : (Int × h_C)) (h : G_SW_far v1 v2 c0 = some r) : F_SW_far 1 v1 v2 (h_H c0 m) = some (r.1, (h_H r.2 m)) := by
  unfold G_SW_far at h
  unfold F_SW_far
  refine gdT (isD c0 m d600) ?_
  obtain ⟨g1, h⟩ := p_gdE h
  try rw [rm5000 c0 m g1]
  have hv2 : vW (c0 5000 0 0).toNat := by omega
  refine gdT (isD c0 m (d200 hv2)) ?_
  obtain ⟨r5, q3, h⟩ := q_bvE h
  refine bdC (u_Works_gearOf m (c0 5000 0 0).toNat v1 c0 _ q3) ?_
  refine iteC (h_A0z _) h (fun b7 h => ?_) (fun b7 h => ?_)
  · cases h
    rfl
  · try rw [rm5000 c0 m g1]
    refine gdT (isD c0 m (d200 hv2)) ?_
    obtain ⟨r10, q8, h⟩ := q_bvE h
    refine bdC (u_Works_gearOf m (c0 5000 0 0).toNat v2 c0 _ q8) ?_
    refine iteC (ne_iff (h_A0z _)) h (fun b12 h => ?_) (fun b12 h => ?_)
    · refine iteC Iff.rfl h (fun b13 h => ?_) (fun b13 h => ?_)
      · try rw [rm5000 c0 m g1]
        refine gdT (isD c0 m (d200 hv2)) ?_
        obtain ⟨r16, c17, q14, h⟩ := q_bdE h
        refine bdC (u_Works_fewestSlots m (c0 5000 0 0).toNat v1 v2 c0 _ q14) ?_
        cases h
        rfl
      · cases h
        rfl
    · cases h
      rfl
def GB_SW_reach_61 (k26 : Int → Int → h_C → Option (Int × h_C)) (v2 : Int) (v4 : Int) (c0 : h_C) : Option (Int × h_C) :=
  p_bi (p_w (v4 + 1)) fun x1 =>
  k26 v2 x1 c0
def GL_SW_reach_26 (k26 : Int → Int → h_C → Option (Int × h_C)) (v2 : Int) (v4 : Int) (c0 : h_C) : Option (Int × h_C) :=
  p_gd (0 ≤ c0 5000 0 0 ∧ c0 5000 0 0 < 3) <|
  if (c0 202 (c0 5000 0 0).toNat 0) ≤ v4 then
    some (v2, c0)
  else
    p_gd ((0 : Int) ≤ v4 ∧ v4 < (40 : Int)) <|
    if (c0 2038 (c0 5000 0 0).toNat (v4 : Int).toNat) = 1000000 then
      GB_SW_reach_61 k26 v2 v4 c0
    else
      p_bi ((p_or6 v2 (p_shl6 1 v4))) fun x7 =>
      GB_SW_reach_61 k26 x7 v4 c0
def GO_SW_reach_26  : Nat → Int → Int → h_C → Option (Int × h_C)
  | 0 => fun _ _ _ => none
  | n + 1 => GL_SW_reach_26 (GO_SW_reach_26 n)
def G_SW_reach (v1 : Int) (c0 : h_C) : Option (Int × h_C) :=
  p_gd (0 ≤ c0 5000 0 0 ∧ c0 5000 0 0 < 3) <|
  q_bv (G_Works_gearOf (c0 5000 0 0).toNat v1 c0) fun r5 =>
  if r5 ≠ 0 then
    q_bv (G_Works_measureWays (c0 5000 0 0).toNat v1 c0) fun c10 =>
    GO_SW_reach_26 3000 0 0 c10
  else
    some (0, c0)
set_option maxRecDepth 100000 in
set_option maxHeartbeats 4000000 in
theorem uB_SW_reach_61 (m : h_M) (j26 : Nat → Int → Int → p_Hp → Option (Int × p_Hp)) (k26 : Int → Int → h_C → Option (Int × h_C)) (hk26 : ∀ (v2 : Int) (v4 : Int) (c0 : h_C) (r : (Int × h_C)), k26 v2 v4 c0 = some r → j26 1 v2 v4 (h_H c0 m) = some (r.1, (h_H r.2 m))) (v2 : Int) (v4 : Int) (c0 : h_C) (r : (Int × h_C)) (h : GB_SW_reach_61 k26 v2 v4 c0 = some r) : B_SW_reach_61 j26 1 v2 v4 (h_H c0 m) = some (r.1, (h_H r.2 m)) := by
  unfold GB_SW_reach_61 at h
  unfold B_SW_reach_61
  refine bV h ?_
  intro x1 h
  exact hk26 v2 x1 c0 _ h
set_option maxRecDepth 100000 in
set_option maxHeartbeats 4000000 in
theorem uL_SW_reach_26 (m : h_M) (j26 : Nat → Int → Int → p_Hp → Option (Int × p_Hp)) (k26 : Int → Int → h_C → Option (Int × h_C)) (hk26 : ∀ (v2 : Int) (v4 : Int) (c0 : h_C) (r : (Int × h_C)), k26 v2 v4 c0 = some r → j26 1 v2 v4 (h_H c0 m) = some (r.1, (h_H r.2 m))) (v2 : Int) (v4 : Int) (c0 : h_C) (r : (Int × h_C)) (h : GL_SW_reach_26 k26 v2 v4 c0 = some r) : L_SW_reach_26 j26 1 v2 v4 (h_H c0 m) = some (r.1, (h_H r.2 m)) := by
  unfold GL_SW_reach_26 at h
  unfold L_SW_reach_26
  refine gdT (isD c0 m d600) ?_
  obtain ⟨g1, h⟩ := p_gdE h
  try rw [rm5000 c0 m g1]
  have hv2 : vW (c0 5000 0 0).toNat := by omega
  refine gdT (isD c0 m (d200 hv2)) ?_
  try rw [zf202 c0 m hv2]
  refine iteC Iff.rfl h (fun b3 h => ?_) (fun b3 h => ?_)
  · cases h
    rfl
  · try rw [rm5000 c0 m g1]
    try rw [rD c0 m (rr200_14 hv2)]
    refine gdT (isD c0 m (d2038 hv2)) ?_
    obtain ⟨g4, h⟩ := p_gdE h
    refine gdT ⟨g4.1, by (try rw [lenD c0 m (d2038 hv2)]); exact g4.2⟩ ?_
    try rw [zA c0 m (d2038 hv2) (by decide) (v4 : Int).toNat]
    refine iteC Iff.rfl h (fun b5 h => ?_) (fun b5 h => ?_)
    · exact uB_SW_reach_61 m j26 k26 hk26 v2 v4 c0 _ h
    · refine bV h ?_
      intro x7 h
      exact uB_SW_reach_61 m j26 k26 hk26 x7 v4 c0 _ h
set_option maxRecDepth 100000 in
set_option maxHeartbeats 4000000 in
theorem uO_SW_reach_26 (m : h_M)  : ∀ (n : Nat) (v2 : Int) (v4 : Int) (c0 : h_C) (r : (Int × h_C)), GO_SW_reach_26 n v2 v4 c0 = some r → O_SW_reach_26 n 1 v2 v4 (h_H c0 m) = some (r.1, (h_H r.2 m)) := by
  intro n
  induction n with
  | zero => intro v2 v4 c0 r h; cases h
  | succ n ih => intro v2 v4 c0 r h; exact uL_SW_reach_26 m (O_SW_reach_26 n) (GO_SW_reach_26 n) ih v2 v4 c0 r h
set_option maxRecDepth 100000 in
set_option maxHeartbeats 4000000 in
theorem u_SW_reach (m : h_M) (v1 : Int) (c0 : h_C) (r : (Int × h_C)) (h : G_SW_reach v1 c0 = some r) : F_SW_reach 1 v1 (h_H c0 m) = some (r.1, (h_H r.2 m)) := by
  unfold G_SW_reach at h
  unfold F_SW_reach
  refine gdT (isD c0 m d600) ?_
  obtain ⟨g1, h⟩ := p_gdE h
  try rw [rm5000 c0 m g1]
  have hv2 : vW (c0 5000 0 0).toNat := by omega
  refine gdT (isD c0 m (d200 hv2)) ?_
  obtain ⟨r5, q3, h⟩ := q_bvE h
  refine bdC (u_Works_gearOf m (c0 5000 0 0).toNat v1 c0 _ q3) ?_
  refine iteC (ne_iff (h_A0z _)) h (fun b7 h => ?_) (fun b7 h => ?_)
  · try rw [rm5000 c0 m g1]
    refine gdT (isD c0 m (d200 hv2)) ?_
    obtain ⟨c10, q8, h⟩ := q_bvE h
    refine bvC (u_Works_measureWays m (c0 5000 0 0).toNat v1 c0 _ q8) ?_
    exact uO_SW_reach_26 m 3000 0 0 c10 _ h
  · cases h
    rfl
def G_SW_ring (v1 : Int) (c0 : h_C) : Option (Int × h_C) :=
  p_gd (0 ≤ c0 5000 0 0 ∧ c0 5000 0 0 < 3) <|
  q_bv (G_Works_gearOf (c0 5000 0 0).toNat v1 c0) fun r5 =>
  if r5 ≠ 0 then
    q_bd (G_Works_fewestSlots (c0 5000 0 0).toNat v1 v1 c0) fun r10 c11 =>
    some (r10, c11)
  else
    some ((-1), c0)
set_option maxRecDepth 100000 in
set_option maxHeartbeats 4000000 in
theorem u_SW_ring (m : h_M) (v1 : Int) (c0 : h_C) (r : (Int × h_C)) (h : G_SW_ring v1 c0 = some r) : F_SW_ring 1 v1 (h_H c0 m) = some (r.1, (h_H r.2 m)) := by
  unfold G_SW_ring at h
  unfold F_SW_ring
  refine gdT (isD c0 m d600) ?_
  obtain ⟨g1, h⟩ := p_gdE h
  try rw [rm5000 c0 m g1]
  have hv2 : vW (c0 5000 0 0).toNat := by omega
  refine gdT (isD c0 m (d200 hv2)) ?_
  obtain ⟨r5, q3, h⟩ := q_bvE h
  refine bdC (u_Works_gearOf m (c0 5000 0 0).toNat v1 c0 _ q3) ?_
  refine iteC (ne_iff (h_A0z _)) h (fun b7 h => ?_) (fun b7 h => ?_)
  · try rw [rm5000 c0 m g1]
    refine gdT (isD c0 m (d200 hv2)) ?_
    obtain ⟨r10, c11, q8, h⟩ := q_bdE h
    refine bdC (u_Works_fewestSlots m (c0 5000 0 0).toNat v1 v1 c0 _ q8) ?_
    cases h
    rfl
  · cases h
    rfl
def GL_SW_audit_2 (k2 : Int → h_C → Option Int) (v1 : Int) (c0 : h_C) : Option Int :=
  p_gd (0 ≤ c0 5000 0 0 ∧ c0 5000 0 0 < 3) <|
  if (c0 202 (c0 5000 0 0).toNat 0) ≤ v1 then
    some (-9)
  else
    p_gd ((0 : Int) ≤ v1 ∧ v1 < (40 : Int)) <|
    q_bv (G_Gear_parcels (40 * (c0 5000 0 0).toNat + (v1 : Int).toNat + 1) c0) fun r9 =>
    if (p_w ((c0 10 (40 * (c0 5000 0 0).toNat + (v1 : Int).toNat + 1) 0) - (c0 11 (40 * (c0 5000 0 0).toNat + (v1 : Int).toNat + 1) 0))) = r9 then
      p_bi (p_w (v1 + 1)) fun x12 =>
      k2 x12 c0
    else
      some v1
def GO_SW_audit_2  : Nat → Int → h_C → Option Int
  | 0 => fun _ _ => none
  | n + 1 => GL_SW_audit_2 (GO_SW_audit_2 n)
def G_SW_audit  (c0 : h_C) : Option Int :=
  GO_SW_audit_2 3000 0 c0
set_option maxRecDepth 100000 in
set_option maxHeartbeats 4000000 in
theorem uL_SW_audit_2 (m : h_M) (j2 : Nat → Int → p_Hp → Option (Int × p_Hp)) (k2 : Int → h_C → Option Int) (hk2 : ∀ (v1 : Int) (c0 : h_C) (r : Int), k2 v1 c0 = some r → j2 1 v1 (h_H c0 m) = some (r, (h_H c0 m))) (v1 : Int) (c0 : h_C) (r : Int) (h : GL_SW_audit_2 k2 v1 c0 = some r) : L_SW_audit_2 j2 1 v1 (h_H c0 m) = some (r, (h_H c0 m)) := by
  unfold GL_SW_audit_2 at h
  unfold L_SW_audit_2
  refine gdT (isD c0 m d600) ?_
  obtain ⟨g1, h⟩ := p_gdE h
  try rw [rm5000 c0 m g1]
  have hv2 : vW (c0 5000 0 0).toNat := by omega
  refine gdT (isD c0 m (d200 hv2)) ?_
  try rw [zf202 c0 m hv2]
  refine iteC Iff.rfl h (fun b3 h => ?_) (fun b3 h => ?_)
  · cases h
    rfl
  · try rw [rm5000 c0 m g1]
    try rw [rD c0 m (rr200_1 hv2)]
    refine gdT (isD c0 m (d300 hv2)) ?_
    try rw [rD c0 m (rr300_4 hv2)]
    refine gdT (isD c0 m (d2001 hv2)) ?_
    obtain ⟨g4, h⟩ := p_gdE h
    refine gdT ⟨g4.1, by (try rw [lenD c0 m (d2001 hv2)]); exact g4.2⟩ ?_
    try rw [rD c0 m (el2001 (k := (v1 : Int).toNat) hv2 (Nat.zero_le _) (by omega))]
    have hv5 : vG (40 * (c0 5000 0 0).toNat + (v1 : Int).toNat + 1) := ⟨by omega, by have := hv2; omega⟩
    refine bX ?_
    refine gdT (isD c0 m (d0 hv5)) ?_
    try rw [zf10 c0 m hv5]
    try rw [zf11 c0 m hv5]
    obtain ⟨r9, q7, h⟩ := q_bvE h
    refine bdC (u_Gear_parcels m (40 * (c0 5000 0 0).toNat + (v1 : Int).toNat + 1) c0 _ q7) ?_
    refine iteC Iff.rfl h (fun b11 h => ?_) (fun b11 h => ?_)
    · refine bV h ?_
      intro x12 h
      exact hk2 x12 c0 _ h
    · cases h
      rfl
set_option maxRecDepth 100000 in
set_option maxHeartbeats 4000000 in
theorem uO_SW_audit_2 (m : h_M)  : ∀ (n : Nat) (v1 : Int) (c0 : h_C) (r : Int), GO_SW_audit_2 n v1 c0 = some r → O_SW_audit_2 n 1 v1 (h_H c0 m) = some (r, (h_H c0 m)) := by
  intro n
  induction n with
  | zero => intro v1 c0 r h; cases h
  | succ n ih => intro v1 c0 r h; exact uL_SW_audit_2 m (O_SW_audit_2 n) (GO_SW_audit_2 n) ih v1 c0 r h
set_option maxRecDepth 100000 in
set_option maxHeartbeats 4000000 in
theorem u_SW_audit (m : h_M)  (c0 : h_C) (r : Int) (h : G_SW_audit  c0 = some r) : F_SW_audit 1 (h_H c0 m) = some (r, (h_H c0 m)) := by
  unfold G_SW_audit at h
  unfold F_SW_audit
  exact uO_SW_audit_2 m 3000 0 c0 _ h
def G_SW_count (v1 : Int) (c0 : h_C) : Option Int :=
  if v1 = 0 then
    p_gd (0 ≤ c0 5000 0 0 ∧ c0 5000 0 0 < 3) <|
    some (c0 202 (c0 5000 0 0).toNat 0)
  else if v1 = 1 then
    p_gd (0 ≤ c0 5000 0 0 ∧ c0 5000 0 0 < 3) <|
    some (c0 302 (c0 5000 0 0).toNat 0)
  else if v1 = 2 then
    p_gd (0 ≤ c0 5000 0 0 ∧ c0 5000 0 0 < 3) <|
    some (c0 301 (c0 5000 0 0).toNat 0)
  else if v1 = 3 then
    p_gd (0 ≤ c0 5000 0 0 ∧ c0 5000 0 0 < 3) <|
    some (c0 403 (2 * (c0 5000 0 0).toNat + 1) 0)
  else if v1 = 4 then
    p_gd (0 ≤ c0 5000 0 0 ∧ c0 5000 0 0 < 3) <|
    some (c0 500 (c0 5000 0 0).toNat 0)
  else if v1 = 5 then
    p_gd (0 ≤ c0 5000 0 0 ∧ c0 5000 0 0 < 3) <|
    some (c0 300 (c0 5000 0 0).toNat 0)
  else if v1 = 6 then
    p_gd (0 ≤ c0 5000 0 0 ∧ c0 5000 0 0 < 3) <|
    some (c0 403 (2 * (c0 5000 0 0).toNat) 0)
  else if v1 = 7 then
    some (c0 607 0 0)
  else if v1 = 8 then
    p_gd (0 ≤ c0 5000 0 0 ∧ c0 5000 0 0 < 3) <|
    some (c0 213 (c0 5000 0 0).toNat 0)
  else if v1 = 9 then
    p_gd (0 ≤ c0 5000 0 0 ∧ c0 5000 0 0 < 3) <|
    some (c0 211 (c0 5000 0 0).toNat 0)
  else if v1 = 10 then
    some (c0 606 0 0)
  else if v1 = 11 then
    p_gd (0 ≤ c0 5000 0 0 ∧ c0 5000 0 0 < 3) <|
    some (c0 206 (c0 5000 0 0).toNat 0)
  else if v1 = 12 then
    p_gd (0 ≤ c0 5000 0 0 ∧ c0 5000 0 0 < 3) <|
    some (c0 200 (c0 5000 0 0).toNat 0)
  else if v1 = 13 then
    some (c0 701 0 0)
  else 
  some (-9)
set_option maxRecDepth 100000 in
set_option maxHeartbeats 4000000 in
theorem u_SW_count (m : h_M) (v1 : Int) (c0 : h_C) (r : Int) (h : G_SW_count v1 c0 = some r) : F_SW_count 1 v1 (h_H c0 m) = some (r, (h_H c0 m)) := by
  unfold G_SW_count at h
  unfold F_SW_count
  refine iteC Iff.rfl h (fun b1 h => ?_) (fun b1 h => ?_)
  · refine gdT (isD c0 m d600) ?_
    obtain ⟨g2, h⟩ := p_gdE h
    try rw [rm5000 c0 m g2]
    have hv3 : vW (c0 5000 0 0).toNat := by omega
    refine gdT (isD c0 m (d200 hv3)) ?_
    try rw [zf202 c0 m hv3]
    cases h
    rfl
  refine iteC Iff.rfl h (fun b4 h => ?_) (fun b4 h => ?_)
  · refine gdT (isD c0 m d600) ?_
    obtain ⟨g5, h⟩ := p_gdE h
    try rw [rm5000 c0 m g5]
    have hv6 : vW (c0 5000 0 0).toNat := by omega
    refine gdT (isD c0 m (d200 hv6)) ?_
    try rw [rD c0 m (rr200_1 hv6)]
    refine gdT (isD c0 m (d300 hv6)) ?_
    try rw [zf302 c0 m hv6]
    cases h
    rfl
  refine iteC Iff.rfl h (fun b7 h => ?_) (fun b7 h => ?_)
  · refine gdT (isD c0 m d600) ?_
    obtain ⟨g8, h⟩ := p_gdE h
    try rw [rm5000 c0 m g8]
    have hv9 : vW (c0 5000 0 0).toNat := by omega
    refine gdT (isD c0 m (d200 hv9)) ?_
    try rw [rD c0 m (rr200_1 hv9)]
    refine gdT (isD c0 m (d300 hv9)) ?_
    try rw [zf301 c0 m hv9]
    cases h
    rfl
  refine iteC Iff.rfl h (fun b10 h => ?_) (fun b10 h => ?_)
  · refine gdT (isD c0 m d600) ?_
    obtain ⟨g11, h⟩ := p_gdE h
    try rw [rm5000 c0 m g11]
    have hv12 : vW (c0 5000 0 0).toNat := by omega
    refine gdT (isD c0 m (d200 hv12)) ?_
    try rw [rD c0 m (rr200_1 hv12)]
    refine gdT (isD c0 m (d300 hv12)) ?_
    try rw [rD c0 m (rr300_8 hv12)]
    have hv13 : vL (2 * (c0 5000 0 0).toNat + 1) := by have := hv12; omega
    refine gdT (isD c0 m (d400 hv13)) ?_
    try rw [zf403 c0 m hv13]
    cases h
    rfl
  refine iteC Iff.rfl h (fun b14 h => ?_) (fun b14 h => ?_)
  · refine gdT (isD c0 m d600) ?_
    obtain ⟨g15, h⟩ := p_gdE h
    try rw [rm5000 c0 m g15]
    have hv16 : vW (c0 5000 0 0).toNat := by omega
    refine gdT (isD c0 m (d200 hv16)) ?_
    try rw [rD c0 m (rr200_3 hv16)]
    have hv17 : vR (c0 5000 0 0).toNat := by have := hv16; omega
    refine gdT (isD c0 m (d500 hv17)) ?_
    try rw [zf500 c0 m hv17]
    cases h
    rfl
  refine iteC Iff.rfl h (fun b18 h => ?_) (fun b18 h => ?_)
  · refine gdT (isD c0 m d600) ?_
    obtain ⟨g19, h⟩ := p_gdE h
    try rw [rm5000 c0 m g19]
    have hv20 : vW (c0 5000 0 0).toNat := by omega
    refine gdT (isD c0 m (d200 hv20)) ?_
    try rw [rD c0 m (rr200_1 hv20)]
    refine gdT (isD c0 m (d300 hv20)) ?_
    try rw [zf300 c0 m hv20]
    cases h
    rfl
  refine iteC Iff.rfl h (fun b21 h => ?_) (fun b21 h => ?_)
  · refine gdT (isD c0 m d600) ?_
    obtain ⟨g22, h⟩ := p_gdE h
    try rw [rm5000 c0 m g22]
    have hv23 : vW (c0 5000 0 0).toNat := by omega
    refine gdT (isD c0 m (d200 hv23)) ?_
    try rw [rD c0 m (rr200_1 hv23)]
    refine gdT (isD c0 m (d300 hv23)) ?_
    try rw [rD c0 m (rr300_7 hv23)]
    have hv24 : vL (2 * (c0 5000 0 0).toNat) := by have := hv23; omega
    refine gdT (isD c0 m (d400 hv24)) ?_
    try rw [zf403 c0 m hv24]
    cases h
    rfl
  refine iteC Iff.rfl h (fun b25 h => ?_) (fun b25 h => ?_)
  · refine gdT (isD c0 m d600) ?_
    try rw [zf607 c0 m]
    cases h
    rfl
  refine iteC Iff.rfl h (fun b26 h => ?_) (fun b26 h => ?_)
  · refine gdT (isD c0 m d600) ?_
    obtain ⟨g27, h⟩ := p_gdE h
    try rw [rm5000 c0 m g27]
    have hv28 : vW (c0 5000 0 0).toNat := by omega
    refine gdT (isD c0 m (d200 hv28)) ?_
    try rw [zf213 c0 m hv28]
    cases h
    rfl
  refine iteC Iff.rfl h (fun b29 h => ?_) (fun b29 h => ?_)
  · refine gdT (isD c0 m d600) ?_
    obtain ⟨g30, h⟩ := p_gdE h
    try rw [rm5000 c0 m g30]
    have hv31 : vW (c0 5000 0 0).toNat := by omega
    refine gdT (isD c0 m (d200 hv31)) ?_
    try rw [zf211 c0 m hv31]
    cases h
    rfl
  refine iteC Iff.rfl h (fun b32 h => ?_) (fun b32 h => ?_)
  · refine gdT (isD c0 m d600) ?_
    try rw [zf606 c0 m]
    cases h
    rfl
  refine iteC Iff.rfl h (fun b33 h => ?_) (fun b33 h => ?_)
  · refine gdT (isD c0 m d600) ?_
    obtain ⟨g34, h⟩ := p_gdE h
    try rw [rm5000 c0 m g34]
    have hv35 : vW (c0 5000 0 0).toNat := by omega
    refine gdT (isD c0 m (d200 hv35)) ?_
    try rw [zf206 c0 m hv35]
    cases h
    rfl
  refine iteC Iff.rfl h (fun b36 h => ?_) (fun b36 h => ?_)
  · refine gdT (isD c0 m d600) ?_
    obtain ⟨g37, h⟩ := p_gdE h
    try rw [rm5000 c0 m g37]
    have hv38 : vW (c0 5000 0 0).toNat := by omega
    refine gdT (isD c0 m (d200 hv38)) ?_
    try rw [zf200 c0 m hv38]
    cases h
    rfl
  refine iteC Iff.rfl h (fun b39 h => ?_) (fun b39 h => ?_)
  · refine gdT (isD c0 m d600) ?_
    try rw [rs1_2 c0 m]
    refine gdT (isD c0 m d700) ?_
    try rw [zf701 c0 m]
    cases h
    rfl
  cases h
  rfl
def G_SW_mixed (v0 : Int) (v2 : Int) (c0 : h_C) : Option Int :=
  some (p_w6 ((p_w6 (31 * v0)) + v2))
set_option maxRecDepth 100000 in
set_option maxHeartbeats 4000000 in
theorem u_SW_mixed (m : h_M) (v0 : Int) (v2 : Int) (c0 : h_C) (r : Int) (h : G_SW_mixed v0 v2 c0 = some r) : F_SW_mixed v0 v2 (h_H c0 m) = some (r, (h_H c0 m)) := by
  unfold G_SW_mixed at h
  unfold F_SW_mixed
  cases h
  rfl
def GB_SW_mixedGear_107 (k42 : Nat → Int → Int → h_C → Option Int) (v3 : Nat) (v6 : Int) (w0 : Int) (c0 : h_C) : Option Int :=
  p_bi (p_w (v6 + 1)) fun x1 =>
  k42 v3 w0 x1 c0
def GL_SW_mixedGear_42 (k42 : Nat → Int → Int → h_C → Option Int) (v3 : Nat) (v4 : Int) (v6 : Int) (c0 : h_C) : Option Int :=
  p_gd (vG v3) <|
  if (c0 1 v3 0) ≤ v6 then
    some v4
  else
    p_gd (0 ≤ c0 5000 0 0 ∧ c0 5000 0 0 < 3) <|
    q_bv (G_State_inSlot (c0 5000 0 0).toNat v3 v6 c0) fun r7 =>
    if r7 ≠ 0 then
      p_gd (vP r7) <|
      q_bv (G_SW_mixed v4 (p_w ((p_w (16 * (c0 102 r7 0))) + (c0 103 r7 0))) c0) fun r13 =>
      q_bv (G_SW_mixed r13 (c0 104 r7 0) c0) fun r17 =>
      GB_SW_mixedGear_107 k42 v3 v6 r17 c0
    else
      q_bv (G_SW_mixed v4 0 c0) fun r21 =>
      GB_SW_mixedGear_107 k42 v3 v6 r21 c0
def GO_SW_mixedGear_42  : Nat → Nat → Int → Int → h_C → Option Int
  | 0 => fun _ _ _ _ => none
  | n + 1 => GL_SW_mixedGear_42 (GO_SW_mixedGear_42 n)
def GL_SW_mixedGear_13 (k13 : Nat → Int → Int → h_C → Option Int) (v3 : Nat) (v4 : Int) (v6 : Int) (c0 : h_C) : Option Int :=
  if 14 < v6 then
    GO_SW_mixedGear_42 3000 v3 v4 0 c0
  else
    p_gd (vG v3) <|
    q_bv (G_Gear_tell v3 v6 c0) fun r5 =>
    q_bv (G_SW_mixed v4 r5 c0) fun r9 =>
    p_bi (p_w (v6 + 1)) fun x11 =>
    k13 v3 r9 x11 c0
def GO_SW_mixedGear_13  : Nat → Nat → Int → Int → h_C → Option Int
  | 0 => fun _ _ _ _ => none
  | n + 1 => GL_SW_mixedGear_13 (GO_SW_mixedGear_13 n)
def G_SW_mixedGear (v1 : Int) (v3 : Nat) (c0 : h_C) : Option Int :=
  p_gd (vG v3) <|
  q_bv (G_SW_mixed v1 (c0 0 v3 0) c0) fun r4 =>
  GO_SW_mixedGear_13 3000 v3 r4 2 c0
set_option maxRecDepth 100000 in
set_option maxHeartbeats 4000000 in
theorem uB_SW_mixedGear_107 (m : h_M) (j42 : Nat → Nat → Int → Int → p_Hp → Option (Int × p_Hp)) (k42 : Nat → Int → Int → h_C → Option Int) (hk42 : ∀ (v3 : Nat) (v4 : Int) (v6 : Int) (c0 : h_C) (r : Int), k42 v3 v4 v6 c0 = some r → j42 1 (h_A 0 v3) v4 v6 (h_H c0 m) = some (r, (h_H c0 m))) (v3 : Nat) (v6 : Int) (w0 : Int) (c0 : h_C) (r : Int) (h : GB_SW_mixedGear_107 k42 v3 v6 w0 c0 = some r) : B_SW_mixedGear_107 j42 1 (h_A 0 v3) v6 w0 (h_H c0 m) = some (r, (h_H c0 m)) := by
  unfold GB_SW_mixedGear_107 at h
  unfold B_SW_mixedGear_107
  refine bV h ?_
  intro x1 h
  exact hk42 v3 w0 x1 c0 _ h
set_option maxRecDepth 100000 in
set_option maxHeartbeats 4000000 in
theorem uL_SW_mixedGear_42 (m : h_M) (j42 : Nat → Nat → Int → Int → p_Hp → Option (Int × p_Hp)) (k42 : Nat → Int → Int → h_C → Option Int) (hk42 : ∀ (v3 : Nat) (v4 : Int) (v6 : Int) (c0 : h_C) (r : Int), k42 v3 v4 v6 c0 = some r → j42 1 (h_A 0 v3) v4 v6 (h_H c0 m) = some (r, (h_H c0 m))) (v3 : Nat) (v4 : Int) (v6 : Int) (c0 : h_C) (r : Int) (h : GL_SW_mixedGear_42 k42 v3 v4 v6 c0 = some r) : L_SW_mixedGear_42 j42 1 (h_A 0 v3) v4 v6 (h_H c0 m) = some (r, (h_H c0 m)) := by
  unfold GL_SW_mixedGear_42 at h
  unfold L_SW_mixedGear_42
  obtain ⟨g1, h⟩ := p_gdE h
  refine gdT (isD c0 m (d0 g1)) ?_
  try rw [zf1 c0 m g1]
  refine iteC Iff.rfl h (fun b2 h => ?_) (fun b2 h => ?_)
  · cases h
    rfl
  · refine gdT (isD c0 m d600) ?_
    obtain ⟨g3, h⟩ := p_gdE h
    try rw [rm5000 c0 m g3]
    have hv4 : vW (c0 5000 0 0).toNat := by omega
    refine gdT (isD c0 m (d200 hv4)) ?_
    try rw [rD c0 m (rr200_1 hv4)]
    refine gdT (isD c0 m (d300 hv4)) ?_
    obtain ⟨r7, q5, h⟩ := q_bvE h
    refine bdC (u_State_inSlot m (c0 5000 0 0).toNat v3 v6 c0 _ q5) ?_
    refine iteC (ne_iff (h_A100z _)) h (fun b9 h => ?_) (fun b9 h => ?_)
    · obtain ⟨g10, h⟩ := p_gdE h
      refine gdT (isD c0 m (d100 g10)) ?_
      try rw [zf102 c0 m g10]
      try rw [zf103 c0 m g10]
      obtain ⟨r13, q11, h⟩ := q_bvE h
      refine bdC (u_SW_mixed m v4 (p_w ((p_w (16 * (c0 102 r7 0))) + (c0 103 r7 0))) c0 _ q11) ?_
      try rw [zf104 c0 m g10]
      obtain ⟨r17, q15, h⟩ := q_bvE h
      refine bdC (u_SW_mixed m r13 (c0 104 r7 0) c0 _ q15) ?_
      exact uB_SW_mixedGear_107 m j42 k42 hk42 v3 v6 r17 c0 _ h
    · obtain ⟨r21, q19, h⟩ := q_bvE h
      refine bdC (u_SW_mixed m v4 0 c0 _ q19) ?_
      exact uB_SW_mixedGear_107 m j42 k42 hk42 v3 v6 r21 c0 _ h
set_option maxRecDepth 100000 in
set_option maxHeartbeats 4000000 in
theorem uO_SW_mixedGear_42 (m : h_M)  : ∀ (n : Nat) (v3 : Nat) (v4 : Int) (v6 : Int) (c0 : h_C) (r : Int), GO_SW_mixedGear_42 n v3 v4 v6 c0 = some r → O_SW_mixedGear_42 n 1 (h_A 0 v3) v4 v6 (h_H c0 m) = some (r, (h_H c0 m)) := by
  intro n
  induction n with
  | zero => intro v3 v4 v6 c0 r h; cases h
  | succ n ih => intro v3 v4 v6 c0 r h; exact uL_SW_mixedGear_42 m (O_SW_mixedGear_42 n) (GO_SW_mixedGear_42 n) ih v3 v4 v6 c0 r h
set_option maxRecDepth 100000 in
set_option maxHeartbeats 4000000 in
theorem uL_SW_mixedGear_13 (m : h_M) (j13 : Nat → Nat → Int → Int → p_Hp → Option (Int × p_Hp)) (k13 : Nat → Int → Int → h_C → Option Int) (hk13 : ∀ (v3 : Nat) (v4 : Int) (v6 : Int) (c0 : h_C) (r : Int), k13 v3 v4 v6 c0 = some r → j13 1 (h_A 0 v3) v4 v6 (h_H c0 m) = some (r, (h_H c0 m))) (v3 : Nat) (v4 : Int) (v6 : Int) (c0 : h_C) (r : Int) (h : GL_SW_mixedGear_13 k13 v3 v4 v6 c0 = some r) : L_SW_mixedGear_13 j13 1 (h_A 0 v3) v4 v6 (h_H c0 m) = some (r, (h_H c0 m)) := by
  unfold GL_SW_mixedGear_13 at h
  unfold L_SW_mixedGear_13
  refine iteC Iff.rfl h (fun b1 h => ?_) (fun b1 h => ?_)
  · exact uO_SW_mixedGear_42 m 3000 v3 v4 0 c0 _ h
  · obtain ⟨g2, h⟩ := p_gdE h
    refine gdT (isD c0 m (d0 g2)) ?_
    obtain ⟨r5, q3, h⟩ := q_bvE h
    refine bdC (u_Gear_tell m v3 v6 c0 _ q3) ?_
    obtain ⟨r9, q7, h⟩ := q_bvE h
    refine bdC (u_SW_mixed m v4 r5 c0 _ q7) ?_
    refine bV h ?_
    intro x11 h
    exact hk13 v3 r9 x11 c0 _ h
set_option maxRecDepth 100000 in
set_option maxHeartbeats 4000000 in
theorem uO_SW_mixedGear_13 (m : h_M)  : ∀ (n : Nat) (v3 : Nat) (v4 : Int) (v6 : Int) (c0 : h_C) (r : Int), GO_SW_mixedGear_13 n v3 v4 v6 c0 = some r → O_SW_mixedGear_13 n 1 (h_A 0 v3) v4 v6 (h_H c0 m) = some (r, (h_H c0 m)) := by
  intro n
  induction n with
  | zero => intro v3 v4 v6 c0 r h; cases h
  | succ n ih => intro v3 v4 v6 c0 r h; exact uL_SW_mixedGear_13 m (O_SW_mixedGear_13 n) (GO_SW_mixedGear_13 n) ih v3 v4 v6 c0 r h
set_option maxRecDepth 100000 in
set_option maxHeartbeats 4000000 in
theorem u_SW_mixedGear (m : h_M) (v1 : Int) (v3 : Nat) (c0 : h_C) (r : Int) (h : G_SW_mixedGear v1 v3 c0 = some r) : F_SW_mixedGear 1 v1 (h_A 0 v3) (h_H c0 m) = some (r, (h_H c0 m)) := by
  unfold G_SW_mixedGear at h
  unfold F_SW_mixedGear
  obtain ⟨g1, h⟩ := p_gdE h
  refine gdT (isD c0 m (d0 g1)) ?_
  try rw [zf0 c0 m g1]
  obtain ⟨r4, q2, h⟩ := q_bvE h
  refine bdC (u_SW_mixed m v1 (c0 0 v3 0) c0 _ q2) ?_
  exact uO_SW_mixedGear_13 m 3000 v3 r4 2 c0 _ h
def GL_SW_digest_32 (k32 : Nat → Int → Int → h_C → Option Int) (v1 : Nat) (v2 : Int) (v4 : Int) (c0 : h_C) : Option Int :=
  p_gd (0 ≤ c0 5000 0 0 ∧ c0 5000 0 0 < 3) <|
  if (c0 202 (c0 5000 0 0).toNat 0) ≤ v4 then
    p_gd (vW v1) <|
    q_bv (G_SW_mixed v2 (c0 302 v1 0) c0) fun r7 =>
    q_bv (G_SW_mixed r7 (c0 301 v1 0) c0) fun r11 =>
    q_bv (G_SW_mixed r11 (c0 403 (2 * v1 + 1) 0) c0) fun r16 =>
    q_bv (G_SW_mixed r16 (c0 403 (2 * v1) 0) c0) fun r21 =>
    some r21
  else
    p_gd (vW v1) <|
    p_gd ((0 : Int) ≤ v4 ∧ v4 < (40 : Int)) <|
    q_bv (G_SW_mixedGear v2 (40 * v1 + (v4 : Int).toNat + 1) c0) fun r28 =>
    p_bi (p_w (v4 + 1)) fun x30 =>
    k32 v1 r28 x30 c0
def GO_SW_digest_32  : Nat → Nat → Int → Int → h_C → Option Int
  | 0 => fun _ _ _ _ => none
  | n + 1 => GL_SW_digest_32 (GO_SW_digest_32 n)
def G_SW_digest  (c0 : h_C) : Option Int :=
  p_gd (0 ≤ c0 5000 0 0 ∧ c0 5000 0 0 < 3) <|
  q_bv (G_SW_mixed 17 (c0 300 (c0 5000 0 0).toNat 0) c0) fun r6 =>
  q_bv (G_SW_mixed r6 (c0 202 (c0 5000 0 0).toNat 0) c0) fun r10 =>
  GO_SW_digest_32 3000 (c0 5000 0 0).toNat r10 0 c0
set_option maxRecDepth 100000 in
set_option maxHeartbeats 4000000 in
theorem uL_SW_digest_32 (m : h_M) (j32 : Nat → Nat → Int → Int → p_Hp → Option (Int × p_Hp)) (k32 : Nat → Int → Int → h_C → Option Int) (hk32 : ∀ (v1 : Nat) (v2 : Int) (v4 : Int) (c0 : h_C) (r : Int), k32 v1 v2 v4 c0 = some r → j32 1 (h_A 300 v1) v2 v4 (h_H c0 m) = some (r, (h_H c0 m))) (v1 : Nat) (v2 : Int) (v4 : Int) (c0 : h_C) (r : Int) (h : GL_SW_digest_32 k32 v1 v2 v4 c0 = some r) : L_SW_digest_32 j32 1 (h_A 300 v1) v2 v4 (h_H c0 m) = some (r, (h_H c0 m)) := by
  unfold GL_SW_digest_32 at h
  unfold L_SW_digest_32
  refine gdT (isD c0 m d600) ?_
  obtain ⟨g1, h⟩ := p_gdE h
  try rw [rm5000 c0 m g1]
  have hv2 : vW (c0 5000 0 0).toNat := by omega
  refine gdT (isD c0 m (d200 hv2)) ?_
  try rw [zf202 c0 m hv2]
  refine iteC Iff.rfl h (fun b3 h => ?_) (fun b3 h => ?_)
  · obtain ⟨g4, h⟩ := p_gdE h
    refine gdT (isD c0 m (d300 g4)) ?_
    try rw [zf302 c0 m g4]
    obtain ⟨r7, q5, h⟩ := q_bvE h
    refine bdC (u_SW_mixed m v2 (c0 302 v1 0) c0 _ q5) ?_
    try rw [zf301 c0 m g4]
    obtain ⟨r11, q9, h⟩ := q_bvE h
    refine bdC (u_SW_mixed m r7 (c0 301 v1 0) c0 _ q9) ?_
    try rw [rD c0 m (rr300_8 g4)]
    have hv13 : vL (2 * v1 + 1) := by have := g4; omega
    refine gdT (isD c0 m (d400 hv13)) ?_
    try rw [zf403 c0 m hv13]
    obtain ⟨r16, q14, h⟩ := q_bvE h
    refine bdC (u_SW_mixed m r11 (c0 403 (2 * v1 + 1) 0) c0 _ q14) ?_
    try rw [rD c0 m (rr300_7 g4)]
    have hv18 : vL (2 * v1) := by have := g4; omega
    refine gdT (isD c0 m (d400 hv18)) ?_
    try rw [zf403 c0 m hv18]
    obtain ⟨r21, q19, h⟩ := q_bvE h
    refine bdC (u_SW_mixed m r16 (c0 403 (2 * v1) 0) c0 _ q19) ?_
    cases h
    rfl
  · obtain ⟨g23, h⟩ := p_gdE h
    refine gdT (isD c0 m (d300 g23)) ?_
    try rw [rD c0 m (rr300_4 g23)]
    refine gdT (isD c0 m (d2001 g23)) ?_
    obtain ⟨g24, h⟩ := p_gdE h
    refine gdT ⟨g24.1, by (try rw [lenD c0 m (d2001 g23)]); exact g24.2⟩ ?_
    try rw [rD c0 m (el2001 (k := (v4 : Int).toNat) g23 (Nat.zero_le _) (by omega))]
    have hv25 : vG (40 * v1 + (v4 : Int).toNat + 1) := ⟨by omega, by have := g23; omega⟩
    obtain ⟨r28, q26, h⟩ := q_bvE h
    refine bdC (u_SW_mixedGear m v2 (40 * v1 + (v4 : Int).toNat + 1) c0 _ q26) ?_
    refine bV h ?_
    intro x30 h
    exact hk32 v1 r28 x30 c0 _ h
set_option maxRecDepth 100000 in
set_option maxHeartbeats 4000000 in
theorem uO_SW_digest_32 (m : h_M)  : ∀ (n : Nat) (v1 : Nat) (v2 : Int) (v4 : Int) (c0 : h_C) (r : Int), GO_SW_digest_32 n v1 v2 v4 c0 = some r → O_SW_digest_32 n 1 (h_A 300 v1) v2 v4 (h_H c0 m) = some (r, (h_H c0 m)) := by
  intro n
  induction n with
  | zero => intro v1 v2 v4 c0 r h; cases h
  | succ n ih => intro v1 v2 v4 c0 r h; exact uL_SW_digest_32 m (O_SW_digest_32 n) (GO_SW_digest_32 n) ih v1 v2 v4 c0 r h
set_option maxRecDepth 100000 in
set_option maxHeartbeats 4000000 in
theorem u_SW_digest (m : h_M)  (c0 : h_C) (r : Int) (h : G_SW_digest  c0 = some r) : F_SW_digest 1 (h_H c0 m) = some (r, (h_H c0 m)) := by
  unfold G_SW_digest at h
  unfold F_SW_digest
  refine gdT (isD c0 m d600) ?_
  obtain ⟨g1, h⟩ := p_gdE h
  try rw [rm5000 c0 m g1]
  have hv2 : vW (c0 5000 0 0).toNat := by omega
  refine gdT (isD c0 m (d200 hv2)) ?_
  try rw [rD c0 m (rr200_1 hv2)]
  refine bX ?_
  refine gdT (isD c0 m (d300 hv2)) ?_
  try rw [zf300 c0 m hv2]
  obtain ⟨r6, q4, h⟩ := q_bvE h
  refine bdC (u_SW_mixed m 17 (c0 300 (c0 5000 0 0).toNat 0) c0 _ q4) ?_
  try rw [rm5000 c0 m g1]
  refine gdT (isD c0 m (d200 hv2)) ?_
  try rw [zf202 c0 m hv2]
  obtain ⟨r10, q8, h⟩ := q_bvE h
  refine bdC (u_SW_mixed m r6 (c0 202 (c0 5000 0 0).toNat 0) c0 _ q8) ?_
  exact uO_SW_digest_32 m 3000 (c0 5000 0 0).toNat r10 0 c0 _ h
def GB_Mo_beyond_13   (m0 : h_M) : Option Int :=
  some 1
def G_Mo_beyond (v0 : Int) (v2 : Int) (v4 : Int) (m0 : h_M) : Option Int :=
  if (p_cmp v0 v2) < 0 then
    GB_Mo_beyond_13 m0
  else
    if (p_cmp v0 v4) ≤ 0 then
      some 0
    else
      GB_Mo_beyond_13 m0
set_option maxRecDepth 100000 in
set_option maxHeartbeats 4000000 in
theorem uB_Mo_beyond_13 (c : h_C)   (m0 : h_M) (r : Int) (h : GB_Mo_beyond_13  m0 = some r) : B_Mo_beyond_13  (h_H c m0) = some (r, (h_H c m0)) := by
  unfold GB_Mo_beyond_13 at h
  unfold B_Mo_beyond_13
  cases h
  rfl
set_option maxRecDepth 100000 in
set_option maxHeartbeats 4000000 in
theorem u_Mo_beyond (c : h_C) (v0 : Int) (v2 : Int) (v4 : Int) (m0 : h_M) (r : Int) (h : G_Mo_beyond v0 v2 v4 m0 = some r) : F_Mo_beyond v0 v2 v4 (h_H c m0) = some (r, (h_H c m0)) := by
  unfold G_Mo_beyond at h
  unfold F_Mo_beyond
  refine iteC Iff.rfl h (fun b1 h => ?_) (fun b1 h => ?_)
  · exact uB_Mo_beyond_13 c m0 _ h
  · refine iteC Iff.rfl h (fun b2 h => ?_) (fun b2 h => ?_)
    · cases h
      rfl
    · exact uB_Mo_beyond_13 c m0 _ h
def G_Mo_refused (v1 : Int) (m0 : h_M) : Option (Int × h_M) :=
  p_bi (wm m0 101 0 v1) fun m1 =>
  some (v1, m1)
set_option maxRecDepth 100000 in
set_option maxHeartbeats 4000000 in
theorem u_Mo_refused (c : h_C) (v1 : Int) (m0 : h_M) (r : (Int × h_M)) (h : G_Mo_refused v1 m0 = some r) : F_Mo_refused 1125 v1 (h_H c m0) = some (r.1, (h_H c r.2)) := by
  unfold G_Mo_refused at h
  unfold F_Mo_refused
  refine gdT (miS c m0) ?_
  refine bM (ws1 c m0 _) h ?_
  intro m1 h
  cases h
  rfl
def G_Mo_well (v1 : Int) (m0 : h_M) : Option (Int × h_M) :=
  p_bi (wm m0 101 0 0) fun m1 =>
  some (v1, m1)
set_option maxRecDepth 100000 in
set_option maxHeartbeats 4000000 in
theorem u_Mo_well (c : h_C) (v1 : Int) (m0 : h_M) (r : (Int × h_M)) (h : G_Mo_well v1 m0 = some r) : F_Mo_well 1125 v1 (h_H c m0) = some (r.1, (h_H c r.2)) := by
  unfold G_Mo_well at h
  unfold F_Mo_well
  refine gdT (miS c m0) ?_
  refine bM (ws1 c m0 _) h ?_
  intro m1 h
  cases h
  rfl
def G_Mo_works (v1 : Int) (m0 : h_M) : Option (Int × h_M) :=
  q_bv (G_Mo_beyond v1 0 2 m0) fun r3 =>
  if r3 = 0 then
    p_bi ((m0 100 0)) fun x7 =>
    p_bi (wm m0 100 0 v1) fun m8 =>
    q_bd (G_Mo_well x7 m8) fun r12 m13 =>
    some (r12, m13)
  else
    q_bd (G_Mo_refused (-1) m0) fun r17 m18 =>
    some (r17, m18)
set_option maxRecDepth 100000 in
set_option maxHeartbeats 4000000 in
theorem u_Mo_works (c : h_C) (v1 : Int) (m0 : h_M) (r : (Int × h_M)) (h : G_Mo_works v1 m0 = some r) : F_Mo_works 1125 v1 (h_H c m0) = some (r.1, (h_H c r.2)) := by
  unfold G_Mo_works at h
  unfold F_Mo_works
  obtain ⟨r3, q1, h⟩ := q_bvE h
  refine bdC (u_Mo_beyond c v1 0 2 m0 _ q1) ?_
  refine iteC Iff.rfl h (fun b5 h => ?_) (fun b5 h => ?_)
  · refine gdT (miS c m0) ?_
    try rw [zs0 c m0]
    refine bV h ?_
    intro x7 h
    refine bM (ws0 c m0 _) h ?_
    intro m8 h
    obtain ⟨r12, m13, q10, h⟩ := q_bdE h
    refine bdC (u_Mo_well c x7 m8 _ q10) ?_
    cases h
    rfl
  · refine gdT (miS c m0) ?_
    obtain ⟨r17, m18, q15, h⟩ := q_bdE h
    refine bdC (u_Mo_refused c (-1) m0 _ q15) ?_
    cases h
    rfl
def G_Mo_built (v1 : Int) (m0 : h_M) : Option (Int × h_M) :=
  p_gd ((0 : Int) ≤ (m0 100 0) ∧ (m0 100 0) < (3 : Int)) <|
  p_bi (wm m0 81 ((m0 100 0) : Int).toNat 0) fun m2 =>
  q_bd (G_Mo_well v1 m2) fun r6 m7 =>
  some (r6, m7)
set_option maxRecDepth 100000 in
set_option maxHeartbeats 4000000 in
theorem u_Mo_built (c : h_C) (v1 : Int) (m0 : h_M) (r : (Int × h_M)) (h : G_Mo_built v1 m0 = some r) : F_Mo_built 1125 v1 (h_H c m0) = some (r.1, (h_H c r.2)) := by
  unfold G_Mo_built at h
  unfold F_Mo_built
  refine gdT (miS c m0) ?_
  try rw [mr81 c m0]
  try rw [zs0 c m0]
  refine gdT (miA c m0 e81) ?_
  obtain ⟨g1, h⟩ := p_gdE h
  refine gdT ⟨g1.1, by rw [mlA c m0 e81]; exact g1.2⟩ ?_
  refine bM (mwA c m0 e81 _ _) h ?_
  intro m2 h
  obtain ⟨r6, m7, q4, h⟩ := q_bdE h
  refine bdC (u_Mo_well c v1 m2 _ q4) ?_
  cases h
  rfl
def GB_Mo_isDivert_11   (m0 : h_M) : Option Int :=
  some 1
def G_Mo_isDivert (v0 : Int) (m0 : h_M) : Option Int :=
  if v0 = 5 then
    GB_Mo_isDivert_11 m0
  else
    if v0 ≠ 6 then
      some 0
    else
      GB_Mo_isDivert_11 m0
set_option maxRecDepth 100000 in
set_option maxHeartbeats 4000000 in
theorem uB_Mo_isDivert_11 (c : h_C)   (m0 : h_M) (r : Int) (h : GB_Mo_isDivert_11  m0 = some r) : B_Mo_isDivert_11  (h_H c m0) = some (r, (h_H c m0)) := by
  unfold GB_Mo_isDivert_11 at h
  unfold B_Mo_isDivert_11
  cases h
  rfl
set_option maxRecDepth 100000 in
set_option maxHeartbeats 4000000 in
theorem u_Mo_isDivert (c : h_C) (v0 : Int) (m0 : h_M) (r : Int) (h : G_Mo_isDivert v0 m0 = some r) : F_Mo_isDivert v0 (h_H c m0) = some (r, (h_H c m0)) := by
  unfold G_Mo_isDivert at h
  unfold F_Mo_isDivert
  refine iteC Iff.rfl h (fun b1 h => ?_) (fun b1 h => ?_)
  · exact uB_Mo_isDivert_11 c m0 _ h
  · refine iteC Iff.rfl h (fun b2 h => ?_) (fun b2 h => ?_)
    · cases h
      rfl
    · exact uB_Mo_isDivert_11 c m0 _ h
def G_Mo_rankOf (v0 : Int) (m0 : h_M) : Option Int :=
  if v0 ≠ 1 then
    if v0 ≠ 4 then
      q_bv (G_Mo_isDivert v0 m0) fun r5 =>
      if r5 = 0 then
        some 1
      else
        some 3
    else
      some 4
  else
    some 2
set_option maxRecDepth 100000 in
set_option maxHeartbeats 4000000 in
theorem u_Mo_rankOf (c : h_C) (v0 : Int) (m0 : h_M) (r : Int) (h : G_Mo_rankOf v0 m0 = some r) : F_Mo_rankOf v0 (h_H c m0) = some (r, (h_H c m0)) := by
  unfold G_Mo_rankOf at h
  unfold F_Mo_rankOf
  refine iteC Iff.rfl h (fun b1 h => ?_) (fun b1 h => ?_)
  · refine iteC Iff.rfl h (fun b2 h => ?_) (fun b2 h => ?_)
    · obtain ⟨r5, q3, h⟩ := q_bvE h
      refine bdC (u_Mo_isDivert c v0 m0 _ q3) ?_
      refine iteC Iff.rfl h (fun b7 h => ?_) (fun b7 h => ?_)
      · cases h
        rfl
      · cases h
        rfl
    · cases h
      rfl
  · cases h
    rfl
def G_Mo_fresh (v1 : Int) (v2 : Int) (m0 : h_M) : Option h_M :=
  p_gd ((0 : Int) ≤ v1 ∧ v1 < (120 : Int)) <|
  p_bi (wm m0 5 (v1 : Int).toNat v2) fun m2 =>
  q_bv (G_Mo_rankOf v2 m2) fun r6 =>
  p_bi (wm m2 9 (v1 : Int).toNat r6) fun m8 =>
  p_bi (wm m8 10 (v1 : Int).toNat 0) fun m10 =>
  p_gd ((0 : Int) ≤ (p_w (2 * v1)) ∧ (p_w (2 * v1)) < (240 : Int)) <|
  p_bi (wm m10 11 ((p_w (2 * v1)) : Int).toNat 0) fun m13 =>
  p_gd ((0 : Int) ≤ (p_w ((p_w (2 * v1)) + 1)) ∧ (p_w ((p_w (2 * v1)) + 1)) < (240 : Int)) <|
  p_bi (wm m13 11 ((p_w ((p_w (2 * v1)) + 1)) : Int).toNat 0) fun m16 =>
  p_bi (wm m16 12 (v1 : Int).toNat (-1)) fun m18 =>
  p_bi (wm m18 13 (v1 : Int).toNat 0) fun m20 =>
  p_bi (wm m20 14 (v1 : Int).toNat 0) fun m22 =>
  p_bi (wm m22 15 (v1 : Int).toNat 0) fun m24 =>
  p_bi (wm m24 16 (v1 : Int).toNat 0) fun m26 =>
  p_bi (wm m26 17 (v1 : Int).toNat 0) fun m28 =>
  p_bi (wm m28 18 (v1 : Int).toNat 0) fun m30 =>
  p_bi (wm m30 19 (v1 : Int).toNat 0) fun m32 =>
  p_bi (wm m32 20 (v1 : Int).toNat 0) fun m34 =>
  p_bi (wm m34 21 (v1 : Int).toNat 0) fun m36 =>
  some m36
set_option maxRecDepth 100000 in
set_option maxHeartbeats 4000000 in
theorem u_Mo_fresh (c : h_C) (v1 : Int) (v2 : Int) (m0 : h_M) (r : h_M) (h : G_Mo_fresh v1 v2 m0 = some r) : F_Mo_fresh 1125 v1 v2 (h_H c m0) = some (h_H c r) := by
  unfold G_Mo_fresh at h
  unfold F_Mo_fresh
  refine gdT (miS c m0) ?_
  try rw [mr5 c m0]
  refine gdT (miA c m0 e5) ?_
  obtain ⟨g1, h⟩ := p_gdE h
  refine gdT ⟨g1.1, by rw [mlA c m0 e5]; exact g1.2⟩ ?_
  refine bM (mwA c m0 e5 _ _) h ?_
  intro m2 h
  try rw [mr9 c m2]
  obtain ⟨r6, q4, h⟩ := q_bvE h
  refine bdC (u_Mo_rankOf c v2 m2 _ q4) ?_
  refine gdT (miA c m2 e9) ?_
  refine gdT ⟨g1.1, by rw [mlA c m2 e9]; exact g1.2⟩ ?_
  refine bM (mwA c m2 e9 _ _) h ?_
  intro m8 h
  try rw [mr10 c m8]
  refine gdT (miA c m8 e10) ?_
  refine gdT ⟨g1.1, by rw [mlA c m8 e10]; exact g1.2⟩ ?_
  refine bM (mwA c m8 e10 _ _) h ?_
  intro m10 h
  try rw [mr11 c m10]
  refine gdT (miA c m10 e11) ?_
  obtain ⟨g12, h⟩ := p_gdE h
  refine gdT ⟨g12.1, by rw [mlA c m10 e11]; exact g12.2⟩ ?_
  refine bM (mwA c m10 e11 _ _) h ?_
  intro m13 h
  try rw [mr11 c m13]
  refine gdT (miA c m13 e11) ?_
  obtain ⟨g15, h⟩ := p_gdE h
  refine gdT ⟨g15.1, by rw [mlA c m13 e11]; exact g15.2⟩ ?_
  refine bM (mwA c m13 e11 _ _) h ?_
  intro m16 h
  try rw [mr12 c m16]
  refine gdT (miA c m16 e12) ?_
  refine gdT ⟨g1.1, by rw [mlA c m16 e12]; exact g1.2⟩ ?_
  refine bM (mwA c m16 e12 _ _) h ?_
  intro m18 h
  try rw [mr13 c m18]
  refine gdT (miA c m18 e13) ?_
  refine gdT ⟨g1.1, by rw [mlA c m18 e13]; exact g1.2⟩ ?_
  refine bM (mwA c m18 e13 _ _) h ?_
  intro m20 h
  try rw [mr14 c m20]
  refine gdT (miA c m20 e14) ?_
  refine gdT ⟨g1.1, by rw [mlA c m20 e14]; exact g1.2⟩ ?_
  refine bM (mwA c m20 e14 _ _) h ?_
  intro m22 h
  try rw [mr15 c m22]
  refine gdT (miA c m22 e15) ?_
  refine gdT ⟨g1.1, by rw [mlA c m22 e15]; exact g1.2⟩ ?_
  refine bM (mwA c m22 e15 _ _) h ?_
  intro m24 h
  try rw [mr16 c m24]
  refine gdT (miA c m24 e16) ?_
  refine gdT ⟨g1.1, by rw [mlA c m24 e16]; exact g1.2⟩ ?_
  refine bM (mwA c m24 e16 _ _) h ?_
  intro m26 h
  try rw [mr17 c m26]
  refine gdT (miA c m26 e17) ?_
  refine gdT ⟨g1.1, by rw [mlA c m26 e17]; exact g1.2⟩ ?_
  refine bM (mwA c m26 e17 _ _) h ?_
  intro m28 h
  try rw [mr18 c m28]
  refine gdT (miA c m28 e18) ?_
  refine gdT ⟨g1.1, by rw [mlA c m28 e18]; exact g1.2⟩ ?_
  refine bM (mwA c m28 e18 _ _) h ?_
  intro m30 h
  try rw [mr19 c m30]
  refine gdT (miA c m30 e19) ?_
  refine gdT ⟨g1.1, by rw [mlA c m30 e19]; exact g1.2⟩ ?_
  refine bM (mwA c m30 e19 _ _) h ?_
  intro m32 h
  try rw [mr20 c m32]
  refine gdT (miA c m32 e20) ?_
  refine gdT ⟨g1.1, by rw [mlA c m32 e20]; exact g1.2⟩ ?_
  refine bM (mwA c m32 e20 _ _) h ?_
  intro m34 h
  try rw [mr21 c m34]
  refine gdT (miA c m34 e21) ?_
  refine gdT ⟨g1.1, by rw [mlA c m34 e21]; exact g1.2⟩ ?_
  refine bM (mwA c m34 e21 _ _) h ?_
  intro m36 h
  cases h
  rfl
def G_Mo_g (v1 : Int) (m0 : h_M) : Option Int :=
  some (p_w ((p_w (40 * (m0 100 0))) + v1))
set_option maxRecDepth 100000 in
set_option maxHeartbeats 4000000 in
theorem u_Mo_g (c : h_C) (v1 : Int) (m0 : h_M) (r : Int) (h : G_Mo_g v1 m0 = some r) : F_Mo_g 1125 v1 (h_H c m0) = some (r, (h_H c m0)) := by
  unfold G_Mo_g at h
  unfold F_Mo_g
  refine gdT (miS c m0) ?_
  try rw [zs0 c m0]
  cases h
  rfl
def G_Mo_isTaker (v0 : Int) (m0 : h_M) : Option Int :=
  if 9 ≤ v0 then
    some 0
  else
    some 1
set_option maxRecDepth 100000 in
set_option maxHeartbeats 4000000 in
theorem u_Mo_isTaker (c : h_C) (v0 : Int) (m0 : h_M) (r : Int) (h : G_Mo_isTaker v0 m0 = some r) : F_Mo_isTaker v0 (h_H c m0) = some (r, (h_H c m0)) := by
  unfold G_Mo_isTaker at h
  unfold F_Mo_isTaker
  refine iteC Iff.rfl h (fun b1 h => ?_) (fun b1 h => ?_)
  · cases h
    rfl
  · cases h
    rfl
def GB_Mo_gear_31   (m0 : h_M) : Option (Int × h_M) :=
  q_bd (G_Mo_refused (-2) m0) fun r3 m4 =>
  some (r3, m4)
def GL_Mo_gear_107 (k107 : Int → Int → h_M → Option (Int × h_M)) (v3 : Int) (v4 : Int) (m0 : h_M) : Option (Int × h_M) :=
  if 8 ≤ v4 then
    p_gd ((0 : Int) ≤ (m0 100 0) ∧ (m0 100 0) < (3 : Int)) <|
    p_bi (wm m0 3 ((m0 100 0) : Int).toNat (p_w ((m0 3 ((m0 100 0) : Int).toNat) + 1))) fun m3 =>
    p_gd ((0 : Int) ≤ (m3 100 0) ∧ (m3 100 0) < (3 : Int)) <|
    q_bd (G_Mo_built (p_w ((m3 3 ((m3 100 0) : Int).toNat) - 1)) m3) fun r8 m9 =>
    some (r8, m9)
  else
    p_gd ((0 : Int) ≤ (p_w ((p_w (8 * v3)) + v4)) ∧ (p_w ((p_w (8 * v3)) + v4)) < (960 : Int)) <|
    p_bi (wm m0 22 ((p_w ((p_w (8 * v3)) + v4)) : Int).toNat 0) fun m12 =>
    p_bi (p_w (v4 + 1)) fun x14 =>
    k107 v3 x14 m12
def GO_Mo_gear_107  : Nat → Int → Int → h_M → Option (Int × h_M)
  | 0 => fun _ _ _ => none
  | n + 1 => GL_Mo_gear_107 (GO_Mo_gear_107 n)
def GB_Mo_gear_96  (v3 : Int) (w0 : Int) (w1 : Int) (m0 : h_M) : Option (Int × h_M) :=
  p_gd ((0 : Int) ≤ w1 ∧ w1 < (120 : Int)) <|
  p_bi (wm m0 6 (w1 : Int).toNat w0) fun m2 =>
  p_gd ((0 : Int) ≤ v3 ∧ v3 < (120 : Int)) <|
  p_bi (wm m2 7 (v3 : Int).toNat (-1)) fun m5 =>
  GO_Mo_gear_107 3000 v3 0 m5
def GB_Mo_gear_38  (v1 : Int) (v2 : Int) (m0 : h_M) : Option (Int × h_M) :=
  p_gd ((0 : Int) ≤ (m0 100 0) ∧ (m0 100 0) < (3 : Int)) <|
  if (m0 3 ((m0 100 0) : Int).toNat) ≠ 40 then
    q_bv (G_Mo_g (m0 3 ((m0 100 0) : Int).toNat) m0) fun r5 =>
    q_bv (G_Mo_fresh r5 v1 m0) fun m9 =>
    q_bv (G_Mo_isTaker v1 m9) fun r12 =>
    if r12 = 0 then
      GB_Mo_gear_96 r5 0 r5 m9
    else
      GB_Mo_gear_96 r5 v2 r5 m9
  else
    q_bd (G_Mo_refused (-4) m0) fun r17 m18 =>
    some (r17, m18)
def G_Mo_gear (v1 : Int) (v2 : Int) (m0 : h_M) : Option (Int × h_M) :=
  q_bv (G_Mo_beyond v1 0 10 m0) fun r3 =>
  if r3 ≠ 0 then
    GB_Mo_gear_31 m0
  else
    q_bv (G_Mo_isTaker v1 m0) fun r8 =>
    if r8 = 0 then
      GB_Mo_gear_38 v1 v2 m0
    else
      q_bv (G_Mo_beyond v2 1 8 m0) fun r13 =>
      if r13 = 0 then
        GB_Mo_gear_38 v1 v2 m0
      else
        GB_Mo_gear_31 m0
set_option maxRecDepth 100000 in
set_option maxHeartbeats 4000000 in
theorem uB_Mo_gear_31 (c : h_C)   (m0 : h_M) (r : (Int × h_M)) (h : GB_Mo_gear_31  m0 = some r) : B_Mo_gear_31 1125 (h_H c m0) = some (r.1, (h_H c r.2)) := by
  unfold GB_Mo_gear_31 at h
  unfold B_Mo_gear_31
  refine gdT (miS c m0) ?_
  obtain ⟨r3, m4, q1, h⟩ := q_bdE h
  refine bdC (u_Mo_refused c (-2) m0 _ q1) ?_
  cases h
  rfl
set_option maxRecDepth 100000 in
set_option maxHeartbeats 4000000 in
theorem uL_Mo_gear_107 (c : h_C) (j107 : Nat → Int → Int → p_Hp → Option (Int × p_Hp)) (k107 : Int → Int → h_M → Option (Int × h_M)) (hk107 : ∀ (v3 : Int) (v4 : Int) (m0 : h_M) (r : (Int × h_M)), k107 v3 v4 m0 = some r → j107 1125 v3 v4 (h_H c m0) = some (r.1, (h_H c r.2))) (v3 : Int) (v4 : Int) (m0 : h_M) (r : (Int × h_M)) (h : GL_Mo_gear_107 k107 v3 v4 m0 = some r) : L_Mo_gear_107 j107 1125 v3 v4 (h_H c m0) = some (r.1, (h_H c r.2)) := by
  unfold GL_Mo_gear_107 at h
  unfold L_Mo_gear_107
  refine iteC Iff.rfl h (fun b1 h => ?_) (fun b1 h => ?_)
  · refine gdT (miS c m0) ?_
    try rw [mr3 c m0]
    try rw [zs0 c m0]
    refine gdT (miA c m0 e3) ?_
    obtain ⟨g2, h⟩ := p_gdE h
    refine gdT ⟨g2.1, by rw [mlA c m0 e3]; exact g2.2⟩ ?_
    try rw [mzA c m0 e3 ((m0 100 0) : Int).toNat]
    refine gdT ⟨g2.1, by rw [mlA c m0 e3]; exact g2.2⟩ ?_
    refine bM (mwA c m0 e3 _ _) h ?_
    intro m3 h
    try rw [mr3 c m3]
    try rw [zs0 c m3]
    refine gdT (miA c m3 e3) ?_
    obtain ⟨g5, h⟩ := p_gdE h
    refine gdT ⟨g5.1, by rw [mlA c m3 e3]; exact g5.2⟩ ?_
    try rw [mzA c m3 e3 ((m3 100 0) : Int).toNat]
    obtain ⟨r8, m9, q6, h⟩ := q_bdE h
    refine bdC (u_Mo_built c (p_w ((m3 3 ((m3 100 0) : Int).toNat) - 1)) m3 _ q6) ?_
    cases h
    rfl
  · refine gdT (miS c m0) ?_
    try rw [mr22 c m0]
    refine gdT (miA c m0 e22) ?_
    obtain ⟨g11, h⟩ := p_gdE h
    refine gdT ⟨g11.1, by rw [mlA c m0 e22]; exact g11.2⟩ ?_
    refine bM (mwA c m0 e22 _ _) h ?_
    intro m12 h
    refine bV h ?_
    intro x14 h
    exact hk107 v3 x14 m12 _ h
set_option maxRecDepth 100000 in
set_option maxHeartbeats 4000000 in
theorem uO_Mo_gear_107 (c : h_C)  : ∀ (n : Nat) (v3 : Int) (v4 : Int) (m0 : h_M) (r : (Int × h_M)), GO_Mo_gear_107 n v3 v4 m0 = some r → O_Mo_gear_107 n 1125 v3 v4 (h_H c m0) = some (r.1, (h_H c r.2)) := by
  intro n
  induction n with
  | zero => intro v3 v4 m0 r h; cases h
  | succ n ih => intro v3 v4 m0 r h; exact uL_Mo_gear_107 c (O_Mo_gear_107 n) (GO_Mo_gear_107 n) ih v3 v4 m0 r h
set_option maxRecDepth 100000 in
set_option maxHeartbeats 4000000 in
theorem uB_Mo_gear_96 (c : h_C)  (v3 : Int) (w0 : Int) (w1 : Int) (m0 : h_M) (r : (Int × h_M)) (h : GB_Mo_gear_96 v3 w0 w1 m0 = some r) : B_Mo_gear_96 1125 v3 w0 w1 1129 (h_H c m0) = some (r.1, (h_H c r.2)) := by
  unfold GB_Mo_gear_96 at h
  unfold B_Mo_gear_96
  refine gdT (miA c m0 e6) ?_
  obtain ⟨g1, h⟩ := p_gdE h
  refine gdT ⟨g1.1, by rw [mlA c m0 e6]; exact g1.2⟩ ?_
  refine bM (mwA c m0 e6 _ _) h ?_
  intro m2 h
  refine gdT (miS c m2) ?_
  try rw [mr7 c m2]
  refine gdT (miA c m2 e7) ?_
  obtain ⟨g4, h⟩ := p_gdE h
  refine gdT ⟨g4.1, by rw [mlA c m2 e7]; exact g4.2⟩ ?_
  refine bM (mwA c m2 e7 _ _) h ?_
  intro m5 h
  exact uO_Mo_gear_107 c 3000 v3 0 m5 _ h
set_option maxRecDepth 100000 in
set_option maxHeartbeats 4000000 in
theorem uB_Mo_gear_38 (c : h_C)  (v1 : Int) (v2 : Int) (m0 : h_M) (r : (Int × h_M)) (h : GB_Mo_gear_38 v1 v2 m0 = some r) : B_Mo_gear_38 1125 v1 v2 (h_H c m0) = some (r.1, (h_H c r.2)) := by
  unfold GB_Mo_gear_38 at h
  unfold B_Mo_gear_38
  refine gdT (miS c m0) ?_
  try rw [mr3 c m0]
  try rw [zs0 c m0]
  refine gdT (miA c m0 e3) ?_
  obtain ⟨g1, h⟩ := p_gdE h
  refine gdT ⟨g1.1, by rw [mlA c m0 e3]; exact g1.2⟩ ?_
  try rw [mzA c m0 e3 ((m0 100 0) : Int).toNat]
  refine iteC Iff.rfl h (fun b2 h => ?_) (fun b2 h => ?_)
  · try rw [mr3 c m0]
    try rw [zs0 c m0]
    refine gdT ⟨g1.1, by rw [mlA c m0 e3]; exact g1.2⟩ ?_
    try rw [mzA c m0 e3 ((m0 100 0) : Int).toNat]
    obtain ⟨r5, q3, h⟩ := q_bvE h
    refine bdC (u_Mo_g c (m0 3 ((m0 100 0) : Int).toNat) m0 _ q3) ?_
    obtain ⟨m9, q7, h⟩ := q_bvE h
    refine bvC (u_Mo_fresh c r5 v1 m0 _ q7) ?_
    try rw [mr6 c m9]
    obtain ⟨r12, q10, h⟩ := q_bvE h
    refine bdC (u_Mo_isTaker c v1 m9 _ q10) ?_
    refine iteC Iff.rfl h (fun b14 h => ?_) (fun b14 h => ?_)
    · exact uB_Mo_gear_96 c r5 0 r5 m9 _ h
    · exact uB_Mo_gear_96 c r5 v2 r5 m9 _ h
  · obtain ⟨r17, m18, q15, h⟩ := q_bdE h
    refine bdC (u_Mo_refused c (-4) m0 _ q15) ?_
    cases h
    rfl
set_option maxRecDepth 100000 in
set_option maxHeartbeats 4000000 in
theorem u_Mo_gear (c : h_C) (v1 : Int) (v2 : Int) (m0 : h_M) (r : (Int × h_M)) (h : G_Mo_gear v1 v2 m0 = some r) : F_Mo_gear 1125 v1 v2 (h_H c m0) = some (r.1, (h_H c r.2)) := by
  unfold G_Mo_gear at h
  unfold F_Mo_gear
  obtain ⟨r3, q1, h⟩ := q_bvE h
  refine bdC (u_Mo_beyond c v1 0 10 m0 _ q1) ?_
  refine iteC Iff.rfl h (fun b5 h => ?_) (fun b5 h => ?_)
  · exact uB_Mo_gear_31 c m0 _ h
  · obtain ⟨r8, q6, h⟩ := q_bvE h
    refine bdC (u_Mo_isTaker c v1 m0 _ q6) ?_
    refine iteC Iff.rfl h (fun b10 h => ?_) (fun b10 h => ?_)
    · exact uB_Mo_gear_38 c v1 v2 m0 _ h
    · obtain ⟨r13, q11, h⟩ := q_bvE h
      refine bdC (u_Mo_beyond c v2 1 8 m0 _ q11) ?_
      refine iteC Iff.rfl h (fun b15 h => ?_) (fun b15 h => ?_)
      · exact uB_Mo_gear_38 c v1 v2 m0 _ h
      · exact uB_Mo_gear_31 c m0 _ h
def G_Mo_faulted (v1 : Int) (m0 : h_M) : Option (Int × h_M) :=
  p_bi (wm m0 102 0 (p_w ((m0 102 0) + 1))) fun m1 =>
  p_bi (wm m1 101 0 (p_w ((-10) - v1))) fun m3 =>
  some ((m3 101 0), m3)
set_option maxRecDepth 100000 in
set_option maxHeartbeats 4000000 in
theorem u_Mo_faulted (c : h_C) (v1 : Int) (m0 : h_M) (r : (Int × h_M)) (h : G_Mo_faulted v1 m0 = some r) : F_Mo_faulted 1125 v1 (h_H c m0) = some (r.1, (h_H c r.2)) := by
  unfold G_Mo_faulted at h
  unfold F_Mo_faulted
  refine gdT (miS c m0) ?_
  try rw [zs2 c m0]
  refine bM (ws2 c m0 _) h ?_
  intro m1 h
  refine bM (ws1 c m1 _) h ?_
  intro m3 h
  try rw [zs1 c m3]
  cases h
  rfl
def G_Mo_noGear (v1 : Int) (m0 : h_M) : Option Int :=
  p_gd ((0 : Int) ≤ (m0 100 0) ∧ (m0 100 0) < (3 : Int)) <|
  q_bv (G_Mo_beyond v1 0 (p_w ((m0 3 ((m0 100 0) : Int).toNat) - 1)) m0) fun r4 =>
  p_gd (r4 = 0 ∨ r4 = 1) <|
  some r4
set_option maxRecDepth 100000 in
set_option maxHeartbeats 4000000 in
theorem u_Mo_noGear (c : h_C) (v1 : Int) (m0 : h_M) (r : Int) (h : G_Mo_noGear v1 m0 = some r) : F_Mo_noGear 1125 v1 (h_H c m0) = some (r, (h_H c m0)) := by
  unfold G_Mo_noGear at h
  unfold F_Mo_noGear
  refine gdT (miS c m0) ?_
  try rw [mr3 c m0]
  try rw [zs0 c m0]
  refine gdT (miA c m0 e3) ?_
  obtain ⟨g1, h⟩ := p_gdE h
  refine gdT ⟨g1.1, by rw [mlA c m0 e3]; exact g1.2⟩ ?_
  try rw [mzA c m0 e3 ((m0 100 0) : Int).toNat]
  obtain ⟨r4, q2, h⟩ := q_bvE h
  refine bdC (u_Mo_beyond c v1 0 (p_w ((m0 3 ((m0 100 0) : Int).toNat) - 1)) m0 _ q2) ?_
  obtain ⟨g6, h⟩ := p_gdE h
  refine gdT g6 ?_
  cases h
  rfl
def GL_Mo_links_50 (k50 : Int → Int → Int → h_M → Option (Int × h_M)) (v1 : Int) (v2 : Int) (v3 : Int) (m0 : h_M) : Option (Int × h_M) :=
  if 3 ≤ v3 then
    q_bd (G_Mo_built v2 m0) fun r4 m5 =>
    some (r4, m5)
  else
    q_bv (G_Mo_g v1 m0) fun r9 =>
    p_gd ((0 : Int) ≤ (p_w ((p_w (3 * r9)) + v3)) ∧ (p_w ((p_w (3 * r9)) + v3)) < (360 : Int)) <|
    p_bi (wm m0 8 ((p_w ((p_w (3 * r9)) + v3)) : Int).toNat (-1)) fun m12 =>
    p_bi (p_w (v3 + 1)) fun x14 =>
    k50 v1 v2 x14 m12
def GO_Mo_links_50  : Nat → Int → Int → Int → h_M → Option (Int × h_M)
  | 0 => fun _ _ _ _ => none
  | n + 1 => GL_Mo_links_50 (GO_Mo_links_50 n)
def G_Mo_links (v1 : Int) (v2 : Int) (m0 : h_M) : Option (Int × h_M) :=
  q_bv (G_Mo_noGear v1 m0) fun r3 =>
  if r3 = 0 then
    if v2 ≤ 3 then
      if (-1) ≤ v2 then
        q_bv (G_Mo_g v1 m0) fun r10 =>
        p_gd ((0 : Int) ≤ r10 ∧ r10 < (120 : Int)) <|
        p_bi (wm m0 7 (r10 : Int).toNat v2) fun m13 =>
        GO_Mo_links_50 3000 v1 v2 0 m13
      else
        q_bd (G_Mo_faulted 5 m0) fun r17 m18 =>
        some (r17, m18)
    else
      q_bd (G_Mo_refused (-2) m0) fun r22 m23 =>
      some (r22, m23)
  else
    q_bd (G_Mo_refused (-1) m0) fun r27 m28 =>
    some (r27, m28)
set_option maxRecDepth 100000 in
set_option maxHeartbeats 4000000 in
theorem uL_Mo_links_50 (c : h_C) (j50 : Nat → Int → Int → Int → p_Hp → Option (Int × p_Hp)) (k50 : Int → Int → Int → h_M → Option (Int × h_M)) (hk50 : ∀ (v1 : Int) (v2 : Int) (v3 : Int) (m0 : h_M) (r : (Int × h_M)), k50 v1 v2 v3 m0 = some r → j50 1125 v1 v2 v3 (h_H c m0) = some (r.1, (h_H c r.2))) (v1 : Int) (v2 : Int) (v3 : Int) (m0 : h_M) (r : (Int × h_M)) (h : GL_Mo_links_50 k50 v1 v2 v3 m0 = some r) : L_Mo_links_50 j50 1125 v1 v2 v3 (h_H c m0) = some (r.1, (h_H c r.2)) := by
  unfold GL_Mo_links_50 at h
  unfold L_Mo_links_50
  refine iteC Iff.rfl h (fun b1 h => ?_) (fun b1 h => ?_)
  · refine gdT (miS c m0) ?_
    obtain ⟨r4, m5, q2, h⟩ := q_bdE h
    refine bdC (u_Mo_built c v2 m0 _ q2) ?_
    cases h
    rfl
  · refine gdT (miS c m0) ?_
    try rw [mr8 c m0]
    obtain ⟨r9, q7, h⟩ := q_bvE h
    refine bdC (u_Mo_g c v1 m0 _ q7) ?_
    refine gdT (miA c m0 e8) ?_
    obtain ⟨g11, h⟩ := p_gdE h
    refine gdT ⟨g11.1, by rw [mlA c m0 e8]; exact g11.2⟩ ?_
    refine bM (mwA c m0 e8 _ _) h ?_
    intro m12 h
    refine bV h ?_
    intro x14 h
    exact hk50 v1 v2 x14 m12 _ h
set_option maxRecDepth 100000 in
set_option maxHeartbeats 4000000 in
theorem uO_Mo_links_50 (c : h_C)  : ∀ (n : Nat) (v1 : Int) (v2 : Int) (v3 : Int) (m0 : h_M) (r : (Int × h_M)), GO_Mo_links_50 n v1 v2 v3 m0 = some r → O_Mo_links_50 n 1125 v1 v2 v3 (h_H c m0) = some (r.1, (h_H c r.2)) := by
  intro n
  induction n with
  | zero => intro v1 v2 v3 m0 r h; cases h
  | succ n ih => intro v1 v2 v3 m0 r h; exact uL_Mo_links_50 c (O_Mo_links_50 n) (GO_Mo_links_50 n) ih v1 v2 v3 m0 r h
set_option maxRecDepth 100000 in
set_option maxHeartbeats 4000000 in
theorem u_Mo_links (c : h_C) (v1 : Int) (v2 : Int) (m0 : h_M) (r : (Int × h_M)) (h : G_Mo_links v1 v2 m0 = some r) : F_Mo_links 1125 v1 v2 (h_H c m0) = some (r.1, (h_H c r.2)) := by
  unfold G_Mo_links at h
  unfold F_Mo_links
  refine gdT (miS c m0) ?_
  obtain ⟨r3, q1, h⟩ := q_bvE h
  refine bdC (u_Mo_noGear c v1 m0 _ q1) ?_
  refine iteC Iff.rfl h (fun b5 h => ?_) (fun b5 h => ?_)
  · refine iteC Iff.rfl h (fun b6 h => ?_) (fun b6 h => ?_)
    · refine iteC Iff.rfl h (fun b7 h => ?_) (fun b7 h => ?_)
      · try rw [mr7 c m0]
        obtain ⟨r10, q8, h⟩ := q_bvE h
        refine bdC (u_Mo_g c v1 m0 _ q8) ?_
        refine gdT (miA c m0 e7) ?_
        obtain ⟨g12, h⟩ := p_gdE h
        refine gdT ⟨g12.1, by rw [mlA c m0 e7]; exact g12.2⟩ ?_
        refine bM (mwA c m0 e7 _ _) h ?_
        intro m13 h
        exact uO_Mo_links_50 c 3000 v1 v2 0 m13 _ h
      · obtain ⟨r17, m18, q15, h⟩ := q_bdE h
        refine bdC (u_Mo_faulted c 5 m0 _ q15) ?_
        cases h
        rfl
    · obtain ⟨r22, m23, q20, h⟩ := q_bdE h
      refine bdC (u_Mo_refused c (-2) m0 _ q20) ?_
      cases h
      rfl
  · obtain ⟨r27, m28, q25, h⟩ := q_bdE h
    refine bdC (u_Mo_refused c (-1) m0 _ q25) ?_
    cases h
    rfl
