def B_La_law_1701 (n9 : Nat) (t9 : Nat → Int) (k18 : Nat → Nat → Int → p_Hp → Option (Int × p_Hp)) (v1 : Nat) (v2 : Nat) (v3 : Int) (s0 : p_Hp) : Option (Int × p_Hp) :=
  p_bi (p_w (v3 + 6)) fun x1 =>
  k18 v1 v2 x1 s0
def B_La_law_429 (n9 : Nat) (t9 : Nat → Int) (k18 : Nat → Nat → Int → p_Hp → Option (Int × p_Hp)) (v1 : Nat) (v2 : Nat) (v3 : Int) (w0 : Int) (w1 : Int) (w2 : Int) (w3 : Int) (w4 : Nat) (w5 : Int) (s0 : p_Hp) : Option (Int × p_Hp) :=
  p_gd (p_is s0 w4 11) <|
  p_bd (F_Mo_aim w4 w3 w2 w1 w0 s0) fun r6 s2 =>
  if w5 = r6 then
    B_La_law_1701 n9 t9 k18 v1 v2 v3 s2
  else
    some (0, s2)
def B_La_law_397 (n9 : Nat) (t9 : Nat → Int) (k18 : Nat → Nat → Int → p_Hp → Option (Int × p_Hp)) (v1 : Nat) (v2 : Nat) (v3 : Int) (w0 : Int) (w1 : Int) (w2 : Int) (w3 : Int) (w4 : Nat) (s0 : p_Hp) : Option (Int × p_Hp) :=
  p_gd (p_is s0 w4 10) <|
  p_bd (F_SW_aim w4 w3 w2 w1 w0 s0) fun r6 s2 =>
  p_gd ((0 : Int) ≤ (p_w (v3 + 1)) ∧ (p_w (v3 + 1)) < (n9 : Int)) <|
  p_gd ((0 : Int) ≤ (p_w (v3 + 2)) ∧ (p_w (v3 + 2)) < (n9 : Int)) <|
  p_gd ((0 : Int) ≤ (p_w (v3 + 3)) ∧ (p_w (v3 + 3)) < (n9 : Int)) <|
  p_gd ((0 : Int) ≤ (p_w (v3 + 4)) ∧ (p_w (v3 + 4)) < (n9 : Int)) <|
  if (t9 ((p_w (v3 + 4)) : Int).toNat) = 0 then
    B_La_law_429 n9 t9 k18 v1 v2 v3 0 (t9 ((p_w (v3 + 3)) : Int).toNat) (t9 ((p_w (v3 + 2)) : Int).toNat) (t9 ((p_w (v3 + 1)) : Int).toNat) v2 r6 s2
  else
    B_La_law_429 n9 t9 k18 v1 v2 v3 1 (t9 ((p_w (v3 + 3)) : Int).toNat) (t9 ((p_w (v3 + 2)) : Int).toNat) (t9 ((p_w (v3 + 1)) : Int).toNat) v2 r6 s2
def B_La_law_828 (n9 : Nat) (t9 : Nat → Int) (k18 : Nat → Nat → Int → p_Hp → Option (Int × p_Hp)) (v1 : Nat) (v2 : Nat) (v3 : Int) (w0 : Int) (w1 : Int) (w2 : Nat) (w3 : Int) (s0 : p_Hp) : Option (Int × p_Hp) :=
  p_gd (p_is s0 w2 11) <|
  p_bd (F_Mo_door w2 w1 w0 s0) fun r6 s2 =>
  if w3 = r6 then
    B_La_law_1701 n9 t9 k18 v1 v2 v3 s2
  else
    some (0, s2)
def B_La_law_806 (n9 : Nat) (t9 : Nat → Int) (k18 : Nat → Nat → Int → p_Hp → Option (Int × p_Hp)) (v1 : Nat) (v2 : Nat) (v3 : Int) (w0 : Int) (w1 : Int) (w2 : Nat) (s0 : p_Hp) : Option (Int × p_Hp) :=
  p_gd (p_is s0 w2 10) <|
  p_bd (F_SW_door w2 w1 w0 s0) fun r6 s2 =>
  p_gd ((0 : Int) ≤ (p_w (v3 + 1)) ∧ (p_w (v3 + 1)) < (n9 : Int)) <|
  p_gd ((0 : Int) ≤ (p_w (v3 + 2)) ∧ (p_w (v3 + 2)) < (n9 : Int)) <|
  if (t9 ((p_w (v3 + 2)) : Int).toNat) = 0 then
    B_La_law_828 n9 t9 k18 v1 v2 v3 0 (t9 ((p_w (v3 + 1)) : Int).toNat) v2 r6 s2
  else
    B_La_law_828 n9 t9 k18 v1 v2 v3 1 (t9 ((p_w (v3 + 1)) : Int).toNat) v2 r6 s2
def L_La_law_18 (n9 : Nat) (t9 : Nat → Int) (k18 : Nat → Nat → Int → p_Hp → Option (Int × p_Hp)) (v1 : Nat) (v2 : Nat) (v3 : Int) (s0 : p_Hp) : Option (Int × p_Hp) :=
  if (p_w ((n9 : Int) - 6)) < v3 then
    some (1, s0)
  else
    p_gd ((0 : Int) ≤ v3 ∧ v3 < (n9 : Int)) <|
    if (p_and (t9 (v3 : Int).toNat) 63) = 0 then
      p_gd ((0 : Int) ≤ (p_w (v3 + 1)) ∧ (p_w (v3 + 1)) < (n9 : Int)) <|
      p_gd (p_is s0 v1 10) <|
      p_bd (F_SW_works v1 (t9 ((p_w (v3 + 1)) : Int).toNat) s0) fun r10 s6 =>
      p_gd ((0 : Int) ≤ (p_w (v3 + 1)) ∧ (p_w (v3 + 1)) < (n9 : Int)) <|
      p_gd (p_is s6 v2 11) <|
      p_bd (F_Mo_works v2 (t9 ((p_w (v3 + 1)) : Int).toNat) s6) fun r17 s13 =>
      if r10 = r17 then
        B_La_law_1701 n9 t9 k18 v1 v2 v3 s13
      else
        some (0, s13)
    else if (p_and (t9 (v3 : Int).toNat) 63) = 1 then
      p_gd ((0 : Int) ≤ (p_w (v3 + 1)) ∧ (p_w (v3 + 1)) < (n9 : Int)) <|
      p_gd ((0 : Int) ≤ (p_w (v3 + 2)) ∧ (p_w (v3 + 2)) < (n9 : Int)) <|
      p_gd (p_is s0 v1 10) <|
      p_bd (F_SW_gear v1 (t9 ((p_w (v3 + 1)) : Int).toNat) (t9 ((p_w (v3 + 2)) : Int).toNat) s0) fun r27 s23 =>
      p_gd ((0 : Int) ≤ (p_w (v3 + 1)) ∧ (p_w (v3 + 1)) < (n9 : Int)) <|
      p_gd ((0 : Int) ≤ (p_w (v3 + 2)) ∧ (p_w (v3 + 2)) < (n9 : Int)) <|
      p_gd (p_is s23 v2 11) <|
      p_bd (F_Mo_gear v2 (t9 ((p_w (v3 + 1)) : Int).toNat) (t9 ((p_w (v3 + 2)) : Int).toNat) s23) fun r35 s31 =>
      if r27 = r35 then
        B_La_law_1701 n9 t9 k18 v1 v2 v3 s31
      else
        some (0, s31)
    else if (p_and (t9 (v3 : Int).toNat) 63) = 2 then
      p_gd ((0 : Int) ≤ (p_w (v3 + 1)) ∧ (p_w (v3 + 1)) < (n9 : Int)) <|
      p_gd ((0 : Int) ≤ (p_w (v3 + 2)) ∧ (p_w (v3 + 2)) < (n9 : Int)) <|
      p_gd (p_is s0 v1 10) <|
      p_bd (F_SW_links v1 (t9 ((p_w (v3 + 1)) : Int).toNat) (t9 ((p_w (v3 + 2)) : Int).toNat) s0) fun r45 s41 =>
      p_gd ((0 : Int) ≤ (p_w (v3 + 1)) ∧ (p_w (v3 + 1)) < (n9 : Int)) <|
      p_gd ((0 : Int) ≤ (p_w (v3 + 2)) ∧ (p_w (v3 + 2)) < (n9 : Int)) <|
      p_gd (p_is s41 v2 11) <|
      p_bd (F_Mo_links v2 (t9 ((p_w (v3 + 1)) : Int).toNat) (t9 ((p_w (v3 + 2)) : Int).toNat) s41) fun r53 s49 =>
      if r45 = r53 then
        B_La_law_1701 n9 t9 k18 v1 v2 v3 s49
      else
        some (0, s49)
    else if (p_and (t9 (v3 : Int).toNat) 63) = 3 then
      p_gd ((0 : Int) ≤ (p_w (v3 + 1)) ∧ (p_w (v3 + 1)) < (n9 : Int)) <|
      p_gd ((0 : Int) ≤ (p_w (v3 + 2)) ∧ (p_w (v3 + 2)) < (n9 : Int)) <|
      p_gd ((0 : Int) ≤ (p_w (v3 + 3)) ∧ (p_w (v3 + 3)) < (n9 : Int)) <|
      p_gd (p_is s0 v1 10) <|
      p_bd (F_SW_link v1 (t9 ((p_w (v3 + 1)) : Int).toNat) (t9 ((p_w (v3 + 2)) : Int).toNat) (t9 ((p_w (v3 + 3)) : Int).toNat) s0) fun r64 s60 =>
      p_gd ((0 : Int) ≤ (p_w (v3 + 1)) ∧ (p_w (v3 + 1)) < (n9 : Int)) <|
      p_gd ((0 : Int) ≤ (p_w (v3 + 2)) ∧ (p_w (v3 + 2)) < (n9 : Int)) <|
      p_gd ((0 : Int) ≤ (p_w (v3 + 3)) ∧ (p_w (v3 + 3)) < (n9 : Int)) <|
      p_gd (p_is s60 v2 11) <|
      p_bd (F_Mo_link v2 (t9 ((p_w (v3 + 1)) : Int).toNat) (t9 ((p_w (v3 + 2)) : Int).toNat) (t9 ((p_w (v3 + 3)) : Int).toNat) s60) fun r73 s69 =>
      if r64 = r73 then
        B_La_law_1701 n9 t9 k18 v1 v2 v3 s69
      else
        some (0, s69)
    else if (p_and (t9 (v3 : Int).toNat) 63) = 4 then
      p_gd ((0 : Int) ≤ (p_w (v3 + 1)) ∧ (p_w (v3 + 1)) < (n9 : Int)) <|
      p_gd ((0 : Int) ≤ (p_w (v3 + 2)) ∧ (p_w (v3 + 2)) < (n9 : Int)) <|
      p_gd ((0 : Int) ≤ (p_w (v3 + 3)) ∧ (p_w (v3 + 3)) < (n9 : Int)) <|
      p_gd ((0 : Int) ≤ (p_w (v3 + 4)) ∧ (p_w (v3 + 4)) < (n9 : Int)) <|
      if (t9 ((p_w (v3 + 4)) : Int).toNat) = 0 then
        B_La_law_397 n9 t9 k18 v1 v2 v3 0 (t9 ((p_w (v3 + 3)) : Int).toNat) (t9 ((p_w (v3 + 2)) : Int).toNat) (t9 ((p_w (v3 + 1)) : Int).toNat) v1 s0
      else
        B_La_law_397 n9 t9 k18 v1 v2 v3 1 (t9 ((p_w (v3 + 3)) : Int).toNat) (t9 ((p_w (v3 + 2)) : Int).toNat) (t9 ((p_w (v3 + 1)) : Int).toNat) v1 s0
    else if (p_and (t9 (v3 : Int).toNat) 63) = 5 then
      p_gd ((0 : Int) ≤ (p_w (v3 + 1)) ∧ (p_w (v3 + 1)) < (n9 : Int)) <|
      p_gd ((0 : Int) ≤ (p_w (v3 + 2)) ∧ (p_w (v3 + 2)) < (n9 : Int)) <|
      p_gd (p_is s0 v1 10) <|
      p_bd (F_SW_rank v1 (t9 ((p_w (v3 + 1)) : Int).toNat) (t9 ((p_w (v3 + 2)) : Int).toNat) s0) fun r89 s85 =>
      p_gd ((0 : Int) ≤ (p_w (v3 + 1)) ∧ (p_w (v3 + 1)) < (n9 : Int)) <|
      p_gd ((0 : Int) ≤ (p_w (v3 + 2)) ∧ (p_w (v3 + 2)) < (n9 : Int)) <|
      p_gd (p_is s85 v2 11) <|
      p_bd (F_Mo_rank v2 (t9 ((p_w (v3 + 1)) : Int).toNat) (t9 ((p_w (v3 + 2)) : Int).toNat) s85) fun r97 s93 =>
      if r89 = r97 then
        B_La_law_1701 n9 t9 k18 v1 v2 v3 s93
      else
        some (0, s93)
    else if (p_and (t9 (v3 : Int).toNat) 63) = 6 then
      p_gd ((0 : Int) ≤ (p_w (v3 + 1)) ∧ (p_w (v3 + 1)) < (n9 : Int)) <|
      p_gd ((0 : Int) ≤ (p_w (v3 + 2)) ∧ (p_w (v3 + 2)) < (n9 : Int)) <|
      p_gd (p_is s0 v1 10) <|
      p_bd (F_SW_refit v1 (t9 ((p_w (v3 + 1)) : Int).toNat) (t9 ((p_w (v3 + 2)) : Int).toNat) s0) fun r107 s103 =>
      p_gd ((0 : Int) ≤ (p_w (v3 + 1)) ∧ (p_w (v3 + 1)) < (n9 : Int)) <|
      p_gd ((0 : Int) ≤ (p_w (v3 + 2)) ∧ (p_w (v3 + 2)) < (n9 : Int)) <|
      p_gd (p_is s103 v2 11) <|
      p_bd (F_Mo_refit v2 (t9 ((p_w (v3 + 1)) : Int).toNat) (t9 ((p_w (v3 + 2)) : Int).toNat) s103) fun r115 s111 =>
      if r107 = r115 then
        B_La_law_1701 n9 t9 k18 v1 v2 v3 s111
      else
        some (0, s111)
    else if (p_and (t9 (v3 : Int).toNat) 63) = 7 then
      p_gd ((0 : Int) ≤ (p_w (v3 + 1)) ∧ (p_w (v3 + 1)) < (n9 : Int)) <|
      p_gd (p_is s0 v1 10) <|
      p_bd (F_SW_copy v1 (t9 ((p_w (v3 + 1)) : Int).toNat) s0) fun r124 s120 =>
      p_gd ((0 : Int) ≤ (p_w (v3 + 1)) ∧ (p_w (v3 + 1)) < (n9 : Int)) <|
      p_gd (p_is s120 v2 11) <|
      p_bd (F_Mo_copy v2 (t9 ((p_w (v3 + 1)) : Int).toNat) s120) fun r131 s127 =>
      if r124 = r131 then
        B_La_law_1701 n9 t9 k18 v1 v2 v3 s127
      else
        some (0, s127)
    else if (p_and (t9 (v3 : Int).toNat) 63) = 8 then
      p_gd ((0 : Int) ≤ (p_w (v3 + 1)) ∧ (p_w (v3 + 1)) < (n9 : Int)) <|
      p_gd (p_is s0 v1 10) <|
      p_bd (F_SW_letter v1 (t9 ((p_w (v3 + 1)) : Int).toNat) s0) fun r140 s136 =>
      p_gd ((0 : Int) ≤ (p_w (v3 + 1)) ∧ (p_w (v3 + 1)) < (n9 : Int)) <|
      p_gd (p_is s136 v2 11) <|
      p_bd (F_Mo_letter v2 (t9 ((p_w (v3 + 1)) : Int).toNat) s136) fun r147 s143 =>
      if r140 = r147 then
        B_La_law_1701 n9 t9 k18 v1 v2 v3 s143
      else
        some (0, s143)
    else if (p_and (t9 (v3 : Int).toNat) 63) = 9 then
      p_gd (p_is s0 v1 10) <|
      p_bd (F_SW_load v1 s0) fun r155 s151 =>
      p_gd (p_is s151 v2 11) <|
      p_bd (F_Mo_load v2 s151) fun r161 s157 =>
      if r155 = r161 then
        B_La_law_1701 n9 t9 k18 v1 v2 v3 s157
      else
        some (0, s157)
    else if (p_and (t9 (v3 : Int).toNat) 63) = 10 then
      p_gd ((0 : Int) ≤ (p_w (v3 + 1)) ∧ (p_w (v3 + 1)) < (n9 : Int)) <|
      p_gd ((0 : Int) ≤ (p_w (v3 + 2)) ∧ (p_w (v3 + 2)) < (n9 : Int)) <|
      p_gd ((0 : Int) ≤ (p_w (v3 + 3)) ∧ (p_w (v3 + 3)) < (n9 : Int)) <|
      p_gd ((0 : Int) ≤ (p_w (v3 + 4)) ∧ (p_w (v3 + 4)) < (n9 : Int)) <|
      p_gd ((0 : Int) ≤ (p_w (v3 + 5)) ∧ (p_w (v3 + 5)) < (n9 : Int)) <|
      p_gd (p_is s0 v1 10) <|
      p_bd (F_SW_plan v1 (t9 ((p_w (v3 + 1)) : Int).toNat) (t9 ((p_w (v3 + 2)) : Int).toNat) (t9 ((p_w (v3 + 3)) : Int).toNat) (t9 ((p_w (v3 + 4)) : Int).toNat) (t9 ((p_w (v3 + 5)) : Int).toNat) s0) fun r174 s170 =>
      p_gd ((0 : Int) ≤ (p_w (v3 + 1)) ∧ (p_w (v3 + 1)) < (n9 : Int)) <|
      p_gd ((0 : Int) ≤ (p_w (v3 + 2)) ∧ (p_w (v3 + 2)) < (n9 : Int)) <|
      p_gd ((0 : Int) ≤ (p_w (v3 + 3)) ∧ (p_w (v3 + 3)) < (n9 : Int)) <|
      p_gd ((0 : Int) ≤ (p_w (v3 + 4)) ∧ (p_w (v3 + 4)) < (n9 : Int)) <|
      p_gd ((0 : Int) ≤ (p_w (v3 + 5)) ∧ (p_w (v3 + 5)) < (n9 : Int)) <|
      p_gd (p_is s170 v2 11) <|
      p_bd (F_Mo_plan v2 (t9 ((p_w (v3 + 1)) : Int).toNat) (t9 ((p_w (v3 + 2)) : Int).toNat) (t9 ((p_w (v3 + 3)) : Int).toNat) (t9 ((p_w (v3 + 4)) : Int).toNat) (t9 ((p_w (v3 + 5)) : Int).toNat) s170) fun r185 s181 =>
      if r174 = r185 then
        B_La_law_1701 n9 t9 k18 v1 v2 v3 s181
      else
        some (0, s181)
    else if (p_and (t9 (v3 : Int).toNat) 63) = 11 then
      p_gd ((0 : Int) ≤ (p_w (v3 + 1)) ∧ (p_w (v3 + 1)) < (n9 : Int)) <|
      p_gd ((0 : Int) ≤ (p_w (v3 + 2)) ∧ (p_w (v3 + 2)) < (n9 : Int)) <|
      p_gd ((0 : Int) ≤ (p_w (v3 + 3)) ∧ (p_w (v3 + 3)) < (n9 : Int)) <|
      p_gd (p_is s0 v1 10) <|
      p_bd (F_SW_come v1 (t9 ((p_w (v3 + 1)) : Int).toNat) (t9 ((p_w (v3 + 2)) : Int).toNat) (t9 ((p_w (v3 + 3)) : Int).toNat) s0) fun r196 s192 =>
      p_gd ((0 : Int) ≤ (p_w (v3 + 1)) ∧ (p_w (v3 + 1)) < (n9 : Int)) <|
      p_gd ((0 : Int) ≤ (p_w (v3 + 2)) ∧ (p_w (v3 + 2)) < (n9 : Int)) <|
      p_gd ((0 : Int) ≤ (p_w (v3 + 3)) ∧ (p_w (v3 + 3)) < (n9 : Int)) <|
      p_gd (p_is s192 v2 11) <|
      p_bd (F_Mo_come v2 (t9 ((p_w (v3 + 1)) : Int).toNat) (t9 ((p_w (v3 + 2)) : Int).toNat) (t9 ((p_w (v3 + 3)) : Int).toNat) s192) fun r205 s201 =>
      if r196 = r205 then
        B_La_law_1701 n9 t9 k18 v1 v2 v3 s201
      else
        some (0, s201)
    else if (p_and (t9 (v3 : Int).toNat) 63) = 12 then
      p_gd ((0 : Int) ≤ (p_w (v3 + 1)) ∧ (p_w (v3 + 1)) < (n9 : Int)) <|
      p_gd ((0 : Int) ≤ (p_w (v3 + 2)) ∧ (p_w (v3 + 2)) < (n9 : Int)) <|
      p_gd (p_is s0 v1 10) <|
      p_bd (F_SW_label v1 (t9 ((p_w (v3 + 1)) : Int).toNat) (t9 ((p_w (v3 + 2)) : Int).toNat) s0) fun r215 s211 =>
      p_gd ((0 : Int) ≤ (p_w (v3 + 1)) ∧ (p_w (v3 + 1)) < (n9 : Int)) <|
      p_gd ((0 : Int) ≤ (p_w (v3 + 2)) ∧ (p_w (v3 + 2)) < (n9 : Int)) <|
      p_gd (p_is s211 v2 11) <|
      p_bd (F_Mo_label v2 (t9 ((p_w (v3 + 1)) : Int).toNat) (t9 ((p_w (v3 + 2)) : Int).toNat) s211) fun r223 s219 =>
      if r215 = r223 then
        B_La_law_1701 n9 t9 k18 v1 v2 v3 s219
      else
        some (0, s219)
    else if (p_and (t9 (v3 : Int).toNat) 63) = 13 then
      p_gd ((0 : Int) ≤ (p_w (v3 + 1)) ∧ (p_w (v3 + 1)) < (n9 : Int)) <|
      p_gd ((0 : Int) ≤ (p_w (v3 + 2)) ∧ (p_w (v3 + 2)) < (n9 : Int)) <|
      p_gd ((0 : Int) ≤ (p_w (v3 + 3)) ∧ (p_w (v3 + 3)) < (n9 : Int)) <|
      p_gd (p_is s0 v1 10) <|
      p_bd (F_SW_put v1 (t9 ((p_w (v3 + 1)) : Int).toNat) (t9 ((p_w (v3 + 2)) : Int).toNat) (t9 ((p_w (v3 + 3)) : Int).toNat) s0) fun r234 s230 =>
      p_gd ((0 : Int) ≤ (p_w (v3 + 1)) ∧ (p_w (v3 + 1)) < (n9 : Int)) <|
      p_gd ((0 : Int) ≤ (p_w (v3 + 2)) ∧ (p_w (v3 + 2)) < (n9 : Int)) <|
      p_gd ((0 : Int) ≤ (p_w (v3 + 3)) ∧ (p_w (v3 + 3)) < (n9 : Int)) <|
      p_gd (p_is s230 v2 11) <|
      p_bd (F_Mo_put v2 (t9 ((p_w (v3 + 1)) : Int).toNat) (t9 ((p_w (v3 + 2)) : Int).toNat) (t9 ((p_w (v3 + 3)) : Int).toNat) s230) fun r243 s239 =>
      if r234 = r243 then
        B_La_law_1701 n9 t9 k18 v1 v2 v3 s239
      else
        some (0, s239)
    else if (p_and (t9 (v3 : Int).toNat) 63) = 14 then
      p_gd ((0 : Int) ≤ (p_w (v3 + 1)) ∧ (p_w (v3 + 1)) < (n9 : Int)) <|
      p_gd ((0 : Int) ≤ (p_w (v3 + 2)) ∧ (p_w (v3 + 2)) < (n9 : Int)) <|
      p_gd ((0 : Int) ≤ (p_w (v3 + 3)) ∧ (p_w (v3 + 3)) < (n9 : Int)) <|
      p_gd (p_is s0 v1 10) <|
      p_bd (F_SW_tag v1 (t9 ((p_w (v3 + 1)) : Int).toNat) (t9 ((p_w (v3 + 2)) : Int).toNat) (t9 ((p_w (v3 + 3)) : Int).toNat) s0) fun r254 s250 =>
      p_gd ((0 : Int) ≤ (p_w (v3 + 1)) ∧ (p_w (v3 + 1)) < (n9 : Int)) <|
      p_gd ((0 : Int) ≤ (p_w (v3 + 2)) ∧ (p_w (v3 + 2)) < (n9 : Int)) <|
      p_gd ((0 : Int) ≤ (p_w (v3 + 3)) ∧ (p_w (v3 + 3)) < (n9 : Int)) <|
      p_gd (p_is s250 v2 11) <|
      p_bd (F_Mo_tag v2 (t9 ((p_w (v3 + 1)) : Int).toNat) (t9 ((p_w (v3 + 2)) : Int).toNat) (t9 ((p_w (v3 + 3)) : Int).toNat) s250) fun r263 s259 =>
      if r254 = r263 then
        B_La_law_1701 n9 t9 k18 v1 v2 v3 s259
      else
        some (0, s259)
    else if (p_and (t9 (v3 : Int).toNat) 63) = 15 then
      p_gd ((0 : Int) ≤ (p_w (v3 + 1)) ∧ (p_w (v3 + 1)) < (n9 : Int)) <|
      p_gd ((0 : Int) ≤ (p_w (v3 + 2)) ∧ (p_w (v3 + 2)) < (n9 : Int)) <|
      if (t9 ((p_w (v3 + 2)) : Int).toNat) = 0 then
        B_La_law_806 n9 t9 k18 v1 v2 v3 0 (t9 ((p_w (v3 + 1)) : Int).toNat) v1 s0
      else
        B_La_law_806 n9 t9 k18 v1 v2 v3 1 (t9 ((p_w (v3 + 1)) : Int).toNat) v1 s0
    else if (p_and (t9 (v3 : Int).toNat) 63) = 16 then
      p_gd ((0 : Int) ≤ (p_w (v3 + 1)) ∧ (p_w (v3 + 1)) < (n9 : Int)) <|
      p_gd ((0 : Int) ≤ (p_w (v3 + 2)) ∧ (p_w (v3 + 2)) < (n9 : Int)) <|
      p_gd (p_is s0 v1 10) <|
      p_bd (F_SW_turn v1 (t9 ((p_w (v3 + 1)) : Int).toNat) (t9 ((p_w (v3 + 2)) : Int).toNat) s0) fun r277 s273 =>
      p_gd ((0 : Int) ≤ (p_w (v3 + 1)) ∧ (p_w (v3 + 1)) < (n9 : Int)) <|
      p_gd ((0 : Int) ≤ (p_w (v3 + 2)) ∧ (p_w (v3 + 2)) < (n9 : Int)) <|
      p_gd (p_is s273 v2 11) <|
      p_bd (F_Mo_turn v2 (t9 ((p_w (v3 + 1)) : Int).toNat) (t9 ((p_w (v3 + 2)) : Int).toNat) s273) fun r285 s281 =>
      if r277 = r285 then
        B_La_law_1701 n9 t9 k18 v1 v2 v3 s281
      else
        some (0, s281)
    else if (p_and (t9 (v3 : Int).toNat) 63) = 17 then
      p_gd ((0 : Int) ≤ (p_w (v3 + 1)) ∧ (p_w (v3 + 1)) < (n9 : Int)) <|
      p_gd ((0 : Int) ≤ (p_w (v3 + 2)) ∧ (p_w (v3 + 2)) < (n9 : Int)) <|
      p_gd (p_is s0 v1 10) <|
      p_bd (F_SW_release v1 (t9 ((p_w (v3 + 1)) : Int).toNat) (t9 ((p_w (v3 + 2)) : Int).toNat) s0) fun r295 s291 =>
      p_gd ((0 : Int) ≤ (p_w (v3 + 1)) ∧ (p_w (v3 + 1)) < (n9 : Int)) <|
      p_gd ((0 : Int) ≤ (p_w (v3 + 2)) ∧ (p_w (v3 + 2)) < (n9 : Int)) <|
      p_gd (p_is s291 v2 11) <|
      p_bd (F_Mo_release v2 (t9 ((p_w (v3 + 1)) : Int).toNat) (t9 ((p_w (v3 + 2)) : Int).toNat) s291) fun r303 s299 =>
      if r295 = r303 then
        B_La_law_1701 n9 t9 k18 v1 v2 v3 s299
      else
        some (0, s299)
    else if (p_and (t9 (v3 : Int).toNat) 63) = 18 then
      p_gd ((0 : Int) ≤ (p_w (v3 + 1)) ∧ (p_w (v3 + 1)) < (n9 : Int)) <|
      p_gd (p_is s0 v1 10) <|
      p_bd (F_SW_clear v1 (t9 ((p_w (v3 + 1)) : Int).toNat) s0) fun r312 s308 =>
      p_gd ((0 : Int) ≤ (p_w (v3 + 1)) ∧ (p_w (v3 + 1)) < (n9 : Int)) <|
      p_gd (p_is s308 v2 11) <|
      p_bd (F_Mo_clear v2 (t9 ((p_w (v3 + 1)) : Int).toNat) s308) fun r319 s315 =>
      if r312 = r319 then
        B_La_law_1701 n9 t9 k18 v1 v2 v3 s315
      else
        some (0, s315)
    else if (p_and (t9 (v3 : Int).toNat) 63) = 19 then
      p_gd ((0 : Int) ≤ (p_w (v3 + 1)) ∧ (p_w (v3 + 1)) < (n9 : Int)) <|
      p_gd ((0 : Int) ≤ (p_w (v3 + 2)) ∧ (p_w (v3 + 2)) < (n9 : Int)) <|
      p_gd (p_is s0 v1 10) <|
      p_bd (F_SW_carry v1 (t9 ((p_w (v3 + 1)) : Int).toNat) (t9 ((p_w (v3 + 2)) : Int).toNat) s0) fun r329 s325 =>
      p_gd ((0 : Int) ≤ (p_w (v3 + 1)) ∧ (p_w (v3 + 1)) < (n9 : Int)) <|
      p_gd ((0 : Int) ≤ (p_w (v3 + 2)) ∧ (p_w (v3 + 2)) < (n9 : Int)) <|
      p_gd (p_is s325 v2 11) <|
      p_bd (F_Mo_carry v2 (t9 ((p_w (v3 + 1)) : Int).toNat) (t9 ((p_w (v3 + 2)) : Int).toNat) s325) fun r337 s333 =>
      if r329 = r337 then
        B_La_law_1701 n9 t9 k18 v1 v2 v3 s333
      else
        some (0, s333)
    else if (p_and (t9 (v3 : Int).toNat) 63) = 20 then
      p_gd ((0 : Int) ≤ (p_w (v3 + 1)) ∧ (p_w (v3 + 1)) < (n9 : Int)) <|
      p_gd ((0 : Int) ≤ (p_w (v3 + 2)) ∧ (p_w (v3 + 2)) < (n9 : Int)) <|
      p_gd ((0 : Int) ≤ (p_w (v3 + 3)) ∧ (p_w (v3 + 3)) < (n9 : Int)) <|
      p_gd (p_is s0 v1 10) <|
      p_bd (F_SW_group v1 (t9 ((p_w (v3 + 1)) : Int).toNat) (t9 ((p_w (v3 + 2)) : Int).toNat) (t9 ((p_w (v3 + 3)) : Int).toNat) s0) fun r348 s344 =>
      p_gd ((0 : Int) ≤ (p_w (v3 + 1)) ∧ (p_w (v3 + 1)) < (n9 : Int)) <|
      p_gd ((0 : Int) ≤ (p_w (v3 + 2)) ∧ (p_w (v3 + 2)) < (n9 : Int)) <|
      p_gd ((0 : Int) ≤ (p_w (v3 + 3)) ∧ (p_w (v3 + 3)) < (n9 : Int)) <|
      p_gd (p_is s344 v2 11) <|
      p_bd (F_Mo_group v2 (t9 ((p_w (v3 + 1)) : Int).toNat) (t9 ((p_w (v3 + 2)) : Int).toNat) (t9 ((p_w (v3 + 3)) : Int).toNat) s344) fun r357 s353 =>
      if r348 = r357 then
        B_La_law_1701 n9 t9 k18 v1 v2 v3 s353
      else
        some (0, s353)
    else if (p_and (t9 (v3 : Int).toNat) 63) = 21 then
      p_gd ((0 : Int) ≤ (p_w (v3 + 1)) ∧ (p_w (v3 + 1)) < (n9 : Int)) <|
      p_gd ((0 : Int) ≤ (p_w (v3 + 2)) ∧ (p_w (v3 + 2)) < (n9 : Int)) <|
      p_gd ((0 : Int) ≤ (p_w (v3 + 3)) ∧ (p_w (v3 + 3)) < (n9 : Int)) <|
      p_gd (p_is s0 v1 10) <|
      p_bd (F_SW_enter v1 (t9 ((p_w (v3 + 1)) : Int).toNat) (t9 ((p_w (v3 + 2)) : Int).toNat) (t9 ((p_w (v3 + 3)) : Int).toNat) s0) fun r368 s364 =>
      p_gd ((0 : Int) ≤ (p_w (v3 + 1)) ∧ (p_w (v3 + 1)) < (n9 : Int)) <|
      p_gd ((0 : Int) ≤ (p_w (v3 + 2)) ∧ (p_w (v3 + 2)) < (n9 : Int)) <|
      p_gd ((0 : Int) ≤ (p_w (v3 + 3)) ∧ (p_w (v3 + 3)) < (n9 : Int)) <|
      p_gd (p_is s364 v2 11) <|
      p_bd (F_Mo_enter v2 (t9 ((p_w (v3 + 1)) : Int).toNat) (t9 ((p_w (v3 + 2)) : Int).toNat) (t9 ((p_w (v3 + 3)) : Int).toNat) s364) fun r377 s373 =>
      if r368 = r377 then
        B_La_law_1701 n9 t9 k18 v1 v2 v3 s373
      else
        some (0, s373)
    else if (p_and (t9 (v3 : Int).toNat) 63) = 22 then
      p_gd ((0 : Int) ≤ (p_w (v3 + 1)) ∧ (p_w (v3 + 1)) < (n9 : Int)) <|
      p_gd ((0 : Int) ≤ (p_w (v3 + 2)) ∧ (p_w (v3 + 2)) < (n9 : Int)) <|
      p_gd (p_is s0 v1 10) <|
      p_bd (F_SW_tally v1 (t9 ((p_w (v3 + 1)) : Int).toNat) (t9 ((p_w (v3 + 2)) : Int).toNat) s0) fun r387 s383 =>
      p_gd ((0 : Int) ≤ (p_w (v3 + 1)) ∧ (p_w (v3 + 1)) < (n9 : Int)) <|
      p_gd ((0 : Int) ≤ (p_w (v3 + 2)) ∧ (p_w (v3 + 2)) < (n9 : Int)) <|
      p_gd (p_is s383 v2 11) <|
      p_bd (F_Mo_tally v2 (t9 ((p_w (v3 + 1)) : Int).toNat) (t9 ((p_w (v3 + 2)) : Int).toNat) s383) fun r395 s391 =>
      if r387 = r395 then
        B_La_law_1701 n9 t9 k18 v1 v2 v3 s391
      else
        some (0, s391)
    else if (p_and (t9 (v3 : Int).toNat) 63) = 23 then
      p_gd (p_is s0 v1 10) <|
      p_bd (F_SW_step v1 s0) fun r403 s399 =>
      p_gd (p_is s399 v2 11) <|
      p_bd (F_Mo_step v2 s399) fun r409 s405 =>
      if r403 = r409 then
        B_La_law_1701 n9 t9 k18 v1 v2 v3 s405
      else
        some (0, s405)
    else if (p_and (t9 (v3 : Int).toNat) 63) = 24 then
      p_gd ((0 : Int) ≤ (p_w (v3 + 1)) ∧ (p_w (v3 + 1)) < (n9 : Int)) <|
      p_gd ((0 : Int) ≤ (p_w (v3 + 2)) ∧ (p_w (v3 + 2)) < (n9 : Int)) <|
      p_gd (p_is s0 v1 10) <|
      p_bd (F_SW_night v1 (t9 ((p_w (v3 + 1)) : Int).toNat) (t9 ((p_w (v3 + 2)) : Int).toNat) s0) fun r419 s415 =>
      p_gd ((0 : Int) ≤ (p_w (v3 + 1)) ∧ (p_w (v3 + 1)) < (n9 : Int)) <|
      p_gd ((0 : Int) ≤ (p_w (v3 + 2)) ∧ (p_w (v3 + 2)) < (n9 : Int)) <|
      p_gd (p_is s415 v2 11) <|
      p_bd (F_Mo_night v2 (t9 ((p_w (v3 + 1)) : Int).toNat) (t9 ((p_w (v3 + 2)) : Int).toNat) s415) fun r427 s423 =>
      if r419 = r427 then
        B_La_law_1701 n9 t9 k18 v1 v2 v3 s423
      else
        some (0, s423)
    else if (p_and (t9 (v3 : Int).toNat) 63) = 25 then
      p_gd ((0 : Int) ≤ (p_w (v3 + 1)) ∧ (p_w (v3 + 1)) < (n9 : Int)) <|
      p_gd (p_is s0 v1 10) <|
      p_bd (F_SW_back v1 (t9 ((p_w (v3 + 1)) : Int).toNat) s0) fun r436 s432 =>
      p_gd ((0 : Int) ≤ (p_w (v3 + 1)) ∧ (p_w (v3 + 1)) < (n9 : Int)) <|
      p_gd (p_is s432 v2 11) <|
      p_bd (F_Mo_back v2 (t9 ((p_w (v3 + 1)) : Int).toNat) s432) fun r443 s439 =>
      if r436 = r443 then
        B_La_law_1701 n9 t9 k18 v1 v2 v3 s439
      else
        some (0, s439)
    else if (p_and (t9 (v3 : Int).toNat) 63) = 26 then
      p_gd (p_is s0 v1 10) <|
      p_bd (F_SW_status v1 s0) fun r451 s447 =>
      p_gd (p_is s447 v2 11) <|
      p_bd (F_Mo_status v2 s447) fun r457 s453 =>
      if r451 = r457 then
        B_La_law_1701 n9 t9 k18 v1 v2 v3 s453
      else
        some (0, s453)
    else if (p_and (t9 (v3 : Int).toNat) 63) = 27 then
      p_gd ((0 : Int) ≤ (p_w (v3 + 1)) ∧ (p_w (v3 + 1)) < (n9 : Int)) <|
      p_gd ((0 : Int) ≤ (p_w (v3 + 2)) ∧ (p_w (v3 + 2)) < (n9 : Int)) <|
      p_gd (p_is s0 v1 10) <|
      p_bd (F_SW_told v1 (t9 ((p_w (v3 + 1)) : Int).toNat) (t9 ((p_w (v3 + 2)) : Int).toNat) s0) fun r467 s463 =>
      p_gd ((0 : Int) ≤ (p_w (v3 + 1)) ∧ (p_w (v3 + 1)) < (n9 : Int)) <|
      p_gd ((0 : Int) ≤ (p_w (v3 + 2)) ∧ (p_w (v3 + 2)) < (n9 : Int)) <|
      p_gd (p_is s463 v2 11) <|
      p_bd (F_Mo_told v2 (t9 ((p_w (v3 + 1)) : Int).toNat) (t9 ((p_w (v3 + 2)) : Int).toNat) s463) fun r475 s471 =>
      if r467 = r475 then
        B_La_law_1701 n9 t9 k18 v1 v2 v3 s471
      else
        some (0, s471)
    else if (p_and (t9 (v3 : Int).toNat) 63) = 28 then
      p_gd ((0 : Int) ≤ (p_w (v3 + 1)) ∧ (p_w (v3 + 1)) < (n9 : Int)) <|
      p_gd ((0 : Int) ≤ (p_w (v3 + 2)) ∧ (p_w (v3 + 2)) < (n9 : Int)) <|
      p_gd (p_is s0 v1 10) <|
      p_bd (F_SW_slot v1 (t9 ((p_w (v3 + 1)) : Int).toNat) (t9 ((p_w (v3 + 2)) : Int).toNat) s0) fun r485 s481 =>
      p_gd ((0 : Int) ≤ (p_w (v3 + 1)) ∧ (p_w (v3 + 1)) < (n9 : Int)) <|
      p_gd ((0 : Int) ≤ (p_w (v3 + 2)) ∧ (p_w (v3 + 2)) < (n9 : Int)) <|
      p_gd (p_is s481 v2 11) <|
      p_bd (F_Mo_slot v2 (t9 ((p_w (v3 + 1)) : Int).toNat) (t9 ((p_w (v3 + 2)) : Int).toNat) s481) fun r493 s489 =>
      if r485 = r493 then
        B_La_law_1701 n9 t9 k18 v1 v2 v3 s489
      else
        some (0, s489)
    else if (p_and (t9 (v3 : Int).toNat) 63) = 29 then
      p_gd ((0 : Int) ≤ (p_w (v3 + 1)) ∧ (p_w (v3 + 1)) < (n9 : Int)) <|
      p_gd ((0 : Int) ≤ (p_w (v3 + 2)) ∧ (p_w (v3 + 2)) < (n9 : Int)) <|
      p_gd (p_is s0 v1 10) <|
      p_bd (F_SW_linkOf v1 (t9 ((p_w (v3 + 1)) : Int).toNat) (t9 ((p_w (v3 + 2)) : Int).toNat) s0) fun r503 s499 =>
      p_gd ((0 : Int) ≤ (p_w (v3 + 1)) ∧ (p_w (v3 + 1)) < (n9 : Int)) <|
      p_gd ((0 : Int) ≤ (p_w (v3 + 2)) ∧ (p_w (v3 + 2)) < (n9 : Int)) <|
      p_gd (p_is s499 v2 11) <|
      p_bd (F_Mo_linkOf v2 (t9 ((p_w (v3 + 1)) : Int).toNat) (t9 ((p_w (v3 + 2)) : Int).toNat) s499) fun r511 s507 =>
      if r503 = r511 then
        B_La_law_1701 n9 t9 k18 v1 v2 v3 s507
      else
        some (0, s507)
    else if (p_and (t9 (v3 : Int).toNat) 63) = 30 then
      p_gd ((0 : Int) ≤ (p_w (v3 + 1)) ∧ (p_w (v3 + 1)) < (n9 : Int)) <|
      p_gd ((0 : Int) ≤ (p_w (v3 + 2)) ∧ (p_w (v3 + 2)) < (n9 : Int)) <|
      p_gd (p_is s0 v1 10) <|
      p_bd (F_SW_parcel v1 (t9 ((p_w (v3 + 1)) : Int).toNat) (t9 ((p_w (v3 + 2)) : Int).toNat) s0) fun r521 s517 =>
      p_gd ((0 : Int) ≤ (p_w (v3 + 1)) ∧ (p_w (v3 + 1)) < (n9 : Int)) <|
      p_gd ((0 : Int) ≤ (p_w (v3 + 2)) ∧ (p_w (v3 + 2)) < (n9 : Int)) <|
      p_gd (p_is s517 v2 11) <|
      p_bd (F_Mo_parcel v2 (t9 ((p_w (v3 + 1)) : Int).toNat) (t9 ((p_w (v3 + 2)) : Int).toNat) s517) fun r529 s525 =>
      if r521 = r529 then
        B_La_law_1701 n9 t9 k18 v1 v2 v3 s525
      else
        some (0, s525)
    else if (p_and (t9 (v3 : Int).toNat) 63) = 31 then
      p_gd ((0 : Int) ≤ (p_w (v3 + 1)) ∧ (p_w (v3 + 1)) < (n9 : Int)) <|
      p_gd ((0 : Int) ≤ (p_w (v3 + 2)) ∧ (p_w (v3 + 2)) < (n9 : Int)) <|
      p_gd (p_is s0 v1 10) <|
      p_bd (F_SW_way v1 (t9 ((p_w (v3 + 1)) : Int).toNat) (t9 ((p_w (v3 + 2)) : Int).toNat) s0) fun r539 s535 =>
      p_gd ((0 : Int) ≤ (p_w (v3 + 1)) ∧ (p_w (v3 + 1)) < (n9 : Int)) <|
      p_gd ((0 : Int) ≤ (p_w (v3 + 2)) ∧ (p_w (v3 + 2)) < (n9 : Int)) <|
      p_gd (p_is s535 v2 11) <|
      p_bd (F_Mo_way v2 (t9 ((p_w (v3 + 1)) : Int).toNat) (t9 ((p_w (v3 + 2)) : Int).toNat) s535) fun r547 s543 =>
      if r539 = r547 then
        B_La_law_1701 n9 t9 k18 v1 v2 v3 s543
      else
        some (0, s543)
    else if (p_and (t9 (v3 : Int).toNat) 63) = 32 then
      p_gd ((0 : Int) ≤ (p_w (v3 + 1)) ∧ (p_w (v3 + 1)) < (n9 : Int)) <|
      p_gd ((0 : Int) ≤ (p_w (v3 + 2)) ∧ (p_w (v3 + 2)) < (n9 : Int)) <|
      p_gd (p_is s0 v1 10) <|
      p_bd (F_SW_byteOf v1 (t9 ((p_w (v3 + 1)) : Int).toNat) (t9 ((p_w (v3 + 2)) : Int).toNat) s0) fun r557 s553 =>
      p_gd ((0 : Int) ≤ (p_w (v3 + 1)) ∧ (p_w (v3 + 1)) < (n9 : Int)) <|
      p_gd ((0 : Int) ≤ (p_w (v3 + 2)) ∧ (p_w (v3 + 2)) < (n9 : Int)) <|
      p_gd (p_is s553 v2 11) <|
      p_bd (F_Mo_byteOf v2 (t9 ((p_w (v3 + 1)) : Int).toNat) (t9 ((p_w (v3 + 2)) : Int).toNat) s553) fun r565 s561 =>
      if r557 = r565 then
        B_La_law_1701 n9 t9 k18 v1 v2 v3 s561
      else
        some (0, s561)
    else if (p_and (t9 (v3 : Int).toNat) 63) = 33 then
      p_gd ((0 : Int) ≤ (p_w (v3 + 1)) ∧ (p_w (v3 + 1)) < (n9 : Int)) <|
      p_gd (p_is s0 v1 10) <|
      p_bd (F_SW_left v1 (t9 ((p_w (v3 + 1)) : Int).toNat) s0) fun r574 s570 =>
      p_gd ((0 : Int) ≤ (p_w (v3 + 1)) ∧ (p_w (v3 + 1)) < (n9 : Int)) <|
      p_gd (p_is s570 v2 11) <|
      p_bd (F_Mo_left v2 (t9 ((p_w (v3 + 1)) : Int).toNat) s570) fun r581 s577 =>
      if r574 = r581 then
        B_La_law_1701 n9 t9 k18 v1 v2 v3 s577
      else
        some (0, s577)
    else if (p_and (t9 (v3 : Int).toNat) 63) = 34 then
      p_gd ((0 : Int) ≤ (p_w (v3 + 1)) ∧ (p_w (v3 + 1)) < (n9 : Int)) <|
      p_gd ((0 : Int) ≤ (p_w (v3 + 2)) ∧ (p_w (v3 + 2)) < (n9 : Int)) <|
      p_gd (p_is s0 v1 10) <|
      p_bd (F_SW_out v1 (t9 ((p_w (v3 + 1)) : Int).toNat) (t9 ((p_w (v3 + 2)) : Int).toNat) s0) fun r591 s587 =>
      p_gd ((0 : Int) ≤ (p_w (v3 + 1)) ∧ (p_w (v3 + 1)) < (n9 : Int)) <|
      p_gd ((0 : Int) ≤ (p_w (v3 + 2)) ∧ (p_w (v3 + 2)) < (n9 : Int)) <|
      p_gd (p_is s587 v2 11) <|
      p_bd (F_Mo_out v2 (t9 ((p_w (v3 + 1)) : Int).toNat) (t9 ((p_w (v3 + 2)) : Int).toNat) s587) fun r599 s595 =>
      if r591 = r599 then
        B_La_law_1701 n9 t9 k18 v1 v2 v3 s595
      else
        some (0, s595)
    else if (p_and (t9 (v3 : Int).toNat) 63) = 35 then
      p_gd ((0 : Int) ≤ (p_w (v3 + 1)) ∧ (p_w (v3 + 1)) < (n9 : Int)) <|
      p_gd ((0 : Int) ≤ (p_w (v3 + 2)) ∧ (p_w (v3 + 2)) < (n9 : Int)) <|
      p_gd (p_is s0 v1 10) <|
      p_bd (F_SW_rule v1 (t9 ((p_w (v3 + 1)) : Int).toNat) (t9 ((p_w (v3 + 2)) : Int).toNat) s0) fun r609 s605 =>
      p_gd ((0 : Int) ≤ (p_w (v3 + 1)) ∧ (p_w (v3 + 1)) < (n9 : Int)) <|
      p_gd ((0 : Int) ≤ (p_w (v3 + 2)) ∧ (p_w (v3 + 2)) < (n9 : Int)) <|
      p_gd (p_is s605 v2 11) <|
      p_bd (F_Mo_rule_1 v2 (t9 ((p_w (v3 + 1)) : Int).toNat) (t9 ((p_w (v3 + 2)) : Int).toNat) s605) fun r617 s613 =>
      if r609 = r617 then
        B_La_law_1701 n9 t9 k18 v1 v2 v3 s613
      else
        some (0, s613)
    else if (p_and (t9 (v3 : Int).toNat) 63) = 36 then
      p_gd ((0 : Int) ≤ (p_w (v3 + 1)) ∧ (p_w (v3 + 1)) < (n9 : Int)) <|
      p_gd (p_is s0 v1 10) <|
      p_bd (F_SW_said v1 (t9 ((p_w (v3 + 1)) : Int).toNat) s0) fun r626 s622 =>
      p_gd ((0 : Int) ≤ (p_w (v3 + 1)) ∧ (p_w (v3 + 1)) < (n9 : Int)) <|
      p_gd (p_is s622 v2 11) <|
      p_bd (F_Mo_said v2 (t9 ((p_w (v3 + 1)) : Int).toNat) s622) fun r633 s629 =>
      if r626 = r633 then
        B_La_law_1701 n9 t9 k18 v1 v2 v3 s629
      else
        some (0, s629)
    else if (p_and (t9 (v3 : Int).toNat) 63) = 37 then
      p_gd ((0 : Int) ≤ (p_w (v3 + 1)) ∧ (p_w (v3 + 1)) < (n9 : Int)) <|
      p_gd (p_is s0 v1 10) <|
      p_bd (F_SW_unused v1 (t9 ((p_w (v3 + 1)) : Int).toNat) s0) fun r642 s638 =>
      p_gd ((0 : Int) ≤ (p_w (v3 + 1)) ∧ (p_w (v3 + 1)) < (n9 : Int)) <|
      p_gd (p_is s638 v2 11) <|
      p_bd (F_Mo_unused v2 (t9 ((p_w (v3 + 1)) : Int).toNat) s638) fun r649 s645 =>
      if r642 = r649 then
        B_La_law_1701 n9 t9 k18 v1 v2 v3 s645
      else
        some (0, s645)
    else if (p_and (t9 (v3 : Int).toNat) 63) = 38 then
      p_gd ((0 : Int) ≤ (p_w (v3 + 1)) ∧ (p_w (v3 + 1)) < (n9 : Int)) <|
      p_gd ((0 : Int) ≤ (p_w (v3 + 2)) ∧ (p_w (v3 + 2)) < (n9 : Int)) <|
      p_gd (p_is s0 v1 10) <|
      p_bd (F_SW_finding v1 (t9 ((p_w (v3 + 1)) : Int).toNat) (t9 ((p_w (v3 + 2)) : Int).toNat) s0) fun r659 s655 =>
      p_gd ((0 : Int) ≤ (p_w (v3 + 1)) ∧ (p_w (v3 + 1)) < (n9 : Int)) <|
      p_gd ((0 : Int) ≤ (p_w (v3 + 2)) ∧ (p_w (v3 + 2)) < (n9 : Int)) <|
      p_gd (p_is s655 v2 11) <|
      p_bd (F_Mo_finding v2 (t9 ((p_w (v3 + 1)) : Int).toNat) (t9 ((p_w (v3 + 2)) : Int).toNat) s655) fun r667 s663 =>
      if r659 = r667 then
        B_La_law_1701 n9 t9 k18 v1 v2 v3 s663
      else
        some (0, s663)
    else if (p_and (t9 (v3 : Int).toNat) 63) = 39 then
      p_gd ((0 : Int) ≤ (p_w (v3 + 1)) ∧ (p_w (v3 + 1)) < (n9 : Int)) <|
      p_gd (p_is s0 v1 10) <|
      p_bd (F_SW_trace v1 (t9 ((p_w (v3 + 1)) : Int).toNat) s0) fun r676 s672 =>
      p_gd ((0 : Int) ≤ (p_w (v3 + 1)) ∧ (p_w (v3 + 1)) < (n9 : Int)) <|
      p_gd (p_is s672 v2 11) <|
      p_bd (F_Mo_trace v2 (t9 ((p_w (v3 + 1)) : Int).toNat) s672) fun r683 s679 =>
      if r676 = r683 then
        B_La_law_1701 n9 t9 k18 v1 v2 v3 s679
      else
        some (0, s679)
    else if (p_and (t9 (v3 : Int).toNat) 63) = 40 then
      p_gd ((0 : Int) ≤ (p_w (v3 + 1)) ∧ (p_w (v3 + 1)) < (n9 : Int)) <|
      p_gd (p_is s0 v1 10) <|
      p_bd (F_SW_jam v1 (t9 ((p_w (v3 + 1)) : Int).toNat) s0) fun r692 s688 =>
      p_gd ((0 : Int) ≤ (p_w (v3 + 1)) ∧ (p_w (v3 + 1)) < (n9 : Int)) <|
      p_gd (p_is s688 v2 11) <|
      p_bd (F_Mo_jam v2 (t9 ((p_w (v3 + 1)) : Int).toNat) s688) fun r699 s695 =>
      if r692 = r699 then
        B_La_law_1701 n9 t9 k18 v1 v2 v3 s695
      else
        some (0, s695)
    else if (p_and (t9 (v3 : Int).toNat) 63) = 41 then
      p_gd ((0 : Int) ≤ (p_w (v3 + 1)) ∧ (p_w (v3 + 1)) < (n9 : Int)) <|
      p_gd ((0 : Int) ≤ (p_w (v3 + 2)) ∧ (p_w (v3 + 2)) < (n9 : Int)) <|
      p_gd (p_is s0 v1 10) <|
      p_bd (F_SW_far v1 (t9 ((p_w (v3 + 1)) : Int).toNat) (t9 ((p_w (v3 + 2)) : Int).toNat) s0) fun r709 s705 =>
      p_gd ((0 : Int) ≤ (p_w (v3 + 1)) ∧ (p_w (v3 + 1)) < (n9 : Int)) <|
      p_gd ((0 : Int) ≤ (p_w (v3 + 2)) ∧ (p_w (v3 + 2)) < (n9 : Int)) <|
      p_gd (p_is s705 v2 11) <|
      p_bd (F_Mo_far v2 (t9 ((p_w (v3 + 1)) : Int).toNat) (t9 ((p_w (v3 + 2)) : Int).toNat) s705) fun r717 s713 =>
      if r709 = r717 then
        B_La_law_1701 n9 t9 k18 v1 v2 v3 s713
      else
        some (0, s713)
    else if (p_and (t9 (v3 : Int).toNat) 63) = 42 then
      p_gd ((0 : Int) ≤ (p_w (v3 + 1)) ∧ (p_w (v3 + 1)) < (n9 : Int)) <|
      p_gd (p_is s0 v1 10) <|
      p_bd (F_SW_reach v1 (t9 ((p_w (v3 + 1)) : Int).toNat) s0) fun r726 s722 =>
      p_gd ((0 : Int) ≤ (p_w (v3 + 1)) ∧ (p_w (v3 + 1)) < (n9 : Int)) <|
      p_gd (p_is s722 v2 11) <|
      p_bd (F_Mo_reach v2 (t9 ((p_w (v3 + 1)) : Int).toNat) s722) fun r733 s729 =>
      if (p_cmp r726 r733) = 0 then
        B_La_law_1701 n9 t9 k18 v1 v2 v3 s729
      else
        some (0, s729)
    else if (p_and (t9 (v3 : Int).toNat) 63) = 43 then
      p_gd ((0 : Int) ≤ (p_w (v3 + 1)) ∧ (p_w (v3 + 1)) < (n9 : Int)) <|
      p_gd (p_is s0 v1 10) <|
      p_bd (F_SW_ring v1 (t9 ((p_w (v3 + 1)) : Int).toNat) s0) fun r742 s738 =>
      p_gd ((0 : Int) ≤ (p_w (v3 + 1)) ∧ (p_w (v3 + 1)) < (n9 : Int)) <|
      p_gd (p_is s738 v2 11) <|
      p_bd (F_Mo_ring v2 (t9 ((p_w (v3 + 1)) : Int).toNat) s738) fun r749 s745 =>
      if r742 = r749 then
        B_La_law_1701 n9 t9 k18 v1 v2 v3 s745
      else
        some (0, s745)
    else if (p_and (t9 (v3 : Int).toNat) 63) = 44 then
      p_gd (p_is s0 v1 10) <|
      p_bd (F_SW_audit v1 s0) fun r757 s753 =>
      p_gd (p_is s753 v2 11) <|
      p_bd (F_Mo_audit v2 s753) fun r763 s759 =>
      if r757 = r763 then
        B_La_law_1701 n9 t9 k18 v1 v2 v3 s759
      else
        some (0, s759)
    else if (p_and (t9 (v3 : Int).toNat) 63) = 45 then
      p_gd ((0 : Int) ≤ (p_w (v3 + 1)) ∧ (p_w (v3 + 1)) < (n9 : Int)) <|
      p_gd (p_is s0 v1 10) <|
      p_bd (F_SW_count v1 (t9 ((p_w (v3 + 1)) : Int).toNat) s0) fun r772 s768 =>
      p_gd ((0 : Int) ≤ (p_w (v3 + 1)) ∧ (p_w (v3 + 1)) < (n9 : Int)) <|
      p_gd (p_is s768 v2 11) <|
      p_bd (F_Mo_count v2 (t9 ((p_w (v3 + 1)) : Int).toNat) s768) fun r779 s775 =>
      if r772 = r779 then
        B_La_law_1701 n9 t9 k18 v1 v2 v3 s775
      else
        some (0, s775)
    else if (p_and (t9 (v3 : Int).toNat) 63) = 46 then
      p_gd (p_is s0 v1 10) <|
      p_bd (F_SW_digest v1 s0) fun r787 s783 =>
      p_gd (p_is s783 v2 11) <|
      p_bd (F_Mo_digest v2 s783) fun r793 s789 =>
      if (p_cmp r787 r793) = 0 then
        B_La_law_1701 n9 t9 k18 v1 v2 v3 s789
      else
        some (0, s789)
    else 
    B_La_law_1701 n9 t9 k18 v1 v2 v3 s0
def O_La_law_18 (n9 : Nat) (t9 : Nat → Int)  : Nat → Nat → Nat → Int → p_Hp → Option (Int × p_Hp)
  | 0 => fun _ _ _ _ => none
  | n + 1 => L_La_law_18 n9 t9 (O_La_law_18 n9 t9 n)
def F_La_law (n9 : Nat) (t9 : Nat → Int)  (s0 : p_Hp) : Option (Int × p_Hp) :=
  p_bi (p_nw s0 10 9) fun s1 =>
  p_bv (F_SW_init (p_N s0 + 1) s1) fun s3 =>
  p_bi ((p_N s0 + 1)) fun x7 =>
  p_bi (p_nw s3 11 90) fun s8 =>
  p_bv (F_Mo_init (p_N s3 + 1) s8) fun s10 =>
  p_bi ((p_N s3 + 1)) fun x14 =>
  O_La_law_18 n9 t9 3000 x7 x14 0 s10
