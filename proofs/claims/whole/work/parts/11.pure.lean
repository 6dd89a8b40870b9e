/-! ===== numbers as the machine has them ===== -/
def p_and (a b : Int) : Int := (Int32.ofInt a &&& Int32.ofInt b).toInt
def p_xor (a b : Int) : Int := (Int32.ofInt a ^^^ Int32.ofInt b).toInt
def p_or (a b : Int) : Int := (Int32.ofInt a ||| Int32.ofInt b).toInt
def p_ushr (a b : Int) : Int := (((Int32.ofInt a).toUInt32 >>> ((Int32.ofInt b).toUInt32 &&& Int32.toUInt32 31)).toInt32).toInt
def p_and6 (a b : Int) : Int := (Int64.ofInt a &&& Int64.ofInt b).toInt
def p_xor6 (a b : Int) : Int := (Int64.ofInt a ^^^ Int64.ofInt b).toInt
def p_or6 (a b : Int) : Int := (Int64.ofInt a ||| Int64.ofInt b).toInt
def p_shl6 (a b : Int) : Int := (Int64.ofInt a <<< ((Int32.ofInt b).toInt64 &&& 63)).toInt
def p_shr6 (a b : Int) : Int := (Int64.ofInt a >>> ((Int32.ofInt b).toInt64 &&& 63)).toInt
def p_ushr6 (a b : Int) : Int := (((Int64.ofInt a).toUInt64 >>> ((Int32.ofInt b).toInt64.toUInt64 &&& Int64.toUInt64 63)).toInt64).toInt
def p_cmp (a b : Int) : Int := if b < a then 1 else if a = b then 0 else -1
def p_div (a b : Int) : Int := p_w (a.tdiv b)
def p_rem (a b : Int) : Int := p_w (a.tmod b)
theorem p_tdiv {a b : Int} (ha : p_c a) (hb : p_c b) : Int32.ofInt (p_div a b) = Int32.ofInt a / Int32.ofInt b := by
  rw [← Int32.toInt_inj, Int32.toInt_div, p_t ha, p_t hb]
  unfold p_div
  rw [p_w_of, Int32.toInt_ofInt]
theorem p_trem {a b : Int} (ha : p_c a) (hb : p_c b) : Int32.ofInt (p_rem a b) = Int32.ofInt a - Int32.ofInt a / Int32.ofInt b * Int32.ofInt b := by
  rw [← p_tdiv ha hb]
  unfold p_rem p_div
  rw [p_w_of, p_w_of, ← Int32.ofInt_mul, ← Int32.ofInt_sub, Int.tmod_def, Int.mul_comm b]
theorem p_tcmp {a b : Int} (ha : p_c6 a) (hb : p_c6 b) : Int32.ofInt (p_cmp a b) = lg_cmp (Int64.ofInt a) (Int64.ofInt b) := by
  unfold p_cmp lg_cmp
  simp only [gt_iff_lt, Int64.lt_iff_toInt_lt, ← Int64.toInt_inj, p_t6 ha, p_t6 hb]
  repeat' split
  all_goals rfl
theorem p_cmp_c (a b : Int) : p_c (p_cmp a b) := by
  unfold p_cmp
  repeat' split
  all_goals decide
theorem p_ti2l {a : Int} (ha : p_c a) : (Int32.ofInt a).toInt64 = Int64.ofInt a := by
  rw [← Int64.toInt_inj, Int32.toInt_toInt64, p_t ha, p_t6 ⟨by omega, by omega⟩]
theorem p_tl2i {a : Int} (ha : p_c6 a) : (Int64.ofInt a).toInt32 = Int32.ofInt (p_w a) := by
  rw [p_w_of, ← Int32.toInt_inj, Int64.toInt_toInt32, p_t6 ha, Int32.toInt_ofInt]
/-! ===== rows: constants, locals, the stack, numbers, branches ===== -/
section PR
variable {K : p_K} {l : Launch} {M : p_Me} {pc : Nat} {lv : List (Nat × p_AV)} {st : List p_AV} {σ : p_Hp} {o : Option p_AV × p_Hp}
theorem g_iconst {n : Int} (hd : decode M.2.1 pc = .ok (.iconst n, 1)) (hn : p_c n) (k : p_Go K l M (pc + 1) lv (p_i n :: st) σ o) : p_Go K l M pc lv st σ o :=
  ⟨k.1, fun p e s m args below meth c H locs n0 m0 mc ms Q ls C R S h1 h2 h3 h4 hl ol os RT => lv_iconst C.1 C.2.1 hd rfl (k.2 p e s m args below meth c H locs n0 m0 mc ms Q ls C R S h1 h2 h3 h4 hl ol (p_ok2 hn os) RT)⟩
theorem g_bipush {n : Int} (hd : decode M.2.1 pc = .ok (.bipush n, 2)) (hv : (Int8.ofInt n).toInt32 = Int32.ofInt n) (hn : p_c n) (k : p_Go K l M (pc + 2) lv (p_i n :: st) σ o) : p_Go K l M pc lv st σ o :=
  ⟨k.1, fun p e s m args below meth c H locs n0 m0 mc ms Q ls C R S h1 h2 h3 h4 hl ol os RT => lv_bipush C.1 C.2.1 hd hv (k.2 p e s m args below meth c H locs n0 m0 mc ms Q ls C R S h1 h2 h3 h4 hl ol (p_ok2 hn os) RT)⟩
theorem g_sipush {n : Int} (hd : decode M.2.1 pc = .ok (.sipush n, 3)) (hv : (Int16.ofInt n).toInt32 = Int32.ofInt n) (hn : p_c n) (k : p_Go K l M (pc + 3) lv (p_i n :: st) σ o) : p_Go K l M pc lv st σ o :=
  ⟨k.1, fun p e s m args below meth c H locs n0 m0 mc ms Q ls C R S h1 h2 h3 h4 hl ol os RT => lv_sipush C.1 C.2.1 hd hv (k.2 p e s m args below meth c H locs n0 m0 mc ms Q ls C R S h1 h2 h3 h4 hl ol (p_ok2 hn os) RT)⟩
theorem g_lconst {n : Fin 2} {x : Int} (hd : decode M.2.1 pc = .ok (.lconst n, 1)) (hv : Int64.ofNat (n : Nat) = Int64.ofInt x) (hn : p_c6 x) (k : p_Go K l M (pc + 1) lv (p_j x :: st) σ o) : p_Go K l M pc lv st σ o :=
  ⟨k.1, fun p e s m args below meth c H locs n0 m0 mc ms Q ls C R S h1 h2 h3 h4 hl ol os RT => lv_lconst C.1 C.2.1 hd hv (k.2 p e s m args below meth c H locs n0 m0 mc ms Q ls C R S h1 h2 h3 h4 hl ol (p_ok2 hn os) RT)⟩
theorem g_ldc {i : Nat} {x : Int} {v : Int32} (hd : decode M.2.1 pc = .ok (.ldc i, 2)) (hw : Jvm.Cond.constant M.1.cls i v ∈ sw_gw) (hv : v = Int32.ofInt x) (hn : p_c x) (k : p_Go K l M (pc + 2) lv (p_i x :: st) σ o) : p_Go K l M pc lv st σ o :=
  ⟨k.1, fun p e s m args below meth c H locs n0 m0 mc ms Q ls C R S h1 h2 h3 h4 hl ol os RT => lv_ldc (v := Int32.ofInt x) C.1 C.2.1 C.2.2.2.2.1 (C.2.2.2.2.2.1 _ (hv ▸ hw)) hd (k.2 p e s m args below meth c H locs n0 m0 mc ms Q ls C R S h1 h2 h3 h4 hl ol (p_ok2 hn os) RT)⟩
theorem g_ldc_w {i : Nat} {x : Int} {v : Int32} (hd : decode M.2.1 pc = .ok (.ldc_w i, 3)) (hw : Jvm.Cond.constant M.1.cls i v ∈ sw_gw) (hv : v = Int32.ofInt x) (hn : p_c x) (k : p_Go K l M (pc + 3) lv (p_i x :: st) σ o) : p_Go K l M pc lv st σ o :=
  ⟨k.1, fun p e s m args below meth c H locs n0 m0 mc ms Q ls C R S h1 h2 h3 h4 hl ol os RT => lv_ldcw (v := Int32.ofInt x) C.1 C.2.1 C.2.2.2.2.1 (C.2.2.2.2.2.1 _ (hv ▸ hw)) hd (k.2 p e s m args below meth c H locs n0 m0 mc ms Q ls C R S h1 h2 h3 h4 hl ol (p_ok2 hn os) RT)⟩
theorem g_ldc2_w {i : Nat} {x : Int} {v : Int64} (hd : decode M.2.1 pc = .ok (.ldc2_w i, 3)) (hw : Jvm.Cond.constantLong M.1.cls i v ∈ sw_gw) (hv : v = Int64.ofInt x) (hn : p_c6 x) (k : p_Go K l M (pc + 3) lv (p_j x :: st) σ o) : p_Go K l M pc lv st σ o :=
  ⟨k.1, fun p e s m args below meth c H locs n0 m0 mc ms Q ls C R S h1 h2 h3 h4 hl ol os RT => lv_ldc2 (v := Int64.ofInt x) C.1 C.2.1 C.2.2.2.2.1 (C.2.2.2.2.2.1 _ (hv ▸ hw)) hd (k.2 p e s m args below meth c H locs n0 m0 mc ms Q ls C R S h1 h2 h3 h4 hl ol (p_ok2 hn os) RT)⟩
theorem g_aconst_null  (hd : decode M.2.1 pc = .ok (.aconst_null, 1))  (k : p_Go K l M (pc + 1) lv (p_r 0 :: st) σ o) : p_Go K l M pc lv st σ o :=
  ⟨k.1, fun p e s m args below meth c H locs n0 m0 mc ms Q ls C R S h1 h2 h3 h4 hl ol os RT => lv_null C.1 C.2.1 hd (k.2 p e s m args below meth c H locs n0 m0 mc ms Q ls C R S h1 h2 h3 h4 hl ol (p_ok2 trivial os) RT)⟩
theorem g_iload_n {n : Fin 4} {i j : Nat} {x : Int} (hd : decode M.2.1 pc = .ok (.iload_n n, 1)) (hi : (n : Nat) = i) (hj : lv[j]? = some (i, p_i x)) (k : p_Go K l M (pc + 1) lv (p_i x :: st) σ o) : p_Go K l M pc lv st σ o :=
  ⟨k.1, fun p e s m args below meth c H locs n0 m0 mc ms Q ls C R S h1 h2 h3 h4 hl ol os RT => lv_iload_n C.1 C.2.1 hd hi (p_at hl hj) (k.2 p e s m args below meth c H locs n0 m0 mc ms Q ls C R S h1 h2 h3 h4 hl ol (p_ok2 (p_okat ol hj) os) RT)⟩
theorem g_iload {i j : Nat} {x : Int} (hd : decode M.2.1 pc = .ok (.iload i, 2)) (hj : lv[j]? = some (i, p_i x)) (k : p_Go K l M (pc + 2) lv (p_i x :: st) σ o) : p_Go K l M pc lv st σ o :=
  ⟨k.1, fun p e s m args below meth c H locs n0 m0 mc ms Q ls C R S h1 h2 h3 h4 hl ol os RT => lv_iload C.1 C.2.1 hd (p_at hl hj) (k.2 p e s m args below meth c H locs n0 m0 mc ms Q ls C R S h1 h2 h3 h4 hl ol (p_ok2 (p_okat ol hj) os) RT)⟩
theorem g_lload_n {n : Fin 4} {i j : Nat} {x : Int} (hd : decode M.2.1 pc = .ok (.lload_n n, 1)) (hi : (n : Nat) = i) (hj : lv[j]? = some (i, p_j x)) (k : p_Go K l M (pc + 1) lv (p_j x :: st) σ o) : p_Go K l M pc lv st σ o :=
  ⟨k.1, fun p e s m args below meth c H locs n0 m0 mc ms Q ls C R S h1 h2 h3 h4 hl ol os RT => lv_lload_n C.1 C.2.1 hd hi (p_at hl hj) (k.2 p e s m args below meth c H locs n0 m0 mc ms Q ls C R S h1 h2 h3 h4 hl ol (p_ok2 (p_okat ol hj) os) RT)⟩
theorem g_lload {i j : Nat} {x : Int} (hd : decode M.2.1 pc = .ok (.lload i, 2)) (hj : lv[j]? = some (i, p_j x)) (k : p_Go K l M (pc + 2) lv (p_j x :: st) σ o) : p_Go K l M pc lv st σ o :=
  ⟨k.1, fun p e s m args below meth c H locs n0 m0 mc ms Q ls C R S h1 h2 h3 h4 hl ol os RT => lv_lload C.1 C.2.1 hd (p_at hl hj) (k.2 p e s m args below meth c H locs n0 m0 mc ms Q ls C R S h1 h2 h3 h4 hl ol (p_ok2 (p_okat ol hj) os) RT)⟩
theorem g_aload_n {n : Fin 4} {i j : Nat} {x : Nat} (hd : decode M.2.1 pc = .ok (.aload_n n, 1)) (hi : (n : Nat) = i) (hj : lv[j]? = some (i, p_r x)) (k : p_Go K l M (pc + 1) lv (p_r x :: st) σ o) : p_Go K l M pc lv st σ o := by
  refine ⟨k.1, fun p e s m args below meth c H locs n0 m0 mc ms Q ls C R S h1 h2 h3 h4 hl ol os RT => ?_⟩
  have kk := (k.2 p e s m args below meth c H locs n0 m0 mc ms Q ls C R S h1 h2 h3 h4 hl ol (p_ok2 (v := p_r x) trivial os) RT)
  have ha := p_at hl hj
  have e : (p_r x :: st).map (p_V K) = va_rf (p_rO K.1 x) :: st.map (p_V K) := rfl
  rw [e] at kk
  have e2 : p_V K (p_r x) = va_rf (p_rO K.1 x) := rfl
  rw [e2] at ha
  cases hx : p_rO K.1 x with
  | none => rw [hx] at kk ha; exact lv_aload_nN C.1 C.2.1 hd hi ha kk
  | some a => rw [hx] at kk ha; exact lv_aload_n C.1 C.2.1 hd hi ha kk
theorem g_aload {i j : Nat} {x : Nat} (hd : decode M.2.1 pc = .ok (.aload i, 2)) (hj : lv[j]? = some (i, p_r x)) (k : p_Go K l M (pc + 2) lv (p_r x :: st) σ o) : p_Go K l M pc lv st σ o := by
  refine ⟨k.1, fun p e s m args below meth c H locs n0 m0 mc ms Q ls C R S h1 h2 h3 h4 hl ol os RT => ?_⟩
  have kk := (k.2 p e s m args below meth c H locs n0 m0 mc ms Q ls C R S h1 h2 h3 h4 hl ol (p_ok2 (v := p_r x) trivial os) RT)
  have ha := p_at hl hj
  have e : (p_r x :: st).map (p_V K) = va_rf (p_rO K.1 x) :: st.map (p_V K) := rfl
  rw [e] at kk
  have e2 : p_V K (p_r x) = va_rf (p_rO K.1 x) := rfl
  rw [e2] at ha
  cases hx : p_rO K.1 x with
  | none => rw [hx] at kk ha; exact lv_aloadN C.1 C.2.1 hd ha kk
  | some a => rw [hx] at kk ha; exact lv_aload C.1 C.2.1 hd ha kk
theorem p_flt (K : p_K) (lv : List (Nat × p_AV)) (i : Nat) : (lv.map (p_q K)).filter (fun q => !(q.1 == i) && !(q.1 + 1 == i && q.2.category == 2)) = (lv.filter (fun q => !(q.1 == i) && !(q.1 + 1 == i && p_cat q.2 == 2))).map (p_q K) := by
  rw [List.filter_map]
  congr 1
  apply List.filter_congr
  intro q _
  show (!(q.1 == i) && !(q.1 + 1 == i && (p_V K q.2).category == 2)) = _
  rw [p_V_cat]
theorem p_flt2 (K : p_K) (lv : List (Nat × p_AV)) (i : Nat) : (lv.map (p_q K)).filter (fun q => !(q.1 == i) && (!(q.1 == i + 1) && !(q.1 + 1 == i && q.2.category == 2))) = (lv.filter (fun q => !(q.1 == i) && (!(q.1 == i + 1) && !(q.1 + 1 == i && p_cat q.2 == 2)))).map (p_q K) := by
  rw [List.filter_map]
  congr 1
  apply List.filter_congr
  intro q _
  show (!(q.1 == i) && (!(q.1 == i + 1) && !(q.1 + 1 == i && (p_V K q.2).category == 2))) = _
  rw [p_V_cat]
theorem p_okf {lv : List (Nat × p_AV)} {i : Nat} {v : p_AV} {f : Nat × p_AV → Bool} (hv : p_ok v) (h : ∀ q ∈ lv, p_ok q.2) : ∀ q ∈ (i, v) :: lv.filter f, p_ok q.2 := fun q hq => (List.mem_cons.mp hq).elim (fun e => by rw [e]; exact hv) (fun h1 => h q (List.mem_filter.mp h1).1)
theorem p_stE {K : p_K} {lv lv' : List (Nat × p_AV)} {i : Nat} {v : p_AV} (he : (i, v) :: lv.filter (fun q => !(q.1 == i) && !(q.1 + 1 == i && p_cat q.2 == 2)) = lv') : (i, p_V K v) :: (lv.map (p_q K)).filter (fun q => !(q.1 == i) && !(q.1 + 1 == i && q.2.category == 2)) = lv'.map (p_q K) := by
  rw [← he, p_flt]
  rfl
theorem p_stE2 {K : p_K} {lv lv' : List (Nat × p_AV)} {i : Nat} {v : p_AV} (he : (i, v) :: lv.filter (fun q => !(q.1 == i) && (!(q.1 == i + 1) && !(q.1 + 1 == i && p_cat q.2 == 2))) = lv') : (i, p_V K v) :: (lv.map (p_q K)).filter (fun q => !(q.1 == i) && (!(q.1 == i + 1) && !(q.1 + 1 == i && q.2.category == 2))) = lv'.map (p_q K) := by
  rw [← he, p_flt2]
  rfl
theorem g_istore_n {n : Fin 4} {i : Nat} {x : Int} (lv' : List (Nat × p_AV)) (hd : decode M.2.1 pc = .ok (.istore_n n, 1)) (hi : (n : Nat) = i) (hn : i < M.2.2.1) (he : (i, p_i x) :: lv.filter (fun q => !(q.1 == i) && !(q.1 + 1 == i && p_cat q.2 == 2)) = lv') (k : p_Go K l M (pc + 1) lv' st σ o) : p_Go K l M pc lv (p_i x :: st) σ o :=
  ⟨k.1, fun p e s m args below meth c H locs n0 m0 mc ms Q ls C R S h1 h2 h3 h4 hl ol os RT => lv_istore_n C.1 C.2.1 hd hi hl hn (p_stE he) (fun ls' hl' => (k.2 p e s m args below meth c H locs n0 m0 mc ms Q ls' C R S h1 h2 h3 h4 hl' (he ▸ p_okf (p_okh os) ol) (p_okt os) RT))⟩
theorem g_istore {i : Nat} {x : Int} (lv' : List (Nat × p_AV)) (hd : decode M.2.1 pc = .ok (.istore i, 2)) (hn : i < M.2.2.1) (he : (i, p_i x) :: lv.filter (fun q => !(q.1 == i) && !(q.1 + 1 == i && p_cat q.2 == 2)) = lv') (k : p_Go K l M (pc + 2) lv' st σ o) : p_Go K l M pc lv (p_i x :: st) σ o :=
  ⟨k.1, fun p e s m args below meth c H locs n0 m0 mc ms Q ls C R S h1 h2 h3 h4 hl ol os RT => lv_istore C.1 C.2.1 hd hl hn (p_stE he) (fun ls' hl' => (k.2 p e s m args below meth c H locs n0 m0 mc ms Q ls' C R S h1 h2 h3 h4 hl' (he ▸ p_okf (p_okh os) ol) (p_okt os) RT))⟩
theorem g_lstore_n {n : Fin 4} {i : Nat} {x : Int} (lv' : List (Nat × p_AV)) (hd : decode M.2.1 pc = .ok (.lstore_n n, 1)) (hi : (n : Nat) = i) (hn : i + 1 < M.2.2.1) (he : (i, p_j x) :: lv.filter (fun q => !(q.1 == i) && (!(q.1 == i + 1) && !(q.1 + 1 == i && p_cat q.2 == 2))) = lv') (k : p_Go K l M (pc + 1) lv' st σ o) : p_Go K l M pc lv (p_j x :: st) σ o :=
  ⟨k.1, fun p e s m args below meth c H locs n0 m0 mc ms Q ls C R S h1 h2 h3 h4 hl ol os RT => lv_lstore_n C.1 C.2.1 hd hi hl hn (p_stE2 he) (fun ls' hl' => (k.2 p e s m args below meth c H locs n0 m0 mc ms Q ls' C R S h1 h2 h3 h4 hl' (he ▸ p_okf (p_okh os) ol) (p_okt os) RT))⟩
theorem g_lstore {i : Nat} {x : Int} (lv' : List (Nat × p_AV)) (hd : decode M.2.1 pc = .ok (.lstore i, 2)) (hn : i + 1 < M.2.2.1) (he : (i, p_j x) :: lv.filter (fun q => !(q.1 == i) && (!(q.1 == i + 1) && !(q.1 + 1 == i && p_cat q.2 == 2))) = lv') (k : p_Go K l M (pc + 2) lv' st σ o) : p_Go K l M pc lv (p_j x :: st) σ o :=
  ⟨k.1, fun p e s m args below meth c H locs n0 m0 mc ms Q ls C R S h1 h2 h3 h4 hl ol os RT => lv_lstore C.1 C.2.1 hd hl hn (p_stE2 he) (fun ls' hl' => (k.2 p e s m args below meth c H locs n0 m0 mc ms Q ls' C R S h1 h2 h3 h4 hl' (he ▸ p_okf (p_okh os) ol) (p_okt os) RT))⟩
theorem g_astore_n {n : Fin 4} {i : Nat} {x : Nat} (lv' : List (Nat × p_AV)) (hd : decode M.2.1 pc = .ok (.astore_n n, 1)) (hi : (n : Nat) = i) (hn : i < M.2.2.1) (he : (i, p_r x) :: lv.filter (fun q => !(q.1 == i) && !(q.1 + 1 == i && p_cat q.2 == 2)) = lv') (k : p_Go K l M (pc + 1) lv' st σ o) : p_Go K l M pc lv (p_r x :: st) σ o := by
  refine ⟨k.1, fun p e s m args below meth c H locs n0 m0 mc ms Q ls C R S h1 h2 h3 h4 hl ol os RT => ?_⟩
  have e9 := p_stE (K := K) he
  have kk : ∀ ls' : Array Slot, lv_has ls' M.2.2.1 (lv'.map (p_q K)) → _ := fun ls' hl' => (k.2 p e s m args below meth c H locs n0 m0 mc ms Q ls' C R S h1 h2 h3 h4 hl' (he ▸ p_okf (p_okh os) ol) (p_okt os) RT)
  have e2 : p_V K (p_r x) = va_rf (p_rO K.1 x) := rfl
  rw [e2] at e9
  show W p l e (p_rm M mc ms) s m args below meth c H locs _ _ Q (F0 m pc ls (va_rf (p_rO K.1 x) :: st.map (p_V K)))
  cases hx : p_rO K.1 x with
  | none => rw [hx] at e9; exact lv_astore_nN C.1 C.2.1 hd hi hl hn e9 kk
  | some b => rw [hx] at e9; exact lv_astore_n C.1 C.2.1 hd hi hl hn e9 kk
theorem g_astore {i : Nat} {x : Nat} (lv' : List (Nat × p_AV)) (hd : decode M.2.1 pc = .ok (.astore i, 2)) (hn : i < M.2.2.1) (he : (i, p_r x) :: lv.filter (fun q => !(q.1 == i) && !(q.1 + 1 == i && p_cat q.2 == 2)) = lv') (k : p_Go K l M (pc + 2) lv' st σ o) : p_Go K l M pc lv (p_r x :: st) σ o := by
  refine ⟨k.1, fun p e s m args below meth c H locs n0 m0 mc ms Q ls C R S h1 h2 h3 h4 hl ol os RT => ?_⟩
  have e9 := p_stE (K := K) he
  have kk : ∀ ls' : Array Slot, lv_has ls' M.2.2.1 (lv'.map (p_q K)) → _ := fun ls' hl' => (k.2 p e s m args below meth c H locs n0 m0 mc ms Q ls' C R S h1 h2 h3 h4 hl' (he ▸ p_okf (p_okh os) ol) (p_okt os) RT)
  have e2 : p_V K (p_r x) = va_rf (p_rO K.1 x) := rfl
  rw [e2] at e9
  show W p l e (p_rm M mc ms) s m args below meth c H locs _ _ Q (F0 m pc ls (va_rf (p_rO K.1 x) :: st.map (p_V K)))
  cases hx : p_rO K.1 x with
  | none => rw [hx] at e9; exact lv_astoreN C.1 C.2.1 hd hl hn e9 kk
  | some b => rw [hx] at e9; exact lv_astore C.1 C.2.1 hd hl hn e9 kk
theorem g_iinc {i j : Nat} {n : Int} {x : Int} (lv' : List (Nat × p_AV)) (hd : decode M.2.1 pc = .ok (.iinc i n, 3)) (hj : lv[j]? = some (i, p_i x)) (hn : i < M.2.2.1) (he : (i, p_i (p_w (x + n))) :: lv.filter (fun q => !(q.1 == i) && !(q.1 + 1 == i && p_cat q.2 == 2)) = lv') (k : p_Go K l M (pc + 3) lv' st σ o) : p_Go K l M pc lv st σ o :=
  ⟨k.1, fun p e s m args below meth c H locs n0 m0 mc ms Q ls C R S h1 h2 h3 h4 hl ol os RT => lv_iinc (v := Int32.ofInt (p_w (x + n))) (k := j) C.1 C.2.1 hd hl (by rw [List.getElem?_map, hj]; rfl) (by rw [p_w_of, Int32.ofInt_add]) hn (p_stE he) (fun ls' hl' => (k.2 p e s m args below meth c H locs n0 m0 mc ms Q ls' C R S h1 h2 h3 h4 hl' (he ▸ p_okf (p_w_c _) ol) os RT))⟩
theorem g_iadd {x y : Int} (hd : decode M.2.1 pc = .ok (.iadd, 1)) (k : p_Go K l M (pc + 1) lv (p_i (p_w (x + y)) :: st) σ o) : p_Go K l M pc lv (p_i y :: p_i x :: st) σ o :=
  ⟨k.1, fun p e s m args below meth c H locs n0 m0 mc ms Q ls C R S h1 h2 h3 h4 hl ol os RT => lv_iadd C.1 C.2.1 hd (W.eq (by have hy : p_c y := p_okh os; have hx : p_c x := p_okh (p_okt os); show F0 m (pc + 1) ls (_ :: st.map (p_V K)) = F0 m (pc + 1) ls (p_V K (p_i (p_w (x + y))) :: st.map (p_V K)); rw [show p_V K (p_i (p_w (x + y))) = _ from congrArg Value.int ((p_w_of _).trans (Int32.ofInt_add x y))]) (k.2 p e s m args below meth c H locs n0 m0 mc ms Q ls C R S h1 h2 h3 h4 hl ol (p_ok2 (p_w_c _) (p_okt (p_okt os))) RT))⟩
theorem g_isub {x y : Int} (hd : decode M.2.1 pc = .ok (.isub, 1)) (k : p_Go K l M (pc + 1) lv (p_i (p_w (x - y)) :: st) σ o) : p_Go K l M pc lv (p_i y :: p_i x :: st) σ o :=
  ⟨k.1, fun p e s m args below meth c H locs n0 m0 mc ms Q ls C R S h1 h2 h3 h4 hl ol os RT => lv_isub C.1 C.2.1 hd (W.eq (by have hy : p_c y := p_okh os; have hx : p_c x := p_okh (p_okt os); show F0 m (pc + 1) ls (_ :: st.map (p_V K)) = F0 m (pc + 1) ls (p_V K (p_i (p_w (x - y))) :: st.map (p_V K)); rw [show p_V K (p_i (p_w (x - y))) = _ from congrArg Value.int ((p_w_of _).trans (Int32.ofInt_sub x y))]) (k.2 p e s m args below meth c H locs n0 m0 mc ms Q ls C R S h1 h2 h3 h4 hl ol (p_ok2 (p_w_c _) (p_okt (p_okt os))) RT))⟩
theorem g_imul {x y : Int} (hd : decode M.2.1 pc = .ok (.imul, 1)) (k : p_Go K l M (pc + 1) lv (p_i (p_w (x * y)) :: st) σ o) : p_Go K l M pc lv (p_i y :: p_i x :: st) σ o :=
  ⟨k.1, fun p e s m args below meth c H locs n0 m0 mc ms Q ls C R S h1 h2 h3 h4 hl ol os RT => lv_imul C.1 C.2.1 hd (W.eq (by have hy : p_c y := p_okh os; have hx : p_c x := p_okh (p_okt os); show F0 m (pc + 1) ls (_ :: st.map (p_V K)) = F0 m (pc + 1) ls (p_V K (p_i (p_w (x * y))) :: st.map (p_V K)); rw [show p_V K (p_i (p_w (x * y))) = _ from congrArg Value.int ((p_w_of _).trans (Int32.ofInt_mul x y))]) (k.2 p e s m args below meth c H locs n0 m0 mc ms Q ls C R S h1 h2 h3 h4 hl ol (p_ok2 (p_w_c _) (p_okt (p_okt os))) RT))⟩
theorem g_ladd {x y : Int} (hd : decode M.2.1 pc = .ok (.ladd, 1)) (k : p_Go K l M (pc + 1) lv (p_j (p_w6 (x + y)) :: st) σ o) : p_Go K l M pc lv (p_j y :: p_j x :: st) σ o :=
  ⟨k.1, fun p e s m args below meth c H locs n0 m0 mc ms Q ls C R S h1 h2 h3 h4 hl ol os RT => lv_ladd C.1 C.2.1 hd (W.eq (by have hy : p_c6 y := p_okh os; have hx : p_c6 x := p_okh (p_okt os); show F0 m (pc + 1) ls (_ :: st.map (p_V K)) = F0 m (pc + 1) ls (p_V K (p_j (p_w6 (x + y))) :: st.map (p_V K)); rw [show p_V K (p_j (p_w6 (x + y))) = _ from congrArg Value.long ((p_w6_of _).trans (Int64.ofInt_add x y))]) (k.2 p e s m args below meth c H locs n0 m0 mc ms Q ls C R S h1 h2 h3 h4 hl ol (p_ok2 (p_w6_c _) (p_okt (p_okt os))) RT))⟩
theorem g_lsub {x y : Int} (hd : decode M.2.1 pc = .ok (.lsub, 1)) (k : p_Go K l M (pc + 1) lv (p_j (p_w6 (x - y)) :: st) σ o) : p_Go K l M pc lv (p_j y :: p_j x :: st) σ o :=
  ⟨k.1, fun p e s m args below meth c H locs n0 m0 mc ms Q ls C R S h1 h2 h3 h4 hl ol os RT => lv_lsub C.1 C.2.1 hd (W.eq (by have hy : p_c6 y := p_okh os; have hx : p_c6 x := p_okh (p_okt os); show F0 m (pc + 1) ls (_ :: st.map (p_V K)) = F0 m (pc + 1) ls (p_V K (p_j (p_w6 (x - y))) :: st.map (p_V K)); rw [show p_V K (p_j (p_w6 (x - y))) = _ from congrArg Value.long ((p_w6_of _).trans (Int64.ofInt_sub x y))]) (k.2 p e s m args below meth c H locs n0 m0 mc ms Q ls C R S h1 h2 h3 h4 hl ol (p_ok2 (p_w6_c _) (p_okt (p_okt os))) RT))⟩
theorem g_lmul {x y : Int} (hd : decode M.2.1 pc = .ok (.lmul, 1)) (k : p_Go K l M (pc + 1) lv (p_j (p_w6 (x * y)) :: st) σ o) : p_Go K l M pc lv (p_j y :: p_j x :: st) σ o :=
  ⟨k.1, fun p e s m args below meth c H locs n0 m0 mc ms Q ls C R S h1 h2 h3 h4 hl ol os RT => lv_lmul C.1 C.2.1 hd (W.eq (by have hy : p_c6 y := p_okh os; have hx : p_c6 x := p_okh (p_okt os); show F0 m (pc + 1) ls (_ :: st.map (p_V K)) = F0 m (pc + 1) ls (p_V K (p_j (p_w6 (x * y))) :: st.map (p_V K)); rw [show p_V K (p_j (p_w6 (x * y))) = _ from congrArg Value.long ((p_w6_of _).trans (Int64.ofInt_mul x y))]) (k.2 p e s m args below meth c H locs n0 m0 mc ms Q ls C R S h1 h2 h3 h4 hl ol (p_ok2 (p_w6_c _) (p_okt (p_okt os))) RT))⟩
theorem g_iand {x y : Int} (hd : decode M.2.1 pc = .ok (.iand, 1)) (k : p_Go K l M (pc + 1) lv (p_i (p_and x y) :: st) σ o) : p_Go K l M pc lv (p_i y :: p_i x :: st) σ o :=
  ⟨k.1, fun p e s m args below meth c H locs n0 m0 mc ms Q ls C R S h1 h2 h3 h4 hl ol os RT => lv_iand C.1 C.2.1 hd (W.eq (by have hy : p_c y := p_okh os; have hx : p_c x := p_okh (p_okt os); show F0 m (pc + 1) ls (_ :: st.map (p_V K)) = F0 m (pc + 1) ls (p_V K (p_i (p_and x y)) :: st.map (p_V K)); rw [show p_V K (p_i (p_and x y)) = _ from congrArg Value.int (Int32.ofInt_toInt _)]) (k.2 p e s m args below meth c H locs n0 m0 mc ms Q ls C R S h1 h2 h3 h4 hl ol (p_ok2 (p_i32 _) (p_okt (p_okt os))) RT))⟩
theorem g_ior {x y : Int} (hd : decode M.2.1 pc = .ok (.ior, 1)) (k : p_Go K l M (pc + 1) lv (p_i (p_or x y) :: st) σ o) : p_Go K l M pc lv (p_i y :: p_i x :: st) σ o :=
  ⟨k.1, fun p e s m args below meth c H locs n0 m0 mc ms Q ls C R S h1 h2 h3 h4 hl ol os RT => lv_ior C.1 C.2.1 hd (W.eq (by have hy : p_c y := p_okh os; have hx : p_c x := p_okh (p_okt os); show F0 m (pc + 1) ls (_ :: st.map (p_V K)) = F0 m (pc + 1) ls (p_V K (p_i (p_or x y)) :: st.map (p_V K)); rw [show p_V K (p_i (p_or x y)) = _ from congrArg Value.int (Int32.ofInt_toInt _)]) (k.2 p e s m args below meth c H locs n0 m0 mc ms Q ls C R S h1 h2 h3 h4 hl ol (p_ok2 (p_i32 _) (p_okt (p_okt os))) RT))⟩
theorem g_ixor {x y : Int} (hd : decode M.2.1 pc = .ok (.ixor, 1)) (k : p_Go K l M (pc + 1) lv (p_i (p_xor x y) :: st) σ o) : p_Go K l M pc lv (p_i y :: p_i x :: st) σ o :=
  ⟨k.1, fun p e s m args below meth c H locs n0 m0 mc ms Q ls C R S h1 h2 h3 h4 hl ol os RT => lv_ixor C.1 C.2.1 hd (W.eq (by have hy : p_c y := p_okh os; have hx : p_c x := p_okh (p_okt os); show F0 m (pc + 1) ls (_ :: st.map (p_V K)) = F0 m (pc + 1) ls (p_V K (p_i (p_xor x y)) :: st.map (p_V K)); rw [show p_V K (p_i (p_xor x y)) = _ from congrArg Value.int (Int32.ofInt_toInt _)]) (k.2 p e s m args below meth c H locs n0 m0 mc ms Q ls C R S h1 h2 h3 h4 hl ol (p_ok2 (p_i32 _) (p_okt (p_okt os))) RT))⟩
theorem g_land {x y : Int} (hd : decode M.2.1 pc = .ok (.land, 1)) (k : p_Go K l M (pc + 1) lv (p_j (p_and6 x y) :: st) σ o) : p_Go K l M pc lv (p_j y :: p_j x :: st) σ o :=
  ⟨k.1, fun p e s m args below meth c H locs n0 m0 mc ms Q ls C R S h1 h2 h3 h4 hl ol os RT => lv_land C.1 C.2.1 hd (W.eq (by have hy : p_c6 y := p_okh os; have hx : p_c6 x := p_okh (p_okt os); show F0 m (pc + 1) ls (_ :: st.map (p_V K)) = F0 m (pc + 1) ls (p_V K (p_j (p_and6 x y)) :: st.map (p_V K)); rw [show p_V K (p_j (p_and6 x y)) = _ from congrArg Value.long (Int64.ofInt_toInt _)]) (k.2 p e s m args below meth c H locs n0 m0 mc ms Q ls C R S h1 h2 h3 h4 hl ol (p_ok2 (p_i64 _) (p_okt (p_okt os))) RT))⟩
theorem g_lor {x y : Int} (hd : decode M.2.1 pc = .ok (.lor, 1)) (k : p_Go K l M (pc + 1) lv (p_j (p_or6 x y) :: st) σ o) : p_Go K l M pc lv (p_j y :: p_j x :: st) σ o :=
  ⟨k.1, fun p e s m args below meth c H locs n0 m0 mc ms Q ls C R S h1 h2 h3 h4 hl ol os RT => lv_lor C.1 C.2.1 hd (W.eq (by have hy : p_c6 y := p_okh os; have hx : p_c6 x := p_okh (p_okt os); show F0 m (pc + 1) ls (_ :: st.map (p_V K)) = F0 m (pc + 1) ls (p_V K (p_j (p_or6 x y)) :: st.map (p_V K)); rw [show p_V K (p_j (p_or6 x y)) = _ from congrArg Value.long (Int64.ofInt_toInt _)]) (k.2 p e s m args below meth c H locs n0 m0 mc ms Q ls C R S h1 h2 h3 h4 hl ol (p_ok2 (p_i64 _) (p_okt (p_okt os))) RT))⟩
theorem g_lxor {x y : Int} (hd : decode M.2.1 pc = .ok (.lxor, 1)) (k : p_Go K l M (pc + 1) lv (p_j (p_xor6 x y) :: st) σ o) : p_Go K l M pc lv (p_j y :: p_j x :: st) σ o :=
  ⟨k.1, fun p e s m args below meth c H locs n0 m0 mc ms Q ls C R S h1 h2 h3 h4 hl ol os RT => lv_lxor C.1 C.2.1 hd (W.eq (by have hy : p_c6 y := p_okh os; have hx : p_c6 x := p_okh (p_okt os); show F0 m (pc + 1) ls (_ :: st.map (p_V K)) = F0 m (pc + 1) ls (p_V K (p_j (p_xor6 x y)) :: st.map (p_V K)); rw [show p_V K (p_j (p_xor6 x y)) = _ from congrArg Value.long (Int64.ofInt_toInt _)]) (k.2 p e s m args below meth c H locs n0 m0 mc ms Q ls C R S h1 h2 h3 h4 hl ol (p_ok2 (p_i64 _) (p_okt (p_okt os))) RT))⟩
theorem g_idiv {x y : Int} (hd : decode M.2.1 pc = .ok (.idiv, 1)) (hz : y ≠ 0) (k : p_Go K l M (pc + 1) lv (p_i (p_div x y) :: st) σ o) : p_Go K l M pc lv (p_i y :: p_i x :: st) σ o :=
  ⟨k.1, fun p e s m args below meth c H locs n0 m0 mc ms Q ls C R S h1 h2 h3 h4 hl ol os RT => lv_idiv C.1 C.2.1 hd (fun h => hz ((p_eq0 (p_okh os)).mp h)) (W.eq (by have hy : p_c y := p_okh os; have hx : p_c x := p_okh (p_okt os); show F0 m (pc + 1) ls (_ :: st.map (p_V K)) = F0 m (pc + 1) ls (p_V K (p_i (p_div x y)) :: st.map (p_V K)); rw [show p_V K (p_i (p_div x y)) = _ from congrArg Value.int (p_tdiv hx hy)]) (k.2 p e s m args below meth c H locs n0 m0 mc ms Q ls C R S h1 h2 h3 h4 hl ol (p_ok2 (p_w_c _) (p_okt (p_okt os))) RT))⟩
theorem g_irem {x y : Int} (hd : decode M.2.1 pc = .ok (.irem, 1)) (hz : y ≠ 0) (k : p_Go K l M (pc + 1) lv (p_i (p_rem x y) :: st) σ o) : p_Go K l M pc lv (p_i y :: p_i x :: st) σ o :=
  ⟨k.1, fun p e s m args below meth c H locs n0 m0 mc ms Q ls C R S h1 h2 h3 h4 hl ol os RT => lv_irem C.1 C.2.1 hd (fun h => hz ((p_eq0 (p_okh os)).mp h)) (W.eq (by have hy : p_c y := p_okh os; have hx : p_c x := p_okh (p_okt os); show F0 m (pc + 1) ls (_ :: st.map (p_V K)) = F0 m (pc + 1) ls (p_V K (p_i (p_rem x y)) :: st.map (p_V K)); rw [show p_V K (p_i (p_rem x y)) = _ from congrArg Value.int (p_trem hx hy)]) (k.2 p e s m args below meth c H locs n0 m0 mc ms Q ls C R S h1 h2 h3 h4 hl ol (p_ok2 (p_w_c _) (p_okt (p_okt os))) RT))⟩
theorem g_iushr {x y : Int} (hd : decode M.2.1 pc = .ok (.iushr, 1)) (k : p_Go K l M (pc + 1) lv (p_i (p_ushr x y) :: st) σ o) : p_Go K l M pc lv (p_i y :: p_i x :: st) σ o :=
  ⟨k.1, fun p e s m args below meth c H locs n0 m0 mc ms Q ls C R S h1 h2 h3 h4 hl ol os RT => lv_iushr (v := Int32.ofInt (p_ushr x y)) C.1 C.2.1 hd (Int32.ofInt_toInt _).symm (k.2 p e s m args below meth c H locs n0 m0 mc ms Q ls C R S h1 h2 h3 h4 hl ol (p_ok2 (p_i32 _) (p_okt (p_okt os))) RT)⟩
theorem g_lshl {x y : Int} (hd : decode M.2.1 pc = .ok (.lshl, 1)) (k : p_Go K l M (pc + 1) lv (p_j (p_shl6 x y) :: st) σ o) : p_Go K l M pc lv (p_i y :: p_j x :: st) σ o :=
  ⟨k.1, fun p e s m args below meth c H locs n0 m0 mc ms Q ls C R S h1 h2 h3 h4 hl ol os RT => lv_lshl (v := Int64.ofInt (p_shl6 x y)) C.1 C.2.1 hd (Int64.ofInt_toInt _).symm (k.2 p e s m args below meth c H locs n0 m0 mc ms Q ls C R S h1 h2 h3 h4 hl ol (p_ok2 (p_i64 _) (p_okt (p_okt os))) RT)⟩
theorem g_lshr {x y : Int} (hd : decode M.2.1 pc = .ok (.lshr, 1)) (k : p_Go K l M (pc + 1) lv (p_j (p_shr6 x y) :: st) σ o) : p_Go K l M pc lv (p_i y :: p_j x :: st) σ o :=
  ⟨k.1, fun p e s m args below meth c H locs n0 m0 mc ms Q ls C R S h1 h2 h3 h4 hl ol os RT => lv_lshr (v := Int64.ofInt (p_shr6 x y)) C.1 C.2.1 hd (Int64.ofInt_toInt _).symm (k.2 p e s m args below meth c H locs n0 m0 mc ms Q ls C R S h1 h2 h3 h4 hl ol (p_ok2 (p_i64 _) (p_okt (p_okt os))) RT)⟩
theorem g_lushr {x y : Int} (hd : decode M.2.1 pc = .ok (.lushr, 1)) (k : p_Go K l M (pc + 1) lv (p_j (p_ushr6 x y) :: st) σ o) : p_Go K l M pc lv (p_i y :: p_j x :: st) σ o :=
  ⟨k.1, fun p e s m args below meth c H locs n0 m0 mc ms Q ls C R S h1 h2 h3 h4 hl ol os RT => lv_lushr (v := Int64.ofInt (p_ushr6 x y)) C.1 C.2.1 hd (Int64.ofInt_toInt _).symm (k.2 p e s m args below meth c H locs n0 m0 mc ms Q ls C R S h1 h2 h3 h4 hl ol (p_ok2 (p_i64 _) (p_okt (p_okt os))) RT)⟩
theorem g_i2l {x : Int} (hd : decode M.2.1 pc = .ok (.i2l, 1)) (k : p_Go K l M (pc + 1) lv (p_j x :: st) σ o) : p_Go K l M pc lv (p_i x :: st) σ o :=
  ⟨k.1, fun p e s m args below meth c H locs n0 m0 mc ms Q ls C R S h1 h2 h3 h4 hl ol os RT => lv_i2l (v := Int64.ofInt x) C.1 C.2.1 hd (p_ti2l (p_okh os)) (k.2 p e s m args below meth c H locs n0 m0 mc ms Q ls C R S h1 h2 h3 h4 hl ol (p_ok2 (v := p_j x) (by have h : p_c x := p_okh os; exact (⟨by omega, by omega⟩ : p_c6 x)) (p_okt os)) RT)⟩
theorem g_l2i {x : Int} (hd : decode M.2.1 pc = .ok (.l2i, 1)) (k : p_Go K l M (pc + 1) lv (p_i (p_w x) :: st) σ o) : p_Go K l M pc lv (p_j x :: st) σ o :=
  ⟨k.1, fun p e s m args below meth c H locs n0 m0 mc ms Q ls C R S h1 h2 h3 h4 hl ol os RT => lv_l2i (v := Int32.ofInt (p_w x)) C.1 C.2.1 hd (p_tl2i (p_okh os)) (k.2 p e s m args below meth c H locs n0 m0 mc ms Q ls C R S h1 h2 h3 h4 hl ol (p_ok2 (p_w_c _) (p_okt os)) RT)⟩
theorem g_lcmp {x y : Int} (hd : decode M.2.1 pc = .ok (.lcmp, 1)) (k : p_Go K l M (pc + 1) lv (p_i (p_cmp x y) :: st) σ o) : p_Go K l M pc lv (p_j y :: p_j x :: st) σ o :=
  ⟨k.1, fun p e s m args below meth c H locs n0 m0 mc ms Q ls C R S h1 h2 h3 h4 hl ol os RT => W.lcmp C.1 C.2.1 hd (W.eq (by have hy : p_c6 y := p_okh os; have hx : p_c6 x := p_okh (p_okt os); show F0 m (pc + 1) ls (_ :: st.map (p_V K)) = F0 m (pc + 1) ls (p_V K (p_i (p_cmp x y)) :: st.map (p_V K)); rw [show p_V K (p_i (p_cmp x y)) = _ from congrArg Value.int (p_tcmp hx hy)]) (k.2 p e s m args below meth c H locs n0 m0 mc ms Q ls C R S h1 h2 h3 h4 hl ol (p_ok2 (p_cmp_c _ _) (p_okt (p_okt os))) RT))⟩
theorem g_dup {v : p_AV} (hd : decode M.2.1 pc = .ok (.dup, 1)) (hc : p_cat v = 1) (k : p_Go K l M (pc + 1) lv (v :: v :: st) σ o) : p_Go K l M pc lv (v :: st) σ o :=
  ⟨k.1, fun p e s m args below meth c H locs n0 m0 mc ms Q ls C R S h1 h2 h3 h4 hl ol os RT => lv_dup C.1 C.2.1 hd ((p_V_cat K v).trans hc) (k.2 p e s m args below meth c H locs n0 m0 mc ms Q ls C R S h1 h2 h3 h4 hl ol (p_ok2 (p_okh os) os) RT)⟩
theorem g_dup2 {v w : p_AV} (hd : decode M.2.1 pc = .ok (.dup2, 1)) (hc : p_cat v = 1) (hc2 : p_cat w = 1) (k : p_Go K l M (pc + 1) lv (v :: w :: v :: w :: st) σ o) : p_Go K l M pc lv (v :: w :: st) σ o :=
  ⟨k.1, fun p e s m args below meth c H locs n0 m0 mc ms Q ls C R S h1 h2 h3 h4 hl ol os RT => lv_dup2_11 C.1 C.2.1 hd ((p_V_cat K v).trans hc) ((p_V_cat K w).trans hc2) (k.2 p e s m args below meth c H locs n0 m0 mc ms Q ls C R S h1 h2 h3 h4 hl ol (p_ok2 (p_okh os) (p_ok2 (p_okh (p_okt os)) os)) RT)⟩
theorem g_dup_x1 {v w : p_AV} (hd : decode M.2.1 pc = .ok (.dup_x1, 1)) (hc : p_cat v = 1) (hc2 : p_cat w = 1) (k : p_Go K l M (pc + 1) lv (v :: w :: v :: st) σ o) : p_Go K l M pc lv (v :: w :: st) σ o :=
  ⟨k.1, fun p e s m args below meth c H locs n0 m0 mc ms Q ls C R S h1 h2 h3 h4 hl ol os RT => lv_dup_x1 C.1 C.2.1 hd ((p_V_cat K v).trans hc) ((p_V_cat K w).trans hc2) (k.2 p e s m args below meth c H locs n0 m0 mc ms Q ls C R S h1 h2 h3 h4 hl ol (p_ok2 (p_okh os) (p_ok2 (p_okh (p_okt os)) (p_ok2 (p_okh os) (p_okt (p_okt os))))) RT)⟩
theorem g_pop {v : p_AV} (hd : decode M.2.1 pc = .ok (.pop, 1)) (hc : p_cat v = 1) (k : p_Go K l M (pc + 1) lv st σ o) : p_Go K l M pc lv (v :: st) σ o :=
  ⟨k.1, fun p e s m args below meth c H locs n0 m0 mc ms Q ls C R S h1 h2 h3 h4 hl ol os RT => lv_pop C.1 C.2.1 hd ((p_V_cat K v).trans hc) (k.2 p e s m args below meth c H locs n0 m0 mc ms Q ls C R S h1 h2 h3 h4 hl ol (p_okt os) RT)⟩
theorem g_goto {off : Int} (tgt : Nat) (hd : decode M.2.1 pc = .ok (.goto off, 3)) (ht : (pc : Int) + off = (tgt : Int)) (k : p_Go K l M tgt lv st σ o) : p_Go K l M pc lv st σ o :=
  ⟨k.1, fun p e s m args below meth c H locs n0 m0 mc ms Q ls C R S h1 h2 h3 h4 hl ol os RT => lv_goto C.1 C.2.1 hd ht (k.2 p e s m args below meth c H locs n0 m0 mc ms Q ls C R S h1 h2 h3 h4 hl ol os RT)⟩
theorem g_sub (lv' : List (Nat × p_AV)) (ks : List Nat) (he : ks.filterMap (fun i => lv[i]?) = lv') (k : p_Go K l M pc lv' st σ o) : p_Go K l M pc lv st σ o := by
  refine ⟨k.1, fun p e s m args below meth c H locs n0 m0 mc ms Q ls C R S h1 h2 h3 h4 hl ol os RT => ?_⟩
  have hm : ∀ q ∈ lv', q ∈ lv := fun q hq => by
    rw [← he] at hq
    obtain ⟨i, -, hi⟩ := List.mem_filterMap.mp hq
    exact List.mem_of_getElem? hi
  exact (k.2 p e s m args below meth c H locs n0 m0 mc ms Q ls C R S h1 h2 h3 h4 ⟨hl.1, hl.2.1, fun q hq => by obtain ⟨q1, h9, e9⟩ := List.mem_map.mp hq; exact hl.2.2 q (List.mem_map.mpr ⟨q1, hm q1 h9, e9⟩)⟩ (fun q hq => ol q (hm q hq)) os RT)
theorem g_icmp_eq {x y : Int} {off : Int} (tgt : Nat) (hd : decode M.2.1 pc = .ok (.if_icmp .eq off, 3)) (ht : (pc : Int) + off = (tgt : Int)) (kt : x = y → p_Go K l M tgt lv st σ o) (kf : ¬ (x = y) → p_Go K l M (pc + 3) lv st σ o) : p_Go K l M pc lv (p_i y :: p_i x :: st) σ o := by
  refine ⟨by by_cases h : x = y; exact (kt h).1; exact (kf h).1, fun p e s m args below meth c H locs n0 m0 mc ms Q ls C R S h1 h2 h3 h4 hl ol os RT => ?_⟩
  have hy : p_c y := p_okh os
  have hx : p_c x := p_okh (p_okt os)
  have kt := fun h => ((kt h).2 p e s m args below meth c H locs n0 m0 mc ms Q ls C R S h1 h2 h3 h4 hl ol (p_okt (p_okt os)) RT)
  have kf := fun h => ((kf h).2 p e s m args below meth c H locs n0 m0 mc ms Q ls C R S h1 h2 h3 h4 hl ol (p_okt (p_okt os)) RT)
  exact lv_icmp_eq C.1 C.2.1 hd ht (fun h => kt ((p_eq hx hy).mp h)) (fun h => kf (fun q => h ((p_eq hx hy).mpr q)))
theorem g_icmp_ne {x y : Int} {off : Int} (tgt : Nat) (hd : decode M.2.1 pc = .ok (.if_icmp .ne off, 3)) (ht : (pc : Int) + off = (tgt : Int)) (kt : x ≠ y → p_Go K l M tgt lv st σ o) (kf : ¬ (x ≠ y) → p_Go K l M (pc + 3) lv st σ o) : p_Go K l M pc lv (p_i y :: p_i x :: st) σ o := by
  refine ⟨by by_cases h : x ≠ y; exact (kt h).1; exact (kf h).1, fun p e s m args below meth c H locs n0 m0 mc ms Q ls C R S h1 h2 h3 h4 hl ol os RT => ?_⟩
  have hy : p_c y := p_okh os
  have hx : p_c x := p_okh (p_okt os)
  have kt := fun h => ((kt h).2 p e s m args below meth c H locs n0 m0 mc ms Q ls C R S h1 h2 h3 h4 hl ol (p_okt (p_okt os)) RT)
  have kf := fun h => ((kf h).2 p e s m args below meth c H locs n0 m0 mc ms Q ls C R S h1 h2 h3 h4 hl ol (p_okt (p_okt os)) RT)
  exact lv_icmp_ne C.1 C.2.1 hd ht (fun h => kt (fun q => h ((p_eq hx hy).mpr q))) (fun h => kf (fun q => q ((p_eq hx hy).mp h)))
theorem g_icmp_lt {x y : Int} {off : Int} (tgt : Nat) (hd : decode M.2.1 pc = .ok (.if_icmp .lt off, 3)) (ht : (pc : Int) + off = (tgt : Int)) (kt : x < y → p_Go K l M tgt lv st σ o) (kf : ¬ (x < y) → p_Go K l M (pc + 3) lv st σ o) : p_Go K l M pc lv (p_i y :: p_i x :: st) σ o := by
  refine ⟨by by_cases h : x < y; exact (kt h).1; exact (kf h).1, fun p e s m args below meth c H locs n0 m0 mc ms Q ls C R S h1 h2 h3 h4 hl ol os RT => ?_⟩
  have hy : p_c y := p_okh os
  have hx : p_c x := p_okh (p_okt os)
  have kt := fun h => ((kt h).2 p e s m args below meth c H locs n0 m0 mc ms Q ls C R S h1 h2 h3 h4 hl ol (p_okt (p_okt os)) RT)
  have kf := fun h => ((kf h).2 p e s m args below meth c H locs n0 m0 mc ms Q ls C R S h1 h2 h3 h4 hl ol (p_okt (p_okt os)) RT)
  exact lv_icmp_lt C.1 C.2.1 hd ht (fun h => kt ((p_lt hx hy).mp h)) (fun h => kf (fun q => h ((p_lt hx hy).mpr q)))
theorem g_icmp_ge {x y : Int} {off : Int} (tgt : Nat) (hd : decode M.2.1 pc = .ok (.if_icmp .ge off, 3)) (ht : (pc : Int) + off = (tgt : Int)) (kt : y ≤ x → p_Go K l M tgt lv st σ o) (kf : ¬ (y ≤ x) → p_Go K l M (pc + 3) lv st σ o) : p_Go K l M pc lv (p_i y :: p_i x :: st) σ o := by
  refine ⟨by by_cases h : y ≤ x; exact (kt h).1; exact (kf h).1, fun p e s m args below meth c H locs n0 m0 mc ms Q ls C R S h1 h2 h3 h4 hl ol os RT => ?_⟩
  have hy : p_c y := p_okh os
  have hx : p_c x := p_okh (p_okt os)
  have kt := fun h => ((kt h).2 p e s m args below meth c H locs n0 m0 mc ms Q ls C R S h1 h2 h3 h4 hl ol (p_okt (p_okt os)) RT)
  have kf := fun h => ((kf h).2 p e s m args below meth c H locs n0 m0 mc ms Q ls C R S h1 h2 h3 h4 hl ol (p_okt (p_okt os)) RT)
  exact lv_icmp_ge C.1 C.2.1 hd ht (fun h => kt ((p_le hy hx).mp h)) (fun h => kf (fun q => h ((p_le hy hx).mpr q)))
theorem g_icmp_gt {x y : Int} {off : Int} (tgt : Nat) (hd : decode M.2.1 pc = .ok (.if_icmp .gt off, 3)) (ht : (pc : Int) + off = (tgt : Int)) (kt : y < x → p_Go K l M tgt lv st σ o) (kf : ¬ (y < x) → p_Go K l M (pc + 3) lv st σ o) : p_Go K l M pc lv (p_i y :: p_i x :: st) σ o := by
  refine ⟨by by_cases h : y < x; exact (kt h).1; exact (kf h).1, fun p e s m args below meth c H locs n0 m0 mc ms Q ls C R S h1 h2 h3 h4 hl ol os RT => ?_⟩
  have hy : p_c y := p_okh os
  have hx : p_c x := p_okh (p_okt os)
  have kt := fun h => ((kt h).2 p e s m args below meth c H locs n0 m0 mc ms Q ls C R S h1 h2 h3 h4 hl ol (p_okt (p_okt os)) RT)
  have kf := fun h => ((kf h).2 p e s m args below meth c H locs n0 m0 mc ms Q ls C R S h1 h2 h3 h4 hl ol (p_okt (p_okt os)) RT)
  exact lv_icmp_gt C.1 C.2.1 hd ht (fun h => kt ((p_lt hy hx).mp h)) (fun h => kf (fun q => h ((p_lt hy hx).mpr q)))
theorem g_icmp_le {x y : Int} {off : Int} (tgt : Nat) (hd : decode M.2.1 pc = .ok (.if_icmp .le off, 3)) (ht : (pc : Int) + off = (tgt : Int)) (kt : x ≤ y → p_Go K l M tgt lv st σ o) (kf : ¬ (x ≤ y) → p_Go K l M (pc + 3) lv st σ o) : p_Go K l M pc lv (p_i y :: p_i x :: st) σ o := by
  refine ⟨by by_cases h : x ≤ y; exact (kt h).1; exact (kf h).1, fun p e s m args below meth c H locs n0 m0 mc ms Q ls C R S h1 h2 h3 h4 hl ol os RT => ?_⟩
  have hy : p_c y := p_okh os
  have hx : p_c x := p_okh (p_okt os)
  have kt := fun h => ((kt h).2 p e s m args below meth c H locs n0 m0 mc ms Q ls C R S h1 h2 h3 h4 hl ol (p_okt (p_okt os)) RT)
  have kf := fun h => ((kf h).2 p e s m args below meth c H locs n0 m0 mc ms Q ls C R S h1 h2 h3 h4 hl ol (p_okt (p_okt os)) RT)
  exact lv_icmp_le C.1 C.2.1 hd ht (fun h => kt ((p_le hx hy).mp h)) (fun h => kf (fun q => h ((p_le hx hy).mpr q)))
theorem g_if_eq {x : Int} {off : Int} (tgt : Nat) (hd : decode M.2.1 pc = .ok (.ifCond .eq off, 3)) (ht : (pc : Int) + off = (tgt : Int)) (kt : x = 0 → p_Go K l M tgt lv st σ o) (kf : ¬ (x = 0) → p_Go K l M (pc + 3) lv st σ o) : p_Go K l M pc lv (p_i x :: st) σ o := by
  refine ⟨by by_cases h : x = 0; exact (kt h).1; exact (kf h).1, fun p e s m args below meth c H locs n0 m0 mc ms Q ls C R S h1 h2 h3 h4 hl ol os RT => ?_⟩
  have hx : p_c x := p_okh os
  have h0 : p_c 0 := by decide
  have kt := fun h => ((kt h).2 p e s m args below meth c H locs n0 m0 mc ms Q ls C R S h1 h2 h3 h4 hl ol (p_okt os) RT)
  have kf := fun h => ((kf h).2 p e s m args below meth c H locs n0 m0 mc ms Q ls C R S h1 h2 h3 h4 hl ol (p_okt os) RT)
  exact lv_if_eq C.1 C.2.1 hd ht (fun h => kt ((p_eq0 hx).mp h)) (fun h => kf (fun q => h ((p_eq0 hx).mpr q)))
theorem g_if_ne {x : Int} {off : Int} (tgt : Nat) (hd : decode M.2.1 pc = .ok (.ifCond .ne off, 3)) (ht : (pc : Int) + off = (tgt : Int)) (kt : x ≠ 0 → p_Go K l M tgt lv st σ o) (kf : ¬ (x ≠ 0) → p_Go K l M (pc + 3) lv st σ o) : p_Go K l M pc lv (p_i x :: st) σ o := by
  refine ⟨by by_cases h : x ≠ 0; exact (kt h).1; exact (kf h).1, fun p e s m args below meth c H locs n0 m0 mc ms Q ls C R S h1 h2 h3 h4 hl ol os RT => ?_⟩
  have hx : p_c x := p_okh os
  have h0 : p_c 0 := by decide
  have kt := fun h => ((kt h).2 p e s m args below meth c H locs n0 m0 mc ms Q ls C R S h1 h2 h3 h4 hl ol (p_okt os) RT)
  have kf := fun h => ((kf h).2 p e s m args below meth c H locs n0 m0 mc ms Q ls C R S h1 h2 h3 h4 hl ol (p_okt os) RT)
  exact lv_if_ne C.1 C.2.1 hd ht (fun h => kt (fun q => h ((p_eq0 hx).mpr q))) (fun h => kf (fun q => q ((p_eq0 hx).mp h)))
theorem g_if_lt {x : Int} {off : Int} (tgt : Nat) (hd : decode M.2.1 pc = .ok (.ifCond .lt off, 3)) (ht : (pc : Int) + off = (tgt : Int)) (kt : x < 0 → p_Go K l M tgt lv st σ o) (kf : ¬ (x < 0) → p_Go K l M (pc + 3) lv st σ o) : p_Go K l M pc lv (p_i x :: st) σ o := by
  refine ⟨by by_cases h : x < 0; exact (kt h).1; exact (kf h).1, fun p e s m args below meth c H locs n0 m0 mc ms Q ls C R S h1 h2 h3 h4 hl ol os RT => ?_⟩
  have hx : p_c x := p_okh os
  have h0 : p_c 0 := by decide
  have kt := fun h => ((kt h).2 p e s m args below meth c H locs n0 m0 mc ms Q ls C R S h1 h2 h3 h4 hl ol (p_okt os) RT)
  have kf := fun h => ((kf h).2 p e s m args below meth c H locs n0 m0 mc ms Q ls C R S h1 h2 h3 h4 hl ol (p_okt os) RT)
  exact lv_if_lt C.1 C.2.1 hd ht (fun h => kt ((p_lt hx h0).mp h)) (fun h => kf (fun q => h ((p_lt hx h0).mpr q)))
theorem g_if_ge {x : Int} {off : Int} (tgt : Nat) (hd : decode M.2.1 pc = .ok (.ifCond .ge off, 3)) (ht : (pc : Int) + off = (tgt : Int)) (kt : 0 ≤ x → p_Go K l M tgt lv st σ o) (kf : ¬ (0 ≤ x) → p_Go K l M (pc + 3) lv st σ o) : p_Go K l M pc lv (p_i x :: st) σ o := by
  refine ⟨by by_cases h : 0 ≤ x; exact (kt h).1; exact (kf h).1, fun p e s m args below meth c H locs n0 m0 mc ms Q ls C R S h1 h2 h3 h4 hl ol os RT => ?_⟩
  have hx : p_c x := p_okh os
  have h0 : p_c 0 := by decide
  have kt := fun h => ((kt h).2 p e s m args below meth c H locs n0 m0 mc ms Q ls C R S h1 h2 h3 h4 hl ol (p_okt os) RT)
  have kf := fun h => ((kf h).2 p e s m args below meth c H locs n0 m0 mc ms Q ls C R S h1 h2 h3 h4 hl ol (p_okt os) RT)
  exact lv_if_ge C.1 C.2.1 hd ht (fun h => kt ((p_le h0 hx).mp h)) (fun h => kf (fun q => h ((p_le h0 hx).mpr q)))
theorem g_if_gt {x : Int} {off : Int} (tgt : Nat) (hd : decode M.2.1 pc = .ok (.ifCond .gt off, 3)) (ht : (pc : Int) + off = (tgt : Int)) (kt : 0 < x → p_Go K l M tgt lv st σ o) (kf : ¬ (0 < x) → p_Go K l M (pc + 3) lv st σ o) : p_Go K l M pc lv (p_i x :: st) σ o := by
  refine ⟨by by_cases h : 0 < x; exact (kt h).1; exact (kf h).1, fun p e s m args below meth c H locs n0 m0 mc ms Q ls C R S h1 h2 h3 h4 hl ol os RT => ?_⟩
  have hx : p_c x := p_okh os
  have h0 : p_c 0 := by decide
  have kt := fun h => ((kt h).2 p e s m args below meth c H locs n0 m0 mc ms Q ls C R S h1 h2 h3 h4 hl ol (p_okt os) RT)
  have kf := fun h => ((kf h).2 p e s m args below meth c H locs n0 m0 mc ms Q ls C R S h1 h2 h3 h4 hl ol (p_okt os) RT)
  exact lv_if_gt C.1 C.2.1 hd ht (fun h => kt ((p_lt h0 hx).mp h)) (fun h => kf (fun q => h ((p_lt h0 hx).mpr q)))
theorem g_if_le {x : Int} {off : Int} (tgt : Nat) (hd : decode M.2.1 pc = .ok (.ifCond .le off, 3)) (ht : (pc : Int) + off = (tgt : Int)) (kt : x ≤ 0 → p_Go K l M tgt lv st σ o) (kf : ¬ (x ≤ 0) → p_Go K l M (pc + 3) lv st σ o) : p_Go K l M pc lv (p_i x :: st) σ o := by
  refine ⟨by by_cases h : x ≤ 0; exact (kt h).1; exact (kf h).1, fun p e s m args below meth c H locs n0 m0 mc ms Q ls C R S h1 h2 h3 h4 hl ol os RT => ?_⟩
  have hx : p_c x := p_okh os
  have h0 : p_c 0 := by decide
  have kt := fun h => ((kt h).2 p e s m args below meth c H locs n0 m0 mc ms Q ls C R S h1 h2 h3 h4 hl ol (p_okt os) RT)
  have kf := fun h => ((kf h).2 p e s m args below meth c H locs n0 m0 mc ms Q ls C R S h1 h2 h3 h4 hl ol (p_okt os) RT)
  exact lv_if_le C.1 C.2.1 hd ht (fun h => kt ((p_le hx h0).mp h)) (fun h => kf (fun q => h ((p_le hx h0).mpr q)))
theorem g_ifnull {x : Nat} {off : Int} (tgt : Nat) (hd : decode M.2.1 pc = .ok (.ifnull off, 3)) (ht : (pc : Int) + off = (tgt : Int)) (kt : x = 0 → p_Go K l M tgt lv st σ o) (kf : ¬ (x = 0) → p_Go K l M (pc + 3) lv st σ o) : p_Go K l M pc lv (p_r x :: st) σ o := by
  refine ⟨by by_cases h : x = 0; exact (kt h).1; exact (kf h).1, fun p e s m args below meth c H locs n0 m0 mc ms Q ls C R S h1 h2 h3 h4 hl ol os RT => ?_⟩
  by_cases h : x = 0
  · subst h
    exact lv_ifnullN C.1 C.2.1 hd ht ((kt rfl).2 p e s m args below meth c H locs n0 m0 mc ms Q ls C R S h1 h2 h3 h4 hl ol (p_okt os) RT)
  · show W p l e (p_rm M mc ms) s m args below meth c H locs _ _ Q (F0 m pc ls (p_V K (p_r x) :: st.map (p_V K)))
    rw [p_V_r (by omega)]
    exact lv_ifnull C.1 C.2.1 hd ((kf h).2 p e s m args below meth c H locs n0 m0 mc ms Q ls C R S h1 h2 h3 h4 hl ol (p_okt os) RT)
theorem g_ifnonnull {x : Nat} {off : Int} (tgt : Nat) (hd : decode M.2.1 pc = .ok (.ifnonnull off, 3)) (ht : (pc : Int) + off = (tgt : Int)) (kt : x ≠ 0 → p_Go K l M tgt lv st σ o) (kf : ¬ (x ≠ 0) → p_Go K l M (pc + 3) lv st σ o) : p_Go K l M pc lv (p_r x :: st) σ o := by
  refine ⟨by by_cases h : x ≠ 0; exact (kt h).1; exact (kf h).1, fun p e s m args below meth c H locs n0 m0 mc ms Q ls C R S h1 h2 h3 h4 hl ol os RT => ?_⟩
  by_cases h : x = 0
  · subst h
    exact lv_ifnonnullN C.1 C.2.1 hd ((kf (fun q => q rfl)).2 p e s m args below meth c H locs n0 m0 mc ms Q ls C R S h1 h2 h3 h4 hl ol (p_okt os) RT)
  · show W p l e (p_rm M mc ms) s m args below meth c H locs _ _ Q (F0 m pc ls (p_V K (p_r x) :: st.map (p_V K)))
    rw [p_V_r (by omega)]
    exact lv_ifnonnull C.1 C.2.1 hd ht ((kt h).2 p e s m args below meth c H locs n0 m0 mc ms Q ls C R S h1 h2 h3 h4 hl ol (p_okt os) RT)
theorem g_tableOut {dflt lo hi : Int} {offs : Array Int} {len : Nat} {x : Int} (tgt : Nat) (hd : decode M.2.1 pc = .ok (.tableswitch dflt lo hi offs, len)) (h : x < lo ∨ hi < x) (ht : (pc : Int) + dflt = (tgt : Int)) (k : p_Go K l M tgt lv st σ o) : p_Go K l M pc lv (p_i x :: st) σ o :=
  ⟨k.1, fun p e s m args below meth c H locs n0 m0 mc ms Q ls C R S h1 h2 h3 h4 hl ol os RT => lv_tableOut C.1 C.2.1 hd (by rw [p_t (p_okh os)]; exact h) ht (k.2 p e s m args below meth c H locs n0 m0 mc ms Q ls C R S h1 h2 h3 h4 hl ol (p_okt os) RT)⟩
theorem g_tableIn {dflt lo hi off : Int} {offs : Array Int} {len : Nat} {x : Int} (tgt : Nat) (hd : decode M.2.1 pc = .ok (.tableswitch dflt lo hi offs, len)) (h1 : lo ≤ x) (h2 : x ≤ hi) (ho : offs[(x - lo).toNat]? = some off) (ht : (pc : Int) + off = (tgt : Int)) (k : p_Go K l M tgt lv st σ o) : p_Go K l M pc lv (p_i x :: st) σ o :=
  ⟨k.1, fun p e s m args below meth c H locs n0 m0 mc ms Q ls C R S g1 g2 g3 g4 hl ol os RT => lv_tableIn C.1 C.2.1 hd (by rw [p_t (p_okh os)]; omega) (by rw [p_t (p_okh os)]; omega) (by rw [p_t (p_okh os)]; exact ho) ht (k.2 p e s m args below meth c H locs n0 m0 mc ms Q ls C R S g1 g2 g3 g4 hl ol (p_okt os) RT)⟩
theorem g_lookup {dflt off : Int} {ps : Array (Int × Int)} {len : Nat} {x : Int} (tgt : Nat) (hd : decode M.2.1 pc = .ok (.lookupswitch dflt ps, len)) (hp : (ps.toList.zip (ps.toList.drop 1)).all (fun (a, next) => a.1 < next.1) = true) (ho : Op.lookupswitch.offset ps.toList dflt x = off) (ht : (pc : Int) + off = (tgt : Int)) (k : p_Go K l M tgt lv st σ o) : p_Go K l M pc lv (p_i x :: st) σ o :=
  ⟨k.1, fun p e s m args below meth c H locs n0 m0 mc ms Q ls C R S h1 h2 h3 h4 hl ol os RT => lv_lookup C.1 C.2.1 hd hp (by rw [p_t (p_okh os)]; exact ho) ht (k.2 p e s m args below meth c H locs n0 m0 mc ms Q ls C R S h1 h2 h3 h4 hl ol (p_okt os) RT)⟩
theorem g_ret (hr : o.2 = σ) (hv : o.1.toList = st) (hd : decode M.2.1 pc = .ok (p_ri M.2.2.2.1, 1)) (hk : (∀ v ∈ st, p_ok v) → p_rk M.2.2.2.1 o.1) : p_Go K l M pc lv st σ o := by
  subst hr
  subst hv
  refine ⟨p_x.rf _, fun p e s m args below meth c H locs n0 m0 mc ms Q ls C R S h1 h2 h3 h4 hl ol os RT => ?_⟩
  refine W.widen (k := mc) (n := ms) (by omega) (by omega) ?_
  exact RT H locs pc ls R S (hk os) hd
end PR
