/-! ===== new cells ===== -/
theorem p_nwZ {σ : p_Hp} {t n b : Nat} (h : b ≠ p_N σ + 1) (j : Nat) : p_Z (p_nw σ t n) b j = p_Z σ b j ∧ p_R (p_nw σ t n) b j = p_R σ b j := ⟨if_neg h, if_neg h⟩
theorem p_nwT {σ : p_Hp} {t n b : Nat} (h : b ≠ p_N σ + 1) : p_T (p_nw σ t n) b = p_T σ b ∧ p_L (p_nw σ t n) b = p_L σ b := ⟨if_neg h, if_neg h⟩
theorem p_nw0 (σ : p_Hp) (t n j : Nat) : p_Z (p_nw σ t n) (p_N σ + 1) j = 0 ∧ p_R (p_nw σ t n) (p_N σ + 1) j = 0 := ⟨if_pos rfl, if_pos rfl⟩
theorem p_nwS (σ : p_Hp) (t n : Nat) : p_T (p_nw σ t n) (p_N σ + 1) = t ∧ p_L (p_nw σ t n) (p_N σ + 1) = n := ⟨if_pos rfl, if_pos rfl⟩
theorem p_slD {K : p_K} {σ : p_Hp} {a k : Nat} (hz : p_Z σ a k = 0) (hr : p_R σ a k = 0) {ty : FieldType} (h : p_nf ty = true) : p_sl K σ a ty k = defaultValue ty := by
  cases ty <;> simp only [p_sl, hz, hr] <;> first | rfl | (exact absurd h (by decide))
theorem p_okD {ty : FieldType} {x : Int} (hx : x = 0) : p_okT ty x := by
  subst hx
  cases ty <;> first | trivial | exact Or.inl rfl | exact (by decide : p_c 0) | exact (by decide : p_c6 0)
theorem p_P.new {K : p_K} {σ : p_Hp} {H H1 : Heap} {t n : Nat} (hP : p_P K σ H) (z : H1.size = H.size + 1) (oq : ∀ x : Nat, x < H.size → H1[x]? = H[x]?)
    (hO : ∀ q : vw_C, sw_cl[t]? = some q → t_OB (K.1 + (p_N σ + 1)) (K.2.1 t) q.2.2 (K.2.2.1 t) H1 (fun k => p_sl K (p_nw σ t n) (p_N σ + 1) (sw_ty t k) k))
    (hA : ∀ (i : Nat) (ty : FieldType), t = 100 + i → sw_at[i]? = some ty → H1[K.1 + (p_N σ + 1)]? = some (arrV (K.2.2.2.1 i) n (fun j => p_sl K (p_nw σ t n) (p_N σ + 1) ty j)) ∧ n ≤ 1000000) : p_P K (p_nw σ t n) H1 := by
  have hsz := hP.1
  have up : ∀ b t', p_is (p_nw σ t n) b t' → b ≠ p_N σ + 1 → p_is σ b t' := fun b t' h hb => by
    have h2 : b ≤ p_N σ + 1 := h.2.1
    have h3 := h.2.2
    rw [(p_nwT hb).1] at h3
    exact ⟨h.1, by omega, h3⟩
  refine ⟨by show H1.size = K.1 + (p_N σ + 1) + 1; omega, fun b cj r hb hr => ?_, fun b i ty hb hty => ?_⟩
  · by_cases hbn : b = p_N σ + 1
    · subst hbn
      have e : t = cj := (p_nwS σ t n).1.symm.trans hb.2.2
      subst e
      exact ⟨hO r hr, fun k _ => p_okD (p_nw0 σ t n k).1⟩
    · have hb := up b cj hb hbn
      obtain ⟨g1, g2⟩ := hP.2.1 b cj r hb hr
      refine ⟨(g1.kept (oq _ (by have := hb.2.1; omega))).to (fun j hj => (p_sl_eq (p_nwZ hbn j).1 (p_nwZ hbn j).2 _).symm), fun j hj => ?_⟩
      rw [(p_nwZ hbn j).1]
      exact g2 j hj
  · by_cases hbn : b = p_N σ + 1
    · subst hbn
      have e : t = 100 + i := (p_nwS σ t n).1.symm.trans hb.2.2
      obtain ⟨a1, a2⟩ := hA i ty e hty
      rw [(p_nwS σ t n).2]
      exact ⟨a1, fun j _ => p_okD (p_nw0 σ t n j).1, a2⟩
    · have hb := up b _ hb hbn
      obtain ⟨g1, g2, g3⟩ := hP.2.2 b i ty hb hty
      rw [(p_nwT hbn).2]
      refine ⟨?_, fun j hj => ?_, g3⟩
      · rw [oq _ (by have := hb.2.1; omega), g1]
        congr 2
        funext j
        exact (p_sl_eq (p_nwZ hbn j).1 (p_nwZ hbn j).2 _).symm
      · rw [(p_nwZ hbn j).1]
        exact g2 j hj
theorem p_S.new {K : p_K} {H0 H H1 : Heap} {locs : List Loc} (h : va_S (p_A K) H0 H locs) (z : H.size ≤ H1.size) (oq : ∀ q : Nat, q < H.size → H1[q]? = H[q]?) : va_S (p_A K) H0 H1 locs :=
  ⟨Nat.le_trans h.1 z, fun x g1 g2 => (oq x (Nat.lt_of_lt_of_le g1 h.1)).trans (h.2.1 x g1 g2), h.2.2⟩
section NR
variable {K : p_K} {l : Launch} {M : p_Me} {pc : Nat} {lv : List (Nat × p_AV)} {st : List p_AV} {σ : p_Hp} {o : Option p_AV × p_Hp}
theorem g_new {ci idx : Nat} {q : vw_C} (hcl : p_Cl ci q) (hw : Cond.classLink M.1.cls idx q.1 ∈ sw_gw) (hd : decode M.2.1 pc = .ok (.new idx, 3)) (k9 : p_Go K l M (pc + 3) lv (p_r (p_N σ + 1) :: st) (p_nw σ ci q.2.2) o) : p_Go K l M pc lv st σ o := by
  have e1 : p_N (p_nw σ ci q.2.2) = p_N σ + 1 := rfl
  have e2 : p_M (p_nw σ ci q.2.2) = p_M σ + q.2.2 := rfl
  have kn : p_N σ + 1 ≤ p_N o.2 ∧ p_M σ + q.2.2 ≤ p_M o.2 := ⟨k9.1.1, k9.1.2.1⟩
  refine ⟨(p_x_nw _ _ _).trans k9.1, fun p e s m args below meth c H locs n0 m0 mc ms Q ls C R S h1 h2 h3 h4 hl ol os RT => ?_⟩
  obtain ⟨c1, c2, c3, c4, c5, c6, c7⟩ := hcl
  have hts := p_hts C.2.2.2.2.2.1
  have hKn := C.2.2.2.2.2.2.2.2.1 ci q c1
  refine W.newcK C.1 C.2.1 C.2.2.2.2.1 (hts _ hw) (hts _ c5) (hts _ c6) rfl hd (by show p_N σ - n0 + 1 ≤ mc; omega) (by show p_M σ - m0 + q.2.2 ≤ ms; omega) hKn.2.1 R.1 fun H1 kC hkC b1 z1 o1 => ?_
  have oq : ∀ x : Nat, x < H.size → H1[x]? = H[x]? := fun x hx => o1 x (by rw [← R.1]; exact hx)
  have hP1 : p_P K (p_nw σ ci q.2.2) H1 := by
    refine R.new (by rw [z1, R.1]) oq (fun q' hq' => ?_) (fun i ty hi _ => ?_)
    · cases c1.symm.trans hq'
      exact (u_born (sw_ty ci) hts c2 hKn hkC b1 c3).to (fun j hj => (p_slD (p_nw0 σ ci q.2.2 j).1 (p_nw0 σ ci q.2.2 j).2 (c7 j hj)).symm)
    · have := p_cl_lt c1
      omega
  have kk := k9.2 p e s m args below meth c H1 locs n0 m0 mc ms Q ls C hP1 (p_S.new S (by rw [z1, R.1]; omega) oq) (by rw [e1]; omega) (by rw [e2]; omega) h3 h4 hl ol (p_ok2 (v := p_r _) trivial os) RT
  rw [List.map_cons, p_V_r (by omega), e1, e2] at kk
  exact W.cs (by omega) (by omega) kk
theorem g_newarray {i t n : Nat} {x : Int} {at' : ArrayType} {ty : FieldType} (ht9 : t = 100 + i) (hn9 : n = x.toNat) (hc : sw_at[i]? = some ty) (hty : newarray.typeOf at' = ty) (hw : Cond.arrayClass ty ∈ sw_gw) (hd : decode M.2.1 pc = .ok (.newarray at', 2)) (h0 : 0 ≤ x) (hx : x ≤ 1000000) (k9 : p_Go K l M (pc + 2) lv (p_r (p_N σ + 1) :: st) (p_nw σ t n) o) : p_Go K l M pc lv (p_i x :: st) σ o := by
  subst ht9
  subst hn9
  have e1 : p_N (p_nw σ (100 + i) x.toNat) = p_N σ + 1 := rfl
  have e2 : p_M (p_nw σ (100 + i) x.toNat) = p_M σ + x.toNat := rfl
  have kn : p_N σ + 1 ≤ p_N o.2 ∧ p_M σ + x.toNat ≤ p_M o.2 := ⟨k9.1.1, k9.1.2.1⟩
  refine ⟨(p_x_nw _ _ _).trans k9.1, fun p e s m args below meth c H locs n0 m0 mc ms Q ls C R S h1 h2 h3 h4 hl ol os RT => ?_⟩
  have hts := p_hts C.2.2.2.2.2.1
  have hnat := p_nat (n := 1000001) h0 (by omega) (by omega)
  have hneg : ¬ Int32.ofInt x < 0 := by rw [p_lt0 (p_okh os)]; omega
  have hcb : ∀ ty : FieldType, componentBytes ty ≤ 8 := fun ty => by cases ty <;> first | decide | exact (by decide : 4 ≤ 8)
  have hbytes : x.toNat * componentBytes (newarray.typeOf at') ≤ 536870912 := Nat.le_trans (Nat.mul_le_mul_left _ (hcb _)) (by omega)
  refine va_newaK C.1 C.2.1 (by rw [hty]; exact hts _ hw) rfl hd rfl hneg hnat hbytes (by show p_N σ - n0 + 1 ≤ mc; omega) (by show p_M σ - m0 + x.toNat ≤ ms; omega) R.1 fun H1 cA b1 z1 o1 hAr hNm => ?_
  have hca : cA = K.2.2.2.1 i := by
    have h := (C.2.2.2.2.2.2.2.2.2.1 i ty hc).2
    subst hty
    have h : s.vm.findClass ("[" ++ (newarray.typeOf at').toString) = some (K.2.2.2.1 i) := by cases at' <;> exact h
    exact Option.some.inj (hNm.symm.trans h)
  subst hca
  have hnf : p_nf ty = true ∨ ty = .float ∨ ty = .double := by cases ty <;> simp [p_nf]
  have hnf : p_nf ty = true := by
    rcases hnf with h | h | h
    · exact h
    · subst h; exact absurd (List.mem_of_getElem? hc) (by decide)
    · subst h; exact absurd (List.mem_of_getElem? hc) (by decide)
  have oq : ∀ x : Nat, x < H.size → H1[x]? = H[x]? := fun x hx => o1 x (by rw [← R.1]; exact hx)
  have hP1 : p_P K (p_nw σ (100 + i) x.toNat) H1 := by
    refine R.new (by rw [z1, R.1]) oq (fun q' hq' => ?_) (fun i' ty' hi hty' => ?_)
    · have := p_cl_lt hq'
      omega
    · have e : i' = i := by omega
      subst e
      cases hc.symm.trans hty'
      refine ⟨?_, by omega⟩
      rw [show K.1 + (p_N σ + 1) = K.1 + p_N σ + 1 from by omega, b1, hty]
      congr 2
      funext j
      exact (p_slD (p_nw0 σ (100 + i') x.toNat j).1 (p_nw0 σ (100 + i') x.toNat j).2 hnf).symm
  have kk := k9.2 p e s m args below meth c H1 locs n0 m0 mc ms Q ls C hP1 (p_S.new S (by rw [z1, R.1]; omega) oq) (by rw [e1]; omega) (by rw [e2]; omega) h3 h4 hl ol (p_ok2 (v := p_r _) trivial (p_okt os)) RT
  rw [List.map_cons, p_V_r (by omega), e1, e2] at kk
  exact W.cs (by omega) (by omega) kk
theorem g_anewarray {i idx t n : Nat} {x : Int} {D : String} (ht9 : t = 100 + i) (hn9 : n = x.toNat) (hc : sw_at[i]? = some (.object D)) (hao : D ∈ sw_ao) (hw : Cond.classLink M.1.cls idx D ∈ sw_gw) (hd : decode M.2.1 pc = .ok (.anewarray idx, 3)) (h0 : 0 ≤ x) (hx : x ≤ 1000000) (k9 : p_Go K l M (pc + 3) lv (p_r (p_N σ + 1) :: st) (p_nw σ t n) o) : p_Go K l M pc lv (p_i x :: st) σ o := by
  subst ht9
  subst hn9
  have e1 : p_N (p_nw σ (100 + i) x.toNat) = p_N σ + 1 := rfl
  have e2 : p_M (p_nw σ (100 + i) x.toNat) = p_M σ + x.toNat := rfl
  have kn : p_N σ + 1 ≤ p_N o.2 ∧ p_M σ + x.toNat ≤ p_M o.2 := ⟨k9.1.1, k9.1.2.1⟩
  refine ⟨(p_x_nw _ _ _).trans k9.1, fun p e s m args below meth c H locs n0 m0 mc ms Q ls C R S h1 h2 h3 h4 hl ol os RT => ?_⟩
  have hts := p_hts C.2.2.2.2.2.1
  have E := C.2.2.2.2.2.2.2.2
  have hnat := p_nat (n := 1000001) h0 (by omega) (by omega)
  have hneg : ¬ Int32.ofInt x < 0 := by rw [p_lt0 (p_okh os)]; omega
  refine W.anew C.1 C.2.1 C.2.2.2.2.1 (hts _ hw) (va_AO.use (E.2.2.2.2.1 D hao)) rfl hd rfl hneg (by rw [hnat]; omega) (by show p_N σ - n0 + 1 ≤ mc; omega) (by rw [hnat]; show p_M σ - m0 + x.toNat ≤ ms; omega) fun cA kA comp a1 a2 a3 a4 => ?_
  obtain ⟨kA', comp', r1, r2, r3, r4⟩ := (E.2.1 i _ hc).2
  have hca : cA = K.2.2.2.1 i := Option.some.inj (a1.symm.trans r4)
  subst hca
  rw [hnat, arrV_new]
  generalize hH1 : H.push (arrV (K.2.2.2.1 i) x.toNat (fun _ => Value.null)) = H1
  have z1 : H1.size = H.size + 1 := by rw [← hH1]; simp
  have oq : ∀ y : Nat, y < H.size → H1[y]? = H[y]? := fun y hy => by rw [← hH1, Array.getElem?_push, if_neg (Nat.ne_of_lt hy)]
  have hP1 : p_P K (p_nw σ (100 + i) x.toNat) H1 := by
    refine R.new z1 oq (fun q' hq' => ?_) (fun i' ty' hi hty' => ?_)
    · have := p_cl_lt hq'
      omega
    · have e : i' = i := by omega
      subst e
      cases hc.symm.trans hty'
      refine ⟨?_, by omega⟩
      rw [show K.1 + (p_N σ + 1) = H.size from by rw [R.1]; omega, ← hH1]
      rw [Array.getElem?_push, if_pos rfl]
      congr 2
      funext j
      exact (p_slD (ty := .object D) (p_nw0 σ (100 + i') x.toNat j).1 (p_nw0 σ (100 + i') x.toNat j).2 rfl).symm
  have kk := k9.2 p e s m args below meth c H1 locs n0 m0 mc ms Q ls C hP1 (p_S.new S (by omega) oq) (by rw [e1]; omega) (by rw [e2]; omega) h3 h4 hl ol (p_ok2 (v := p_r _) trivial (p_okt os)) RT
  rw [List.map_cons, p_V_r (by omega), e1, e2] at kk
  have hz := R.1
  refine W.eq (g2 := F0 m (pc + 3) ls (Value.ref (K.1 + (p_N σ + 1)) :: st.map (p_V K))) ?_ (W.cs (by omega) (by omega) kk)
  rw [show K.1 + (p_N σ + 1) = H.size from by omega]
end NR
