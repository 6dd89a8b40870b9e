/-! ===== int[].clone(), checkcast of an int[], the script among the locals ===== -/
def p_cl (σ : p_Hp) (a : Nat) : p_Hp := (σ.1 + 1, σ.2.1 + σ.2.2.2.1 a, fun b => if b = σ.1 + 1 then 100 else σ.2.2.1 b, fun b => if b = σ.1 + 1 then σ.2.2.2.1 a else σ.2.2.2.1 b, fun b j => if b = σ.1 + 1 then σ.2.2.2.2.1 a j else σ.2.2.2.2.1 b j, fun b j => if b = σ.1 + 1 then 0 else σ.2.2.2.2.2 b j)
theorem p_x_cl (σ : p_Hp) (a : Nat) : p_x σ (p_cl σ a) := ⟨Nat.le_succ _, Nat.le_add_right _ _, fun b hb => by
  have h : b ≠ σ.1 + 1 := by have : b ≤ σ.1 := hb; omega
  exact ⟨if_neg h, if_neg h⟩⟩
theorem p_P.clone {K : p_K} {σ : p_Hp} {H H1 : Heap} {a : Nat} (hP : p_P K σ H) (ha : p_is σ a 100) (z : H1.size = H.size + 1) (oq : ∀ x : Nat, x < H.size → H1[x]? = H[x]?)
    (e1 : H1[H.size]? = some (arrV (K.2.2.2.1 0) (p_L σ a) (fun j => p_sl K σ a .int j))) : p_P K (p_cl σ a) H1 := by
  have hsz := hP.1
  have eT : ∀ b, p_T (p_cl σ a) b = if b = p_N σ + 1 then 100 else p_T σ b := fun _ => rfl
  have eL : ∀ b, p_L (p_cl σ a) b = if b = p_N σ + 1 then p_L σ a else p_L σ b := fun _ => rfl
  have eZ : ∀ b j, p_Z (p_cl σ a) b j = if b = p_N σ + 1 then p_Z σ a j else p_Z σ b j := fun _ _ => rfl
  have eR : ∀ b j, p_R (p_cl σ a) b j = if b = p_N σ + 1 then 0 else p_R σ b j := fun _ _ => rfl
  obtain ⟨-, a2, a3⟩ := hP.2.2 a 0 .int ha rfl
  have old : ∀ b, b ≠ p_N σ + 1 → ∀ j, p_Z (p_cl σ a) b j = p_Z σ b j ∧ p_R (p_cl σ a) b j = p_R σ b j := fun b hb j => ⟨by rw [eZ, if_neg hb], by rw [eR, if_neg hb]⟩
  have up : ∀ b t, p_is (p_cl σ a) b t → b ≠ p_N σ + 1 → p_is σ b t := fun b t h hb => by
    have h2 : b ≤ p_N σ + 1 := h.2.1
    have h3 := h.2.2
    rw [eT, if_neg hb] at h3
    exact ⟨h.1, by omega, h3⟩
  refine ⟨by show H1.size = K.1 + (p_N σ + 1) + 1; omega, fun b cj r hb hr => ?_, fun b i ty hb hty => ?_⟩
  · have hbn : b ≠ p_N σ + 1 := fun w => by
      have h3 := hb.2.2
      rw [eT, if_pos w] at h3
      have := p_cl_lt hr
      omega
    have hb := up b cj hb hbn
    obtain ⟨g1, g2⟩ := hP.2.1 b cj r hb hr
    refine ⟨(g1.kept (oq _ (by have := hb.2.1; omega))).to (fun j hj => (p_sl_eq (old b hbn j).1 (old b hbn j).2 _).symm), fun j hj => ?_⟩
    rw [(old b hbn j).1]
    exact g2 j hj
  · by_cases hbn : b = p_N σ + 1
    · have h3 := hb.2.2
      rw [eT, if_pos hbn] at h3
      have e : i = 0 := by omega
      subst e
      cases hty
      rw [eL, if_pos hbn]
      refine ⟨?_, fun j hj => ?_, a3⟩
      · rw [show K.1 + b = H.size from by omega, e1]
        congr 2
        funext j
        show Value.int _ = Value.int (Int32.ofInt (p_Z (p_cl σ a) b j))
        rw [eZ, if_pos hbn]
      · rw [eZ, if_pos hbn]
        exact a2 j hj
    · have hb := up b _ hb hbn
      obtain ⟨g1, g2, g3⟩ := hP.2.2 b i ty hb hty
      rw [eL, if_neg hbn]
      refine ⟨?_, fun j hj => ?_, g3⟩
      · rw [oq _ (by have := hb.2.1; omega), g1]
        congr 2
        funext j
        exact (p_sl_eq (old b hbn j).1 (old b hbn j).2 _).symm
      · rw [(old b hbn j).1]
        exact g2 j hj
section MO
variable {K : p_K} {l : Launch} {M : p_Me} {pc : Nat} {lv : List (Nat × p_AV)} {st : List p_AV} {σ : p_Hp} {o : Option p_AV × p_Hp}
theorem g_castA {a idx : Nat} (hw : Cond.classLink M.1.cls idx "[I" ∈ sw_gw) (hd : decode M.2.1 pc = .ok (.checkcast idx, 3)) (hi : p_is σ a 100) (k9 : p_Go K l M (pc + 3) lv (p_r a :: st) σ o) : p_Go K l M pc lv (p_r a :: st) σ o := by
  refine ⟨k9.1, fun p e s m args below meth c H locs n0 m0 mc ms Q ls C R S h1 h2 h3 h4 hl ol os RT => ?_⟩
  have hts := p_hts C.2.2.2.2.2.1
  have E := C.2.2.2.2.2.2.2.2
  obtain ⟨a1, a2, a3⟩ := R.2.2 a 0 .int hi rfl
  have hnm : s.vm.findClass "[I" = some (K.2.2.2.1 0) := (E.2.1 0 _ rfl).2
  have kk := k9.2 p e s m args below meth c H locs n0 m0 mc ms Q ls C R S h1 h2 h3 h4 hl ol os RT
  rw [List.map_cons, p_V_r hi.1] at kk ⊢
  intro T hT X
  obtain ⟨vm', X', stp⟩ := X.checkcastYes C.1 C.2.2.2.2.1 (hts _ hw) (by rw [hT]; exact a1) rfl hnm (va_asg _ _) (g := F0 m pc ls (.ref (K.1 + a) :: st.map (p_V K))) rfl rfl (by rw [C.2.1]; exact hd)
  obtain ⟨t, b1, b2⟩ := kk (T.setVm vm') hT X'
  exact ⟨t, stp t b1, b2⟩
theorem g_aload_nS {n : Fin 4} {i j x : Nat} (hd : decode M.2.1 pc = .ok (.aload_n n, 1)) (hi : (n : Nat) = i) (hj : lv[j]? = some (i, p_s x)) (k9 : p_Go K l M (pc + 1) lv (p_s x :: st) σ o) : p_Go K l M pc lv st σ o :=
  ⟨k9.1, fun p e s m args below meth c H locs n0 m0 mc ms Q ls C R S h1 h2 h3 h4 hl ol os RT => lv_aload_n C.1 C.2.1 hd hi (p_at hl hj) (k9.2 p e s m args below meth c H locs n0 m0 mc ms Q ls C R S h1 h2 h3 h4 hl ol (p_ok2 (v := p_s x) trivial os) RT)⟩
theorem g_scr {n9 : Nat} {t9 : Nat → Int} {x : Int} (he1 : n9 = p_tl K 9) (he2 : t9 = p_tv K 9) (hd : decode M.2.1 pc = .ok (.iaload, 1)) (h0 : 0 ≤ x) (hx : x < (n9 : Int)) (k9 : p_Go K l M (pc + 1) lv (p_i (t9 x.toNat) :: st) σ o) : p_Go K l M pc lv (p_i x :: p_s 9 :: st) σ o := by
  subst he1
  subst he2
  exact g_tabload (Or.inr rfl) hd h0 hx k9
theorem g_scl {n9 : Nat} (he1 : n9 = p_tl K 9) (hd : decode M.2.1 pc = .ok (.arraylength, 1)) (k9 : p_Go K l M (pc + 1) lv (p_i (n9 : Int) :: st) σ o) : p_Go K l M pc lv (p_s 9 :: st) σ o := by
  subst he1
  exact g_tablen (Or.inr rfl) hd k9
end MO
