/-! ===== new int[n][k] ===== -/
theorem p_outer (c : ClassId) (N h0 : Nat) : ∀ i : Nat, Jvm.Free.Multi.outerC c N h0 i = arrV c N (fun j => va_rf (if j < i then some (h0 + 1 + j) else none))
  | 0 => by
    show ({ cls := c, slots := Array.replicate N .null, vm := .none } : Cell) = _
    rw [arrV_new]
    refine congrArg (arrV c N) (funext fun j => ?_)
    simp [va_rf]
  | i + 1 => by
    show (Jvm.Free.Multi.outerC c N h0 i).setSlot i (.ref (h0 + 1 + i)) = _
    rw [p_outer c N h0 i, arrV_store]
    refine congrArg (arrV c N) (funext fun j => ?_)
    by_cases e : j = i
    · subst e
      simp [updV, va_rf]
    · by_cases h : j < i
      · simp [updV, e, h, Nat.lt_succ_of_lt h]
      · simp [updV, e, h, show ¬ j < i + 1 by omega]
theorem p_arrV_congr {c : ClassId} {N : Nat} {f g : Nat → Value} (h : ∀ j, j < N → f j = g j) : arrV c N f = arrV c N g := by
  unfold arrV
  congr 2
  funext j
  exact h j.val j.isLt
theorem p_P.new2 {K : p_K} {σ : p_Hp} {H H1 : Heap} {n k : Nat} (hP : p_P K σ H) (hn : n ≤ 1000) (hk : k ≤ 1000) (z : H1.size = H.size + 1 + n) (oq : ∀ x : Nat, x < H.size → H1[x]? = H[x]?)
    (hO : H1[H.size]? = some (arrV (K.2.2.2.1 3) n (fun j => va_rf (if j < n then some (H.size + 1 + j) else none)))) (hI : ∀ j, j < n → H1[H.size + 1 + j]? = some (arrV (K.2.2.2.1 0) k (fun _ => .int 0))) : p_P K (p_nw2 σ n k) H1 := by
  have hsz := hP.1
  have eT : ∀ b, p_T (p_nw2 σ n k) b = if b ≤ p_N σ then p_T σ b else if b = p_N σ + 1 then 103 else 100 := fun _ => rfl
  have eL : ∀ b, p_L (p_nw2 σ n k) b = if b ≤ p_N σ then p_L σ b else if b = p_N σ + 1 then n else k := fun _ => rfl
  have eZ : ∀ b j, p_Z (p_nw2 σ n k) b j = if b ≤ p_N σ then p_Z σ b j else 0 := fun _ _ => rfl
  have eR : ∀ b j, p_R (p_nw2 σ n k) b j = if b ≤ p_N σ then p_R σ b j else if b = p_N σ + 1 ∧ j < n then p_N σ + 2 + j else 0 := fun _ _ => rfl
  have eN : p_N (p_nw2 σ n k) = p_N σ + 1 + n := rfl
  refine ⟨by rw [z, eN]; omega, fun b cj r hb hr => ?_, fun b i ty hb hty => ?_⟩
  · have hcj := p_cl_lt hr
    have hbn : b ≤ p_N σ := by
      rcases Nat.lt_or_ge (p_N σ) b with w | w
      · have h3 := hb.2.2
        rw [eT, if_neg (by omega)] at h3
        split at h3 <;> omega
      · exact w
    have hb' : p_is σ b cj := ⟨hb.1, hbn, by have h3 := hb.2.2; rw [eT, if_pos hbn] at h3; exact h3⟩
    obtain ⟨g1, g2⟩ := hP.2.1 b cj r hb' hr
    have h9 : ∀ j, p_Z (p_nw2 σ n k) b j = p_Z σ b j ∧ p_R (p_nw2 σ n k) b j = p_R σ b j := fun j => ⟨by rw [eZ, if_pos hbn], by rw [eR, if_pos hbn]⟩
    refine ⟨(g1.kept (oq _ (by omega))).to (fun j hj => (p_sl_eq (h9 j).1 (h9 j).2 _).symm), fun j hj => ?_⟩
    rw [(h9 j).1]
    exact g2 j hj
  · by_cases hbn : b ≤ p_N σ
    · have hb' : p_is σ b (100 + i) := ⟨hb.1, hbn, by have h3 := hb.2.2; rw [eT, if_pos hbn] at h3; exact h3⟩
      obtain ⟨g1, g2, g3⟩ := hP.2.2 b i ty hb' hty
      have h9 : ∀ j, p_Z (p_nw2 σ n k) b j = p_Z σ b j ∧ p_R (p_nw2 σ n k) b j = p_R σ b j := fun j => ⟨by rw [eZ, if_pos hbn], by rw [eR, if_pos hbn]⟩
      rw [eL, if_pos hbn]
      refine ⟨?_, fun j hj => ?_, g3⟩
      · rw [oq _ (by omega), g1]
        congr 2
        funext j
        exact (p_sl_eq (h9 j).1 (h9 j).2 _).symm
      · rw [(h9 j).1]
        exact g2 j hj
    · have h2 := hb.2.1
      rw [eN] at h2
      have h3 := hb.2.2
      rw [eT, if_neg hbn] at h3
      rw [eL, if_neg hbn]
      by_cases hb1 : b = p_N σ + 1
      · rw [if_pos hb1] at h3 ⊢
        have e : i = 3 := by omega
        subst e
        cases hty
        refine ⟨?_, fun j hj => trivial, by omega⟩
        rw [show K.1 + b = H.size from by omega, hO]
        refine congrArg some (p_arrV_congr fun j hj => ?_)
        show va_rf _ = va_rf (p_rO K.1 (p_R (p_nw2 σ n k) b j))
        rw [eR, if_neg hbn, if_pos hj, if_pos ⟨hb1, hj⟩]
        unfold p_rO
        rw [if_neg (by omega), show H.size + 1 + j = K.1 + (p_N σ + 2 + j) from by omega]
      · rw [if_neg hb1] at h3 ⊢
        have e : i = 0 := by omega
        subst e
        cases hty
        refine ⟨?_, fun j hj => ?_, by omega⟩
        · obtain ⟨j0, hj0⟩ : ∃ j0, b = p_N σ + 2 + j0 := ⟨b - (p_N σ + 2), by omega⟩
          rw [show K.1 + b = H.size + 1 + j0 from by omega, hI j0 (by omega)]
          refine congrArg some (p_arrV_congr fun j hj => ?_)
          show Value.int 0 = Value.int (Int32.ofInt (p_Z (p_nw2 σ n k) b j))
          rw [eZ, if_neg hbn]
          rfl
        · show p_c (p_Z (p_nw2 σ n k) b j)
          rw [eZ, if_neg hbn]
          decide
theorem p_x_nw2 (σ : p_Hp) (n k : Nat) : p_x σ (p_nw2 σ n k) := ⟨by show σ.1 ≤ σ.1 + 1 + n; omega, by show σ.2.1 ≤ σ.2.1 + n + n * k; exact Nat.le_trans (Nat.le_add_right _ _) (Nat.le_add_right _ _), fun a ha => ⟨if_pos ha, if_pos ha⟩⟩
section MU
variable {K : p_K} {l : Launch} {M : p_Me} {pc : Nat} {lv : List (Nat × p_AV)} {st : List p_AV} {σ : p_Hp} {o : Option p_AV × p_Hp}
theorem g_multi {idx : Nat} {x y : Int} (hw : Cond.classLink M.1.cls idx ("[" ++ (FieldType.array .int).toString) ∈ sw_gw) (hw2 : Cond.arrayClass .int ∈ sw_gw) (hd : decode M.2.1 pc = .ok (.multianewarray idx 2, 4)) (hx0 : 0 ≤ x) (hx1 : x ≤ 1000) (hy0 : 0 ≤ y) (hy1 : y ≤ 1000) (k9 : p_Go K l M (pc + 4) lv (p_r (p_N σ + 1) :: st) (p_nw2 σ x.toNat y.toNat) o) : p_Go K l M pc lv (p_i y :: p_i x :: st) σ o := by
  have e1 : p_N (p_nw2 σ x.toNat y.toNat) = p_N σ + 1 + x.toNat := rfl
  have e2 : p_M (p_nw2 σ x.toNat y.toNat) = p_M σ + x.toNat + x.toNat * y.toNat := rfl
  have kn : p_N σ + 1 + x.toNat ≤ p_N o.2 ∧ p_M σ + x.toNat + x.toNat * y.toNat ≤ p_M o.2 := ⟨k9.1.1, k9.1.2.1⟩
  generalize hxy : x.toNat * y.toNat = xy at kn e2
  refine ⟨(p_x_nw2 _ _ _).trans k9.1, fun p e s m args below meth c H locs n0 m0 mc ms Q ls C R S h1 h2 h3 h4 hl ol os RT => ?_⟩
  have hts := p_hts C.2.2.2.2.2.1
  have E := C.2.2.2.2.2.2.2.2
  have ex := p_nat (n := 1001) hx0 (by omega) (by omega)
  have ey := p_nat (n := 1001) hy0 (by omega) (by omega)
  have cx : p_c x := ⟨by omega, by omega⟩
  have cy : p_c y := ⟨by omega, by omega⟩
  intro T hT Xs
  obtain ⟨vm₁, cA, comp, -, fA, fC, hO, -, X', step⟩ := Xs.multianewarray2F (ty := .int) C.1 C.2.2.2.2.1 (hts _ hw) (over_moved (Vm.Alike.refl _) E.2.2.2.2.2.1) (hts _ hw2) (g := F0 m pc ls (.int (Int32.ofInt y) :: .int (Int32.ofInt x) :: st.map (p_V K))) rfl (by rw [C.2.1]; exact hd) rfl (by rw [p_lt0 cx]; omega) (by rw [p_lt0 cy]; omega) (by rw [ex]; omega) (by rw [ey]; show y.toNat * 4 ≤ _; omega) (by rw [ey]; omega) rfl rfl (by rw [ex]; show p_N σ - n0 + (1 + x.toNat) ≤ mc; omega) (by rw [ex, ey, hxy]; show p_M σ - m0 + (x.toNat + xy) ≤ ms; omega)
  rw [ex, ey] at X' step
  have hcA : cA = K.2.2.2.1 3 := Option.some.inj (fA.symm.trans ((E.2.1 3 _ rfl).2 : s.vm.findClass ("[" ++ (FieldType.array .int).toString) = some (K.2.2.2.1 3)))
  have hcC : comp = K.2.2.2.1 0 := Option.some.inj (fC.symm.trans ((E.2.1 0 _ rfl).2 : s.vm.findClass ("[" ++ FieldType.int.toString) = some (K.2.2.2.1 0)))
  subst hcA
  subst hcC
  generalize hF : Jvm.Free.Multi.fill (T.setVm vm₁) (K.2.2.2.1 3) (K.2.2.2.1 0) x.toNat y.toNat (defaultValue .int) x.toNat = F at X' step
  have hTh : (T.setVm vm₁).heap = H := hT
  obtain ⟨f1, f2, -, -⟩ := Jvm.Free.Multi.fill_facts (T.setVm vm₁) (K.2.2.2.1 3) (K.2.2.2.1 0) x.toNat y.toNat (defaultValue .int) x.toNat
  rw [hF, hTh] at f1 f2
  have hold : ∀ z : Nat, z < H.size → F.heap[z]? = H[z]? := fun z hz => by
    have := Jvm.Free.Multi.fill_old (T.setVm vm₁) (K.2.2.2.1 3) (K.2.2.2.1 0) x.toNat y.toNat (defaultValue .int) (a := z) (by rw [hTh]; exact hz) x.toNat
    rw [hF, hTh] at this
    exact this
  have hrow : ∀ j : Nat, j < x.toNat → F.heap[H.size + 1 + j]? = some (arrV (K.2.2.2.1 0) y.toNat (fun _ => .int 0)) := fun j hj => by
    have := Jvm.Free.Multi.fill_inner (T.setVm vm₁) (K.2.2.2.1 3) (K.2.2.2.1 0) x.toNat y.toNat (defaultValue .int) x.toNat j hj
    rw [hF, hTh] at this
    rw [this]
    exact congrArg some (arrV_new _ _ _)
  rw [p_outer] at f2
  have hP1 : p_P K (p_nw2 σ x.toNat y.toNat) F.heap := R.new2 (by omega) (by omega) f1 hold f2 hrow
  have kk := k9.2 p e s m args below meth c F.heap locs n0 m0 mc ms Q ls C hP1 (p_S.new S (by omega) hold) (by rw [e1]; omega) (by rw [e2]; omega) h3 h4 hl ol (p_ok2 (v := p_r _) trivial (p_okt (p_okt os))) RT
  rw [List.map_cons, p_V_r (by omega), e1, e2] at kk
  obtain ⟨t, a1, b1⟩ := (W.cs (by omega) (by rw [hxy]; omega) kk : W p l e (p_rm M mc ms) s m args below meth c F.heap locs (p_N σ - n0 + 1 + x.toNat) (p_M σ - m0 + x.toNat + x.toNat * y.toNat) Q _) F rfl X'
  refine ⟨t, step t ?_, b1⟩
  have hz := R.1
  rw [show T.heap.size = K.1 + (p_N σ + 1) from by rw [hT]; omega]
  exact a1
end MU
