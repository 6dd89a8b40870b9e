/-! ===== how the heap moves ===== -/
theorem p_sl_eq {K : p_K} {σ σ' : p_Hp} {b j : Nat} (hz : p_Z σ' b j = p_Z σ b j) (hr : p_R σ' b j = p_R σ b j) (ty : FieldType) : p_sl K σ' b ty j = p_sl K σ b ty j := by
  cases ty <;> simp only [p_sl, hz, hr]
theorem p_cl_lt {ci : Nat} {q : vw_C} (h : sw_cl[ci]? = some q) : ci < 100 := Nat.lt_of_lt_of_le (List.getElem?_eq_some_iff.mp h).1 (by decide)
theorem p_P.putO {K : p_K} {σ σ' : p_Hp} {H H1 : Heap} {a ci k : Nat} {q : vw_C} {cell : Cell} (hP : p_P K σ H) (hi : p_is σ a ci) (hc : sw_cl[ci]? = some q) (hap : ∀ x y, x < q.2.2 → y < q.2.2 → x ≠ y → K.2.2.1 ci x ≠ K.2.2.1 ci y) (hk : k < q.2.2)
    (hn : p_N σ' = p_N σ) (ht : p_T σ' = p_T σ) (hl : p_L σ' = p_L σ) (ho : ∀ b j, ¬ (b = a ∧ j = k) → p_Z σ' b j = p_Z σ b j ∧ p_R σ' b j = p_R σ b j) (hok : p_okT (sw_ty ci k) (p_Z σ' a k))
    (q2 : cell.cls = K.2.1 ci) (q3 : cell.vm = .none) (q4 : ∀ j, j < q.2.2 → cell.slots[K.2.2.1 ci j]? = some (p_sl K σ a (sw_ty ci j) j))
    (e1 : H1[K.1 + a]? = some (cell.setSlot (K.2.2.1 ci k) (p_sl K σ' a (sw_ty ci k) k))) (z : H1.size = H.size) (oq : ∀ x : Nat, x ≠ K.1 + a → H1[x]? = H[x]?) : p_P K σ' H1 := by
  have up : ∀ b t, p_is σ' b t → p_is σ b t := fun b t h => by unfold p_is at h ⊢; rw [hn, ht] at h; exact h
  refine ⟨by rw [z, hn]; exact hP.1, fun b cj r hb hr => ?_, fun b i ty hb hty => ?_⟩
  · have hb := up b cj hb
    by_cases hba : b = a
    · subst hba
      have e : cj = ci := hb.2.2.symm.trans hi.2.2
      subst e
      cases hc.symm.trans hr
      refine ⟨⟨_, e1, q2, q3, fun j hj => ?_⟩, fun j hj => ?_⟩
      · have h := t_set q4 hap hk (p_sl K σ' b (sw_ty cj k) k) j hj
        rw [h]
        by_cases hjk : j = k
        · subst hjk
          simp [updV]
        · simp only [updV, if_neg hjk]
          rw [p_sl_eq (ho b j (fun w => hjk w.2)).1 (ho b j (fun w => hjk w.2)).2]
      · by_cases hjk : j = k
        · subst hjk
          exact hok
        · rw [(ho b j (fun w => hjk w.2)).1]
          exact (hP.2.1 b cj q hb hc).2 j hj
    · obtain ⟨g1, g2⟩ := hP.2.1 b cj r hb hr
      refine ⟨(g1.kept (oq _ (by omega))).to (fun j hj => (p_sl_eq (ho b j (fun w => hba w.1)).1 (ho b j (fun w => hba w.1)).2 _).symm), fun j hj => ?_⟩
      rw [(ho b j (fun w => hba w.1)).1]
      exact g2 j hj
  · have hb := up b _ hb
    have hba : b ≠ a := fun w => by
      subst w
      have e : 100 + i = ci := hb.2.2.symm.trans hi.2.2
      have := p_cl_lt hc
      omega
    obtain ⟨g1, g2, g3⟩ := hP.2.2 b i ty hb hty
    rw [hl]
    refine ⟨?_, fun j hj => ?_, g3⟩
    · rw [oq _ (by omega), g1]
      congr 2
      funext j
      exact (p_sl_eq (ho b j (fun w => hba w.1)).1 (ho b j (fun w => hba w.1)).2 _).symm
    · rw [(ho b j (fun w => hba w.1)).1]
      exact g2 j hj
theorem p_P.putA {K : p_K} {σ σ' : p_Hp} {H H1 : Heap} {a i k : Nat} {ty : FieldType} (hP : p_P K σ H) (hi : p_is σ a (100 + i)) (hc : sw_at[i]? = some ty)
    (hn : p_N σ' = p_N σ) (ht : p_T σ' = p_T σ) (hl : p_L σ' = p_L σ) (ho : ∀ b j, ¬ (b = a ∧ j = k) → p_Z σ' b j = p_Z σ b j ∧ p_R σ' b j = p_R σ b j) (hok : p_okT ty (p_Z σ' a k))
    (e1 : H1[K.1 + a]? = some ((arrV (K.2.2.2.1 i) (p_L σ a) (fun j => p_sl K σ a ty j)).setSlot k (p_sl K σ' a ty k))) (z : H1.size = H.size) (oq : ∀ x : Nat, x ≠ K.1 + a → H1[x]? = H[x]?) : p_P K σ' H1 := by
  have up : ∀ b t, p_is σ' b t → p_is σ b t := fun b t h => by unfold p_is at h ⊢; rw [hn, ht] at h; exact h
  refine ⟨by rw [z, hn]; exact hP.1, fun b cj r hb hr => ?_, fun b i' ty' hb hty => ?_⟩
  · have hb := up b cj hb
    have hba : b ≠ a := fun w => by
      subst w
      have e : 100 + i = cj := hi.2.2.symm.trans hb.2.2
      have := p_cl_lt hr
      omega
    obtain ⟨g1, g2⟩ := hP.2.1 b cj r hb hr
    refine ⟨(g1.kept (oq _ (by omega))).to (fun j hj => (p_sl_eq (ho b j (fun w => hba w.1)).1 (ho b j (fun w => hba w.1)).2 _).symm), fun j hj => ?_⟩
    rw [(ho b j (fun w => hba w.1)).1]
    exact g2 j hj
  · have hb := up b _ hb
    obtain ⟨g1, g2, g3⟩ := hP.2.2 b i' ty' hb hty
    rw [hl]
    by_cases hba : b = a
    · subst hba
      have e : i' = i := by have := hb.2.2.symm.trans hi.2.2; omega
      subst e
      cases hc.symm.trans hty
      refine ⟨?_, fun j hj => ?_, g3⟩
      · rw [e1, arrV_store]
        congr 2
        funext j
        by_cases hjk : j = k
        · subst hjk
          simp [updV]
        · simp only [updV, if_neg hjk]
          exact (p_sl_eq (ho b j (fun w => hjk w.2)).1 (ho b j (fun w => hjk w.2)).2 _).symm
      · by_cases hjk : j = k
        · subst hjk
          exact hok
        · rw [(ho b j (fun w => hjk w.2)).1]
          exact g2 j hj
    · refine ⟨?_, fun j hj => ?_, g3⟩
      · rw [oq _ (by omega), g1]
        congr 2
        funext j
        exact (p_sl_eq (ho b j (fun w => hba w.1)).1 (ho b j (fun w => hba w.1)).2 _).symm
      · rw [(ho b j (fun w => hba w.1)).1]
        exact g2 j hj
theorem p_wZ_o {σ : p_Hp} {a k : Nat} {x : Int} : ∀ b j, ¬ (b = a ∧ j = k) → p_Z (p_wZ σ a k x) b j = p_Z σ b j ∧ p_R (p_wZ σ a k x) b j = p_R σ b j := fun b j h => ⟨if_neg h, rfl⟩
theorem p_wR_o {σ : p_Hp} {a k : Nat} {x : Nat} : ∀ b j, ¬ (b = a ∧ j = k) → p_Z (p_wR σ a k x) b j = p_Z σ b j ∧ p_R (p_wR σ a k x) b j = p_R σ b j := fun b j h => ⟨rfl, if_neg h⟩
theorem p_wZ_s (σ : p_Hp) (a k : Nat) (x : Int) : p_Z (p_wZ σ a k x) a k = x := if_pos ⟨rfl, rfl⟩
theorem p_wR_s (σ : p_Hp) (a k : Nat) (x : Nat) : p_R (p_wR σ a k x) a k = x := if_pos ⟨rfl, rfl⟩
theorem p_S.put {K : p_K} {H0 H H1 : Heap} {locs : List Loc} {a k : Nat} (h : va_S (p_A K) H0 H locs) (z : H1.size = H.size) (oq : ∀ q : Nat, q ≠ K.1 + a → H1[q]? = H[q]?) (ha : 1 ≤ a) : va_S (p_A K) H0 H1 (locs ++ [⟨K.1 + a, k⟩]) := va_S.put h z oq (show K.1 < K.1 + a by omega)
/-! ===== what the tables say of a class, of a field's entry ===== -/
def p_nf (ty : FieldType) : Bool := match ty with
  | .float => false
  | .double => false
  | _ => true
def p_Cl (ci : Nat) (q : vw_C) : Prop := sw_cl[ci]? = some q ∧ (∀ w ∈ u_ws q.1 q.2.1 q.2.2, w ∈ sw_gw) ∧ (∀ k, k < q.2.2 → parseFieldDescriptor (q.2.1 k).2.2.1 = some (sw_ty ci k)) ∧ (∀ a, a < q.2.2 → ∀ b, b < q.2.2 → a ≠ b → (q.2.1 a).2.1 ≠ (q.2.1 b).2.1) ∧ Cond.instantiable q.1 q.2.2 ∈ sw_gw ∧ Cond.initialized q.1 ∈ sw_gw ∧ (∀ k, k < q.2.2 → p_nf (sw_ty ci k) = true)
def p_Fl (own : String) (idx ci k : Nat) (ty : FieldType) (fin : Bool) : Prop := ∃ q : vw_C, p_Cl ci q ∧ k < q.2.2 ∧ Cond.fieldLink own idx (q.2.1 k).1 (q.2.1 k).2.1 (q.2.1 k).2.2.1 ∈ sw_gw ∧ sw_ty ci k = ty ∧ (q.2.1 k).2.2.2 = fin ∧ (q.2.1 k).1 = q.1
theorem p_hts {args : Array Value} {s : State} (h : ∀ w ∈ sw_gw, w.before args s = true) : ∀ w ∈ sw_gw, w.before args s = true := h
section HR
variable {K : p_K} {l : Launch} {M : p_Me} {pc : Nat} {lv : List (Nat × p_AV)} {st : List p_AV} {σ : p_Hp} {o : Option p_AV × p_Hp}
theorem p_get {a ci k idx : Nat} {ty : FieldType} {fin : Bool} {v : p_AV} (hf : p_Fl M.1.cls idx ci k ty fin) (hd : decode M.2.1 pc = .ok (.getfield idx, 3)) (hi : p_is σ a ci) (hv : p_V K v = p_sl K σ a ty k) (hok : p_okT ty (p_Z σ a k) → p_ok v) (k9 : p_Go K l M (pc + 3) lv (v :: st) σ o) : p_Go K l M pc lv (p_r a :: st) σ o := by
  refine ⟨k9.1, fun p e s m args below meth c H locs n0 m0 mc ms Q ls C R S h1 h2 h3 h4 hl ol os RT => ?_⟩
  obtain ⟨q, ⟨c1, c2, c3, c4, -, -⟩, f1, f2, f3, -, -⟩ := hf
  obtain ⟨⟨cell, q1, q2, q3, q4⟩, q5⟩ := R.2.1 a ci q hi c1
  obtain ⟨hS, hfc, kC, hkC, hkind⟩ := C.2.2.2.2.2.2.2.2.1 ci q c1
  obtain ⟨cf, kf, fi, f, hfi, hsl⟩ := hS k f1
  have hts := p_hts C.2.2.2.2.2.1
  show W p l e (p_rm M mc ms) s m args below meth c H locs _ _ Q (F0 m pc ls (p_V K (p_r a) :: st.map (p_V K)))
  rw [p_V_r hi.1]
  refine W.getf C.1 C.2.1 C.2.2.2.2.1 (hts _ f2) hfi (u_facts hfc hkC (u_lays hts c2 f1) hfi).1 q1 (by rw [q3]; exact fun h => by cases h) (v := p_V K v) ?_ rfl rfl hd (k9.2 p e s m args below meth c H locs n0 m0 mc ms Q ls C R S h1 h2 h3 h4 hl ol (p_ok2 (hok (f3 ▸ q5 k f1)) (p_okt os)) RT)
  rw [hsl, q4 k f1, hv, ← f3]
theorem g_getI {a ci k idx : Nat} {ty : FieldType} {fin : Bool} (hf : p_Fl M.1.cls idx ci k ty fin) (ht : ty = .int ∨ ty = .boolean) (hd : decode M.2.1 pc = .ok (.getfield idx, 3)) (hi : p_is σ a ci) (k9 : p_Go K l M (pc + 3) lv (p_i (p_Z σ a k) :: st) σ o) : p_Go K l M pc lv (p_r a :: st) σ o := by
  refine p_get hf hd hi (v := p_i (p_Z σ a k)) ?_ (fun h => ?_) k9
  · rcases ht with rfl | rfl <;> rfl
  · rcases ht with rfl | rfl
    · exact h
    · show p_c (p_Z σ a k)
      rcases (h : p_Z σ a k = 0 ∨ p_Z σ a k = 1) with w | w <;> rw [w] <;> decide
theorem g_getJ {a ci k idx : Nat} {fin : Bool} (hf : p_Fl M.1.cls idx ci k .long fin) (hd : decode M.2.1 pc = .ok (.getfield idx, 3)) (hi : p_is σ a ci) (k9 : p_Go K l M (pc + 3) lv (p_j (p_Z σ a k) :: st) σ o) : p_Go K l M pc lv (p_r a :: st) σ o :=
  p_get hf hd hi (v := p_j (p_Z σ a k)) rfl (fun h => h) k9
theorem g_getR {a ci k idx : Nat} {ty : FieldType} {fin : Bool} (hf : p_Fl M.1.cls idx ci k ty fin) (ht : (∃ C, ty = .object C) ∨ ∃ t, ty = .array t) (hd : decode M.2.1 pc = .ok (.getfield idx, 3)) (hi : p_is σ a ci) (k9 : p_Go K l M (pc + 3) lv (p_r (p_R σ a k) :: st) σ o) : p_Go K l M pc lv (p_r a :: st) σ o := by
  refine p_get hf hd hi (v := p_r (p_R σ a k)) ?_ (fun h => trivial) k9
  rcases ht with ⟨C, rfl⟩ | ⟨t, rfl⟩ <;> rfl
theorem p_put {a ci k idx : Nat} {ty : FieldType} {fin : Bool} {v : p_AV} {σ' : p_Hp} (hf : p_Fl M.1.cls idx ci k ty fin) (hfi : fin = false ∨ (M.1.name = "<init>" ∧ sw_cl[ci]?.map (·.1) = some M.1.cls)) (hd : decode M.2.1 pc = .ok (.putfield idx, 3)) (hi : p_is σ a ci) (hn : p_N σ' = p_N σ) (hm : p_M σ' = p_M σ) (ht : p_T σ' = p_T σ) (hL : p_L σ' = p_L σ) (ho : ∀ b j, ¬ (b = a ∧ j = k) → p_Z σ' b j = p_Z σ b j ∧ p_R σ' b j = p_R σ b j) (hok : p_ok v → p_okT ty (p_Z σ' a k))
    (hv : p_V K v = p_sl K σ' a ty k) (hnr : p_ok v → narrow ty (p_V K v) = p_V K v) (hft : fits ty (p_V K v) = true) (k9 : p_Go K l M (pc + 3) lv st σ' o) : p_Go K l M pc lv (v :: p_r a :: st) σ o := by
  refine ⟨p_x.of hn hm ht hL k9.1, fun p e s m args below meth c H locs n0 m0 mc ms Q ls C R S h1 h2 h3 h4 hl ol os RT => ?_⟩
  obtain ⟨q, ⟨c1, c2, c3, c4, -, -⟩, f1, f2, f3, f4, f5⟩ := hf
  obtain ⟨⟨cell, q1, q2, q3, q4⟩, q5⟩ := R.2.1 a ci q hi c1
  obtain ⟨hS, hfc, kC, hkC, hkind⟩ := C.2.2.2.2.2.2.2.2.1 ci q c1
  obtain ⟨cf, kf, fi, f, hfd, hsl⟩ := hS k f1
  have hts := p_hts C.2.2.2.2.2.1
  have hlays := u_lays hts c2 f1
  have hst := (u_facts hfc hkC hlays hfd).1
  have hty : parseFieldDescriptor (q.2.1 k).2.2.1 = some ty := by rw [c3 k f1, f3]
  have hap : ∀ x y, x < q.2.2 → y < q.2.2 → x ≠ y → K.2.2.1 ci x ≠ K.2.2.1 ci y := by
    intro x y hx hy hne
    obtain ⟨_, _, _, fa, hia, ea⟩ := hS x hx
    obtain ⟨_, _, _, fb, hib, eb⟩ := hS y hy
    rw [← ea, ← eb]
    refine u_apart (u_lays hts c2 hx) (u_lays hts c2 hy) hia hib ?_
    rw [(State.fieldFound?_type hia (c3 x hx)).1, (State.fieldFound?_type hib (c3 y hy)).1]
    exact c4 x hx y hy hne
  have hov : p_ok v := p_okh os
  have kk : ∀ H1 : Heap, H1[K.1 + a]? = some (cell.setSlot f.slot (p_V K v)) → H1.size = H.size → (∀ x, x ≠ K.1 + a → H1[x]? = H[x]?) → W p l e (p_rm M mc ms) s m args below meth c H1 (locs ++ [⟨K.1 + a, f.slot⟩]) (p_N σ - n0) (p_M σ - m0) Q (F0 m (pc + 3) ls (st.map (p_V K))) := by
    intro H1 e1 z oq
    rw [hsl, hv, ← f3] at e1
    rw [← hn, ← hm]
    exact (k9.2 p e s m args below meth c H1 _ n0 m0 mc ms Q ls C (R.putO hi c1 hap f1 hn ht hL ho (by rw [f3]; exact hok hov) q2 q3 q4 e1 z oq) (p_S.put S z oq hi.1) (by rw [hn]; exact h1) (by rw [hm]; exact h2) h3 h4 hl ol (p_okt (p_okt os)) RT)
  show W p l e (p_rm M mc ms) s m args below meth c H locs _ _ Q (F0 m pc ls (p_V K v :: p_V K (p_r a) :: st.map (p_V K)))
  rw [p_V_r hi.1]
  have hfin := hts _ (c2 _ (u_in_lay f1))
  unfold u_lay at hfin
  rcases hfi with rfl | ⟨hnm, hcn⟩
  · rw [if_neg (by rw [f4]; decide)] at hfin
    have h6 := u_store hfc hkC hkind hfin hfd hty (hnr hov) hft
    exact W.putK C.1 C.2.1 (f := f) ⟨C.2.2.2.2.1, hts _ f2, ⟨_, _, _, hfd⟩, hst⟩ (by rw [q2]; exact h6) q1 q3 (by rw [hsl]; exact k2_hasslot (q4 k f1)) rfl rfl hd kk
  · by_cases hff : fin = true
    · rw [if_pos (by rw [f4]; exact hff)] at hfin
      have hcf : m.cls = cf := by
        obtain ⟨_, _, c', _, _, _, -, -, hf', -, -, -, hown2, -⟩ := Cond.laysFinal_spec hfin
        have e1 : c' = cf := by have := hfd.symm.trans hf'; simp at this; exact this.1.symm
        rw [f5] at hown2
        rw [c1] at hcn
        have e3 : q.1 = M.1.cls := Option.some.inj hcn
        rw [e3] at hown2
        rw [← e1]; exact Option.some.inj (C.2.2.2.2.1.symm.trans hown2)
      have h6 := u_fits hfc hkC hkind (Or.inr hfin) hfd hty (hnr hov) hft
      exact W.putFinK C.1 C.2.1 C.2.2.2.2.1 (hts _ f2) hfd hst hcf (C.2.2.2.2.2.2.2.1 hnm) (by rw [q2]; exact h6) q1 q3 (by rw [hsl]; exact k2_hasslot (q4 k f1)) rfl rfl hd kk
    · rw [if_neg (by rw [f4]; exact hff)] at hfin
      have h6 := u_store hfc hkC hkind hfin hfd hty (hnr hov) hft
      exact W.putK C.1 C.2.1 (f := f) ⟨C.2.2.2.2.1, hts _ f2, ⟨_, _, _, hfd⟩, hst⟩ (by rw [q2]; exact h6) q1 q3 (by rw [hsl]; exact k2_hasslot (q4 k f1)) rfl rfl hd kk

theorem g_putI {a ci k idx : Nat} {fin : Bool} {x : Int} (hf : p_Fl M.1.cls idx ci k .int fin) (hfi : fin = false ∨ (M.1.name = "<init>" ∧ sw_cl[ci]?.map (·.1) = some M.1.cls)) (hd : decode M.2.1 pc = .ok (.putfield idx, 3)) (hi : p_is σ a ci) (k9 : p_Go K l M (pc + 3) lv st (p_wZ σ a k x) o) : p_Go K l M pc lv (p_i x :: p_r a :: st) σ o :=
  p_put (σ' := p_wZ σ a k x) hf hfi hd hi rfl rfl rfl rfl p_wZ_o (fun h => by rw [p_wZ_s]; exact h) (by show p_V K (p_i x) = Value.int (Int32.ofInt (p_Z (p_wZ σ a k x) a k)); rw [p_wZ_s]; rfl) (fun _ => rfl) rfl k9
theorem g_putB {a ci k idx : Nat} {fin : Bool} {x : Int} (hf : p_Fl M.1.cls idx ci k .boolean fin) (hfi : fin = false ∨ (M.1.name = "<init>" ∧ sw_cl[ci]?.map (·.1) = some M.1.cls)) (hd : decode M.2.1 pc = .ok (.putfield idx, 3)) (hi : p_is σ a ci) (hx : x = 0 ∨ x = 1) (k9 : p_Go K l M (pc + 3) lv st (p_wZ σ a k x) o) : p_Go K l M pc lv (p_i x :: p_r a :: st) σ o :=
  p_put (σ' := p_wZ σ a k x) hf hfi hd hi rfl rfl rfl rfl p_wZ_o (fun h => by rw [p_wZ_s]; exact hx) (by show p_V K (p_i x) = Value.int (Int32.ofInt (p_Z (p_wZ σ a k x) a k)); rw [p_wZ_s]; rfl) (fun _ => by rcases hx with rfl | rfl <;> rfl) (by rcases hx with rfl | rfl <;> rfl) k9
theorem g_putJ {a ci k idx : Nat} {fin : Bool} {x : Int} (hf : p_Fl M.1.cls idx ci k .long fin) (hfi : fin = false ∨ (M.1.name = "<init>" ∧ sw_cl[ci]?.map (·.1) = some M.1.cls)) (hd : decode M.2.1 pc = .ok (.putfield idx, 3)) (hi : p_is σ a ci) (k9 : p_Go K l M (pc + 3) lv st (p_wZ σ a k x) o) : p_Go K l M pc lv (p_j x :: p_r a :: st) σ o :=
  p_put (σ' := p_wZ σ a k x) hf hfi hd hi rfl rfl rfl rfl p_wZ_o (fun h => by rw [p_wZ_s]; exact h) (by show p_V K (p_j x) = Value.long (Int64.ofInt (p_Z (p_wZ σ a k x) a k)); rw [p_wZ_s]; rfl) (fun _ => rfl) rfl k9
theorem p_rfF (r : Option Nat) (C : String) : fits (.object C) (va_rf r) = true := by cases r <;> rfl
theorem p_rfA (r : Option Nat) (t : FieldType) : fits (.array t) (va_rf r) = true := by cases r <;> rfl
theorem p_rfN (r : Option Nat) (C : String) : narrow (.object C) (va_rf r) = va_rf r := by cases r <;> rfl
theorem p_rfM (r : Option Nat) (t : FieldType) : narrow (.array t) (va_rf r) = va_rf r := by cases r <;> rfl
theorem g_putR {a ci k idx : Nat} {ty : FieldType} {fin : Bool} {x : Nat} (hf : p_Fl M.1.cls idx ci k ty fin) (ht : (∃ C, ty = .object C) ∨ ∃ t, ty = .array t) (hfi : fin = false ∨ (M.1.name = "<init>" ∧ sw_cl[ci]?.map (·.1) = some M.1.cls)) (hd : decode M.2.1 pc = .ok (.putfield idx, 3)) (hi : p_is σ a ci) (k9 : p_Go K l M (pc + 3) lv st (p_wR σ a k x) o) : p_Go K l M pc lv (p_r x :: p_r a :: st) σ o := by
  rcases ht with ⟨D, rfl⟩ | ⟨t, rfl⟩
  · exact p_put (σ' := p_wR σ a k x) hf hfi hd hi rfl rfl rfl rfl p_wR_o (fun _ => trivial) (by show p_V K (p_r x) = va_rf (p_rO K.1 (p_R (p_wR σ a k x) a k)); rw [p_wR_s]; rfl) (fun _ => p_rfN _ _) (p_rfF _ _) k9
  · exact p_put (σ' := p_wR σ a k x) hf hfi hd hi rfl rfl rfl rfl p_wR_o (fun _ => trivial) (by show p_V K (p_r x) = va_rf (p_rO K.1 (p_R (p_wR σ a k x) a k)); rw [p_wR_s]; rfl) (fun _ => p_rfM _ _) (p_rfA _ _) k9
/-! arrays -/
theorem p_ald {a i : Nat} {x : Int} {ty : FieldType} {v : p_AV} (hc : sw_at[i]? = some ty) (hi : p_is σ a (100 + i)) (h0 : 0 ≤ x) (hx : x < (p_L σ a : Int)) (hv : p_V K v = p_sl K σ a ty x.toNat) {H : Heap} (R : p_P K σ H) :
    H[K.1 + a]? = some (arrV (K.2.2.2.1 i) (p_L σ a) (fun j => p_sl K σ a ty j)) ∧ ¬ (Int32.ofInt x < 0 ∨ (arrV (K.2.2.2.1 i) (p_L σ a) (fun j => p_sl K σ a ty j)).slots.size ≤ (Int32.ofInt x).toNatClampNeg) ∧ (arrV (K.2.2.2.1 i) (p_L σ a) (fun j => p_sl K σ a ty j)).slots[(Int32.ofInt x).toNatClampNeg]? = some (p_V K v) ∧ p_okT ty (p_Z σ a x.toNat) ∧ (Int32.ofInt x).toNatClampNeg = x.toNat := by
  obtain ⟨g1, g2, g3⟩ := R.2.2 a i ty hi hc
  have hn := p_nat h0 hx (by omega)
  refine ⟨g1, ?_, ?_, g2 _ (by omega), hn⟩
  · rw [arrV_size]
    exact p_in h0 hx (by omega)
  · rw [hn, arrV_read _ _ (by omega), hv]
theorem g_iaload {a : Nat} {x : Int} (hd : decode M.2.1 pc = .ok (.iaload, 1)) (hi : p_is σ a 100) (h0 : 0 ≤ x) (hx : x < (p_L σ a : Int)) (k9 : p_Go K l M (pc + 1) lv (p_i (p_Z σ a x.toNat) :: st) σ o) : p_Go K l M pc lv (p_i x :: p_r a :: st) σ o := by
  refine ⟨k9.1, fun p e s m args below meth c H locs n0 m0 mc ms Q ls C R S h1 h2 h3 h4 hl ol os RT => ?_⟩
  obtain ⟨g1, g2, g3, g4, -⟩ := p_ald (i := 0) (ty := .int) (v := p_i (p_Z σ a x.toNat)) rfl hi h0 hx rfl R
  show W p l e (p_rm M mc ms) s m args below meth c H locs _ _ Q (F0 m pc ls (p_V K (p_i x) :: p_V K (p_r a) :: st.map (p_V K)))
  rw [p_V_r hi.1]
  exact W.iald C.1 C.2.1 g1 ((C.2.2.2.2.2.2.2.2.2.1 0 _ rfl).1 _ _) (fun q => by cases q) g2 g3 rfl rfl hd (k9.2 p e s m args below meth c H locs n0 m0 mc ms Q ls C R S h1 h2 h3 h4 hl ol (p_ok2 (v := p_i _) g4 (p_okt (p_okt os))) RT)
theorem g_laload {a : Nat} {x : Int} (hd : decode M.2.1 pc = .ok (.laload, 1)) (hi : p_is σ a 101) (h0 : 0 ≤ x) (hx : x < (p_L σ a : Int)) (k9 : p_Go K l M (pc + 1) lv (p_j (p_Z σ a x.toNat) :: st) σ o) : p_Go K l M pc lv (p_i x :: p_r a :: st) σ o := by
  refine ⟨k9.1, fun p e s m args below meth c H locs n0 m0 mc ms Q ls C R S h1 h2 h3 h4 hl ol os RT => ?_⟩
  obtain ⟨g1, g2, g3, g4, -⟩ := p_ald (i := 1) (ty := .long) (v := p_j (p_Z σ a x.toNat)) rfl hi h0 hx rfl R
  show W p l e (p_rm M mc ms) s m args below meth c H locs _ _ Q (F0 m pc ls (p_V K (p_i x) :: p_V K (p_r a) :: st.map (p_V K)))
  rw [p_V_r hi.1]
  exact W.lald C.1 C.2.1 g1 ((C.2.2.2.2.2.2.2.2.2.1 1 _ rfl).1 _ _) (fun q => by cases q) g2 g3 rfl rfl hd (k9.2 p e s m args below meth c H locs n0 m0 mc ms Q ls C R S h1 h2 h3 h4 hl ol (p_ok2 (v := p_j _) g4 (p_okt (p_okt os))) RT)
theorem g_baload {a : Nat} {x : Int} (hd : decode M.2.1 pc = .ok (.baload, 1)) (hi : p_is σ a 102) (h0 : 0 ≤ x) (hx : x < (p_L σ a : Int)) (k9 : p_Go K l M (pc + 1) lv (p_i (p_Z σ a x.toNat) :: st) σ o) : p_Go K l M pc lv (p_i x :: p_r a :: st) σ o := by
  refine ⟨k9.1, fun p e s m args below meth c H locs n0 m0 mc ms Q ls C R S h1 h2 h3 h4 hl ol os RT => ?_⟩
  obtain ⟨g1, g2, g3, g4, -⟩ := p_ald (i := 2) (ty := .boolean) (v := p_i (p_Z σ a x.toNat)) rfl hi h0 hx rfl R
  show W p l e (p_rm M mc ms) s m args below meth c H locs _ _ Q (F0 m pc ls (p_V K (p_i x) :: p_V K (p_r a) :: st.map (p_V K)))
  rw [p_V_r hi.1]
  exact W.zald C.1 C.2.1 g1 ((C.2.2.2.2.2.2.2.2.2.1 2 _ rfl).1 _ _) (fun q => by cases q) g2 g3 rfl rfl hd (k9.2 p e s m args below meth c H locs n0 m0 mc ms Q ls C R S h1 h2 h3 h4 hl ol (p_ok2 (v := p_i _) (by show p_c (p_Z σ a x.toNat); rcases (g4 : p_Z σ a x.toNat = 0 ∨ p_Z σ a x.toNat = 1) with w | w <;> rw [w] <;> decide) (p_okt (p_okt os))) RT)
theorem g_aaload {a i : Nat} {x : Int} {ty : FieldType} (hc : sw_at[i]? = some ty) (ht : (∃ C, ty = .object C) ∨ ∃ t, ty = .array t) (hd : decode M.2.1 pc = .ok (.aaload, 1)) (hi : p_is σ a (100 + i)) (h0 : 0 ≤ x) (hx : x < (p_L σ a : Int)) (k9 : p_Go K l M (pc + 1) lv (p_r (p_R σ a x.toNat) :: st) σ o) : p_Go K l M pc lv (p_i x :: p_r a :: st) σ o := by
  refine ⟨k9.1, fun p e s m args below meth c H locs n0 m0 mc ms Q ls C R S h1 h2 h3 h4 hl ol os RT => ?_⟩
  have hsl : p_V K (p_r (p_R σ a x.toNat)) = p_sl K σ a ty x.toNat := by rcases ht with ⟨D, rfl⟩ | ⟨t, rfl⟩ <;> rfl
  obtain ⟨g1, g2, g3, g4, -⟩ := p_ald (i := i) (ty := ty) (v := p_r (p_R σ a x.toNat)) hc hi h0 hx hsl R
  show W p l e (p_rm M mc ms) s m args below meth c H locs _ _ Q (F0 m pc ls (p_V K (p_i x) :: p_V K (p_r a) :: st.map (p_V K)))
  rw [p_V_r hi.1]
  exact W.aald (ty := ty) C.1 C.2.1 g1 ((C.2.2.2.2.2.2.2.2.2.1 i _ hc).1 _ _) (by rcases ht with ⟨D, rfl⟩ | ⟨t, rfl⟩ <;> rfl) (fun q => by cases q) g2 g3 rfl rfl hd (k9.2 p e s m args below meth c H locs n0 m0 mc ms Q ls C R S h1 h2 h3 h4 hl ol (p_ok2 (v := p_r _) trivial (p_okt (p_okt os))) RT)
theorem g_alen {a i : Nat} {ty : FieldType} (hc : sw_at[i]? = some ty) (hd : decode M.2.1 pc = .ok (.arraylength, 1)) (hi : p_is σ a (100 + i)) (k9 : p_Go K l M (pc + 1) lv (p_i (p_L σ a) :: st) σ o) : p_Go K l M pc lv (p_r a :: st) σ o := by
  refine ⟨k9.1, fun p e s m args below meth c H locs n0 m0 mc ms Q ls C R S h1 h2 h3 h4 hl ol os RT => ?_⟩
  obtain ⟨g1, g2, g3⟩ := R.2.2 a i ty hi hc
  show W p l e (p_rm M mc ms) s m args below meth c H locs _ _ Q (F0 m pc ls (p_V K (p_r a) :: st.map (p_V K)))
  rw [p_V_r hi.1]
  exact W.alen (n := Int32.ofInt (p_L σ a)) C.1 C.2.1 g1 ((C.2.2.2.2.2.2.2.2.2.1 i _ hc).1 _ _) (by rw [arrV_size]; rfl) rfl rfl hd (k9.2 p e s m args below meth c H locs n0 m0 mc ms Q ls C R S h1 h2 h3 h4 hl ol (p_ok2 (v := p_i _) (⟨by omega, by omega⟩ : p_c (p_L σ a : Int)) (p_okt os)) RT)
theorem g_iastore {a : Nat} {x y : Int} (hd : decode M.2.1 pc = .ok (.iastore, 1)) (hi : p_is σ a 100) (h0 : 0 ≤ x) (hx : x < (p_L σ a : Int)) (k9 : p_Go K l M (pc + 1) lv st (p_wZ σ a x.toNat y) o) : p_Go K l M pc lv (p_i y :: p_i x :: p_r a :: st) σ o := by
  refine ⟨k9.1, fun p e s m args below meth c H locs n0 m0 mc ms Q ls C R S h1 h2 h3 h4 hl ol os RT => ?_⟩
  obtain ⟨g1, g2, -, g4, g5⟩ := p_ald (i := 0) (ty := .int) (v := p_i (p_Z σ a x.toNat)) rfl hi h0 hx rfl R
  have hov : p_ok (p_i y) := p_okh os
  show W p l e (p_rm M mc ms) s m args below meth c H locs _ _ Q (F0 m pc ls (p_V K (p_i y) :: p_V K (p_i x) :: p_V K (p_r a) :: st.map (p_V K)))
  rw [p_V_r hi.1]
  refine W.iast C.1 C.2.1 g1 ((C.2.2.2.2.2.2.2.2.2.1 0 _ rfl).1 _ _) (fun q => by cases q) g2 rfl rfl hd (fun H1 e1 z oq => ?_)
  rw [g5] at e1 ⊢
  have hP1 : p_P K (p_wZ σ a x.toNat y) H1 := R.putA (i := 0) (ty := .int) hi rfl rfl rfl rfl p_wZ_o (by rw [p_wZ_s]; exact hov) (by rw [e1]; show some (Cell.setSlot _ _ _) = some (Cell.setSlot _ _ (Value.int (Int32.ofInt (p_Z (p_wZ σ a x.toNat y) a x.toNat)))); rw [p_wZ_s]) z oq
  exact k9.2 p e s m args below meth c H1 _ n0 m0 mc ms Q ls C hP1 (p_S.put S z oq hi.1) h1 h2 h3 h4 hl ol (p_okt (p_okt (p_okt os))) RT
theorem g_lastore {a : Nat} {x y : Int} (hd : decode M.2.1 pc = .ok (.lastore, 1)) (hi : p_is σ a 101) (h0 : 0 ≤ x) (hx : x < (p_L σ a : Int)) (k9 : p_Go K l M (pc + 1) lv st (p_wZ σ a x.toNat y) o) : p_Go K l M pc lv (p_j y :: p_i x :: p_r a :: st) σ o := by
  refine ⟨k9.1, fun p e s m args below meth c H locs n0 m0 mc ms Q ls C R S h1 h2 h3 h4 hl ol os RT => ?_⟩
  obtain ⟨g1, g2, -, g4, g5⟩ := p_ald (i := 1) (ty := .long) (v := p_j (p_Z σ a x.toNat)) rfl hi h0 hx rfl R
  have hov : p_ok (p_j y) := p_okh os
  show W p l e (p_rm M mc ms) s m args below meth c H locs _ _ Q (F0 m pc ls (p_V K (p_j y) :: p_V K (p_i x) :: p_V K (p_r a) :: st.map (p_V K)))
  rw [p_V_r hi.1]
  refine W.last C.1 C.2.1 g1 ((C.2.2.2.2.2.2.2.2.2.1 1 _ rfl).1 _ _) (fun q => by cases q) g2 rfl rfl hd (fun H1 e1 z oq => ?_)
  rw [g5] at e1 ⊢
  have hP1 : p_P K (p_wZ σ a x.toNat y) H1 := R.putA (i := 1) (ty := .long) hi rfl rfl rfl rfl p_wZ_o (by rw [p_wZ_s]; exact hov) (by rw [e1]; show some (Cell.setSlot _ _ _) = some (Cell.setSlot _ _ (Value.long (Int64.ofInt (p_Z (p_wZ σ a x.toNat y) a x.toNat)))); rw [p_wZ_s]) z oq
  exact k9.2 p e s m args below meth c H1 _ n0 m0 mc ms Q ls C hP1 (p_S.put S z oq hi.1) h1 h2 h3 h4 hl ol (p_okt (p_okt (p_okt os))) RT
theorem g_bastore {a : Nat} {x y : Int} (hd : decode M.2.1 pc = .ok (.bastore, 1)) (hi : p_is σ a 102) (h0 : 0 ≤ x) (hx : x < (p_L σ a : Int)) (hy : y = 0 ∨ y = 1) (k9 : p_Go K l M (pc + 1) lv st (p_wZ σ a x.toNat y) o) : p_Go K l M pc lv (p_i y :: p_i x :: p_r a :: st) σ o := by
  refine ⟨k9.1, fun p e s m args below meth c H locs n0 m0 mc ms Q ls C R S h1 h2 h3 h4 hl ol os RT => ?_⟩
  obtain ⟨g1, g2, -, g4, g5⟩ := p_ald (i := 2) (ty := .boolean) (v := p_i (p_Z σ a x.toNat)) rfl hi h0 hx rfl R
  have hov : p_ok (p_i y) := p_okh os
  show W p l e (p_rm M mc ms) s m args below meth c H locs _ _ Q (F0 m pc ls (p_V K (p_i y) :: p_V K (p_i x) :: p_V K (p_r a) :: st.map (p_V K)))
  rw [p_V_r hi.1]
  refine W.zast C.1 C.2.1 g1 ((C.2.2.2.2.2.2.2.2.2.1 2 _ rfl).1 _ _) (fun q => by cases q) g2 rfl rfl hd (fun H1 e1 z oq => ?_)
  rw [g5] at e1 ⊢
  have hP1 : p_P K (p_wZ σ a x.toNat y) H1 := R.putA (i := 2) (ty := .boolean) hi rfl rfl rfl rfl p_wZ_o (by rw [p_wZ_s]; exact hy) (by rw [e1]; show some (Cell.setSlot _ _ _) = some (Cell.setSlot _ _ (Value.int (Int32.ofInt (p_Z (p_wZ σ a x.toNat y) a x.toNat)))); rw [p_wZ_s]; rcases hy with rfl | rfl <;> rfl) z oq
  exact k9.2 p e s m args below meth c H1 _ n0 m0 mc ms Q ls C hP1 (p_S.put S z oq hi.1) h1 h2 h3 h4 hl ol (p_okt (p_okt (p_okt os))) RT
theorem g_aastore {a i ci b : Nat} {q : vw_C} {x : Int} (hcl : sw_cl[ci]? = some q) (hc : sw_at[i]? = some (.object q.1)) (hd : decode M.2.1 pc = .ok (.aastore, 1)) (hi : p_is σ a (100 + i)) (hb : p_is σ b ci) (h0 : 0 ≤ x) (hx : x < (p_L σ a : Int)) (k9 : p_Go K l M (pc + 1) lv st (p_wR σ a x.toNat b) o) : p_Go K l M pc lv (p_r b :: p_i x :: p_r a :: st) σ o := by
  refine ⟨k9.1, fun p e s m args below meth c H locs n0 m0 mc ms Q ls C R S h1 h2 h3 h4 hl ol os RT => ?_⟩
  obtain ⟨g1, g2, -, g4, g5⟩ := p_ald (i := i) (ty := .object q.1) (v := p_r (p_R σ a x.toNat)) hc hi h0 hx rfl R
  obtain ⟨⟨cellV, v1, v2, v3, -⟩, -⟩ := R.2.1 b ci q hb hcl
  have hcls := (C.2.2.2.2.2.2.2.2.1 ci q hcl).2
  obtain ⟨kA, comp, k1, k2, k3, -⟩ := (C.2.2.2.2.2.2.2.2.2.1 i _ hc).2
  have hcomp : comp = K.2.1 ci := Option.some.inj (k3.symm.trans hcls.1)
  subst hcomp
  obtain ⟨kC, hkC, -⟩ := id hcls.2
  show W p l e (p_rm M mc ms) s m args below meth c H locs _ _ Q (F0 m pc ls (p_V K (p_r b) :: p_V K (p_i x) :: p_V K (p_r a) :: st.map (p_V K)))
  rw [p_V_r hi.1, p_V_r hb.1]
  refine W.aast C.1 C.2.1 g1 (fun q h => by cases h) (fun h => by cases h) k1 k2 rfl hkC ⟨fun h => g2 (Or.inl h), Nat.not_le.mp fun h => g2 (Or.inr h)⟩ v1 (fun q h => by rw [v3] at h; cases h) (by rw [v2]; exact hkC) (by rw [v2]; exact va_assign hcls) rfl rfl hd (fun H1 e1 z oq => ?_)
  rw [g5] at e1 ⊢
  have hP1 : p_P K (p_wR σ a x.toNat b) H1 := R.putA (i := i) (ty := .object q.1) hi hc rfl rfl rfl p_wR_o trivial (by rw [e1, ← p_V_r hb.1]; show some (Cell.setSlot _ _ _) = some (Cell.setSlot _ _ (va_rf (p_rO K.1 (p_R (p_wR σ a x.toNat b) a x.toNat)))); rw [p_wR_s]; rfl) z oq
  exact k9.2 p e s m args below meth c H1 _ n0 m0 mc ms Q ls C hP1 (p_S.put S z oq hi.1) h1 h2 h3 h4 hl ol (p_okt (p_okt (p_okt os))) RT
theorem g_getstatic {j idx : Nat} {q : String × String} (hq : sw_st[j]? = some q) (hw : (M.1.cls, idx, q.1, q.2, "[I", q.1) ∈ sw_nf) (hd : decode M.2.1 pc = .ok (.getstatic idx, 3)) (k9 : p_Go K l M (pc + 3) lv (p_s j :: st) σ o) : p_Go K l M pc lv st σ o := by
  refine ⟨k9.1, fun p e s m args below meth c H locs n0 m0 mc ms Q ls C R S h1 h2 h3 h4 hl ol os RT => ?_⟩
  have E := C.2.2.2.2.2.2.2.2
  exact va_getsN C.1 C.2.1 (E.2.2.2.2.2.2.1 j q hq) S C.2.2.2.2.1 (va_Nw.use rfl (E.2.2.1 _ hw)) (fun _ h => h) hd (k9.2 p e s m args below meth c H locs n0 m0 mc ms Q ls C R S h1 h2 h3 h4 hl ol (p_ok2 (v := p_s _) trivial os) RT)
theorem p_tab_c : ∀ j i : Nat, p_c (sw_tab j i) := by
  intro j i
  unfold sw_tab
  have h : ∀ l ∈ sw_tbs, ∀ x ∈ l, p_c x := by decide
  have h1 : ∀ x ∈ sw_tbs.getD j [], p_c x := by
    rw [List.getD_eq_getElem?_getD]
    cases hj : sw_tbs[j]? with
    | none => intro x hx; cases hx
    | some l => exact h l (List.mem_of_getElem? hj)
  rw [List.getD_eq_getElem?_getD]
  cases hi : (sw_tbs.getD j [])[i]? with
  | none => exact (by decide : p_c 0)
  | some x => exact h1 x (List.mem_of_getElem? hi)
theorem g_tabload {j : Nat} {x : Int} (hj : j < sw_st.length ∨ j = 9) (hd : decode M.2.1 pc = .ok (.iaload, 1)) (h0 : 0 ≤ x) (hx : x < (p_tl K j : Int)) (k9 : p_Go K l M (pc + 1) lv (p_i (p_tv K j x.toNat) :: st) σ o) : p_Go K l M pc lv (p_i x :: p_s j :: st) σ o := by
  refine ⟨k9.1, fun p e s m args below meth c H locs n0 m0 mc ms Q ls C R S h1 h2 h3 h4 hl ol os RT => ?_⟩
  have E := C.2.2.2.2.2.2.2.2
  have hsz := E.2.2.2.2.2.2.2.2.1 j
  have hxc := E.2.2.2.2.2.2.2.2.2.1
  obtain ⟨cell, t1, t2, t3, t4, t5, t6, t7⟩ := E.2.2.2.2.2.2.2.1 j hj
  have t1 : H[K.2.2.2.2.1 j]? = some cell := by rw [S.2.1 _ (Array.getElem?_eq_some_iff.mp t1).1 t7]; exact t1
  have hn := p_nat h0 hx (by omega)
  refine W.iald (v := p_V K (p_i (p_tv K j x.toNat))) C.1 C.2.1 t1 t2 t3 ?_ ?_ rfl rfl hd (k9.2 p e s m args below meth c H locs n0 m0 mc ms Q ls C R S h1 h2 h3 h4 hl ol (p_ok2 (v := p_i _) ?_ (p_okt (p_okt os))) RT)
  · have := p_in h0 hx (by omega)
    intro w
    exact this (w.imp id (fun w => Nat.le_trans t4 w))
  · rw [hn]
    exact t6 _ (by omega)
  · show p_c (p_tv K j x.toNat)
    unfold p_tv
    split
    · exact hxc _
    · exact p_tab_c _ _
theorem g_tabS {j : Nat} {x : Int} (hj : j < sw_st.length) (hd : decode M.2.1 pc = .ok (.iaload, 1)) (h0 : 0 ≤ x) (hx : x < (sw_tl j : Int)) (k9 : p_Go K l M (pc + 1) lv (p_i (sw_tab j x.toNat) :: st) σ o) : p_Go K l M pc lv (p_i x :: p_s j :: st) σ o := by
  have h9 : j ≠ 9 := by have h : j < 4 := hj; omega
  refine g_tabload (Or.inl hj) hd h0 (by unfold p_tl; rw [if_neg h9]; exact hx) ?_
  unfold p_tv
  rw [if_neg h9]
  exact k9
theorem g_tablen {j : Nat} (hj : j < sw_st.length ∨ j = 9) (hd : decode M.2.1 pc = .ok (.arraylength, 1)) (k9 : p_Go K l M (pc + 1) lv (p_i (p_tl K j) :: st) σ o) : p_Go K l M pc lv (p_s j :: st) σ o := by
  refine ⟨k9.1, fun p e s m args below meth c H locs n0 m0 mc ms Q ls C R S h1 h2 h3 h4 hl ol os RT => ?_⟩
  have E := C.2.2.2.2.2.2.2.2
  have hsz := E.2.2.2.2.2.2.2.2.1 j
  obtain ⟨cell, t1, t2, t3, t4, t5, t6, t7⟩ := E.2.2.2.2.2.2.2.1 j hj
  have t1 : H[K.2.2.2.2.1 j]? = some cell := by rw [S.2.1 _ (Array.getElem?_eq_some_iff.mp t1).1 t7]; exact t1
  exact W.alen (n := Int32.ofInt (p_tl K j)) C.1 C.2.1 t1 t2 t5 rfl rfl hd (k9.2 p e s m args below meth c H locs n0 m0 mc ms Q ls C R S h1 h2 h3 h4 hl ol (p_ok2 (v := p_i _) (⟨by omega, by omega⟩ : p_c (p_tl K j : Int)) (p_okt os)) RT)
end HR
