/-! ===== a method's contract ===== -/
def p_Pc (K : p_K) (av : List p_AV) (σ : p_Hp) : Array Value → State → Prop := va_Pc (av.map (p_V K)) (fun U => p_E K U U.heap ∧ p_P K σ U.heap)
def p_Qc (K : p_K) (ret : Option FieldType) (o : Option p_AV × p_Hp) : Array Value → State → Outcome → State → Prop := fun _ st oc t => oc = .returned (o.1.map (p_V K)) ∧ p_rk ret o.1 ∧ p_P K o.2 t.heap ∧ va_F (p_A K) st t
def p_Ct (K : p_K) (l : Launch) (M : p_Me) (av : List p_AV) (σ : p_Hp) (o : Option p_AV × p_Hp) : Prop := p_x σ o.2 ∧ ∀ mc ms : Nat, p_N o.2 ≤ p_N σ + mc → p_M o.2 ≤ p_M σ + ms → (∀ v ∈ av, p_ok v) → Met l M.1 (p_ws M) (p_rm M mc ms) (p_Pc K av σ) (p_Qc K M.2.2.2.1 o) mc ms (p_A K)
def p_lv : Nat → List p_AV → List (Nat × p_AV)
  | _, [] => []
  | i, v :: vs => (i, v) :: p_lv (if p_cat v = 2 then i + 2 else i + 1) vs
theorem p_lv_eq (K : p_K) : ∀ (av : List p_AV) (i : Nat), lv_args i (av.map (p_V K)) = (p_lv i av).map (p_q K)
  | [], _ => rfl
  | v :: vs, i => by
    show (i, p_V K v) :: lv_args (if (p_V K v).category = 2 then i + 2 else i + 1) (vs.map (p_V K)) = (i, p_V K v) :: (p_lv (if p_cat v = 2 then i + 2 else i + 1) vs).map (p_q K)
    rw [p_V_cat, p_lv_eq K vs]
theorem p_lv_ok : ∀ (av : List p_AV) (i : Nat), (∀ v ∈ av, p_ok v) → ∀ q ∈ p_lv i av, p_ok q.2
  | [], _, _, q, h => by cases h
  | v :: vs, i, ho, q, h => by
    rcases List.mem_cons.mp h with w | w
    · rw [w]
      exact ho v List.mem_cons_self
    · exact p_lv_ok vs _ (fun x hx => ho x (List.mem_cons_of_mem _ hx)) q w
theorem p_sl_len (K : p_K) : ∀ av : List p_AV, (lg_sl (av.map (p_V K))).length = (av.map p_cat).sum
  | [] => rfl
  | v :: vs => by
    have ih := p_sl_len K vs
    unfold lg_sl at ih ⊢
    rw [List.map_cons, List.flatMap_cons, List.length_append, ih, List.map_cons, List.sum_cons, p_V_cat]
    rcases v with x | x | x | x <;> rfl
theorem p_Rt_MQ {K : p_K} {l : Launch} {M : p_Me} {o : Option p_AV × p_Hp} {p : Program} {e : Env} {s : State} {m : MethodId} {args : Array Value} {below : List Frame} {meth : Method} {c : Code} {mc ms : Nat} (C : p_Cx K M p s m args meth c) : p_Rt K l M o p e s m args below meth c mc ms (MQ below (p_Qc K M.2.2.2.1 o) args s mc ms (p_A K)) := by
  intro H locs pc ls R S hk hd
  have hlocks := C.2.2.2.2.2.2.1
  have hr := C.2.2.2.1
  have hq : ∀ t : State, t.heap = H → s.WarmedH t.vm → p_Qc K M.2.2.2.1 o args s (.returned (o.1.map (p_V K))) t := fun t ht _ => ⟨rfl, hk, by rw [ht]; exact R, S.F ht⟩
  obtain ⟨v, σ⟩ := o
  cases hret : M.2.2.2.1 with
  | none =>
    rw [hret] at hk hd hq hr
    have hk : v = none := hk
    subst hk
    exact W.vret C.1 C.2.1 hr hq S.2.2 hd (hlocks := hlocks)
  | some ty =>
    rw [hret] at hk hd hq hr
    cases ty with
    | int =>
      obtain ⟨x, hv, -⟩ := hk
      dsimp only at hv
      subst hv
      exact W.iret C.1 C.2.1 hr hq S.2.2 hd (hlocks := hlocks)
    | boolean =>
      obtain ⟨x, hv, hx⟩ := hk
      dsimp only at hv
      subst hv
      exact W.zret C.1 C.2.1 hr (by rcases hx with rfl | rfl <;> rfl) hq S.2.2 hd (hlocks := hlocks)
    | long =>
      obtain ⟨x, hv, -⟩ := hk
      dsimp only at hv
      subst hv
      exact W.lret C.1 C.2.1 hr hq S.2.2 hd (hlocks := hlocks)
    | object D =>
      obtain ⟨x, hv⟩ := hk
      dsimp only at hv
      subst hv
      exact W.aret C.1 C.2.1 hr (Or.inl ⟨_, rfl⟩) (by show p_V K (p_r x) = .null ∨ _; show va_rf (p_rO K.1 x) = .null ∨ ∃ a, va_rf (p_rO K.1 x) = .ref a; cases p_rO K.1 x with | none => exact Or.inl rfl | some a => exact Or.inr ⟨a, rfl⟩) hq S.2.2 hd (hlocks := hlocks)
    | array D =>
      obtain ⟨x, hv⟩ := hk
      dsimp only at hv
      subst hv
      exact W.aret C.1 C.2.1 hr (Or.inr ⟨_, rfl⟩) (by show p_V K (p_r x) = .null ∨ _; show va_rf (p_rO K.1 x) = .null ∨ ∃ a, va_rf (p_rO K.1 x) = .ref a; cases p_rO K.1 x with | none => exact Or.inl rfl | some a => exact Or.inr ⟨a, rfl⟩) hq S.2.2 hd (hlocks := hlocks)
    | _ => exact hk.elim
theorem p_ofW {l : Launch} {y : MethodName} {ws ws' : List Cond} {rm : Room} {Pc : Array Value → State → Prop} {Qc : Array Value → State → Outcome → State → Prop} {mc ms : Nat} {free : Addr → Prop} {cc : ByteArray} {maxL : Nat} {ret : Option FieldType}
    (hy : plainFor y = true) (hw : ws = Cond.code y cc maxL ret :: ws')
    (body : ∀ p e s m args below meth c s₁, BodyLoose p l y (headSpec ws rm) cc maxL ret e s m args below meth c s₁ → c.maxLocals = maxL → Pc args s →
      W p l e (headSpec ws rm).room s m args below meth c s.heap [] 0 0 (MQ below Qc args s mc ms free) (entryFrame m args maxL)) : Met l y ws rm Pc Qc mc ms free := by
  refine MetFree.of_bodySF (code := cc) (maxLocals := maxL) (ret := ret) hy ?_ ?_
  · intro args s m h hn
    obtain ⟨meth, c, h1, h2, h3, h4, h5, h6, -, -⟩ := Cond.code_spec hn (atoms_spec (ws := ws) h _ (by rw [hw]; exact List.mem_cons_self))
    exact ⟨meth, c, h1, h2, h3, h4, h5, h6⟩
  · intro p e s m args below meth c s₁ B hml hP _
    have hh0 : s₁.heap = s.heap := by rw [B.state]; rfl
    obtain ⟨t, a1, o, b1, b2, b3⟩ := body p e s m args below meth c s₁ B hml hP s₁ hh0 (Stand.of_body B)
    exact ⟨t, o, a1, b1, b2, ⟨b3.1, b3.2⟩⟩
theorem p_Ct.of {K : p_K} {l : Launch} {M : p_Me} {av : List p_AV} {σ : p_Hp} {o : Option p_AV × p_Hp} (hpl : plainFor M.1 = true) (hsz : (av.map p_cat).sum ≤ M.2.2.1) (h : p_Go K l M 0 (p_lv 0 av) [] σ o) : p_Ct K l M av σ o := by
  refine ⟨h.1, fun mc ms hc hs ho => p_ofW (cc := M.2.1) (maxL := M.2.2.1) (ret := M.2.2.2.1) hpl rfl ?_⟩
  intro p e s m args below meth c s₁ B hml hv
  obtain ⟨rfl, hE, hP⟩ := hv
  have C : p_Cx K M p s m (av.map (p_V K)).toArray meth c := ⟨B.exec, B.bytes, hml, B.returns, findClass_of_methodNamed B.named, fun w hw => atoms_spec (ws := p_ws M) B.pre w (List.mem_cons_of_mem _ hw), B.notSynchronized, fun h => (name_of_methodNamed B.named B.method).1.trans h, hE⟩
  have hl := lv_entry (av.map (p_V K)) (n := M.2.2.1) (by rw [p_sl_len]; exact hsz)
  rw [lg_entry_eq]
  generalize (lg_sl (av.map (p_V K)) ++ List.replicate (M.2.2.1 - (lg_sl (av.map (p_V K))).length) Slot.unset).toArray = ls at hl ⊢
  rw [p_lv_eq] at hl
  have k := h.2 p e s m _ below meth c s.heap [] (p_N σ) (p_M σ) mc ms _ ls C hP va_S.rf (Nat.le_refl _) (Nat.le_refl _) hc hs hl (p_lv_ok av 0 ho) (fun v h => by cases h) (p_Rt_MQ C)
  rw [Nat.sub_self, Nat.sub_self] at k
  exact k
/-! ===== calls ===== -/
def p_Mt (M : p_Me) (n : Nat) : Prop := Cond.code M.1 M.2.1 M.2.2.1 M.2.2.2.1 ∈ sw_gw ∧ Cond.initialized M.1.cls ∈ sw_gw ∧ M.1.cls ≠ "java/lang/invoke/MethodHandle" ∧ M.1.cls ≠ "java/lang/invoke/VarHandle" ∧ (parseMethodDescriptor M.1.desc).map (fun d => d.parameters.length) = some n
def p_Rm (M M' : p_Me) : Prop := M'.2.2.2.2.1 + 1 ≤ M.2.2.2.2.1 ∧ 8 + (M'.2.2.1 + 11) + M'.2.2.2.2.2 ≤ M.2.2.2.2.2
theorem p_good {M' : p_Me} (h : Cond.code M'.1 M'.2.1 M'.2.2.1 M'.2.2.2.1 ∈ sw_gw) : GoodIn sw_gw (p_ws M') := by
  have hg : ∀ w ∈ sw_gw, w ∈ sw_gw ∧ ((w.onTables && w.keeps) = true ∨ ∃ ty, w = .arrayClass ty) := fun w hw => ⟨hw, good_of_word (List.mem_filter.mp hw).2⟩
  intro w hw
  rcases List.mem_cons.mp hw with e | hw
  · rw [e]
    exact hg _ h
  · exact hg w hw
theorem p_blind {K : p_K} {av : List p_AV} {σ : p_Hp} : FrameBlind (p_Pc K av σ) := fun a U g mk h => ⟨h.1, p_E.moved (s := U) (U := U.calling g mk a) (State.WarmedH.refl U) h.2.1, h.2.2⟩
section CL
variable {K : p_K} {l : Launch} {M M' : p_Me} {pc : Nat} {lv : List (Nat × p_AV)} {st : List p_AV} {σ : p_Hp} {o : Option p_AV × p_Hp}
theorem p_pre {p : Program} {s : State} {m : MethodId} {args : Array Value} {meth : Method} {c : Code} {H : Heap} {locs : List Loc} {av : List p_AV} (C : p_Cx K M p s m args meth c) (R : p_P K σ H) (S : va_S (p_A K) s.heap H locs) : ∀ U : State, U.heap = H → s.WarmedH U.vm → p_Pc K av σ (av.map (p_V K)).toArray U := fun U hU hW => ⟨rfl, by rw [hU]; exact (C.2.2.2.2.2.2.2.2.kept S.2.1).moved hW, by rw [hU]; exact R⟩
/-- behind a call -/
theorem p_aft {av rest st' : List p_AV} {q : Option p_AV × p_Hp} {p : Program} {e : Env} {s : State} {m : MethodId} {args : Array Value} {below : List Frame} {meth : Method} {c : Code} {H : Heap} {locs : List Loc} {n0 m0 mc ms : Nat} {Q : State → Prop} {ls : Array Slot} {st0 : List Value} (k9 : p_Go K l M (pc + 3) lv st' q.2 o) (he : q.1.toList ++ rest = st') (hmx : p_x σ q.2)
    (C : p_Cx K M p s m args meth c) (S : va_S (p_A K) s.heap H locs) (h1 : n0 ≤ p_N σ) (h2 : m0 ≤ p_M σ) (h3 : p_N o.2 ≤ n0 + mc) (h4 : p_M o.2 ≤ m0 + ms) (hl : lv_has ls M.2.2.1 (lv.map (p_q K))) (ol : ∀ q ∈ lv, p_ok q.2) (os : ∀ v ∈ rest, p_ok v) (RT : p_Rt K l M o p e s m args below meth c mc ms Q)
    (hr : va_Run p l e (p_rm M mc ms) s m args below meth c H locs (p_N σ - n0) (p_M σ - m0) (p_N q.2 - p_N σ) (p_M q.2 - p_M σ) (F0 m pc ls st0) (rest.map (p_V K)) (p_Qc K M'.2.2.2.1 q (av.map (p_V K)).toArray) (p_A K)) :
    W p l e (p_rm M mc ms) s m args below meth c H locs (p_N σ - n0) (p_M σ - m0) Q (F0 m pc ls st0) := by
  have hmo : p_N σ ≤ p_N q.2 ∧ p_M σ ≤ p_M q.2 := ⟨hmx.1, hmx.2.1⟩
  intro T hT X
  obtain ⟨v, st₀, t, T', L, h0, X', hL, e1, e2, ⟨hv, hk, hP1, hz, hkp⟩, stp⟩ := hr T hT X
  cases hv
  rw [h0] at hz hkp
  have hok : ∀ v ∈ st', p_ok v := by
    rw [← he]
    intro v hv
    rcases List.mem_append.mp hv with w | w
    · obtain ⟨v9, σ9⟩ := q
      cases v9 with
      | none => cases w
      | some v9 =>
        have w : v = v9 := by simpa using w
        subst w
        cases hret : M'.2.2.2.1 with
        | none => rw [hret] at hk; cases hk
        | some ty =>
          rw [hret] at hk
          cases ty with
          | int => obtain ⟨x, hx, hc⟩ := hk; cases hx; exact hc
          | boolean => obtain ⟨x, hx, hc⟩ := hk; cases hx; show p_c x; rcases hc with w | w <;> rw [w] <;> decide
          | long => obtain ⟨x, hx, hc⟩ := hk; cases hx; exact hc
          | object D => obtain ⟨x, hx⟩ := hk; cases hx; trivial
          | array D => obtain ⟨x, hx⟩ := hk; cases hx; trivial
          | _ => exact hk.elim
    · exact os v w
  have hS1 : va_S (p_A K) s.heap T'.heap (locs ++ L) := ⟨Nat.le_trans S.1 (by rw [e1]; exact hz), fun q g1 g2 => by rw [e1, hkp q (Nat.lt_of_lt_of_le g1 S.1) g2]; exact S.2.1 q g1 g2, fun q hq => by
    rcases List.mem_append.mp hq with w | w
    · exact S.2.2 q w
    · exact hL q w⟩
  have kk := k9.2 p e s m args below meth c T'.heap (locs ++ L) n0 m0 mc ms Q ls C (by rw [e1]; exact hP1) hS1 (by omega) (by omega) h3 h4 hl ol hok RT
  have he2 : st'.map (p_V K) = (q.1.map (p_V K)).toList ++ rest.map (p_V K) := by
    rw [← he, List.map_append]
    congr 1
    cases q.1 <;> rfl
  rw [he2] at kk
  obtain ⟨t2, a1, b1⟩ := (W.cs (by omega) (by omega) kk : W p l e (p_rm M mc ms) s m args below meth c T'.heap (locs ++ L) (p_N σ - n0 + (p_N q.2 - p_N σ)) (p_M σ - m0 + (p_M q.2 - p_M σ)) Q _) T' rfl X'
  exact ⟨t2, stp t2 a1, b1⟩
theorem p_cats (K : p_K) (rest : List p_AV) : ((rest.map (p_V K)).map fun v => v.category) = rest.map p_cat := by
  rw [List.map_map]
  exact List.map_congr_left (fun v _ => p_V_cat K v)
theorem p_rmL {rest : List p_AV} {m : MethodId} {ls : Array Slot} {st0 : List Value} (h : (rest.map p_cat).sum ≤ 8) : 2 * (F0 m pc ls st0).monitorRoom + ((rest.map (p_V K)).map fun v => v.category).sum ≤ 8 := by
  refine lv_room ?_
  rw [p_cats]
  exact h
theorem g_callS {n idx : Nat} {av rest : List p_AV} {q : Option p_AV × p_Hp} (st' : List p_AV) (hm : p_Mt M' n) (hst : Cond.static M'.1 ∈ sw_gw) (hw : Cond.methodLink M.1.cls idx M'.1 ∈ sw_gw) (hR : p_Rm M M') (hn : av.length = n) (hsp : (rest.map p_cat).sum ≤ 8) (hd : decode M.2.1 pc = .ok (.invokestatic idx, 3)) (he : av.reverse ++ rest = st) (hq : q.1.toList ++ rest = st') (hc : p_Ct K l M' av σ q) (k9 : p_Go K l M (pc + 3) lv st' q.2 o) : p_Go K l M pc lv st σ o := by
  subst he
  refine ⟨hc.1.trans k9.1, fun p e s m args below meth c H locs n0 m0 mc ms Q ls C R S h1 h2 h3 h4 hl ol os RT => ?_⟩
  have hts := p_hts C.2.2.2.2.2.1
  have hkm : p_N q.2 ≤ p_N o.2 ∧ p_M q.2 ≤ p_M o.2 := ⟨k9.1.1, k9.1.2.1⟩
  have hcm : p_N σ ≤ p_N q.2 ∧ p_M σ ≤ p_M q.2 := ⟨hc.1.1, hc.1.2.1⟩
  obtain ⟨m1, m2, m3, m4, m5⟩ := hm
  have hM := hc.2 (p_N q.2 - p_N σ) (p_M q.2 - p_M σ) (by omega) (by omega) (fun v hv => os v (List.mem_append_left _ (List.mem_reverse.mpr hv)))
  refine p_aft (M' := M') (av := av) k9 hq hc.1 C S h1 h2 h3 h4 hl ol (fun v hv => os v (List.mem_append_right _ hv)) RT ?_
  exact va_runS (n := n) ⟨C.1, C.2.1, C.2.2.1, C.2.2.2.2.1, C.2.2.2.2.2.1⟩ hM ⟨callB_of n C.2.2.2.2.2.1 (p_good m1) rfl rfl rfl (hts _ m2) (hts _ hw) ⟨m3, m4, m5⟩ hR, hts _ hst⟩ ⟨p_blind, p_pre C R S⟩ rfl (by rw [List.length_map]; exact hn) hl.1 (by show (av.reverse ++ rest).map (p_V K) = _; rw [List.map_append, List.map_reverse]) (p_rmL hsp) hd ⟨by show p_N σ - n0 + (p_N q.2 - p_N σ) ≤ mc; omega, by show p_M σ - m0 + (p_M q.2 - p_M σ) ≤ ms; omega⟩
theorem g_callSN {n idx : Nat} {av rest : List p_AV} {q : Option p_AV × p_Hp} (st' : List p_AV) (hm : p_Mt M' n) (hst : Cond.static M'.1 ∈ sw_gw) {host : String} (hw : (M.1.cls, idx, M'.1, host) ∈ sw_nm) (hR : p_Rm M M') (hn : av.length = n) (hsp : (rest.map p_cat).sum ≤ 8) (hd : decode M.2.1 pc = .ok (.invokestatic idx, 3)) (he : av.reverse ++ rest = st) (hq : q.1.toList ++ rest = st') (hc : p_Ct K l M' av σ q) (k9 : p_Go K l M (pc + 3) lv st' q.2 o) : p_Go K l M pc lv st σ o := by
  subst he
  refine ⟨hc.1.trans k9.1, fun p e s m args below meth c H locs n0 m0 mc ms Q ls C R S h1 h2 h3 h4 hl ol os RT => ?_⟩
  have hts := p_hts C.2.2.2.2.2.1
  have hkm : p_N q.2 ≤ p_N o.2 ∧ p_M q.2 ≤ p_M o.2 := ⟨k9.1.1, k9.1.2.1⟩
  have hcm : p_N σ ≤ p_N q.2 ∧ p_M σ ≤ p_M q.2 := ⟨hc.1.1, hc.1.2.1⟩
  obtain ⟨m1, m2, m3, m4, m5⟩ := hm
  have hM := hc.2 (p_N q.2 - p_N σ) (p_M q.2 - p_M σ) (by omega) (by omega) (fun v hv => os v (List.mem_append_left _ (List.mem_reverse.mpr hv)))
  refine p_aft (M' := M') (av := av) k9 hq hc.1 C S h1 h2 h3 h4 hl ol (fun v hv => os v (List.mem_append_right _ hv)) RT ?_
  exact va_runSN (n := n) ⟨C.1, C.2.1, C.2.2.1, C.2.2.2.2.1, C.2.2.2.2.2.1⟩ hM ⟨va_cnB n C.2.2.2.2.2.1 (p_good m1) rfl rfl rfl (C.2.2.2.2.2.2.2.2.2.2.2.1 _ hw) (hts _ m2) ⟨m3, m4, m5⟩ hR, hts _ hst, trivial⟩ ⟨p_blind, p_pre C R S⟩ rfl (by rw [List.length_map]; exact hn) hl.1 (by show (av.reverse ++ rest).map (p_V K) = _; rw [List.map_append, List.map_reverse]) (p_rmL hsp) hd ⟨by show p_N σ - n0 + (p_N q.2 - p_N σ) ≤ mc; omega, by show p_M σ - m0 + (p_M q.2 - p_M σ) ≤ ms; omega⟩
theorem g_callV {n idx a ci : Nat} {q0 : vw_C} {As rest : List p_AV} {q : Option p_AV × p_Hp} (st' : List p_AV) (hm : p_Mt M' n) (hcl : sw_cl[ci]? = some q0) (hcn : q0.1 = M'.1.cls) (hin : Cond.instanceMethod M'.1 ∈ sw_gw) (hse : Cond.selects M'.1.cls M'.1 M'.1 ∈ sw_gw) (hw : Cond.methodLink M.1.cls idx M'.1 ∈ sw_gw) (hR : p_Rm M M') (hn : As.length = n) (hsp : (rest.map p_cat).sum ≤ 8) (hd : decode M.2.1 pc = .ok (.invokevirtual idx, 3)) (he : As.reverse ++ p_r a :: rest = st) (hi : p_is σ a ci) (hq : q.1.toList ++ rest = st') (hc : p_Ct K l M' (p_r a :: As) σ q) (k9 : p_Go K l M (pc + 3) lv st' q.2 o) : p_Go K l M pc lv st σ o := by
  subst he
  refine ⟨hc.1.trans k9.1, fun p e s m args below meth c H locs n0 m0 mc ms Q ls C R S h1 h2 h3 h4 hl ol os RT => ?_⟩
  have hts := p_hts C.2.2.2.2.2.1
  have hkm : p_N q.2 ≤ p_N o.2 ∧ p_M q.2 ≤ p_M o.2 := ⟨k9.1.1, k9.1.2.1⟩
  have hcm : p_N σ ≤ p_N q.2 ∧ p_M σ ≤ p_M q.2 := ⟨hc.1.1, hc.1.2.1⟩
  obtain ⟨m1, m2, m3, m4, m5⟩ := hm
  have hM := hc.2 (p_N q.2 - p_N σ) (p_M q.2 - p_M σ) (by omega) (by omega) (fun v hv => os v (by
    rcases List.mem_cons.mp hv with w | w
    · rw [w]; exact List.mem_append_right _ List.mem_cons_self
    · exact List.mem_append_left _ (List.mem_reverse.mpr w)))
  refine p_aft (M' := M') (av := p_r a :: As) k9 hq hc.1 C S h1 h2 h3 h4 hl ol (fun v hv => os v (List.mem_append_right _ (List.mem_cons_of_mem _ hv))) RT ?_
  obtain ⟨⟨cell, v1, v2, v3, -⟩, -⟩ := R.2.1 a ci q0 hi hcl
  have hpre := p_pre (av := p_r a :: As) C R S
  rw [List.map_cons, p_V_r hi.1] at hpre ⊢
  exact va_runV (n := n) (C := M'.1.cls) ⟨C.1, C.2.1, C.2.2.1, C.2.2.2.2.1, C.2.2.2.2.2.1⟩ hM ⟨callB_of n C.2.2.2.2.2.1 (p_good m1) rfl rfl rfl (hts _ m2) (hts _ hw) ⟨m3, m4, m5⟩ hR, hts _ hin, hts _ hse⟩ ⟨p_blind, ⟨cell, v1, by rw [v3]; rfl, by rw [v2, ← hcn]; exact (C.2.2.2.2.2.2.2.2.1 ci q0 hcl).2.1⟩, hpre⟩ rfl (by rw [List.length_map]; exact hn) hl.1 (by show (As.reverse ++ p_r a :: rest).map (p_V K) = _; rw [List.map_append, List.map_reverse, List.map_cons, p_V_r hi.1]) (p_rmL hsp) hd ⟨by show p_N σ - n0 + (p_N q.2 - p_N σ) ≤ mc; omega, by show p_M σ - m0 + (p_M q.2 - p_M σ) ≤ ms; omega⟩
theorem g_callI {n idx a : Nat} {As rest : List p_AV} {q : Option p_AV × p_Hp} (st' : List p_AV) (hm : p_Mt M' n) (hin : Cond.instanceMethod M'.1 ∈ sw_gw) (hw : Cond.methodLink M.1.cls idx M'.1 ∈ sw_gw) (hnm : M'.1.name = "<init>") (hrt : M'.2.2.2.1 = none) (hR : p_Rm M M') (hn : As.length = n) (hsp : (rest.map p_cat).sum ≤ 8) (hd : decode M.2.1 pc = .ok (.invokespecial idx, 3)) (he : As.reverse ++ p_r a :: rest = st) (ha : 1 ≤ a) (hq : q.1.toList ++ rest = st') (hc : p_Ct K l M' (p_r a :: As) σ q) (k9 : p_Go K l M (pc + 3) lv st' q.2 o) : p_Go K l M pc lv st σ o := by
  subst he
  refine ⟨hc.1.trans k9.1, fun p e s m args below meth c H locs n0 m0 mc ms Q ls C R S h1 h2 h3 h4 hl ol os RT => ?_⟩
  have hts := p_hts C.2.2.2.2.2.1
  have hkm : p_N q.2 ≤ p_N o.2 ∧ p_M q.2 ≤ p_M o.2 := ⟨k9.1.1, k9.1.2.1⟩
  have hcm : p_N σ ≤ p_N q.2 ∧ p_M σ ≤ p_M q.2 := ⟨hc.1.1, hc.1.2.1⟩
  obtain ⟨m1, m2, m3, m4, m5⟩ := hm
  have hM := hc.2 (p_N q.2 - p_N σ) (p_M q.2 - p_M σ) (by omega) (by omega) (fun v hv => os v (by
    rcases List.mem_cons.mp hv with w | w
    · rw [w]; exact List.mem_append_right _ List.mem_cons_self
    · exact List.mem_append_left _ (List.mem_reverse.mpr w)))
  refine p_aft (M' := M') (av := p_r a :: As) k9 hq hc.1 C S h1 h2 h3 h4 hl ol (fun v hv => os v (List.mem_append_right _ (List.mem_cons_of_mem _ hv))) RT ?_
  have hpre := p_pre (av := p_r a :: As) C R S
  rw [List.map_cons, p_V_r ha] at hpre ⊢
  have hcode : p_ws M' = Cond.code M'.1 M'.2.1 M'.2.2.1 none :: sw_gw := by unfold p_ws; rw [hrt]
  exact va_runI (n := n) ⟨C.1, C.2.1, C.2.2.1, C.2.2.2.2.1, C.2.2.2.2.2.1⟩ hM ⟨callB_of n C.2.2.2.2.2.1 (p_good m1) hcode rfl rfl (hts _ m2) (hts _ hw) ⟨m3, m4, m5⟩ hR, hnm, hts _ hin⟩ ⟨p_blind, hpre⟩ rfl (by rw [List.length_map]; exact hn) hl.1 (by show (As.reverse ++ p_r a :: rest).map (p_V K) = _; rw [List.map_append, List.map_reverse, List.map_cons, p_V_r ha]) (p_rmL hsp) hd ⟨by show p_N σ - n0 + (p_N q.2 - p_N σ) ≤ mc; omega, by show p_M σ - m0 + (p_M q.2 - p_M σ) ≤ ms; omega⟩
theorem g_callIN {n idx a : Nat} {As rest : List p_AV} {q : Option p_AV × p_Hp} (st' : List p_AV) (hm : p_Mt M' n) (hin : Cond.instanceMethod M'.1 ∈ sw_gw) {host : String} (hw : (M.1.cls, idx, M'.1, host) ∈ sw_nm) (hnm : M'.1.name = "<init>") (hrt : M'.2.2.2.1 = none) (hR : p_Rm M M') (hn : As.length = n) (hsp : (rest.map p_cat).sum ≤ 8) (hd : decode M.2.1 pc = .ok (.invokespecial idx, 3)) (he : As.reverse ++ p_r a :: rest = st) (ha : 1 ≤ a) (hq : q.1.toList ++ rest = st') (hc : p_Ct K l M' (p_r a :: As) σ q) (k9 : p_Go K l M (pc + 3) lv st' q.2 o) : p_Go K l M pc lv st σ o := by
  subst he
  refine ⟨hc.1.trans k9.1, fun p e s m args below meth c H locs n0 m0 mc ms Q ls C R S h1 h2 h3 h4 hl ol os RT => ?_⟩
  have hts := p_hts C.2.2.2.2.2.1
  have hkm : p_N q.2 ≤ p_N o.2 ∧ p_M q.2 ≤ p_M o.2 := ⟨k9.1.1, k9.1.2.1⟩
  have hcm : p_N σ ≤ p_N q.2 ∧ p_M σ ≤ p_M q.2 := ⟨hc.1.1, hc.1.2.1⟩
  obtain ⟨m1, m2, m3, m4, m5⟩ := hm
  have hM := hc.2 (p_N q.2 - p_N σ) (p_M q.2 - p_M σ) (by omega) (by omega) (fun v hv => os v (by
    rcases List.mem_cons.mp hv with w | w
    · rw [w]; exact List.mem_append_right _ List.mem_cons_self
    · exact List.mem_append_left _ (List.mem_reverse.mpr w)))
  refine p_aft (M' := M') (av := p_r a :: As) k9 hq hc.1 C S h1 h2 h3 h4 hl ol (fun v hv => os v (List.mem_append_right _ (List.mem_cons_of_mem _ hv))) RT ?_
  have hpre := p_pre (av := p_r a :: As) C R S
  rw [List.map_cons, p_V_r ha] at hpre ⊢
  have hcode : p_ws M' = Cond.code M'.1 M'.2.1 M'.2.2.1 none :: sw_gw := by unfold p_ws; rw [hrt]
  exact va_runIN (n := n) ⟨C.1, C.2.1, C.2.2.1, C.2.2.2.2.1, C.2.2.2.2.2.1⟩ hM ⟨va_cnB n C.2.2.2.2.2.1 (p_good m1) hcode rfl rfl (C.2.2.2.2.2.2.2.2.2.2.2.1 _ hw) (hts _ m2) ⟨m3, m4, m5⟩ hR, hnm, hts _ hin⟩ ⟨p_blind, hpre⟩ rfl (by rw [List.length_map]; exact hn) hl.1 (by show (As.reverse ++ p_r a :: rest).map (p_V K) = _; rw [List.map_append, List.map_reverse, List.map_cons, p_V_r ha]) (p_rmL hsp) hd ⟨by show p_N σ - n0 + (p_N q.2 - p_N σ) ≤ mc; omega, by show p_M σ - m0 + (p_M q.2 - p_M σ) ≤ ms; omega⟩
theorem g_objInit {a idx : Nat} (hw : Cond.methodLink M.1.cls idx objectInit ∈ sw_gw) (hw2 : Cond.instanceMethod objectInit ∈ sw_gw) (hw3 : Cond.code objectInit ⟨#[0xb1]⟩ 1 none ∈ sw_gw) (hd : decode M.2.1 pc = .ok (.invokespecial idx, 3)) (h1 : 1 ≤ M.2.2.2.2.1) (h2 : (st.map p_cat).sum + 12 ≤ M.2.2.2.2.2) (ha : 1 ≤ a) (k9 : p_Go K l M (pc + 3) lv st σ o) : p_Go K l M pc lv (p_r a :: st) σ o := by
  refine ⟨k9.1, fun p e s m args below meth c H locs n0 m0 mc ms Q ls C R S g1 g2 g3 g4 hl ol os RT => ?_⟩
  have hts := p_hts C.2.2.2.2.2.1
  show W p l e (p_rm M mc ms) s m args below meth c H locs _ _ Q (F0 m pc ls (p_V K (p_r a) :: st.map (p_V K)))
  rw [p_V_r ha]
  refine W.objInit C.1 C.2.1 C.2.2.2.2.1 (hts _ hw) (hts _ hw2) (hts _ hw3) rfl (by rw [C.2.2.1]; exact hl.1) rfl hd h1 ?_ (k9.2 p e s m args below meth c H locs n0 m0 mc ms Q ls C R S g1 g2 g3 g4 hl ol (p_okt os) RT)
  show 2 * 0 + _ + 12 ≤ M.2.2.2.2.2
  rw [p_cats]
  omega
end CL
