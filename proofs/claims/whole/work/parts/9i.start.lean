/-! ===== from the law's entry: what is fixed ===== -/
theorem p_el {args : Array Value} {s : State} {tm : Term} {a v : Int32} {j : Nat} {x : Int} (h : (Cond.eq (.elem tm (.int a)) (.int v)).before args s = true) (ha : a = Int32.ofNat j) (hv : v = Int32.ofInt x) : (Term.elem tm (.int (Int32.ofNat j))).eval args s none [] s = some (.int (Int32.ofInt x)) := by
  subst ha
  subst hv
  exact va_eqt h
theorem p_arP {s : State} {args : Array Value} {ty : FieldType} (hp : refKind ty = false) (hno : ∀ C, ty ≠ .object C) (h : (Cond.arrayClass ty).before args s = true) : ∃ cA : ClassId, ArrOfT s cA ty ∧ va_RA s cA ty := by
  obtain ⟨c, k, comp, h1, h2, h3⟩ := Cond.arrayClass_spec h
  refine ⟨c, fun n z => ⟨fun k h => (by cases h), k, h2, comp, h3⟩, ?_⟩
  cases ty with
  | object C => exact absurd rfl (hno C)
  | _ => exact h1
theorem p_arO {s : State} {args : Array Value} {C : String} (h : (Cond.arrayOver (.object C)).before args s = true) : ∃ cA : ClassId, ArrOfT s cA (.object C) ∧ va_RA s cA (.object C) := by
  obtain ⟨comp, c, k, h1, h2, h3, h4, h5⟩ := Cond.arrayOver_spec h
  exact ⟨c, fun n z => ⟨fun k h => (by cases h), k, h3, comp, h4⟩, k, comp, h3, h4, h1, h5⟩
theorem p_arA {s : State} {args : Array Value} {t : FieldType} (h : (Cond.arrayOver (.array t)).before args s = true) : ∃ cA : ClassId, ArrOfT s cA (.array t) ∧ va_RA s cA (.array t) := by
  obtain ⟨comp, c, k, h1, h2, h3, h4, h5⟩ := arrayOverA_spec h
  exact ⟨c, fun n z => ⟨fun k h => (by cases h), k, h3, comp, h4⟩, h5⟩
set_option maxRecDepth 100000 in
theorem p_tab0 {s : State} {b : Nat} {A : Nat → Prop} (hts : ∀ w ∈ lw_tbl, w.before #[Value.ref b] s = true) (hgv : (Jvm.Cond.and given_1 narrow_1).before #[Value.ref b] s = true) (hA : ∀ a : Nat, a < s.heap.size → ¬ A a) : ∃ t : Nat, va_Z "SortWorks" "RANKS" "[I" (.ref t) A s s.heap ∧ va_T .int t 11 (fun i => .int (Int32.ofInt (sw_tab 0 i))) A s s.heap := by
  have hs := flat_of_before _ hgv
  obtain ⟨t, ht, hT⟩ := va_Tof (tm := (.static "SortWorks" "RANKS" "[I")) (ty := .int) (N := 11) (f := fun i => .int (Int32.ofInt (sw_tab 0 i))) (A := A) (by decide) (hs _ (by decide +kernel)) (va_eqt (hs (Cond.eq (.length (.static "SortWorks" "RANKS" "[I")) (.int 11)) (by decide +kernel))) (fun i hi => by
    match i, hi with
    | 0, _ => exact p_el (hs (Cond.eq (.elem (.static "SortWorks" "RANKS" "[I") (.int 0)) (.int 1)) (by decide +kernel)) (by decide) (by decide)
    | 1, _ => exact p_el (hs (Cond.eq (.elem (.static "SortWorks" "RANKS" "[I") (.int 1)) (.int 2)) (by decide +kernel)) (by decide) (by decide)
    | 2, _ => exact p_el (hs (Cond.eq (.elem (.static "SortWorks" "RANKS" "[I") (.int 2)) (.int 1)) (by decide +kernel)) (by decide) (by decide)
    | 3, _ => exact p_el (hs (Cond.eq (.elem (.static "SortWorks" "RANKS" "[I") (.int 3)) (.int 1)) (by decide +kernel)) (by decide) (by decide)
    | 4, _ => exact p_el (hs (Cond.eq (.elem (.static "SortWorks" "RANKS" "[I") (.int 4)) (.int 4)) (by decide +kernel)) (by decide) (by decide)
    | 5, _ => exact p_el (hs (Cond.eq (.elem (.static "SortWorks" "RANKS" "[I") (.int 5)) (.int 3)) (by decide +kernel)) (by decide) (by decide)
    | 6, _ => exact p_el (hs (Cond.eq (.elem (.static "SortWorks" "RANKS" "[I") (.int 6)) (.int 3)) (by decide +kernel)) (by decide) (by decide)
    | 7, _ => exact p_el (hs (Cond.eq (.elem (.static "SortWorks" "RANKS" "[I") (.int 7)) (.int 1)) (by decide +kernel)) (by decide) (by decide)
    | 8, _ => exact p_el (hs (Cond.eq (.elem (.static "SortWorks" "RANKS" "[I") (.int 8)) (.int 1)) (by decide +kernel)) (by decide) (by decide)
    | 9, _ => exact p_el (hs (Cond.eq (.elem (.static "SortWorks" "RANKS" "[I") (.int 9)) (.int 0)) (by decide +kernel)) (by decide) (by decide)
    | 10, _ => exact p_el (hs (Cond.eq (.elem (.static "SortWorks" "RANKS" "[I") (.int 10)) (.int 0)) (by decide +kernel)) (by decide) (by decide)
    | i + 11, hi => exact absurd hi (by omega)) hA
  exact ⟨t, va_Zof (hts _ (List.mem_append_right _ (p_tb3 (List.mem_of_getElem? (i := 87) (by decide +kernel)))) : (Cond.laysStatic "SortWorks" "RANKS" "[I").before #[Value.ref b] s = true) (hts _ (List.mem_append_right _ (p_tb1 (List.mem_of_getElem? (i := 1) (by decide +kernel)))) : (Cond.initialized "SortWorks").before #[Value.ref b] s = true) ht hA, hT⟩
set_option maxRecDepth 100000 in
theorem p_tab1 {s : State} {b : Nat} {A : Nat → Prop} (hts : ∀ w ∈ lw_tbl, w.before #[Value.ref b] s = true) (hgv : (Jvm.Cond.and given_1 narrow_1).before #[Value.ref b] s = true) (hA : ∀ a : Nat, a < s.heap.size → ¬ A a) : ∃ t : Nat, va_Z "SortWorks" "LINKS_AHEAD" "[I" (.ref t) A s s.heap ∧ va_T .int t 11 (fun i => .int (Int32.ofInt (sw_tab 1 i))) A s s.heap := by
  have hs := flat_of_before _ hgv
  obtain ⟨t, ht, hT⟩ := va_Tof (tm := (.static "SortWorks" "LINKS_AHEAD" "[I")) (ty := .int) (N := 11) (f := fun i => .int (Int32.ofInt (sw_tab 1 i))) (A := A) (by decide) (hs _ (by decide +kernel)) (va_eqt (hs (Cond.eq (.length (.static "SortWorks" "LINKS_AHEAD" "[I")) (.int 11)) (by decide +kernel))) (fun i hi => by
    match i, hi with
    | 0, _ => exact p_el (hs (Cond.eq (.elem (.static "SortWorks" "LINKS_AHEAD" "[I") (.int 0)) (.int 1)) (by decide +kernel)) (by decide) (by decide)
    | 1, _ => exact p_el (hs (Cond.eq (.elem (.static "SortWorks" "LINKS_AHEAD" "[I") (.int 1)) (.int 1)) (by decide +kernel)) (by decide) (by decide)
    | 2, _ => exact p_el (hs (Cond.eq (.elem (.static "SortWorks" "LINKS_AHEAD" "[I") (.int 2)) (.int 1)) (by decide +kernel)) (by decide) (by decide)
    | 3, _ => exact p_el (hs (Cond.eq (.elem (.static "SortWorks" "LINKS_AHEAD" "[I") (.int 3)) (.int 1)) (by decide +kernel)) (by decide) (by decide)
    | 4, _ => exact p_el (hs (Cond.eq (.elem (.static "SortWorks" "LINKS_AHEAD" "[I") (.int 4)) (.int 1)) (by decide +kernel)) (by decide) (by decide)
    | 5, _ => exact p_el (hs (Cond.eq (.elem (.static "SortWorks" "LINKS_AHEAD" "[I") (.int 5)) (.int 2)) (by decide +kernel)) (by decide) (by decide)
    | 6, _ => exact p_el (hs (Cond.eq (.elem (.static "SortWorks" "LINKS_AHEAD" "[I") (.int 6)) (.int 3)) (by decide +kernel)) (by decide) (by decide)
    | 7, _ => exact p_el (hs (Cond.eq (.elem (.static "SortWorks" "LINKS_AHEAD" "[I") (.int 7)) (.int 0)) (by decide +kernel)) (by decide) (by decide)
    | 8, _ => exact p_el (hs (Cond.eq (.elem (.static "SortWorks" "LINKS_AHEAD" "[I") (.int 8)) (.int 1)) (by decide +kernel)) (by decide) (by decide)
    | 9, _ => exact p_el (hs (Cond.eq (.elem (.static "SortWorks" "LINKS_AHEAD" "[I") (.int 9)) (.int 0)) (by decide +kernel)) (by decide) (by decide)
    | 10, _ => exact p_el (hs (Cond.eq (.elem (.static "SortWorks" "LINKS_AHEAD" "[I") (.int 10)) (.int 0)) (by decide +kernel)) (by decide) (by decide)
    | i + 11, hi => exact absurd hi (by omega)) hA
  exact ⟨t, va_Zof (hts _ (List.mem_append_right _ (p_tb3 (List.mem_of_getElem? (i := 127) (by decide +kernel)))) : (Cond.laysStatic "SortWorks" "LINKS_AHEAD" "[I").before #[Value.ref b] s = true) (hts _ (List.mem_append_right _ (p_tb1 (List.mem_of_getElem? (i := 1) (by decide +kernel)))) : (Cond.initialized "SortWorks").before #[Value.ref b] s = true) ht hA, hT⟩
set_option maxRecDepth 100000 in
theorem p_tab2 {s : State} {b : Nat} {A : Nat → Prop} (hts : ∀ w ∈ lw_tbl, w.before #[Value.ref b] s = true) (hgv : (Jvm.Cond.and given_1 narrow_1).before #[Value.ref b] s = true) (hA : ∀ a : Nat, a < s.heap.size → ¬ A a) : ∃ t : Nat, va_Z "SortWorks" "PACES" "[I" (.ref t) A s s.heap ∧ va_T .int t 11 (fun i => .int (Int32.ofInt (sw_tab 2 i))) A s s.heap := by
  have hs := flat_of_before _ hgv
  obtain ⟨t, ht, hT⟩ := va_Tof (tm := (.static "SortWorks" "PACES" "[I")) (ty := .int) (N := 11) (f := fun i => .int (Int32.ofInt (sw_tab 2 i))) (A := A) (by decide) (hs _ (by decide +kernel)) (va_eqt (hs (Cond.eq (.length (.static "SortWorks" "PACES" "[I")) (.int 11)) (by decide +kernel))) (fun i hi => by
    match i, hi with
    | 0, _ => exact p_el (hs (Cond.eq (.elem (.static "SortWorks" "PACES" "[I") (.int 0)) (.int 1)) (by decide +kernel)) (by decide) (by decide)
    | 1, _ => exact p_el (hs (Cond.eq (.elem (.static "SortWorks" "PACES" "[I") (.int 1)) (.int 2)) (by decide +kernel)) (by decide) (by decide)
    | 2, _ => exact p_el (hs (Cond.eq (.elem (.static "SortWorks" "PACES" "[I") (.int 2)) (.int 1)) (by decide +kernel)) (by decide) (by decide)
    | 3, _ => exact p_el (hs (Cond.eq (.elem (.static "SortWorks" "PACES" "[I") (.int 3)) (.int 1)) (by decide +kernel)) (by decide) (by decide)
    | 4, _ => exact p_el (hs (Cond.eq (.elem (.static "SortWorks" "PACES" "[I") (.int 4)) (.int 2)) (by decide +kernel)) (by decide) (by decide)
    | 5, _ => exact p_el (hs (Cond.eq (.elem (.static "SortWorks" "PACES" "[I") (.int 5)) (.int 1)) (by decide +kernel)) (by decide) (by decide)
    | 6, _ => exact p_el (hs (Cond.eq (.elem (.static "SortWorks" "PACES" "[I") (.int 6)) (.int 1)) (by decide +kernel)) (by decide) (by decide)
    | 7, _ => exact p_el (hs (Cond.eq (.elem (.static "SortWorks" "PACES" "[I") (.int 7)) (.int 1)) (by decide +kernel)) (by decide) (by decide)
    | 8, _ => exact p_el (hs (Cond.eq (.elem (.static "SortWorks" "PACES" "[I") (.int 8)) (.int 1)) (by decide +kernel)) (by decide) (by decide)
    | 9, _ => exact p_el (hs (Cond.eq (.elem (.static "SortWorks" "PACES" "[I") (.int 9)) (.int 1)) (by decide +kernel)) (by decide) (by decide)
    | 10, _ => exact p_el (hs (Cond.eq (.elem (.static "SortWorks" "PACES" "[I") (.int 10)) (.int 1)) (by decide +kernel)) (by decide) (by decide)
    | i + 11, hi => exact absurd hi (by omega)) hA
  exact ⟨t, va_Zof (hts _ (List.mem_append_right _ (p_tb4 (List.mem_of_getElem? (i := 201) (by decide +kernel)))) : (Cond.laysStatic "SortWorks" "PACES" "[I").before #[Value.ref b] s = true) (hts _ (List.mem_append_right _ (p_tb1 (List.mem_of_getElem? (i := 1) (by decide +kernel)))) : (Cond.initialized "SortWorks").before #[Value.ref b] s = true) ht hA, hT⟩
set_option maxRecDepth 100000 in
theorem p_tab3 {s : State} {b : Nat} {A : Nat → Prop} (hts : ∀ w ∈ lw_tbl, w.before #[Value.ref b] s = true) (hgv : (Jvm.Cond.and given_1 narrow_1).before #[Value.ref b] s = true) (hA : ∀ a : Nat, a < s.heap.size → ¬ A a) : ∃ t : Nat, va_Z "SortWorks" "BODIES" "[I" (.ref t) A s s.heap ∧ va_T .int t 33 (fun i => .int (Int32.ofInt (sw_tab 3 i))) A s s.heap := by
  have hs := flat_of_before _ hgv
  obtain ⟨t, ht, hT⟩ := va_Tof (tm := (.static "SortWorks" "BODIES" "[I")) (ty := .int) (N := 33) (f := fun i => .int (Int32.ofInt (sw_tab 3 i))) (A := A) (by decide) (hs _ (by decide +kernel)) (va_eqt (hs (Cond.eq (.length (.static "SortWorks" "BODIES" "[I")) (.int 33)) (by decide +kernel))) (fun i hi => by
    match i, hi with
    | 0, _ => exact p_el (hs (Cond.eq (.elem (.static "SortWorks" "BODIES" "[I") (.int 0)) (.int 1)) (by decide +kernel)) (by decide) (by decide)
    | 1, _ => exact p_el (hs (Cond.eq (.elem (.static "SortWorks" "BODIES" "[I") (.int 1)) (.int 0)) (by decide +kernel)) (by decide) (by decide)
    | 2, _ => exact p_el (hs (Cond.eq (.elem (.static "SortWorks" "BODIES" "[I") (.int 2)) (.int 0)) (by decide +kernel)) (by decide) (by decide)
    | 3, _ => exact p_el (hs (Cond.eq (.elem (.static "SortWorks" "BODIES" "[I") (.int 3)) (.int 2)) (by decide +kernel)) (by decide) (by decide)
    | 4, _ => exact p_el (hs (Cond.eq (.elem (.static "SortWorks" "BODIES" "[I") (.int 4)) (.int 1)) (by decide +kernel)) (by decide) (by decide)
    | 5, _ => exact p_el (hs (Cond.eq (.elem (.static "SortWorks" "BODIES" "[I") (.int 5)) (.int 0)) (by decide +kernel)) (by decide) (by decide)
    | 6, _ => exact p_el (hs (Cond.eq (.elem (.static "SortWorks" "BODIES" "[I") (.int 6)) (.int 3)) (by decide +kernel)) (by decide) (by decide)
    | 7, _ => exact p_el (hs (Cond.eq (.elem (.static "SortWorks" "BODIES" "[I") (.int 7)) (.int 1)) (by decide +kernel)) (by decide) (by decide)
    | 8, _ => exact p_el (hs (Cond.eq (.elem (.static "SortWorks" "BODIES" "[I") (.int 8)) (.int 0)) (by decide +kernel)) (by decide) (by decide)
    | 9, _ => exact p_el (hs (Cond.eq (.elem (.static "SortWorks" "BODIES" "[I") (.int 9)) (.int 4)) (by decide +kernel)) (by decide) (by decide)
    | 10, _ => exact p_el (hs (Cond.eq (.elem (.static "SortWorks" "BODIES" "[I") (.int 10)) (.int 1)) (by decide +kernel)) (by decide) (by decide)
    | 11, _ => exact p_el (hs (Cond.eq (.elem (.static "SortWorks" "BODIES" "[I") (.int 11)) (.int 0)) (by decide +kernel)) (by decide) (by decide)
    | 12, _ => exact p_el (hs (Cond.eq (.elem (.static "SortWorks" "BODIES" "[I") (.int 12)) (.int 5)) (by decide +kernel)) (by decide) (by decide)
    | 13, _ => exact p_el (hs (Cond.eq (.elem (.static "SortWorks" "BODIES" "[I") (.int 13)) (.int 4)) (by decide +kernel)) (by decide) (by decide)
    | 14, _ => exact p_el (hs (Cond.eq (.elem (.static "SortWorks" "BODIES" "[I") (.int 14)) (.int 1)) (by decide +kernel)) (by decide) (by decide)
    | 15, _ => exact p_el (hs (Cond.eq (.elem (.static "SortWorks" "BODIES" "[I") (.int 15)) (.int 6)) (by decide +kernel)) (by decide) (by decide)
    | 16, _ => exact p_el (hs (Cond.eq (.elem (.static "SortWorks" "BODIES" "[I") (.int 16)) (.int 0)) (by decide +kernel)) (by decide) (by decide)
    | 17, _ => exact p_el (hs (Cond.eq (.elem (.static "SortWorks" "BODIES" "[I") (.int 17)) (.int 0)) (by decide +kernel)) (by decide) (by decide)
    | 18, _ => exact p_el (hs (Cond.eq (.elem (.static "SortWorks" "BODIES" "[I") (.int 18)) (.int 7)) (by decide +kernel)) (by decide) (by decide)
    | 19, _ => exact p_el (hs (Cond.eq (.elem (.static "SortWorks" "BODIES" "[I") (.int 19)) (.int 6)) (by decide +kernel)) (by decide) (by decide)
    | 20, _ => exact p_el (hs (Cond.eq (.elem (.static "SortWorks" "BODIES" "[I") (.int 20)) (.int 0)) (by decide +kernel)) (by decide) (by decide)
    | 21, _ => exact p_el (hs (Cond.eq (.elem (.static "SortWorks" "BODIES" "[I") (.int 21)) (.int 8)) (by decide +kernel)) (by decide) (by decide)
    | 22, _ => exact p_el (hs (Cond.eq (.elem (.static "SortWorks" "BODIES" "[I") (.int 22)) (.int 0)) (by decide +kernel)) (by decide) (by decide)
    | 23, _ => exact p_el (hs (Cond.eq (.elem (.static "SortWorks" "BODIES" "[I") (.int 23)) (.int 0)) (by decide +kernel)) (by decide) (by decide)
    | 24, _ => exact p_el (hs (Cond.eq (.elem (.static "SortWorks" "BODIES" "[I") (.int 24)) (.int 9)) (by decide +kernel)) (by decide) (by decide)
    | 25, _ => exact p_el (hs (Cond.eq (.elem (.static "SortWorks" "BODIES" "[I") (.int 25)) (.int 0)) (by decide +kernel)) (by decide) (by decide)
    | 26, _ => exact p_el (hs (Cond.eq (.elem (.static "SortWorks" "BODIES" "[I") (.int 26)) (.int 0)) (by decide +kernel)) (by decide) (by decide)
    | 27, _ => exact p_el (hs (Cond.eq (.elem (.static "SortWorks" "BODIES" "[I") (.int 27)) (.int 10)) (by decide +kernel)) (by decide) (by decide)
    | 28, _ => exact p_el (hs (Cond.eq (.elem (.static "SortWorks" "BODIES" "[I") (.int 28)) (.int 0)) (by decide +kernel)) (by decide) (by decide)
    | 29, _ => exact p_el (hs (Cond.eq (.elem (.static "SortWorks" "BODIES" "[I") (.int 29)) (.int 0)) (by decide +kernel)) (by decide) (by decide)
    | 30, _ => exact p_el (hs (Cond.eq (.elem (.static "SortWorks" "BODIES" "[I") (.int 30)) (.int 11)) (by decide +kernel)) (by decide) (by decide)
    | 31, _ => exact p_el (hs (Cond.eq (.elem (.static "SortWorks" "BODIES" "[I") (.int 31)) (.int 0)) (by decide +kernel)) (by decide) (by decide)
    | 32, _ => exact p_el (hs (Cond.eq (.elem (.static "SortWorks" "BODIES" "[I") (.int 32)) (.int 0)) (by decide +kernel)) (by decide) (by decide)
    | i + 33, hi => exact absurd hi (by omega)) hA
  exact ⟨t, va_Zof (hts _ (List.mem_append_right _ (p_tb4 (List.mem_of_getElem? (i := 225) (by decide +kernel)))) : (Cond.laysStatic "SortWorks" "BODIES" "[I").before #[Value.ref b] s = true) (hts _ (List.mem_append_right _ (p_tb1 (List.mem_of_getElem? (i := 1) (by decide +kernel)))) : (Cond.initialized "SortWorks").before #[Value.ref b] s = true) ht hA, hT⟩
theorem p_clAt : ∀ (k : Nat) (q : vw_C), sw_cl[k]? = some q → p_Cl k q := by
  intro k q h
  match k, h with
  | 0, h => cases h; exact cl_0
  | 1, h => cases h; exact cl_1
  | 2, h => cases h; exact cl_2
  | 3, h => cases h; exact cl_3
  | 4, h => cases h; exact cl_4
  | 5, h => cases h; exact cl_5
  | 6, h => cases h; exact cl_6
  | 7, h => cases h; exact cl_7
  | 8, h => cases h; exact cl_8
  | 9, h => cases h; exact cl_9
  | 10, h => cases h; exact cl_10
  | 11, h => cases h; exact cl_11
  | k + 12, h => simp [sw_cl] at h
set_option maxRecDepth 100000 in
set_option maxHeartbeats 4000000 in
theorem p_start {s : State} {b L : Nat} {xs : Nat → Int32} (hts : ∀ w ∈ lw_tbl, w.before #[Value.ref b] s = true) (hX : va_X b L xs s s.heap) (hbl : b < s.heap.size) (hL : L ≤ 1000000) (hgv : (Jvm.Cond.and given_1 narrow_1).before #[Value.ref b] s = true) :
    ∃ K : p_K, p_E K s s.heap ∧ K.1 + 1 = s.heap.size ∧ K.2.2.2.2.1 9 = b ∧ K.2.2.2.2.2.1 = L ∧ K.2.2.2.2.2.2 = (fun i => (xs i).toInt) := by
  have hgw : ∀ w ∈ sw_gw, w.before #[Value.ref b] s = true := fun w hw => hts w (List.mem_filter.mp hw).1
  have hA : ∀ a : Nat, a < s.heap.size → ¬ (s.heap.size - 1 < a) := fun a ha => by omega
  have hk : ∀ k : Nat, ∃ (c : ClassId) (i : Nat → Nat), ∀ q : vw_C, sw_cl[k]? = some q → u_Kn s q.1 q.2.1 q.2.2 c i := by
    intro k
    cases hq : sw_cl[k]? with
    | none => exact ⟨s.heap.size, fun j => j, fun q h => by cases h⟩
    | some q =>
      have C := p_clAt k q hq
      obtain ⟨c, i, h⟩ := u_known hgw C.2.1 (hgw _ C.2.2.2.2.1)
      exact ⟨c, i, fun q' h' => by cases h'; exact h⟩
  obtain ⟨a0, r0⟩ := p_arP (ty := .int) rfl (fun C h => by cases h) (hts _ (List.mem_append_right _ (p_tb1 (List.mem_of_getElem? (i := 69) (by decide +kernel)))) : (Cond.arrayClass .int).before #[Value.ref b] s = true)
  obtain ⟨a1, r1⟩ := p_arP (ty := .long) rfl (fun C h => by cases h) (hts _ (List.mem_append_right _ (p_tb1 (List.mem_of_getElem? (i := 172) (by decide +kernel)))) : (Cond.arrayClass .long).before #[Value.ref b] s = true)
  obtain ⟨a2, r2⟩ := p_arP (ty := .boolean) rfl (fun C h => by cases h) (hts _ (List.mem_append_right _ (p_tb7 (List.mem_of_getElem? (i := 56) (by decide +kernel)))) : (Cond.arrayClass .boolean).before #[Value.ref b] s = true)
  obtain ⟨a3, r3⟩ := p_arA (t := .int) (hts _ (List.mem_append_right _ (p_tb2 (List.mem_of_getElem? (i := 116) (by decide +kernel)))) : (Cond.arrayOver (.array .int)).before #[Value.ref b] s = true)
  have o4 := (hts _ (List.mem_append_right _ (p_tb1 (List.mem_of_getElem? (i := 26) (by decide +kernel)))) : (Cond.arrayOver (.object "SortWorks$Works")).before #[Value.ref b] s = true)
  have o5 := (hts _ (List.mem_append_right _ (p_tb1 (List.mem_of_getElem? (i := 39) (by decide +kernel)))) : (Cond.arrayOver (.object "SortWorks$Gear")).before #[Value.ref b] s = true)
  have o6 := (hts _ (List.mem_append_right _ (p_tb1 (List.mem_of_getElem? (i := 41) (by decide +kernel)))) : (Cond.arrayOver (.object "SortWorks$Parcel")).before #[Value.ref b] s = true)
  obtain ⟨a4, r4⟩ := p_arO o4
  obtain ⟨a5, r5⟩ := p_arO o5
  obtain ⟨a6, r6⟩ := p_arO o6
  obtain ⟨t0, z0, v0⟩ := p_tab0 hts hgv hA
  obtain ⟨t1, z1, v1⟩ := p_tab1 hts hgv hA
  obtain ⟨t2, z2, v2⟩ := p_tab2 hts hgv hA
  obtain ⟨t3, z3, v3⟩ := p_tab3 hts hgv hA
  have hover := (hts _ (List.mem_append_right _ (p_tb2 (List.mem_of_getElem? (i := 116) (by decide +kernel)))) : (Cond.arrayOver (.array .int)).before #[Value.ref b] s = true)
  refine ⟨(s.heap.size - 1, fun k => Classical.choose (hk k), fun k => Classical.choose (Classical.choose_spec (hk k)), fun i => match i with | 0 => a0 | 1 => a1 | 2 => a2 | 3 => a3 | 4 => a4 | 5 => a5 | 6 => a6 | _ => a0, fun j => match j with | 0 => t0 | 1 => t1 | 2 => t2 | 3 => t3 | _ => b, L, fun i => (xs i).toInt), ?_, by show s.heap.size - 1 + 1 = s.heap.size; omega, rfl, rfl, rfl⟩
  refine ⟨fun ci q h => Classical.choose_spec (Classical.choose_spec (hk ci)) q h, fun i ty h => ?_, fun q hq => va_Nw.of rfl (hts _ ((by decide +kernel : ∀ q ∈ sw_nf, Cond.fieldLinkNest q.1 q.2.1 q.2.2.1 q.2.2.2.1 q.2.2.2.2.1 q.2.2.2.2.2 ∈ lw_tbl) q hq)), fun q hq => va_Nw.of rfl (hts _ ((by decide +kernel : ∀ q ∈ sw_nm, Cond.methodLinkNest q.1 q.2.1 q.2.2.1 q.2.2.2 ∈ lw_tbl) q hq)), fun C hC => ?_, over_moved (Vm.Alike.refl _) hover, fun j q h => ?_, fun j hj => ?_, fun j => ?_, fun i => p_i32 _, trivial⟩
  · match i, h with
    | 0, h => cases h; exact r0
    | 1, h => cases h; exact r1
    | 2, h => cases h; exact r2
    | 3, h => cases h; exact r3
    | 4, h => cases h; exact r4
    | 5, h => cases h; exact r5
    | 6, h => cases h; exact r6
    | i + 7, h => simp [sw_at] at h
  · simp only [sw_ao, List.mem_cons, List.not_mem_nil, or_false] at hC
    rcases hC with rfl | rfl | rfl
    · exact va_AO.of o4
    · exact va_AO.of o5
    · exact va_AO.of o6
  · match j, h with
    | 0, h => cases h; exact z0
    | 1, h => cases h; exact z1
    | 2, h => cases h; exact z2
    | 3, h => cases h; exact z3
    | j + 4, h => simp [sw_st] at h
  · have hj' : j = 0 ∨ j = 1 ∨ j = 2 ∨ j = 3 ∨ j = 9 := by
      rcases hj with h | h
      · have h : j < 4 := h
        omega
      · omega
    rcases hj' with rfl | rfl | rfl | rfl | rfl
    · exact v0
    · exact v1
    · exact v2
    · exact v3
    · obtain ⟨scr, x1, x2, x3, x4, x5⟩ := hX
      refine ⟨scr, x1, x2, x3, by show L ≤ _; omega, by show scr.slots.size.toInt32 = Int32.ofNat L; rw [x4], fun i hi => ?_, hA b hbl⟩
      rw [x5 i hi]
      show some (Value.int (xs i)) = some (Value.int (Int32.ofInt (xs i).toInt))
      rw [Int32.ofInt_toInt]
  · unfold p_tl
    split
    · exact hL
    · have h4 : j < 4 ∨ 4 ≤ j := by omega
      rcases h4 with h4 | h4
      · have hj' : j = 0 ∨ j = 1 ∨ j = 2 ∨ j = 3 := by omega
        rcases hj' with rfl | rfl | rfl | rfl <;> decide
      · have e : sw_tl j = 0 := by
          unfold sw_tl
          rw [List.getD_eq_getElem?_getD, List.getElem?_eq_none (show sw_tbs.length ≤ j from h4)]
          rfl
        rw [e]
        omega

