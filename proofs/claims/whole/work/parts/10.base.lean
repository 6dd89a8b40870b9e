/-! ===== the pure heap: how many cells, how many slots, tags, lengths, numbers, references ===== -/
abbrev p_Hp : Type := Nat × Nat × (Nat → Nat) × (Nat → Nat) × (Nat → Nat → Int) × (Nat → Nat → Nat)
def p_N (σ : p_Hp) : Nat := σ.1
def p_M (σ : p_Hp) : Nat := σ.2.1
def p_T (σ : p_Hp) : Nat → Nat := σ.2.2.1
def p_L (σ : p_Hp) : Nat → Nat := σ.2.2.2.1
def p_Z (σ : p_Hp) : Nat → Nat → Int := σ.2.2.2.2.1
def p_R (σ : p_Hp) : Nat → Nat → Nat := σ.2.2.2.2.2
def p_wZ (σ : p_Hp) (a k : Nat) (x : Int) : p_Hp := (σ.1, σ.2.1, σ.2.2.1, σ.2.2.2.1, fun b j => if b = a ∧ j = k then x else σ.2.2.2.2.1 b j, σ.2.2.2.2.2)
def p_wR (σ : p_Hp) (a k : Nat) (x : Nat) : p_Hp := (σ.1, σ.2.1, σ.2.2.1, σ.2.2.2.1, σ.2.2.2.2.1, fun b j => if b = a ∧ j = k then x else σ.2.2.2.2.2 b j)
def p_nw (σ : p_Hp) (t n : Nat) : p_Hp := (σ.1 + 1, σ.2.1 + n, fun b => if b = σ.1 + 1 then t else σ.2.2.1 b, fun b => if b = σ.1 + 1 then n else σ.2.2.2.1 b, fun b j => if b = σ.1 + 1 then 0 else σ.2.2.2.2.1 b j, fun b j => if b = σ.1 + 1 then 0 else σ.2.2.2.2.2 b j)
abbrev p_is (σ : p_Hp) (a t : Nat) : Prop := 1 ≤ a ∧ a ≤ p_N σ ∧ p_T σ a = t
/-- cells only come; a cell keeps its tag and its length -/
def p_x (σ σ' : p_Hp) : Prop := p_N σ ≤ p_N σ' ∧ p_M σ ≤ p_M σ' ∧ ∀ a, a ≤ p_N σ → p_T σ' a = p_T σ a ∧ p_L σ' a = p_L σ a
theorem p_x.rf (σ : p_Hp) : p_x σ σ := ⟨Nat.le_refl _, Nat.le_refl _, fun _ _ => ⟨rfl, rfl⟩⟩
theorem p_x.trans {σ σ1 σ2 : p_Hp} (h : p_x σ σ1) (k : p_x σ1 σ2) : p_x σ σ2 := ⟨Nat.le_trans h.1 k.1, Nat.le_trans h.2.1 k.2.1, fun a ha => ⟨(k.2.2 a (Nat.le_trans ha h.1)).1.trans (h.2.2 a ha).1, (k.2.2 a (Nat.le_trans ha h.1)).2.trans (h.2.2 a ha).2⟩⟩
theorem p_x.of {σ σ' σ2 : p_Hp} (hn : p_N σ' = p_N σ) (hm : p_M σ' = p_M σ) (ht : p_T σ' = p_T σ) (hl : p_L σ' = p_L σ) (k : p_x σ' σ2) : p_x σ σ2 := ⟨by rw [← hn]; exact k.1, by rw [← hm]; exact k.2.1, fun a ha => by rw [← ht, ← hl]; exact k.2.2 a (by rw [hn]; exact ha)⟩
theorem p_x_nw (σ : p_Hp) (t n : Nat) : p_x σ (p_nw σ t n) := ⟨Nat.le_succ _, Nat.le_add_right _ _, fun a ha => by
  have h : a ≠ σ.1 + 1 := by have : a ≤ σ.1 := ha; omega
  exact ⟨if_neg h, if_neg h⟩⟩
theorem p_is.up {σ σ' : p_Hp} {a t : Nat} (h : p_is σ a t) (k : p_x σ σ') : p_is σ' a t := ⟨h.1, Nat.le_trans h.2.1 k.1, (k.2.2 a h.2.1).1.trans h.2.2⟩
abbrev p_c (x : Int) : Prop := -2147483648 ≤ x ∧ x < 2147483648
abbrev p_c6 (x : Int) : Prop := -9223372036854775808 ≤ x ∧ x < 9223372036854775808
def p_w (x : Int) : Int := (Int32.ofInt x).toInt
def p_w6 (x : Int) : Int := (Int64.ofInt x).toInt
theorem p_w_id {x : Int} (h : p_c x) : p_w x = x := Int32.toInt_ofInt_of_le (by omega) (by omega)
theorem p_w6_id {x : Int} (h : p_c6 x) : p_w6 x = x := Int64.toInt_ofInt_of_le (by omega) (by omega)
theorem p_w_c (x : Int) : p_c (p_w x) := ⟨by have := (Int32.ofInt x).le_toInt; unfold p_w; omega, by have := (Int32.ofInt x).toInt_lt; unfold p_w; omega⟩
theorem p_w6_c (x : Int) : p_c6 (p_w6 x) := ⟨by have := (Int64.ofInt x).le_toInt; unfold p_w6; omega, by have := (Int64.ofInt x).toInt_lt; unfold p_w6; omega⟩
theorem p_w_of (x : Int) : Int32.ofInt (p_w x) = Int32.ofInt x := Int32.ofInt_toInt _
theorem p_w6_of (x : Int) : Int64.ofInt (p_w6 x) = Int64.ofInt x := Int64.ofInt_toInt _
theorem p_i32 (y : Int32) : p_c y.toInt := ⟨by have := y.le_toInt; omega, by have := y.toInt_lt; omega⟩
theorem p_i64 (y : Int64) : p_c6 y.toInt := ⟨by have := y.le_toInt; omega, by have := y.toInt_lt; omega⟩
theorem p_t {x : Int} (h : p_c x) : (Int32.ofInt x).toInt = x := p_w_id h
theorem p_t6 {x : Int} (h : p_c6 x) : (Int64.ofInt x).toInt = x := p_w6_id h
theorem p_lt {x y : Int} (hx : p_c x) (hy : p_c y) : Int32.ofInt x < Int32.ofInt y ↔ x < y := by rw [Int32.lt_iff_toInt_lt, p_t hx, p_t hy]
theorem p_le {x y : Int} (hx : p_c x) (hy : p_c y) : Int32.ofInt x ≤ Int32.ofInt y ↔ x ≤ y := by rw [Int32.le_iff_toInt_le, p_t hx, p_t hy]
theorem p_eq {x y : Int} (hx : p_c x) (hy : p_c y) : Int32.ofInt x = Int32.ofInt y ↔ x = y := by rw [← Int32.toInt_inj, p_t hx, p_t hy]
theorem p_eq0 {x : Int} (hx : p_c x) : Int32.ofInt x = 0 ↔ x = 0 := by
  have h := p_eq hx (y := 0) (by decide)
  exact h
theorem p_lt0 {x : Int} (hx : p_c x) : Int32.ofInt x < 0 ↔ x < 0 := by
  have h := p_lt hx (y := 0) (by decide)
  exact h
theorem p_le0 {x : Int} (hx : p_c x) : Int32.ofInt x ≤ 0 ↔ x ≤ 0 := by
  have h := p_le hx (y := 0) (by decide)
  exact h
theorem p_nat {x : Int} {n : Nat} (h0 : 0 ≤ x) (h1 : x < (n : Int)) (hn : n ≤ 2147483648) : (Int32.ofInt x).toNatClampNeg = x.toNat := by
  have h : p_c x := ⟨by omega, by omega⟩
  show (Int32.ofInt x).toInt.toNat = x.toNat
  rw [p_t h]
theorem p_in {x : Int} {n : Nat} (h0 : 0 ≤ x) (h1 : x < (n : Int)) (hn : n ≤ 2147483648) : ¬ (Int32.ofInt x < 0 ∨ n ≤ (Int32.ofInt x).toNatClampNeg) := by
  have h : p_c x := ⟨by omega, by omega⟩
  rw [p_lt0 h, p_nat h0 h1 hn]
  omega
/-! ===== values of a frame: int, long, reference (0: null), a static table ===== -/
abbrev p_AV : Type := Int ⊕ (Int ⊕ (Nat ⊕ Nat))
def p_i (x : Int) : p_AV := .inl x
def p_j (x : Int) : p_AV := .inr (.inl x)
def p_r (x : Nat) : p_AV := .inr (.inr (.inl x))
def p_s (x : Nat) : p_AV := .inr (.inr (.inr x))
def p_ok (v : p_AV) : Prop := match v with
  | .inl x => p_c x
  | .inr (.inl x) => p_c6 x
  | .inr (.inr _) => True
def p_cat (v : p_AV) : Nat := match v with
  | .inr (.inl _) => 2
  | _ => 1
/-- what is fixed through a run: the base, class numbers, field slots, array classes, addresses of static tables (9: the script), the script's length and ints -/
abbrev p_K : Type := Nat × (Nat → ClassId) × (Nat → Nat → Nat) × (Nat → ClassId) × (Nat → Nat) × Nat × (Nat → Int)
def p_A (K : p_K) : Nat → Prop := fun q => K.1 < q
def p_rO (B r : Nat) : Option Nat := if r = 0 then none else some (B + r)
def p_V (K : p_K) (v : p_AV) : Value := match v with
  | .inl x => .int (Int32.ofInt x)
  | .inr (.inl x) => .long (Int64.ofInt x)
  | .inr (.inr (.inl r)) => va_rf (p_rO K.1 r)
  | .inr (.inr (.inr j)) => .ref (K.2.2.2.2.1 j)
def p_q (K : p_K) (q : Nat × p_AV) : Nat × Value := (q.1, p_V K q.2)
def p_tv (K : p_K) (j i : Nat) : Int := if j = 9 then K.2.2.2.2.2.2 i else sw_tab j i
def p_tl (K : p_K) (j : Nat) : Nat := if j = 9 then K.2.2.2.2.2.1 else sw_tl j
theorem p_V_r {K : p_K} {a : Nat} (h : 1 ≤ a) : p_V K (p_r a) = .ref (K.1 + a) := by
  show va_rf (p_rO K.1 a) = _
  unfold p_rO
  rw [if_neg (by omega)]
  rfl
theorem p_V_0 {K : p_K} : p_V K (p_r 0) = .null := rfl
theorem p_V_cat (K : p_K) (v : p_AV) : (p_V K v).category = p_cat v := by
  rcases v with x | x | r | j
  · rfl
  · rfl
  · show (va_rf (p_rO K.1 r)).category = 1
    cases p_rO K.1 r <;> rfl
  · rfl
def p_sl (K : p_K) (σ : p_Hp) (a : Nat) (ty : FieldType) (k : Nat) : Value := match ty with
  | .long => .long (Int64.ofInt (p_Z σ a k))
  | .object _ => va_rf (p_rO K.1 (p_R σ a k))
  | .array _ => va_rf (p_rO K.1 (p_R σ a k))
  | _ => .int (Int32.ofInt (p_Z σ a k))
def p_okT (ty : FieldType) (x : Int) : Prop := match ty with
  | .long => p_c6 x
  | .boolean => x = 0 ∨ x = 1
  | .object _ => True
  | .array _ => True
  | _ => p_c x
/-- the tables of the classes, the statics: what is so at every state -/
def p_E (K : p_K) (U : State) (H : Heap) : Prop :=
  (∀ (ci : Nat) (q : vw_C), sw_cl[ci]? = some q → u_Kn U q.1 q.2.1 q.2.2 (K.2.1 ci) (K.2.2.1 ci)) ∧
  (∀ (i : Nat) (ty : FieldType), sw_at[i]? = some ty → ArrOfT U (K.2.2.2.1 i) ty ∧ va_RA U (K.2.2.2.1 i) ty) ∧
  (∀ q ∈ sw_nf, va_Nw (.fieldLinkNest q.1 q.2.1 q.2.2.1 q.2.2.2.1 q.2.2.2.2.1 q.2.2.2.2.2) U) ∧
  (∀ q ∈ sw_nm, va_Nw (.methodLinkNest q.1 q.2.1 q.2.2.1 q.2.2.2) U) ∧
  (∀ C ∈ sw_ao, va_AO C U) ∧ (Cond.arrayOver (.array .int)).before #[] U = true ∧
  (∀ (j : Nat) (q : String × String), sw_st[j]? = some q → va_Z q.1 q.2 "[I" (.ref (K.2.2.2.2.1 j)) (p_A K) U H) ∧
  (∀ j : Nat, j < sw_st.length ∨ j = 9 → va_T .int (K.2.2.2.2.1 j) (p_tl K j) (fun i => .int (Int32.ofInt (p_tv K j i))) (p_A K) U H) ∧
  (∀ j : Nat, p_tl K j ≤ 1000000) ∧ (∀ i : Nat, p_c (K.2.2.2.2.2.2 i)) ∧ True
theorem p_E.kept {K : p_K} {U : State} {H H1 : Heap} (h : p_E K U H) (hq : ∀ a : Nat, a < H.size → ¬ p_A K a → H1[a]? = H[a]?) : p_E K U H1 := by
  obtain ⟨h1, h2, h3, h4, h5, h6, h7, h8, h9⟩ := h
  exact ⟨h1, h2, h3, h4, h5, h6, fun j q hj => (h7 j q hj).kept hq, fun j hj => (h8 j hj).kept hq, h9⟩
theorem p_E.moved {K : p_K} {s U : State} {H : Heap} (hW : s.WarmedH U.vm) (h : p_E K s H) : p_E K U H := by
  obtain ⟨h1, h2, h3, h4, h5, h6, h7, h8, h9, h10, h11⟩ := h
  have hv : s.vm.Alike U.vm := hW.alike
  exact ⟨fun ci q hq => u_Kn_moved hv (h1 ci q hq), fun i ty hi => ⟨arrOfT_moved hv (h2 i ty hi).1, (h2 i ty hi).2.moved hv⟩, fun q hq => va_Nw.warmF hW (h3 q hq), fun q hq => va_Nw.warmM hW (h4 q hq), fun C hC => va_AO.moved hv (h5 C hC), over_moved hv h6, fun j q hj => (h7 j q hj).moved hv, fun j hj => (h8 j hj).moved hv, h9, h10, h11⟩
/-- the heap holds what the pure heap says -/
def p_P (K : p_K) (σ : p_Hp) (H : Heap) : Prop :=
  H.size = K.1 + p_N σ + 1 ∧
  (∀ (a ci : Nat) (q : vw_C), p_is σ a ci → sw_cl[ci]? = some q → t_OB (K.1 + a) (K.2.1 ci) q.2.2 (K.2.2.1 ci) H (fun k => p_sl K σ a (sw_ty ci k) k) ∧ ∀ k, k < q.2.2 → p_okT (sw_ty ci k) (p_Z σ a k)) ∧
  (∀ (a i : Nat) (ty : FieldType), p_is σ a (100 + i) → sw_at[i]? = some ty → H[K.1 + a]? = some (arrV (K.2.2.2.1 i) (p_L σ a) (fun j => p_sl K σ a ty j)) ∧ (∀ j, j < p_L σ a → p_okT ty (p_Z σ a j)) ∧ p_L σ a ≤ 1000000)
/-- a method: its name, code, locals, answer's type, frames and words of locals that its calls need -/
abbrev p_Me : Type := MethodName × ByteArray × Nat × Option FieldType × Nat × Nat
def p_ws (M : p_Me) : List Cond := .code M.1 M.2.1 M.2.2.1 M.2.2.2.1 :: sw_gw
def p_rm (M : p_Me) (mc ms : Nat) : Room := { frames := M.2.2.2.2.1, cells := mc, slots := ms, locals := M.2.2.2.2.2 }
def p_ri (ret : Option FieldType) : Instr := match ret with
  | none => .return_
  | some .long => .lreturn
  | some (.object _) => .areturn
  | some (.array _) => .areturn
  | some _ => .ireturn
def p_rk (ret : Option FieldType) (v : Option p_AV) : Prop := match ret with
  | none => v = none
  | some .int => ∃ x, v = some (p_i x) ∧ p_c x
  | some .boolean => ∃ x, v = some (p_i x) ∧ (x = 0 ∨ x = 1)
  | some .long => ∃ x, v = some (p_j x) ∧ p_c6 x
  | some (.object _) => ∃ x, v = some (p_r x)
  | some (.array _) => ∃ x, v = some (p_r x)
  | some _ => False
def p_Cx (K : p_K) (M : p_Me) (p : Program) (s : State) (m : MethodId) (args : Array Value) (meth : Method) (c : Code) : Prop :=
  p.tables.exec = Jvm.exec ∧ c.code = M.2.1 ∧ c.maxLocals = M.2.2.1 ∧ meth.sig.returnType = M.2.2.2.1 ∧ s.vm.findClass M.1.cls = some m.cls ∧ (∀ w ∈ sw_gw, w.before args s = true) ∧ meth.locks = false ∧ (M.1.name = "<init>" → meth.name = "<init>") ∧ p_E K s s.heap
def p_Rt (K : p_K) (l : Launch) (M : p_Me) (o : Option p_AV × p_Hp) (p : Program) (e : Env) (s : State) (m : MethodId) (args : Array Value) (below : List Frame) (meth : Method) (c : Code) (mc ms : Nat) (Q : State → Prop) : Prop :=
  ∀ (H : Heap) (locs : List Loc) (pc : Nat) (ls : Array Slot), p_P K o.2 H → va_S (p_A K) s.heap H locs → p_rk M.2.2.2.1 o.1 → decode M.2.1 pc = .ok (p_ri M.2.2.2.1, 1) → W p l e (p_rm M mc ms) s m args below meth c H locs mc ms Q (F0 m pc ls (o.1.toList.map (p_V K)))
/-- THE JUDGEMENT: from this frame the method comes to its end, with the answer and the pure heap o -/
def p_Go (K : p_K) (l : Launch) (M : p_Me) (pc : Nat) (lv : List (Nat × p_AV)) (st : List p_AV) (σ : p_Hp) (o : Option p_AV × p_Hp) : Prop :=
  p_x σ o.2 ∧
  ∀ (p : Program) (e : Env) (s : State) (m : MethodId) (args : Array Value) (below : List Frame) (meth : Method) (c : Code) (H : Heap) (locs : List Loc) (n0 m0 mc ms : Nat) (Q : State → Prop) (ls : Array Slot),
    p_Cx K M p s m args meth c → p_P K σ H → va_S (p_A K) s.heap H locs → n0 ≤ p_N σ → m0 ≤ p_M σ → p_N o.2 ≤ n0 + mc → p_M o.2 ≤ m0 + ms →
    lv_has ls M.2.2.1 (lv.map (p_q K)) → (∀ q ∈ lv, p_ok q.2) → (∀ v ∈ st, p_ok v) → p_Rt K l M o p e s m args below meth c mc ms Q →
    W p l e (p_rm M mc ms) s m args below meth c H locs (p_N σ - n0) (p_M σ - m0) Q (F0 m pc ls (st.map (p_V K)))
theorem p_at {K : p_K} {lv : List (Nat × p_AV)} {ls : Array Slot} {n j i : Nat} {v : p_AV} (h : lv_has ls n (lv.map (p_q K))) (hj : lv[j]? = some (i, v)) : ls[i]? = some (.val (p_V K v)) :=
  lv_at h j (by rw [List.getElem?_map, hj]; rfl)
theorem p_okat {lv : List (Nat × p_AV)} {j i : Nat} {v : p_AV} (h : ∀ q ∈ lv, p_ok q.2) (hj : lv[j]? = some (i, v)) : p_ok v := h (i, v) (List.mem_of_getElem? hj)
theorem p_ok2 {v : p_AV} {st : List p_AV} (hv : p_ok v) (h : ∀ x ∈ st, p_ok x) : ∀ x ∈ v :: st, p_ok x := fun x hx => (List.mem_cons.mp hx).elim (fun e => e ▸ hv) (h x)
theorem p_okt {v : p_AV} {st : List p_AV} (h : ∀ x ∈ v :: st, p_ok x) : ∀ x ∈ st, p_ok x := fun x hx => h x (List.mem_cons_of_mem _ hx)
theorem p_okh {v : p_AV} {st : List p_AV} (h : ∀ x ∈ v :: st, p_ok x) : p_ok v := h v List.mem_cons_self
