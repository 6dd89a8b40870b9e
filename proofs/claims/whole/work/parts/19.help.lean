/-! ===== how the pure functions are written ===== -/
def p_gd {β : Type} (c : Prop) [Decidable c] (x : Option β) : Option β := if c then x else none
def p_bi {α β : Type} (e : α) (k : α → β) : β := k e
def p_bd {α β : Type} (x : Option (α × p_Hp)) (k : α → p_Hp → Option β) : Option β := match x with
  | none => none
  | some q => k q.1 q.2
def p_bv {β : Type} (x : Option p_Hp) (k : p_Hp → Option β) : Option β := match x with
  | none => none
  | some q => k q
theorem p_gdE {β : Type} {c : Prop} [Decidable c] {x : Option β} {r : β} (h : p_gd c x = some r) : c ∧ x = some r := by
  unfold p_gd at h
  by_cases hc : c
  · rw [if_pos hc] at h; exact ⟨hc, h⟩
  · rw [if_neg hc] at h; cases h
theorem p_bdE {α β : Type} {x : Option (α × p_Hp)} {k : α → p_Hp → Option β} {r : β} (h : p_bd x k = some r) : ∃ a s, x = some (a, s) ∧ k a s = some r := by
  cases x with
  | none => cases h
  | some q => exact ⟨q.1, q.2, rfl, h⟩
theorem p_bvE {β : Type} {x : Option p_Hp} {k : p_Hp → Option β} {r : β} (h : p_bv x k = some r) : ∃ s, x = some s ∧ k s = some r := by
  cases x with
  | none => cases h
  | some q => exact ⟨q, rfl, h⟩
theorem p_ifT {β : Type} {c : Prop} [Decidable c] {x y : Option β} {r : β} (hc : c) (h : (if c then x else y) = some r) : x = some r := by rw [if_pos hc] at h; exact h
theorem p_ifF {β : Type} {c : Prop} [Decidable c] {x y : Option β} {r : β} (hc : ¬ c) (h : (if c then x else y) = some r) : y = some r := by rw [if_neg hc] at h; exact h
theorem p_iteE {β : Type} {c : Prop} [Decidable c] {x y : Option β} {r : β} (h : (if c then x else y) = some r) : (c ∧ x = some r) ∨ (¬ c ∧ y = some r) := by
  by_cases hc : c
  · exact Or.inl ⟨hc, p_ifT hc h⟩
  · exact Or.inr ⟨hc, p_ifF hc h⟩
theorem p_ltG {α β : Type} {e : α} {k : α → Option β} {r : β} {P : α → Prop} (hk : ∀ x, k x = some r → P x) (h : p_bi e k = some r) : P e := hk e h
theorem p_ltS {β : Type} {σ σ' : p_Hp} {k : p_Hp → Option β} {r : β} {P : p_Hp → Prop} (hx : p_x σ σ') (hk : ∀ x, p_x σ x → k x = some r → P x) (h : p_bi σ' k = some r) : P σ' := hk σ' hx h
theorem p_xZ (σ : p_Hp) (a k : Nat) (x : Int) : p_x σ (p_wZ σ a k x) := ⟨Nat.le_refl _, Nat.le_refl _, fun _ _ => ⟨rfl, rfl⟩⟩
theorem p_xR (σ : p_Hp) (a k : Nat) (x : Nat) : p_x σ (p_wR σ a k x) := ⟨Nat.le_refl _, Nat.le_refl _, fun _ _ => ⟨rfl, rfl⟩⟩
theorem p_xC (σ : p_Hp) (a b c d e : Nat) : p_x σ (p_cp σ a b c d e) := ⟨Nat.le_refl _, Nat.le_refl _, fun _ _ => ⟨rfl, rfl⟩⟩
theorem p_dk {b : ByteArray} {t : List (Nat × Instr × Nat)} (h : t.all (fun q => decide (decode b q.1 = .ok (q.2.1, q.2.2))) = true) (i : Nat) {pc : Nat} {ins : Instr} {len : Nat} (hq : t[i]? = some (pc, ins, len)) : decode b pc = .ok (ins, len) := by
  have h1 := List.all_eq_true.mp h (pc, ins, len) (List.mem_of_getElem? hq)
  exact of_decide_eq_true h1
theorem p_mem {w : Cond} (h : w ∈ tables_1) (hg : goodWord w = true) : w ∈ sw_gw := List.mem_filter.mpr ⟨List.mem_append_right _ h, hg⟩
theorem p_mes {w : Cond} (h : w ∈ k2_sels lw_privs) (hg : goodWord w = true) : w ∈ sw_gw := List.mem_filter.mpr ⟨List.mem_append_left _ h, hg⟩
theorem p_tb1 {w : Cond} (h : w ∈ tables_1_1) : w ∈ tables_1 := (List.mem_append_left _ h)
theorem p_tb2 {w : Cond} (h : w ∈ tables_1_2) : w ∈ tables_1 := (List.mem_append_right _ (List.mem_append_left _ h))
theorem p_tb3 {w : Cond} (h : w ∈ tables_1_3) : w ∈ tables_1 := (List.mem_append_right _ (List.mem_append_right _ (List.mem_append_left _ h)))
theorem p_tb4 {w : Cond} (h : w ∈ tables_1_4) : w ∈ tables_1 := (List.mem_append_right _ (List.mem_append_right _ (List.mem_append_right _ (List.mem_append_left _ h))))
theorem p_tb5 {w : Cond} (h : w ∈ tables_1_5) : w ∈ tables_1 := (List.mem_append_right _ (List.mem_append_right _ (List.mem_append_right _ (List.mem_append_right _ (List.mem_append_left _ h)))))
theorem p_tb6 {w : Cond} (h : w ∈ tables_1_6) : w ∈ tables_1 := (List.mem_append_right _ (List.mem_append_right _ (List.mem_append_right _ (List.mem_append_right _ (List.mem_append_right _ (List.mem_append_left _ h))))))
theorem p_tb7 {w : Cond} (h : w ∈ tables_1_7) : w ∈ tables_1 := (List.mem_append_right _ (List.mem_append_right _ (List.mem_append_right _ (List.mem_append_right _ (List.mem_append_right _ (List.mem_append_right _ (List.mem_append_left _ h)))))))
theorem p_tb8 {w : Cond} (h : w ∈ tables_1_8) : w ∈ tables_1 := (List.mem_append_right _ (List.mem_append_right _ (List.mem_append_right _ (List.mem_append_right _ (List.mem_append_right _ (List.mem_append_right _ (List.mem_append_right _ (List.mem_append_left _ h))))))))
theorem p_tb9 {w : Cond} (h : w ∈ tables_1_9) : w ∈ tables_1 := (List.mem_append_right _ (List.mem_append_right _ (List.mem_append_right _ (List.mem_append_right _ (List.mem_append_right _ (List.mem_append_right _ (List.mem_append_right _ (List.mem_append_right _ h))))))))
