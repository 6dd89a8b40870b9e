/-! ===== an object in the making ===== -/
def Ch (Fi : Nat → p_Hp → Option p_Hp) (v N' M jt jl jt' jl' : Nat) : Prop := ∀ s, HS v jt jl s → (∀ j, p_Z s v j = 0 ∧ p_R s v j = 0) → ∃ s', Fi v s = some s' ∧ Mk v N' M jt' jl' s s'
/-- the open cells O hold F and G, all others from v on are done -/
def St (v N M jt jl : Nat) (s0 s : p_Hp) (O : List Nat) (F : Nat → Nat → Nat) (G : Nat → Nat → Int) : Prop := HS N jt jl s ∧ p_M s = p_M s0 + M ∧ Fb v s0 s ∧ (∀ b ∈ O, v ≤ b ∧ b ≤ N ∧ ∀ j, p_R s b j = F b j ∧ p_Z s b j = G b j) ∧ (∀ b, v ≤ b → b ≤ N → b ∉ O → Dn s b)
def oF (n : Nat) (F : Nat → Nat → Nat) : Nat → Nat → Nat := fun b j => if b = n then 0 else F b j
def oG (n : Nat) (G : Nat → Nat → Int) : Nat → Nat → Int := fun b j => if b = n then 0 else G b j
def uF (a k x : Nat) (F : Nat → Nat → Nat) : Nat → Nat → Nat := fun b j => if b = a ∧ j = k then x else F b j
def uG (a k : Nat) (x : Int) (G : Nat → Nat → Int) : Nat → Nat → Int := fun b j => if b = a ∧ j = k then x else G b j
theorem oF_at (n : Nat) (F : Nat → Nat → Nat) (b j : Nat) : oF n F b j = if b = n then 0 else F b j := rfl
theorem oG_at (n : Nat) (G : Nat → Nat → Int) (b j : Nat) : oG n G b j = if b = n then 0 else G b j := rfl
theorem uF_at (a k x : Nat) (F : Nat → Nat → Nat) (b j : Nat) : uF a k x F b j = if b = a ∧ j = k then x else F b j := rfl
theorem uG_at (a k : Nat) (x : Int) (G : Nat → Nat → Int) (b j : Nat) : uG a k x G b j = if b = a ∧ j = k then x else G b j := rfl
theorem St.start {v jt jl : Nat} {s : p_Hp} (h : HS v jt jl s) (h0 : ∀ j, p_Z s v j = 0 ∧ p_R s v j = 0) : St v v 0 jt jl s s [v] (fun _ _ => 0) (fun _ _ => 0) := by
  refine ⟨h, rfl, fun b j _ => ⟨rfl, rfl⟩, fun b hb => ?_, fun b h1 h2 h3 => ?_⟩
  · have e := List.mem_singleton.mp hb
    subst e
    exact ⟨Nat.le_refl _, Nat.le_refl _, fun j => ⟨(h0 j).2, (h0 j).1⟩⟩
  · exact absurd (List.mem_singleton.mpr (by omega)) h3
theorem St.fin {v N M jt jl : Nat} {s0 s : p_Hp} {O : List Nat} {F : Nat → Nat → Nat} {G : Nat → Nat → Int} (h : St v N M jt jl s0 s O F G) (hO : ∀ b ∈ O, ∀ j, G b j = h_Z c0 m0 b j ∧ F b j = h_R c0 b j) : Mk v N M jt jl s0 s := by
  obtain ⟨h1, h2, h3, h4, h5⟩ := h
  refine ⟨h1, h2, h3, fun b g1 g2 => ?_⟩
  by_cases e : b ∈ O
  · intro j
    rw [((h4 b e).2.2 j).1, ((h4 b e).2.2 j).2]
    exact hO b e j
  · exact h5 b g1 g2 e
theorem c_gd {β : Type} {c : Prop} [Decidable c] {x : Option β} {P : β → Prop} (hc : c) (h : ∃ r, x = some r ∧ P r) : ∃ r, p_gd c x = some r ∧ P r := by
  rw [gd1 hc]; exact h
theorem St.is {v N M jt jl : Nat} {s0 s : p_Hp} {O : List Nat} {F : Nat → Nat → Nat} {G : Nat → Nat → Int} (h : St v N M jt jl s0 s O F G) {a t : Nat} (h1 : 1 ≤ a) (h2 : a ≤ N) (ht : h_T a = t) : p_is s a t := h.1.is h1 h2 ht
theorem St.len {v N M jt jl : Nat} {s0 s : p_Hp} {O : List Nat} {F : Nat → Nat → Nat} {G : Nat → Nat → Int} (h : St v N M jt jl s0 s O F G) {a n : Nat} (h2 : a ≤ N) (hl : h_L a = n) : p_L s a = n := (h.1.len h2).trans hl
/-- a cell made and left open -/
theorem St.nwO {v N M jt jl t n N' : Nat} {s0 s : p_Hp} {O : List Nat} {F : Nat → Nat → Nat} {G : Nat → Nat → Int} (h : St v N M jt jl s0 s O F G) (hN : N + 1 = N') (hc : h_T N' = t ∧ h_L N' = n) (hv : v ≤ N') {β : Type} {K : p_Hp → Option β} {P : β → Prop} (hk : ∀ s', p_N s = N → St v N' (M + n) jt jl s0 s' (N' :: O) (oF N' F) (oG N' G) → ∃ r, K s' = some r ∧ P r) : ∃ r, p_bi (p_nw s t n) K = some r ∧ P r := by
  subst hN
  obtain ⟨h1, h2, h3, h4, h5⟩ := h
  have eN : s.1 = N := h1.1
  have aZ : ∀ b j, p_Z (p_nw s t n) b j = if b = N + 1 then 0 else p_Z s b j := fun b j => by rw [← eN]; rfl
  have aR : ∀ b j, p_R (p_nw s t n) b j = if b = N + 1 then 0 else p_R s b j := fun b j => by rw [← eN]; rfl
  rw [bi1]
  refine hk _ eN ⟨h1.nw hc.1 hc.2, ?_, fun b j hb => ?_, fun b hb => ?_, fun b g1 g2 g3 => ?_⟩
  · show p_M s + n = _
    omega
  · rw [aZ, aR]
    by_cases e : b = N + 1
    · omega
    · rw [if_neg e, if_neg e]; exact h3 b j hb
  · by_cases e : b = N + 1
    · subst e
      refine ⟨hv, Nat.le_refl _, fun j => ?_⟩
      rw [aZ, aR, oF_at, oG_at, if_pos rfl, if_pos rfl, if_pos rfl, if_pos rfl]
      exact ⟨rfl, rfl⟩
    · have hb' : b ∈ O := (List.mem_cons.mp hb).resolve_left e
      refine ⟨(h4 b hb').1, by have := (h4 b hb').2.1; omega, fun j => ?_⟩
      rw [aZ, aR, oF_at, oG_at, if_neg e, if_neg e, if_neg e, if_neg e]
      exact (h4 b hb').2.2 j
  · have e : b ≠ N + 1 := fun w => g3 (by rw [w]; exact List.mem_cons_self)
    have := h5 b g1 (by omega) (fun w => g3 (List.mem_cons_of_mem _ w))
    intro j
    rw [aZ, aR, if_neg e, if_neg e]
    exact this j
/-- an array of numbers made -/
theorem St.nwA {v N M jt jl t n N' : Nat} {s0 s : p_Hp} {O : List Nat} {F : Nat → Nat → Nat} {G : Nat → Nat → Int} (h : St v N M jt jl s0 s O F G) (hN : N + 1 = N') (hc : h_T N' = t ∧ h_L N' = n) (ht : t = 100 ∨ t = 101 ∨ t = 102) (hv : v ≤ N') (hb : N' ≤ 1124 ∧ N' % 369 ≠ 0) {β : Type} {K : p_Hp → Option β} {P : β → Prop} (hk : ∀ s', p_N s = N → St v N' (M + n) jt jl s0 s' O F G → ∃ r, K s' = some r ∧ P r) : ∃ r, p_bi (p_nw s t n) K = some r ∧ P r := by
  refine h.nwO hN hc hv (fun s' e h' => hk s' e ?_)
  obtain ⟨h1, h2, h3, h4, h5⟩ := h'
  have nO : ∀ b ∈ O, b ≠ N' := fun b hb => by have := (h.2.2.2.1 b hb).2.1; omega
  refine ⟨h1, h2, h3, fun b hb => ?_, fun b g1 g2 g3 => ?_⟩
  · have := h4 b (List.mem_cons_of_mem _ hb)
    refine ⟨this.1, this.2.1, fun j => ?_⟩
    have := this.2.2 j
    rw [oF_at, oG_at, if_neg (nO b hb), if_neg (nO b hb)] at this
    exact this
  · by_cases e : b = N'
    · subst e
      refine Dn.arr2 (by omega) hb.1 hb.2 (by rw [hc.1]; exact ht) (fun j => ?_)
      have := (h4 b List.mem_cons_self).2.2 j
      rw [oF_at, oG_at, if_pos rfl, if_pos rfl] at this
      exact ⟨this.2, this.1⟩
    · exact h5 b g1 g2 (fun w => (List.mem_cons.mp w).elim e g3)
theorem St.wR {v N M jt jl : Nat} {s0 s : p_Hp} {O : List Nat} {F : Nat → Nat → Nat} {G : Nat → Nat → Int} (h : St v N M jt jl s0 s O F G) {a : Nat} (ha : a ∈ O) {k x : Nat} {β : Type} {K : p_Hp → Option β} {P : β → Prop} (hk : ∀ s', St v N M jt jl s0 s' O (uF a k x F) G → ∃ r, K s' = some r ∧ P r) : ∃ r, p_bi (p_wR s a k x) K = some r ∧ P r := by
  obtain ⟨h1, h2, h3, h4, h5⟩ := h
  have aR : ∀ b j, p_R (p_wR s a k x) b j = if b = a ∧ j = k then x else p_R s b j := fun b j => rfl
  rw [bi1]
  have hv := (h4 a ha).1
  refine hk _ ⟨h1.wR (h4 a ha).2.1 k x, h2, fun b j hb => ?_, fun b hb => ⟨(h4 b hb).1, (h4 b hb).2.1, fun j => ?_⟩, fun b g1 g2 g3 => ?_⟩
  · rw [aR, if_neg (by omega)]
    exact h3 b j hb
  · rw [aR, ((h4 b hb).2.2 j).1]
    exact ⟨rfl, ((h4 b hb).2.2 j).2⟩
  · intro j
    rw [aR, if_neg (show ¬ (b = a ∧ j = k) from fun w => g3 (w.1 ▸ ha))]
    exact h5 b g1 g2 g3 j
theorem St.wZ {v N M jt jl : Nat} {s0 s : p_Hp} {O : List Nat} {F : Nat → Nat → Nat} {G : Nat → Nat → Int} (h : St v N M jt jl s0 s O F G) {a : Nat} (ha : a ∈ O) {k : Nat} {x : Int} {β : Type} {K : p_Hp → Option β} {P : β → Prop} (hk : ∀ s', St v N M jt jl s0 s' O F (uG a k x G) → ∃ r, K s' = some r ∧ P r) : ∃ r, p_bi (p_wZ s a k x) K = some r ∧ P r := by
  obtain ⟨h1, h2, h3, h4, h5⟩ := h
  have aZ : ∀ b j, p_Z (p_wZ s a k x) b j = if b = a ∧ j = k then x else p_Z s b j := fun b j => rfl
  rw [bi1]
  have hv := (h4 a ha).1
  refine hk _ ⟨h1.wZ (h4 a ha).2.1 k x, h2, fun b j hb => ?_, fun b hb => ⟨(h4 b hb).1, (h4 b hb).2.1, fun j => ?_⟩, fun b g1 g2 g3 => ?_⟩
  · rw [aZ, if_neg (by omega)]
    exact h3 b j hb
  · rw [aZ, ((h4 b hb).2.2 j).2]
    exact ⟨((h4 b hb).2.2 j).1, rfl⟩
  · intro j
    rw [aZ, if_neg (show ¬ (b = a ∧ j = k) from fun w => g3 (w.1 ▸ ha))]
    exact h5 b g1 g2 g3 j
/-- an object made by its own maker -/
theorem St.obj {v N M jt jl t n N' : Nat} {s0 s : p_Hp} {O : List Nat} {F : Nat → Nat → Nat} {G : Nat → Nat → Int} (h : St v N M jt jl s0 s O F G) (hN : N + 1 = N') (hc : h_T N' = t ∧ h_L N' = n) {Fi : Nat → p_Hp → Option p_Hp} {N'' M' jt' jl' : Nat} (hC : Ch Fi N' N'' M' jt jl jt' jl') (hv : v ≤ N') (hle : N' ≤ N'') {β : Type} {K : p_Hp → Option β} {P : β → Prop} (hk : ∀ s', p_N s = N → St v N'' (M + n + M') jt' jl' s0 s' O F G → ∃ r, K s' = some r ∧ P r) : ∃ r, (p_bi (p_nw s t n) fun s2 => p_bv (Fi (p_N s + 1) s2) K) = some r ∧ P r := by
  refine h.nwO hN hc hv (fun s1 e h' => ?_)
  obtain ⟨h1, h2, h3, h4, h5⟩ := h'
  have z := (h4 N' List.mem_cons_self).2.2
  obtain ⟨s', e1, g1, g2, g3, g4⟩ := hC s1 h1 (fun j => by have := z j; rw [oF_at, oG_at, if_pos rfl, if_pos rfl] at this; exact ⟨this.2, this.1⟩)
  rw [e, hN, e1]
  refine hk s' e ⟨g1, by rw [g2, h2]; omega, fun b j hb => ?_, fun b hb => ?_, fun b w1 w2 w3 => ?_⟩
  · rw [(g3 b j (by omega)).1, (g3 b j (by omega)).2]
    exact h3 b j hb
  · have q := h.2.2.2.1 b hb
    have nb : b ≠ N' := by omega
    have := h4 b (List.mem_cons_of_mem _ hb)
    refine ⟨q.1, by omega, fun j => ?_⟩
    rw [(g3 b j (by omega)).1, (g3 b j (by omega)).2]
    have := this.2.2 j
    rw [oF_at, oG_at, if_neg nb, if_neg nb] at this
    exact this
  · by_cases e2 : N' ≤ b
    · exact g4 b e2 w2
    · intro j
      rw [(g3 b j (by omega)).1, (g3 b j (by omega)).2]
      exact h5 b w1 (by omega) (fun w => (List.mem_cons.mp w).elim (by omega) w3) j
