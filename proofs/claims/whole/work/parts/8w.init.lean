/-! ===== the first state ===== -/
def c0 : h_C := fun f i k => if f = 3 ∨ f = 15 ∨ f = 19 then (if 1 ≤ i ∧ k = 0 then -1 else 0) else if f = 100 then (if k = 0 then ((i % 31 : Nat) : Int) else 0) else if f = 200 then (if k = 0 then (i : Int) else 0) else if f = 400 then (if k = 0 then (if i % 2 = 0 then 40 else 30) else 0) else if f = 401 then (if k = 0 then (if i % 2 = 0 then 5 else 4) else 0) else if f = 2036 then (if k < 4 then -1 else 0) else if f = 5002 ∨ f = 5003 then -1 else 0
def m0 : h_M := fun f k => if f = 59 ∧ k < 12 then -1 else 0
theorem c0_0 {f : Nat} (h : f ≠ 3 ∧ f ≠ 15 ∧ f ≠ 19 ∧ f ≠ 100 ∧ f ≠ 200 ∧ f ≠ 400 ∧ f ≠ 401 ∧ f ≠ 2036 ∧ f ≠ 5002 ∧ f ≠ 5003) (i k : Nat) : c0 f i k = 0 := by
  unfold c0
  rw [if_neg (by omega), if_neg (by omega), if_neg (by omega), if_neg (by omega), if_neg (by omega), if_neg (by omega), if_neg (by omega)]
theorem m0_0 {f : Nat} (h : f ≠ 59) (k : Nat) : m0 f k = 0 := by
  unfold m0
  rw [if_neg (by omega)]
/-- class and reference are alike at their start -/
theorem RR.start : RR 0 c0 m0 := by
  have z : ∀ {f : Nat}, (f ≠ 3 ∧ f ≠ 15 ∧ f ≠ 19 ∧ f ≠ 100 ∧ f ≠ 200 ∧ f ≠ 400 ∧ f ≠ 401 ∧ f ≠ 2036 ∧ f ≠ 5002 ∧ f ≠ 5003) → ∀ i k, c0 f i k = 0 := fun h => c0_0 h
  have y : ∀ {f : Nat}, f ≠ 59 → ∀ k, m0 f k = 0 := fun h => m0_0 h
  refine ⟨?_, ?_, ?_, ?_, ?_, ?_, ?_, ?_, ?_, ?_, ?_, ?_⟩
  · unfold RA
    rw [z (by decide), y (by decide), z (by decide), y (by decide), y (by decide), z (by decide), y (by decide)]
    exact ⟨rfl, by omega, by omega, rfl, by omega, rfl, by omega, by omega, fun k => by rw [z (by decide), y (by decide)], fun w hw => by unfold c0; simp⟩
  · refine ⟨fun w => ?_, fun i => ?_, fun w g hw hg => ?_⟩
    · rw [z (by decide), y (by decide)]; omega
    · rw [z (by decide), z (by decide), y (by decide), y (by decide)]; omega
    · rw [y (by decide)] at hg; omega
  · refine ⟨fun i => ?_, fun w g hw hg => ?_⟩
    · simp only [z (show (6 : Nat) ≠ 3 ∧ 6 ≠ 15 ∧ 6 ≠ 19 ∧ 6 ≠ 100 ∧ 6 ≠ 200 ∧ 6 ≠ 400 ∧ 6 ≠ 401 ∧ 6 ≠ 2036 ∧ 6 ≠ 5002 ∧ 6 ≠ 5003 by decide), z (f := 7) (by decide), z (f := 8) (by decide), z (f := 9) (by decide), z (f := 10) (by decide), z (f := 11) (by decide), z (f := 12) (by decide), z (f := 13) (by decide), z (f := 14) (by decide), z (f := 16) (by decide), z (f := 2) (by decide), z (f := 2010) (by decide), z (f := 2011) (by decide), y (f := 10) (by decide), y (f := 14) (by decide), y (f := 16) (by decide), y (f := 17) (by decide), y (f := 18) (by decide), y (f := 19) (by decide), y (f := 20) (by decide), y (f := 21) (by decide), y (f := 13) (by decide), y (f := 15) (by decide), y (f := 5) (by decide), y (f := 9) (by decide), y (f := 8) (by decide), y (f := 11) (by decide)]
      simp
    · rw [y (f := 3) (by decide)]
      refine ⟨fun h => by omega, fun _ => ?_⟩
      unfold c0
      rw [if_pos (Or.inl rfl), if_pos ⟨by omega, rfl⟩]
  · refine ⟨by rw [z (by decide), y (by decide)], by rw [y (by decide)]; omega, by rw [y (by decide)]; omega, fun q h1 h2 => ?_⟩
    rw [y (by decide)] at h2; omega
  · refine ⟨fun w pl hw h1 h2 => ?_, fun w g k _ _ _ => Or.inl ⟨z (by decide) _ _, y (by decide) _⟩, fun w pl _ _ _ => Or.inl (z (by decide) _ _), fun w q _ h1 h2 => ?_, fun w hw => ?_⟩
    · unfold c0
      rw [if_neg (by decide), if_pos rfl, if_pos rfl]
      congr 1
      omega
    · rw [y (by decide)] at h2; omega
    · rw [z (by decide), y (by decide)]
      refine ⟨rfl, ?_⟩
      have : cnt (fun k => decide (c0 101 (31 * w + k + 1) 0 ≠ 0)) 30 = cnt (fun _ => false) 30 := cnt_ext 30 (fun k _ => by rw [z (by decide)]; rfl)
      rw [this]
      rfl
  · intro w hw
    simp only [y (f := 42) (by decide), y (f := 43) (by decide), y (f := 40) (by decide), y (f := 41) (by decide), z (f := 403) (by decide), z (f := 2005) (by decide)]
    refine ⟨⟨?_, ?_, trivial, by omega, by omega, fun k _ => trivial⟩, ?_, ?_, trivial, by omega, by omega, fun t r _ _ => trivial⟩
    · unfold c0; simp
    · unfold c0; simp
    · unfold c0; simp
    · unfold c0; simp
  · intro w hw
    rw [z (by decide), y (by decide)]
    exact ⟨rfl, by omega, by omega, fun k _ => by rw [z (by decide), y (by decide)]⟩
  · intro w hw
    rw [z (by decide), y (by decide), z (f := 508) (by decide)]
    refine ⟨⟨rfl, by omega, by omega⟩, fun r _ hr => by omega, ⟨rfl, by show 0 ≤ 200; omega, fun i hi => ?_⟩⟩
    have : i < 0 := hi
    omega
  · intro w hw
    rw [z (by decide), y (by decide)]
    exact ⟨rfl, by omega, by omega, fun k _ hk => by omega⟩
  · intro w i hw hi
    have e1 : c0 2036 w i = -1 := by unfold c0; simp; omega
    have e2 : m0 59 (4 * w + i) = -1 := by unfold m0; rw [if_pos ⟨rfl, by omega⟩]
    rw [e1, e2, z (by decide), y (f := 60) (by decide)]
    exact ⟨rfl, by omega, by omega, rfl, by omega, by omega, fun k _ hk => by omega⟩
  · intro w hw
    rw [z (by decide), y (by decide), z (f := 301) (by decide), y (f := 39) (by decide)]
    exact ⟨rfl, by omega, by omega, rfl⟩
  · intro w hw
    rw [z (f := 213) (by decide), y (f := 81) (by decide), z (f := 212) (by decide), y (f := 82) (by decide)]
    exact ⟨⟨rfl, by omega, by omega, by omega, by omega, by omega, by omega⟩, fun j hj => by omega⟩
/-! ===== heaps on the way there ===== -/
def HS (N jt jl : Nat) (s : p_Hp) : Prop := s.1 = N ∧ (∀ b, b ≤ N → s.2.2.1 b = h_T b ∧ s.2.2.2.1 b = h_L b) ∧ (∀ b, N < b → s.2.2.1 b = jt ∧ s.2.2.2.1 b = jl ∧ ∀ j, s.2.2.2.2.1 b j = 0 ∧ s.2.2.2.2.2 b j = 0)
def Dn (s : p_Hp) (a : Nat) : Prop := ∀ j, p_Z s a j = h_Z c0 m0 a j ∧ p_R s a j = h_R c0 a j
/-- cells below v are as they were -/
def Fb (v : Nat) (s s' : p_Hp) : Prop := ∀ b j, b < v → p_Z s' b j = p_Z s b j ∧ p_R s' b j = p_R s b j
theorem HS.is {N jt jl a t : Nat} {s : p_Hp} (h : HS N jt jl s) (h1 : 1 ≤ a) (h2 : a ≤ N) (ht : h_T a = t) : p_is s a t := ⟨h1, by show a ≤ s.1; rw [h.1]; exact h2, by show s.2.2.1 a = t; rw [(h.2.1 a h2).1]; exact ht⟩
theorem HS.len {N jt jl a : Nat} {s : p_Hp} (h : HS N jt jl s) (h2 : a ≤ N) : p_L s a = h_L a := (h.2.1 a h2).2
theorem HS.nw {N jt jl t n : Nat} {s : p_Hp} (h : HS N jt jl s) (ht : h_T (N + 1) = t) (hl : h_L (N + 1) = n) : HS (N + 1) jt jl (p_nw s t n) := by
  obtain ⟨h1, h2, h3⟩ := h
  refine ⟨by show s.1 + 1 = N + 1; rw [h1], fun b hb => ?_, fun b hb => ?_⟩
  · show (if b = s.1 + 1 then t else s.2.2.1 b) = h_T b ∧ (if b = s.1 + 1 then n else s.2.2.2.1 b) = h_L b
    rw [h1]
    by_cases e : b = N + 1
    · rw [if_pos e, if_pos e, e]; exact ⟨ht.symm, hl.symm⟩
    · rw [if_neg e, if_neg e]; exact h2 b (by omega)
  · show (if b = s.1 + 1 then t else s.2.2.1 b) = jt ∧ (if b = s.1 + 1 then n else s.2.2.2.1 b) = jl ∧ ∀ j, (if b = s.1 + 1 then 0 else s.2.2.2.2.1 b j) = 0 ∧ (if b = s.1 + 1 then 0 else s.2.2.2.2.2 b j) = 0
    rw [h1]
    simp only [if_neg (show ¬ b = N + 1 by omega)]
    exact h3 b (by omega)
theorem HS.wR {N jt jl a : Nat} {s : p_Hp} (h : HS N jt jl s) (ha : a ≤ N) (k x : Nat) : HS N jt jl (p_wR s a k x) := by
  obtain ⟨h1, h2, h3⟩ := h
  refine ⟨h1, h2, fun b hb => ⟨(h3 b hb).1, (h3 b hb).2.1, fun j => ⟨((h3 b hb).2.2 j).1, ?_⟩⟩⟩
  show (if b = a ∧ j = k then x else s.2.2.2.2.2 b j) = 0
  rw [if_neg (by omega)]
  exact ((h3 b hb).2.2 j).2
theorem HS.wZ {N jt jl a : Nat} {s : p_Hp} (h : HS N jt jl s) (ha : a ≤ N) (k : Nat) (x : Int) : HS N jt jl (p_wZ s a k x) := by
  obtain ⟨h1, h2, h3⟩ := h
  refine ⟨h1, h2, fun b hb => ⟨(h3 b hb).1, (h3 b hb).2.1, fun j => ⟨?_, ((h3 b hb).2.2 j).2⟩⟩⟩
  show (if b = a ∧ j = k then x else s.2.2.2.2.1 b j) = 0
  rw [if_neg (by omega)]
  exact ((h3 b hb).2.2 j).1
/-- arrays made for object v, numbers written into it -/
def bo : List (Bool × Nat × Nat × Nat × Int) → Nat → p_Hp → p_Hp
  | [], _, s => s
  | (true, t, n, k, _) :: l, v, s => bo l v (p_wR (p_nw s t n) v k (p_N s + 1))
  | (false, _, _, k, x) :: l, v, s => bo l v (p_wZ s v k x)
/-- how many, how large, where to -/
def bn : List (Bool × Nat × Nat × Nat × Int) → Nat
  | [] => 0
  | (true, _) :: l => bn l + 1
  | (false, _) :: l => bn l
def bm : List (Bool × Nat × Nat × Nat × Int) → Nat
  | [] => 0
  | (true, _, n, _) :: l => n + bm l
  | (false, _) :: l => bm l
def bk : List (Bool × Nat × Nat × Nat × Int) → Nat → Prop
  | [], _ => True
  | (true, t, n, _) :: l, N => (h_T (N + 1) = t ∧ h_L (N + 1) = n) ∧ bk l (N + 1)
  | (false, _) :: l, N => bk l N
def br : List (Bool × Nat × Nat × Nat × Int) → Nat → (Nat → Nat) → Nat → Nat
  | [], _, f => f
  | (true, _, _, k, _) :: l, N, f => br l (N + 1) (fun j => if j = k then N + 1 else f j)
  | (false, _) :: l, N, f => br l N f
def bz : List (Bool × Nat × Nat × Nat × Int) → (Nat → Int) → Nat → Int
  | [], f => f
  | (true, _) :: l, f => bz l f
  | (false, _, _, k, x) :: l, f => bz l (fun j => if j = k then x else f j)
theorem bo_at (v : Nat) : ∀ (l : List (Bool × Nat × Nat × Nat × Int)) (N jt jl : Nat) (s : p_Hp), HS N jt jl s → v ≤ N → bk l N → HS (N + bn l) jt jl (bo l v s) ∧ p_M (bo l v s) = p_M s + bm l ∧ (∀ b j, b ≤ N → b ≠ v → p_Z (bo l v s) b j = p_Z s b j ∧ p_R (bo l v s) b j = p_R s b j) ∧ (∀ b j, N < b → p_Z (bo l v s) b j = 0 ∧ p_R (bo l v s) b j = 0) ∧ (∀ j, p_R (bo l v s) v j = br l N (p_R s v) j ∧ p_Z (bo l v s) v j = bz l (p_Z s v) j) := by
  intro l
  induction l with
  | nil =>
    intro N jt jl s h hv _
    exact ⟨h, rfl, fun _ _ _ _ => ⟨rfl, rfl⟩, fun b j hb => ((h.2.2 b hb).2.2 j), fun j => ⟨rfl, rfl⟩⟩
  | cons o l ih =>
    intro N jt jl s h hv hk
    obtain ⟨q, t, n, k, x⟩ := o
    cases q with
    | true =>
      obtain ⟨⟨k1, k2⟩, k3⟩ := hk
      have h1 := (h.nw k1 k2).wR (a := v) (by omega) k (p_N s + 1)
      obtain ⟨a1, a2, a3, a4, a5⟩ := ih (N + 1) jt jl _ h1 (by omega) k3
      have eN : p_N s = N := h.1
      have rv : ∀ j, p_R (p_wR (p_nw s t n) v k (p_N s + 1)) v j = if j = k then N + 1 else p_R s v j := fun j => by
        show (if v = v ∧ j = k then p_N s + 1 else (if v = s.1 + 1 then 0 else s.2.2.2.2.2 v j)) = _
        rw [eN, h.1, if_neg (show ¬ v = N + 1 by omega)]
        by_cases e : j = k
        · rw [if_pos ⟨rfl, e⟩, if_pos e]
        · rw [if_neg (fun z => e z.2), if_neg e]
          rfl
      refine ⟨?_, ?_, fun b j hb hn => ?_, fun b j hb => ?_, fun j => ⟨?_, ?_⟩⟩
      · show HS (N + (bn l + 1)) jt jl _
        rw [show N + (bn l + 1) = N + 1 + bn l by omega]
        exact a1
      · show p_M (bo l v _) = p_M s + (n + bm l)
        rw [a2]
        show p_M s + n + bm l = _
        omega
      · show p_Z (bo l v _) b j = _ ∧ p_R (bo l v _) b j = _
        rw [(a3 b j (by omega) hn).1, (a3 b j (by omega) hn).2]
        show (if b = s.1 + 1 then 0 else s.2.2.2.2.1 b j) = _ ∧ (if b = v ∧ j = k then p_N s + 1 else (if b = s.1 + 1 then 0 else s.2.2.2.2.2 b j)) = _
        rw [h.1, if_neg (by omega), if_neg (by omega), if_neg (by omega)]
        exact ⟨rfl, rfl⟩
      · by_cases e : b = N + 1
        · show p_Z (bo l v _) b j = _ ∧ p_R (bo l v _) b j = _
          rw [(a3 b j (by omega) (by omega)).1, (a3 b j (by omega) (by omega)).2]
          show (if b = s.1 + 1 then 0 else s.2.2.2.2.1 b j) = 0 ∧ (if b = v ∧ j = k then p_N s + 1 else (if b = s.1 + 1 then 0 else s.2.2.2.2.2 b j)) = 0
          rw [h.1, if_pos e, if_neg (by omega), if_pos e]
          exact ⟨rfl, rfl⟩
        · exact a4 b j (by omega)
      · show p_R (bo l v _) v j = br l (N + 1) _ j
        rw [(a5 j).1]
        congr 1
        funext i
        exact rv i
      · show p_Z (bo l v _) v j = bz l _ j
        rw [(a5 j).2]
        congr 1
        funext i
        show (if v = s.1 + 1 then 0 else s.2.2.2.2.1 v i) = _
        rw [h.1, if_neg (by omega)]
        rfl
    | false =>
      have h1 := h.wZ (a := v) hv k x
      obtain ⟨a1, a2, a3, a4, a5⟩ := ih N jt jl _ h1 hv hk
      refine ⟨a1, a2, fun b j hb hn => ?_, a4, fun j => ⟨(a5 j).1, ?_⟩⟩
      · show p_Z (bo l v _) b j = _ ∧ p_R (bo l v _) b j = _
        rw [(a3 b j hb hn).1, (a3 b j hb hn).2]
        show (if b = v ∧ j = k then x else s.2.2.2.2.1 b j) = _ ∧ _
        rw [if_neg (fun z => hn z.1)]
        exact ⟨rfl, rfl⟩
      · show p_Z (bo l v _) v j = bz l _ j
        rw [(a5 j).2]
        congr 1
        funext i
        show (if v = v ∧ i = k then x else s.2.2.2.2.1 v i) = _
        by_cases e : i = k
        · rw [if_pos ⟨rfl, e⟩, if_pos e]
        · rw [if_neg (fun z => e z.2), if_neg e]
          rfl
