/-! ===== leaves of the making ===== -/
/-- v and what it owns, up to N', are made -/
def Mk (v N' M jt jl : Nat) (s s' : p_Hp) : Prop := HS N' jt jl s' ∧ p_M s' = p_M s + M ∧ Fb v s s' ∧ (∀ b, v ≤ b → b ≤ N' → Dn s' b)
theorem hr_arr {t : Nat} (h : t = 100 ∨ t = 101 ∨ t = 102) (a j : Nat) : h_r t a j = 0 := by
  unfold h_r
  rcases h with rfl | rfl | rfl <;> simp
/-- an array of numbers is done when it is made -/
theorem Dn.arr {s : p_Hp} {a f i t n : Nat} (d : h_d a f i t n) (ht : t = 100 ∨ t = 101 ∨ t = 102) (hf : f ≠ 3 ∧ f ≠ 15 ∧ f ≠ 19 ∧ f ≠ 100 ∧ f ≠ 200 ∧ f ≠ 400 ∧ f ≠ 401 ∧ f ≠ 2036 ∧ f ≠ 5002 ∧ f ≠ 5003) (hz : ∀ j, p_Z s a j = 0 ∧ p_R s a j = 0) : Dn s a := by
  obtain ⟨e, g0, g1⟩ := d
  intro j
  have hT : h_T a = t := by unfold h_T; rw [if_neg g0, if_pos g1, e]
  have hD : (h_D a).2.2.1 = t := by rw [e]
  refine ⟨?_, ?_⟩
  · rw [(hz j).1]
    unfold h_Z
    rw [if_neg g0, if_pos g1, if_neg (by rw [hD]; omega), e, c0_0 hf]
  · rw [(hz j).2]
    unfold h_R
    have n1 : a ≠ 1 := fun w => by rw [w] at hT; revert hT; rcases ht with rfl | rfl | rfl <;> decide
    have n2 : a ≠ 1112 := fun w => by rw [w] at hT; revert hT; rcases ht with rfl | rfl | rfl <;> decide
    have n3 : a ≠ 1115 := fun w => by rw [w] at hT; revert hT; rcases ht with rfl | rfl | rfl <;> decide
    rw [if_neg (fun w => n1 w.1), if_neg (fun w => n2 w.1), if_neg (fun w => n2 w.1), if_neg (fun w => n2 w.1), if_neg (fun w => n3 w.1)]
    unfold h_R1
    rw [if_neg g0, hT, hr_arr ht]
/-- an object is done when its numbers and its references are -/
theorem Dn.obj {s : p_Hp} {a f i t n : Nat} (d : h_d a f i t n) (ht : t < 100) (h1 : a ≠ 1 ∧ a ≠ 1112 ∧ a ≠ 1115) (hz : ∀ j, p_Z s a j = if j < 100 then c0 (f + j) i 0 else 0) (hr : ∀ j, p_R s a j = h_r t a j) : Dn s a := by
  obtain ⟨e, g0, g1⟩ := d
  intro j
  have hT : h_T a = t := by unfold h_T; rw [if_neg g0, if_pos g1, e]
  refine ⟨?_, ?_⟩
  · rw [hz j]
    unfold h_Z
    rw [if_neg g0, if_pos g1, e]
    exact (if_pos ht).symm
  · rw [hr j]
    unfold h_R
    rw [if_neg (fun w => h1.1 w.1), if_neg (fun w => h1.2.1 w.1), if_neg (fun w => h1.2.1 w.1), if_neg (fun w => h1.2.1 w.1), if_neg (fun w => h1.2.2 w.1)]
    unfold h_R1
    rw [if_neg g0, hT]
theorem arr_row0 : (List.range 1125).all (fun b => decide (b % 369 ≠ 0 → (h_T b = 100 ∨ h_T b = 101 ∨ h_T b = 102) → (h_D b).1 ≠ 3 ∧ (h_D b).1 ≠ 15 ∧ (h_D b).1 ≠ 19 ∧ (h_D b).1 ≠ 100 ∧ (h_D b).1 ≠ 200 ∧ (h_D b).1 ≠ 400 ∧ (h_D b).1 ≠ 401 ∧ (h_D b).1 ≠ 2036 ∧ (h_D b).1 ≠ 5002 ∧ (h_D b).1 ≠ 5003)) = true := by decide +kernel
theorem Dn.arr2 {s : p_Hp} {a : Nat} (h1 : 1 ≤ a) (h2 : a ≤ 1124) (h3 : a % 369 ≠ 0) (ht : h_T a = 100 ∨ h_T a = 101 ∨ h_T a = 102) (hz : ∀ j, p_Z s a j = 0 ∧ p_R s a j = 0) : Dn s a := by
  have h := of_decide_eq_true (List.all_eq_true.mp arr_row0 a (List.mem_range.mpr (by omega))) h3 ht
  have e : h_T a = (h_D a).2.2.1 := by unfold h_T; rw [if_neg (by omega), if_pos h2]
  exact Dn.arr (f := (h_D a).1) (i := (h_D a).2.1) (t := (h_D a).2.2.1) (n := (h_D a).2.2.2) ⟨rfl, by omega, h2⟩ (by rw [← e]; exact ht) h hz
theorem bk_T : ∀ (l : List (Bool × Nat × Nat × Nat × Int)) (N : Nat), bk l N → (∀ o ∈ l, o.1 = true → o.2.1 = 100 ∨ o.2.1 = 101 ∨ o.2.1 = 102) → ∀ b, N < b → b ≤ N + bn l → h_T b = 100 ∨ h_T b = 101 ∨ h_T b = 102 := by
  intro l
  induction l with
  | nil => intro N _ _ b h1 h2; have : bn [] = 0 := rfl; omega
  | cons o l ih =>
    intro N hk ho b h1 h2
    obtain ⟨q, t, n, k, x⟩ := o
    cases q with
    | true =>
      obtain ⟨⟨k1, k2⟩, k3⟩ := hk
      by_cases e : b = N + 1
      · subst e; rw [k1]; exact ho _ (List.mem_cons_self) rfl
      · refine ih (N + 1) k3 (fun o h => ho o (List.mem_cons_of_mem _ h)) b (by omega) ?_
        have : bn ((true, t, n, k, x) :: l) = bn l + 1 := rfl
        omega
    | false => exact ih N hk (fun o h => ho o (List.mem_cons_of_mem _ h)) b h1 h2
/-- an object with what is made for it alone -/
theorem mk_bo {l : List (Bool × Nat × Nat × Nat × Int)} {v jt jl f i t n : Nat} {s : p_Hp} (h : HS v jt jl s) (hk : bk l v) (d : h_d v f i t n) (ht : t < 100) (h1 : v ≠ 1 ∧ v ≠ 1112 ∧ v ≠ 1115) (h0 : ∀ j, p_Z s v j = 0 ∧ p_R s v j = 0) (hr : ∀ j, br l v (fun _ => 0) j = h_r t v j) (hz : ∀ j, bz l (fun _ => 0) j = if j < 100 then c0 (f + j) i 0 else 0) (ha : ∀ o ∈ l, o.1 = true → o.2.1 = 100 ∨ o.2.1 = 101 ∨ o.2.1 = 102) (hb : ∀ b, v < b → b ≤ v + bn l → b ≤ 1124 ∧ b % 369 ≠ 0) : Mk v (v + bn l) (bm l) jt jl s (bo l v s) := by
  obtain ⟨a1, a2, a3, a4, a5⟩ := bo_at v l v jt jl s h (Nat.le_refl v) hk
  refine ⟨a1, a2, fun b j hb => a3 b j (by omega) (by omega), fun b h2 h3 => ?_⟩
  by_cases e : b = v
  · subst e
    have e1 : p_R s b = fun _ => 0 := funext fun j => (h0 j).2
    have e2 : p_Z s b = fun _ => 0 := funext fun j => (h0 j).1
    refine Dn.obj d ht h1 (fun j => ?_) (fun j => ?_)
    · rw [(a5 j).2, e2]; exact hz j
    · rw [(a5 j).1, e1]; exact hr j
  · have h5 := hb b (by omega) h3
    exact Dn.arr2 (by omega) h5.1 h5.2 (bk_T l v hk ha b (by omega) h3) (fun j => a4 b j (by omega))
def lRu : List (Bool × Nat × Nat × Nat × Int) := [(true, 100, 12, 1, 0), (true, 100, 12, 2, 0), (true, 100, 48, 3, 0), (true, 100, 48, 4, 0), (true, 100, 48, 5, 0), (true, 100, 48, 6, 0), (true, 100, 200, 7, 0)]
theorem f_rules {v jt jl : Nat} {s : p_Hp} (h : HS v jt jl s) (h1 : 1 ≤ v) (hT : h_T v = 6) (hk : bk lRu v) : F_Rules_init v s = some (bo lRu v s) := by
  obtain ⟨⟨k1, k2⟩, _⟩ := id hk
  unfold F_Rules_init
  rw [gd1 h1, bi1, gd1 ((h.nw k1 k2).is h1 (by omega) hT)]
  rfl
def lGe : List (Bool × Nat × Nat × Nat × Int) := [(false, 0, 0, 3, -1), (true, 100, 3, 4, 0), (true, 101, 3, 5, 0), (false, 0, 0, 15, -1), (true, 100, 8, 17, 0), (true, 100, 330, 18, 0), (false, 0, 0, 19, -1)]
theorem f_gear {v jt jl : Nat} {s : p_Hp} (h : HS v jt jl s) (h1 : 1 ≤ v) (hT : h_T v = 0) : F_Gear_init v s = some (bo lGe v s) := by
  unfold F_Gear_init
  rw [gd1 h1, gd1 (h.is h1 (Nat.le_refl _) hT)]
  rfl
def lPa (x : Int) : List (Bool × Nat × Nat × Nat × Int) := [(true, 100, 16, 10, 0), (true, 100, 12, 12, 0), (true, 100, 1110, 13, 0), (false, 0, 0, 0, x)]
theorem f_parcel {v jt jl : Nat} {s : p_Hp} (h : HS v jt jl s) (h1 : 1 ≤ v) (hT : h_T v = 4) (x : Int) (hk : bk (lPa x) v) : F_Parcel_init v x s = some (bo (lPa x) v s) := by
  obtain ⟨⟨k1, k2⟩, _⟩ := id hk
  unfold F_Parcel_init
  rw [gd1 h1, bi1, gd1 ((h.nw k1 k2).is h1 (by omega) hT)]
  rfl
def lLo (x y : Int) (n : Nat) : List (Bool × Nat × Nat × Nat × Int) := [(true, 100, 30, 5, 0), (false, 0, 0, 0, x), (false, 0, 0, 1, y), (true, 100, 5 * n, 2, 0), (true, 100, 150 * n, 4, 0)]
theorem f_log {v jt jl : Nat} {s : p_Hp} (h : HS v jt jl s) (h1 : 1 ≤ v) (hT : h_T v = 2) (y : Int) (n : Nat) (hn : n = 40 ∨ n = 30) (hk : bk (lLo (n : Int) y n) v) : F_Log_init v (n : Int) y s = some (bo (lLo (n : Int) y n) v s) := by
  obtain ⟨⟨k1, k2⟩, _⟩ := id hk
  unfold F_Log_init
  rw [gd1 h1, bi1, gd1 ((h.nw k1 k2).is h1 (by omega) hT), p_w1 (x := (n : Int) * 5) (by omega) (by omega), p_w1 (x := 30 * (n : Int)) (by omega) (by omega), p_w1 (x := 30 * (n : Int) * 5) (by omega) (by omega), show ((n : Int) * 5).toNat = 5 * n by omega, show (30 * (n : Int) * 5).toNat = 150 * n by omega]
  simp (discharger := omega) only [gd1, bi1]
  rfl
def lNu : List (Bool × Nat × Nat × Nat × Int) := [(true, 100, 2001, 0, 0)]
theorem f_numbers {v jt jl : Nat} {s : p_Hp} (h : HS v jt jl s) (h1 : 1 ≤ v) (hT : h_T v = 3) (hk : bk lNu v) : F_Numbers_init v s = some (bo lNu v s) := by
  obtain ⟨⟨k1, k2⟩, _⟩ := id hk
  unfold F_Numbers_init
  rw [gd1 h1, bi1, gd1 ((h.nw k1 k2).is h1 (by omega) hT)]
  rfl
def lRe : List (Bool × Nat × Nat × Nat × Int) := [(true, 100, 8, 4, 0)]
theorem f_reading {v jt jl : Nat} {s : p_Hp} (h : HS v jt jl s) (h1 : 1 ≤ v) (hT : h_T v = 5) (hk : bk lRe v) : F_Reading_init v s = some (bo lRe v s) := by
  obtain ⟨⟨k1, k2⟩, _⟩ := id hk
  unfold F_Reading_init
  rw [gd1 h1, bi1, gd1 ((h.nw k1 k2).is h1 (by omega) hT)]
  rfl
