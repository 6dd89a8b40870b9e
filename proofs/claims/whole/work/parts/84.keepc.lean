/-! ===== the class keeps its state ===== -/
theorem wc_ne {c : h_C} {f i k : Nat} {x : Int} {g : Nat} (h : g ≠ f) (j l : Nat) : wc c f i k x g j l = c g j l := by rw [wc_at, if_neg (fun w => h w.1)]
theorem sr_ne {c : h_C} {f i : Nat} {r : Nat → Int} {g : Nat} (h : g ≠ f) (j l : Nat) : sr c f i r g j l = c g j l := by rw [sr_at, if_neg (fun w => h w.1)]
/-- numbers written one behind the other -/
def wl (c : h_C) (R j : Nat) : Nat → List Int → h_C
  | _, [] => c
  | p, v :: l => wl (wc c R j p v) R j (p + 1) l
theorem wl_at (R j : Nat) : ∀ (l : List Int) (c : h_C) (p f i k : Nat), wl c R j p l f i k = if f = R ∧ i = j ∧ p ≤ k ∧ k < p + l.length then l.getD (k - p) 0 else c f i k := by
  intro l
  induction l with
  | nil => intro c p f i k; rw [if_neg (by simp)]; rfl
  | cons v l ih =>
    intro c p f i k
    show wl (wc c R j p v) R j (p + 1) l f i k = _
    rw [ih, wc_at]
    have hl : (v :: l).length = l.length + 1 := rfl
    rw [hl]
    by_cases h1 : f = R ∧ i = j
    · by_cases h2 : k = p
      · subst h2
        rw [if_neg (by omega), if_pos (by omega), if_pos (by omega), Nat.sub_self]
        rfl
      · by_cases h3 : p ≤ k ∧ k < p + (l.length + 1)
        · rw [if_pos (by omega), if_pos (by omega), show k - p = (k - (p + 1)) + 1 by omega]
          rfl
        · rw [if_neg (by omega), if_neg (by omega), if_neg (by omega)]
    · rw [if_neg (by omega), if_neg (by omega), if_neg (by omega)]
theorem wl_n {R j p : Nat} {l : List Int} {c : h_C} {f i k : Nat} (h : f ≠ R ∨ i ≠ j ∨ k < p ∨ p + l.length ≤ k) : wl c R j p l f i k = c f i k := by rw [wl_at, if_neg (by omega)]
def gfl (c : h_C) (j : Nat) : List Int := [c 6 j 0, c 7 j 0, c 8 j 0, c 9 j 0, c 10 j 0, c 11 j 0, c 12 j 0, c 13 j 0, c 14 j 0, c 15 j 0, c 16 j 0]
theorem s_gkeep {j : Nat} (hj : vG j) {x : Nat} (hx : x < 30) (c : h_C) (h7 : c 7 j 0 = 0 ∨ c 7 j 0 = 1) : G_Gear_keep j (x : Int) c = some (wl c 2013 j (11 * x) (gfl c j)) := by
  have e0 : p_w (11 * (x : Int)) = ((11 * x : Nat) : Int) := by rw [p_w1 (by omega) (by omega)]; omega
  have ek : ∀ t : Nat, t < 11 → p_w (((11 * x : Nat) : Int) + (t : Int)) = ((11 * x + t : Nat) : Int) := fun t ht => by rw [p_w1 (by omega) (by omega)]; omega
  have e1 := ek 1 (by omega)
  have e2 := ek 2 (by omega)
  have e3 := ek 3 (by omega)
  have e4 := ek 4 (by omega)
  have e5 := ek 5 (by omega)
  have e6 := ek 6 (by omega)
  have e7 := ek 7 (by omega)
  have e8 := ek 8 (by omega)
  have e9 := ek 9 (by omega)
  have e10 := ek 10 (by omega)
  have key : ∀ v : Int, v = c 7 j 0 → GB_Gear_keep_34 j ((11 * x : Nat) : Int) v ((11 * x + 1 : Nat) : Int) j (wc c 2013 j (11 * x) (c 6 j 0)) = some (wl c 2013 j (11 * x) (gfl c j)) := fun v hv => by
    unfold GB_Gear_keep_34
    rw [show (2 : Int) = ((2 : Nat) : Int) from rfl, show (3 : Int) = ((3 : Nat) : Int) from rfl, show (4 : Int) = ((4 : Nat) : Int) from rfl, show (5 : Int) = ((5 : Nat) : Int) from rfl, show (6 : Int) = ((6 : Nat) : Int) from rfl, show (7 : Int) = ((7 : Nat) : Int) from rfl, show (8 : Int) = ((8 : Nat) : Int) from rfl, show (9 : Int) = ((9 : Nat) : Int) from rfl, show (10 : Int) = ((10 : Nat) : Int) from rfl, e2, e3, e4, e5, e6, e7, e8, e9, e10]
    simp (discharger := omega) only [gd1 hj, gd1, bi1, Int.toNat_natCast, wc_ne, hv]
    rfl
  unfold G_Gear_keep
  rw [e0, bi1, gd1 hj, gd1 (by omega), Int.toNat_natCast, bi1, show p_w (((11 * x : Nat) : Int) + 1) = ((11 * x + 1 : Nat) : Int) from e1, wc_ne (by decide)]
  rcases h7 with h | h
  · rw [if_pos h, key 0 h.symm]
  · rw [if_neg (by omega), key 1 h.symm]
theorem s_lkeep {j : Nat} (hj : vL j) {x : Nat} (hx : x < 30) (c : h_C) {n : Nat} (hn : n = if j % 2 = 0 then 200 else 150) : G_Log_keep j (x : Int) c = some (sr (wc c 2004 j x (c 403 j 0)) 2006 j (cp (c 2005 j) 0 (c 2006 j) (n * x) n)) := by
  unfold G_Log_keep
  have hn' : n = 200 ∨ n = 150 := by rw [hn]; split <;> omega
  have hN : ((if j % 2 = 0 then 6000 else 4500 : Nat) : Int) = ((30 * n : Nat) : Int) := by rw [hn]; split <;> rfl
  have e : (x : Int) * (n : Int) = ((n * x : Nat) : Int) := by rw [Int.natCast_mul, Int.mul_comm]
  have hm : n * x ≤ n * 29 := Nat.mul_le_mul_left n (by omega)
  rw [gd1 hj, gd1 (by omega), Int.toNat_natCast, bi1, ← hn, hN, e, p_w1 (by omega) (by omega), gd1 (by omega), Int.toNat_natCast, Int.toNat_natCast]
  have r1 : (wc c 2004 j x (c 403 j 0)) 2005 j = c 2005 j := by funext k; exact wc_ne (by decide) _ _
  have r2 : (wc c 2004 j x (c 403 j 0)) 2006 j = c 2006 j := by funext k; exact wc_ne (by decide) _ _
  rw [r1, r2]
  rfl
def pfl (c : h_C) (v : Nat) : List Int := [c 101 v 0, c 102 v 0, c 103 v 0, c 104 v 0, c 105 v 0, c 106 v 0, c 107 v 0, c 109 v 0, c 111 v 0]
theorem s_pkeep {v : Nat} (hv : vP v) {x : Nat} (hx : x < 30) (c : h_C) (h7 : c 101 v 0 ≠ 0 → c 107 v 0 = 0 ∨ c 107 v 0 = 1) : ∃ c', G_Parcel_keep v (x : Int) c = some c' ∧ eC [2016] c c' ∧ (∀ i k, (i ≠ v ∨ k < 37 * x ∨ 37 * x + 37 ≤ k) → c' 2016 i k = c 2016 i k) ∧ c' 2016 v (37 * x) = c 101 v 0 ∧ (c 101 v 0 ≠ 0 → (∀ t, t < 9 → c' 2016 v (37 * x + t) = (pfl c v).getD t 0) ∧ (∀ k, k < 16 → c' 2016 v (37 * x + 9 + k) = c 2014 v k) ∧ (∀ k, k < 12 → c' 2016 v (37 * x + 25 + k) = c 2015 v k)) := by
  have e0 : p_w (37 * (x : Int)) = ((37 * x : Nat) : Int) := by rw [p_w1 (by omega) (by omega)]; omega
  have ek : ∀ t : Nat, t < 37 → p_w (((37 * x : Nat) : Int) + (t : Int)) = ((37 * x + t : Nat) : Int) := fun t ht => by rw [p_w1 (by omega) (by omega)]; omega
  by_cases h0 : c 101 v 0 = 0
  · refine ⟨wc c 2016 v (37 * x) (c 101 v 0), ?_, (by repeat first | exact eC.rf _ _ | refine eC.wc ?_ (by decide) _ _ _ | refine eC.sr ?_ (by decide) _ _), fun i k h => by rw [wc_at, if_neg (by omega)], by simp [wc_at], fun h => absurd h0 h⟩
    unfold G_Parcel_keep
    rw [e0, bi1, gd1 hv, gd1 (by omega), Int.toNat_natCast, bi1, wc_ne (by decide), if_neg (by omega)]
  · have e1 := ek 1 (by omega)
    have e2 := ek 2 (by omega)
    have e3 := ek 3 (by omega)
    have e4 := ek 4 (by omega)
    have e5 := ek 5 (by omega)
    have e6 := ek 6 (by omega)
    have e7 := ek 7 (by omega)
    have e8 := ek 8 (by omega)
    have e9 := ek 9 (by omega)
    have e25 := ek 25 (by omega)
    have hC : G_Parcel_keep v (x : Int) c = some (sr (sr (wl c 2016 v (37 * x) (pfl c v)) 2016 v (cp (c 2014 v) 0 ((wl c 2016 v (37 * x) (pfl c v)) 2016 v) (37 * x + 9) 16)) 2016 v (cp (c 2015 v) 0 ((sr (wl c 2016 v (37 * x) (pfl c v)) 2016 v (cp (c 2014 v) 0 ((wl c 2016 v (37 * x) (pfl c v)) 2016 v) (37 * x + 9) 16)) 2016 v) (37 * x + 25) 12)) := by
      have key : ∀ u : Int, u = c 107 v 0 → GB_Parcel_keep_103 v ((37 * x : Nat) : Int) u ((37 * x + 6 : Nat) : Int) v (wc (wc (wc (wc (wc (wc c 2016 v (37 * x) (c 101 v 0)) 2016 v (37 * x + 1) (c 102 v 0)) 2016 v (37 * x + 2) (c 103 v 0)) 2016 v (37 * x + 3) (c 104 v 0)) 2016 v (37 * x + 4) (c 105 v 0)) 2016 v (37 * x + 5) (c 106 v 0)) = some (sr (sr (wl c 2016 v (37 * x) (pfl c v)) 2016 v (cp (c 2014 v) 0 ((wl c 2016 v (37 * x) (pfl c v)) 2016 v) (37 * x + 9) 16)) 2016 v (cp (c 2015 v) 0 ((sr (wl c 2016 v (37 * x) (pfl c v)) 2016 v (cp (c 2014 v) 0 ((wl c 2016 v (37 * x) (pfl c v)) 2016 v) (37 * x + 9) 16)) 2016 v) (37 * x + 25) 12)) := fun u hu => by
        unfold GB_Parcel_keep_103
        rw [show (7 : Int) = ((7 : Nat) : Int) from rfl, show (8 : Int) = ((8 : Nat) : Int) from rfl, show (9 : Int) = ((9 : Nat) : Int) from rfl, show (25 : Int) = ((25 : Nat) : Int) from rfl, e7, e8, e9, e25]
        simp (discharger := omega) only [gd1 hv, gd1, bi1, Int.toNat_natCast, wc_ne, hu]
        have r1 : ∀ k, wl c 2016 v (37 * x) (pfl c v) 2014 v k = c 2014 v k := fun k => wl_n (by omega)
        have r2 : (sr (wl c 2016 v (37 * x) (pfl c v)) 2016 v (cp (c 2014 v) 0 ((wl c 2016 v (37 * x) (pfl c v)) 2016 v) (37 * x + 9) 16)) 2015 v = c 2015 v := by
          funext k
          rw [sr_ne (by decide)]
          exact wl_n (by omega)
        rw [← r2, ← show (wl c 2016 v (37 * x) (pfl c v)) 2014 v = c 2014 v from funext r1]
        rfl
      unfold G_Parcel_keep
      rw [e0, bi1, gd1 hv, gd1 (by omega), Int.toNat_natCast, bi1, wc_ne (by decide), if_pos h0]
      rw [show (2 : Int) = ((2 : Nat) : Int) from rfl, show (3 : Int) = ((3 : Nat) : Int) from rfl, show (4 : Int) = ((4 : Nat) : Int) from rfl, show (5 : Int) = ((5 : Nat) : Int) from rfl, show (6 : Int) = ((6 : Nat) : Int) from rfl, show p_w (((37 * x : Nat) : Int) + 1) = ((37 * x + 1 : Nat) : Int) from e1, e2, e3, e4, e5, e6]
      simp (discharger := omega) only [gd1, bi1, Int.toNat_natCast, wc_ne]
      rcases h7 h0 with h | h
      · rw [if_pos h, key 0 h.symm]
      · rw [if_neg (by omega), key 1 h.symm]
    have hat : ∀ f i k, (sr (sr (wl c 2016 v (37 * x) (pfl c v)) 2016 v (cp (c 2014 v) 0 ((wl c 2016 v (37 * x) (pfl c v)) 2016 v) (37 * x + 9) 16)) 2016 v (cp (c 2015 v) 0 ((sr (wl c 2016 v (37 * x) (pfl c v)) 2016 v (cp (c 2014 v) 0 ((wl c 2016 v (37 * x) (pfl c v)) 2016 v) (37 * x + 9) 16)) 2016 v) (37 * x + 25) 12)) f i k = if f = 2016 ∧ i = v ∧ 37 * x + 25 ≤ k ∧ k < 37 * x + 37 then c 2015 v (k - (37 * x + 25)) else if f = 2016 ∧ i = v ∧ 37 * x + 9 ≤ k ∧ k < 37 * x + 25 then c 2014 v (k - (37 * x + 9)) else if f = 2016 ∧ i = v ∧ 37 * x ≤ k ∧ k < 37 * x + 9 then (pfl c v).getD (k - 37 * x) 0 else c f i k := fun f i k => by
      rw [sr_at]
      by_cases h1 : f = 2016 ∧ i = v
      · obtain ⟨rfl, rfl⟩ := h1
        rw [if_pos ⟨rfl, rfl⟩, cp_at]
        by_cases h2 : 37 * x + 25 ≤ k ∧ k < 37 * x + 25 + 12
        · rw [if_pos h2, if_pos (by omega), Nat.zero_add]
        · rw [if_neg h2, if_neg (by omega), sr_at, if_pos ⟨rfl, rfl⟩, cp_at]
          by_cases h3 : 37 * x + 9 ≤ k ∧ k < 37 * x + 9 + 16
          · rw [if_pos h3, if_pos (by omega), Nat.zero_add]
          · rw [if_neg h3, if_neg (by omega), wl_at]
            have hl : (pfl c i).length = 9 := rfl
            rw [hl]
      · rw [if_neg h1, if_neg (by omega), if_neg (by omega), if_neg (by omega), sr_at, if_neg h1, wl_n (by omega)]
    refine ⟨_, hC, fun f hf => ?_, fun i k h => ?_, ?_, fun _ => ⟨fun t ht => ?_, fun k hk => ?_, fun k hk => ?_⟩⟩
    · funext i k
      have hf' : f ≠ 2016 := fun w => hf (by rw [w]; exact List.mem_cons_self)
      rw [hat, if_neg (by omega), if_neg (by omega), if_neg (by omega)]
    · rw [hat, if_neg (by omega), if_neg (by omega), if_neg (by omega)]
    · rw [hat, if_neg (by omega), if_neg (by omega), if_pos (by omega), Nat.sub_self]
      rfl
    · rw [hat, if_neg (by omega), if_neg (by omega), if_pos (by omega), Nat.add_sub_cancel_left]
    · rw [hat, if_neg (by omega), if_pos (by omega), Nat.add_sub_cancel_left]
    · rw [hat, if_pos (by omega), Nat.add_sub_cancel_left]
