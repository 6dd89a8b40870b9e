/-! ===== rounds of ways come to rest ===== -/
theorem cnt_mono {p q : Nat → Bool} {n : Nat} (h : ∀ k, k < n → p k = true → q k = true) : cnt p n ≤ cnt q n := by
  induction n with
  | zero => exact Nat.le_refl _
  | succ n ih =>
    have := ih (fun k hk => h k (by omega))
    unfold cnt
    by_cases hp : p n = true
    · rw [if_pos hp, if_pos (h n (by omega) hp)]; omega
    · rw [if_neg hp]; omega
theorem cnt_grow {p q : Nat → Bool} {n x : Nat} (hx : x < n) (h : ∀ k, k < n → p k = true → q k = true) (h0 : p x = false) (h1 : q x = true) : cnt p n < cnt q n := by
  induction n with
  | zero => omega
  | succ n ih =>
    unfold cnt
    by_cases e : x = n
    · subst e
      have := cnt_mono (p := p) (q := q) (n := x) (fun k hk => h k (by omega))
      rw [h0, if_neg (by simp), if_pos h1]
      omega
    · have := ih (by omega) (fun k hk => h k (by omega))
      by_cases hp : p n = true
      · rw [if_pos hp, if_pos (h n (by omega) hp)]; omega
      · rw [if_neg hp]; omega
/-- one set to x where x is less, target by target -/
def xl (x : Int) : List Nat → (Nat → Int) → (Nat → Int)
  | [], D => D
  | t :: ts, D => xl x ts (fun k => if k = t ∧ x < D t then x else D k)
/-- from gear g on -/
def xg (L : Nat → Int) (T : Nat → List Nat) (g : Nat) (D : Nat → Int) : Nat → Int := if D g = 1000000 then D else xl (D g + L g) (T g) D
/-- the first k gears, in order -/
def xd (L : Nat → Int) (T : Nat → List Nat) : Nat → (Nat → Int) → (Nat → Int)
  | 0, D => D
  | k + 1, D => xg L T k (xd L T k D)
/-- k rounds over n gears -/
def xk (L : Nat → Int) (T : Nat → List Nat) (n : Nat) : Nat → (Nat → Int) → (Nat → Int)
  | 0, D => D
  | k + 1, D => xd L T n (xk L T n k D)
theorem xl_le (x : Int) (ts : List Nat) : ∀ (D : Nat → Int) (r : Nat), xl x ts D r ≤ D r := by
  induction ts with
  | nil => intro D r; exact Int.le_refl _
  | cons t ts ih =>
    intro D r
    refine Int.le_trans (ih _ r) ?_
    show (if r = t ∧ x < D t then x else D r) ≤ D r
    split
    · rename_i e; rw [e.1]; omega
    · omega
/-- either as it was, or set to x because r is a target -/
theorem xl_or (x : Int) (ts : List Nat) : ∀ (D : Nat → Int) (r : Nat), xl x ts D r = D r ∨ (r ∈ ts ∧ xl x ts D r = x) := by
  induction ts with
  | nil => intro D r; exact Or.inl rfl
  | cons t ts ih =>
    intro D r
    rcases ih (fun k => if k = t ∧ x < D t then x else D k) r with h | ⟨h1, h2⟩
    · show xl x ts _ r = D r ∨ _
      rw [h]
      show (if r = t ∧ x < D t then x else D r) = D r ∨ _
      by_cases e : r = t ∧ x < D t
      · refine Or.inr ⟨by rw [e.1]; exact List.mem_cons_self, ?_⟩
        show xl x ts _ r = x
        rw [h]
        exact if_pos e
      · exact Or.inl (if_neg e)
    · exact Or.inr ⟨List.mem_cons_of_mem _ h1, h2⟩
theorem xl_tgt (x : Int) (ts : List Nat) : ∀ (D : Nat → Int) (r : Nat), r ∈ ts → xl x ts D r ≤ x := by
  induction ts with
  | nil => intro D r h; cases h
  | cons t ts ih =>
    intro D r h
    show xl x ts (fun k => if k = t ∧ x < D t then x else D k) r ≤ x
    rcases List.mem_cons.mp h with rfl | h'
    · refine Int.le_trans (xl_le x ts _ r) ?_
      show (if r = r ∧ x < D r then x else D r) ≤ x
      split <;> omega
    · exact ih _ r h'
theorem xg_le (L : Nat → Int) (T : Nat → List Nat) (g : Nat) (D : Nat → Int) (r : Nat) : xg L T g D r ≤ D r := by
  unfold xg
  split
  · exact Int.le_refl _
  · exact xl_le _ _ _ _
theorem xd_le (L : Nat → Int) (T : Nat → List Nat) (k : Nat) (D : Nat → Int) (r : Nat) : xd L T k D r ≤ D r := by
  induction k with
  | zero => exact Int.le_refl _
  | succ k ih => exact Int.le_trans (xg_le _ _ _ _ _) ih
theorem xd_le2 (L : Nat → Int) (T : Nat → List Nat) {j k : Nat} (h : j ≤ k) (D : Nat → Int) (r : Nat) : xd L T k D r ≤ xd L T j D r := by
  induction k with
  | zero => rw [show j = 0 by omega]; exact Int.le_refl _
  | succ k ih =>
    by_cases e : j = k + 1
    · rw [e]; exact Int.le_refl _
    · exact Int.le_trans (xg_le _ _ _ _ _) (ih (by omega))
theorem xk_le (L : Nat → Int) (T : Nat → List Nat) (n : Nat) {j k : Nat} (h : j ≤ k) (D : Nat → Int) (r : Nat) : xk L T n k D r ≤ xk L T n j D r := by
  induction k with
  | zero => rw [show j = 0 by omega]; exact Int.le_refl _
  | succ k ih =>
    by_cases e : j = k + 1
    · rw [e]; exact Int.le_refl _
    · exact Int.le_trans (xd_le _ _ _ _ _) (ih (by omega))
theorem xk_fix {L : Nat → Int} {T : Nat → List Nat} {n k : Nat} {D : Nat → Int} (h : xd L T n (xk L T n k D) = xk L T n k D) : ∀ j, xk L T n (k + j) D = xk L T n k D := by
  intro j
  induction j with
  | zero => rfl
  | succ j ih =>
    show xd L T n (xk L T n (k + j) D) = _
    rw [ih, h]
/-- every reached gear has a giver -/
def xGV (L : Nat → Int) (T : Nat → List Nat) (n s : Nat) (D : Nat → Int) : Prop := ∀ r, D r ≠ 1000000 → (r ∈ T s ∧ D r = L s) ∨ ∃ g, g < n ∧ r ∈ T g ∧ D g ≠ 1000000 ∧ D g + L g ≤ D r
theorem xg_gv {L : Nat → Int} {T : Nat → List Nat} {n s g : Nat} (hg : g < n) (hL : ∀ g, T g ≠ [] → 1 ≤ L g) {D : Nat → Int} (hi : ∀ r, D r ≤ 1000000) (h : xGV L T n s D) (hs : ∀ r, r ∈ T s → D r ≤ L s) : xGV L T n s (xg L T g D) ∧ (∀ r, r ∈ T s → xg L T g D r ≤ L s) := by
  refine ⟨fun r hr => ?_, fun r hr => Int.le_trans (xg_le _ _ _ _ _) (hs r hr)⟩
  have hle := xg_le L T g D
  unfold xg at hr hle ⊢
  by_cases e : D g = 1000000
  · rw [if_pos e] at hr ⊢
    exact h r hr
  · rw [if_neg e] at hr hle ⊢
    rcases xl_or (D g + L g) (T g) D r with z | ⟨z1, z2⟩
    · rw [z] at hr ⊢
      rcases h r hr with y | ⟨g', y1, y2, y3, y4⟩
      · exact Or.inl y
      · refine Or.inr ⟨g', y1, y2, ?_, ?_⟩
        · have := hle g'
          have := hi g'
          omega
        · have := hle g'
          omega
    · refine Or.inr ⟨g, hg, z1, ?_, ?_⟩
      · have := hle g
        have := hi g
        omega
      · rw [z2]
        have := hle g
        omega
theorem xd_gv {L : Nat → Int} {T : Nat → List Nat} {n s : Nat} (hL : ∀ g, T g ≠ [] → 1 ≤ L g) {D : Nat → Int} (hi : ∀ r, D r ≤ 1000000) (h : xGV L T n s D) (hs : ∀ r, r ∈ T s → D r ≤ L s) : ∀ k, k ≤ n → xGV L T n s (xd L T k D) ∧ (∀ r, r ∈ T s → xd L T k D r ≤ L s) ∧ (∀ r, xd L T k D r ≤ 1000000) := by
  intro k
  induction k with
  | zero => intro _; exact ⟨h, hs, hi⟩
  | succ k ih =>
    intro hk
    obtain ⟨a, b, c⟩ := ih (by omega)
    obtain ⟨a', b'⟩ := xg_gv (g := k) (by omega) hL c a b
    exact ⟨a', b', fun r => Int.le_trans (xg_le _ _ _ _ _) (c r)⟩
theorem xk_gv {L : Nat → Int} {T : Nat → List Nat} {n s : Nat} (hL : ∀ g, T g ≠ [] → 1 ≤ L g) {D : Nat → Int} (hi : ∀ r, D r ≤ 1000000) (h : xGV L T n s D) (hs : ∀ r, r ∈ T s → D r ≤ L s) : ∀ k, xGV L T n s (xk L T n k D) ∧ (∀ r, r ∈ T s → xk L T n k D r ≤ L s) ∧ (∀ r, xk L T n k D r ≤ 1000000) := by
  intro k
  induction k with
  | zero => exact ⟨h, hs, hi⟩
  | succ k ih =>
    obtain ⟨a, b, c⟩ := ih
    exact xd_gv hL c a b n (Nat.le_refl n)
/-- values stay where they are unless they are targets, so behind n all is as it was -/
theorem xl_out {x : Int} {ts : List Nat} {D : Nat → Int} {r : Nat} (h : r ∉ ts) : xl x ts D r = D r := by
  rcases xl_or x ts D r with z | ⟨z, _⟩
  · exact z
  · exact absurd z h
theorem xd_out {L : Nat → Int} {T : Nat → List Nat} {n : Nat} (hT : ∀ g r, r ∈ T g → r < n) (D : Nat → Int) {r : Nat} (hr : n ≤ r) : ∀ k, xd L T k D r = D r := by
  intro k
  induction k with
  | zero => rfl
  | succ k ih =>
    show xg L T k (xd L T k D) r = D r
    unfold xg
    split
    · exact ih
    · rw [xl_out (fun z => by have := hT k r z; omega)]; exact ih
def xs (D : Nat → Int) : Nat → Int
  | 0 => 0
  | n + 1 => xs D n + D n
theorem xs_le {D D' : Nat → Int} (n : Nat) (h : ∀ r, r < n → D r ≤ D' r) : xs D n ≤ xs D' n := by
  induction n with
  | zero => exact Int.le_refl _
  | succ n ih =>
    have := ih (fun r hr => h r (by omega))
    have := h n (by omega)
    show xs D n + D n ≤ xs D' n + D' n
    omega
theorem xs_lt {D D' : Nat → Int} (n : Nat) (h : ∀ r, r < n → D r ≤ D' r) {x : Nat} (hx : x < n) (hl : D x < D' x) : xs D n < xs D' n := by
  induction n with
  | zero => omega
  | succ n ih =>
    show xs D n + D n < xs D' n + D' n
    by_cases e : x = n
    · subst e
      have := xs_le (D := D) (D' := D') x (fun r hr => h r (by omega))
      omega
    · have := ih (fun r hr => h r (by omega)) (by omega)
      have := h n (by omega)
      omega
theorem xs_0 {D : Nat → Int} (n : Nat) (h : ∀ r, r < n → 0 ≤ D r) : 0 ≤ xs D n := by
  induction n with
  | zero => exact Int.le_refl _
  | succ n ih =>
    have := ih (fun r hr => h r (by omega))
    have := h n (by omega)
    show 0 ≤ xs D n + D n
    omega
theorem xd_0 {L : Nat → Int} {T : Nat → List Nat} (hL : ∀ g, T g ≠ [] → 1 ≤ L g) {D : Nat → Int} (h : ∀ r, 0 ≤ D r) : ∀ k r, 0 ≤ xd L T k D r := by
  intro k
  induction k with
  | zero => exact h
  | succ k ih =>
    intro r
    show 0 ≤ xg L T k (xd L T k D) r
    unfold xg
    split
    · exact ih r
    · rcases xl_or (xd L T k D k + L k) (T k) (xd L T k D) r with z | ⟨z1, z2⟩
      · rw [z]; exact ih r
      · rw [z2]
        have := ih k
        have := hL k (fun e => by rw [e] at z1; cases z1)
        omega
theorem xk_0 {L : Nat → Int} {T : Nat → List Nat} (hL : ∀ g, T g ≠ [] → 1 ≤ L g) (n : Nat) {D : Nat → Int} (h : ∀ r, 0 ≤ D r) : ∀ k r, 0 ≤ xk L T n k D r := by
  intro k
  induction k with
  | zero => exact h
  | succ k ih => exact xd_0 hL ih n
/-- rounds come to rest -/
theorem xk_rest {L : Nat → Int} {T : Nat → List Nat} {n : Nat} (hL : ∀ g, T g ≠ [] → 1 ≤ L g) (hT : ∀ g r, r ∈ T g → r < n) (D : Nat → Int) (h : ∀ r, 0 ≤ D r) : ∃ K, xd L T n (xk L T n K D) = xk L T n K D := by
  have key : ∀ (s : Nat) (k : Nat), xs (xk L T n k D) n ≤ (s : Int) → ∃ K, xd L T n (xk L T n K D) = xk L T n K D := by
    intro s
    induction s with
    | zero =>
      intro k hk
      refine ⟨k, funext fun r => ?_⟩
      by_cases hr : r < n
      · by_cases e : xd L T n (xk L T n k D) r = xk L T n k D r
        · exact e
        · exfalso
          have h1 := xs_lt (D := xd L T n (xk L T n k D)) (D' := xk L T n k D) n (fun r _ => xd_le _ _ _ _ _) hr (by have := xd_le L T n (xk L T n k D) r; omega)
          have h2 := xs_0 (D := xd L T n (xk L T n k D)) n (fun r _ => xd_0 hL (xk_0 hL n h k) n r)
          omega
      · exact xd_out hT _ (by omega) n
    | succ s ih =>
      intro k hk
      by_cases e : ∃ r, r < n ∧ xd L T n (xk L T n k D) r ≠ xk L T n k D r
      · obtain ⟨r, hr, e⟩ := e
        refine ih (k + 1) ?_
        have h1 := xs_lt (D := xd L T n (xk L T n k D)) (D' := xk L T n k D) n (fun r _ => xd_le _ _ _ _ _) hr (by have := xd_le L T n (xk L T n k D) r; omega)
        show xs (xd L T n (xk L T n k D)) n ≤ (s : Int)
        omega
      · refine ⟨k, funext fun r => ?_⟩
        by_cases hr : r < n
        · by_cases e' : xd L T n (xk L T n k D) r = xk L T n k D r
          · exact e'
          · exact absurd ⟨r, hr, e'⟩ e
        · exact xd_out hT _ (by omega) n
  have h0 : 0 ≤ xs (xk L T n 0 D) n := xs_0 n (fun r _ => h r)
  exact key (xs (xk L T n 0 D) n).toNat 0 (by omega)
/-- xleast of those that are so -/
theorem xleast {P : Nat → Prop} {n : Nat} (v : Nat → Int) (h : ∃ r, r < n ∧ P r) : ∃ r, r < n ∧ P r ∧ ∀ r', r' < n → P r' → v r ≤ v r' := by
  induction n with
  | zero => obtain ⟨r, hr, _⟩ := h; omega
  | succ n ih =>
    by_cases h' : ∃ r, r < n ∧ P r
    · obtain ⟨r, h1, h2, h3⟩ := ih h'
      by_cases hn : P n ∧ v n < v r
      · refine ⟨n, by omega, hn.1, fun r' z1 z2 => ?_⟩
        by_cases e : r' = n
        · rw [e]; exact Int.le_refl _
        · have := h3 r' (by omega) z2
          omega
      · refine ⟨r, by omega, h2, fun r' z1 z2 => ?_⟩
        by_cases e : r' = n
        · subst e
          have : ¬ v r' < v r := fun z => hn ⟨z2, z⟩
          omega
        · exact h3 r' (by omega) z2
    · obtain ⟨r, h1, h2⟩ := h
      have : r = n := by
        by_cases e : r = n
        · exact e
        · exact absurd ⟨r, by omega, h2⟩ h'
      subst this
      refine ⟨r, by omega, h2, fun r' z1 z2 => ?_⟩
      by_cases e : r' = r
      · rw [e]; exact Int.le_refl _
      · exact absurd ⟨r', by omega, z2⟩ h'
/-- n rounds over n gears are enough -/
theorem xk_conv {L : Nat → Int} {T : Nat → List Nat} {n s : Nat} (hL : ∀ g, T g ≠ [] → 1 ≤ L g) (hT : ∀ g r, r ∈ T g → r < n) {D : Nat → Int} (h0 : ∀ r, 0 ≤ D r) (hi : ∀ r, D r ≤ 1000000) (hg : xGV L T n s D) (hs : ∀ r, r ∈ T s → D r ≤ L s) : xd L T n (xk L T n n D) = xk L T n n D := by
  obtain ⟨K, hK⟩ := xk_rest hL hT D h0
  -- the last values
  have fin : ∀ k r, xk L T n K D r ≤ xk L T n k D r := fun k r => by
    by_cases e : k ≤ K
    · exact xk_le L T n e D r
    · have := xk_fix hK (k - K)
      rw [show K + (k - K) = k by omega] at this
      rw [this]
      exact Int.le_refl _
  obtain ⟨gF, sF, iF⟩ := xk_gv hL hi hg hs K
  have cntk : ∀ k, k ≤ n → k ≤ cnt (fun r => decide (xk L T n k D r = xk L T n K D r)) n ∨ ∀ r, r < n → xk L T n k D r = xk L T n K D r := by
    intro k
    induction k with
    | zero => intro _; exact Or.inl (Nat.zero_le _)
    | succ k ih =>
      intro hk
      have keep : ∀ r, xk L T n k D r = xk L T n K D r → xk L T n (k + 1) D r = xk L T n K D r := fun r e => by
        have h1 := fin (k + 1) r
        have h2 := xk_le L T n (Nat.le_succ k) D r
        rw [e] at h2
        exact Int.le_antisymm h2 h1
      by_cases hall : ∀ r, r < n → xk L T n k D r = xk L T n K D r
      · exact Or.inr (fun r hr => keep r (hall r hr))
      · rcases ih (by omega) with hc | hc
        · left
          obtain ⟨r, hr, hne, hmin⟩ := xleast (P := fun r => xk L T n k D r ≠ xk L T n K D r) (n := n) (fun r => xk L T n K D r) (by
            by_cases e : ∃ r, r < n ∧ xk L T n k D r ≠ xk L T n K D r
            · exact e
            · exact absurd (fun r hr => by
                by_cases e' : xk L T n k D r = xk L T n K D r
                · exact e'
                · exact absurd ⟨r, hr, e'⟩ e) hall)
          have hnew : xk L T n (k + 1) D r = xk L T n K D r := by
            have hlt : xk L T n K D r < xk L T n k D r := by have := fin k r; omega
            have hfin : xk L T n K D r ≠ 1000000 := by
              obtain ⟨_, _, ik⟩ := xk_gv hL hi hg hs k
              have := ik r
              omega
            rcases gF r hfin with ⟨z1, z2⟩ | ⟨g, z1, z2, z3, z4⟩
            · exfalso
              obtain ⟨_, sk, _⟩ := xk_gv hL hi hg hs k
              have := sk r z1
              omega
            · have hLg := hL g (fun e => by rw [e] at z2; cases z2)
              have hgs : xk L T n k D g = xk L T n K D g := by
                by_cases e : xk L T n k D g = xk L T n K D g
                · exact e
                · have := hmin g z1 e
                  omega
              -- gear g in round k + 1
              have hd : xd L T g (xk L T n k D) g = xk L T n K D g := by
                have h1 : xd L T g (xk L T n k D) g ≤ xk L T n k D g := xd_le _ _ _ _ _
                have h2 : xk L T n (k + 1) D g ≤ xd L T g (xk L T n k D) g := xd_le2 L T (by omega) _ _
                have h3 := fin (k + 1) g
                omega
              have h4 : xd L T (g + 1) (xk L T n k D) r ≤ xk L T n K D g + L g := by
                show xg L T g (xd L T g (xk L T n k D)) r ≤ _
                unfold xg
                rw [hd, if_neg z3]
                exact xl_tgt _ _ _ _ z2
              have h5 : xk L T n (k + 1) D r ≤ xd L T (g + 1) (xk L T n k D) r := xd_le2 L T (by omega) _ _
              have h6 := fin (k + 1) r
              omega
          have := cnt_grow (p := fun r => decide (xk L T n k D r = xk L T n K D r)) (q := fun r => decide (xk L T n (k + 1) D r = xk L T n K D r)) hr (fun j _ hj => by
            simp only [decide_eq_true_eq] at hj ⊢
            exact keep j hj) (by simpa using hne) (by simpa using hnew)
          omega
        · exact absurd hc hall
  have hn : xk L T n n D = xk L T n K D := funext fun r => by
    by_cases hr : r < n
    · rcases cntk n (Nat.le_refl n) with hc | hc
      · have h1 := cnt_le (fun r => decide (xk L T n n D r = xk L T n K D r)) n
        have h2 := cnt_full (p := fun r => decide (xk L T n n D r = xk L T n K D r)) (by omega) r hr
        simpa using h2
      · exact hc r hr
    · have out : ∀ k, xk L T n k D r = D r := fun k => by
        induction k with
        | zero => rfl
        | succ k ih => show xd L T n (xk L T n k D) r = D r; rw [xd_out hT _ (by omega) n]; exact ih
      rw [out, out]
  rw [hn]
  exact hK
