/-! ===== reads of rows ===== -/
theorem wc_at (c : h_C) (f i k : Nat) (x : Int) (g j l : Nat) : wc c f i k x g j l = if g = f ∧ j = i ∧ l = k then x else c g j l := by
  unfold wc sr up
  by_cases h1 : g = f
  · subst h1
    by_cases h2 : j = i
    · subst h2
      by_cases h3 : l = k <;> simp [h3]
    · simp [h2]
  · simp [h1]
theorem sr_at (c : h_C) (f i : Nat) (r : Nat → Int) (g j l : Nat) : sr c f i r g j l = if g = f ∧ j = i then r l else c g j l := by
  unfold sr
  by_cases h1 : g = f
  · subst h1
    by_cases h2 : j = i <;> simp [h2]
  · simp [h1]
theorem wm_at (m : h_M) (f k : Nat) (x : Int) (g j : Nat) : wm m f k x g j = if g = f ∧ j = k then x else m g j := by
  unfold wm sm up
  by_cases h1 : g = f
  · subst h1
    by_cases h2 : j = k <;> simp [h2]
  · simp [h1]
theorem fl_at (r : Nat → Int) (n : Nat) (x : Int) (j : Nat) : fl r n x j = if j < n then x else r j := rfl
theorem cp_at (s : Nat → Int) (sp : Nat) (d : Nat → Int) (dp n j : Nat) : cp s sp d dp n j = if dp ≤ j ∧ j < dp + n then s (sp + (j - dp)) else d j := rfl
/-! ===== how a function is run ===== -/
theorem qdC {α σ β : Type} {x : Option (α × σ)} {a : α} {s : σ} {k : α → σ → Option β} {r : Option β} (hx : x = some (a, s)) (h : k a s = r) : q_bd x k = r := by
  subst hx
  exact h
theorem qvC {σ β : Type} {x : Option σ} {s : σ} {k : σ → Option β} {r : Option β} (hx : x = some s) (h : k s = r) : q_bv x k = r := by
  subst hx
  exact h
theorem ifT {β : Type} {c : Prop} [Decidable c] {x y r : β} (hc : c) (h : x = r) : (if c then x else y) = r := by
  rw [if_pos hc]
  exact h
theorem ifF {β : Type} {c : Prop} [Decidable c] {x y r : β} (hc : ¬ c) (h : y = r) : (if c then x else y) = r := by
  rw [if_neg hc]
  exact h
theorem q_eta {α σ : Type} (x : Option (α × σ)) : q_bd x (fun a s => some (a, s)) = x := by
  cases x <;> rfl
theorem p_w1 {x : Int} (h0 : -2147483648 ≤ x) (h1 : x < 2147483648) : p_w x = x := p_w_id ⟨h0, h1⟩
/-- all rows but these are as they were -/
def eC (l : List Nat) (c c' : h_C) : Prop := ∀ f, f ∉ l → c' f = c f
def eM (l : List Nat) (m m' : h_M) : Prop := ∀ f, f ∉ l → m' f = m f
theorem eC.rf (l : List Nat) (c : h_C) : eC l c c := fun _ _ => rfl
theorem eM.rf (l : List Nat) (m : h_M) : eM l m m := fun _ _ => rfl
theorem eC.wc {l : List Nat} {c c' : h_C} (h : eC l c c') {f : Nat} (hf : f ∈ l) (i k : Nat) (x : Int) : eC l c (wc c' f i k x) := fun g hg => by
  have hn : g ≠ f := fun w => hg (w ▸ hf)
  show sr c' f i _ g = c g
  rw [sr_nf hn]
  exact h g hg
theorem eC.sr {l : List Nat} {c c' : h_C} (h : eC l c c') {f : Nat} (hf : f ∈ l) (i : Nat) (r : Nat → Int) : eC l c (sr c' f i r) := fun g hg => by
  have hn : g ≠ f := fun w => hg (w ▸ hf)
  rw [sr_nf hn]
  exact h g hg
theorem eM.wm {l : List Nat} {m m' : h_M} (h : eM l m m') {f : Nat} (hf : f ∈ l) (k : Nat) (x : Int) : eM l m (wm m' f k x) := fun g hg => by
  have hn : g ≠ f := fun w => hg (w ▸ hf)
  show sm m' f _ g = m g
  rw [sm_n hn]
  exact h g hg
theorem eC.tr {l : List Nat} {c c1 c2 : h_C} (h : eC l c c1) (k : eC l c1 c2) : eC l c c2 := fun f hf => (k f hf).trans (h f hf)
theorem eM.tr {l : List Nat} {m m1 m2 : h_M} (h : eM l m m1) (k : eM l m1 m2) : eM l m m2 := fun f hf => (k f hf).trans (h f hf)
theorem eC.up {l l' : List Nat} {c c' : h_C} (h : eC l c c') (hl : ∀ f ∈ l, f ∈ l') : eC l' c c' := fun f hf => h f (fun w => hf (hl f w))
theorem eM.up {l l' : List Nat} {m m' : h_M} (h : eM l m m') (hl : ∀ f ∈ l, f ∈ l') : eM l' m m' := fun f hf => h f (fun w => hf (hl f w))
/-- no row of the first is in the second -/
def dj (s l : List Nat) : Prop := s.all (fun f => !l.contains f) = true
theorem dj.at {s l : List Nat} (h : dj s l) {f : Nat} (hf : f ∈ s) : f ∉ l := fun w => by
  have h1 := List.all_eq_true.mp h f hf
  have h2 : l.contains f = true := List.contains_iff_mem.mpr w
  rw [h2] at h1
  cases h1
/-! ===== how many of the first n are so ===== -/
def cnt (p : Nat → Bool) : Nat → Nat
  | 0 => 0
  | n + 1 => cnt p n + (if p n then 1 else 0)
theorem cnt_le (p : Nat → Bool) (n : Nat) : cnt p n ≤ n := by
  induction n with
  | zero => exact Nat.le_refl _
  | succ n ih => unfold cnt; split <;> omega
theorem cnt_ext {p q : Nat → Bool} (n : Nat) (h : ∀ k, k < n → p k = q k) : cnt p n = cnt q n := by
  induction n with
  | zero => rfl
  | succ n ih => unfold cnt; rw [ih (fun k hk => h k (by omega)), h n (by omega)]
theorem cnt_full {p : Nat → Bool} {n : Nat} (h : cnt p n = n) (k : Nat) (hk : k < n) : p k = true := by
  induction n with
  | zero => omega
  | succ n ih =>
    unfold cnt at h
    have := cnt_le p n
    by_cases hp : p n = true
    · rw [if_pos hp] at h
      by_cases hk' : k = n
      · rw [hk']; exact hp
      · exact ih (by omega) (by omega)
    · rw [if_neg hp] at h; omega
theorem cnt_set {p q : Nat → Bool} {n x : Nat} (hx : x < n) (h : ∀ k, k < n → k ≠ x → q k = p k) : cnt q n + (if p x then 1 else 0) = cnt p n + (if q x then 1 else 0) := by
  induction n with
  | zero => omega
  | succ n ih =>
    unfold cnt
    by_cases hx' : x = n
    · subst hx'
      rw [cnt_ext (p := q) (q := p) x (fun k hk => h k (by omega) (by omega))]
      omega
    · have := ih (by omega) (fun k hk hn => h k (by omega) hn)
      rw [h n (by omega) (by omega)]
      omega
/-- slot k of gear g of works w: empty in both, or a place in the class's, that place's number in the reference's -/
def SL (c : h_C) (m : h_M) (w g k : Nat) : Prop :=
  (c 2012 (40 * w + g + 1) k = 0 ∧ m 22 (8 * (40 * w + g) + k) = 0) ∨
  (∃ pl : Nat, 1 ≤ pl ∧ pl ≤ 30 ∧ c 2012 (40 * w + g + 1) k = (pl : Int) ∧ 1 ≤ c 101 (31 * w + pl) 0 ∧ m 22 (8 * (40 * w + g) + k) = c 101 (31 * w + pl) 0 ∧ c 105 (31 * w + pl) 0 = (g : Int) ∧ c 106 (31 * w + pl) 0 = (k : Int) ∧ (g : Int) < m 3 w ∧ (k : Int) < m 6 (40 * w + g))
/-- the parcel at place pl of works w has number q -/
def PO (b : Nat) (c : h_C) (m : h_M) (w pl q : Nat) : Prop :=
  ((1 ≤ q ∧ (q : Int) ≤ m 123 0 ∧ m 24 q = (w : Int) ∧ m 25 q = 1) ∧
   (∃ g k : Nat, g < 40 ∧ k < 8 ∧ c 105 (31 * w + pl) 0 = (g : Int) ∧ c 106 (31 * w + pl) 0 = (k : Int) ∧ (g : Int) < m 3 w ∧ (k : Int) < m 6 (40 * w + g) ∧ c 2012 (40 * w + g + 1) k = (pl : Int) ∧ m 26 q = (g : Int) ∧ m 27 q = (k : Int))) ∧
  (m 28 q = c 102 (31 * w + pl) 0 ∧ 1 ≤ m 28 q ∧ m 28 q ≤ 999) ∧ (m 29 q = c 103 (31 * w + pl) 0 ∧ 0 ≤ m 29 q ∧ m 29 q ≤ 9) ∧
  (m 30 q = c 104 (31 * w + pl) 0 ∧ (m 30 q = -9 ∨ m 30 q = -8 ∨ (0 ≤ m 30 q ∧ m 30 q < 40))) ∧
  (m 35 q = c 107 (31 * w + pl) 0 ∧ (m 35 q = 0 ∨ m 35 q = 1)) ∧
  (m 33 q = c 109 (31 * w + pl) 0 ∧ 0 ≤ m 33 q ∧ m 33 q ≤ (b : Int) ∧ ∀ k : Nat, k < 16 → (k : Int) < m 33 q → m 34 (16 * q + k) = c 2014 (31 * w + pl) k) ∧
  (m 31 q = c 111 (31 * w + pl) 0 ∧ -1 ≤ m 31 q ∧ m 31 q ≤ 12 ∧ ∀ k : Nat, k < 12 → (k : Int) < m 31 q → m 32 (12 * q + k) = c 2015 (31 * w + pl) k ∧ 0 ≤ m 32 (12 * q + k) ∧ m 32 (12 * q + k) < 256)
/-- the letters of a number, of a test, of a rule, of all rules, as the reference says them -/
def tN (v : Int) : List Int := if 999 < v then [48 + v / 1000 % 10, 48 + v / 100 % 10, 48 + v / 10 % 10, 48 + v % 10] else if 99 < v then [48 + v / 100 % 10, 48 + v / 10 % 10, 48 + v % 10] else if 9 < v then [48 + v / 10 % 10, 48 + v % 10] else [48 + v % 10]
def tT (m : h_M) (t : Nat) : List Int := m 52 t :: ((if m 52 t = 81 then tN (m 53 t) else []) ++ (m 54 t :: tN (m 55 t)))
def tS (m : h_M) (t0 : Nat) : Nat → List Int
  | 0 => []
  | n + 1 => tS m t0 n ++ ((if n = 0 then [] else [44]) ++ tT m (t0 + n))
def tR (m : h_M) (r : Nat) : List Int := tS m (4 * r) (m 50 r).toNat ++ (58 :: (tN (m 49 r) ++ [59]))
def tW (m : h_M) (r0 : Nat) : Nat → List Int
  | 0 => []
  | n + 1 => tW m r0 n ++ tR m (r0 + n)
/-- how many of the first t slots of a kept row, which begins at B, have a parcel -/
def kpos (m : h_M) (B t : Nat) : Nat := cnt (fun s => decide (0 < m 83 (B + 17 + 19 * (s / 8) + s % 8))) t
/-- a parcel kept: place pl, ring place x, in the reference's row at B -/
def KP (b : Nat) (c : h_C) (m : h_M) (w x B G pl q : Nat) : Prop :=
  ((1 ≤ q ∧ (q : Int) ≤ m 83 (B + 5) ∧ m 24 q = (w : Int)) ∧ m 28 q = c 2016 (31 * w + pl) (37 * x + 1) ∧ 1 ≤ m 28 q ∧ m 28 q ≤ 999 ∧ m 29 q = c 2016 (31 * w + pl) (37 * x + 2) ∧ 0 ≤ m 29 q ∧ m 29 q ≤ 9) ∧
  (∃ g k : Nat, g < G ∧ k < 8 ∧ (k : Int) < m 6 (40 * w + g) ∧ c 2016 (31 * w + pl) (37 * x + 4) = (g : Int) ∧ c 2016 (31 * w + pl) (37 * x + 5) = (k : Int) ∧ m 83 (B + 17 + 19 * g + k) = (q : Int) ∧
    (∃ D : Nat, D = B + 338 + 19 * G + 34 * kpos m B (8 * g + k) ∧ m 83 D = (g : Int) ∧ m 83 (D + 1) = (k : Int) ∧
      m 83 (D + 2) = c 2016 (31 * w + pl) (37 * x + 3) ∧ (m 83 (D + 2) = -9 ∨ m 83 (D + 2) = -8 ∨ (0 ≤ m 83 (D + 2) ∧ m 83 (D + 2) < 40)) ∧
      m 83 (D + 3) = c 2016 (31 * w + pl) (37 * x + 8) ∧ -1 ≤ m 83 (D + 3) ∧ m 83 (D + 3) ≤ 12 ∧
      m 83 (D + 4) = c 2016 (31 * w + pl) (37 * x + 7) ∧ 0 ≤ m 83 (D + 4) ∧ m 83 (D + 4) ≤ (b : Int) ∧
      m 83 (D + 5) = c 2016 (31 * w + pl) (37 * x + 6) ∧ (m 83 (D + 5) = 0 ∨ m 83 (D + 5) = 1) ∧
      (∀ k : Nat, k < 12 → (k : Int) < m 83 (D + 3) → m 83 (D + 6 + k) = c 2016 (31 * w + pl) (37 * x + 25 + k) ∧ 0 ≤ m 83 (D + 6 + k) ∧ m 83 (D + 6 + k) < 256) ∧
      (∀ k : Nat, k < 16 → (k : Int) < m 83 (D + 4) → m 83 (D + 18 + k) = c 2016 (31 * w + pl) (37 * x + 9 + k))))
/-- a state kept: ring place x of the class, the reference's row at B, G gear -/
def KS (b : Nat) (c : h_C) (m : h_M) (w x B G : Nat) : Prop :=
  (c 2007 w (16 * x) = m 83 B ∧ 0 ≤ m 83 B ∧ m 83 B ≤ (b : Int) ∧ c 2007 w (16 * x + 1) = m 83 (B + 2) ∧ c 2007 w (16 * x + 2) = m 83 (B + 1) ∧ c 2004 (2 * w + 1) x = m 83 (B + 3) ∧ 0 ≤ m 83 (B + 3) ∧ m 83 (B + 3) ≤ (b : Int) ∧ c 2004 (2 * w) x = m 83 (B + 4) ∧ 0 ≤ m 83 (B + 4) ∧ m 83 (B + 4) ≤ (b : Int) ∧ c 2007 w (16 * x + 3) = m 83 (B + 5) ∧ 0 ≤ m 83 (B + 5) ∧ m 83 (B + 5) ≤ m 123 0) ∧
  (∀ g : Nat, g < G → (c 2013 (40 * w + g + 1) (11 * x) = m 83 (B + 6 + 19 * g) ∧ c 2013 (40 * w + g + 1) (11 * x + 1) = m 83 (B + 9 + 19 * g) ∧ c 2013 (40 * w + g + 1) (11 * x + 2) = m 83 (B + 11 + 19 * g) ∧ c 2013 (40 * w + g + 1) (11 * x + 3) = m 83 (B + 12 + 19 * g) ∧ c 2013 (40 * w + g + 1) (11 * x + 4) = m 83 (B + 13 + 19 * g) ∧ c 2013 (40 * w + g + 1) (11 * x + 5) = m 83 (B + 14 + 19 * g) ∧ c 2013 (40 * w + g + 1) (11 * x + 6) = m 83 (B + 15 + 19 * g) ∧ c 2013 (40 * w + g + 1) (11 * x + 7) = m 83 (B + 16 + 19 * g) ∧ c 2013 (40 * w + g + 1) (11 * x + 8) = m 83 (B + 8 + 19 * g) ∧ c 2013 (40 * w + g + 1) (11 * x + 9) = m 83 (B + 7 + 19 * g) ∧ c 2013 (40 * w + g + 1) (11 * x + 10) = m 83 (B + 10 + 19 * g)) ∧
    (0 ≤ m 83 (B + 6 + 19 * g) ∧ (m 83 (B + 6 + 19 * g) = 0 ∨ (m 5 (40 * w + g) = 5 ∧ m 83 (B + 6 + 19 * g) < 2) ∨ (m 5 (40 * w + g) = 6 ∧ m 83 (B + 6 + 19 * g) < 3))) ∧ (m 83 (B + 9 + 19 * g) = 0 ∨ m 83 (B + 9 + 19 * g) = 1) ∧ (0 ≤ m 83 (B + 8 + 19 * g) ∧ m 83 (B + 8 + 19 * g) ≤ 20) ∧ -1 ≤ m 83 (B + 7 + 19 * g) ∧
    (∀ k : Nat, k < 8 → m 83 (B + 17 + 19 * g + k) = 0 ∨ ∃ pl : Nat, 1 ≤ pl ∧ pl ≤ 30 ∧ 1 ≤ c 2016 (31 * w + pl) (37 * x) ∧ m 83 (B + 17 + 19 * g + k) = c 2016 (31 * w + pl) (37 * x) ∧ c 2016 (31 * w + pl) (37 * x + 4) = (g : Int) ∧ c 2016 (31 * w + pl) (37 * x + 5) = (k : Int))) ∧
  (∀ t r : Nat, t < 30 → r < 4 → c 2006 (2 * w + 1) (150 * x + 5 * t + r) = m 83 (B + 6 + 19 * G + 4 * t + r)) ∧
  (∀ k : Nat, k < 200 → c 2006 (2 * w) (200 * x + k) = m 83 (B + 126 + 19 * G + k)) ∧
  (∀ r : Nat, r < 12 → (r : Int) < m 48 w → c 2007 w (16 * x + 4 + r) = m 83 (B + 326 + 19 * G + r)) ∧
  (∀ pl : Nat, 1 ≤ pl → pl ≤ 30 → c 2016 (31 * w + pl) (37 * x) = 0 ∨ ∃ q : Nat, c 2016 (31 * w + pl) (37 * x) = (q : Int) ∧ KP b c m w x B G pl q) ∧
  m 83 (B + 1) = (cnt (fun k => decide (c 2016 (31 * w + k + 1) (37 * x) ≠ 0)) 30 : Nat) ∧ (∀ pl pl' : Nat, 1 ≤ pl → pl ≤ 30 → 1 ≤ pl' → pl' ≤ 30 → c 2016 (31 * w + pl) (37 * x) ≠ 0 → c 2016 (31 * w + pl') (37 * x) = c 2016 (31 * w + pl) (37 * x) → pl' = pl)
/-- the ring places of the j-th state kept of works w -/
def kx (c : h_C) (w j : Nat) : Nat := ((c 212 w 0).toNat + 30 - (c 213 w 0).toNat + j) % 30
def ky (m : h_M) (w j : Nat) : Nat := 2600 * (30 * w + ((m 82 w).toNat + j) % 30)
def RA (c : h_C) (m : h_M) : Prop := c 5000 0 0 = m 100 0 ∧ 0 ≤ m 100 0 ∧ m 100 0 < 3 ∧ c 608 0 0 = m 101 0 ∧ (-2147483648 ≤ m 102 0 ∧ m 102 0 < 2147483648) ∧ c 606 0 0 = m 147 0 ∧ 0 ≤ m 147 0 ∧ m 147 0 ≤ 200 ∧ (∀ k, c 2042 0 k = m 46 k) ∧ (∀ w, w < 3 → c 200 w 0 = (w : Int))
def sRA : List Nat := [5000, 606, 608, 2042, 200]
def tRA : List Nat := [100, 101, 102, 147, 46]
theorem RA.fr {c c' : h_C} {m m' : h_M} (h : RA c m) (hc : ∀ f ∈ sRA, c' f = c f) (hm : ∀ f ∈ tRA, m' f = m f) : RA c' m' := by
  unfold RA  at h ⊢
  simp only [hc 5000 (by decide), hc 606 (by decide), hc 608 (by decide), hc 2042 (by decide), hc 200 (by decide), hm 100 (by decide), hm 101 (by decide), hm 102 (by decide), hm 147 (by decide), hm 46 (by decide)]
  exact h
def RF (c : h_C) (m : h_M) : Prop := (∀ w, c 202 w 0 = m 3 w ∧ 0 ≤ m 3 w ∧ m 3 w ≤ 40) ∧ (∀ i, c 0 (i + 1) 0 = m 5 i ∧ c 1 (i + 1) 0 = m 6 i ∧ 0 ≤ m 5 i ∧ m 5 i ≤ 10 ∧ 0 ≤ m 6 i ∧ m 6 i ≤ 8) ∧ (∀ w g : Nat, w < 3 → (g : Int) < m 3 w → (m 5 (40 * w + g) < 9 → 1 ≤ m 6 (40 * w + g)) ∧ (9 ≤ m 5 (40 * w + g) → m 6 (40 * w + g) = 0))
def sRF : List Nat := [202, 0, 1]
def tRF : List Nat := [3, 5, 6]
theorem RF.fr {c c' : h_C} {m m' : h_M} (h : RF c m) (hc : ∀ f ∈ sRF, c' f = c f) (hm : ∀ f ∈ tRF, m' f = m f) : RF c' m' := by
  unfold RF  at h ⊢
  simp only [hc 202 (by decide), hc 0 (by decide), hc 1 (by decide), hm 3 (by decide), hm 5 (by decide), hm 6 (by decide)]
  exact h
def RG (c : h_C) (m : h_M) : Prop := (∀ i, (c 6 (i + 1) 0 = m 10 i ∧ c 7 (i + 1) 0 = m 14 i ∧ c 8 (i + 1) 0 = m 16 i ∧ c 9 (i + 1) 0 = m 17 i ∧ c 10 (i + 1) 0 = m 18 i ∧ c 11 (i + 1) 0 = m 19 i ∧ c 12 (i + 1) 0 = m 20 i ∧ c 13 (i + 1) 0 = m 21 i ∧ c 14 (i + 1) 0 = m 13 i ∧ c 16 (i + 1) 0 = m 15 i) ∧ (0 ≤ m 10 i ∧ (m 10 i = 0 ∨ (m 5 i = 5 ∧ m 10 i < 2) ∨ (m 5 i = 6 ∧ m 10 i < 3))) ∧ (m 14 i = 0 ∨ m 14 i = 1) ∧ (0 ≤ m 13 i ∧ m 13 i ≤ 20) ∧ (m 5 i < 9 → c 2 (i + 1) 0 = m 9 i ∧ 0 ≤ m 9 i) ∧ (9 ≤ m 5 i → c 2 (i + 1) 0 = 0) ∧ (∀ k, k < 3 → c 2010 (i + 1) k = m 8 (3 * i + k) ∧ -1 ≤ m 8 (3 * i + k) ∧ m 8 (3 * i + k) < 40) ∧ (c 2011 (i + 1) 1 = m 11 (2 * i) ∧ c 2011 (i + 1) 2 = m 11 (2 * i + 1) ∧ 0 ≤ m 11 (2 * i) ∧ m 11 (2 * i) < 1099511627776 ∧ 0 ≤ m 11 (2 * i + 1) ∧ m 11 (2 * i + 1) < 1099511627776 ∧ (m 5 i = 5 → m 11 (2 * i + 1) = 0))) ∧ (∀ w g : Nat, w < 3 → g < 40 → ((g : Int) < m 3 w → c 3 (40 * w + g + 1) 0 = m 7 (40 * w + g) ∧ -1 ≤ m 7 (40 * w + g) ∧ m 7 (40 * w + g) ≤ 3 ∧ c 15 (40 * w + g + 1) 0 = m 12 (40 * w + g) ∧ -1 ≤ m 12 (40 * w + g)) ∧ (m 3 w ≤ (g : Int) → c 3 (40 * w + g + 1) 0 = -1))
def sRG : List Nat := [2, 3, 6, 7, 8, 9, 10, 11, 12, 13, 14, 15, 16, 2010, 2011]
def tRG : List Nat := [3, 5, 7, 8, 9, 10, 11, 12, 13, 14, 15, 16, 17, 18, 19, 20, 21]
theorem RG.fr {c c' : h_C} {m m' : h_M} (h : RG c m) (hc : ∀ f ∈ sRG, c' f = c f) (hm : ∀ f ∈ tRG, m' f = m f) : RG c' m' := by
  unfold RG  at h ⊢
  simp only [hc 2 (by decide), hc 3 (by decide), hc 6 (by decide), hc 7 (by decide), hc 8 (by decide), hc 9 (by decide), hc 10 (by decide), hc 11 (by decide), hc 12 (by decide), hc 13 (by decide), hc 14 (by decide), hc 15 (by decide), hc 16 (by decide), hc 2010 (by decide), hc 2011 (by decide), hm 3 (by decide), hm 5 (by decide), hm 7 (by decide), hm 8 (by decide), hm 9 (by decide), hm 10 (by decide), hm 11 (by decide), hm 12 (by decide), hm 13 (by decide), hm 14 (by decide), hm 15 (by decide), hm 16 (by decide), hm 17 (by decide), hm 18 (by decide), hm 19 (by decide), hm 20 (by decide), hm 21 (by decide)]
  exact h
def RN (c : h_C) (m : h_M) : Prop := c 701 0 0 = m 123 0 ∧ 0 ≤ m 123 0 ∧ m 123 0 ≤ 2000 ∧ (∀ q : Nat, 1 ≤ q → (q : Int) ≤ m 123 0 → (m 25 q = 0 ∨ m 25 q = 1 ∨ m 25 q = 2) ∧ 0 ≤ m 24 q ∧ m 24 q < 3 ∧ c 2040 0 q = (if m 25 q = 0 then -9 else if m 25 q = 1 then -10 - m 24 q else 1000 * m 24 q + m 37 q) ∧ (m 25 q = 2 → 0 ≤ m 37 q ∧ m 37 q < 40))
def sRN : List Nat := [701, 2040]
def tRN : List Nat := [123, 24, 25, 37]
theorem RN.fr {c c' : h_C} {m m' : h_M} (h : RN c m) (hc : ∀ f ∈ sRN, c' f = c f) (hm : ∀ f ∈ tRN, m' f = m f) : RN c' m' := by
  unfold RN  at h ⊢
  simp only [hc 701 (by decide), hc 2040 (by decide), hm 123 (by decide), hm 24 (by decide), hm 25 (by decide), hm 37 (by decide)]
  exact h
def RP (b : Nat) (c : h_C) (m : h_M) : Prop := (∀ w pl : Nat, w < 3 → 1 ≤ pl → pl ≤ 30 → c 100 (31 * w + pl) 0 = (pl : Int)) ∧ (∀ w g k : Nat, w < 3 → g < 40 → k < 8 → SL c m w g k) ∧ (∀ w pl : Nat, w < 3 → 1 ≤ pl → pl ≤ 30 → c 101 (31 * w + pl) 0 = 0 ∨ ∃ q : Nat, c 101 (31 * w + pl) 0 = (q : Int) ∧ PO b c m w pl q) ∧ (∀ w q : Nat, w < 3 → 1 ≤ q → (q : Int) ≤ m 123 0 → m 24 q = (w : Int) → m 25 q = 1 → ∃ pl : Nat, 1 ≤ pl ∧ pl ≤ 30 ∧ c 101 (31 * w + pl) 0 = (q : Int)) ∧ (∀ w : Nat, w < 3 → c 302 w 0 = m 38 w ∧ m 38 w = (cnt (fun k => decide (c 101 (31 * w + k + 1) 0 ≠ 0)) 30 : Nat))
def sRP : List Nat := [2012, 100, 101, 102, 103, 104, 105, 106, 107, 109, 111, 2014, 2015, 302]
def tRP : List Nat := [3, 6, 22, 24, 25, 26, 27, 28, 29, 30, 31, 32, 33, 34, 35, 38, 123]
theorem RP.fr {b : Nat} {c c' : h_C} {m m' : h_M} (h : RP b c m) (hc : ∀ f ∈ sRP, c' f = c f) (hm : ∀ f ∈ tRP, m' f = m f) : RP b c' m' := by
  unfold RP SL PO at h ⊢
  simp only [hc 2012 (by decide), hc 100 (by decide), hc 101 (by decide), hc 102 (by decide), hc 103 (by decide), hc 104 (by decide), hc 105 (by decide), hc 106 (by decide), hc 107 (by decide), hc 109 (by decide), hc 111 (by decide), hc 2014 (by decide), hc 2015 (by decide), hc 302 (by decide), hm 3 (by decide), hm 6 (by decide), hm 22 (by decide), hm 24 (by decide), hm 25 (by decide), hm 26 (by decide), hm 27 (by decide), hm 28 (by decide), hm 29 (by decide), hm 30 (by decide), hm 31 (by decide), hm 32 (by decide), hm 33 (by decide), hm 34 (by decide), hm 35 (by decide), hm 38 (by decide), hm 123 (by decide)]
  exact h
def RL (b : Nat) (c : h_C) (m : h_M) : Prop := ∀ w : Nat, w < 3 → (c 400 (2 * w) 0 = 40 ∧ c 401 (2 * w) 0 = 5 ∧ c 403 (2 * w) 0 = m 42 w ∧ 0 ≤ m 42 w ∧ m 42 w ≤ (b : Int) ∧ (∀ k : Nat, k < 200 → c 2005 (2 * w) k = m 43 (200 * w + k))) ∧ (c 400 (2 * w + 1) 0 = 30 ∧ c 401 (2 * w + 1) 0 = 4 ∧ c 403 (2 * w + 1) 0 = m 40 w ∧ 0 ≤ m 40 w ∧ m 40 w ≤ (b : Int) ∧ (∀ t r : Nat, t < 30 → r < 4 → c 2005 (2 * w + 1) (5 * t + r) = m 41 (120 * w + 4 * t + r)))
def sRL : List Nat := [400, 401, 403, 2005]
def tRL : List Nat := [40, 41, 42, 43]
theorem RL.fr {b : Nat} {c c' : h_C} {m m' : h_M} (h : RL b c m) (hc : ∀ f ∈ sRL, c' f = c f) (hm : ∀ f ∈ tRL, m' f = m f) : RL b c' m' := by
  unfold RL  at h ⊢
  simp only [hc 400 (by decide), hc 401 (by decide), hc 403 (by decide), hc 2005 (by decide), hm 40 (by decide), hm 41 (by decide), hm 42 (by decide), hm 43 (by decide)]
  exact h
def RT (b : Nat) (c : h_C) (m : h_M) : Prop := ∀ w : Nat, w < 3 → c 211 w 0 = m 44 w ∧ 0 ≤ m 44 w ∧ m 44 w ≤ (b : Int) ∧ (∀ k : Nat, k < 60 → c 2037 w k = m 45 (60 * w + k))
def sRT : List Nat := [211, 2037]
def tRT : List Nat := [44, 45]
theorem RT.fr {b : Nat} {c c' : h_C} {m m' : h_M} (h : RT b c m) (hc : ∀ f ∈ sRT, c' f = c f) (hm : ∀ f ∈ tRT, m' f = m f) : RT b c' m' := by
  unfold RT  at h ⊢
  simp only [hc 211 (by decide), hc 2037 (by decide), hm 44 (by decide), hm 45 (by decide)]
  exact h
def RU (c : h_C) (m : h_M) : Prop := ∀ w : Nat, w < 3 → (c 500 w 0 = m 48 w ∧ 0 ≤ m 48 w ∧ m 48 w ≤ 12) ∧ (∀ r : Nat, r < 12 → (r : Int) < m 48 w → (c 2020 w r = m 49 (12 * w + r) ∧ 0 ≤ m 49 (12 * w + r) ∧ m 49 (12 * w + r) < 40) ∧ (c 2021 w r = m 50 (12 * w + r) ∧ 0 ≤ m 50 (12 * w + r) ∧ m 50 (12 * w + r) ≤ 4) ∧ c 2003 w r = m 51 (12 * w + r) ∧ (∀ t : Nat, t < 4 → (t : Int) < m 50 (12 * w + r) → c 2022 w (4 * r + t) = m 52 (48 * w + 4 * r + t) ∧ (m 52 (48 * w + 4 * r + t) = 81 → c 2023 w (4 * r + t) = m 53 (48 * w + 4 * r + t) ∧ 0 ≤ m 53 (48 * w + 4 * r + t) ∧ m 53 (48 * w + 4 * r + t) ≤ 9999) ∧ c 2024 w (4 * r + t) = m 54 (48 * w + 4 * r + t) ∧ c 2025 w (4 * r + t) = m 55 (48 * w + 4 * r + t) ∧ 0 ≤ m 55 (48 * w + 4 * r + t) ∧ m 55 (48 * w + 4 * r + t) ≤ 9999)) ∧ (c 508 w 0 = ((tW m (12 * w) (m 48 w).toNat).length : Int) ∧ (tW m (12 * w) (m 48 w).toNat).length ≤ 200 ∧ (∀ i : Nat, i < (tW m (12 * w) (m 48 w).toNat).length → (tW m (12 * w) (m 48 w).toNat)[i]? = some (c 2026 w i)))
def sRU : List Nat := [500, 508, 2003, 2020, 2021, 2022, 2023, 2024, 2025, 2026]
def tRU : List Nat := [48, 49, 50, 51, 52, 53, 54, 55]
theorem RU.fr {c c' : h_C} {m m' : h_M} (h : RU c m) (hc : ∀ f ∈ sRU, c' f = c f) (hm : ∀ f ∈ tRU, m' f = m f) : RU c' m' := by
  have w0 : ∀ r0 n, tW m' r0 n = tW m r0 n := by
    have e1 : ∀ t, tT m' t = tT m t := by intro t; unfold tT; simp only [hm 52 (by decide), hm 53 (by decide), hm 54 (by decide), hm 55 (by decide)]
    have e2 : ∀ t0 n, tS m' t0 n = tS m t0 n := by
      intro t0 n
      induction n with
      | zero => rfl
      | succ n ih => unfold tS; rw [ih, e1]
    have e3 : ∀ r, tR m' r = tR m r := by intro r; unfold tR; simp only [hm 49 (by decide), hm 50 (by decide), e2]
    intro r0 n
    induction n with
    | zero => rfl
    | succ n ih => unfold tW; rw [ih, e3]
  unfold RU  at h ⊢
  simp only [hc 500 (by decide), hc 508 (by decide), hc 2003 (by decide), hc 2020 (by decide), hc 2021 (by decide), hc 2022 (by decide), hc 2023 (by decide), hc 2024 (by decide), hc 2025 (by decide), hc 2026 (by decide), hm 48 (by decide), hm 49 (by decide), hm 50 (by decide), hm 51 (by decide), hm 52 (by decide), hm 53 (by decide), hm 54 (by decide), hm 55 (by decide), w0]
  exact h
def RQ (c : h_C) (m : h_M) : Prop := ∀ w : Nat, w < 3 → c 206 w 0 = m 56 w ∧ 0 ≤ m 56 w ∧ m 56 w ≤ 16 ∧ (∀ k : Nat, k < 16 → (k : Int) < m 56 w → c 2032 w k = m 57 (16 * w + k) ∧ 1 ≤ m 57 (16 * w + k) ∧ m 57 (16 * w + k) ≤ 4 ∧ (∀ j : Nat, j < 4 → c 2031 (16 * w + k) j = m 58 (64 * w + 4 * k + j)))
def sRQ : List Nat := [206, 2031, 2032]
def tRQ : List Nat := [56, 57, 58]
theorem RQ.fr {c c' : h_C} {m m' : h_M} (h : RQ c m) (hc : ∀ f ∈ sRQ, c' f = c f) (hm : ∀ f ∈ tRQ, m' f = m f) : RQ c' m' := by
  unfold RQ  at h ⊢
  simp only [hc 206 (by decide), hc 2031 (by decide), hc 2032 (by decide), hm 56 (by decide), hm 57 (by decide), hm 58 (by decide)]
  exact h
def RV (c : h_C) (m : h_M) : Prop := ∀ w i : Nat, w < 3 → i < 4 → c 2036 w i = m 59 (4 * w + i) ∧ -1 ≤ m 59 (4 * w + i) ∧ m 59 (4 * w + i) ≤ 8 ∧ c 2035 w i = m 60 (4 * w + i) ∧ 0 ≤ m 60 (4 * w + i) ∧ m 60 (4 * w + i) ≤ 3 ∧ (∀ k : Nat, k < 8 → (k : Int) < m 59 (4 * w + i) → c 2034 (4 * w + i) k = m 61 (8 * (4 * w + i) + k) - 1 ∧ 0 ≤ m 61 (8 * (4 * w + i) + k) ∧ m 61 (8 * (4 * w + i) + k) ≤ m 3 w)
def sRV : List Nat := [2034, 2035, 2036]
def tRV : List Nat := [3, 59, 60, 61]
theorem RV.fr {c c' : h_C} {m m' : h_M} (h : RV c m) (hc : ∀ f ∈ sRV, c' f = c f) (hm : ∀ f ∈ tRV, m' f = m f) : RV c' m' := by
  unfold RV  at h ⊢
  simp only [hc 2034 (by decide), hc 2035 (by decide), hc 2036 (by decide), hm 3 (by decide), hm 59 (by decide), hm 60 (by decide), hm 61 (by decide)]
  exact h
def RS (b : Nat) (c : h_C) (m : h_M) : Prop := ∀ w : Nat, w < 3 → c 300 w 0 = m 4 w ∧ 0 ≤ m 4 w ∧ m 4 w ≤ (b : Int) ∧ c 301 w 0 = m 39 w
def sRS : List Nat := [300, 301]
def tRS : List Nat := [4, 39]
theorem RS.fr {b : Nat} {c c' : h_C} {m m' : h_M} (h : RS b c m) (hc : ∀ f ∈ sRS, c' f = c f) (hm : ∀ f ∈ tRS, m' f = m f) : RS b c' m' := by
  unfold RS  at h ⊢
  simp only [hc 300 (by decide), hc 301 (by decide), hm 4 (by decide), hm 39 (by decide)]
  exact h
def RK (b : Nat) (c : h_C) (m : h_M) : Prop := ∀ w : Nat, w < 3 → (c 213 w 0 = m 81 w ∧ 0 ≤ m 81 w ∧ m 81 w ≤ 30 ∧ 0 ≤ c 212 w 0 ∧ c 212 w 0 < 30 ∧ 0 ≤ m 82 w ∧ m 82 w < 30) ∧ (∀ j : Nat, (j : Int) < m 81 w → KS b c m w (kx c w j) (ky m w j) (m 3 w).toNat ∧ (∀ q : Nat, 1 ≤ q → (q : Int) ≤ m 83 (ky m w j + 5) → m 24 q = (w : Int) → m 25 q = 1 → ∃ pl : Nat, 1 ≤ pl ∧ pl ≤ 30 ∧ c 2016 (31 * w + pl) (37 * kx c w j) = (q : Int)) ∧ (∀ i : Nat, i < j → ∀ pl : Nat, 1 ≤ pl → pl ≤ 30 → c 2016 (31 * w + pl) (37 * kx c w j) ≠ 0 → c 2016 (31 * w + pl) (37 * kx c w j) ≤ m 83 (ky m w i + 5) → ∃ pl' : Nat, 1 ≤ pl' ∧ pl' ≤ 30 ∧ c 2016 (31 * w + pl') (37 * kx c w i) = c 2016 (31 * w + pl) (37 * kx c w j)))
def sRK : List Nat := [212, 213, 2004, 2006, 2007, 2013, 2016]
def tRK : List Nat := [3, 5, 6, 24, 25, 28, 29, 48, 81, 82, 83, 123]
theorem RK.fr {b : Nat} {c c' : h_C} {m m' : h_M} (h : RK b c m) (hc : ∀ f ∈ sRK, c' f = c f) (hm : ∀ f ∈ tRK, m' f = m f) : RK b c' m' := by
  unfold RK KS KP kx ky kpos at h ⊢
  simp only [hc 212 (by decide), hc 213 (by decide), hc 2004 (by decide), hc 2006 (by decide), hc 2007 (by decide), hc 2013 (by decide), hc 2016 (by decide), hm 3 (by decide), hm 5 (by decide), hm 6 (by decide), hm 24 (by decide), hm 25 (by decide), hm 28 (by decide), hm 29 (by decide), hm 48 (by decide), hm 81 (by decide), hm 82 (by decide), hm 83 (by decide), hm 123 (by decide)]
  exact h
theorem PO.more {b b' : Nat} (hb : b ≤ b') {c : h_C} {m : h_M} {w pl q : Nat} (h : PO b c m w pl q) : PO b' c m w pl q := by
  obtain ⟨h1, h2, h3, h4, h5, ⟨a1, a2, a3, a4⟩, h7⟩ := h
  exact ⟨h1, h2, h3, h4, h5, ⟨a1, a2, by omega, a4⟩, h7⟩
theorem RP.more {b b' : Nat} (hb : b ≤ b') {c : h_C} {m : h_M} (h : RP b c m) : RP b' c m := by
  obtain ⟨h1, h2, h3, h4⟩ := h
  refine ⟨h1, h2, fun w pl hw h0 h9 => ?_, h4⟩
  rcases h3 w pl hw h0 h9 with e | ⟨q, e, k⟩
  · exact Or.inl e
  · exact Or.inr ⟨q, e, k.more hb⟩
theorem RL.more {b b' : Nat} (hb : b ≤ b') {c : h_C} {m : h_M} (h : RL b c m) : RL b' c m := fun w hw => by
  obtain ⟨⟨a1, a2, a3, a4, a5, a6⟩, ⟨b1, b2, b3, b4, b5, b6⟩⟩ := h w hw
  exact ⟨⟨a1, a2, a3, a4, by omega, a6⟩, ⟨b1, b2, b3, b4, by omega, b6⟩⟩
theorem RT.more {b b' : Nat} (hb : b ≤ b') {c : h_C} {m : h_M} (h : RT b c m) : RT b' c m := fun w hw => by
  obtain ⟨a1, a2, a3, a4⟩ := h w hw
  exact ⟨a1, a2, by omega, a4⟩
theorem RS.more {b b' : Nat} (hb : b ≤ b') {c : h_C} {m : h_M} (h : RS b c m) : RS b' c m := fun w hw => by
  obtain ⟨a1, a2, a3, a4⟩ := h w hw
  exact ⟨a1, a2, by omega, a4⟩
theorem KP.more {b b' : Nat} (hb : b ≤ b') {c : h_C} {m : h_M} {w x B G pl q : Nat} (h : KP b c m w x B G pl q) : KP b' c m w x B G pl q := by
  obtain ⟨h1, g, k, e1, e2, e3, e4, e5, e6, D, f1, f2, f3, f4, f5, f6, f7, f8, f9, f10, f11, f12⟩ := h
  exact ⟨h1, g, k, e1, e2, e3, e4, e5, e6, D, f1, f2, f3, f4, f5, f6, f7, f8, f9, f10, by omega, f12⟩
theorem KS.more {b b' : Nat} (hb : b ≤ b') {c : h_C} {m : h_M} {w x B G : Nat} (h : KS b c m w x B G) : KS b' c m w x B G := by
  obtain ⟨⟨a1, a2, a3, a4, a5, a6, a7, a8, a9, a10, a11, a12⟩, h2, h3, h4, h5, h6, h7⟩ := h
  refine ⟨⟨a1, a2, by omega, a4, a5, a6, a7, by omega, a9, a10, by omega, a12⟩, h2, h3, h4, h5, fun pl h0 h9 => ?_, h7⟩
  rcases h6 pl h0 h9 with e | ⟨q, e, k⟩
  · exact Or.inl e
  · exact Or.inr ⟨q, e, k.more hb⟩
theorem RK.more {b b' : Nat} (hb : b ≤ b') {c : h_C} {m : h_M} (h : RK b c m) : RK b' c m := fun w hw => by
  obtain ⟨h1, h2⟩ := h w hw
  exact ⟨h1, fun j hj => ⟨(h2 j hj).1.more hb, (h2 j hj).2⟩⟩
/-- class and reference hold the same -/
def RR (b : Nat) (c : h_C) (m : h_M) : Prop := RA c m ∧ RF c m ∧ RG c m ∧ RN c m ∧ RP b c m ∧ RL b c m ∧ RT b c m ∧ RU c m ∧ RQ c m ∧ RV c m ∧ RS b c m ∧ RK b c m
theorem RR.A {b : Nat} {c : h_C} {m : h_M} (h : RR b c m) : RA c m := h.1
theorem RR.F {b : Nat} {c : h_C} {m : h_M} (h : RR b c m) : RF c m := h.2.1
theorem RR.G {b : Nat} {c : h_C} {m : h_M} (h : RR b c m) : RG c m := h.2.2.1
theorem RR.N {b : Nat} {c : h_C} {m : h_M} (h : RR b c m) : RN c m := h.2.2.2.1
theorem RR.P {b : Nat} {c : h_C} {m : h_M} (h : RR b c m) : RP b c m := h.2.2.2.2.1
theorem RR.L {b : Nat} {c : h_C} {m : h_M} (h : RR b c m) : RL b c m := h.2.2.2.2.2.1
theorem RR.T {b : Nat} {c : h_C} {m : h_M} (h : RR b c m) : RT b c m := h.2.2.2.2.2.2.1
theorem RR.U {b : Nat} {c : h_C} {m : h_M} (h : RR b c m) : RU c m := h.2.2.2.2.2.2.2.1
theorem RR.Q {b : Nat} {c : h_C} {m : h_M} (h : RR b c m) : RQ c m := h.2.2.2.2.2.2.2.2.1
theorem RR.V {b : Nat} {c : h_C} {m : h_M} (h : RR b c m) : RV c m := h.2.2.2.2.2.2.2.2.2.1
theorem RR.S {b : Nat} {c : h_C} {m : h_M} (h : RR b c m) : RS b c m := h.2.2.2.2.2.2.2.2.2.2.1
theorem RR.K {b : Nat} {c : h_C} {m : h_M} (h : RR b c m) : RK b c m := h.2.2.2.2.2.2.2.2.2.2.2
theorem RR.more {b b' : Nat} (hb : b ≤ b') {c : h_C} {m : h_M} (h : RR b c m) : RR b' c m := ⟨h.A, h.F, h.G, h.N, h.P.more hb, h.L.more hb, h.T.more hb, h.U, h.Q, h.V, h.S.more hb, h.K.more hb⟩
/-- after a change of rows lc, lm: what rests on none of them stays -/
theorem RR.gen {b : Nat} {c c' : h_C} {m m' : h_M} (lc lm : List Nat) (h : RR b c m) (hc : eC lc c c') (hm : eM lm m m') (hA : (dj sRA lc ∧ dj tRA lm) ∨ RA c' m') (hF : (dj sRF lc ∧ dj tRF lm) ∨ RF c' m') (hG : (dj sRG lc ∧ dj tRG lm) ∨ RG c' m') (hN : (dj sRN lc ∧ dj tRN lm) ∨ RN c' m') (hP : (dj sRP lc ∧ dj tRP lm) ∨ RP b c' m') (hL : (dj sRL lc ∧ dj tRL lm) ∨ RL b c' m') (hT : (dj sRT lc ∧ dj tRT lm) ∨ RT b c' m') (hU : (dj sRU lc ∧ dj tRU lm) ∨ RU c' m') (hQ : (dj sRQ lc ∧ dj tRQ lm) ∨ RQ c' m') (hV : (dj sRV lc ∧ dj tRV lm) ∨ RV c' m') (hS : (dj sRS lc ∧ dj tRS lm) ∨ RS b c' m') (hK : (dj sRK lc ∧ dj tRK lm) ∨ RK b c' m') : RR b c' m' := ⟨hA.elim (fun w => h.A.fr (fun f hf => hc f (w.1.at hf)) (fun f hf => hm f (w.2.at hf))) id, hF.elim (fun w => h.F.fr (fun f hf => hc f (w.1.at hf)) (fun f hf => hm f (w.2.at hf))) id, hG.elim (fun w => h.G.fr (fun f hf => hc f (w.1.at hf)) (fun f hf => hm f (w.2.at hf))) id, hN.elim (fun w => h.N.fr (fun f hf => hc f (w.1.at hf)) (fun f hf => hm f (w.2.at hf))) id, hP.elim (fun w => h.P.fr (fun f hf => hc f (w.1.at hf)) (fun f hf => hm f (w.2.at hf))) id, hL.elim (fun w => h.L.fr (fun f hf => hc f (w.1.at hf)) (fun f hf => hm f (w.2.at hf))) id, hT.elim (fun w => h.T.fr (fun f hf => hc f (w.1.at hf)) (fun f hf => hm f (w.2.at hf))) id, hU.elim (fun w => h.U.fr (fun f hf => hc f (w.1.at hf)) (fun f hf => hm f (w.2.at hf))) id, hQ.elim (fun w => h.Q.fr (fun f hf => hc f (w.1.at hf)) (fun f hf => hm f (w.2.at hf))) id, hV.elim (fun w => h.V.fr (fun f hf => hc f (w.1.at hf)) (fun f hf => hm f (w.2.at hf))) id, hS.elim (fun w => h.S.fr (fun f hf => hc f (w.1.at hf)) (fun f hf => hm f (w.2.at hf))) id, hK.elim (fun w => h.K.fr (fun f hf => hc f (w.1.at hf)) (fun f hf => hm f (w.2.at hf))) id⟩
def sAll : List Nat := [0, 1, 2, 3, 6, 7, 8, 9, 10, 11, 12, 13, 14, 15, 16, 100, 101, 102, 103, 104, 105, 106, 107, 109, 111, 200, 202, 206, 211, 212, 213, 300, 301, 302, 400, 401, 403, 500, 508, 606, 608, 701, 2003, 2004, 2005, 2006, 2007, 2010, 2011, 2012, 2013, 2014, 2015, 2016, 2020, 2021, 2022, 2023, 2024, 2025, 2026, 2031, 2032, 2034, 2035, 2036, 2037, 2040, 2042, 5000]
def tAll : List Nat := [3, 4, 5, 6, 7, 8, 9, 10, 11, 12, 13, 14, 15, 16, 17, 18, 19, 20, 21, 22, 24, 25, 26, 27, 28, 29, 30, 31, 32, 33, 34, 35, 37, 38, 39, 40, 41, 42, 43, 44, 45, 46, 48, 49, 50, 51, 52, 53, 54, 55, 56, 57, 58, 59, 60, 61, 81, 82, 83, 100, 101, 102, 123, 147]
theorem all_sRA : ∀ f ∈ sRA, f ∈ sAll := by decide
theorem all_tRA : ∀ f ∈ tRA, f ∈ tAll := by decide
theorem all_sRF : ∀ f ∈ sRF, f ∈ sAll := by decide
theorem all_tRF : ∀ f ∈ tRF, f ∈ tAll := by decide
theorem all_sRG : ∀ f ∈ sRG, f ∈ sAll := by decide
theorem all_tRG : ∀ f ∈ tRG, f ∈ tAll := by decide
theorem all_sRN : ∀ f ∈ sRN, f ∈ sAll := by decide
theorem all_tRN : ∀ f ∈ tRN, f ∈ tAll := by decide
theorem all_sRP : ∀ f ∈ sRP, f ∈ sAll := by decide
theorem all_tRP : ∀ f ∈ tRP, f ∈ tAll := by decide
theorem all_sRL : ∀ f ∈ sRL, f ∈ sAll := by decide
theorem all_tRL : ∀ f ∈ tRL, f ∈ tAll := by decide
theorem all_sRT : ∀ f ∈ sRT, f ∈ sAll := by decide
theorem all_tRT : ∀ f ∈ tRT, f ∈ tAll := by decide
theorem all_sRU : ∀ f ∈ sRU, f ∈ sAll := by decide
theorem all_tRU : ∀ f ∈ tRU, f ∈ tAll := by decide
theorem all_sRQ : ∀ f ∈ sRQ, f ∈ sAll := by decide
theorem all_tRQ : ∀ f ∈ tRQ, f ∈ tAll := by decide
theorem all_sRV : ∀ f ∈ sRV, f ∈ sAll := by decide
theorem all_tRV : ∀ f ∈ tRV, f ∈ tAll := by decide
theorem all_sRS : ∀ f ∈ sRS, f ∈ sAll := by decide
theorem all_tRS : ∀ f ∈ tRS, f ∈ tAll := by decide
theorem all_sRK : ∀ f ∈ sRK, f ∈ sAll := by decide
theorem all_tRK : ∀ f ∈ tRK, f ∈ tAll := by decide
/-- a change of rows that none rests on -/
theorem RR.scr {b : Nat} {c c' : h_C} {m m' : h_M} (lc lm : List Nat) (h : RR b c m) (hc : eC lc c c') (hm : eM lm m m') (wc : dj sAll lc) (wm : dj tAll lm) : RR b c' m' := ⟨h.A.fr (fun f hf => hc f (wc.at (all_sRA f hf))) (fun f hf => hm f (wm.at (all_tRA f hf))), h.F.fr (fun f hf => hc f (wc.at (all_sRF f hf))) (fun f hf => hm f (wm.at (all_tRF f hf))), h.G.fr (fun f hf => hc f (wc.at (all_sRG f hf))) (fun f hf => hm f (wm.at (all_tRG f hf))), h.N.fr (fun f hf => hc f (wc.at (all_sRN f hf))) (fun f hf => hm f (wm.at (all_tRN f hf))), h.P.fr (fun f hf => hc f (wc.at (all_sRP f hf))) (fun f hf => hm f (wm.at (all_tRP f hf))), h.L.fr (fun f hf => hc f (wc.at (all_sRL f hf))) (fun f hf => hm f (wm.at (all_tRL f hf))), h.T.fr (fun f hf => hc f (wc.at (all_sRT f hf))) (fun f hf => hm f (wm.at (all_tRT f hf))), h.U.fr (fun f hf => hc f (wc.at (all_sRU f hf))) (fun f hf => hm f (wm.at (all_tRU f hf))), h.Q.fr (fun f hf => hc f (wc.at (all_sRQ f hf))) (fun f hf => hm f (wm.at (all_tRQ f hf))), h.V.fr (fun f hf => hc f (wc.at (all_sRV f hf))) (fun f hf => hm f (wm.at (all_tRV f hf))), h.S.fr (fun f hf => hc f (wc.at (all_sRS f hf))) (fun f hf => hm f (wm.at (all_tRS f hf))), h.K.fr (fun f hf => hc f (wc.at (all_sRK f hf))) (fun f hf => hm f (wm.at (all_tRK f hf)))⟩
