/-! ===== the reference's goOver, both ways ===== -/
/-- from m to m': the pointer went from p to p'; cell (f, k) lies at place n of the kept row where S f k n; cells of T changed too; nothing but the kept row's places p .. p' changes while it keeps, nothing of that row while it goes back -/
def Go (S : Nat → Nat → Nat → Prop) (T : Nat → Nat → Prop) (p p' : Nat) (m m' : h_M) : Prop := (m' 184 0 = (p' : Int) ∧ m' 185 0 = m 185 0) ∧ (∀ g j, g ≠ 83 → g ≠ 184 → (((∀ n, ¬ S g j n) ∧ ¬ T g j) ∨ m 185 0 = 1) → m' g j = m g j) ∧ (∀ j, (j < p ∨ p' ≤ j ∨ m 185 0 = 0) → m' 83 j = m 83 j) ∧ (∀ f k n, S f k n → (p ≤ n ∧ n < p' ∧ f ≠ 83 ∧ f ≠ 184 ∧ f ≠ 185) ∧ m' f k = m' 83 n)
def nT : Nat → Nat → Prop := fun _ _ => False
theorem Go.rf {S : Nat → Nat → Nat → Prop} (T : Nat → Nat → Prop) {p : Nat} {m : h_M} (h : m 184 0 = (p : Int)) (hS : ∀ f k n, ¬ S f k n) : Go S T p p m m := ⟨⟨h, rfl⟩, fun _ _ _ _ _ => rfl, fun _ _ => rfl, fun f k n w => absurd w (hS f k n)⟩
theorem Go.tr {S1 S2 S : Nat → Nat → Nat → Prop} {T1 T2 T : Nat → Nat → Prop} {p p1 p2 : Nat} {m m1 m2 : h_M} (h1 : Go S1 T1 p p1 m m1) (h2 : Go S2 T2 p1 p2 m1 m2) (ha : p ≤ p1) (hb : p1 ≤ p2) (hd : ∀ f k n, S1 f k n → (∀ n', ¬ S2 f k n') ∧ ¬ T2 f k) (hS : ∀ f k n, S f k n → S1 f k n ∨ S2 f k n) (hS' : ∀ f k n, S1 f k n ∨ S2 f k n → S f k n) (hT : ∀ f k, T1 f k ∨ T2 f k → T f k) : Go S T p p2 m m2 := by
  obtain ⟨⟨a1, a2⟩, a3, a4, a5⟩ := h1
  obtain ⟨⟨b1, b2⟩, b3, b4, b5⟩ := h2
  refine ⟨⟨b1, b2.trans a2⟩, fun g j g1 g2 hg => ?_, fun j hj => ?_, fun f k n hs => ?_⟩
  · rw [b3 g j g1 g2 ?_, a3 g j g1 g2 ?_]
    · rcases hg with ⟨w1, w2⟩ | w
      · exact Or.inl ⟨fun n z => w1 n (hS' _ _ _ (Or.inl z)), fun z => w2 (hT _ _ (Or.inl z))⟩
      · exact Or.inr w
    · rcases hg with ⟨w1, w2⟩ | w
      · exact Or.inl ⟨fun n z => w1 n (hS' _ _ _ (Or.inr z)), fun z => w2 (hT _ _ (Or.inr z))⟩
      · exact Or.inr (by rw [a2]; exact w)
  · rw [b4 j (by rcases hj with h | h | h; exact Or.inl (by omega); exact Or.inr (Or.inl h); exact Or.inr (Or.inr (by rw [a2]; exact h))), a4 j (by rcases hj with h | h | h; exact Or.inl h; exact Or.inr (Or.inl (by omega)); exact Or.inr (Or.inr h))]
  · rcases hS f k n hs with w | w
    · obtain ⟨⟨c1, c2, c3, c4, c5⟩, c6⟩ := a5 f k n w
      refine ⟨⟨c1, by omega, c3, c4, c5⟩, ?_⟩
      rw [b3 f k c3 c4 (Or.inl (hd f k n w)), b4 n (Or.inl c2)]
      exact c6
    · obtain ⟨⟨c1, c2, c3, c4, c5⟩, c6⟩ := b5 f k n w
      exact ⟨⟨by omega, c2, c3, c4, c5⟩, c6⟩
theorem Go.up {S S' : Nat → Nat → Nat → Prop} {T T' : Nat → Nat → Prop} {p p' : Nat} {m m' : h_M} (h : Go S T p p' m m') (hS : ∀ f k n, S' f k n ↔ S f k n) (hT : ∀ f k, T f k → T' f k) : Go S' T' p p' m m' := ⟨h.1, fun g j g1 g2 hg => h.2.1 g j g1 g2 (by
  rcases hg with ⟨w1, w2⟩ | w
  · exact Or.inl ⟨fun n z => w1 n ((hS _ _ _).mpr z), fun z => w2 (hT _ _ z)⟩
  · exact Or.inr w), h.2.2.1, fun f k n hs => h.2.2.2 f k n ((hS f k n).mp hs)⟩
theorem Go.at {S : Nat → Nat → Nat → Prop} {T : Nat → Nat → Prop} {p p' : Nat} {m m' : h_M} (h : Go S T p p' m m') (g j : Nat) (hg : g ≠ 83 ∧ g ≠ 184) (hS : ∀ n, ¬ S g j n) (hT : ¬ T g j) : m' g j = m g j := h.2.1 g j hg.1 hg.2 (Or.inl ⟨hS, hT⟩)
theorem Go.lo {S : Nat → Nat → Nat → Prop} {T : Nat → Nat → Prop} {p p' : Nat} {m m' : h_M} (h : Go S T p p' m m') {j : Nat} (hj : j < p) : m' 83 j = m 83 j := h.2.2.1 j (Or.inl hj)
theorem wm_same {m : h_M} {f k : Nat} {x : Int} (h : m f k = x) : wm m f k x = m := by
  funext g j
  rw [wm_at]
  split
  · rename_i e
    rw [e.1, e.2, h]
  · rfl
/-- what 'both' gives -/
theorem n_both {m : h_M} {p : Nat} (hp : m 184 0 = (p : Int)) (h8 : p < 234000) (hk : m 185 0 = 0 ∨ m 185 0 = 1) (v : Int) : ∃ r m1, G_Mo_both v m = some (r, m1) ∧ m1 184 0 = ((p + 1 : Nat) : Int) ∧ (∀ g j, g ≠ 83 → g ≠ 184 → m1 g j = m g j) ∧ (∀ j, (j ≠ p ∨ m 185 0 = 0) → m1 83 j = m 83 j) ∧ m1 83 p = r ∧ (m 185 0 = 1 → r = v) ∧ (m 185 0 = 0 → r = m 83 p) := by
  have key : ∀ m3 : h_M, m3 184 0 = (p : Int) → GB_Mo_both_17 m3 = some (m3 83 p, wm m3 184 0 ((p + 1 : Nat) : Int)) := fun m3 h3 => by
    unfold GB_Mo_both_17
    rw [h3, gd1 (by omega), Int.toNat_natCast, p_w1 (by omega) (by omega)]
    rfl
  by_cases h0 : m 185 0 = 0
  · refine ⟨m 83 p, wm m 184 0 ((p + 1 : Nat) : Int), ?_, by simp [wm_at], fun g j g1 g2 => by simp [wm_at, g2], fun j _ => by simp [wm_at], by simp [wm_at], fun h => by omega, fun _ => rfl⟩
    unfold G_Mo_both
    rw [if_pos h0, key m hp]
  · refine ⟨v, wm (wm m 83 p v) 184 0 ((p + 1 : Nat) : Int), ?_, by simp [wm_at], fun g j g1 g2 => by simp [wm_at, g1, g2], fun j hj => ?_, by simp [wm_at], fun _ => rfl, fun h => by omega⟩
    · unfold G_Mo_both
      rw [if_neg h0, hp, gd1 (by omega), Int.toNat_natCast, bi1, key _ (by simp [wm_at, hp])]
      simp [wm_at]
    · have hj' : j ≠ p := by omega
      simp [wm_at, hj']
def S1 (f k p : Nat) : Nat → Nat → Nat → Prop := fun g j n => g = f ∧ j = k ∧ n = p
/-- one cell -/
theorem n_cellv {m : h_M} {p : Nat} (hp : m 184 0 = (p : Int)) (h8 : p < 234000) (hk : m 185 0 = 0 ∨ m 185 0 = 1) (f k : Nat) (hf : f ≠ 83 ∧ f ≠ 184 ∧ f ≠ 185) (v : Int) (hv : m 185 0 = 1 → v = m f k) : ∃ r m1, G_Mo_both v m = some (r, m1) ∧ Go (S1 f k p) nT p (p + 1) m (wm m1 f k r) ∧ (m 185 0 = 1 → r = m f k) ∧ (m 185 0 = 0 → r = m 83 p) := by
  obtain ⟨r, m1, x1, x2, x3, x4, x5, x6, x7⟩ := n_both hp h8 hk v
  refine ⟨r, m1, x1, ⟨⟨?_, ?_⟩, fun g j g1 g2 hg => ?_, fun j hj => ?_, fun g j n hs => ?_⟩, fun h => (x6 h).trans (hv h), x7⟩
  · rw [wm_at, if_neg (by omega)]; exact x2
  · rw [wm_at, if_neg (by omega)]; exact x3 185 0 (by decide) (by decide)
  · rw [wm_at]
    split
    · rename_i e
      rcases hg with w | w
      · exact absurd ⟨e.1, e.2, rfl⟩ (w.1 p)
      · rw [e.1, e.2, x6 w, hv w]
    · exact x3 g j g1 g2
  · rw [wm_at, if_neg (by omega)]; exact x4 j (by omega)
  · obtain ⟨rfl, rfl, rfl⟩ := hs
    refine ⟨⟨by omega, by omega, hf.1, hf.2.1, hf.2.2⟩, ?_⟩
    rw [wm_at, wm_at, if_pos ⟨rfl, rfl⟩, if_neg (by omega), x5]
theorem n_cell {m : h_M} {p : Nat} (hp : m 184 0 = (p : Int)) (h8 : p < 234000) (hk : m 185 0 = 0 ∨ m 185 0 = 1) (f k : Nat) (hf : f ≠ 83 ∧ f ≠ 184 ∧ f ≠ 185) : ∃ r m1, G_Mo_both (m f k) m = some (r, m1) ∧ Go (S1 f k p) nT p (p + 1) m (wm m1 f k r) ∧ (m 185 0 = 1 → r = m f k) ∧ (m 185 0 = 0 → r = m 83 p) := n_cellv hp h8 hk f k hf _ (fun _ => rfl)
theorem n_one {β : Type} (K : h_M → Option β) {m : h_M} {p : Nat} (hp : m 184 0 = (p : Int)) (h8 : p < 234000) (hk : m 185 0 = 0 ∨ m 185 0 = 1) (f k : Nat) (hf : f ≠ 83 ∧ f ≠ 184 ∧ f ≠ 185) : ∃ m', (q_bd (G_Mo_both (m f k) m) fun r m1 => p_bi (wm m1 f k r) K) = K m' ∧ Go (S1 f k p) nT p (p + 1) m m' := by
  obtain ⟨r, m1, x1, x2, _⟩ := n_cell hp h8 hk f k hf
  refine ⟨_, ?_, x2⟩
  rw [x1]
  rfl
/-- rows f, f + 1, .. at one place -/
def gor {β : Type} : Nat → Nat → Nat → (h_M → Option β) → h_M → Option β
  | 0, _, _, K, m => K m
  | n + 1, f, i, K, m => q_bd (G_Mo_both (m f i) m) fun r m1 => p_bi (wm m1 f i r) fun m2 => gor n (f + 1) i K m2
def SR (f N i p : Nat) : Nat → Nat → Nat → Prop := fun g j n => f ≤ g ∧ g < f + N ∧ j = i ∧ n + f = p + g
theorem n_gor {β : Type} (i : Nat) (K : h_M → Option β) : ∀ (N f : Nat) (m : h_M) (p : Nat), m 184 0 = (p : Int) → p + N < 234000 → (m 185 0 = 0 ∨ m 185 0 = 1) → (f + N ≤ 83) → ∃ m', gor N f i K m = K m' ∧ Go (SR f N i p) nT p (p + N) m m' := by
  intro N
  induction N with
  | zero =>
    intro f m p hp _ _ _
    exact ⟨m, rfl, Go.rf _ hp (fun g j n z => by unfold SR at z; omega)⟩
  | succ N ih =>
    intro f m p hp h8 hk hf
    obtain ⟨r, m1, x1, x2, _⟩ := n_cell hp (by omega) hk f i (by omega)
    obtain ⟨m', y1, y2⟩ := ih (f + 1) (wm m1 f i r) (p + 1) x2.1.1 (by omega) (by rw [x2.1.2]; exact hk) (by omega)
    refine ⟨m', ?_, ?_⟩
    · show q_bd (G_Mo_both (m f i) m) _ = _
      rw [x1]
      exact y1
    · have : p + (N + 1) = p + 1 + N := by omega
      rw [this]
      refine x2.tr y2 (by omega) (by omega) (fun g j n z => ⟨fun n' z' => ?_, fun z' => z'⟩) (fun g j n z => ?_) (fun g j n z => ?_) (fun g j z => z.elim id id)
      · unfold S1 at z; unfold SR at z'; omega
      · unfold SR at z ⊢; unfold S1; omega
      · unfold SR S1 at z; unfold SR; omega
/-- places a + j .. of one row -/
def SP (f a N p j : Nat) : Nat → Nat → Nat → Prop := fun g x n => g = f ∧ a + j ≤ x ∧ x < a + N ∧ n + a = p + x
theorem n_slots {i : Nat} (hi : i < 120) {p : Nat} (h8 : p + 8 < 234000) : ∀ (d j fu : Nat) (m : h_M), j + d = 8 → d < fu → m 184 0 = ((p + j : Nat) : Int) → (m 185 0 = 0 ∨ m 185 0 = 1) → ∃ m', GO_Mo_goOverGear_198  fu (i : Int) ((8 * i + j : Nat) : Int) m = some m' ∧ Go (SP 22 (8 * i) 8 p j) nT (p + j) (p + 8) m m' := by
  intro d
  induction d with
  | zero =>
    intro j fu m hj hf hp hk
    obtain ⟨fu, rfl⟩ : ∃ g, fu = g + 1 := ⟨fu - 1, by omega⟩
    have ej : j = 8 := by omega
    subst ej
    refine ⟨m, ?_, Go.rf _ hp (fun g x n z => by unfold SP at z; omega)⟩
    show GL_Mo_goOverGear_198  _ (i : Int) _ m = _
    unfold GL_Mo_goOverGear_198
    rw [p_w1 (x := 8 * (i : Int)) (by omega) (by omega), p_w1 (x := 8 * (i : Int) + 8) (by omega) (by omega), if_pos (by omega)]
  | succ d ih =>
    intro j fu m hj hf hp hk
    obtain ⟨fu, rfl⟩ : ∃ g, fu = g + 1 := ⟨fu - 1, by omega⟩
    obtain ⟨r, m1, x1, x2, _⟩ := n_cell hp (by omega) hk 22 (8 * i + j) (by decide)
    obtain ⟨m', y1, y2⟩ := ih (j + 1) fu (wm m1 22 (8 * i + j) r) (by omega) (by omega) x2.1.1 (by rw [x2.1.2]; exact hk)
    refine ⟨m', ?_, ?_⟩
    · rw [← y1]
      have e : p_w (((8 * i + j : Nat) : Int) + 1) = ((8 * i + (j + 1) : Nat) : Int) := by rw [p_w1 (by omega) (by omega)]; omega
      show GL_Mo_goOverGear_198  _ (i : Int) _ m = _
      unfold GL_Mo_goOverGear_198
      rw [p_w1 (x := 8 * (i : Int)) (by omega) (by omega), p_w1 (x := 8 * (i : Int) + 8) (by omega) (by omega), if_neg (by omega), gd1 (by omega), Int.toNat_natCast, x1]
      show GO_Mo_goOverGear_198  fu (i : Int) (p_w (((8 * i + j : Nat) : Int) + 1)) (wm m1 22 (8 * i + j) r) = _
      rw [e]
    · refine x2.tr y2 (by omega) (by omega) (fun g x n z => ⟨fun n' z' => ?_, fun z' => z'⟩) (fun g x n z => ?_) (fun g x n z => ?_) (fun g x z => z.elim id id)
      · unfold S1 at z; unfold SP at z'; omega
      · unfold SP at z ⊢; unfold S1; omega
      · unfold SP S1 at z; unfold SP; omega
theorem n_r34 {q : Nat} (hq : q < 2001) (k9 : Int → h_M → Option h_M) (v1 : Int) {p : Nat} (h8 : p + 16 < 234000) : ∀ (d j fu : Nat) (m : h_M), j + d = 16 → d < fu → m 184 0 = ((p + j : Nat) : Int) → (m 185 0 = 0 ∨ m 185 0 = 1) → ∃ m', GO_Mo_goOverParcels_208 k9 fu v1 (q : Int) ((16 * q + j : Nat) : Int) m = GB_Mo_goOverParcels_241 k9 v1 m' ∧ Go (SP 34 (16 * q) 16 p j) nT (p + j) (p + 16) m m' := by
  intro d
  induction d with
  | zero =>
    intro j fu m hj hf hp hk
    obtain ⟨fu, rfl⟩ : ∃ g, fu = g + 1 := ⟨fu - 1, by omega⟩
    have ej : j = 16 := by omega
    subst ej
    refine ⟨m, ?_, Go.rf _ hp (fun g x n z => by unfold SP at z; omega)⟩
    show GL_Mo_goOverParcels_208 k9 _ v1 (q : Int) _ m = _
    unfold GL_Mo_goOverParcels_208
    rw [p_w1 (x := 16 * (q : Int)) (by omega) (by omega), p_w1 (x := 16 * (q : Int) + 16) (by omega) (by omega), if_pos (by omega)]
  | succ d ih =>
    intro j fu m hj hf hp hk
    obtain ⟨fu, rfl⟩ : ∃ g, fu = g + 1 := ⟨fu - 1, by omega⟩
    obtain ⟨r, m1, x1, x2, _⟩ := n_cell hp (by omega) hk 34 (16 * q + j) (by decide)
    obtain ⟨m', y1, y2⟩ := ih (j + 1) fu (wm m1 34 (16 * q + j) r) (by omega) (by omega) x2.1.1 (by rw [x2.1.2]; exact hk)
    refine ⟨m', ?_, ?_⟩
    · rw [← y1]
      have e : p_w (((16 * q + j : Nat) : Int) + 1) = ((16 * q + (j + 1) : Nat) : Int) := by rw [p_w1 (by omega) (by omega)]; omega
      show GL_Mo_goOverParcels_208 k9 _ v1 (q : Int) _ m = _
      unfold GL_Mo_goOverParcels_208
      rw [p_w1 (x := 16 * (q : Int)) (by omega) (by omega), p_w1 (x := 16 * (q : Int) + 16) (by omega) (by omega), if_neg (by omega), gd1 (by omega), Int.toNat_natCast, x1]
      show GO_Mo_goOverParcels_208 k9 fu v1 (q : Int) (p_w (((16 * q + j : Nat) : Int) + 1)) (wm m1 34 (16 * q + j) r) = _
      rw [e]
    · refine x2.tr y2 (by omega) (by omega) (fun g x n z => ⟨fun n' z' => ?_, fun z' => z'⟩) (fun g x n z => ?_) (fun g x n z => ?_) (fun g x z => z.elim id id)
      · unfold S1 at z; unfold SP at z'; omega
      · unfold SP at z ⊢; unfold S1; omega
      · unfold SP S1 at z; unfold SP; omega
theorem n_r32 {q : Nat} (hq : q < 2001) (k9 : Int → h_M → Option h_M) (v1 : Int) {p : Nat} (h8 : p + 12 < 234000) : ∀ (d j fu : Nat) (m : h_M), j + d = 12 → d < fu → m 184 0 = ((p + j : Nat) : Int) → (m 185 0 = 0 ∨ m 185 0 = 1) → ∃ m', GO_Mo_goOverParcels_170 k9 fu v1 (q : Int) ((12 * q + j : Nat) : Int) m = GO_Mo_goOverParcels_208 k9 3000 v1 (q : Int) ((16 * q : Nat) : Int) m' ∧ Go (SP 32 (12 * q) 12 p j) nT (p + j) (p + 12) m m' := by
  intro d
  induction d with
  | zero =>
    intro j fu m hj hf hp hk
    obtain ⟨fu, rfl⟩ : ∃ g, fu = g + 1 := ⟨fu - 1, by omega⟩
    have ej : j = 12 := by omega
    subst ej
    refine ⟨m, ?_, Go.rf _ hp (fun g x n z => by unfold SP at z; omega)⟩
    show GL_Mo_goOverParcels_170 k9 _ v1 (q : Int) _ m = _
    unfold GL_Mo_goOverParcels_170
    rw [p_w1 (x := 12 * (q : Int)) (by omega) (by omega), p_w1 (x := 12 * (q : Int) + 12) (by omega) (by omega), if_pos (by omega), p_w1 (x := 16 * (q : Int)) (by omega) (by omega), bi1, show 16 * (q : Int) = ((16 * q : Nat) : Int) by omega]
  | succ d ih =>
    intro j fu m hj hf hp hk
    obtain ⟨fu, rfl⟩ : ∃ g, fu = g + 1 := ⟨fu - 1, by omega⟩
    obtain ⟨r, m1, x1, x2, _⟩ := n_cell hp (by omega) hk 32 (12 * q + j) (by decide)
    obtain ⟨m', y1, y2⟩ := ih (j + 1) fu (wm m1 32 (12 * q + j) r) (by omega) (by omega) x2.1.1 (by rw [x2.1.2]; exact hk)
    refine ⟨m', ?_, ?_⟩
    · rw [← y1]
      have e : p_w (((12 * q + j : Nat) : Int) + 1) = ((12 * q + (j + 1) : Nat) : Int) := by rw [p_w1 (by omega) (by omega)]; omega
      show GL_Mo_goOverParcels_170 k9 _ v1 (q : Int) _ m = _
      unfold GL_Mo_goOverParcels_170
      rw [p_w1 (x := 12 * (q : Int)) (by omega) (by omega), p_w1 (x := 12 * (q : Int) + 12) (by omega) (by omega), if_neg (by omega), gd1 (by omega), Int.toNat_natCast, x1]
      show GO_Mo_goOverParcels_170 k9 fu v1 (q : Int) (p_w (((12 * q + j : Nat) : Int) + 1)) (wm m1 32 (12 * q + j) r) = _
      rw [e]
    · refine x2.tr y2 (by omega) (by omega) (fun g x n z => ⟨fun n' z' => ?_, fun z' => z'⟩) (fun g x n z => ?_) (fun g x n z => ?_) (fun g x z => z.elim id id)
      · unfold S1 at z; unfold SP at z'; omega
      · unfold SP at z ⊢; unfold S1; omega
      · unfold SP S1 at z; unfold SP; omega
theorem n_r51 {w : Nat} (hw : w < 3) (v2 : Int) {p : Nat} (h8 : p + 12 < 234000) : ∀ (d j fu : Nat) (m : h_M), j + d = 12 → d < fu → m 100 0 = (w : Int) → m 184 0 = ((p + j : Nat) : Int) → (m 185 0 = 0 ∨ m 185 0 = 1) → ∃ m', GO_Mo_goOver_275  fu v2 ((12 * w + j : Nat) : Int) m = (if (m' 185 0) ≠ 0 then GB_Mo_goOver_369 m' else GO_Mo_goOver_320 3000 v2 1 m') ∧ Go (SP 51 (12 * w) 12 p j) nT (p + j) (p + 12) m m' := by
  intro d
  induction d with
  | zero =>
    intro j fu m hj hf hm hp hk
    obtain ⟨fu, rfl⟩ : ∃ g, fu = g + 1 := ⟨fu - 1, by omega⟩
    have ej : j = 12 := by omega
    subst ej
    refine ⟨m, ?_, Go.rf _ hp (fun g x n z => by unfold SP at z; omega)⟩
    show GL_Mo_goOver_275  _ v2 _ m = _
    unfold GL_Mo_goOver_275
    rw [hm, p_w1 (x := 12 * (w : Int)) (by omega) (by omega), p_w1 (x := 12 * (w : Int) + 12) (by omega) (by omega), if_pos (by omega)]
  | succ d ih =>
    intro j fu m hj hf hm hp hk
    obtain ⟨fu, rfl⟩ : ∃ g, fu = g + 1 := ⟨fu - 1, by omega⟩
    obtain ⟨r, m1, x1, x2, _⟩ := n_cell hp (by omega) hk 51 (12 * w + j) (by decide)
    obtain ⟨m', y1, y2⟩ := ih (j + 1) fu (wm m1 51 (12 * w + j) r) (by omega) (by omega) (by rw [x2.at 100 0 (by decide) (fun n z => absurd z.1 (by decide)) (fun z => z)]; exact hm) x2.1.1 (by rw [x2.1.2]; exact hk)
    refine ⟨m', ?_, ?_⟩
    · rw [← y1]
      have e : p_w (((12 * w + j : Nat) : Int) + 1) = ((12 * w + (j + 1) : Nat) : Int) := by rw [p_w1 (by omega) (by omega)]; omega
      show GL_Mo_goOver_275  _ v2 _ m = _
      unfold GL_Mo_goOver_275
      rw [hm, p_w1 (x := 12 * (w : Int)) (by omega) (by omega), p_w1 (x := 12 * (w : Int) + 12) (by omega) (by omega), if_neg (by omega), gd1 (by omega), Int.toNat_natCast, x1]
      show GO_Mo_goOver_275  fu v2 (p_w (((12 * w + j : Nat) : Int) + 1)) (wm m1 51 (12 * w + j) r) = _
      rw [e]
    · refine x2.tr y2 (by omega) (by omega) (fun g x n z => ⟨fun n' z' => ?_, fun z' => z'⟩) (fun g x n z => ?_) (fun g x n z => ?_) (fun g x z => z.elim id id)
      · unfold S1 at z; unfold SP at z'; omega
      · unfold SP at z ⊢; unfold S1; omega
      · unfold SP S1 at z; unfold SP; omega
theorem n_r43 {w : Nat} (hw : w < 3) (v2 : Int) {p : Nat} (h8 : p + 200 < 234000) : ∀ (d j fu : Nat) (m : h_M), j + d = 200 → d < fu → m 100 0 = (w : Int) → m 184 0 = ((p + j : Nat) : Int) → (m 185 0 = 0 ∨ m 185 0 = 1) → ∃ m', GO_Mo_goOver_229  fu v2 ((200 * w + j : Nat) : Int) m = GO_Mo_goOver_275 3000 v2 ((12 * w : Nat) : Int) m' ∧ Go (SP 43 (200 * w) 200 p j) nT (p + j) (p + 200) m m' := by
  intro d
  induction d with
  | zero =>
    intro j fu m hj hf hm hp hk
    obtain ⟨fu, rfl⟩ : ∃ g, fu = g + 1 := ⟨fu - 1, by omega⟩
    have ej : j = 200 := by omega
    subst ej
    refine ⟨m, ?_, Go.rf _ hp (fun g x n z => by unfold SP at z; omega)⟩
    show GL_Mo_goOver_229  _ v2 _ m = _
    unfold GL_Mo_goOver_229
    rw [hm, p_w1 (x := 200 * (w : Int)) (by omega) (by omega), p_w1 (x := 200 * (w : Int) + 200) (by omega) (by omega), if_pos (by omega), p_w1 (x := 12 * (w : Int)) (by omega) (by omega), bi1, show 12 * (w : Int) = ((12 * w : Nat) : Int) by omega]
  | succ d ih =>
    intro j fu m hj hf hm hp hk
    obtain ⟨fu, rfl⟩ : ∃ g, fu = g + 1 := ⟨fu - 1, by omega⟩
    obtain ⟨r, m1, x1, x2, _⟩ := n_cell hp (by omega) hk 43 (200 * w + j) (by decide)
    obtain ⟨m', y1, y2⟩ := ih (j + 1) fu (wm m1 43 (200 * w + j) r) (by omega) (by omega) (by rw [x2.at 100 0 (by decide) (fun n z => absurd z.1 (by decide)) (fun z => z)]; exact hm) x2.1.1 (by rw [x2.1.2]; exact hk)
    refine ⟨m', ?_, ?_⟩
    · rw [← y1]
      have e : p_w (((200 * w + j : Nat) : Int) + 1) = ((200 * w + (j + 1) : Nat) : Int) := by rw [p_w1 (by omega) (by omega)]; omega
      show GL_Mo_goOver_229  _ v2 _ m = _
      unfold GL_Mo_goOver_229
      rw [hm, p_w1 (x := 200 * (w : Int)) (by omega) (by omega), p_w1 (x := 200 * (w : Int) + 200) (by omega) (by omega), if_neg (by omega), gd1 (by omega), Int.toNat_natCast, x1]
      show GO_Mo_goOver_229  fu v2 (p_w (((200 * w + j : Nat) : Int) + 1)) (wm m1 43 (200 * w + j) r) = _
      rw [e]
    · refine x2.tr y2 (by omega) (by omega) (fun g x n z => ⟨fun n' z' => ?_, fun z' => z'⟩) (fun g x n z => ?_) (fun g x n z => ?_) (fun g x z => z.elim id id)
      · unfold S1 at z; unfold SP at z'; omega
      · unfold SP at z ⊢; unfold S1; omega
      · unfold SP S1 at z; unfold SP; omega
theorem n_r41 {w : Nat} (hw : w < 3) (v2 : Int) {p : Nat} (h8 : p + 120 < 234000) : ∀ (d j fu : Nat) (m : h_M), j + d = 120 → d < fu → m 100 0 = (w : Int) → m 184 0 = ((p + j : Nat) : Int) → (m 185 0 = 0 ∨ m 185 0 = 1) → ∃ m', GO_Mo_goOver_184  fu v2 ((120 * w + j : Nat) : Int) m = GO_Mo_goOver_229 3000 v2 ((200 * w : Nat) : Int) m' ∧ Go (SP 41 (120 * w) 120 p j) nT (p + j) (p + 120) m m' := by
  intro d
  induction d with
  | zero =>
    intro j fu m hj hf hm hp hk
    obtain ⟨fu, rfl⟩ : ∃ g, fu = g + 1 := ⟨fu - 1, by omega⟩
    have ej : j = 120 := by omega
    subst ej
    refine ⟨m, ?_, Go.rf _ hp (fun g x n z => by unfold SP at z; omega)⟩
    show GL_Mo_goOver_184  _ v2 _ m = _
    unfold GL_Mo_goOver_184
    rw [hm, p_w1 (x := 120 * (w : Int)) (by omega) (by omega), p_w1 (x := 120 * (w : Int) + 120) (by omega) (by omega), if_pos (by omega), p_w1 (x := 200 * (w : Int)) (by omega) (by omega), bi1, show 200 * (w : Int) = ((200 * w : Nat) : Int) by omega]
  | succ d ih =>
    intro j fu m hj hf hm hp hk
    obtain ⟨fu, rfl⟩ : ∃ g, fu = g + 1 := ⟨fu - 1, by omega⟩
    obtain ⟨r, m1, x1, x2, _⟩ := n_cell hp (by omega) hk 41 (120 * w + j) (by decide)
    obtain ⟨m', y1, y2⟩ := ih (j + 1) fu (wm m1 41 (120 * w + j) r) (by omega) (by omega) (by rw [x2.at 100 0 (by decide) (fun n z => absurd z.1 (by decide)) (fun z => z)]; exact hm) x2.1.1 (by rw [x2.1.2]; exact hk)
    refine ⟨m', ?_, ?_⟩
    · rw [← y1]
      have e : p_w (((120 * w + j : Nat) : Int) + 1) = ((120 * w + (j + 1) : Nat) : Int) := by rw [p_w1 (by omega) (by omega)]; omega
      show GL_Mo_goOver_184  _ v2 _ m = _
      unfold GL_Mo_goOver_184
      rw [hm, p_w1 (x := 120 * (w : Int)) (by omega) (by omega), p_w1 (x := 120 * (w : Int) + 120) (by omega) (by omega), if_neg (by omega), gd1 (by omega), Int.toNat_natCast, x1]
      show GO_Mo_goOver_184  fu v2 (p_w (((120 * w + j : Nat) : Int) + 1)) (wm m1 41 (120 * w + j) r) = _
      rw [e]
    · refine x2.tr y2 (by omega) (by omega) (fun g x n z => ⟨fun n' z' => ?_, fun z' => z'⟩) (fun g x n z => ?_) (fun g x n z => ?_) (fun g x z => z.elim id id)
      · unfold S1 at z; unfold SP at z'; omega
      · unfold SP at z ⊢; unfold S1; omega
      · unfold SP S1 at z; unfold SP; omega
/-- the cells of a gear -/
def SG (i p : Nat) : Nat → Nat → Nat → Prop := fun g j n => (j = i ∧ ((g = 10 ∧ n = p) ∨ (12 ≤ g ∧ g ≤ 21 ∧ n + 11 = p + g))) ∨ (g = 22 ∧ 8 * i ≤ j ∧ j < 8 * i + 8 ∧ n + 8 * i = p + 11 + j)
theorem n_gear {i : Nat} (hi : i < 120) {m : h_M} {p : Nat} (hp : m 184 0 = (p : Int)) (h8 : p + 19 < 234000) (hk : m 185 0 = 0 ∨ m 185 0 = 1) (h14 : m 185 0 = 1 → m 14 i = 0 ∨ m 14 i = 1) (h14' : m 185 0 = 0 → m 83 (p + 3) = 0 ∨ m 83 (p + 3) = 1) : ∃ m', G_Mo_goOverGear (i : Int) m = some m' ∧ Go (SG i p) nT p (p + 19) m m' := by
  have hi3 : (0 : Int) ≤ (i : Int) ∧ (i : Int) < 120 := by omega
  obtain ⟨ma, a1, a2⟩ := n_one (β := h_M) (fun m7 => gor 2 12 i (fun m21 => if (m21 14 i) = 0 then GB_Mo_goOverGear_68 (i : Int) 0 (i : Int) m21 else GB_Mo_goOverGear_68 (i : Int) 1 (i : Int) m21) m7) hp (by omega) hk 10 i (by decide)
  obtain ⟨mb, b1, b2⟩ := n_gor (β := h_M) i (fun m21 => if (m21 14 i) = 0 then GB_Mo_goOverGear_68 (i : Int) 0 (i : Int) m21 else GB_Mo_goOverGear_68 (i : Int) 1 (i : Int) m21) 2 12 ma (p + 1) a2.1.1 (by omega) (by rw [a2.1.2]; exact hk) (by omega)
  have ab := a2.tr (S := fun g j n => j = i ∧ ((g = 10 ∧ n = p) ∨ (12 ≤ g ∧ g < 14 ∧ n + 11 = p + g))) (T := nT) b2 (by omega) (by omega) (fun g j n z => ⟨fun n' z' => by unfold S1 at z; unfold SR at z'; omega, fun z' => z'⟩) (fun g j n z => by unfold S1 SR; omega) (fun g j n z => by unfold S1 SR at z; omega) (fun g j z => z.elim id id)
  have k1 : mb 185 0 = m 185 0 := ab.1.2
  have f14 : mb 14 i = m 14 i := ab.at 14 i (by decide) (fun n z => by omega) (fun z => z)
  have f83 : m 185 0 = 0 → mb 83 (p + 3) = m 83 (p + 3) := fun h0 => ab.2.2.1 _ (Or.inr (Or.inr h0))
  obtain ⟨r, m1, c1, c2, c3, c4⟩ := n_cellv (p := p + 3) ab.1.1 (by omega) (by rw [k1]; exact hk) 14 i (by decide) (if (mb 14 i) = 0 then 0 else 1) (fun h => by
    rw [f14]
    rcases h14 (by rw [← k1]; exact h) with e | e
    · rw [if_pos e, e]
    · rw [if_neg (by omega), e])
  have hr : r = 0 ∨ r = 1 := by
    rcases hk with h0 | h1
    · rw [c4 (by rw [k1]; exact h0), f83 h0]; exact h14' h0
    · rw [c3 (by rw [k1]; exact h1), f14]; exact h14 h1
  have abc := ab.tr (S := fun g j n => j = i ∧ ((g = 10 ∧ n = p) ∨ (12 ≤ g ∧ g < 15 ∧ n + 11 = p + g))) (T := nT) c2 (by omega) (by omega) (fun g j n z => ⟨fun n' z' => by unfold S1 at z'; omega, fun z' => z'⟩) (fun g j n z => by unfold S1; omega) (fun g j n z => by unfold S1 at z; omega) (fun g j z => z.elim id id)
  obtain ⟨md, d1, d2⟩ := n_gor (β := h_M) i (fun m53 => GO_Mo_goOverGear_198 3000 (i : Int) ((8 * i + 0 : Nat) : Int) m53) 7 15 (wm m1 14 i r) (p + 4) abc.1.1 (by omega) (by rw [abc.1.2]; exact hk) (by omega)
  have abcd := abc.tr (S := fun g j n => j = i ∧ ((g = 10 ∧ n = p) ∨ (12 ≤ g ∧ g < 22 ∧ n + 11 = p + g))) (T := nT) d2 (by omega) (by omega) (fun g j n z => ⟨fun n' z' => by unfold SR at z'; omega, fun z' => z'⟩) (fun g j n z => by unfold SR; omega) (fun g j n z => by unfold SR at z; omega) (fun g j z => z.elim id id)
  obtain ⟨me, e1, e2⟩ := n_slots hi (p := p + 11) (by omega) 8 0 3000 md (by omega) (by omega) abcd.1.1 (by rw [abcd.1.2]; exact hk)
  refine ⟨me, ?_, ?_⟩
  · rw [← e1]
    have hS : ∀ v : Int, (v = 0 ∨ v = 1) → GB_Mo_goOverGear_80 (i : Int) v (i : Int) m1 = gor 7 15 i (fun m53 => GO_Mo_goOverGear_198 3000 (i : Int) ((8 * i + 0 : Nat) : Int) m53) (wm m1 14 i v) := fun v hv => by
      unfold GB_Mo_goOverGear_80
      rw [gd1 hi3, gd1 hv, bi1, gd1 hi3, Int.toNat_natCast, p_w1 (x := 8 * (i : Int)) (by omega) (by omega)]
      rfl
    have hG : G_Mo_goOverGear (i : Int) m = (q_bd (G_Mo_both (m 10 i) m) fun r m1 => p_bi (wm m1 10 i r) (fun m7 => gor 2 12 i (fun m21 => if (m21 14 i) = 0 then GB_Mo_goOverGear_68 (i : Int) 0 (i : Int) m21 else GB_Mo_goOverGear_68 (i : Int) 1 (i : Int) m21) m7)) := by
      unfold G_Mo_goOverGear
      rw [gd1 hi3, Int.toNat_natCast]
      rfl
    have h68 : (if (mb 14 i) = 0 then GB_Mo_goOverGear_68 (i : Int) 0 (i : Int) mb else GB_Mo_goOverGear_68 (i : Int) 1 (i : Int) mb) = GB_Mo_goOverGear_68 (i : Int) (if (mb 14 i) = 0 then 0 else 1) (i : Int) mb := by
      by_cases h : mb 14 i = 0
      · rw [if_pos h, if_pos h]
      · rw [if_neg h, if_neg h]
    rw [hG, a1, b1, h68]
    unfold GB_Mo_goOverGear_68
    rw [c1]
    show (if r ≠ 1 then GB_Mo_goOverGear_80 (i : Int) 0 (i : Int) m1 else GB_Mo_goOverGear_80 (i : Int) 1 (i : Int) m1) = _
    rw [hS 0 (Or.inl rfl), hS 1 (Or.inr rfl)]
    rcases hr with h | h
    · rw [h, if_pos (by decide), ← h]; exact d1
    · rw [h, if_neg (by decide), ← h]; exact d1
  · refine abcd.tr e2 (by omega) (by omega) (fun g j n z => ⟨fun n' z' => ?_, fun z' => z'⟩) (fun g j n z => ?_) (fun g j n z => ?_) (fun g j z => z.elim id id)
    · unfold SP at z'; omega
    · unfold SG at z; unfold SP; omega
    · unfold SP at z; unfold SG; omega
