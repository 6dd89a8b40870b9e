/-! ===== goOver's parcels ===== -/
/-- how many of the first t slots of works w have a parcel -/
def kq (r : Nat → Int) (w t : Nat) : Nat := cnt (fun s => decide (0 < r (320 * w + s))) t
theorem kq_le {r : Nat → Int} {w s t : Nat} (h : s ≤ t) : kq r w s ≤ kq r w t := by
  induction t with
  | zero => rw [show s = 0 by omega]; exact Nat.le_refl _
  | succ t ih =>
    by_cases e : s = t + 1
    · rw [e]; exact Nat.le_refl _
    · exact Nat.le_trans (ih (by omega)) (Nat.le_add_right _ _)
theorem kq_s {r : Nat → Int} {w t : Nat} (h : 0 < r (320 * w + t)) : kq r w (t + 1) = kq r w t + 1 := by
  unfold kq
  show cnt _ t + _ = _
  simp [h]
theorem kq_0 {r : Nat → Int} {w t : Nat} (h : ¬ 0 < r (320 * w + t)) : kq r w (t + 1) = kq r w t := by
  unfold kq
  show cnt _ t + _ = _
  simp [h]
theorem cnt_inj {p : Nat → Bool} {n : Nat} (s : Nat → Nat) : ∀ (N : Nat) (p : Nat → Bool), (∀ t, t < n → p t = true → ∃ k, k < N ∧ s k = t) → cnt p n ≤ N := by
  intro N
  induction N with
  | zero =>
    intro p h
    have : cnt p n = cnt (fun _ => false) n := cnt_ext n (fun k hk => by
      by_cases hp : p k = true
      · obtain ⟨_, z, _⟩ := h k hk hp
        omega
      · simpa using hp)
    rw [this]
    clear this h
    induction n with
    | zero => exact Nat.le_refl _
    | succ n ih => unfold cnt; simpa using ih
  | succ N ih =>
    intro p h
    have h1 := ih (fun t => p t && decide (t ≠ s N)) (fun t ht hp => by
      simp only [Bool.and_eq_true, decide_eq_true_eq] at hp
      obtain ⟨k, k1, k2⟩ := h t ht hp.1
      exact ⟨k, by
        by_cases e : k = N
        · subst e; exact absurd k2.symm hp.2
        · omega, k2⟩)
    by_cases hs : s N < n
    · have h2 := cnt_set (p := p) (q := fun t => p t && decide (t ≠ s N)) hs (fun k hk hn => by simp [hn])
      have h3 : (if p (s N) = true then 1 else 0) ≤ 1 := by split <;> omega
      simp only [ne_eq, not_true_eq_false, decide_false, Bool.and_false] at h2
      simp only [ne_eq] at h1
      have h4 : (if (false = true) then 1 else 0) = 0 := by decide
      omega
    · have : cnt (fun t => p t && decide (t ≠ s N)) n = cnt p n := cnt_ext n (fun k hk => by
        have : k ≠ s N := by omega
        simp [this])
      omega
/-- the cells of a parcel -/
def SQ (q D : Nat) : Nat → Nat → Nat → Prop := fun g j n => (j = q ∧ ((26 ≤ g ∧ g ≤ 27 ∧ n + 26 = D + g) ∨ (30 ≤ g ∧ g ≤ 31 ∧ n + 28 = D + g) ∨ (g = 33 ∧ n = D + 4) ∨ (g = 35 ∧ n = D + 5))) ∨ (g = 32 ∧ 12 * q ≤ j ∧ j < 12 * q + 12 ∧ n + 12 * q = D + 6 + j) ∨ (g = 34 ∧ 16 * q ≤ j ∧ j < 16 * q + 16 ∧ n + 16 * q = D + 18 + j)
def T25 (q : Nat) : Nat → Nat → Prop := fun g j => g = 25 ∧ j = q
def gp4 (k9 : Int → h_M → Option h_M) (v1 : Int) (q : Nat) (m : h_M) : Option h_M := if (m 35 q) = 0 then GB_Mo_goOverParcels_152 k9 v1 (q : Int) 0 (q : Int) m else GB_Mo_goOverParcels_152 k9 v1 (q : Int) 1 (q : Int) m
def gp3 (k9 : Int → h_M → Option h_M) (v1 : Int) (q : Nat) (m : h_M) : Option h_M := gor 1 33 q (gp4 k9 v1 q) m
def gp2 (k9 : Int → h_M → Option h_M) (v1 : Int) (q : Nat) (m : h_M) : Option h_M := gor 2 30 q (gp3 k9 v1 q) m
theorem n_parcel {q : Nat} (hq : q < 2001) (k9 : Int → h_M → Option h_M) (v1 : Int) {m : h_M} {p : Nat} (hp : m 184 0 = (p : Int)) (h8 : p + 34 < 234000) (hk : m 185 0 = 0 ∨ m 185 0 = 1) (h25 : m 185 0 = 1 → m 25 q = 1) (h35 : m 185 0 = 1 → m 35 q = 0 ∨ m 35 q = 1) (h35' : m 185 0 = 0 → m 83 (p + 5) = 0 ∨ m 83 (p + 5) = 1) : ∃ m', gor 2 26 q (gp2 k9 v1 q) (wm m 25 q 1) = GB_Mo_goOverParcels_241 k9 v1 m' ∧ Go (SQ q p) (T25 q) p (p + 34) m m' ∧ m' 25 q = 1 := by
  have z0 : Go (fun _ _ _ => False) (T25 q) p p m (wm m 25 q 1) := by
    refine ⟨⟨by rw [wm_at, if_neg (by omega)]; exact hp, by rw [wm_at, if_neg (by omega)]⟩, fun g j g1 g2 hg => ?_, fun j hj => by rw [wm_at, if_neg (by omega)], fun f k n z => z.elim⟩
    rcases hg with ⟨_, z⟩ | h
    · rw [wm_at, if_neg (show ¬ (g = 25 ∧ j = q) from z)]
    · rw [wm_same (h25 h)]
  obtain ⟨a, a1, a2⟩ := n_gor (β := h_M) q (gp2 k9 v1 q) 2 26 (wm m 25 q 1) p z0.1.1 (by omega) (by rw [z0.1.2]; exact hk) (by omega)
  have za := z0.tr (S := fun g j n => j = q ∧ 26 ≤ g ∧ g ≤ 27 ∧ n + 26 = p + g) (T := T25 q) a2 (by omega) (by omega) (fun g j n z => z.elim) (fun g j n z => by unfold SR; omega) (fun g j n z => by rcases z with z | z; exact z.elim; unfold SR at z; omega) (fun g j z => z.elim id False.elim)
  obtain ⟨b, b1, b2⟩ := n_gor (β := h_M) q (gp3 k9 v1 q) 2 30 a (p + 2) za.1.1 (by omega) (by rw [za.1.2]; exact hk) (by omega)
  have zb := za.tr (S := fun g j n => j = q ∧ ((26 ≤ g ∧ g ≤ 27 ∧ n + 26 = p + g) ∨ (30 ≤ g ∧ g ≤ 31 ∧ n + 28 = p + g))) (T := T25 q) b2 (by omega) (by omega) (fun g j n z => ⟨fun n' z' => by unfold SR at z'; omega, fun z' => z'⟩) (fun g j n z => by unfold SR; omega) (fun g j n z => by unfold SR at z; omega) (fun g j z => z.elim id False.elim)
  obtain ⟨c, c1, c2⟩ := n_gor (β := h_M) q (gp4 k9 v1 q) 1 33 b (p + 4) zb.1.1 (by omega) (by rw [zb.1.2]; exact hk) (by omega)
  have zc := zb.tr (S := fun g j n => j = q ∧ ((26 ≤ g ∧ g ≤ 27 ∧ n + 26 = p + g) ∨ (30 ≤ g ∧ g ≤ 31 ∧ n + 28 = p + g) ∨ (g = 33 ∧ n = p + 4))) (T := T25 q) c2 (by omega) (by omega) (fun g j n z => ⟨fun n' z' => by unfold SR at z'; omega, fun z' => z'⟩) (fun g j n z => by unfold SR; omega) (fun g j n z => by unfold SR at z; omega) (fun g j z => z.elim id False.elim)
  have k1 : c 185 0 = m 185 0 := zc.1.2
  have f35 : c 35 q = m 35 q := zc.at 35 q (by decide) (fun n z => by omega) (fun z => by unfold T25 at z; omega)
  obtain ⟨r, m1, d1, d2, d3, d4⟩ := n_cellv (p := p + 5) zc.1.1 (by omega) (by rw [k1]; exact hk) 35 q (by decide) (if (c 35 q) = 0 then 0 else 1) (fun h => by
    rw [f35]
    rcases h35 (by rw [← k1]; exact h) with e | e
    · rw [if_pos e, e]
    · rw [if_neg (by omega), e])
  have hr : r = 0 ∨ r = 1 := by
    rcases hk with h0 | h1
    · rw [d4 (by rw [k1]; exact h0), zc.2.2.1 _ (Or.inr (Or.inr h0))]; exact h35' h0
    · rw [d3 (by rw [k1]; exact h1), f35]; exact h35 h1
  have zd := zc.tr (S := fun g j n => j = q ∧ ((26 ≤ g ∧ g ≤ 27 ∧ n + 26 = p + g) ∨ (30 ≤ g ∧ g ≤ 31 ∧ n + 28 = p + g) ∨ (g = 33 ∧ n = p + 4) ∨ (g = 35 ∧ n = p + 5))) (T := T25 q) d2 (by omega) (by omega) (fun g j n z => ⟨fun n' z' => by unfold S1 at z'; omega, fun z' => z'⟩) (fun g j n z => by unfold S1; omega) (fun g j n z => by unfold S1 at z; omega) (fun g j z => z.elim id False.elim)
  obtain ⟨e, e1, e2⟩ := n_r32 hq k9 v1 (p := p + 6) (by omega) 12 0 3000 (wm m1 35 q r) (by omega) (by omega) zd.1.1 (by rw [zd.1.2]; exact hk)
  have ze := zd.tr (S := fun g j n => (j = q ∧ ((26 ≤ g ∧ g ≤ 27 ∧ n + 26 = p + g) ∨ (30 ≤ g ∧ g ≤ 31 ∧ n + 28 = p + g) ∨ (g = 33 ∧ n = p + 4) ∨ (g = 35 ∧ n = p + 5))) ∨ (g = 32 ∧ 12 * q ≤ j ∧ j < 12 * q + 12 ∧ n + 12 * q = p + 6 + j)) (T := T25 q) e2 (by omega) (by omega) (fun g j n z => ⟨fun n' z' => by unfold SP at z'; omega, fun z' => z'⟩) (fun g j n z => by unfold SP; omega) (fun g j n z => by unfold SP at z; omega) (fun g j z => z.elim id False.elim)
  obtain ⟨f, f1, f2⟩ := n_r34 hq k9 v1 (p := p + 18) (by omega) 16 0 3000 e (by omega) (by omega) ze.1.1 (by rw [ze.1.2]; exact hk)
  have zf := ze.tr (S := SQ q p) (T := T25 q) f2 (by omega) (by omega) (fun g j n z => ⟨fun n' z' => by unfold SP at z'; omega, fun z' => z'⟩) (fun g j n z => by unfold SQ at z; unfold SP; omega) (fun g j n z => by unfold SP at z; unfold SQ; omega) (fun g j z => z.elim id False.elim)
  refine ⟨f, ?_, zf, ?_⟩
  · rw [← f1, a1]
    show gor 2 30 q (gp3 k9 v1 q) a = _
    rw [b1]
    show gor 1 33 q (gp4 k9 v1 q) b = _
    rw [c1]
    unfold gp4
    have h152 : (if (c 35 q) = 0 then GB_Mo_goOverParcels_152 k9 v1 (q : Int) 0 (q : Int) c else GB_Mo_goOverParcels_152 k9 v1 (q : Int) 1 (q : Int) c) = GB_Mo_goOverParcels_152 k9 v1 (q : Int) (if (c 35 q) = 0 then 0 else 1) (q : Int) c := by
      by_cases h : c 35 q = 0
      · rw [if_pos h, if_pos h]
      · rw [if_neg h, if_neg h]
    have hS : ∀ v : Int, (v = 0 ∨ v = 1) → GB_Mo_goOverParcels_164 k9 v1 (q : Int) v (q : Int) m1 = GO_Mo_goOverParcels_170 k9 3000 v1 (q : Int) ((12 * q + 0 : Nat) : Int) (wm m1 35 q v) := fun v hv => by
      unfold GB_Mo_goOverParcels_164
      rw [gd1 (by omega), gd1 hv, Int.toNat_natCast, p_w1 (x := 12 * (q : Int)) (by omega) (by omega)]
      rfl
    rw [h152]
    unfold GB_Mo_goOverParcels_152
    rw [d1]
    show (if r ≠ 1 then GB_Mo_goOverParcels_164 k9 v1 (q : Int) 0 (q : Int) m1 else GB_Mo_goOverParcels_164 k9 v1 (q : Int) 1 (q : Int) m1) = _
    rw [hS 0 (Or.inl rfl), hS 1 (Or.inr rfl)]
    rcases hr with h | h
    · rw [h, if_pos (by decide), ← h]; exact e1
    · rw [h, if_neg (by decide), ← h]; exact e1
  · rw [f2.at 25 q (by decide) (fun n z => absurd z.1 (by decide)) (fun z => z), e2.at 25 q (by decide) (fun n z => absurd z.1 (by decide)) (fun z => z), d2.at 25 q (by decide) (fun n z => absurd z.1 (by decide)) (fun z => z), c2.at 25 q (by decide) (fun n z => by unfold SR at z; omega) (fun z => z), b2.at 25 q (by decide) (fun n z => by unfold SR at z; omega) (fun z => z), a2.at 25 q (by decide) (fun n z => by unfold SR at z; omega) (fun z => z)]
    simp [wm_at]
def SQs (r : Nat → Int) (w t0 t1 P : Nat) : Nat → Nat → Nat → Prop := fun g j n => ∃ s q : Nat, t0 ≤ s ∧ s < t1 ∧ 1 ≤ q ∧ r (320 * w + s) = (q : Int) ∧ SQ q (P + 34 * kq r w s) g j n
def TQs (r : Nat → Int) (w t0 t1 : Nat) : Nat → Nat → Prop := fun g j => g = 25 ∧ ∃ s, t0 ≤ s ∧ s < t1 ∧ 1 ≤ j ∧ r (320 * w + s) = (j : Int)
theorem n_parcels {w : Nat} (hw : w < 3) {G : Nat} (hG : G ≤ 40) {P : Nat} {r : Nat → Int} (h8 : P + 34 * kq r w (8 * G) < 234000) (hinj : ∀ s s' : Nat, s < 8 * G → s' < 8 * G → 0 < r (320 * w + s) → r (320 * w + s') = r (320 * w + s) → s' = s) : ∀ (d t fu : Nat) (m : h_M), t + d = 8 * G → d < fu → m 22 = r → m 100 0 = (w : Int) → m 3 w = (G : Int) → m 184 0 = ((P + 34 * kq r w t : Nat) : Int) → (m 185 0 = 0 ∨ m 185 0 = 1) → (∀ s, t ≤ s → s < 8 * G → r (320 * w + s) = 0 ∨ ∃ q : Nat, 1 ≤ q ∧ q ≤ 2000 ∧ r (320 * w + s) = (q : Int) ∧ (m 185 0 = 1 → m 25 q = 1 ∧ (m 35 q = 0 ∨ m 35 q = 1)) ∧ (m 185 0 = 0 → m 83 (P + 34 * kq r w s + 5) = 0 ∨ m 83 (P + 34 * kq r w s + 5) = 1)) → ∃ m', GO_Mo_goOverParcels_9 fu ((320 * w + t : Nat) : Int) m = some m' ∧ Go (SQs r w t (8 * G) P) (TQs r w t (8 * G)) (P + 34 * kq r w t) (P + 34 * kq r w (8 * G)) m m' ∧ (∀ s q : Nat, t ≤ s → s < 8 * G → 1 ≤ q → r (320 * w + s) = (q : Int) → m' 25 q = 1) := by
  intro d
  induction d with
  | zero =>
    intro t fu m hd hf e22 e1 e3 hp hk _
    obtain ⟨fu, rfl⟩ : ∃ g, fu = g + 1 := ⟨fu - 1, by omega⟩
    have et : t = 8 * G := by omega
    subst et
    refine ⟨m, ?_, Go.rf _ hp (fun g j n z => by obtain ⟨s, q, z1, z2, _⟩ := z; omega), fun s q h1 h2 => by omega⟩
    show GL_Mo_goOverParcels_9 _ _ m = _
    unfold GL_Mo_goOverParcels_9
    rw [e1, gd1 (by omega), Int.toNat_natCast, e3, p_w1 (x := 320 * (w : Int)) (by omega) (by omega), p_w1 (x := 8 * (G : Int)) (by omega) (by omega), p_w1 (x := 320 * (w : Int) + 8 * (G : Int)) (by omega) (by omega), if_pos (by omega)]
  | succ d ih =>
    intro t fu m hd hf e22 e1 e3 hp hk hs
    obtain ⟨fu, rfl⟩ : ∃ g, fu = g + 1 := ⟨fu - 1, by omega⟩
    have nM : ∀ m2 : h_M, GB_Mo_goOverParcels_241 (GO_Mo_goOverParcels_9 fu) ((320 * w + t : Nat) : Int) m2 = GO_Mo_goOverParcels_9 fu ((320 * w + (t + 1) : Nat) : Int) m2 := fun m2 => by
      unfold GB_Mo_goOverParcels_241
      rw [p_w1 (by omega) (by omega), bi1]
      rfl
    have hM : ∀ X, (if r (320 * w + t) ≤ 0 then GO_Mo_goOverParcels_9 fu ((320 * w + (t + 1) : Nat) : Int) m else p_gd ((0 : Int) ≤ r (320 * w + t) ∧ r (320 * w + t) < (2001 : Int)) <| gor 2 26 (r (320 * w + t)).toNat (gp2 (GO_Mo_goOverParcels_9 fu) ((320 * w + t : Nat) : Int) (r (320 * w + t)).toNat) (wm m 25 (r (320 * w + t)).toNat 1)) = X → (0 < r (320 * w + t) → ((r (320 * w + t)).toNat : Int) = r (320 * w + t)) → GO_Mo_goOverParcels_9 (fu + 1) ((320 * w + t : Nat) : Int) m = X := by
      intro X hX hc
      show GL_Mo_goOverParcels_9 _ _ m = _
      unfold GL_Mo_goOverParcels_9
      rw [e1, gd1 (by omega), Int.toNat_natCast, e3, p_w1 (x := 320 * (w : Int)) (by omega) (by omega), p_w1 (x := 8 * (G : Int)) (by omega) (by omega), p_w1 (x := 320 * (w : Int) + 8 * (G : Int)) (by omega) (by omega), if_neg (by omega), gd1 (by omega), Int.toNat_natCast, e22, bi1]
      rw [← hX]
      by_cases h0 : r (320 * w + t) ≤ 0
      · rw [if_pos h0, if_pos h0, nM]
      · rw [if_neg h0, if_neg h0]
        obtain ⟨q, hq⟩ : ∃ q : Nat, r (320 * w + t) = (q : Int) := ⟨(r (320 * w + t)).toNat, by omega⟩
        rw [hq, Int.toNat_natCast]
        rfl
    by_cases h0 : 0 < r (320 * w + t)
    · obtain ⟨q, q1, q2, q3, q4, q5⟩ : ∃ q : Nat, 1 ≤ q ∧ q ≤ 2000 ∧ r (320 * w + t) = (q : Int) ∧ (m 185 0 = 1 → m 25 q = 1 ∧ (m 35 q = 0 ∨ m 35 q = 1)) ∧ (m 185 0 = 0 → m 83 (P + 34 * kq r w t + 5) = 0 ∨ m 83 (P + 34 * kq r w t + 5) = 1) := by
        rcases hs t (by omega) (by omega) with h | h
        · omega
        · exact h
      have hle : kq r w (t + 1) ≤ kq r w (8 * G) := kq_le (by omega)
      have hks := kq_s h0
      have hpp : P + 34 * kq r w t + 34 = P + 34 * kq r w (t + 1) := by omega
      obtain ⟨m1, x1, x2, x3⟩ := n_parcel (q := q) (by omega) (GO_Mo_goOverParcels_9 fu) ((320 * w + t : Nat) : Int) hp (by omega) hk (fun h => (q4 h).1) (fun h => (q4 h).2) q5
      have k1 : m1 185 0 = m 185 0 := x2.1.2
      have f22 : m1 22 = r := by
        rw [← e22]
        funext j
        exact x2.at 22 j (by decide) (fun n z => by unfold SQ at z; omega) (fun z => by unfold T25 at z; omega)
      have fq : ∀ q' : Nat, q' ≠ q → m1 25 q' = m 25 q' ∧ m1 35 q' = m 35 q' := fun q' hn => ⟨x2.at 25 q' (by decide) (fun n z => by unfold SQ at z; omega) (fun z => by unfold T25 at z; omega), x2.at 35 q' (by decide) (fun n z => by unfold SQ at z; omega) (fun z => by unfold T25 at z; omega)⟩
      obtain ⟨m', y1, y2, y3⟩ := ih (t + 1) fu m1 (by omega) (by omega) f22 (by rw [x2.at 100 0 (by decide) (fun n z => by unfold SQ at z; omega) (fun z => by unfold T25 at z; omega)]; exact e1) (by rw [x2.at 3 w (by decide) (fun n z => by unfold SQ at z; omega) (fun z => by unfold T25 at z; omega)]; exact e3) (by rw [x2.1.1, hpp]) (by rw [k1]; exact hk) (fun s s1 s2 => by
        rcases hs s (by omega) s2 with h | ⟨q', r1, r2, r3, r4, r5⟩
        · exact Or.inl h
        · refine Or.inr ⟨q', r1, r2, r3, fun h => ?_, fun h => ?_⟩
          · have hn : q' ≠ q := fun e => by
              have := hinj t s (by omega) s2 h0 (by rw [r3, q3, e])
              omega
            rw [(fq q' hn).1, (fq q' hn).2]
            exact r4 (by rw [← k1]; exact h)
          · have hz : m 185 0 = 0 := by rw [← k1]; exact h
            rw [x2.2.2.1 _ (Or.inr (Or.inr hz))]
            exact r5 hz)
      rw [hpp] at x2
      refine ⟨m', hM _ ?_ (fun _ => by omega), ?_, fun s q' s1 s2 s3 s4 => ?_⟩
      · rw [if_neg (by omega), gd1 (by omega), q3, Int.toNat_natCast, x1, nM]
        exact y1
      · refine x2.tr y2 (by omega) (by omega) (fun g j n z => ⟨fun n' z' => ?_, fun z' => ?_⟩) (fun g j n z => ?_) (fun g j n z => ?_) (fun g j z => ?_)
        · obtain ⟨s, q', z1, z2, z3, z4, z5⟩ := z'
          have hn : q' ≠ q := fun e => by
            have := hinj t s (by omega) z2 h0 (by rw [z4, q3, e])
            omega
          unfold SQ at z z5
          omega
        · have := z'.1
          unfold SQ at z
          omega
        · obtain ⟨s, q', z1, z2, z3, z4, z5⟩ := z
          by_cases e : s = t
          · subst e
            have : q' = q := by omega
            subst this
            exact Or.inl z5
          · exact Or.inr ⟨s, q', by omega, z2, z3, z4, z5⟩
        · rcases z with z | ⟨s, q', z1, z2, z3, z4, z5⟩
          · exact ⟨t, q, by omega, by omega, q1, q3, z⟩
          · exact ⟨s, q', by omega, z2, z3, z4, z5⟩
        · rcases z with ⟨z1, z2⟩ | ⟨z1, s, z2, z3, z4⟩
          · exact ⟨z1, t, by omega, by omega, by omega, by rw [z2]; exact q3⟩
          · exact ⟨z1, s, by omega, z3, z4⟩
      · by_cases e : s = t
        · subst e
          have : q' = q := by omega
          subst this
          rw [y2.at 25 q' (by decide) (fun n z => ?_) (fun z => ?_)]
          · exact x3
          · obtain ⟨s', q', z1, z2, z3, z4, z5⟩ := z
            unfold SQ at z5
            omega
          · obtain ⟨_, s', z1, z2, z3, z4⟩ := z
            have := hinj s s' (by omega) z2 h0 (by rw [z4, q3])
            omega
        · exact y3 s q' (by omega) s2 s3 s4
    · have h0' : r (320 * w + t) = 0 := by
        rcases hs t (by omega) (by omega) with h | ⟨q, q1, q2, q3, _⟩
        · exact h
        · omega
      have hks := kq_0 h0
      obtain ⟨m', y1, y2, y3⟩ := ih (t + 1) fu m (by omega) (by omega) e22 e1 e3 (by rw [hks]; exact hp) hk (fun s s1 s2 => hs s (by omega) s2)
      rw [hks] at y2
      refine ⟨m', hM _ (by rw [if_pos (by omega)]; exact y1) (fun h => absurd h h0), y2.up (fun g j n => ⟨fun z => ?_, fun z => ?_⟩) (fun g j z => ?_), fun s q' s1 s2 s3 s4 => ?_⟩
      · obtain ⟨s, q', z1, z2, z3, z4, z5⟩ := z
        exact ⟨s, q', by
          by_cases e : s = t
          · subst e; omega
          · omega, z2, z3, z4, z5⟩
      · obtain ⟨s, q', z1, z2, z3, z4, z5⟩ := z
        exact ⟨s, q', by omega, z2, z3, z4, z5⟩
      · obtain ⟨z1, s, z2, z3, z4⟩ := z
        exact ⟨z1, s, by omega, z3, z4⟩
      · refine y3 s q' ?_ s2 s3 s4
        by_cases e : s = t
        · subst e; omega
        · omega
