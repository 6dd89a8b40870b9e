/-! ===== rules judged: letters and numbers ===== -/
def JC (c : h_C) (L : Nat → Int) (n p : Nat) (T : List Int) : Prop := (c 1002 0 0 = (n : Int) ∧ c 1003 0 0 = (p : Int) ∧ c 5004 0 0 = 1 ∧ c 2042 0 = L) ∧ (c 508 3 0 = (T.length : Int) ∧ (∀ i, i < T.length → T[i]? = some (c 2026 3 i))) ∧ p ≤ n ∧ n ≤ 200 ∧ T.length ≤ p
def JM (m : h_M) (L : Nat → Int) (n p : Nat) : Prop := m 147 0 = (n : Int) ∧ m 168 0 = (p : Int) ∧ m 46 = L
/-- rows of letters taken -/
def jT : List Nat := [2026, 508, 1003]
def eT (c c' : h_C) : Prop := eC jT c c' ∧ ∀ x, x ≠ 3 → c' 2026 x = c 2026 x ∧ c' 508 x = c 508 x
theorem eT.rf (c : h_C) : eT c c := ⟨eC.rf _ _, fun _ _ => ⟨rfl, rfl⟩⟩
theorem eT.tr {c c1 c2 : h_C} (h : eT c c1) (k : eT c1 c2) : eT c c2 := ⟨h.1.tr k.1, fun x hx => ⟨(k.2 x hx).1.trans (h.2 x hx).1, (k.2 x hx).2.trans (h.2 x hx).2⟩⟩
theorem j_next {c : h_C} {L : Nat → Int} {n p : Nat} {T : List Int} (h : JC c L n p T) : G_Judge_next c = some (if p < n then L p else -1) := by
  obtain ⟨⟨h1, h2, h3, h4⟩, _, h5, h6, _⟩ := h
  unfold G_Judge_next
  rw [h1, h2]
  by_cases e : p < n
  · rw [if_neg (by omega), gd1 h3, gd1 (by omega), Int.toNat_natCast, h4, if_pos e]
  · rw [if_pos (by omega), if_neg e]
theorem j_here {m : h_M} {L : Nat → Int} {n p : Nat} (h : JM m L n p) (hn : n ≤ 200) : G_Mo_here m = some (if p < n then L p else 0) := by
  obtain ⟨h1, h2, h3⟩ := h
  unfold G_Mo_here
  rw [h1, h2]
  by_cases e : p < n
  · rw [if_neg (by omega), gd1 (by omega), Int.toNat_natCast, h3, if_pos e]
  · rw [if_pos (by omega), if_neg e]
theorem j_take0 {c : h_C} {L : Nat → Int} {n p : Nat} {T : List Int} (h : JC c L n p T) {v : Int} (hv : ¬ (p < n ∧ L p = v)) : G_Judge_take v c = some (0, c) := by
  obtain ⟨⟨h1, h2, h3, h4⟩, _, h5, h6, _⟩ := h
  unfold G_Judge_take
  rw [h1, h2]
  by_cases e : p < n
  · rw [if_neg (by omega), gd1 h3, gd1 (by omega), Int.toNat_natCast, h4, if_neg (fun z => hv ⟨e, z⟩)]
  · rw [if_pos (by omega)]
theorem j_take1 {c : h_C} {L : Nat → Int} {n p : Nat} {T : List Int} (h : JC c L n p T) {v : Int} (e : p < n) (hv : L p = v) : ∃ c', G_Judge_take v c = some (1, c') ∧ JC c' L n (p + 1) (T ++ [v]) ∧ eT c c' := by
  obtain ⟨⟨h1, h2, h3, h4⟩, ⟨t1, t2⟩, h5, h6, h7⟩ := h
  generalize hc : wc (wc (wc c 2026 3 T.length v) 508 3 0 ((T.length : Int) + 1)) 1003 0 0 ((p : Int) + 1) = c'
  have nn : eC jT c c' := by rw [← hc]; exact eC.up (l := [2026, 508, 1003]) (by repeat first | exact eC.rf _ _ | refine eC.wc ?_ (by decide) _ _ _ | refine eC.sr ?_ (by decide) _ _) (by decide)
  refine ⟨c', ?_, ⟨⟨by rw [nn 1002 (by decide)]; exact h1, ?_, by rw [nn 5004 (by decide)]; exact h3, by rw [nn 2042 (by decide)]; exact h4⟩, ⟨?_, fun i hi => ?_⟩, by omega, h6, ?_⟩, nn, fun x hx => ⟨?_, ?_⟩⟩
  · unfold G_Judge_take
    rw [h1, h2, if_neg (by omega), gd1 h3, gd1 (by omega), Int.toNat_natCast, h4, if_pos hv, t1, gd1 (by omega), Int.toNat_natCast, bi1, show (wc c 2026 3 T.length v) 508 3 0 = (T.length : Int) by rw [wc_ne (by decide)]; exact t1, p_w1 (by omega) (by omega), bi1, show (wc (wc c 2026 3 T.length v) 508 3 0 ((T.length : Int) + 1)) 1003 0 0 = (p : Int) by rw [wc_ne (by decide), wc_ne (by decide)]; exact h2, p_w1 (by omega) (by omega), bi1, hc]
  · rw [← hc]; simp [wc_at]
  · rw [← hc, wc_ne (by decide), wc_at, if_pos ⟨rfl, rfl, rfl⟩, List.length_append]
    show (T.length : Int) + 1 = ((T.length + 1 : Nat) : Int)
    omega
  · rw [← hc, wc_ne (by decide), wc_ne (by decide), wc_at]
    rw [List.length_append] at hi
    have hi' : i < T.length + 1 := hi
    by_cases z : i = T.length
    · rw [if_pos ⟨rfl, rfl, z⟩, z, List.getElem?_append_right (Nat.le_refl _), Nat.sub_self]
      rfl
    · rw [if_neg (fun q => z q.2.2), List.getElem?_append_left (by omega)]
      exact t2 i (by omega)
  · rw [List.length_append]
    show T.length + 1 ≤ p + 1
    omega
  · funext k; rw [← hc, wc_ne (by decide), wc_ne (by decide), wc_at, if_neg (fun z => hx z.2.1)]
  · funext k; rw [← hc, wc_ne (by decide), wc_at, if_neg (fun z => hx z.2.1), wc_ne (by decide)]
/-- digits from p on: where they end, what they say -/
def nu (L : Nat → Int) (n : Nat) : Nat → Nat → Int → Nat × Int
  | 0, p, v => (p, v)
  | d + 1, p, v => if p < n ∧ 48 ≤ L p ∧ L p ≤ 57 then nu L n d (p + 1) (10 * v + (L p - 48)) else (p, v)
theorem nu_le (L : Nat → Int) (n : Nat) : ∀ (d p : Nat) (v : Int), p ≤ (nu L n d p v).1 ∧ (p ≤ n → (nu L n d p v).1 ≤ n) ∧ (nu L n d p v).1 ≤ p + d := by
  intro d
  induction d with
  | zero => intro p v; exact ⟨Nat.le_refl _, fun h => h, Nat.le_refl _⟩
  | succ d ih =>
    intro p v
    unfold nu
    by_cases e : p < n ∧ 48 ≤ L p ∧ L p ≤ 57
    · rw [if_pos e]
      obtain ⟨h1, h2, h3⟩ := ih (p + 1) (10 * v + (L p - 48))
      exact ⟨by omega, fun _ => h2 (by omega), by omega⟩
    · rw [if_neg e]
      exact ⟨Nat.le_refl _, fun h => h, by show p ≤ p + (d + 1); omega⟩
theorem nu_val (L : Nat → Int) (n : Nat) : ∀ (d p : Nat) (v : Int), 0 ≤ v → d ≤ 4 → v < (if d = 0 then 10000 else if d = 1 then 1000 else if d = 2 then 100 else if d = 3 then 10 else 1) → 0 ≤ (nu L n d p v).2 ∧ (nu L n d p v).2 ≤ 9999 := by
  intro d
  induction d with
  | zero => intro p v h0 h4 h; rw [if_pos rfl] at h; exact ⟨h0, by show v ≤ 9999; omega⟩
  | succ d ih =>
    intro p v h0 h4 h
    unfold nu
    have hv : v < 1000 := by repeat' split at h
                             all_goals omega
    by_cases e : p < n ∧ 48 ≤ L p ∧ L p ≤ 57
    · rw [if_pos e]
      refine ih (p + 1) _ (by omega) (by omega) ?_
      rw [if_neg (by omega)] at h
      repeat' split
      all_goals (repeat' split at h)
      all_goals omega
    · rw [if_neg e]
      exact ⟨h0, by show v ≤ 9999; omega⟩
theorem tN_d {d : Int} (h0 : 0 ≤ d) (h9 : d ≤ 9) : tN d = [48 + d] := by
  unfold tN
  rw [if_neg (by omega), if_neg (by omega), if_neg (by omega), show d % 10 = d by omega]
theorem tN_snoc {v d : Int} (hv : 1 ≤ v ∧ v ≤ 999) (h0 : 0 ≤ d) (h9 : d ≤ 9) : tN (10 * v + d) = tN v ++ [48 + d] := by
  unfold tN
  by_cases c2 : 99 < v
  · rw [if_pos (by omega), if_neg (by omega), if_pos c2, show (10 * v + d) / 1000 % 10 = v / 100 % 10 by omega, show (10 * v + d) / 100 % 10 = v / 10 % 10 by omega, show (10 * v + d) / 10 % 10 = v % 10 by omega, show (10 * v + d) % 10 = d by omega]
    rfl
  · by_cases c1 : 9 < v
    · rw [if_neg (by omega), if_pos (by omega), if_neg (by omega), if_neg c2, if_pos c1, show (10 * v + d) / 100 % 10 = v / 10 % 10 by omega, show (10 * v + d) / 10 % 10 = v % 10 by omega, show (10 * v + d) % 10 = d by omega]
      rfl
    · rw [if_neg (by omega), if_neg (by omega), if_pos (by omega), if_neg (by omega), if_neg c2, if_neg c1, show (10 * v + d) / 10 % 10 = v % 10 by omega, show (10 * v + d) % 10 = d by omega]
      rfl
/-- one letter dropped -/
theorem JC.drop {c : h_C} {L : Nat → Int} {n p : Nat} {T : List Int} {v : Int} (h : JC c L n p (T ++ [v])) : JC (wc c 508 3 0 (T.length : Int)) L n p T ∧ eT c (wc c 508 3 0 (T.length : Int)) := by
  obtain ⟨⟨h1, h2, h3, h4⟩, ⟨t1, t2⟩, h5, h6, h7⟩ := h
  rw [List.length_append] at h7
  have h7' : T.length + 1 ≤ p := h7
  refine ⟨⟨⟨by rw [wc_ne (by decide)]; exact h1, by rw [wc_ne (by decide)]; exact h2, by rw [wc_ne (by decide)]; exact h3, by funext k; rw [wc_ne (by decide), h4]⟩, ⟨by simp [wc_at], fun i hi => ?_⟩, h5, h6, by omega⟩, eC.up (l := [508]) (by repeat first | exact eC.rf _ _ | refine eC.wc ?_ (by decide) _ _ _ | refine eC.sr ?_ (by decide) _ _) (by decide), fun x hx => ⟨by funext k; rw [wc_ne (by decide)], by funext k; rw [wc_at, if_neg (fun z => hx z.2.1)]⟩⟩
  rw [wc_ne (by decide)]
  have := t2 i (by rw [List.length_append]; show i < T.length + 1; omega)
  rwa [List.getElem?_append_left hi] at this
/-- the class's digits after the first -/
theorem l_digC {L : Nat → Int} {n : Nat} (T : List Int) : ∀ (d fu p : Nat) (c : h_C) (v : Int), d ≤ 3 → d < fu → 0 ≤ v → v < (if d = 0 then 10000 else if d = 1 then 1000 else if d = 2 then 100 else 10) → JC c L n p (T ++ tN v) → ∃ c', GO_Judge_takeNumber_4 fu v ((4 - d : Nat) : Int) c = some ((nu L n d p v).2, c') ∧ JC c' L n (nu L n d p v).1 (T ++ tN (nu L n d p v).2) ∧ eT c c' := by
  intro d
  induction d with
  | zero =>
    intro fu p c v hd hf h0 hv h
    obtain ⟨fu, rfl⟩ : ∃ g, fu = g + 1 := ⟨fu - 1, by omega⟩
    refine ⟨c, ?_, h, eT.rf c⟩
    show GL_Judge_takeNumber_4 _ _ _ c = _
    unfold GL_Judge_takeNumber_4
    rw [if_pos (by omega)]
    rfl
  | succ d ih =>
    intro fu p c v hd hf h0 hv h
    obtain ⟨fu, rfl⟩ : ∃ g, fu = g + 1 := ⟨fu - 1, by omega⟩
    have hv3 : v ≤ 999 := by
      rw [if_neg (by omega)] at hv
      repeat' split at hv
      all_goals omega
    have hnx := j_next h
    by_cases e : p < n ∧ 48 ≤ L p ∧ L p ≤ 57
    · have enu : nu L n (d + 1) p v = nu L n d (p + 1) (10 * v + (L p - 48)) := by show (if _ then _ else _) = _; rw [if_pos e]
      rw [if_pos e.1] at hnx
      -- the text before this letter
      obtain ⟨c1, T1, x1, x2, x3, x4⟩ : ∃ c1 T1, JC c1 L n p T1 ∧ eT c c1 ∧ T1 ++ [L p] = T ++ tN (10 * v + (L p - 48)) ∧ (∀ (k4 : Int → Int → h_C → Option (Int × h_C)) (v2 : Int), (if v ≠ 0 then GB_Judge_takeNumber_52 k4 v v2 (L p - 48) c else p_bi (wc c 508 3 0 (p_w ((c 508 3 0) - 1))) fun c19 => GB_Judge_takeNumber_52 k4 v v2 (L p - 48) c19) = GB_Judge_takeNumber_52 k4 v v2 (L p - 48) c1) := by
        by_cases z : v = 0
        · subst z
          have ht : tN 0 = [48] := by rw [tN_d (by omega) (by omega)]; rfl
          rw [ht] at h
          obtain ⟨y1, y2⟩ := h.drop
          refine ⟨_, T, y1, y2, ?_, fun k4 v2 => ?_⟩
          · rw [show (10 : Int) * 0 + (L p - 48) = L p - 48 by omega, tN_d (by omega) (by omega), show 48 + (L p - 48) = L p by omega]
          · have t1 := h.2.1.1
            rw [List.length_append] at t1
            have t1' : c 508 3 0 = ((T.length + 1 : Nat) : Int) := t1
            have hl := h.2.2.2.2
            rw [List.length_append] at hl
            have hl' : T.length + 1 ≤ p := hl
            have hp := h.2.2.1
            have hn := h.2.2.2.1
            rw [if_neg (by simp), t1', p_w1 (by omega) (by omega), show ((T.length + 1 : Nat) : Int) - 1 = (T.length : Int) by omega]
            rfl
        · refine ⟨c, T ++ tN v, h, eT.rf c, ?_, fun k4 v2 => by rw [if_pos z]⟩
          rw [tN_snoc (by omega) (by omega) (by omega), show 48 + (L p - 48) = L p by omega, List.append_assoc]
      obtain ⟨c2, y1, y2, y3⟩ := j_take1 x1 e.1 rfl
      rw [x3] at y2
      obtain ⟨c', z1, z2, z3⟩ := ih fu (p + 1) c2 (10 * v + (L p - 48)) (by omega) (by omega) (by omega) (by
        rw [if_neg (by omega)] at hv
        repeat' split
        all_goals (repeat' split at hv)
        all_goals omega) y2
      rw [enu]
      refine ⟨c', ?_, z2, (x2.tr y3).tr z3⟩
      show GL_Judge_takeNumber_4 _ _ _ c = _
      unfold GL_Judge_takeNumber_4
      rw [if_neg (by omega), hnx, q_some, if_neg (by omega), q_some, if_neg (by omega), q_some, p_w1 (by omega) (by omega), bi1, x4]
      unfold GB_Judge_takeNumber_52 GB_Judge_takeNumber_67
      have hnx1 := j_next x1
      rw [if_pos e.1] at hnx1
      rw [if_pos (by omega), p_w1 (x := 10 * v) (by omega) (by omega), p_w1 (x := 10 * v + (L p - 48)) (by omega) (by omega), hnx1, q_some, y1, q_some2, p_w1 (by omega) (by omega), bi1, show ((4 - (d + 1) : Nat) : Int) + 1 = ((4 - d : Nat) : Int) by omega]
      exact z1
    · have enu : nu L n (d + 1) p v = (p, v) := by show (if _ then _ else _) = _; rw [if_neg e]
      rw [enu]
      refine ⟨c, ?_, h, eT.rf c⟩
      show GL_Judge_takeNumber_4 _ _ _ c = _
      unfold GL_Judge_takeNumber_4
      rw [if_neg (by omega), hnx, q_some]
      by_cases e1 : (if p < n then L p else -1) < 48
      · rw [if_pos e1]
      · rw [if_neg e1, q_some, if_pos]
        by_cases e2 : p < n
        · rw [if_pos e2] at e1 ⊢; omega
        · rw [if_neg e2] at e1; omega
/-- is a digit there -/
def dg (L : Nat → Int) (n p : Nat) : Prop := p < n ∧ 48 ≤ L p ∧ L p ≤ 57
theorem j_num0 {c : h_C} {L : Nat → Int} {n p : Nat} {T : List Int} (h : JC c L n p T) (e : ¬ dg L n p) : G_Judge_takeNumber c = some (-1, c) := by
  have hnx := j_next h
  show GL_Judge_takeNumber_4 (GO_Judge_takeNumber_4 2999) (-1) 0 c = _
  unfold GL_Judge_takeNumber_4
  rw [if_neg (by omega), hnx, q_some]
  by_cases e1 : (if p < n then L p else -1) < 48
  · rw [if_pos e1]
  · rw [if_neg e1, q_some, if_pos]
    by_cases e2 : p < n
    · rw [if_pos e2] at e1 ⊢
      unfold dg at e
      omega
    · rw [if_neg e2] at e1; omega
theorem nu_4 {L : Nat → Int} {n p : Nat} (e : dg L n p) : nu L n 4 p 0 = nu L n 3 (p + 1) (L p - 48) := by
  show (if _ then _ else _) = _
  rw [if_pos (show p < n ∧ 48 ≤ L p ∧ L p ≤ 57 from e), show (10 : Int) * 0 + (L p - 48) = L p - 48 by omega]
theorem j_num1 {c : h_C} {L : Nat → Int} {n p : Nat} {T : List Int} (h : JC c L n p T) (e : dg L n p) : ∃ c', G_Judge_takeNumber c = some ((nu L n 4 p 0).2, c') ∧ JC c' L n (nu L n 4 p 0).1 (T ++ tN (nu L n 4 p 0).2) ∧ eT c c' := by
  have hnx := j_next h
  obtain ⟨e1, e2, e3⟩ := id e
  rw [if_pos e1] at hnx
  obtain ⟨c2, y1, y2, y3⟩ := j_take1 h e1 rfl
  rw [show [L p] = tN (L p - 48) by rw [tN_d (by omega) (by omega)]; congr 1; omega] at y2
  obtain ⟨c', z1, z2, z3⟩ := l_digC T 3 2999 (p + 1) c2 (L p - 48) (by omega) (by omega) (by omega) (by
    rw [if_neg (by decide), if_neg (by decide), if_neg (by decide)]; omega) y2
  rw [nu_4 e]
  refine ⟨c', ?_, z2, y3.tr z3⟩
  show GL_Judge_takeNumber_4 (GO_Judge_takeNumber_4 2999) (-1) 0 c = _
  unfold GL_Judge_takeNumber_4 GB_Judge_takeNumber_52 GB_Judge_takeNumber_67
  rw [if_neg (by omega), hnx, q_some, if_neg (by omega), q_some, if_neg (by omega), q_some, p_w1 (by omega) (by omega), bi1, if_pos (by decide), if_neg (by decide), q_some, y1, q_some2]
  exact z1
/-- the reference's digits -/
theorem l_digM {L : Nat → Int} {n : Nat} (hn : n ≤ 200) : ∀ (d fu p : Nat) (m : h_M), d ≤ 4 → d < fu → 0 ≤ m 170 0 → m 170 0 < (if d = 0 then 10000 else if d = 1 then 1000 else if d = 2 then 100 else if d = 3 then 10 else 1) → JM m L n p → ∃ m', GO_Mo_number_26 fu ((4 - d : Nat) : Int) m = some (1, m') ∧ JM m' L n (nu L n d p (m 170 0)).1 ∧ m' 170 0 = (nu L n d p (m 170 0)).2 ∧ eM [168, 170] m m' := by
  intro d
  induction d with
  | zero =>
    intro fu p m hd hf h0 hv h
    obtain ⟨fu, rfl⟩ : ∃ g, fu = g + 1 := ⟨fu - 1, by omega⟩
    refine ⟨m, ?_, h, rfl, eM.rf _ _⟩
    show GL_Mo_number_26 _ _ m = _
    unfold GL_Mo_number_26
    rw [if_pos (by omega)]
  | succ d ih =>
    intro fu p m hd hf h0 hv h
    obtain ⟨fu, rfl⟩ : ∃ g, fu = g + 1 := ⟨fu - 1, by omega⟩
    have hv3 : m 170 0 ≤ 999 := by
      rw [if_neg (by omega)] at hv
      repeat' split at hv
      all_goals omega
    have hh := j_here h hn
    by_cases e : p < n ∧ 48 ≤ L p ∧ L p ≤ 57
    · have enu : nu L n (d + 1) p (m 170 0) = nu L n d (p + 1) (10 * m 170 0 + (L p - 48)) := by show (if _ then _ else _) = _; rw [if_pos e]
      rw [if_pos e.1] at hh
      generalize hm1 : wm (wm m 170 0 (10 * m 170 0 + (L p - 48))) 168 0 ((p : Int) + 1) = m1
      have n1 : eM [168, 170] m m1 := by rw [← hm1]; exact (by repeat first | exact eM.rf _ _ | refine eM.wm ?_ (by decide) _ _)
      have v1 : m1 170 0 = 10 * m 170 0 + (L p - 48) := by rw [← hm1]; simp [wm_at]
      have j1 : JM m1 L n (p + 1) := ⟨by rw [n1 147 (by decide)]; exact h.1, by rw [← hm1]; simp [wm_at], by rw [n1 46 (by decide)]; exact h.2.2⟩
      obtain ⟨m', z1, z2, z3, z4⟩ := ih fu (p + 1) m1 (by omega) (by omega) (by rw [v1]; omega) (by
        rw [v1]
        rw [if_neg (by omega)] at hv
        repeat' split
        all_goals (repeat' split at hv)
        all_goals omega) j1
      rw [v1] at z2 z3
      rw [enu]
      refine ⟨m', ?_, z2, z3, n1.tr z4⟩
      show GL_Mo_number_26 _ _ m = _
      unfold GL_Mo_number_26 G_Mo_isDigit
      have hp := h.2.1
      rw [if_neg (by omega), hh, q_some, if_neg (by omega), if_neg (by omega), q_some, if_neg (by decide), q_some, p_w1 (x := 10 * m 170 0) (by omega) (by omega), p_w1 (x := 10 * m 170 0 + L p) (by omega) (by omega), p_w1 (x := 10 * m 170 0 + L p - 48) (by omega) (by omega), show 10 * m 170 0 + L p - 48 = 10 * m 170 0 + (L p - 48) by omega, bi1, show (wm m 170 0 (10 * m 170 0 + (L p - 48))) 168 0 = (p : Int) by rw [wm_at, if_neg (by omega)]; exact hp, p_w1 (x := (p : Int) + 1) (by omega) (by omega), bi1, hm1, p_w1 (by omega) (by omega), bi1, show ((4 - (d + 1) : Nat) : Int) + 1 = ((4 - d : Nat) : Int) by omega]
      exact z1
    · have enu : nu L n (d + 1) p (m 170 0) = (p, m 170 0) := by show (if _ then _ else _) = _; rw [if_neg e]
      rw [enu]
      refine ⟨m, ?_, h, rfl, eM.rf _ _⟩
      show GL_Mo_number_26 _ _ m = _
      unfold GL_Mo_number_26 G_Mo_isDigit
      rw [if_neg (by omega), hh, q_some]
      by_cases e1 : (if p < n then L p else 0) < 48
      · rw [if_pos e1, q_some, if_pos rfl]
      · have e2 : 57 < (if p < n then L p else 0) := by
          by_cases e3 : p < n
          · rw [if_pos e3] at e1 ⊢; omega
          · rw [if_neg e3] at e1; omega
        rw [if_neg e1, if_pos e2, q_some, if_pos rfl]
theorem n_num0 {m : h_M} {L : Nat → Int} {n p : Nat} (hn : n ≤ 200) (h : JM m L n p) (e : ¬ dg L n p) : G_Mo_number m = some (0, wm m 169 0 (p : Int)) := by
  unfold G_Mo_number G_Mo_isDigit G_Mo_wrong
  rw [j_here h hn, q_some, h.2.1]
  have : (if (if p < n then L p else 0) < 48 then some (0 : Int) else if 57 < (if p < n then L p else 0) then some 0 else some 1) = some 0 := by
    by_cases e1 : (if p < n then L p else 0) < 48
    · rw [if_pos e1]
    · have e2 : 57 < (if p < n then L p else 0) := by
        by_cases e3 : p < n
        · rw [if_pos e3] at e1 ⊢
          unfold dg at e
          omega
        · rw [if_neg e3] at e1; omega
      rw [if_neg e1, if_pos e2]
  rw [this, q_some, if_neg (by decide), bi1, q_some2, gd1 (by decide)]
theorem n_num1 {m : h_M} {L : Nat → Int} {n p : Nat} (hn : n ≤ 200) (h : JM m L n p) (e : dg L n p) : ∃ m', G_Mo_number m = some (1, m') ∧ JM m' L n (nu L n 4 p 0).1 ∧ m' 170 0 = (nu L n 4 p 0).2 ∧ eM [168, 170] m m' := by
  obtain ⟨e1, e2, e3⟩ := id e
  have n0 : eM [170] m (wm m 170 0 0) := (by repeat first | exact eM.rf _ _ | refine eM.wm ?_ (by decide) _ _)
  have h0 : (wm m 170 0 0) 170 0 = 0 := by simp [wm_at]
  obtain ⟨m', z1, z2, z3, z4⟩ := l_digM hn (L := L) 4 3000 p (wm m 170 0 0) (by omega) (by omega) (by rw [h0]; omega) (by rw [h0]; decide) ⟨by rw [n0 147 (by decide)]; exact h.1, by rw [n0 168 (by decide)]; exact h.2.1, by rw [n0 46 (by decide)]; exact h.2.2⟩
  rw [h0] at z2 z3
  refine ⟨m', ?_, z2, z3, (n0.up (by decide)).tr z4⟩
  unfold G_Mo_number G_Mo_isDigit
  rw [j_here h hn, q_some, if_pos e1, if_neg (by omega), if_neg (by omega), q_some, if_pos (by decide), bi1]
  exact z1
