/-! ===== said ===== -/
/-- letters counted down to the one that is asked for -/
def sl : List Int → Int × Int → Int × Int
  | [], p => p
  | v :: l, p => sl l (p.1 - 1, if p.1 = 0 then v else p.2)
theorem sl_app (a b : List Int) (p : Int × Int) : sl (a ++ b) p = sl b (sl a p) := by
  induction a generalizing p with
  | nil => rfl
  | cons v a ih => exact ih _
theorem sl_1 (l : List Int) (p : Int × Int) : (sl l p).1 = p.1 - l.length := by
  induction l generalizing p with
  | nil => show p.1 = p.1 - ((0 : Nat) : Int); omega
  | cons v l ih =>
    show (sl l _).1 = _
    rw [ih]
    show p.1 - 1 - (l.length : Int) = p.1 - ((l.length + 1 : Nat) : Int)
    omega
theorem sl_neg (l : List Int) (p : Int × Int) (h : p.1 < 0) : (sl l p).2 = p.2 := by
  induction l generalizing p with
  | nil => rfl
  | cons v l ih =>
    show (sl l _).2 = _
    rw [ih _ (show p.1 - 1 < 0 by omega)]
    exact if_neg (by omega)
theorem sl_2 (l : List Int) (i : Nat) (r : Int) : (sl l ((i : Int), r)).2 = if h : i < l.length then l[i] else r := by
  induction l generalizing i r with
  | nil => rfl
  | cons v l ih =>
    cases i with
    | zero =>
      show (sl l (((0 : Nat) : Int) - 1, if ((0 : Nat) : Int) = 0 then v else r)).2 = _
      rw [sl_neg _ _ (by show ((0 : Nat) : Int) - 1 < 0; omega)]
      simp
    | succ i =>
      show (sl l (((i + 1 : Nat) : Int) - 1, if ((i + 1 : Nat) : Int) = 0 then v else r)).2 = _
      rw [if_neg (by omega), show ((i + 1 : Nat) : Int) - 1 = (i : Int) by omega, ih]
      simp
def sq (m : h_M) (p : Int × Int) : h_M := wm (wm m 186 0 p.1) 187 0 p.2
theorem sq_n (m : h_M) (p : Int × Int) : eM [186, 187] m (sq m p) := by unfold sq; exact (by repeat first | exact eM.rf _ _ | refine eM.wm ?_ (by decide) _ _)
theorem sq_sq (m : h_M) (p q : Int × Int) (x : h_M) (h : ∀ f k, x f k = if f = 187 ∧ k = 0 then q.2 else if f = 186 ∧ k = 0 then q.1 else m f k) : x = sq m q := by
  funext f k
  rw [h]
  unfold sq
  rw [wm_at, wm_at]
theorem s_says (m : h_M) (p : Int × Int) (v : Int) (h : -2000000000 < p.1 ∧ p.1 < 2147483648) : G_Mo_says v (sq m p) = some (sq m (sl [v] p)) := by
  have e186 : sq m p 186 0 = p.1 := by unfold sq; simp [wm_at]
  unfold G_Mo_says GB_Mo_says_12
  rw [e186]
  by_cases z : p.1 = 0
  · rw [if_neg (by simpa using z)]
    rw [bi1, show (wm (sq m p) 187 0 v) 186 0 = p.1 by rw [wm_at, if_neg (by omega)]; exact e186, p_w1 (by omega) (by omega), bi1]
    congr 1
    refine sq_sq m p _ _ (fun f k => ?_)
    show _ = if f = 187 ∧ k = 0 then (if p.1 = 0 then v else p.2) else if f = 186 ∧ k = 0 then p.1 - 1 else m f k
    rw [if_pos z]
    unfold sq
    simp only [wm_at]
    by_cases a : f = 186 ∧ k = 0
    · rw [if_pos a, if_neg (by omega), if_pos a]
    · rw [if_neg a]
      by_cases b : f = 187 ∧ k = 0
      · rw [if_pos b, if_pos b]
      · rw [if_neg b, if_neg b, if_neg b, if_neg a, if_neg a]
  · rw [if_pos (by simpa using z), p_w1 (by omega) (by omega), bi1]
    congr 1
    refine sq_sq m p _ _ (fun f k => ?_)
    show _ = if f = 187 ∧ k = 0 then (if p.1 = 0 then v else p.2) else if f = 186 ∧ k = 0 then p.1 - 1 else m f k
    rw [if_neg z]
    unfold sq
    simp only [wm_at]
    by_cases a : f = 186 ∧ k = 0
    · rw [if_pos a, if_neg (by omega), if_pos a]
    · rw [if_neg a]
      by_cases b : f = 187 ∧ k = 0
      · rw [if_pos b, if_pos b]
      · rw [if_neg b, if_neg b, if_neg a, if_neg a]
theorem tN_len (v : Int) : (tN v).length ≤ 4 := by
  unfold tN
  repeat' split
  all_goals simp
theorem l_num (m : h_M) (v x : Int) (hv : 0 ≤ v ∧ v ≤ 9999) (hx : x = 1 ∨ x = 10 ∨ x = 100 ∨ x = 1000) (fu : Nat) (p : Int × Int) (h : -1999999999 < p.1 ∧ p.1 < 2147483648) : GO_Mo_saysNumber_37 (fu + 1) v x (sq m p) = GO_Mo_saysNumber_37 fu v (x / 10) (sq m (sl [48 + v / x % 10] p)) := by
  show GL_Mo_saysNumber_37 _ _ _ _ = _
  unfold GL_Mo_saysNumber_37
  have hd : 0 ≤ v / x ∧ v / x ≤ 9999 := by rcases hx with rfl | rfl | rfl | rfl <;> omega
  rw [if_neg (by omega), gd1 (by omega), p_div1 hv.1 (by omega) (by omega), p_rem1 hd.1 (by omega) (by omega), p_w1 (by omega) (by omega), s_says m p _ (by omega), q_some, p_div1 (by omega) (by omega) (by omega)]
  rfl
theorem l_num0 (m : h_M) (v : Int) (fu : Nat) : GO_Mo_saysNumber_37 (fu + 1) v 0 m = some m := by
  show GL_Mo_saysNumber_37 _ _ _ _ = _
  unfold GL_Mo_saysNumber_37
  rw [if_pos (by omega)]
theorem s_saysNumber (m : h_M) (v : Int) (hv : 0 ≤ v ∧ v ≤ 9999) (p : Int × Int) (h : -1999999000 < p.1 ∧ p.1 < 2147483648) : G_Mo_saysNumber v (sq m p) = some (sq m (sl (tN v) p)) := by
  have b1 : ∀ a : Int, (sl [a] p).1 = p.1 - 1 := fun a => rfl
  have b2 : ∀ a b : Int, (sl [b] (sl [a] p)).1 = p.1 - 1 - 1 := fun a b => rfl
  have b3 : ∀ a b d : Int, (sl [d] (sl [b] (sl [a] p))).1 = p.1 - 1 - 1 - 1 := fun a b d => rfl
  have e1 : (1 : Int) / 10 = 0 := by decide
  have e10 : (10 : Int) / 10 = 1 := by decide
  have e100 : (100 : Int) / 10 = 10 := by decide
  have e1000 : (1000 : Int) / 10 = 100 := by decide
  have f1 : v / 1 = v := Int.ediv_one v
  unfold G_Mo_saysNumber GB_Mo_saysNumber_36 tN
  by_cases c3 : v ≤ 999
  · rw [if_pos c3, if_neg (show ¬ 999 < v by omega)]
    by_cases c2 : v ≤ 99
    · rw [if_pos c2, if_neg (show ¬ 99 < v by omega)]
      by_cases c1 : v ≤ 9
      · rw [if_pos c1, if_neg (show ¬ 9 < v by omega), l_num m v 1 hv (by omega) 2999 p (by omega), e1, l_num0 _ _ 2998, f1]
      · rw [if_neg c1, if_pos (show 9 < v by omega), l_num m v 10 hv (by omega) 2999 p (by omega), e10, l_num m v 1 hv (by omega) 2998 _ (by rw [b1]; omega), e1, l_num0 _ _ 2997, f1]
        rfl
    · rw [if_neg c2, if_pos (show 99 < v by omega), l_num m v 100 hv (by omega) 2999 p (by omega), e100, l_num m v 10 hv (by omega) 2998 _ (by rw [b1]; omega), e10, l_num m v 1 hv (by omega) 2997 _ (by rw [b2]; omega), e1, l_num0 _ _ 2996, f1]
      rfl
  · rw [if_neg c3, if_pos (show 999 < v by omega), l_num m v 1000 hv (by omega) 2999 p (by omega), e1000, l_num m v 100 hv (by omega) 2998 _ (by rw [b1]; omega), e100, l_num m v 10 hv (by omega) 2997 _ (by rw [b2]; omega), e10, l_num m v 1 hv (by omega) 2996 _ (by rw [b3]; omega), e1, l_num0 _ _ 2995, f1]
    rfl
theorem tT_len (m : h_M) (t : Nat) : (tT m t).length ≤ 10 := by
  unfold tT
  have h1 := tN_len (m 53 t)
  have h2 := tN_len (m 55 t)
  simp only [List.length_cons, List.length_append]
  split
  · omega
  · simp only [List.length_nil]; omega
theorem tS_len (m : h_M) (t0 n : Nat) : (tS m t0 n).length ≤ 11 * n := by
  induction n with
  | zero => exact Nat.le_refl _
  | succ n ih =>
    unfold tS
    have := tT_len m (t0 + n)
    simp only [List.length_append]
    have h3 : (if n = 0 then ([] : List Int) else [44]).length ≤ 1 := by split <;> simp
    omega
theorem tR_len (m : h_M) (r : Nat) (h : m 50 r ≤ 4) : (tR m r).length ≤ 50 := by
  unfold tR
  have h1 := tS_len m (4 * r) (m 50 r).toNat
  have h2 := tN_len (m 49 r)
  simp only [List.length_append, List.length_cons, List.length_nil]
  omega
theorem tW_len (m : h_M) (r0 n : Nat) (h : ∀ r, r < n → m 50 (r0 + r) ≤ 4) : (tW m r0 n).length ≤ 50 * n := by
  induction n with
  | zero => exact Nat.le_refl _
  | succ n ih =>
    unfold tW
    have h1 := ih (fun r hr => h r (by omega))
    have h2 := tR_len m (r0 + n) (h n (by omega))
    simp only [List.length_append]
    omega
/-- tests of one rule -/
theorem l_saidT {m : h_M} {r : Nat} (hr : r < 36) {n : Nat} (hn : m 50 r = (n : Int)) (n4 : n ≤ 4) (h49 : 0 ≤ m 49 r ∧ m 49 r ≤ 9999) (ht : ∀ t, t < n → (m 52 (4 * r + t) = 81 → 0 ≤ m 53 (4 * r + t) ∧ m 53 (4 * r + t) ≤ 9999) ∧ 0 ≤ m 55 (4 * r + t) ∧ m 55 (4 * r + t) ≤ 9999) (k26 : Int → h_M → Option (Int × h_M)) (p0 : Int × Int) (hp : -1000000000 < p0.1 ∧ p0.1 < 2147483648) : ∀ (d t fu : Nat), t + d = n → d < fu → GO_Mo_said_51 k26 fu (r : Int) ((4 * r + t : Nat) : Int) (sq m (sl (tS m (4 * r) t) p0)) = k26 ((r + 1 : Nat) : Int) (sq m (sl (tR m r) p0)) := by
  intro d
  induction d with
  | zero =>
    intro t fu hd hf
    obtain ⟨fu, rfl⟩ : ∃ g, fu = g + 1 := ⟨fu - 1, by omega⟩
    have et : t = n := by omega
    subst et
    have l1 := tS_len m (4 * r) t
    have l2 := tN_len (m 49 r)
    have eR : tR m r = tS m (4 * r) t ++ ([58] ++ (tN (m 49 r) ++ [59])) := by unfold tR; rw [hn]; rfl
    show GL_Mo_said_51 _ _ _ _ _ = _
    unfold GL_Mo_said_51
    rw [gd1 (by omega), Int.toNat_natCast, sq_n m _ 50 (by decide), hn, p_w1 (x := 4 * (r : Int)) (by omega) (by omega), p_w1 (x := 4 * (r : Int) + (t : Int)) (by omega) (by omega), if_pos (by omega), s_says m _ 58 (by rw [sl_1]; omega), q_some, sq_n m _ 49 (by decide), s_saysNumber m _ h49 _ (by rw [sl_1, sl_1, show ([58] : List Int).length = 1 from rfl]; omega), q_some, s_says m _ 59 (by rw [sl_1, sl_1, sl_1, show ([58] : List Int).length = 1 from rfl]; omega), q_some, p_w1 (by omega) (by omega), bi1, eR, sl_app, sl_app, sl_app]
    rfl
  | succ d ih =>
    intro t fu hd hf
    obtain ⟨fu, rfl⟩ : ∃ g, fu = g + 1 := ⟨fu - 1, by omega⟩
    have l1 := tS_len m (4 * r) t
    have l2 := tN_len (m 53 (4 * r + t))
    have l3 := tN_len (m 55 (4 * r + t))
    obtain ⟨h53, h55⟩ := ht t (by omega)
    rw [← ih (t + 1) fu (by omega) (by omega)]
    -- what is said behind the comma
    have key : ∀ p : Int × Int, -1500000000 < p.1 ∧ p.1 < 2147483648 → GB_Mo_said_78 k26 (GO_Mo_said_51 k26 fu) (r : Int) ((4 * r + t : Nat) : Int) (sq m p) = GO_Mo_said_51 k26 fu (r : Int) ((4 * r + (t + 1) : Nat) : Int) (sq m (sl (tT m (4 * r + t)) p)) := fun p hp => by
      have k109 : ∀ q : Int × Int, -1600000000 < q.1 ∧ q.1 < 2147483648 → GB_Mo_said_109 k26 (GO_Mo_said_51 k26 fu) (r : Int) ((4 * r + t : Nat) : Int) (sq m q) = GO_Mo_said_51 k26 fu (r : Int) ((4 * r + (t + 1) : Nat) : Int) (sq m (sl (tN (m 55 (4 * r + t))) (sl [m 54 (4 * r + t)] q))) := fun q hq => by
        unfold GB_Mo_said_109
        rw [gd1 (by omega), Int.toNat_natCast, sq_n m _ 54 (by decide), s_says m _ _ (by omega), q_some, sq_n m _ 55 (by decide), s_saysNumber m _ h55 _ (by rw [sl_1, show ([m 54 (4 * r + t)] : List Int).length = 1 from rfl]; omega), q_some, p_w1 (by omega) (by omega)]
        rfl
      unfold GB_Mo_said_78
      rw [gd1 (by omega), Int.toNat_natCast, sq_n m _ 52 (by decide), s_says m _ _ (by omega), q_some, sq_n m _ 52 (by decide)]
      by_cases e : m 52 (4 * r + t) = 81
      · rw [if_neg (by simpa using e), sq_n m _ 53 (by decide), s_saysNumber m _ (h53 e) _ (by rw [sl_1, show ([m 52 (4 * r + t)] : List Int).length = 1 from rfl]; omega), q_some, k109 _ (by rw [sl_1, sl_1, show ([m 52 (4 * r + t)] : List Int).length = 1 from rfl]; omega)]
        have eT : tT m (4 * r + t) = [m 52 (4 * r + t)] ++ (tN (m 53 (4 * r + t)) ++ ([m 54 (4 * r + t)] ++ tN (m 55 (4 * r + t)))) := by unfold tT; rw [if_pos e]; rfl
        rw [eT, sl_app, sl_app, sl_app]
      · rw [if_pos e, k109 _ (by rw [sl_1, show ([m 52 (4 * r + t)] : List Int).length = 1 from rfl]; omega)]
        have eT : tT m (4 * r + t) = [m 52 (4 * r + t)] ++ ([m 54 (4 * r + t)] ++ tN (m 55 (4 * r + t))) := by unfold tT; rw [if_neg e]; rfl
        rw [eT, sl_app, sl_app]
    show GL_Mo_said_51 _ _ _ _ _ = _
    unfold GL_Mo_said_51
    rw [gd1 (by omega), Int.toNat_natCast, sq_n m _ 50 (by decide), hn, p_w1 (x := 4 * (r : Int)) (by omega) (by omega), p_w1 (x := 4 * (r : Int) + (n : Int)) (by omega) (by omega), if_neg (by omega)]
    have eS : tS m (4 * r) (t + 1) = tS m (4 * r) t ++ ((if t = 0 then [] else [44]) ++ tT m (4 * r + t)) := rfl
    by_cases e0 : t = 0
    · rw [if_pos (by omega), key _ (by rw [sl_1]; omega), eS, if_pos e0, List.nil_append, sl_app]
    · rw [if_neg (by omega), s_says m _ 44 (by rw [sl_1]; omega), q_some, key _ (by rw [sl_1, sl_1, show ([44] : List Int).length = 1 from rfl]; omega), eS, if_neg e0, sl_app, sl_app]
theorem pr_said {b : Nat} {c : h_C} {m : h_M} (h : RR b c m) (v1 : Int) (hv1 : v1 < 2147483648) : ∃ r m', G_SW_said v1 c = some r ∧ G_Mo_said v1 m = some (r, m') ∧ RR b c m' ∧ m' 102 0 = m 102 0 := by
  obtain ⟨w, hw, e1, e2⟩ := h.w
  have w3 : (0 : Int) ≤ (w : Int) ∧ (w : Int) < 3 := by omega
  unfold G_SW_said G_Mo_said GB_SW_said_18
  by_cases h0 : 0 ≤ v1
  case neg => exact ⟨-9, m, by rw [if_pos (by omega)], by rw [if_neg h0], h, rfl⟩
  rw [if_neg (by omega), if_pos h0, e2, gd1 w3, Int.toNat_natCast]
  obtain ⟨i, rfl⟩ : ∃ i : Nat, v1 = (i : Int) := ⟨v1.toNat, by omega⟩
  obtain ⟨⟨u1, u2, u3⟩, u4, u5, u6, u7⟩ := h.U w hw
  obtain ⟨n, hn⟩ : ∃ n : Nat, m 48 w = (n : Int) := ⟨(m 48 w).toNat, by omega⟩
  have key : ∀ (d j fu : Nat), j + d = n → d < fu → GO_Mo_said_26 fu ((12 * w + j : Nat) : Int) (sq m (sl (tW m (12 * w) j) ((i : Int), -9))) = some ((sl (tW m (12 * w) n) ((i : Int), -9)).2, sq m (sl (tW m (12 * w) n) ((i : Int), -9))) := by
    intro d
    induction d with
    | zero =>
      intro j fu hd hf
      obtain ⟨fu, rfl⟩ : ∃ g, fu = g + 1 := ⟨fu - 1, by omega⟩
      have ej : j = n := by omega
      subst ej
      show GL_Mo_said_26 _ _ _ = _
      unfold GL_Mo_said_26
      rw [sq_n m _ 100 (by decide), e1, gd1 w3, Int.toNat_natCast, sq_n m _ 48 (by decide), hn, p_w1 (x := 12 * (w : Int)) (by omega) (by omega), p_w1 (x := 12 * (w : Int) + (j : Int)) (by omega) (by omega), if_pos (by omega), show (sq m (sl (tW m (12 * w) j) ((i : Int), -9))) 187 0 = (sl (tW m (12 * w) j) ((i : Int), -9)).2 by unfold sq; simp [wm_at]]
    | succ d ih =>
      intro j fu hd hf
      obtain ⟨fu, rfl⟩ : ∃ g, fu = g + 1 := ⟨fu - 1, by omega⟩
      obtain ⟨⟨y1, y2, y3⟩, ⟨z1, z2, z3⟩, _, z4⟩ := u4 j (by omega) (by omega)
      obtain ⟨nt, hnt⟩ : ∃ nt : Nat, m 50 (12 * w + j) = (nt : Int) := ⟨(m 50 (12 * w + j)).toNat, by omega⟩
      have lw : (tW m (12 * w) j).length ≤ 50 * j := tW_len m (12 * w) j (fun r hr => (u4 r (by omega) (by omega)).2.1.2.2)
      have hT := l_saidT (m := m) (r := 12 * w + j) (by omega) hnt (by omega) (by omega) (fun t ht => by
        have := z4 t (by omega) (by omega)
        rw [show 48 * w + 4 * j + t = 4 * (12 * w + j) + t by omega] at this
        exact ⟨fun e => (this.2.1 e).2, this.2.2.2.2⟩) (GO_Mo_said_26 fu) (sl (tW m (12 * w) j) ((i : Int), -9)) (by rw [sl_1]; show -1000000000 < (i : Int) - _ ∧ (i : Int) - _ < 2147483648; omega) nt 0 3000 (by omega) (by omega)
      show GL_Mo_said_26 _ _ _ = _
      unfold GL_Mo_said_26
      rw [sq_n m _ 100 (by decide), e1, gd1 w3, Int.toNat_natCast, sq_n m _ 48 (by decide), hn, p_w1 (x := 12 * (w : Int)) (by omega) (by omega), p_w1 (x := 12 * (w : Int) + (n : Int)) (by omega) (by omega), if_neg (by omega), p_w1 (by omega) (by omega), bi1, show 4 * ((12 * w + j : Nat) : Int) = ((4 * (12 * w + j) + 0 : Nat) : Int) by omega]
      have hT' : GO_Mo_said_51 (GO_Mo_said_26 fu) 3000 ((12 * w + j : Nat) : Int) ((4 * (12 * w + j) + 0 : Nat) : Int) (sq m (sl (tW m (12 * w) j) ((i : Int), -9))) = GO_Mo_said_26 fu ((12 * w + j + 1 : Nat) : Int) (sq m (sl (tR m (12 * w + j)) (sl (tW m (12 * w) j) ((i : Int), -9)))) := hT
      rw [hT', ← sl_app]
      exact ih (j + 1) fu (by omega) (by omega)
  refine ⟨(sl (tW m (12 * w) n) ((i : Int), -9)).2, sq m (sl (tW m (12 * w) n) ((i : Int), -9)), ?_, ?_, h.scr [] [186, 187] (eC.rf _ _) (sq_n m _) rfl rfl, by rw [sq_n m _ 102 (by decide)]⟩
  · rw [sl_2, u5]
    rw [hn, Int.toNat_natCast] at u6 u7 ⊢
    by_cases hi : i < (tW m (12 * w) n).length
    · rw [if_pos (by omega), gd1 (by omega), Int.toNat_natCast, dif_pos hi]
      have := u7 i hi
      rw [List.getElem?_eq_getElem hi] at this
      exact this.symm ▸ rfl
    · rw [if_neg (by omega), dif_neg hi]
  · rw [bi1, bi1, show (wm (wm m 186 0 (i : Int)) 187 0 (-9)) 100 0 = (w : Int) by simp [wm_at, e1], p_w1 (by omega) (by omega), bi1, show 12 * (w : Int) = ((12 * w + 0 : Nat) : Int) by omega]
    exact key n 0 3000 (by omega) (by omega)
