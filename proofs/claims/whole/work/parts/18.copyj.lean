/-! ===== System.arraycopy of longs ===== -/
theorem p_P.cpyJ {K : p_K} {σ : p_Hp} {H H1 : Heap} {a b sp dp n : Nat} (hP : p_P K σ H) (ha : p_is σ a 101) (hb : p_is σ b 101) (h4 : sp + n ≤ p_L σ a) (h5 : dp + n ≤ p_L σ b)
    (e1 : H1[K.1 + b]? = some (arrV (K.2.2.2.1 1) (p_L σ b) (fun j => .long (va_cpy (fun j => Int64.ofInt (p_Z σ a j)) (fun j => Int64.ofInt (p_Z σ b j)) sp dp n j)))) (z : H1.size = H.size) (oq : ∀ x : Nat, x ≠ K.1 + b → H1[x]? = H[x]?) : p_P K (p_cp σ a sp b dp n) H1 := by
  have ho : ∀ c j, c ≠ b → p_Z (p_cp σ a sp b dp n) c j = p_Z σ c j ∧ p_R (p_cp σ a sp b dp n) c j = p_R σ c j := fun c j h => ⟨if_neg (fun w => h w.1), rfl⟩
  refine ⟨by rw [z]; exact hP.1, fun c cj r hc hr => ?_, fun c i ty hc hty => ?_⟩
  · have hcb : c ≠ b := fun w => by
      subst w
      have e : cj = 101 := hc.2.2.symm.trans hb.2.2
      have := p_cl_lt hr
      omega
    obtain ⟨g1, g2⟩ := hP.2.1 c cj r hc hr
    refine ⟨(g1.kept (oq _ (by omega))).to (fun j hj => (p_sl_eq (ho c j hcb).1 (ho c j hcb).2 _).symm), fun j hj => ?_⟩
    rw [(ho c j hcb).1]
    exact g2 j hj
  · obtain ⟨g1, g2, g3⟩ := hP.2.2 c i ty hc hty
    by_cases hcb : c = b
    · subst hcb
      have e : i = 1 := by
        have h : 100 + i = 101 := hc.2.2.symm.trans hb.2.2
        omega
      subst e
      cases hty
      obtain ⟨-, a2, -⟩ := hP.2.2 a 1 .long ha rfl
      refine ⟨?_, fun j hj => ?_, g3⟩
      · rw [e1]
        show some (arrV _ (p_L σ c) _) = some (arrV _ (p_L σ c) _)
        congr 2
        funext j
        show Value.long _ = Value.long (Int64.ofInt (if c = c ∧ dp ≤ j ∧ j < dp + n then p_Z σ a (sp + (j - dp)) else p_Z σ c j))
        unfold va_cpy
        by_cases hj : dp ≤ j ∧ j < dp + n
        · rw [if_pos hj, if_pos ⟨rfl, hj⟩]
        · rw [if_neg hj, if_neg (fun w => hj w.2)]
      · show p_c6 (if c = c ∧ dp ≤ j ∧ j < dp + n then p_Z σ a (sp + (j - dp)) else p_Z σ c j)
        split
        · rename_i w
          exact a2 _ (by omega)
        · exact g2 j hj
    · refine ⟨?_, fun j hj => ?_, g3⟩
      · rw [oq _ (by omega), g1]
        show some (arrV _ (p_L σ c) _) = some (arrV _ (p_L σ c) _)
        congr 2
        funext j
        exact (p_sl_eq (ho c j hcb).1 (ho c j hcb).2 _).symm
      · rw [(ho c j hcb).1]
        exact g2 j hj
section WC
variable {p : Program} {l : Launch} {e : Env} {R : Room} {s : State} {m : MethodId} {args : Array Value} {below : List Frame} {meth : Method} {c : Code} {H : Heap} {locs : List Loc} {cells slots : Nat} {Q : State → Prop}
variable {pc : Nat} {ls : Array Slot} {rest : List Value}
/-- arraycopy over longs, and that all other cells stay -/
theorem p_WcpyJ {cc : ByteArray} (hexec : p.tables.exec = Jvm.exec) (hb : c.code = cc) (hml : c.maxLocals = ls.size) {own : String} {index : Nat} (hown : s.vm.findClass own = some m.cls) (hlink : (Cond.methodLink own index arraycopyName).before args s = true) (hnat : (Cond.native arraycopyName).before args s = true) (hstat : (Cond.static arraycopyName).before args s = true) (hini : (Cond.initialized "java/lang/System").before args s = true)
    {a0 a : Nat} {c0 : ClassId} {n0 n1 : Nat} {f g : Nat → Int64} (hAr : ArrOfT s c0 .long) (hc0 : H[a0]? = some (vp_cell c0 (n0, .inr (.inl f)))) (hc1 : H[a]? = some (vp_cell c0 (n1, .inr (.inl g))))
    {sp dp n : Int32} (h1 : ¬ sp < 0) (h2 : ¬ dp < 0) (h3 : ¬ n < 0) (h4 : sp.toNatClampNeg + n.toNatClampNeg ≤ n0) (h5 : dp.toNatClampNeg + n.toNatClampNeg ≤ n1)
    (hframes : 1 ≤ R.frames) (hlocals : (rest.map fun v => v.category).sum + (nativeFrameWords "java/lang/System" "arraycopy" 5 + 11) ≤ R.locals) (hdg : decode cc pc = .ok (.invokestatic index, 3))
    (kk : ∀ (H1 : Heap) (locs1 : List Loc), H1[a]? = some (vp_cell c0 (n1, .inr (.inl (va_cpy f g sp.toNatClampNeg dp.toNatClampNeg n.toNatClampNeg)))) → H1.size = H.size → (∀ q : Nat, q ≠ a → H1[q]? = H[q]?) → (∀ q ∈ locs1, q ∈ locs ∨ q.base = a) → W p l e R s m args below meth c H1 locs1 cells slots Q (F0 m (pc + 3) ls rest)) : W p l e R s m args below meth c H locs cells slots Q (F0 m pc ls (.int n :: .int dp :: .ref a :: .int sp :: .ref a0 :: rest)) := by
  have nn : ∀ z : Int32, ¬ z < 0 → z.toInt = (z.toNatClampNeg : Int) := by
    intro z hz
    have hz0 : (0 : Int) ≤ z.toInt := by
      have := Int32.not_lt.mp hz
      simpa using Int32.le_iff_toInt_le.mp this
    show z.toInt = ((z.toInt.toNat : Nat) : Int)
    omega
  intro T hT X
  obtain ⟨-, k0, hk0, cm0, hkk0⟩ := hAr n0 (fun j => .long (f j))
  obtain ⟨-, k1, hk1, cm1, hkk1⟩ := hAr n1 (fun j => .long (g j))
  obtain ⟨vm', X', step⟩ := X.arraycopy hexec hown hlink hnat hstat hini (src := a0) (dst := a) (cs := vp_cell c0 (n0, .inr (.inl f))) (cd := vp_cell c0 (n1, .inr (.inl g))) (srcPos := sp) (destPos := dp) (n := n) (by rw [hT]; exact hc0) (by rw [hT]; exact hc1)
    (fun _ h => by cases h) (fun _ h => by cases h) (fun h => by cases h) (fun h => by cases h) hk0 hk1 hkk0 hkk1 (by simp [refKind]) h1 h2 h3
    (by rw [nn sp h1, nn n h3]; show ¬ _ > ((arrV c0 n0 (fun j => .long (f j))).slots.size : Int); rw [arrV_size]; omega)
    (by rw [nn dp h2, nn n h3]; show ¬ _ > ((arrV c0 n1 (fun j => .long (g j))).slots.size : Int); rw [arrV_size]; omega)
    (fun vm₁ _ i hi => by
      have e : (vp_cell c0 (n0, .inr (.inl f))).slots.getD (sp.toNatClampNeg + i) .null = .long (f (sp.toNatClampNeg + i)) := by
        show (arrV c0 n0 (fun j => .long (f j))).slots.getD _ _ = _
        rw [Array.getD_eq_getD_getElem?, arrV_read _ _ (by omega)]
        rfl
      refine ⟨?_, ?_⟩
      · rw [e]
        rfl
      · rw [e]
        exact trivial)
    (g := F0 m pc ls (.int n :: .int dp :: .ref a :: .int sp :: .ref a0 :: rest)) rfl (by rw [hml]) (rest := rest) rfl (by rw [hb]; exact hdg) hframes (by show 2 * 0 + _ + _ ≤ _; omega)
  have e1 : copied (vp_cell c0 (n0, .inr (.inl f))) (vp_cell c0 (n1, .inr (.inl g))) sp dp n = vp_cell c0 (n1, .inr (.inl (va_cpy f g sp.toNatClampNeg dp.toNatClampNeg n.toNatClampNeg))) := va_copied (fun z => .long z) c0 c0 f g h4
  rw [e1] at X' step
  have hl : a < H.size := (Array.getElem?_eq_some_iff.mp hc1).1
  have hheap : ((T.setVm vm').setCell a (vp_cell c0 (n1, .inr (.inl (va_cpy f g sp.toNatClampNeg dp.toNatClampNeg n.toNatClampNeg))))).heap = H.setIfInBounds a (vp_cell c0 (n1, .inr (.inl (va_cpy f g sp.toNatClampNeg dp.toNatClampNeg n.toNatClampNeg)))) := by rw [← hT]; rfl
  have oq : ∀ q : Nat, q ≠ a → (H.setIfInBounds a (vp_cell c0 (n1, .inr (.inl (va_cpy f g sp.toNatClampNeg dp.toNatClampNeg n.toNatClampNeg)))))[q]? = H[q]? := fun q hq => by simp [Array.getElem?_setIfInBounds, Ne.symm hq]
  obtain ⟨t, a1, b1⟩ := kk _ _ (show (H.setIfInBounds a _)[a]? = some _ by simp [Array.getElem?_setIfInBounds, hl]) (by simp) oq (fun q hq => by
      rcases List.mem_append.mp hq with h | h
      · exact Or.inl h
      · obtain ⟨z, -, hz⟩ := List.mem_map.mp h
        exact Or.inr (by rw [← hz])) _ hheap X'
  exact ⟨t, step t a1, b1⟩
end WC
section CR
variable {K : p_K} {l : Launch} {M : p_Me} {pc : Nat} {lv : List (Nat × p_AV)} {st : List p_AV} {σ : p_Hp} {o : Option p_AV × p_Hp}
theorem g_arraycopyJ {a b idx : Nat} {x y n : Int} (hw : Cond.methodLink M.1.cls idx arraycopyName ∈ sw_gw) (hw2 : Cond.native arraycopyName ∈ sw_gw) (hw3 : Cond.static arraycopyName ∈ sw_gw) (hw4 : Cond.initialized "java/lang/System" ∈ sw_gw) (hd : decode M.2.1 pc = .ok (.invokestatic idx, 3)) (hfr : 1 ≤ M.2.2.2.2.1) (hlo : (st.map p_cat).sum + (nativeFrameWords "java/lang/System" "arraycopy" 5 + 11) ≤ M.2.2.2.2.2)
    (ha : p_is σ a 101) (hb : p_is σ b 101) (hx : 0 ≤ x) (hy : 0 ≤ y) (hn : 0 ≤ n) (h4 : x + n ≤ (p_L σ a : Int)) (h5 : y + n ≤ (p_L σ b : Int)) (k9 : p_Go K l M (pc + 3) lv st (p_cp σ a x.toNat b y.toNat n.toNat) o) : p_Go K l M pc lv (p_i n :: p_i y :: p_r b :: p_i x :: p_r a :: st) σ o := by
  refine ⟨k9.1, fun p e s m args below meth c H locs n0 m0 mc ms Q ls C R S g1 g2 g3 g4 hl ol os RT => ?_⟩
  have hts := p_hts C.2.2.2.2.2.1
  have E := C.2.2.2.2.2.2.2.2
  obtain ⟨a1, a2, a3⟩ := R.2.2 a 1 .long ha rfl
  obtain ⟨b1, b2, b3⟩ := R.2.2 b 1 .long hb rfl
  have en := p_nat (n := 1000001) hn (by omega) (by omega)
  have ex := p_nat (n := 1000001) hx (by omega) (by omega)
  have ey := p_nat (n := 1000001) hy (by omega) (by omega)
  have cn : p_c n := ⟨by omega, by omega⟩
  have cx : p_c x := ⟨by omega, by omega⟩
  have cy : p_c y := ⟨by omega, by omega⟩
  have hC0 : H[K.1 + a]? = some (vp_cell (K.2.2.2.1 1) (p_L σ a, .inr (.inl (fun j => Int64.ofInt (p_Z σ a j))))) := a1
  have hC1 : H[K.1 + b]? = some (vp_cell (K.2.2.2.1 1) (p_L σ b, .inr (.inl (fun j => Int64.ofInt (p_Z σ b j))))) := b1
  have hcat : (st.map (p_V K)).map (fun v => v.category) = st.map p_cat := by
    rw [List.map_map]
    apply List.map_congr_left
    intro v _
    exact p_V_cat K v
  show W p l e (p_rm M mc ms) s m args below meth c H locs _ _ Q (F0 m pc ls (p_V K (p_i n) :: p_V K (p_i y) :: p_V K (p_r b) :: p_V K (p_i x) :: p_V K (p_r a) :: st.map (p_V K)))
  rw [p_V_r ha.1, p_V_r hb.1]
  refine p_WcpyJ C.1 C.2.1 (C.2.2.1.trans hl.1.symm) C.2.2.2.2.1 (hts _ hw) (hts _ hw2) (hts _ hw3) (hts _ hw4) (E.2.1 1 .long rfl).1 hC0 hC1 (by rw [p_lt0 cx]; omega) (by rw [p_lt0 cy]; omega) (by rw [p_lt0 cn]; omega) (by rw [ex, en]; omega) (by rw [ey, en]; omega) hfr (by rw [hcat]; exact hlo) hd (fun H1 locs1 e1 z oq hlo1 => ?_)
  rw [ex, ey, en] at e1
  refine k9.2 p e s m args below meth c H1 locs1 n0 m0 mc ms Q ls C (R.cpyJ ha hb (by omega) (by omega) e1 z oq) ⟨by rw [z]; exact S.1, fun q w1 w2 => ?_, fun q hq => ?_⟩ g1 g2 g3 g4 hl ol (p_okt (p_okt (p_okt (p_okt (p_okt os))))) RT
  · rw [oq q (fun w => w2 (by rw [w]; exact (show K.1 < K.1 + b by have := hb.1; omega)))]
    exact S.2.1 q w1 w2
  · rcases hlo1 q hq with w | w
    · exact S.2.2 q w
    · rw [w]
      exact (show K.1 < K.1 + b by have := hb.1; omega)
end CR
