/-! ===== rows: constants, locals, the stack, numbers ===== -/
section PR
variable {K : p_K} {l : Launch} {M : p_Me} {pc : Nat} {lv : List (Nat × p_AV)} {st : List p_AV} {σ : p_Hp} {o : Option p_AV × p_Hp}
theorem g_iconst {n : Int} (hd : decode M.2.1 pc = .ok (.iconst n, 1)) (hn : p_c n) (k : p_Go K l M (pc + 1) lv (p_i n :: st) σ o) : p_Go K l M pc lv st σ o :=
  ⟨k.1, fun p e s m args below meth c H locs n0 m0 mc ms Q ls C R S h1 h2 h3 h4 hl ol os RT => lv_iconst C.1 C.2.1 hd rfl (k.2 p e s m args below meth c H locs n0 m0 mc ms Q ls C R S h1 h2 h3 h4 hl ol (p_ok2 hn os) RT)⟩
theorem g_iload {i j : Nat} {x : Int} (hd : decode M.2.1 pc = .ok (.iload i, 2)) (hj : lv[j]? = some (i, p_i x)) (k : p_Go K l M (pc + 2) lv (p_i x :: st) σ o) : p_Go K l M pc lv st σ o :=
  ⟨k.1, fun p e s m args below meth c H locs n0 m0 mc ms Q ls C R S h1 h2 h3 h4 hl ol os RT => lv_iload C.1 C.2.1 hd (p_at hl hj) (k.2 p e s m args below meth c H locs n0 m0 mc ms Q ls C R S h1 h2 h3 h4 hl ol (p_ok2 (p_okat ol hj) os) RT)⟩
end PR
