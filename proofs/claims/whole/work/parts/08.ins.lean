/-! THE INSTRUCTIONS, a row each -/
theorem hf_v_ref (G : hf_E) (v : Int) : hf_v G 2 v = if v = 0 then .null else if 0 < v then .ref (G.1.size + (v.toNat - 1)) else .ref (G.2.1 (-v).toNat) := rfl
theorem hf_v2 (G : hf_E) (v : Int) : hf_v G 2 v = .null ∨ ∃ a, hf_v G 2 v = .ref a := by
  rw [hf_v_ref]
  by_cases h0 : v = 0
  · rw [if_pos h0]; exact Or.inl rfl
  · rw [if_neg h0]
    by_cases h1 : 0 < v
    · rw [if_pos h1]; exact Or.inr ⟨_, rfl⟩
    · rw [if_neg h1]; exact Or.inr ⟨_, rfl⟩
theorem hf_cat (G : hf_E) (t : Nat) (v : Int) : (hf_v G t v).category = if t = 1 then 2 else 1 := by
  match t with
  | 0 => rfl
  | 1 => rfl
  | t + 2 =>
    have h : hf_v G (t + 2) v = hf_v G 2 v := rfl
    rw [h, if_neg (by omega)]
    rcases hf_v2 G v with h | ⟨a, h⟩ <;> rw [h] <;> rfl
theorem hf_cat2 (G : hf_E) (t : Nat) (v : Int) : ((hf_v G t v).category == 2) = (t == 1) := by
  rw [hf_cat]
  by_cases h : t = 1 <;> simp [h]
theorem hf_filter1 (G : hf_E) (lv : List (Nat × Nat × Int)) (i : Nat) : (lv.map (hf_y G)).filter (fun q => !(q.1 == i) && !(q.1 + 1 == i && q.2.category == 2)) = (lv.filter (fun q => !(q.1 == i) && !(q.1 + 1 == i && q.2.1 == 1))).map (hf_y G) := by
  rw [List.filter_map]
  congr 1
  apply List.filter_congr
  intro x _
  simp only [Function.comp, hf_y, hf_cat2]
theorem hf_filter2 (G : hf_E) (lv : List (Nat × Nat × Int)) (i : Nat) : (lv.map (hf_y G)).filter (fun q => !(q.1 == i) && (!(q.1 == i + 1) && !(q.1 + 1 == i && q.2.category == 2))) = (lv.filter (fun q => !(q.1 == i) && (!(q.1 == i + 1) && !(q.1 + 1 == i && q.2.1 == 1)))).map (hf_y G) := by
  rw [List.filter_map]
  congr 1
  apply List.filter_congr
  intro x _
  simp only [Function.comp, hf_y, hf_cat2]
/-- the locals behind a store -/
abbrev hf_s1 (lv : List (Nat × Nat × Int)) (i t : Nat) (x : Int) : List (Nat × Nat × Int) := (i, t, x) :: lv.filter (fun q => !(q.1 == i) && !(q.1 + 1 == i && q.2.1 == 1))
abbrev hf_s2 (lv : List (Nat × Nat × Int)) (i : Nat) (x : Int) : List (Nat × Nat × Int) := (i, 1, x) :: lv.filter (fun q => !(q.1 == i) && (!(q.1 == i + 1) && !(q.1 + 1 == i && q.2.1 == 1)))
theorem hf_inI_min {a : Int} (h : hf_inI a) : Int32.minValue.toInt ≤ a := h.1
theorem hf_inI_max {a : Int} (h : hf_inI a) : a ≤ Int32.maxValue.toInt := h.2
theorem hf_toInt {a : Int} (h : hf_inI a) : (Int32.ofInt a).toInt = a := Int32.toInt_ofInt_of_le (by have := h.1; omega) (by have := h.2; omega)
theorem hf_toIntL {a : Int} (h : hf_inL a) : (Int64.ofInt a).toInt = a := Int64.toInt_ofInt_of_le (by have := h.1; omega) (by have := h.2; omega)
theorem hf_eqI {a b : Int} (ha : hf_inI a) (hb : hf_inI b) : Int32.ofInt a = Int32.ofInt b ↔ a = b := by
  rw [← Int32.toInt_inj, hf_toInt ha, hf_toInt hb]
theorem hf_leI {a b : Int} (ha : hf_inI a) (hb : hf_inI b) : Int32.ofInt a ≤ Int32.ofInt b ↔ a ≤ b := by
  rw [Int32.le_iff_toInt_le, hf_toInt ha, hf_toInt hb]
theorem hf_ltI {a b : Int} (ha : hf_inI a) (hb : hf_inI b) : Int32.ofInt a < Int32.ofInt b ↔ a < b := by
  rw [Int32.lt_iff_toInt_lt, hf_toInt ha, hf_toInt hb]
theorem hf_eq0 {a : Int} (ha : hf_inI a) : Int32.ofInt a = 0 ↔ a = 0 := hf_eqI (b := 0) ha (by decide)
theorem hf_le0 {a : Int} (ha : hf_inI a) : Int32.ofInt a ≤ 0 ↔ a ≤ 0 := hf_leI (b := 0) ha (by decide)
theorem hf_lt0 {a : Int} (ha : hf_inI a) : Int32.ofInt a < 0 ↔ a < 0 := hf_ltI (b := 0) ha (by decide)
theorem hf_0le {a : Int} (ha : hf_inI a) : 0 ≤ Int32.ofInt a ↔ 0 ≤ a := hf_leI (a := 0) (by decide) ha
theorem hf_0lt {a : Int} (ha : hf_inI a) : 0 < Int32.ofInt a ↔ 0 < a := hf_ltI (a := 0) (by decide) ha
section HFI
variable {M : hf_D} {pc : Nat} {lv lv' : List (Nat × Nat × Int)} {st : List (Nat × Int)} {k k1 k2 : hf_M Int}
theorem hf_iconst {n : Int} (hdg : decode M.2.1 pc = .ok (.iconst n, 1)) (h : hf_J M (pc + 1) lv ((0, n) :: st) k) : hf_J M pc lv st k :=
  hf_stp (fun p l e R s m args below meth c H locs ls cells slots Q G hx hb _ _ w => lv_iconst hx hb hdg rfl w) h
theorem hf_bipush {n : Int} (hdg : decode M.2.1 pc = .ok (.bipush n, 2)) (hv : (Int8.ofInt n).toInt32 = Int32.ofInt n) (h : hf_J M (pc + 2) lv ((0, n) :: st) k) : hf_J M pc lv st k :=
  hf_stp (fun p l e R s m args below meth c H locs ls cells slots Q G hx hb _ _ w => lv_bipush hx hb hdg hv w) h
theorem hf_sipush {n : Int} (hdg : decode M.2.1 pc = .ok (.sipush n, 3)) (hv : (Int16.ofInt n).toInt32 = Int32.ofInt n) (h : hf_J M (pc + 3) lv ((0, n) :: st) k) : hf_J M pc lv st k :=
  hf_stp (fun p l e R s m args below meth c H locs ls cells slots Q G hx hb _ _ w => lv_sipush hx hb hdg hv w) h
theorem hf_lconst {n : Fin 2} {v : Int} (hdg : decode M.2.1 pc = .ok (.lconst n, 1)) (hv : Int64.ofNat (n : Nat) = Int64.ofInt v) (h : hf_J M (pc + 1) lv ((1, v) :: st) k) : hf_J M pc lv st k :=
  hf_stp (fun p l e R s m args below meth c H locs ls cells slots Q G hx hb _ _ w => lv_lconst hx hb hdg hv w) h
theorem hf_ldc {i : Nat} {n : Int} {v : Int32} (hc : Cond.constant M.1.cls i v ∈ hf_all) (hv : Int32.ofInt n = v) (hdg : decode M.2.1 pc = .ok (.ldc i, 2)) (h : hf_J M (pc + 2) lv ((0, n) :: st) k) : hf_J M pc lv st k :=
  hf_stp (fun p l e R s m args below meth c H locs ls cells slots Q G hx hb ho hts w => lv_ldc hx hb ho (hts _ hc) hdg (by subst hv; exact w)) h
theorem hf_ldc2 {i : Nat} {n : Int} {v : Int64} (hc : Cond.constantLong M.1.cls i v ∈ hf_all) (hv : Int64.ofInt n = v) (hdg : decode M.2.1 pc = .ok (.ldc2_w i, 3)) (h : hf_J M (pc + 3) lv ((1, n) :: st) k) : hf_J M pc lv st k :=
  hf_stp (fun p l e R s m args below meth c H locs ls cells slots Q G hx hb ho hts w => lv_ldc2 hx hb ho (hts _ hc) hdg (by subst hv; exact w)) h
theorem hf_ldcw {i : Nat} {n : Int} {v : Int32} (hc : Cond.constant M.1.cls i v ∈ hf_all) (hv : Int32.ofInt n = v) (hdg : decode M.2.1 pc = .ok (.ldc_w i, 3)) (h : hf_J M (pc + 3) lv ((0, n) :: st) k) : hf_J M pc lv st k :=
  hf_stp (fun p l e R s m args below meth c H locs ls cells slots Q G hx hb ho hts w => lv_ldcw hx hb ho (hts _ hc) hdg (by subst hv; exact w)) h
theorem hf_at {G : hf_E} {ls : Array Slot} {n q i t : Nat} {x : Int} (hl : lv_has ls n (lv.map (hf_y G))) (hq : lv[q]? = some (i, t, x)) : ls[i]? = some (.val (hf_v G t x)) :=
  lv_at hl q (by rw [List.getElem?_map, hq]; rfl)
theorem hf_ild_n {kk : Fin 4} {i : Nat} {x : Int} (q : Nat) (hq : lv[q]? = some (i, 0, x)) (hi : (kk : Nat) = i) (hdg : decode M.2.1 pc = .ok (.iload_n kk, 1)) (h : hf_J M (pc + 1) lv ((0, x) :: st) k) : hf_J M pc lv st k := by
  intro p l e R s m args below meth c G n0 s0 C H locs ls σ σ' r cells slots Q hP hL hl hk hret
  exact lv_iload_n C.1 C.2.1 hdg hi (hf_at hl hq) (h p l e R s m args below meth c G n0 s0 C H locs ls σ σ' r cells slots Q hP hL hl hk hret)
theorem hf_ild {i : Nat} {x : Int} (q : Nat) (hq : lv[q]? = some (i, 0, x)) (hdg : decode M.2.1 pc = .ok (.iload i, 2)) (h : hf_J M (pc + 2) lv ((0, x) :: st) k) : hf_J M pc lv st k := by
  intro p l e R s m args below meth c G n0 s0 C H locs ls σ σ' r cells slots Q hP hL hl hk hret
  exact lv_iload C.1 C.2.1 hdg (hf_at hl hq) (h p l e R s m args below meth c G n0 s0 C H locs ls σ σ' r cells slots Q hP hL hl hk hret)
theorem hf_lld_n {kk : Fin 4} {i : Nat} {x : Int} (q : Nat) (hq : lv[q]? = some (i, 1, x)) (hi : (kk : Nat) = i) (hdg : decode M.2.1 pc = .ok (.lload_n kk, 1)) (h : hf_J M (pc + 1) lv ((1, x) :: st) k) : hf_J M pc lv st k := by
  intro p l e R s m args below meth c G n0 s0 C H locs ls σ σ' r cells slots Q hP hL hl hk hret
  exact lv_lload_n C.1 C.2.1 hdg hi (hf_at hl hq) (h p l e R s m args below meth c G n0 s0 C H locs ls σ σ' r cells slots Q hP hL hl hk hret)
theorem hf_lld {i : Nat} {x : Int} (q : Nat) (hq : lv[q]? = some (i, 1, x)) (hdg : decode M.2.1 pc = .ok (.lload i, 2)) (h : hf_J M (pc + 2) lv ((1, x) :: st) k) : hf_J M pc lv st k := by
  intro p l e R s m args below meth c G n0 s0 C H locs ls σ σ' r cells slots Q hP hL hl hk hret
  exact lv_lload C.1 C.2.1 hdg (hf_at hl hq) (h p l e R s m args below meth c G n0 s0 C H locs ls σ σ' r cells slots Q hP hL hl hk hret)
theorem hf_ald_n {kk : Fin 4} {i : Nat} {x : Int} (q : Nat) (hq : lv[q]? = some (i, 2, x)) (hi : (kk : Nat) = i) (hdg : decode M.2.1 pc = .ok (.aload_n kk, 1)) (h : hf_J M (pc + 1) lv ((2, x) :: st) k) : hf_J M pc lv st k := by
  intro p l e R s m args below meth c G n0 s0 C H locs ls σ σ' r cells slots Q hP hL hl hk hret
  have w := h p l e R s m args below meth c G n0 s0 C H locs ls σ σ' r cells slots Q hP hL hl hk hret
  have ha := hf_at hl hq
  rw [List.map_cons] at w
  change W p l e R s m args below meth c H locs cells slots Q (F0 m (pc + 1) ls (hf_v G 2 x :: st.map (hf_w G))) at w
  rcases hf_v2 G x with hv | ⟨a, hv⟩
  · rw [hv] at w ha; exact lv_aload_nN C.1 C.2.1 hdg hi ha w
  · rw [hv] at w ha; exact lv_aload_n C.1 C.2.1 hdg hi ha w
theorem hf_ald {i : Nat} {x : Int} (q : Nat) (hq : lv[q]? = some (i, 2, x)) (hdg : decode M.2.1 pc = .ok (.aload i, 2)) (h : hf_J M (pc + 2) lv ((2, x) :: st) k) : hf_J M pc lv st k := by
  intro p l e R s m args below meth c G n0 s0 C H locs ls σ σ' r cells slots Q hP hL hl hk hret
  have w := h p l e R s m args below meth c G n0 s0 C H locs ls σ σ' r cells slots Q hP hL hl hk hret
  have ha := hf_at hl hq
  rw [List.map_cons] at w
  change W p l e R s m args below meth c H locs cells slots Q (F0 m (pc + 2) ls (hf_v G 2 x :: st.map (hf_w G))) at w
  rcases hf_v2 G x with hv | ⟨a, hv⟩
  · rw [hv] at w ha; exact lv_aloadN C.1 C.2.1 hdg ha w
  · rw [hv] at w ha; exact lv_aload C.1 C.2.1 hdg ha w
theorem hf_ist_n {kk : Fin 4} {i : Nat} {x : Int} (hi : (kk : Nat) = i) (hn : i < M.2.2.1) (hs : hf_s1 lv i 0 x = lv') (hdg : decode M.2.1 pc = .ok (.istore_n kk, 1)) (h : hf_J M (pc + 1) lv' st k) : hf_J M pc lv ((0, x) :: st) k := by
  intro p l e R s m args below meth c G n0 s0 C H locs ls σ σ' r cells slots Q hP hL hl hk hret
  refine lv_istore_n (lv' := lv'.map (hf_y G)) C.1 C.2.1 hdg hi hl hn (by rw [hf_filter1, ← hs]; rfl) (fun ls' hl' => ?_)
  exact h p l e R s m args below meth c G n0 s0 C H locs ls' σ σ' r cells slots Q hP hL hl' hk hret
theorem hf_ist {i : Nat} {x : Int} (hn : i < M.2.2.1) (hs : hf_s1 lv i 0 x = lv') (hdg : decode M.2.1 pc = .ok (.istore i, 2)) (h : hf_J M (pc + 2) lv' st k) : hf_J M pc lv ((0, x) :: st) k := by
  intro p l e R s m args below meth c G n0 s0 C H locs ls σ σ' r cells slots Q hP hL hl hk hret
  refine lv_istore (lv' := lv'.map (hf_y G)) C.1 C.2.1 hdg hl hn (by rw [hf_filter1, ← hs]; rfl) (fun ls' hl' => ?_)
  exact h p l e R s m args below meth c G n0 s0 C H locs ls' σ σ' r cells slots Q hP hL hl' hk hret
theorem hf_lst_n {kk : Fin 4} {i : Nat} {x : Int} (hi : (kk : Nat) = i) (hn : i + 1 < M.2.2.1) (hs : hf_s2 lv i x = lv') (hdg : decode M.2.1 pc = .ok (.lstore_n kk, 1)) (h : hf_J M (pc + 1) lv' st k) : hf_J M pc lv ((1, x) :: st) k := by
  intro p l e R s m args below meth c G n0 s0 C H locs ls σ σ' r cells slots Q hP hL hl hk hret
  refine lv_lstore_n (lv' := lv'.map (hf_y G)) C.1 C.2.1 hdg hi hl hn (by rw [hf_filter2, ← hs]; rfl) (fun ls' hl' => ?_)
  exact h p l e R s m args below meth c G n0 s0 C H locs ls' σ σ' r cells slots Q hP hL hl' hk hret
theorem hf_lst {i : Nat} {x : Int} (hn : i + 1 < M.2.2.1) (hs : hf_s2 lv i x = lv') (hdg : decode M.2.1 pc = .ok (.lstore i, 2)) (h : hf_J M (pc + 2) lv' st k) : hf_J M pc lv ((1, x) :: st) k := by
  intro p l e R s m args below meth c G n0 s0 C H locs ls σ σ' r cells slots Q hP hL hl hk hret
  refine lv_lstore (lv' := lv'.map (hf_y G)) C.1 C.2.1 hdg hl hn (by rw [hf_filter2, ← hs]; rfl) (fun ls' hl' => ?_)
  exact h p l e R s m args below meth c G n0 s0 C H locs ls' σ σ' r cells slots Q hP hL hl' hk hret
theorem hf_ast_n {kk : Fin 4} {i : Nat} {x : Int} (hi : (kk : Nat) = i) (hn : i < M.2.2.1) (hs : hf_s1 lv i 2 x = lv') (hdg : decode M.2.1 pc = .ok (.astore_n kk, 1)) (h : hf_J M (pc + 1) lv' st k) : hf_J M pc lv ((2, x) :: st) k := by
  intro p l e R s m args below meth c G n0 s0 C H locs ls σ σ' r cells slots Q hP hL hl hk hret
  show W p l e R s m args below meth c H locs cells slots Q (F0 m pc ls (hf_v G 2 x :: st.map (hf_w G)))
  have hs2 : (i, hf_v G 2 x) :: (lv.map (hf_y G)).filter (fun q => !(q.1 == i) && !(q.1 + 1 == i && q.2.category == 2)) = lv'.map (hf_y G) := by rw [hf_filter1, ← hs]; rfl
  have w := fun ls' hl' => h p l e R s m args below meth c G n0 s0 C H locs ls' σ σ' r cells slots Q hP hL hl' hk hret
  rcases hf_v2 G x with hv | ⟨a, hv⟩
  · rw [hv] at hs2 ⊢; exact lv_astore_nN C.1 C.2.1 hdg hi hl hn hs2 w
  · rw [hv] at hs2 ⊢; exact lv_astore_n C.1 C.2.1 hdg hi hl hn hs2 w
theorem hf_ast {i : Nat} {x : Int} (hn : i < M.2.2.1) (hs : hf_s1 lv i 2 x = lv') (hdg : decode M.2.1 pc = .ok (.astore i, 2)) (h : hf_J M (pc + 2) lv' st k) : hf_J M pc lv ((2, x) :: st) k := by
  intro p l e R s m args below meth c G n0 s0 C H locs ls σ σ' r cells slots Q hP hL hl hk hret
  show W p l e R s m args below meth c H locs cells slots Q (F0 m pc ls (hf_v G 2 x :: st.map (hf_w G)))
  have hs2 : (i, hf_v G 2 x) :: (lv.map (hf_y G)).filter (fun q => !(q.1 == i) && !(q.1 + 1 == i && q.2.category == 2)) = lv'.map (hf_y G) := by rw [hf_filter1, ← hs]; rfl
  have w := fun ls' hl' => h p l e R s m args below meth c G n0 s0 C H locs ls' σ σ' r cells slots Q hP hL hl' hk hret
  rcases hf_v2 G x with hv | ⟨a, hv⟩
  · rw [hv] at hs2 ⊢; exact lv_astoreN C.1 C.2.1 hdg hl hn hs2 w
  · rw [hv] at hs2 ⊢; exact lv_astore C.1 C.2.1 hdg hl hn hs2 w
theorem hf_iinc {i q : Nat} {n x y : Int} (hq : lv[q]? = some (i, 0, x)) (hn : i < M.2.2.1) (hy : y = x + n) (hs : hf_s1 lv i 0 y = lv') (hdg : decode M.2.1 pc = .ok (.iinc i n, 3)) (h : hf_J M (pc + 3) lv' st k) : hf_J M pc lv st k := by
  intro p l e R s m args below meth c G n0 s0 C H locs ls σ σ' r cells slots Q hP hL hl hk hret
  refine lv_iinc (k := q) (v := Int32.ofInt y) (lv' := lv'.map (hf_y G)) C.1 C.2.1 hdg hl (by rw [List.getElem?_map, hq]; rfl) (by rw [hy, Int32.ofInt_add]) hn (by rw [hf_filter1, ← hs]; rfl) (fun ls' hl' => ?_)
  exact h p l e R s m args below meth c G n0 s0 C H locs ls' σ σ' r cells slots Q hP hL hl' hk hret
theorem hf_iadd {x y : Int} (hdg : decode M.2.1 pc = .ok (.iadd, 1)) (h : hf_J M (pc + 1) lv ((0, x + y) :: st) k) : hf_J M pc lv ((0, y) :: (0, x) :: st) k :=
  hf_stp (fun p l e R s m args below meth c H locs ls cells slots Q G hx hb _ _ w => lv_iadd hx hb hdg (by rw [← Int32.ofInt_add]; exact w)) h
theorem hf_isub {x y : Int} (hdg : decode M.2.1 pc = .ok (.isub, 1)) (h : hf_J M (pc + 1) lv ((0, x - y) :: st) k) : hf_J M pc lv ((0, y) :: (0, x) :: st) k :=
  hf_stp (fun p l e R s m args below meth c H locs ls cells slots Q G hx hb _ _ w => lv_isub hx hb hdg (by rw [← Int32.ofInt_sub]; exact w)) h
theorem hf_imul {x y : Int} (hdg : decode M.2.1 pc = .ok (.imul, 1)) (h : hf_J M (pc + 1) lv ((0, x * y) :: st) k) : hf_J M pc lv ((0, y) :: (0, x) :: st) k :=
  hf_stp (fun p l e R s m args below meth c H locs ls cells slots Q G hx hb _ _ w => lv_imul hx hb hdg (by rw [← Int32.ofInt_mul]; exact w)) h
theorem hf_ineg {x : Int} (hdg : decode M.2.1 pc = .ok (.ineg, 1)) (h : hf_J M (pc + 1) lv ((0, -x) :: st) k) : hf_J M pc lv ((0, x) :: st) k :=
  hf_stp (fun p l e R s m args below meth c H locs ls cells slots Q G hx hb _ _ w => lv_ineg hx hb hdg (by rw [← Int32.ofInt_neg]; exact w)) h
theorem hf_ladd {x y : Int} (hdg : decode M.2.1 pc = .ok (.ladd, 1)) (h : hf_J M (pc + 1) lv ((1, x + y) :: st) k) : hf_J M pc lv ((1, y) :: (1, x) :: st) k :=
  hf_stp (fun p l e R s m args below meth c H locs ls cells slots Q G hx hb _ _ w => lv_ladd hx hb hdg (by rw [← Int64.ofInt_add]; exact w)) h
theorem hf_lsub {x y : Int} (hdg : decode M.2.1 pc = .ok (.lsub, 1)) (h : hf_J M (pc + 1) lv ((1, x - y) :: st) k) : hf_J M pc lv ((1, y) :: (1, x) :: st) k :=
  hf_stp (fun p l e R s m args below meth c H locs ls cells slots Q G hx hb _ _ w => lv_lsub hx hb hdg (by rw [← Int64.ofInt_sub]; exact w)) h
theorem hf_lmul {x y : Int} (hdg : decode M.2.1 pc = .ok (.lmul, 1)) (h : hf_J M (pc + 1) lv ((1, x * y) :: st) k) : hf_J M pc lv ((1, y) :: (1, x) :: st) k :=
  hf_stp (fun p l e R s m args below meth c H locs ls cells slots Q G hx hb _ _ w => lv_lmul hx hb hdg (by rw [← Int64.ofInt_mul]; exact w)) h
theorem hf_lneg {x : Int} (hdg : decode M.2.1 pc = .ok (.lneg, 1)) (h : hf_J M (pc + 1) lv ((1, -x) :: st) k) : hf_J M pc lv ((1, x) :: st) k :=
  hf_stp (fun p l e R s m args below meth c H locs ls cells slots Q G hx hb _ _ w => lv_lneg hx hb hdg (by rw [← Int64.ofInt_neg]; exact w)) h
theorem hf_iand {x y : Int} (hdg : decode M.2.1 pc = .ok (.iand, 1)) (h : hf_J M (pc + 1) lv ((0, hf_and x y) :: st) k) : hf_J M pc lv ((0, y) :: (0, x) :: st) k :=
  hf_stp (fun p l e R s m args below meth c H locs ls cells slots Q G hx hb _ _ w => lv_iand hx hb hdg (by rw [← Int32.ofInt_toInt (Int32.ofInt x &&& Int32.ofInt y)]; exact w)) h
theorem hf_ior {x y : Int} (hdg : decode M.2.1 pc = .ok (.ior, 1)) (h : hf_J M (pc + 1) lv ((0, hf_or x y) :: st) k) : hf_J M pc lv ((0, y) :: (0, x) :: st) k :=
  hf_stp (fun p l e R s m args below meth c H locs ls cells slots Q G hx hb _ _ w => lv_ior hx hb hdg (by rw [← Int32.ofInt_toInt (Int32.ofInt x ||| Int32.ofInt y)]; exact w)) h
theorem hf_ishl {x y : Int} (hdg : decode M.2.1 pc = .ok (.ishl, 1)) (h : hf_J M (pc + 1) lv ((0, hf_shl x y) :: st) k) : hf_J M pc lv ((0, y) :: (0, x) :: st) k :=
  hf_stp (fun p l e R s m args below meth c H locs ls cells slots Q G hx hb _ _ w => lv_ishl hx hb hdg (by rw [← Int32.ofInt_toInt (Int32.ofInt x <<< (Int32.ofInt y &&& 31))]; exact w)) h
theorem hf_ishr {x y : Int} (hdg : decode M.2.1 pc = .ok (.ishr, 1)) (h : hf_J M (pc + 1) lv ((0, hf_shr x y) :: st) k) : hf_J M pc lv ((0, y) :: (0, x) :: st) k :=
  hf_stp (fun p l e R s m args below meth c H locs ls cells slots Q G hx hb _ _ w => lv_ishr hx hb hdg (by rw [← Int32.ofInt_toInt (Int32.ofInt x >>> (Int32.ofInt y &&& 31))]; exact w)) h
theorem hf_iushr {x y : Int} (hdg : decode M.2.1 pc = .ok (.iushr, 1)) (h : hf_J M (pc + 1) lv ((0, hf_ushr x y) :: st) k) : hf_J M pc lv ((0, y) :: (0, x) :: st) k :=
  hf_stp (fun p l e R s m args below meth c H locs ls cells slots Q G hx hb _ _ w => lv_iushr (v := Int32.ofInt (hf_ushr x y)) hx hb hdg (by rw [hf_ushr, Int32.ofInt_toInt]) w) h
theorem hf_land {x y : Int} (hdg : decode M.2.1 pc = .ok (.land, 1)) (h : hf_J M (pc + 1) lv ((1, hf_andl x y) :: st) k) : hf_J M pc lv ((1, y) :: (1, x) :: st) k :=
  hf_stp (fun p l e R s m args below meth c H locs ls cells slots Q G hx hb _ _ w => lv_land hx hb hdg (by rw [← Int64.ofInt_toInt (Int64.ofInt x &&& Int64.ofInt y)]; exact w)) h
theorem hf_ii2b {x : Int} (hdg : decode M.2.1 pc = .ok (.i2b, 1)) (h : hf_J M (pc + 1) lv ((0, hf_i2b x) :: st) k) : hf_J M pc lv ((0, x) :: st) k :=
  hf_stp (fun p l e R s m args below meth c H locs ls cells slots Q G hx hb _ _ w => lv_i2b (v := Int32.ofInt (hf_i2b x)) hx hb hdg (by rw [hf_i2b, Int32.ofInt_toInt]) w) h
theorem hf_l2i {x : Int} (hdg : decode M.2.1 pc = .ok (.l2i, 1)) (h : hf_J M (pc + 1) lv ((0, x) :: st) k) : hf_J M pc lv ((1, x) :: st) k :=
  hf_stp (fun p l e R s m args below meth c H locs ls cells slots Q G hx hb _ _ w => lv_l2i (v := Int32.ofInt x) hx hb hdg Int64.toInt32_ofInt w) h
theorem hf_i2l {x : Int} (hdg : decode M.2.1 pc = .ok (.i2l, 1)) (h : hf_J M (pc + 1) lv ((1, x) :: st) k) : hf_J M pc lv ((0, x) :: st) (hf_ck (hf_inI x) k) :=
  hf_Jck (fun hx0 => hf_stp (fun p l e R s m args below meth c H locs ls cells slots Q G hx hb _ _ w => lv_i2l (v := Int64.ofInt x) hx hb hdg (Int32.toInt64_ofInt (hf_inI_min hx0) (hf_inI_max hx0)) w) h)
theorem hf_dup {t : Nat} {x : Int} (ht : t ≠ 1) (hdg : decode M.2.1 pc = .ok (.dup, 1)) (h : hf_J M (pc + 1) lv ((t, x) :: (t, x) :: st) k) : hf_J M pc lv ((t, x) :: st) k :=
  hf_stp (fun p l e R s m args below meth c H locs ls cells slots Q G hx hb _ _ w => lv_dup (va := hf_v G t x) hx hb hdg (by rw [hf_cat, if_neg ht]) w) h
theorem hf_pop {t : Nat} {x : Int} (ht : t ≠ 1) (hdg : decode M.2.1 pc = .ok (.pop, 1)) (h : hf_J M (pc + 1) lv st k) : hf_J M pc lv ((t, x) :: st) k :=
  hf_stp (fun p l e R s m args below meth c H locs ls cells slots Q G hx hb _ _ w => lv_pop (va := hf_v G t x) hx hb hdg (by rw [hf_cat, if_neg ht]) w) h
theorem hf_dup2 {t u : Nat} {x y : Int} (ht : t ≠ 1) (hu : u ≠ 1) (hdg : decode M.2.1 pc = .ok (.dup2, 1)) (h : hf_J M (pc + 1) lv ((t, x) :: (u, y) :: (t, x) :: (u, y) :: st) k) : hf_J M pc lv ((t, x) :: (u, y) :: st) k :=
  hf_stp (fun p l e R s m args below meth c H locs ls cells slots Q G hx hb _ _ w => lv_dup2_11 (va := hf_v G t x) (vb := hf_v G u y) hx hb hdg (by rw [hf_cat, if_neg ht]) (by rw [hf_cat, if_neg hu]) w) h
theorem hf_goto {off : Int} (tgt : Nat) (hdg : decode M.2.1 pc = .ok (.goto off, 3)) (ht : (pc : Int) + off = (tgt : Int)) (h : hf_J M tgt lv st k) : hf_J M pc lv st k :=
  hf_stp (fun p l e R s m args below meth c H locs ls cells slots Q G hx hb _ _ w => lv_goto hx hb hdg ht w) h
end HFI
