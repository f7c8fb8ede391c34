/-! HighFallLaw.look: it calls HighFall.look and catches -/
def M_L_look : hf_D := (yL_look, cL_look, 5, some .int, 7, 104)
def hf_lk (x p0 p1 : Int) (K : Int → hf_M Int) (KA KB : hf_M Int) : hf_M Int := fun σ => if hf_is σ 11 x then (match f_look_n x p0 p1 σ with
  | some z => K z.1 z.2
  | none => match f_look_x x p0 p1 σ with
    | some z => if z.2.1 = σ.1 ∧ hf_sl z.2 = hf_sl σ ∧ z.2.1 + 1 ≤ hf_cc ∧ hf_sl z.2 + 6 ≤ hf_cs then (if z.1 = 11 then KA (hx_σ z.2) else KB (hx_σ z.2)) else none
    | none => none) else none
theorem hf_lk_some {x p0 p1 : Int} {K : Int → hf_M Int} {KA KB : hf_M Int} {σ : hf_S} {y : Int × hf_S} (h : hf_lk x p0 p1 K KA KB σ = some y) : hf_is σ 11 x ∧ ((∃ v σ1, f_look_n x p0 p1 σ = some (v, σ1) ∧ K v σ1 = some y) ∨ ∃ v σ1, f_look_x x p0 p1 σ = some (v, σ1) ∧ (σ1.1 = σ.1 ∧ hf_sl σ1 = hf_sl σ ∧ σ1.1 + 1 ≤ hf_cc ∧ hf_sl σ1 + 6 ≤ hf_cs) ∧ (if v = 11 then KA (hx_σ σ1) else KB (hx_σ σ1)) = some y) := by
  unfold hf_lk at h
  by_cases hi : hf_is σ 11 x
  · rw [if_pos hi] at h
    refine ⟨hi, ?_⟩
    cases hn : f_look_n x p0 p1 σ with
    | some z => rw [hn] at h; exact Or.inl ⟨z.1, z.2, rfl, h⟩
    | none =>
      rw [hn] at h
      cases hxx : f_look_x x p0 p1 σ with
      | none => rw [hxx] at h; cases h
      | some z =>
        rw [hxx] at h
        refine Or.inr ⟨z.1, z.2, rfl, ?_⟩
        have h : (if z.2.1 = σ.1 ∧ hf_sl z.2 = hf_sl σ ∧ z.2.1 + 1 ≤ hf_cc ∧ hf_sl z.2 + 6 ≤ hf_cs then (if z.1 = 11 then KA (hx_σ z.2) else KB (hx_σ z.2)) else none) = some y := h
        by_cases hc : z.2.1 = σ.1 ∧ hf_sl z.2 = hf_sl σ ∧ z.2.1 + 1 ≤ hf_cc ∧ hf_sl z.2 + 6 ≤ hf_cs
        · rw [if_pos hc] at h; exact ⟨hc, h⟩
        · rw [if_neg hc] at h; cases h
  · rw [if_neg hi] at h; cases h
theorem hf_tab2 {L : List ExceptionTableEntry} (h : L.map (fun h => (h.startPc, h.endPc, h.handlerPc, h.catchType)) = hf_ltab) : ∃ a b : ExceptionTableEntry, L = [a, b] ∧ (a.startPc = 0 ∧ a.endPc = 10 ∧ a.handlerPc = 13 ∧ a.catchType = 13) ∧ (b.startPc = 0 ∧ b.endPc = 10 ∧ b.handlerPc = 17 ∧ b.catchType = 15) := by
  match L, h with
  | [a, b], h =>
    simp only [List.map_cons, List.map_nil, hf_ltab, List.cons.injEq, Prod.mk.injEq, and_true] at h
    exact ⟨a, b, rfl, ⟨h.1.1, h.1.2.1, h.1.2.2.1, h.1.2.2.2⟩, ⟨h.2.1, h.2.2.1, h.2.2.2.1, h.2.2.2.2⟩⟩
  | [], h => simp [hf_ltab] at h
  | [a], h => simp [hf_ltab] at h
  | a :: b :: c :: r, h => simp [hf_ltab] at h
theorem hf_lkJ {x p0 p1 out : Int} {K : Int → hf_M Int} {KA KB : hf_M Int} (hN : ∀ v, hf_J M_L_look 8 [(0, 2, x), (1, 0, p0), (2, 0, p1), (3, 2, out)] [(0, v), (0, 0), (2, out)] (K v)) (hA : hf_J M_L_look 15 [(0, 2, x), (1, 0, p0), (2, 0, p1), (3, 2, out)] [] KA) (hB : hf_J M_L_look 19 [(0, 2, x), (1, 0, p0), (2, 0, p1), (3, 2, out)] [] KB) :
    hf_J M_L_look 5 [(0, 2, x), (1, 0, p0), (2, 0, p1), (3, 2, out)] [(0, p1), (0, p0), (2, x), (0, 0), (2, out)] (hf_lk x p0 p1 K KA KB) := by
  intro p l e R s m args below meth c G n0 s0 C H locs ls σ σ' r cells slots Q hP hL hlv hk hret
  obtain ⟨hi, hk⟩ := hf_lk_some hk
  obtain ⟨a, cell, q1, q2, q3, q4, q5, q6⟩ := hP.get hi
  have C0 := C
  obtain ⟨hx, hb, hml, hown, hts, ⟨hlt, htab⟩, -, -, ⟨hRf, hRl, hRc, hRs⟩, hsz, hs0, hK⟩ := C
  obtain ⟨⟨hini, hcode, hy1, hy2, hdesc⟩, hinst, hsel, q, hq, hqc⟩ := cal_X11_look
  refine hf_tight hsz hs0 hP (fun t1 t2 => ?_)
  have hcls : s.vm.findClass yX11_look.cls = some cell.cls := by
    have hKn := (hK.1.1 11 _ hq).2.1
    rw [show yX11_look.cls = q.1 from hqc.symm, hKn, q5.2.2.1 (by rw [q6]; have := hf_vw_lt hq; omega), q6]; unfold hf_cls; rw [if_pos (hf_vw_lt hq)]
  have hPv : PreV s H yX11_look.cls (G.1.size + a) (hf_Pc G σ [2, 0, 0] [x, p0, p1]) (List.zipWith (hf_v G) [0, 0] [p0, p1]) := ⟨hf_blind, ⟨cell, q4, by rw [q5.1]; rfl, hcls⟩, fun U hU hW => ⟨by rw [show List.zipWith (hf_v G) [2, 0, 0] [x, p0, p1] = hf_v G 2 x :: List.zipWith (hf_v G) [0, 0] [p0, p1] from rfl, q3], by rw [hU]; exact hP, hK.warm hW⟩⟩
  have hCB : CallW R s args M_L_look.1.cls yX11_look.cls 7 yX11_look cX11_look 3 (some .int) (Cond.code yX11_look cX11_look 3 (some .int) :: hf_all) (hf_rm0 M_X11_look σ) (hf_cc - σ.1) (hf_cs - hf_sl σ) 2 :=
    ⟨callB_of 2 hts (hf_goodc (N := M_X11_look) hcode) rfl rfl rfl (hts _ hini) (hts _ ml_L_7) ⟨hy1, hy2, hdesc⟩ ⟨by rw [hRf]; exact hf_le rfl, by rw [hRl]; exact hf_le rfl⟩, hts _ hinst, hts _ hsel⟩
  have hstk : (F0 m 5 ls (([(0, p1), (0, p0), (2, x), (0, 0), (2, out)] : List (Nat × Int)).map (hf_w G))).stack = (List.zipWith (hf_v G) [0, 0] [p0, p1]).reverse ++ .ref (G.1.size + a) :: ([(0, 0), (2, out)] : List (Nat × Int)).map (hf_w G) := by
    show [hf_v G 0 p1, hf_v G 0 p0, hf_v G 2 x, hf_v G 0 0, hf_v G 2 out] = _
    rw [q3]; rfl
  have hroom : 2 * (F0 m 5 ls (([(0, p1), (0, p0), (2, x), (0, 0), (2, out)] : List (Nat × Int)).map (hf_w G))).monitorRoom + ((([(0, 0), (2, out)] : List (Nat × Int)).map (hf_w G)).map fun v => v.category).sum ≤ 8 := by
    rw [hf_stw_eq G]; show 2 * 0 + _ ≤ 8; exact hf_le rfl
  have hfit : σ.1 - n0 + (hf_cc - σ.1) ≤ R.cells ∧ hf_sl σ - s0 + (hf_cs - hf_sl σ) ≤ R.slots := ⟨by rw [hRc]; have := hP.2.2.2.1; omega, by rw [hRs]; have := hP.2.2.2.2.1; omega⟩
  rcases hk with ⟨v, σ1, hn, hk2⟩ | ⟨v, σ1, hxx, ⟨c1, c2, c3, c4⟩, hk2⟩
  · have hrun := vx_runV (g := F0 m 5 ls (([(0, p1), (0, p0), (2, x), (0, 0), (2, out)] : List (Nat × Int)).map (hf_w G))) (rest := ([(0, 0), (2, out)] : List (Nat × Int)).map (hf_w G)) (locs := locs) (e := e) (meth := meth) (below := below) (S := ⟨hx, hb, hml, hown, hts⟩) ((hx_look hlt).1 hn) hCB hPv rfl rfl hlv.1 hstk hroom dL_look_5 hfit
    intro T hT X
    rcases hrun T hT X with ⟨w, st₀, t, T', L, h0, X', hL', e1, e2, ⟨hv, hPt⟩, hgo⟩ | ⟨qq, st₀, t, T', L, E, ce, h0, X', hL', e1, e2, hF, -⟩
    · have hv : w = some (hf_v G 0 v) := by cases hv; rfl
      subst hv
      have w := hN v p l e R s m args below meth c G n0 s0 C0 T'.heap (locs ++ L) ls σ1 σ' r (σ.1 - n0 + (hf_cc - σ.1)) (hf_sl σ - s0 + (hf_cs - hf_sl σ)) Q (by rw [e1]; exact hPt) (fun z hz => (List.mem_append.mp hz).elim (hL z) (hL' z)) hlv hk2 hret
      obtain ⟨t2, a1, b1⟩ := w T' rfl X'
      exact ⟨t2, hgo t2 a1, b1⟩
    · exact hF.elim
  · have hrun := vx_runV (g := F0 m 5 ls (([(0, p1), (0, p0), (2, x), (0, 0), (2, out)] : List (Nat × Int)).map (hf_w G))) (rest := ([(0, 0), (2, out)] : List (Nat × Int)).map (hf_w G)) (locs := locs) (e := e) (meth := meth) (below := below) (S := ⟨hx, hb, hml, hown, hts⟩) ((hx_look hlt).2 hxx c3 c4 c1 c2) hCB hPv rfl rfl hlv.1 hstk hroom dL_look_5 hfit
    intro T hT X
    rcases hrun T hT X with ⟨w, st₀, t, T', L, h0, X', hL', e1, e2, hF, hgo⟩ | ⟨qq, st₀, t, T', L, E, ce, h0, X', hL', e1, e2, ⟨hE, hPt⟩, hce, hcv, hcl, hst⟩
    · exact hF.elim
    · obtain ⟨ra, rb, hab, ⟨a1, a2, a3, a4⟩, ⟨b1, b2, b3, b4⟩⟩ := hf_tab2 (htab rfl)
      have hlocs : ∀ z ∈ locs ++ L, G.1.size ≤ z.base := fun z hz => (List.mem_append.mp hz).elim (hL z) (hL' z)
      have hPT : hf_P G (hx_σ σ1) T'.heap := by rw [e1]; exact hPt
      have go : ∀ (hpc : Nat) (KK : hf_M Int), hf_J M_L_look (hpc + 2) [(0, 2, x), (1, 0, p0), (2, 0, p1), (3, 2, out)] [] KK → decode cL_look hpc = .ok (.astore 4, 2) → KK (hx_σ σ1) = some (r, σ') → W p l e R s m args below meth c T'.heap (locs ++ L) (σ.1 - n0 + (hf_cc - σ.1)) (hf_sl σ - s0 + (hf_cs - hf_sl σ)) Q (F0 m hpc ls [.ref qq]) := by
        intro hpc KK hJ hd hkk
        refine lv_astore hx hb hd hlv (by show 4 < 5; omega) rfl (fun ls2 hl2 => ?_)
        rw [hf_filter1] at hl2
        exact hJ p l e R s m args below meth c G n0 s0 C0 T'.heap (locs ++ L) ls2 _ σ' r _ _ Q hPT hlocs (lv_sub hl2 [1, 2, 3, 4] rfl) hkk hret
      have hNc := hK.2.2.2.2.2.2.2.2.2.1
      have hcw := hK.2.2.2.2.2.2.2.2.2.2.2.2.2.2
      rcases f_look_x_r hxx with h11 | h78
      · rw [if_pos h11] at hk2
        have hE' : E = "java/lang/IndexOutOfBoundsException" := by rw [hE, h11]; rfl
        have W1 := vx_catch (pc := 5) (ls := ls) (H := T'.heap) (q := qq) (ce := ce) (rest := ([(0, 0), (2, out)] : List (Nat × Int)).map (hf_w G)) (own := RL) (name := "java/lang/IndexOutOfBoundsException") (E := E) hown [] ra [rb] hab (fun z hz => by cases hz) (by simp [covers, a1, a2]) (by rw [a4]; decide) (by rw [a4]; exact hts _ lk_L13) (by rw [hE']; exact va_Nw.use rfl (hcw _ (by simp [hf_xw]))) (by rw [e1]; exact hce) hcv hcl (by rw [a3]; exact go 13 KA hA dL_look_13 hk2)
        obtain ⟨t2, g1, g2⟩ := W1 T' rfl X'
        exact ⟨t2, hst.trans g1, g2⟩
      · rw [if_neg (by omega)] at hk2
        have hE' : E = "java/util/NoSuchElementException" := by rw [hE, h78]; rfl
        have W1 := vx_catch (pc := 5) (ls := ls) (H := T'.heap) (q := qq) (ce := ce) (rest := ([(0, 0), (2, out)] : List (Nat × Int)).map (hf_w G)) (own := RL) (name := "java/util/NoSuchElementException") (E := E) hown [ra] rb [] hab (fun z hz => by
          rw [List.mem_singleton.mp hz]
          exact Or.inr ⟨by rw [a4]; decide, "java/lang/IndexOutOfBoundsException", by rw [a4]; exact hts _ lk_L13, by rw [hE']; exact hNc⟩) (by simp [covers, b1, b2]) (by rw [b4]; decide) (by rw [b4]; exact hts _ lk_L15) (by rw [hE']; exact va_Nw.use rfl (hcw _ (by simp [hf_xw]))) (by rw [e1]; exact hce) hcv hcl (by rw [b3]; exact go 17 KB hB dL_look_17 hk2)
        obtain ⟨t2, g1, g2⟩ := W1 T' rfl X'
        exact ⟨t2, hst.trans g1, g2⟩
def f_L_look (x p0 p1 out : Int) : hf_M Int := hf_lk x p0 p1 (fun v => hf_ck (hf_inI v) (hf_bd (hf_as 21 out 0 v) (fun _ => hf_ret 0))) (hf_ret 1) (hf_ret 2)
theorem jl_L_look (x p0 p1 out : Int) : hf_J M_L_look 0 [(0, 2, x), (1, 0, p0), (2, 0, p1), (3, 2, out)] [] (f_L_look x p0 p1 out) := by
  refine hf_ald_n (pc := 0) 3 rfl rfl dL_look_0 ?_
  refine hf_iconst (pc := 1) dL_look_1 ?_
  refine hf_ald_n (pc := 2) 0 rfl rfl dL_look_2 ?_
  refine hf_ild_n (pc := 3) 1 rfl rfl dL_look_3 ?_
  refine hf_ild_n (pc := 4) 2 rfl rfl dL_look_4 ?_
  refine hf_lkJ (fun v => ?_) ?_ ?_
  · refine hf_i2l (pc := 8) dL_look_8 ?_
    refine hf_last (pc := 9) dL_look_9 ?_
    refine hf_goto (pc := 10) 21 dL_look_10 rfl ?_
    refine hf_iconst (pc := 21) dL_look_21 ?_
    exact hf_Jret (pc := 22) dL_look_22 (fun _ => rfl)
  · refine hf_iconst (pc := 15) dL_look_15 ?_
    exact hf_Jret (pc := 16) dL_look_16 (fun _ => rfl)
  · refine hf_iconst (pc := 19) dL_look_19 ?_
    exact hf_Jret (pc := 20) dL_look_20 (fun _ => rfl)
theorem kw_L_look : Cond.codeWith yL_look cL_look 5 (some .int) hf_ltab ∈ hf_all := hf_t5 (List.mem_of_getElem? (i := 172) rfl) (by decide +kernel)
theorem ks_L_look : Cond.static yL_look ∈ hf_all := hf_t5 (List.mem_of_getElem? (i := 171) rfl) rfl
theorem ii_L : Cond.initialized RL ∈ hf_all := hf_t1 (List.mem_of_getElem? (i := 0) rfl) rfl
theorem c_L_look (x p0 p1 out : Int) {l : Launch} (hlt : l.stackTraces = false) {G : hf_E} {σ σ' : hf_S} {r : Int} (hk : f_L_look x p0 p1 out σ = some (r, σ')) : Met l yL_look (.codeWith yL_look cL_look 5 (some .int) hf_ltab :: hf_all) (hf_rm0 M_L_look σ) (hf_Pc G σ [2, 0, 0, 2] [x, p0, p1, out]) (hf_Qc G σ' (some .int) r) (hf_cc - σ.1) (hf_cs - hf_sl σ) (fun q => G.1.size ≤ q) := by
  have hV : vx_Met l yL_look (.codeWith yL_look cL_look 5 (some .int) hf_ltab :: hf_all) (hf_rm0 M_L_look σ) (hf_Pc G σ [2, 0, 0, 2] [x, p0, p1, out]) (hf_Qc G σ' (some .int) r) (fun _ _ _ => False) (hf_cc - σ.1) (hf_cs - hf_sl σ) (fun q => G.1.size ≤ q) := by
    refine vx_ofWH (by decide) rfl ?_
    intro p e s m args below meth c s₁ B hml hv
    obtain ⟨hargs, hP, hK⟩ := hv
    have hts0 : ∀ w ∈ (Cond.codeWith yL_look cL_look 5 (some .int) hf_ltab :: hf_all), w.before args s = true := atoms_spec (ws := Cond.codeWith yL_look cL_look 5 (some .int) hf_ltab :: hf_all) B.pre
    have hts : ∀ w ∈ hf_all, w.before args s = true := fun w hw => hts0 w (List.mem_cons_of_mem _ hw)
    have hown : s.vm.findClass yL_look.cls = some m.cls := findClass_of_methodNamed B.named
    have hle := lv_entry (List.zipWith (hf_v G) [2, 0, 0, 2] [x, p0, p1, out]) (n := 5) (Nat.le_trans (hf_ln_eq G [2, 0, 0, 2] [x, p0, p1, out]) (by decide))
    rw [hf_la_eq] at hle
    have htab : c.exceptionTable.toList.map (fun h => (h.startPc, h.endPc, h.handlerPc, h.catchType)) = hf_ltab := by
      obtain ⟨m9, meth9, c9, hn9, h1, h2, -, -, h6, -⟩ := Cond.codeWith_spec (hts0 _ List.mem_cons_self)
      cases Option.some.inj (hn9.symm.trans B.named)
      cases Option.some.inj (h1.symm.trans B.method)
      cases Option.some.inj (h2.symm.trans (Stand.of_body B).code)
      exact h6
    have C : hf_C M_L_look G σ.1 (hf_sl σ) p l (hf_rm0 M_L_look σ) s m args meth c :=
      ⟨B.exec, B.bytes, hml, hown, hts, ⟨hlt, fun _ => htab⟩, B.notSynchronized, (name_of_methodNamed B.named B.method).1, ⟨rfl, rfl, rfl, rfl⟩, hP.1, hP.total.symm, hK⟩
    rw [hargs, lg_entry_eq]
    rw [← hargs]
    refine jl_L_look x p0 p1 out p l e _ s m args below meth c G σ.1 (hf_sl σ) C s.heap [] _ σ σ' r 0 0 _ hP (fun q hq => by cases hq) hle hk (fun H' locs' ls' pc' hP' hL' hls' hr => ?_)
    exact vx_ret (W.iret B.exec B.bytes B.returns (fun t ht _ => ⟨rfl, by rw [ht]; exact hP'⟩) hL' hr B.notSynchronized)
  intro p e ha hc hk2 s m args below hf happ hP hT
  obtain ⟨k, o, h1, h2, h3, hQ⟩ := hV p e ha hc hk2 s m args below hf happ hP hT
  refine ⟨k, o, h1, h2, h3, ?_⟩
  rcases hQ with hQ | ⟨q, -, E, ce, L, hF, -⟩
  · exact hQ
  · exact hF.elim
/-- the law calls its look -/
theorem hf_cL {M : hf_D} {pc : Nat} {lv : List (Nat × Nat × Int)} {st : List (Nat × Int)} {f : Int → hf_M Int} {ix : Nat} {x p0 p1 out : Int} (hl : Cond.methodLink M.1.cls ix yL_look ∈ hf_all) (hR : hf_rmok M M_L_look) (hw : hf_stw st ≤ 8) (hdg : decode M.2.1 pc = .ok (.invokestatic ix, 3))
    (h : ∀ r, hf_J M (pc + 3) lv ((0, r) :: st) (f r)) : hf_J M pc lv ((2, out) :: (0, p1) :: (0, p0) :: (2, x) :: st) (hf_bd (f_L_look x p0 p1 out) f) := by
  intro p l e R s m args below meth c G n0 s0 C H locs ls σ σ' r cells slots Q hP hL hlv hk hret
  obtain ⟨r1, σ1, hk1, hk2⟩ := hf_bd_some hk
  have C0 := C
  obtain ⟨hx, hb, hml, hown, hts, ⟨hlt, -⟩, -, -, ⟨hRf, hRl, hRc, hRs⟩, hsz, hs0, hK⟩ := C
  refine hf_tight hsz hs0 hP (fun t1 t2 => ?_)
  have hPv : PreS s H (hf_Pc G σ [2, 0, 0, 2] [x, p0, p1, out]) (List.zipWith (hf_v G) [2, 0, 0, 2] [x, p0, p1, out]) := ⟨hf_blind, fun U hU hW => ⟨rfl, by rw [hU]; exact hP, hK.warm hW⟩⟩
  have hgood : GoodIn hf_all (Cond.codeWith yL_look cL_look 5 (some .int) hf_ltab :: hf_all) := fun w hw => by
    rcases List.mem_cons.mp hw with rfl | hw
    · exact hf_good _ kw_L_look
    · exact hf_good w hw
  have hCB : vx_CSW R s args M.1.cls ix yL_look cL_look 5 (some .int) hf_ltab (Cond.codeWith yL_look cL_look 5 (some .int) hf_ltab :: hf_all) (hf_rm0 M_L_look σ) (hf_cc - σ.1) (hf_cs - hf_sl σ) 4 :=
    ⟨⟨rfl, rfl, by rw [hRf]; exact hR.1, by rw [hRl]; exact hR.2, pay_in hts hgood, List.mem_cons_self⟩, hts _ kw_L_look, hts _ ii_L, ⟨by decide, by decide⟩, fun sig hsig => (by
      have h9 : (parseMethodDescriptor yL_look.desc).map (fun d => d.parameters.length) = some 4 := by decide +kernel
      rw [hsig] at h9
      exact (Option.some.inj h9).symm), hts _ hl, hts _ ks_L_look⟩
  refine hf_back (N := M_L_look) C0 hL hlv hk2 hret h (vx_runSW (S := ⟨hx, hb, hml, hown, hts⟩) (c_L_look x p0 p1 out hlt hk1) hCB hPv rfl rfl hlv.1 rfl ?_ hdg ⟨by rw [hRc]; have := hP.2.2.2.1; show σ.1 - n0 + (hf_cc - σ.1) ≤ _; omega, by rw [hRs]; have := hP.2.2.2.2.1; show hf_sl σ - s0 + (hf_cs - hf_sl σ) ≤ _; omega⟩)
  have e2 := hf_stw_eq G st
  show 2 * 0 + _ ≤ 8
  rw [e2]; omega
