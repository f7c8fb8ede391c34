/-! HighFall.look: it answers, or throws -/
def hx_iob : List Cond := hx_atS RX11 130 "java/lang/IndexOutOfBoundsException" 7 prog_20_method_2_code ["java/lang/RuntimeException", "java/lang/Exception"]
def hx_nse : List Cond := hx_atS RX11 146 "java/util/NoSuchElementException" 13 prog_32_method_4_code ["java/lang/RuntimeException", "java/lang/Exception"]
theorem hx_iob_in : ∀ w ∈ hx_iob.filter goodWord, w ∈ lw_tbl := by decide +kernel
theorem hx_nse_in : ∀ w ∈ hx_nse.filter goodWord, w ∈ lw_tbl := by decide +kernel
theorem hx_iob_no : ∀ w ∈ hx_iob.filter (fun w => !goodWord w), w ∈ hf_xw := by decide +kernel
theorem hx_nse_no : ∀ w ∈ hx_nse.filter (fun w => !goodWord w), w ∈ hf_xw := by decide +kernel
theorem hx_iob_ot : (∀ w ∈ Cond.classLink RX11 126 "java/lang/IndexOutOfBoundsException" :: Cond.initialized "java/lang/IndexOutOfBoundsException" :: hx_iob, vx_ot w = true) := by decide +kernel
theorem hx_nse_ot : (∀ w ∈ Cond.classLink RX11 142 "java/util/NoSuchElementException" :: Cond.initialized "java/util/NoSuchElementException" :: hx_nse, vx_ot w = true) := by decide +kernel
theorem hx_xw_ot : ∀ w ∈ hf_xw, w.onTables = true := by decide +kernel
theorem lk_126 : Cond.classLink RX11 126 "java/lang/IndexOutOfBoundsException" ∈ hf_all := hf_t5 (List.mem_of_getElem? (i := 179) rfl) rfl
theorem lk_142 : Cond.classLink RX11 142 "java/util/NoSuchElementException" ∈ hf_all := hf_t6 (List.mem_of_getElem? (i := 5) rfl) rfl
theorem lk_L13 : Cond.classLink RL 13 "java/lang/IndexOutOfBoundsException" ∈ hf_all := hf_t5 (List.mem_of_getElem? (i := 173) rfl) rfl
theorem lk_L15 : Cond.classLink RL 15 "java/util/NoSuchElementException" ∈ hf_all := hf_t5 (List.mem_of_getElem? (i := 174) rfl) rfl
theorem lk_ii : Cond.initialized "java/lang/IndexOutOfBoundsException" ∈ hf_all := hf_t1 (List.mem_of_getElem? (i := 18) rfl) rfl
theorem lk_in : Cond.initialized "java/util/NoSuchElementException" ∈ hf_all := hf_t1 (List.mem_of_getElem? (i := 19) rfl) rfl
theorem hx_hat {args : Array Value} {s : State} {G : hf_E} {L : List Cond} (hg : ∀ w ∈ L.filter goodWord, w ∈ lw_tbl) (hn : ∀ w ∈ L.filter (fun w => !goodWord w), w ∈ hf_xw) (hts : ∀ w ∈ hf_all, w.before args s = true) (hK : hf_K G s) : ∀ w ∈ L, w.before args s = true := by
  intro w hw
  by_cases hgw : goodWord w = true
  · exact hts w (List.mem_filter.mpr ⟨hg w (List.mem_filter.mpr ⟨hw, hgw⟩), hgw⟩)
  · have h1 := hn w (List.mem_filter.mpr ⟨hw, by simpa using hgw⟩)
    exact va_Nw.use (hx_xw_ot w h1) (hK.2.2.2.2.2.2.2.2.2.2.2.2.2.2 w h1)
def M_X11_look : hf_D := (yX11_look, cX11_look, 3, some .int, 6, 82)
def MX_X11_look : hf_D := (yX11_look, cX11_look, 3, some .double, 6, 82)
def f_look_r (k : Nat) (x0 x1 : Int) : hf_M Int := hf_bd (hf_gf 11 0 x0) (fun v => hf_bd (hf_gf 8 k v) (fun w => hf_bd (hf_al 20 w x1) (fun u => hf_ret u)))
/-- what it answers -/
def f_look_n (x0 x1 x2 : Int) : hf_M Int := hf_bd (hf_gf 11 0 x0) (fun v1 => hf_bd (hf_ob 8 v1 (f_X8_hasKind v1 x1)) (fun v5 => hf_cz v5 (¬ v5 = 0) (hf_ck (hf_inI x2) (hf_it (x2 = 0) (f_look_r 1 x0 x1) (hf_it (x2 = 1) (f_look_r 2 x0 x1) (hf_it (x2 = 2) (f_look_r 3 x0 x1) hf_none)))) hf_none))
/-- where it throws -/
def f_look_x (x0 x1 x2 : Int) : hf_M Int := hf_bd (hf_gf 11 0 x0) (fun v1 => hf_bd (hf_ob 8 v1 (f_X8_hasKind v1 x1)) (fun v5 => hf_cz v5 (¬ v5 = 0) (hf_ck (hf_inI x2) (hf_it (x2 = 0) hf_none (hf_it (x2 = 1) hf_none (hf_it (x2 = 2) hf_none (hf_ret 78))))) (hf_ret 11)))
theorem cal_X11_look : hf_cv M_X11_look 11 2 := ⟨⟨ii_X11, kc_X11_look, by decide, by decide, by decide +kernel⟩, ki_X11_look, kv_X11_look, _, rfl, rfl⟩
theorem jn_X11_look (x0 x1 x2 : Int) : hf_J M_X11_look 0 [(0, 2, x0), (1, 0, x1), (2, 0, x2)] [] (f_look_n x0 x1 x2) := by
  refine hf_ald_n (pc := 0) 0 rfl rfl dX11_look_0 ?_
  refine hf_getf (pc := 1) fl_X11_10 dX11_look_1 (fun v1 => ?_)
  refine hf_ild_n (pc := 4) 1 rfl rfl dX11_look_4 ?_
  refine hf_cV (pc := 5) (N := M_X8_hasKind) (ts := [0]) (vs := [x1]) (st := []) (fun r => [(0, r)]) (c_X8_hasKind v1 x1) cal_X8_hasKind ml_X11_104 ⟨hf_le rfl, hf_le rfl⟩ (hf_le rfl) ⟨rfl, rfl⟩ rfl dX11_look_5 (fun _ => rfl) (fun v5 => ?_)
  refine hf_if_ne (pc := 8) 21 dX11_look_8 rfl ?_ ?_
  · refine hf_ild_n (pc := 21) 2 rfl rfl dX11_look_21 ?_
    refine hf_Jck (fun hr => ?_)
    refine hf_Jit (fun hc0 => ?_) (fun hc0 => ?_)
    · refine hf_tsw (pc := 22) 48 26 hr dX11_look_22 (by omega) (by omega) (by rw [hc0]; rfl) rfl ?_
      refine hf_ald_n (pc := 48) 0 rfl rfl dX11_look_48 ?_
      refine hf_getf (pc := 49) fl_X11_10 dX11_look_49 (fun v49 => ?_)
      refine hf_getf (pc := 52) fl_X11_133 dX11_look_52 (fun v52 => ?_)
      refine hf_ild_n (pc := 55) 1 rfl rfl dX11_look_55 ?_
      refine hf_iald (pc := 56) dX11_look_56 (fun v56 => ?_)
      exact hf_Jret (pc := 57) dX11_look_57 (fun _ => rfl)
    · refine hf_Jit (fun hc1 => ?_) (fun hc1 => ?_)
      · refine hf_tsw (pc := 22) 58 36 hr dX11_look_22 (by omega) (by omega) (by rw [hc1]; rfl) rfl ?_
        refine hf_ald_n (pc := 58) 0 rfl rfl dX11_look_58 ?_
        refine hf_getf (pc := 59) fl_X11_10 dX11_look_59 (fun v49 => ?_)
        refine hf_getf (pc := 62) fl_X11_136 dX11_look_62 (fun v52 => ?_)
        refine hf_ild_n (pc := 65) 1 rfl rfl dX11_look_65 ?_
        refine hf_iald (pc := 66) dX11_look_66 (fun v56 => ?_)
        exact hf_Jret (pc := 67) dX11_look_67 (fun _ => rfl)
      · refine hf_Jit (fun hc2 => ?_) (fun hc2 => ?_)
        · refine hf_tsw (pc := 22) 68 46 hr dX11_look_22 (by omega) (by omega) (by rw [hc2]; rfl) rfl ?_
          refine hf_ald_n (pc := 68) 0 rfl rfl dX11_look_68 ?_
          refine hf_getf (pc := 69) fl_X11_10 dX11_look_69 (fun v49 => ?_)
          refine hf_getf (pc := 72) fl_X11_139 dX11_look_72 (fun v52 => ?_)
          refine hf_ild_n (pc := 75) 1 rfl rfl dX11_look_75 ?_
          refine hf_iald (pc := 76) dX11_look_76 (fun v56 => ?_)
          exact hf_Jret (pc := 77) dX11_look_77 (fun _ => rfl)
        · exact hf_no (fun _ => rfl)
  · exact hf_no (fun _ => rfl)
theorem jx_X11_look (x0 x1 x2 : Int) : hf_J MX_X11_look 0 [(0, 2, x0), (1, 0, x1), (2, 0, x2)] [] (f_look_x x0 x1 x2) := by
  refine hf_ald_n (pc := 0) 0 rfl rfl dX11_look_0 ?_
  refine hf_getf (pc := 1) fl_X11_10 dX11_look_1 (fun v1 => ?_)
  refine hf_ild_n (pc := 4) 1 rfl rfl dX11_look_4 ?_
  refine hf_cV (pc := 5) (N := M_X8_hasKind) (ts := [0]) (vs := [x1]) (st := []) (fun r => [(0, r)]) (c_X8_hasKind v1 x1) cal_X8_hasKind ml_X11_104 ⟨hf_le rfl, hf_le rfl⟩ (hf_le rfl) ⟨rfl, rfl⟩ rfl dX11_look_5 (fun _ => rfl) (fun v5 => ?_)
  refine hf_if_ne (pc := 8) 21 dX11_look_8 rfl ?_ ?_
  · refine hf_ild_n (pc := 21) 2 rfl rfl dX11_look_21 ?_
    refine hf_Jck (fun hr => ?_)
    refine hf_Jit (fun hc0 => ?_) (fun hc0 => ?_)
    · exact hf_no (fun _ => rfl)
    · refine hf_Jit (fun hc1 => ?_) (fun hc1 => ?_)
      · exact hf_no (fun _ => rfl)
      · refine hf_Jit (fun hc2 => ?_) (fun hc2 => ?_)
        · exact hf_no (fun _ => rfl)
        · refine hf_tswd (pc := 22) 78 hr dX11_look_22 (by omega) rfl ?_
          exact hf_Jret (pc := 78) rfl (fun _ => rfl)
  · exact hf_Jret (pc := 11) rfl (fun _ => rfl)
/-- the state with the thrown thing in it -/
def hx_σ (σ : hf_S) : hf_S := (σ.1 + 1, (fun a => if a = σ.1 + 1 then (99, 6) else σ.2.1 a), (fun b j => if b = σ.1 + 1 then 0 else σ.2.2 b j))
def hx_nm (r : Int) : String := if r = 11 then "java/lang/IndexOutOfBoundsException" else "java/util/NoSuchElementException"
theorem hx_P {G : hf_E} {σ : hf_S} {H H1 : Heap} {ce : Cell} (hP : hf_P G σ H) (h1 : σ.1 + 1 ≤ hf_cc) (h2 : hf_sl σ + 6 ≤ hf_cs) (z : H1.size = H.size + 1) (o : ∀ q : Nat, q < H.size → H1[q]? = H[q]?) (hc : H1[H.size]? = some ce) (hv : ce.vm = .none) (hs : ce.slots.size = 6) : hf_P G (hx_σ σ) H1 := by
  have hcell : hf_cell G (99, 6) (fun _ => 0) ce := ⟨hv, hs, fun h => absurd h (by decide), fun k hk => absurd hk (by unfold hf_num; rw [if_neg (by decide), if_neg (by decide)]; omega)⟩
  have hp := hP.push (tg := 99) (len := 6) hcell h1 h2
  have e : H1 = H.push ce := by
    apply Array.ext_getElem?
    intro i
    rw [Array.getElem?_push]
    by_cases hi : i = H.size
    · rw [if_pos hi, hi, hc]
    · rw [if_neg hi]
      by_cases hl : i < H.size
      · exact o i hl
      · rw [Array.getElem?_eq_none (by omega), Array.getElem?_eq_none (by omega)]
  rw [e]; exact hp
theorem f_look_x_r {x0 x1 x2 r : Int} {σ σ' : hf_S} (h : f_look_x x0 x1 x2 σ = some (r, σ')) : r = 11 ∨ r = 78 := by
  unfold f_look_x at h
  obtain ⟨v1, σ1, -, h⟩ := hf_bd_some h
  obtain ⟨v5, σ2, -, h⟩ := hf_bd_some h
  obtain ⟨-, g1, g2⟩ := hf_cz_some h
  by_cases hv : v5 = 0
  · have := g2 (fun hn => hn hv)
    cases this; exact Or.inl rfl
  · have h3 := g1 hv
    unfold hf_ck hf_it hf_none at h3
    by_cases q0 : hf_inI x2
    · rw [if_pos q0] at h3
      by_cases q1 : x2 = 0
      · rw [if_pos q1] at h3; cases h3
      · rw [if_neg q1] at h3
        by_cases q2 : x2 = 1
        · rw [if_pos q2] at h3; cases h3
        · rw [if_neg q2] at h3
          by_cases q3 : x2 = 2
          · rw [if_pos q3] at h3; cases h3
          · rw [if_neg q3] at h3; cases h3; exact Or.inr rfl
    · rw [if_neg q0] at h3; cases h3
theorem hx_look {l : Launch} (hl : l.stackTraces = false) {G : hf_E} {σ σ' : hf_S} {x0 x1 x2 r : Int} :
    (f_look_n x0 x1 x2 σ = some (r, σ') → vx_Met l yX11_look (.code yX11_look cX11_look 3 (some .int) :: hf_all) (hf_rm0 M_X11_look σ) (hf_Pc G σ [2, 0, 0] [x0, x1, x2]) (hf_Qc G σ' (some .int) r) (fun _ _ _ => False) (hf_cc - σ.1) (hf_cs - hf_sl σ) (fun q => G.1.size ≤ q)) ∧
    (f_look_x x0 x1 x2 σ = some (r, σ') → σ'.1 + 1 ≤ hf_cc → hf_sl σ' + 6 ≤ hf_cs → σ'.1 = σ.1 → hf_sl σ' = hf_sl σ → vx_Met l yX11_look (.code yX11_look cX11_look 3 (some .int) :: hf_all) (hf_rm0 M_X11_look σ) (hf_Pc G σ [2, 0, 0] [x0, x1, x2]) (fun _ _ _ _ => False) (fun E _ t => E = hx_nm r ∧ hf_P G (hx_σ σ') t.heap) (hf_cc - σ.1) (hf_cs - hf_sl σ) (fun q => G.1.size ≤ q)) := by
  have pre : ∀ (Mz : hf_D), Mz.1 = yX11_look → Mz.2.1 = cX11_look → Mz.2.2.1 = 3 → Mz.2.2.2.2.1 = 6 → Mz.2.2.2.2.2 = 82 → ∀ (k : hf_M Int), hf_J Mz 0 [(0, 2, x0), (1, 0, x1), (2, 0, x2)] [] k → k σ = some (r, σ') → ∀ (p : Program) (e : Env) (s : State) (m : MethodId) (args : Array Value) (below : List Frame) (meth : Method) (c : Code) (s₁ : State),
      BodyLoose p l yX11_look (headSpec (.code yX11_look cX11_look 3 (some .int) :: hf_all) (hf_rm0 M_X11_look σ)) cX11_look 3 (some .int) e s m args below meth c s₁ → c.maxLocals = 3 → hf_Pc G σ [2, 0, 0] [x0, x1, x2] args s → ∀ Q : State → Prop,
      (∀ (H' : Heap) (locs' : List Loc) (ls' : Array Slot) (pc' : Nat), hf_P G σ' H' → (∀ q ∈ locs', G.1.size ≤ q.base) → ls'.size = Mz.2.2.1 → hf_rt Mz.2.1 Mz.2.2.2.1 pc' r → W p l e (hf_rm0 M_X11_look σ) s m args below meth c H' locs' (hf_cc - σ.1) (hf_cs - hf_sl σ) Q (F0 m pc' ls' (hf_ro G Mz.2.2.2.1 r).toList)) →
      W p l e (hf_rm0 M_X11_look σ) s m args below meth c s.heap [] 0 0 Q (entryFrame m args 3) := by
    intro Mz e1 e2 e3 e4 e5 k hJ hk p e s m args below meth c s₁ B hml hv Q hret
    obtain ⟨hargs, hP, hK⟩ := hv
    have hts0 : ∀ w ∈ (Cond.code yX11_look cX11_look 3 (some .int) :: hf_all), w.before args s = true := atoms_spec (ws := Cond.code yX11_look cX11_look 3 (some .int) :: hf_all) B.pre
    have hts : ∀ w ∈ hf_all, w.before args s = true := fun w hw => hts0 w (List.mem_cons_of_mem _ hw)
    have hown : s.vm.findClass yX11_look.cls = some m.cls := findClass_of_methodNamed B.named
    have hle := lv_entry (List.zipWith (hf_v G) [2, 0, 0] [x0, x1, x2]) (n := 3) (Nat.le_trans (hf_ln_eq G [2, 0, 0] [x0, x1, x2]) (by decide))
    rw [hf_la_eq] at hle
    have C : hf_C Mz G σ.1 (hf_sl σ) p l (hf_rm0 M_X11_look σ) s m args meth c :=
      ⟨B.exec, by rw [e2]; exact B.bytes, by rw [e3]; exact hml, by rw [e1]; exact hown, hts, ⟨hl, fun h => absurd (e1.symm.trans h) (by decide)⟩, B.notSynchronized, by rw [e1]; exact (name_of_methodNamed B.named B.method).1, ⟨by rw [e4]; rfl, by rw [e5]; rfl, rfl, rfl⟩, hP.1, hP.total.symm, hK⟩
    rw [hargs, lg_entry_eq]
    rw [← hargs]
    exact hJ p l e _ s m args below meth c G σ.1 (hf_sl σ) C s.heap [] _ σ σ' r 0 0 Q hP (fun q hq => by cases hq) (by rw [e3]; exact hle) hk hret
  constructor
  · intro hk
    refine vx_ofW (by decide) rfl ?_
    intro p e s m args below meth c s₁ B hml _ hv
    refine pre M_X11_look rfl rfl rfl rfl rfl _ (jn_X11_look x0 x1 x2) hk p e s m args below meth c s₁ B hml hv _ (fun H' locs' ls' pc' hP' hL' hls' hr => ?_)
    exact vx_ret (W.iret B.exec B.bytes B.returns (fun t ht _ => ⟨rfl, by rw [ht]; exact hP'⟩) hL' hr B.notSynchronized)
  · intro hk c1 c2 c3 c4
    refine vx_ofW (by decide) rfl ?_
    intro p e s m args below meth c s₁ B hml htab hv
    have hv0 := hv
    refine pre MX_X11_look rfl rfl rfl rfl rfl _ (jx_X11_look x0 x1 x2) hk p e s m args below meth c s₁ B hml hv _ (fun H' locs' ls' pc' hP' hL' hls' hr => ?_)
    obtain ⟨hargs, hP, hK⟩ := hv0
    have hts0 : ∀ w ∈ (Cond.code yX11_look cX11_look 3 (some .int) :: hf_all), w.before args s = true := atoms_spec (ws := Cond.code yX11_look cX11_look 3 (some .int) :: hf_all) B.pre
    have hts : ∀ w ∈ hf_all, w.before args s = true := fun w hw => hts0 w (List.mem_cons_of_mem _ hw)
    have hown : s.vm.findClass RX11 = some m.cls := findClass_of_methodNamed B.named
    obtain ⟨-, hU, hN, hs1, hs2, -⟩ := hK.2.2.2.2.2.2.2.2.2
    have hkept : ∀ a : Nat, a < G.1.size → ¬ (fun q => G.1.size ≤ q) a → s.heap[a]? = G.1[a]? := hf_keptG hP
    have hU := hU.kept hkept
    have hN := hN.kept hkept
    have hSS : va_S (fun q => G.1.size ≤ q) s.heap H' locs' := ⟨by rw [hP.1, hP'.1, c3]; exact Nat.le_refl _, fun q _ hq2 => by rw [hP'.2.1 q (by omega), hP.2.1 q (by omega)], hL'⟩
    have hpc : r = (pc' : Int) := hr
    have hout : ∀ z, ∀ x ∈ c.exceptionTable.toList, covers x z = false := fun z x hx => (htab x hx).elim
    refine hf_tight hP.1 hP.total.symm hP' (fun t1 t2 => ?_)
    rcases f_look_x_r hk with h11 | h78
    · have e : pc' = 11 := by omega
      subst e
      refine hx_throwX (x0 := by decide +kernel) (x1 := by decide +kernel) (x2 := by decide +kernel) (x5 := by decide +kernel) B.exec B.bytes hl (own := RX11) (cls := "java/lang/IndexOutOfBoundsException") (text := "no such kind") (names := ["java/lang/RuntimeException", "java/lang/Exception"]) (ik := 126) (is := 128) (ic := 130) (ix := 7) (rx := prog_20_method_2_code) (sa := G.2.1 101) (A := fun q => G.1.size ≤ q) hown (by decide) (by decide) (hts _ lk_126) (hts _ lk_ii) hs1 (hx_hat hx_iob_in hx_iob_no hts hK) hx_iob_ot hU hN hSS (hls'.trans hml.symm) dX11_look_11 dX11_look_14 dX11_look_15 dX11_look_17 dX11_look_20 (hout _) (hf_le rfl) (hf_le rfl) ?_ ?_ B.notSynchronized (fun t ce _ z1 z2 z3 z4 z5 => ⟨by rw [h11]; rfl, hx_P hP' c1 c2 z1 z2 z3 z4 z5⟩) hL' ?_ ?_
      · show σ'.1 - σ.1 + 1 ≤ hf_cc - σ.1; omega
      · show hf_sl σ' - hf_sl σ + 6 ≤ hf_cs - hf_sl σ; omega
      · omega
      · omega
    · have e : pc' = 78 := by omega
      subst e
      refine hx_throwX (x0 := by decide +kernel) (x1 := by decide +kernel) (x2 := by decide +kernel) (x5 := by decide +kernel) B.exec B.bytes hl (own := RX11) (cls := "java/util/NoSuchElementException") (text := "no such what") (names := ["java/lang/RuntimeException", "java/lang/Exception"]) (ik := 142) (is := 144) (ic := 146) (ix := 13) (rx := prog_32_method_4_code) (sa := G.2.1 102) (A := fun q => G.1.size ≤ q) hown (by decide) (by decide) (hts _ lk_142) (hts _ lk_in) hs2 (hx_hat hx_nse_in hx_nse_no hts hK) hx_nse_ot hU hN hSS (hls'.trans hml.symm) dX11_look_78 dX11_look_81 dX11_look_82 dX11_look_84 dX11_look_87 (hout _) (hf_le rfl) (hf_le rfl) ?_ ?_ B.notSynchronized (fun t ce _ z1 z2 z3 z4 z5 => ⟨by rw [h78]; rfl, hx_P hP' c1 c2 z1 z2 z3 z4 z5⟩) hL' ?_ ?_
      · show σ'.1 - σ.1 + 1 ≤ hf_cc - σ.1; omega
      · show hf_sl σ' - hf_sl σ + 6 ≤ hf_cs - hf_sl σ; omega
      · omega
      · omega
