/-! CALLS: a method's contract is its program on the plain machine -/
def hf_Pc (G : hf_E) (σ : hf_S) (ts : List Nat) (vs : List Int) : Array Value → State → Prop := fun a U => a = (List.zipWith (hf_v G) ts vs).toArray ∧ hf_P G σ U.heap ∧ hf_K G U
def hf_Qc (G : hf_E) (σ : hf_S) (ret : Option FieldType) (r : Int) : Array Value → State → Outcome → State → Prop := fun _ _ o t => o = .returned (hf_ro G ret r) ∧ hf_P G σ t.heap
abbrev hf_rm0 (M : hf_D) (σ : hf_S) : Room := { frames := M.2.2.2.2.1, cells := hf_cc - σ.1, slots := hf_cs - hf_sl σ, locals := M.2.2.2.2.2 }
def hf_Met (M : hf_D) (ts : List Nat) (vs : List Int) (k : hf_M Int) : Prop :=
  ∀ (l : Launch), l.stackTraces = false → ∀ (G : hf_E) (σ σ' : hf_S) (r : Int), k σ = some (r, σ') →
    Met l M.1 (.code M.1 M.2.1 M.2.2.1 M.2.2.2.1 :: hf_all) (hf_rm0 M σ) (hf_Pc G σ ts vs) (hf_Qc G σ' M.2.2.2.1 r) (hf_cc - σ.1) (hf_cs - hf_sl σ) (fun q => G.1.size ≤ q)
/-- the locals at a method's entry -/
def hf_la : Nat → List Nat → List Int → List (Nat × Nat × Int)
  | i, t :: ts, v :: vs => (i, t, v) :: hf_la (if t = 1 then i + 2 else i + 1) ts vs
  | _, _, _ => []
theorem hf_la_eq (G : hf_E) : ∀ (ts : List Nat) (vs : List Int) (i : Nat), lv_args i (List.zipWith (hf_v G) ts vs) = (hf_la i ts vs).map (hf_y G) := by
  intro ts
  induction ts with
  | nil => intro vs i; cases vs <;> rfl
  | cons t ts ih =>
    intro vs i
    cases vs with
    | nil => rfl
    | cons v vs =>
      show (i, hf_v G t v) :: lv_args (if (hf_v G t v).category = 2 then i + 2 else i + 1) (List.zipWith (hf_v G) ts vs) = _
      rw [hf_cat, ih]
      by_cases h : t = 1
      · simp only [h, if_true, hf_la, List.map_cons]
      · simp only [h, if_false, hf_la, List.map_cons]; rfl
def hf_ln : List Nat → Nat
  | [] => 0
  | t :: ts => (if t = 1 then 2 else 1) + hf_ln ts
theorem hf_ln_eq (G : hf_E) : ∀ (ts : List Nat) (vs : List Int), (lg_sl (List.zipWith (hf_v G) ts vs)).length ≤ hf_ln ts := by
  intro ts
  induction ts with
  | nil => intro vs; cases vs <;> exact Nat.zero_le _
  | cons t ts ih =>
    intro vs
    cases vs with
    | nil => exact Nat.zero_le _
    | cons v vs =>
      have h := ih vs
      show (lg_sl (hf_v G t v :: List.zipWith (hf_v G) ts vs)).length ≤ _
      unfold lg_sl at h ⊢
      rw [List.flatMap_cons, List.length_append, hf_cat]
      by_cases h1 : t = 1
      · simp only [h1, if_true, hf_ln, List.length_cons, List.length_nil]; omega
      · simp only [h1, if_false, hf_ln, List.length_cons, List.length_nil]
        simp only [show ¬ (1 = 2) by decide, if_false, List.length_cons, List.length_nil]; omega
/-- what may be returned -/
def hf_rok (ret : Option FieldType) : Bool := match ret with
  | none => true
  | some .int => true
  | some .boolean => true
  | some .long => true
  | some (.object _) => true
  | some (.array _) => true
  | some .char => true
  | some .byte => true
  | _ => false
theorem hf_met {M : hf_D} {ts : List Nat} {vs : List Int} {k : hf_M Int} (hrd : hf_rok M.2.2.2.1 = true) (hne : M.1 ≠ yL_look) (hy : plainName M.1.cls = true) (hn : hf_ln ts ≤ M.2.2.1) (h : hf_J M 0 (hf_la 0 ts vs) [] k) : hf_Met M ts vs k := by
  intro l hlt G σ σ' r hk
  refine Met.ofW (cc := M.2.1) (maxL := M.2.2.1) (ret := M.2.2.2.1) hy rfl ?_
  intro p e s m args below meth c s₁ B hml hv
  obtain ⟨hargs, hP, hK⟩ := hv
  have hts0 : ∀ w ∈ (Cond.code M.1 M.2.1 M.2.2.1 M.2.2.2.1 :: hf_all), w.before args s = true := atoms_spec (ws := Cond.code M.1 M.2.1 M.2.2.1 M.2.2.2.1 :: hf_all) B.pre
  have hts : ∀ w ∈ hf_all, w.before args s = true := fun w hw => hts0 w (List.mem_cons_of_mem _ hw)
  have hown : s.vm.findClass M.1.cls = some m.cls := findClass_of_methodNamed B.named
  have hl := lv_entry (List.zipWith (hf_v G) ts vs) (n := M.2.2.1) (Nat.le_trans (hf_ln_eq G ts vs) hn)
  rw [hf_la_eq] at hl
  have hname : meth.name = M.1.name := (name_of_methodNamed B.named B.method).1
  have C : hf_C M G σ.1 (hf_sl σ) p l (headSpec (Cond.code M.1 M.2.1 M.2.2.1 M.2.2.2.1 :: hf_all) (hf_rm0 M σ)).room s m args meth c :=
    ⟨B.exec, B.bytes, hml, hown, hts, ⟨hlt, fun h => absurd h hne⟩, B.notSynchronized, hname, ⟨rfl, rfl, rfl, rfl⟩, hP.1, hP.total.symm, hK⟩
  rw [hargs, lg_entry_eq]
  rw [← hargs]
  refine h p l e _ s m args below meth c G σ.1 (hf_sl σ) C s.heap [] _ σ σ' r 0 0 _ hP (fun q hq => by cases hq) hl hk ?_
  intro H' locs' ls' pc' hP' hL' hls' hr
  have hq : ∀ t : State, t.heap = H' → s.WarmedH t.vm → hf_Qc G σ' M.2.2.2.1 r args s (.returned (hf_ro G M.2.2.2.1 r)) t := fun t ht _ => ⟨rfl, by rw [ht]; exact hP'⟩
  have hret := B.returns
  have hloc := B.notSynchronized
  generalize hRT : M.2.2.2.1 = RT at hr hq hret hrd ⊢
  cases RT with
  | none => exact W.vret B.exec B.bytes hret hq hL' hr hloc
  | some ty =>
    cases ty with
    | int => exact W.iret B.exec B.bytes hret hq hL' hr hloc
    | boolean => exact W.zret B.exec B.bytes hret (hf_nz hr.2) hq hL' hr.1 hloc
    | char => exact W.zret B.exec B.bytes hret (hf_nc hr.2) hq hL' hr.1 hloc
    | byte => exact W.zret B.exec B.bytes hret (hf_nb hr.2) hq hL' hr.1 hloc
    | long => exact W.lret B.exec B.bytes hret hq hL' hr hloc
    | object n => exact W.aret B.exec B.bytes hret (Or.inl ⟨n, rfl⟩) (hf_v2 G r) hq hL' hr hloc
    | array t => exact W.aret B.exec B.bytes hret (Or.inr ⟨t, rfl⟩) (hf_v2 G r) hq hL' hr hloc
    | _ => exact absurd hrd (by decide)
theorem hf_blind {G : hf_E} {σ : hf_S} {ts : List Nat} {vs : List Int} : FrameBlind (hf_Pc G σ ts vs) := fun a U g mk h => ⟨h.1, h.2.1, hf_K.alike (u := U) rfl h.2.2⟩
def hf_rp (ret : Option FieldType) (r : Int) : List (Nat × Int) := match ret with
  | none => []
  | some .double => []
  | some ty => [(hf_code ty, r)]
theorem hf_rp_eq (G : hf_E) (ret : Option FieldType) (r : Int) (st : List (Nat × Int)) : (hf_rp ret r ++ st).map (hf_w G) = (hf_ro G ret r).toList ++ st.map (hf_w G) := by
  cases ret with
  | none => rfl
  | some ty => cases ty <;> rfl
/-- what the tables say of a method that is called -/
def hf_cb0 (N : hf_D) (n : Nat) : Prop := Cond.initialized N.1.cls ∈ hf_all ∧ Cond.code N.1 N.2.1 N.2.2.1 N.2.2.2.1 ∈ hf_all ∧ N.1.cls ≠ "java/lang/invoke/MethodHandle" ∧ N.1.cls ≠ "java/lang/invoke/VarHandle" ∧ (parseMethodDescriptor N.1.desc).map (fun d => d.parameters.length) = some n
def hf_cv (N : hf_D) (tg n : Nat) : Prop := hf_cb0 N n ∧ Cond.instanceMethod N.1 ∈ hf_all ∧ Cond.selects N.1.cls N.1 N.1 ∈ hf_all ∧ ∃ q : vw_C, vwCl[tg]? = some q ∧ q.1 = N.1.cls
def hf_csx (N : hf_D) (n : Nat) : Prop := hf_cb0 N n ∧ Cond.static N.1 ∈ hf_all
def hf_cix (N : hf_D) (n : Nat) : Prop := hf_cb0 N n ∧ Cond.instanceMethod N.1 ∈ hf_all ∧ N.1.name = "<init>"
abbrev hf_rmok (M N : hf_D) : Prop := N.2.2.2.2.1 + 1 ≤ M.2.2.2.2.1 ∧ 8 + (N.2.2.1 + 11) + N.2.2.2.2.2 ≤ M.2.2.2.2.2
def hf_stw (st : List (Nat × Int)) : Nat := (st.map (fun x => if x.1 = 1 then 2 else 1)).sum
theorem hf_stw_eq (G : hf_E) : ∀ st : List (Nat × Int), ((st.map (hf_w G)).map fun v => v.category).sum = hf_stw st := by
  intro st
  unfold hf_stw
  rw [List.map_map]
  congr 1
  apply List.map_congr_left
  intro x _
  exact hf_cat G x.1 x.2
theorem hf_goodc {N : hf_D} (h : Cond.code N.1 N.2.1 N.2.2.1 N.2.2.2.1 ∈ hf_all) : GoodIn hf_all (Cond.code N.1 N.2.1 N.2.2.1 N.2.2.2.1 :: hf_all) := fun w hw => by
  rcases List.mem_cons.mp hw with rfl | hw
  · exact hf_good _ h
  · exact hf_good w hw
theorem hf_bd_some {α : Type} {m : hf_M α} {f : α → hf_M Int} {σ : hf_S} {z : Int × hf_S} (h : hf_bd m f σ = some z) : ∃ (r1 : α) (σ1 : hf_S), m σ = some (r1, σ1) ∧ f r1 σ1 = some z := by
  unfold hf_bd at h
  cases hm : m σ with
  | none => rw [hm] at h; cases h
  | some y => rw [hm] at h; exact ⟨y.1, y.2, rfl, h⟩
theorem hf_ob_some {α : Type} {tg : Nat} {o : Int} {k : hf_M α} {σ : hf_S} {z : α × hf_S} (h : hf_ob tg o k σ = some z) : hf_is σ tg o ∧ k σ = some z := by
  unfold hf_ob at h
  by_cases hi : hf_is σ tg o
  · rw [if_pos hi] at h; exact ⟨hi, h⟩
  · rw [if_neg hi] at h; cases h
section HFC
variable {M N : hf_D} {pc : Nat} {lv : List (Nat × Nat × Int)} {st stk : List (Nat × Int)} {ts : List Nat} {vs : List Int} {mm : hf_M Int} {f : Int → hf_M Int}
/-- behind a call -/
theorem hf_back {p : Program} {l : Launch} {e : Env} {R : Room} {s : State} {m : MethodId} {args : Array Value} {below : List Frame} {meth : Method} {c : Code} {G : hf_E} {n0 s0 : Nat} (C : hf_C M G n0 s0 p l R s m args meth c) {H : Heap} {locs : List Loc} {ls : Array Slot} {σ1 σ' : hf_S} {r1 r : Int} {cells slots mc ms : Nat} {Q : State → Prop} {av : Array Value} {st0 : List Value}
    (hL : ∀ q ∈ locs, G.1.size ≤ q.base) (hlv : lv_has ls M.2.2.1 (lv.map (hf_y G))) (hk : f r1 σ1 = some (r, σ'))
    (hret : ∀ (H' : Heap) (locs' : List Loc) (ls' : Array Slot) (pc' : Nat), hf_P G σ' H' → (∀ q ∈ locs', G.1.size ≤ q.base) → ls'.size = M.2.2.1 → hf_rt M.2.1 M.2.2.2.1 pc' r → W p l e R s m args below meth c H' locs' R.cells R.slots Q (F0 m pc' ls' (hf_ro G M.2.2.2.1 r).toList))
    (h : ∀ r1, hf_J M (pc + 3) lv (hf_rp N.2.2.2.1 r1 ++ st) (f r1))
    (hrun : va_Run p l e R s m args below meth c H locs cells slots mc ms (F0 m pc ls st0) (st.map (hf_w G)) (hf_Qc G σ1 N.2.2.2.1 r1 av) (fun q => G.1.size ≤ q)) : W p l e R s m args below meth c H locs cells slots Q (F0 m pc ls st0) := by
  intro T hT X
  obtain ⟨v, st₀, t, T', L, h0, X', hL', e1, e2, ⟨hv, hPt⟩, hgo⟩ := hrun T hT X
  have hv : v = hf_ro G N.2.2.2.1 r1 := by cases hv; rfl
  subst hv
  have w := h r1 p l e R s m args below meth c G n0 s0 C T'.heap (locs ++ L) ls σ1 σ' r (cells + mc) (slots + ms) Q (by rw [e1]; exact hPt) (fun z hz => (List.mem_append.mp hz).elim (hL z) (hL' z)) hlv hk hret
  rw [hf_rp_eq] at w
  obtain ⟨t2, a1, b1⟩ := w T' rfl X'
  exact ⟨t2, hgo t2 a1, b1⟩
theorem hf_callV {i tg n : Nat} {o : Int} (hM : hf_Met N (2 :: ts) (o :: vs) mm) (hc : hf_cv N tg n) (hl : Cond.methodLink M.1.cls i N.1 ∈ hf_all) (hR : hf_rmok M N) (hw : hf_stw st ≤ 8) (hn : ts.length = n ∧ vs.length = n) (hs : stk = (ts.zip vs).reverse ++ (2, o) :: st) (hdg : decode M.2.1 pc = .ok (.invokevirtual i, 3))
    (h : ∀ r, hf_J M (pc + 3) lv (hf_rp N.2.2.2.1 r ++ st) (f r)) : hf_J M pc lv stk (hf_bd (hf_ob tg o mm) f) := by
  intro p l e R s m args below meth c G n0 s0 C H locs ls σ σ' r cells slots Q hP hL hlv hk hret
  obtain ⟨r1, σ1, hk1, hk2⟩ := hf_bd_some hk
  obtain ⟨hi, hk1⟩ := hf_ob_some hk1
  obtain ⟨a, cell, q1, q2, q3, q4, q5, q6⟩ := hP.get hi
  have C0 := C
  obtain ⟨hx, hb, hml, hown, hts, -, -, -, ⟨hRf, hRl, hRc, hRs⟩, hsz, hs0, hK⟩ := C
  obtain ⟨⟨hini, hcode, hy1, hy2, hdesc⟩, hinst, hsel, q, hq, hqc⟩ := hc
  refine hf_tight hsz hs0 hP (fun t1 t2 => ?_)
  have hcls : s.vm.findClass N.1.cls = some cell.cls := by
    have hKn := (hK.1.1 tg _ hq).2.1
    rw [← hqc, hKn, q5.2.2.1 (by rw [q6]; have := hf_vw_lt hq; omega), q6]; unfold hf_cls; rw [if_pos (hf_vw_lt hq)]
  have hPv : PreV s H N.1.cls (G.1.size + a) (hf_Pc G σ (2 :: ts) (o :: vs)) (List.zipWith (hf_v G) ts vs) := ⟨hf_blind, ⟨cell, q4, by rw [q5.1]; rfl, hcls⟩, fun U hU hW => ⟨by rw [List.zipWith_cons_cons, q3], by rw [hU]; exact hP, hK.warm hW⟩⟩
  have hCB : CallW R s args M.1.cls N.1.cls i N.1 N.2.1 N.2.2.1 N.2.2.2.1 (Cond.code N.1 N.2.1 N.2.2.1 N.2.2.2.1 :: hf_all) (hf_rm0 N σ) (hf_cc - σ.1) (hf_cs - hf_sl σ) n :=
    ⟨callB_of n hts (hf_goodc hcode) rfl rfl rfl (hts _ hini) (hts _ hl) ⟨hy1, hy2, hdesc⟩ ⟨by rw [hRf]; exact hR.1, by rw [hRl]; exact hR.2⟩, hts _ hinst, hts _ hsel⟩
  refine hf_back C0 hL hlv hk2 hret h (va_runV (S := ⟨hx, hb, hml, hown, hts⟩) (hM l C0.2.2.2.2.2.1.1 G σ σ1 r1 hk1) hCB hPv rfl (by rw [List.length_zipWith, hn.1, hn.2, Nat.min_self]) hlv.1 ?_ ?_ hdg ⟨by rw [hRc]; have := hP.2.2.2.1; show σ.1 - n0 + (hf_cc - σ.1) ≤ _; omega, by rw [hRs]; have := hP.2.2.2.2.1; show hf_sl σ - s0 + (hf_cs - hf_sl σ) ≤ _; omega⟩)
  · show stk.map (hf_w G) = _
    rw [hs, List.map_append, List.map_reverse, List.map_cons]
    have e1 : (ts.zip vs).map (hf_w G) = List.zipWith (hf_v G) ts vs := by rw [List.zip, List.map_zipWith]
    rw [e1]
    show _ ++ hf_v G 2 o :: _ = _
    rw [q3]
  · have e2 := hf_stw_eq G st
    show 2 * 0 + _ ≤ 8
    rw [e2]; omega
theorem hf_callS {i n : Nat} (hM : hf_Met N ts vs mm) (hc : hf_csx N n) (hl : Cond.methodLink M.1.cls i N.1 ∈ hf_all) (hR : hf_rmok M N) (hw : hf_stw st ≤ 8) (hn : ts.length = n ∧ vs.length = n) (hs : stk = (ts.zip vs).reverse ++ st) (hdg : decode M.2.1 pc = .ok (.invokestatic i, 3))
    (h : ∀ r, hf_J M (pc + 3) lv (hf_rp N.2.2.2.1 r ++ st) (f r)) : hf_J M pc lv stk (hf_bd mm f) := by
  intro p l e R s m args below meth c G n0 s0 C H locs ls σ σ' r cells slots Q hP hL hlv hk hret
  obtain ⟨r1, σ1, hk1, hk2⟩ := hf_bd_some hk
  have C0 := C
  obtain ⟨hx, hb, hml, hown, hts, -, -, -, ⟨hRf, hRl, hRc, hRs⟩, hsz, hs0, hK⟩ := C
  obtain ⟨⟨hini, hcode, hy1, hy2, hdesc⟩, hstat⟩ := hc
  refine hf_tight hsz hs0 hP (fun t1 t2 => ?_)
  have hPv : PreS s H (hf_Pc G σ ts vs) (List.zipWith (hf_v G) ts vs) := ⟨hf_blind, fun U hU hW => ⟨rfl, by rw [hU]; exact hP, hK.warm hW⟩⟩
  have hCB : CallB R s args M.1.cls i N.1 N.2.1 N.2.2.1 N.2.2.2.1 (Cond.code N.1 N.2.1 N.2.2.1 N.2.2.2.1 :: hf_all) (hf_rm0 N σ) (hf_cc - σ.1) (hf_cs - hf_sl σ) n ∧ (Cond.static N.1).before args s = true :=
    ⟨callB_of n hts (hf_goodc hcode) rfl rfl rfl (hts _ hini) (hts _ hl) ⟨hy1, hy2, hdesc⟩ ⟨by rw [hRf]; exact hR.1, by rw [hRl]; exact hR.2⟩, hts _ hstat⟩
  refine hf_back C0 hL hlv hk2 hret h (va_runS (S := ⟨hx, hb, hml, hown, hts⟩) (hM l C0.2.2.2.2.2.1.1 G σ σ1 r1 hk1) hCB hPv rfl (by rw [List.length_zipWith, hn.1, hn.2, Nat.min_self]) hlv.1 ?_ ?_ hdg ⟨by rw [hRc]; have := hP.2.2.2.1; show σ.1 - n0 + (hf_cc - σ.1) ≤ _; omega, by rw [hRs]; have := hP.2.2.2.2.1; show hf_sl σ - s0 + (hf_cs - hf_sl σ) ≤ _; omega⟩)
  · show stk.map (hf_w G) = _
    rw [hs, List.map_append, List.map_reverse]
    have e1 : (ts.zip vs).map (hf_w G) = List.zipWith (hf_v G) ts vs := by rw [List.zip, List.map_zipWith]
    rw [e1]
  · have e2 := hf_stw_eq G st
    show 2 * 0 + _ ≤ 8
    rw [e2]; omega
theorem hf_callSN {i n : Nat} {host : String} (hM : hf_Met N ts vs mm) (hc : hf_csx N n) (hl : Cond.methodLinkNest M.1.cls i N.1 host ∈ hf_nest) (hR : hf_rmok M N) (hw : hf_stw st ≤ 8) (hn : ts.length = n ∧ vs.length = n) (hs : stk = (ts.zip vs).reverse ++ st) (hdg : decode M.2.1 pc = .ok (.invokestatic i, 3))
    (h : ∀ r, hf_J M (pc + 3) lv (hf_rp N.2.2.2.1 r ++ st) (f r)) : hf_J M pc lv stk (hf_bd mm f) := by
  intro p l e R s m args below meth c G n0 s0 C H locs ls σ σ' r cells slots Q hP hL hlv hk hret
  obtain ⟨r1, σ1, hk1, hk2⟩ := hf_bd_some hk
  have C0 := C
  obtain ⟨hx, hb, hml, hown, hts, -, -, -, ⟨hRf, hRl, hRc, hRs⟩, hsz, hs0, hK⟩ := C
  obtain ⟨⟨hini, hcode, hy1, hy2, hdesc⟩, hstat⟩ := hc
  refine hf_tight hsz hs0 hP (fun t1 t2 => ?_)
  have hPv : PreS s H (hf_Pc G σ ts vs) (List.zipWith (hf_v G) ts vs) := ⟨hf_blind, fun U hU hW => ⟨rfl, by rw [hU]; exact hP, hK.warm hW⟩⟩
  have hCB : va_CN R s args M.1.cls i N.1 host N.2.1 N.2.2.1 N.2.2.2.1 (Cond.code N.1 N.2.1 N.2.2.1 N.2.2.2.1 :: hf_all) (hf_rm0 N σ) (hf_cc - σ.1) (hf_cs - hf_sl σ) n ∧ (Cond.static N.1).before args s = true ∧ True :=
    ⟨va_cnB n hts (hf_goodc hcode) rfl rfl rfl (hK.2.2.1 _ hl) (hts _ hini) ⟨hy1, hy2, hdesc⟩ ⟨by rw [hRf]; exact hR.1, by rw [hRl]; exact hR.2⟩, hts _ hstat, trivial⟩
  refine hf_back C0 hL hlv hk2 hret h (va_runSN (S := ⟨hx, hb, hml, hown, hts⟩) (hM l C0.2.2.2.2.2.1.1 G σ σ1 r1 hk1) hCB hPv rfl (by rw [List.length_zipWith, hn.1, hn.2, Nat.min_self]) hlv.1 ?_ ?_ hdg ⟨by rw [hRc]; have := hP.2.2.2.1; show σ.1 - n0 + (hf_cc - σ.1) ≤ _; omega, by rw [hRs]; have := hP.2.2.2.2.1; show hf_sl σ - s0 + (hf_cs - hf_sl σ) ≤ _; omega⟩)
  · show stk.map (hf_w G) = _
    rw [hs, List.map_append, List.map_reverse]
    have e1 : (ts.zip vs).map (hf_w G) = List.zipWith (hf_v G) ts vs := by rw [List.zip, List.map_zipWith]
    rw [e1]
  · have e2 := hf_stw_eq G st
    show 2 * 0 + _ ≤ 8
    rw [e2]; omega
theorem hf_callI {i tg n : Nat} {o : Int} (hM : hf_Met N (2 :: ts) (o :: vs) mm) (hret0 : N.2.2.2.1 = none) (hc : hf_cix N n) (hl : Cond.methodLink M.1.cls i N.1 ∈ hf_all) (hR : hf_rmok M N) (hw : hf_stw st ≤ 8) (hn : ts.length = n ∧ vs.length = n) (hs : stk = (ts.zip vs).reverse ++ (2, o) :: st) (hdg : decode M.2.1 pc = .ok (.invokespecial i, 3))
    (h : ∀ r, hf_J M (pc + 3) lv (hf_rp N.2.2.2.1 r ++ st) (f r)) : hf_J M pc lv stk (hf_bd (hf_ob tg o mm) f) := by
  intro p l e R s m args below meth c G n0 s0 C H locs ls σ σ' r cells slots Q hP hL hlv hk hret
  obtain ⟨r1, σ1, hk1, hk2⟩ := hf_bd_some hk
  obtain ⟨hi, hk1⟩ := hf_ob_some hk1
  obtain ⟨a, cell, q1, q2, q3, q4, q5, q6⟩ := hP.get hi
  have C0 := C
  obtain ⟨hx, hb, hml, hown, hts, -, -, -, ⟨hRf, hRl, hRc, hRs⟩, hsz, hs0, hK⟩ := C
  obtain ⟨⟨hini, hcode, hy1, hy2, hdesc⟩, hinst, hnm⟩ := hc
  refine hf_tight hsz hs0 hP (fun t1 t2 => ?_)
  have hPv : PreS s H (hf_Pc G σ (2 :: ts) (o :: vs)) (.ref (G.1.size + a) :: List.zipWith (hf_v G) ts vs) := ⟨hf_blind, fun U hU hW => ⟨by rw [List.zipWith_cons_cons, q3], by rw [hU]; exact hP, hK.warm hW⟩⟩
  have hCB0 : CallB R s args M.1.cls i N.1 N.2.1 N.2.2.1 N.2.2.2.1 (Cond.code N.1 N.2.1 N.2.2.1 N.2.2.2.1 :: hf_all) (hf_rm0 N σ) (hf_cc - σ.1) (hf_cs - hf_sl σ) n :=
    callB_of n hts (hf_goodc hcode) rfl rfl rfl (hts _ hini) (hts _ hl) ⟨hy1, hy2, hdesc⟩ ⟨by rw [hRf]; exact hR.1, by rw [hRl]; exact hR.2⟩
  have hCB : CallB R s args M.1.cls i N.1 N.2.1 N.2.2.1 none (Cond.code N.1 N.2.1 N.2.2.1 N.2.2.2.1 :: hf_all) (hf_rm0 N σ) (hf_cc - σ.1) (hf_cs - hf_sl σ) n ∧ N.1.name = "<init>" ∧ (Cond.instanceMethod N.1).before args s = true := by
    refine ⟨?_, hnm, hts _ hinst⟩
    have h9 := hCB0
    rw [hret0] at h9 ⊢
    exact h9
  refine hf_back C0 hL hlv hk2 hret h (va_runI (S := ⟨hx, hb, hml, hown, hts⟩) (hM l C0.2.2.2.2.2.1.1 G σ σ1 r1 hk1) hCB hPv rfl (by rw [List.length_zipWith, hn.1, hn.2, Nat.min_self]) hlv.1 ?_ ?_ hdg ⟨by rw [hRc]; have := hP.2.2.2.1; show σ.1 - n0 + (hf_cc - σ.1) ≤ _; omega, by rw [hRs]; have := hP.2.2.2.2.1; show hf_sl σ - s0 + (hf_cs - hf_sl σ) ≤ _; omega⟩)
  · show stk.map (hf_w G) = _
    rw [hs, List.map_append, List.map_reverse, List.map_cons]
    have e1 : (ts.zip vs).map (hf_w G) = List.zipWith (hf_v G) ts vs := by rw [List.zip, List.map_zipWith]
    rw [e1]
    show _ ++ hf_v G 2 o :: _ = _
    rw [q3]
  · have e2 := hf_stw_eq G st
    show 2 * 0 + _ ≤ 8
    rw [e2]; omega
theorem hf_callIN {i tg n : Nat} {o : Int} {host : String} (hM : hf_Met N (2 :: ts) (o :: vs) mm) (hret0 : N.2.2.2.1 = none) (hc : hf_cix N n) (hl : Cond.methodLinkNest M.1.cls i N.1 host ∈ hf_nest) (hR : hf_rmok M N) (hw : hf_stw st ≤ 8) (hn : ts.length = n ∧ vs.length = n) (hs : stk = (ts.zip vs).reverse ++ (2, o) :: st) (hdg : decode M.2.1 pc = .ok (.invokespecial i, 3))
    (h : ∀ r, hf_J M (pc + 3) lv (hf_rp N.2.2.2.1 r ++ st) (f r)) : hf_J M pc lv stk (hf_bd (hf_ob tg o mm) f) := by
  intro p l e R s m args below meth c G n0 s0 C H locs ls σ σ' r cells slots Q hP hL hlv hk hret
  obtain ⟨r1, σ1, hk1, hk2⟩ := hf_bd_some hk
  obtain ⟨hi, hk1⟩ := hf_ob_some hk1
  obtain ⟨a, cell, q1, q2, q3, q4, q5, q6⟩ := hP.get hi
  have C0 := C
  obtain ⟨hx, hb, hml, hown, hts, -, -, -, ⟨hRf, hRl, hRc, hRs⟩, hsz, hs0, hK⟩ := C
  obtain ⟨⟨hini, hcode, hy1, hy2, hdesc⟩, hinst, hnm⟩ := hc
  refine hf_tight hsz hs0 hP (fun t1 t2 => ?_)
  have hPv : PreS s H (hf_Pc G σ (2 :: ts) (o :: vs)) (.ref (G.1.size + a) :: List.zipWith (hf_v G) ts vs) := ⟨hf_blind, fun U hU hW => ⟨by rw [List.zipWith_cons_cons, q3], by rw [hU]; exact hP, hK.warm hW⟩⟩
  have hCB0 : va_CN R s args M.1.cls i N.1 host N.2.1 N.2.2.1 N.2.2.2.1 (Cond.code N.1 N.2.1 N.2.2.1 N.2.2.2.1 :: hf_all) (hf_rm0 N σ) (hf_cc - σ.1) (hf_cs - hf_sl σ) n :=
    va_cnB n hts (hf_goodc hcode) rfl rfl rfl (hK.2.2.1 _ hl) (hts _ hini) ⟨hy1, hy2, hdesc⟩ ⟨by rw [hRf]; exact hR.1, by rw [hRl]; exact hR.2⟩
  have hCB : va_CN R s args M.1.cls i N.1 host N.2.1 N.2.2.1 none (Cond.code N.1 N.2.1 N.2.2.1 N.2.2.2.1 :: hf_all) (hf_rm0 N σ) (hf_cc - σ.1) (hf_cs - hf_sl σ) n ∧ N.1.name = "<init>" ∧ (Cond.instanceMethod N.1).before args s = true := by
    refine ⟨?_, hnm, hts _ hinst⟩
    have h9 := hCB0
    rw [hret0] at h9 ⊢
    exact h9
  refine hf_back C0 hL hlv hk2 hret h (va_runIN (S := ⟨hx, hb, hml, hown, hts⟩) (hM l C0.2.2.2.2.2.1.1 G σ σ1 r1 hk1) hCB hPv rfl (by rw [List.length_zipWith, hn.1, hn.2, Nat.min_self]) hlv.1 ?_ ?_ hdg ⟨by rw [hRc]; have := hP.2.2.2.1; show σ.1 - n0 + (hf_cc - σ.1) ≤ _; omega, by rw [hRs]; have := hP.2.2.2.2.1; show hf_sl σ - s0 + (hf_cs - hf_sl σ) ≤ _; omega⟩)
  · show stk.map (hf_w G) = _
    rw [hs, List.map_append, List.map_reverse, List.map_cons]
    have e1 : (ts.zip vs).map (hf_w G) = List.zipWith (hf_v G) ts vs := by rw [List.zip, List.map_zipWith]
    rw [e1]
    show _ ++ hf_v G 2 o :: _ = _
    rw [q3]
  · have e2 := hf_stw_eq G st
    show 2 * 0 + _ ≤ 8
    rw [e2]; omega
/-- Object's constructor does nothing -/
theorem hf_objinit {i : Nat} {o : Int} {k : hf_M Int} (tg : Nat) (hl : Cond.methodLink M.1.cls i Lib.objectInit ∈ hf_all) (hin : Cond.instanceMethod Lib.objectInit ∈ hf_all) (hcode : Cond.code Lib.objectInit ⟨#[0xb1]⟩ 1 none ∈ hf_all) (hR : 1 ≤ M.2.2.2.2.1 ∧ hf_stw st + 12 ≤ M.2.2.2.2.2) (hdg : decode M.2.1 pc = .ok (.invokespecial i, 3))
    (h : hf_J M (pc + 3) lv st k) : hf_J M pc lv ((2, o) :: st) (hf_ob tg o k) := by
  intro p l e R s m args below meth c G n0 s0 C H locs ls σ σ' r cells slots Q hP hL hlv hk hret
  obtain ⟨hi, hk⟩ := hf_ob_some hk
  obtain ⟨a, cell, q1, q2, q3, q4, q5, q6⟩ := hP.get hi
  have w := h p l e R s m args below meth c G n0 s0 C H locs ls σ σ' r cells slots Q hP hL hlv hk hret
  obtain ⟨hx, hb, hml, hown, hts, -, -, -, ⟨hRf, hRl, hRc, hRs⟩, hsz, hs0, hK⟩ := C
  show W p l e R s m args below meth c H locs cells slots Q (F0 m pc ls (hf_v G 2 o :: st.map (hf_w G)))
  rw [q3]
  refine W.objInit hx hb hown (hts _ hl) (hts _ hin) (hts _ hcode) rfl (hlv.1.trans hml.symm) rfl hdg (by rw [hRf]; exact hR.1) ?_ w
  have e2 := hf_stw_eq G st
  show 2 * 0 + _ + 12 ≤ _
  rw [e2, hRl]; omega
end HFC
