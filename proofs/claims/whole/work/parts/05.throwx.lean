/-! An exception with a message, made and thrown, where the constructor's own pool index is any: own rows over the library's ctorMessageOffV, athrowLeaves and initColdS, which are named, not copied. -/
section HXC
variable {p : Program} {l : Launch} {e : Env} {R : Room} {s : State} {m₀ : MethodId} {args : Array Value} {below : List Frame} {meth : Method} {c : Code} {W : State} {cells slots : Nat}
variable {cX : ClassId} {kX : Class} {f g : Field}
/-- where a field lies in the objects of a class, and under which name -/
def hx_lies (s : State) (cX : ClassId) (kX : Class) (f : Field) : Prop :=
  kX.instanceTypes[f.slot]? = some f.type ∧ ∃ d, Jmm.declares? s.vm f.slot (cX + 1) cX = some d ∧ d.2.name = f.name
theorem hx_apart (hf : hx_lies s cX kX f) (hg : hx_lies s cX kX g) (hne : f.name ≠ g.name) : f.slot ≠ g.slot :=
  Cond.laysApart hf.2.choose_spec.1 hg.2.choose_spec.1 hf.2.choose_spec.2 hg.2.choose_spec.2 hne
/-- three places of a fresh object are written: another one, of a reference, is null as before -/
theorem hx_null {T : ThrowableT} {a : Addr} {u v : RefV} {n : String} {k : Nat} (hf : hx_lies s cX kX f) (ht : f.type = .object n) (h1 : T.fCause.slot ≠ f.slot) (h2 : T.fStack.slot ≠ f.slot) (h3 : T.fSupp.slot ≠ f.slot) :
    ((preparedCellV T (freshCell cX kX) a u v).withEntry k).slots[f.slot]? = some .null := by
  have h0 : (freshCell cX kX).slots[f.slot]? = some .null := by rw [fresh_default hf.1, ht]; rfl
  show (((((freshCell cX kX).slots).setIfInBounds _ _).setIfInBounds _ _).setIfInBounds _ _)[f.slot]? = _
  rw [Array.getElem?_setIfInBounds_ne h3, Array.getElem?_setIfInBounds_ne h2, Array.getElem?_setIfInBounds_ne h1, h0]
/-- the class itself runs a method that it is said to run -/
theorem hx_sel (hA : l.admits e) {cls : String} {x : MethodName} {mx : MethodId} (hc : s.vm.findClass cls = some cX) (hn : s.methodNamed? x = some mx)
    (hx : x.cls ≠ "java/lang/invoke/MethodHandle" ∧ x.cls ≠ "java/lang/invoke/VarHandle") (hw : (Cond.selects cls x x).before args s = true) : selectMethod e.platform s.vm cX mx = .method mx := by
  obtain ⟨c1, r1, m1, h1, h2, h3, h4, -⟩ := Cond.selects_spec hw
  rw [hc] at h1
  rw [State.methodFound?_of_named hn hx] at h2
  rw [hn] at h3
  cases h1
  cases h2
  cases h3
  exact (Launch.admits_selectMethod hA _ _ _).trans h4
/-- nothing old was written: an old cell lies as it lay -/
theorem hx_old (X : Stand p l e R s m₀ args below meth c W [] cells slots) {a : Addr} {c0 : Cell} (h0 : s.heap[a]? = some c0) (hs : c0.vm.isStatics = true) :
    ∃ c1, W.heap[a]? = some c1 ∧ c1.vm ≠ .unknown ∧ ∀ i : Nat, c1.slots[i]? = c0.slots[i]? := by
  obtain ⟨c1, h1, h2, -, h3⟩ := X.same.2.2.2.2.2 a c0 h0
  refine ⟨c1, h1, fun hu => ?_, fun i => h3 i (fun hm => nomatch hm)⟩
  have h4 := congrArg Cell.vm h2
  have h5 : c0.vm = .unknown := h4.symm.trans hu
  rw [h5] at hs
  exact nomatch hs
set_option maxHeartbeats 1000000 in
/-- the constructor with a message, and athrow behind it: the exception leaves the method, nothing old was written -/
theorem hx_ctor (X : Stand p l e R s m₀ args below meth c W [] cells slots) (hexec : p.tables.exec = Jvm.exec) (htr : e.platform.stackTraces = false) {own cls : String} {names : List String} {ic ix : Nat} {rx : ByteArray}
    (x0 : decode rx 0 = .ok (.aload_n 0, 1)) (x1 : decode rx 1 = .ok (.aload_n 1, 1)) (x2 : decode rx 2 = .ok (.invokespecial ix, 3)) (x5 : decode rx 5 = .ok (.return_, 1))
    (hown : s.vm.findClass own = some m₀.cls) (hcls : Bundle.fit cls = true) (hnames : ∀ n ∈ names, Bundle.fit n = true) (hw : ∀ w ∈ Bundle.ownAtomsX own ic cls ix rx names, w.before args s = true)
    (hc : s.vm.findClass cls = some cX) (hk : s.vm.classes[cX]? = some kX) {a : Addr} (ha : W.heap[a]? = some (freshCell cX kX)) (hn : s.heap.size ≤ a)
    {sa : Addr} {ls : Array Slot} {pc : Nat} {rest : List Value} (hls : ls.size = c.maxLocals)
    (d6 : decode c.code pc = .ok (.invokespecial ic, 3)) (d9 : decode c.code (pc + 3) = .ok (.athrow, 1)) (hout : ∀ x ∈ c.exceptionTable.toList, covers x (pc + 3) = false)
    (hF : names.length + 3 < R.frames) (hL : (rest.map fun v => v.category).sum + (13 * (names.length + 1) + 43) ≤ R.locals) (hlocks : meth.locks = false) :
    ∃ (U : State) (ce : Cell), Steps p.tables e below (W.setTop { method := m₀, pc := pc, locals := ls, stack := .ref sa :: .ref a :: .ref a :: rest, locked := none }) U ∧ U.status = .running ∧ Ended U below (.threw a) ∧
      s.WarmedH U.vm ∧ s.sameButNew ({ U with vm := s.vm } : State) [] cells slots ∧ U.heap[a]? = some ce ∧ ce.cls = cX ∧ ce.vm = .none ∧ ce.slots.size = 6 := by
  have q3 : e.platform.magicAccessors = ({} : Platform).magicAccessors := by rw [X.admits.platform]
  obtain ⟨T, Z0, LT, -, Y⟩ := ThrowableC.of_atoms (args := args) (pl := e.platform) (by rw [X.admits.platform]) (by rw [X.admits.platform]) q3 (fun w h => hw w (by simp [Bundle.ownAtomsX, h]))
  obtain ⟨Z, M, LZ, LM, hZ⟩ := Init0T.ofS_atoms (args := args) q3 LT Y (fun w h => hw w (by simp [Bundle.ownAtomsX, h]))
  obtain ⟨P, Ps, hlen, LP, LPs, hPm, hP1, hP2⟩ := Bundle.chainSX (args := args) q3 hZ x0 x1 x2 x5 names cls hcls hnames (fun w h => hw w (by simp [Bundle.ownAtomsX, h]))
  have hkind : kX.kind = .ordinary ∧ kX.instanceTypes.size = 6 := by
    obtain ⟨c1, k1, e1, e2, e3, -, -, e4⟩ := Cond.instantiable_spec (hw (.instantiable cls 6) (by simp [Bundle.ownAtomsX]))
    rw [hc] at e1
    cases e1
    rw [hk] at e2
    cases e2
    exact ⟨e3, e4⟩
  have lie : ∀ (n d : String) (c1 : Nat) (k1 : Class) (i : Nat) (f : Field), Cond.lays cls Bundle.tN n d ∈ Bundle.ownAtomsX own ic cls ix rx names → s.fieldFound? Bundle.tN n d = some (c1, k1, i, f) → hx_lies s cX kX f :=
    fun _ _ _ _ _ _ hm hf => Cond.laysAt hc hk hf (hw _ hm)
  have fC := lie _ _ _ _ _ _ (by simp [Bundle.ownAtomsX]) Y.cause
  have fS := lie _ _ _ _ _ _ (by simp [Bundle.ownAtomsX]) Y.stack
  have fP := lie _ _ _ _ _ _ (by simp [Bundle.ownAtomsX]) Y.supp
  have fM := lie _ _ _ _ _ _ (by simp [Bundle.ownAtomsX]) Y.msg.choose_spec
  obtain ⟨ci, ib, fB, b1, b2, b3, b4, -, bn, bt, bf⟩ := Cond.ownField (t := .object "java/lang/Object") Y.found LT.cls (by decide +kernel) (hw (.fieldLink Bundle.tN 198 Bundle.tN "backtrace" "Ljava/lang/Object;") (by simp [Bundle.ownAtomsX]))
    (hw (.lays Bundle.tN Bundle.tN "backtrace" "Ljava/lang/Object;") (by simp [Bundle.ownAtomsX])) e.platform q3
  have fK := lie _ _ _ _ _ _ (by simp [Bundle.ownAtomsX]) bf
  obtain ⟨c0, hc0, hs0⟩ := Y.statics
  obtain ⟨u, hu⟩ := Cond.staticRefV Y.unassigned LT.unassignedStatic LT.statics hc0 hs0 (hw (.isRef (.static Bundle.tN "UNASSIGNED_STACK" Bundle.steD)) (by simp [Bundle.ownAtomsX]))
  obtain ⟨v, hv⟩ := Cond.staticRefV Y.sentinel LT.sentinelStatic LT.statics hc0 hs0 (hw (.isRef (.static Bundle.tN "SUPPRESSED_SENTINEL" Bundle.listD)) (by simp [Bundle.ownAtomsX]))
  obtain ⟨c1, hc1, hk1, hsl⟩ := hx_old X hc0 hs0
  have hne : T.aS ≠ a := fun h => by
    have := (Array.getElem?_eq_some_iff.mp hc0).1
    rw [h] at this
    exact Nat.not_lt.mpr hn this
  have hnull : ((preparedCellV T.toThrowableT (freshCell cX kX) a u v).withEntry W.cur).slots[fB.slot]? = some .null :=
    hx_null fK bt (hx_apart fC fK (by rw [Y.causeName, bn]; decide)) (hx_apart fS fK (by rw [Y.stackName, bn]; decide)) (hx_apart fP fK (by rw [Y.suppName, bn]; decide))
  obtain ⟨tm, _, _, _, vm1, ht, -, -, -, -, -, -, -, hW1, st1⟩ := Steps.initColdS (tb := p.tables) (e := e) (below := below) X.here hexec X.warmed q3 hown (t := Bundle.initS cls) rfl rfl (Bundle.fit_spec hcls).2
    (hw (.methodLink own ic (Bundle.initS cls)) (by simp [Bundle.ownAtomsX])) (hw (.instanceMethod (Bundle.initS cls)) (by cases names <;> simp [Bundle.ownAtomsX, Bundle.chainSAtomsX, Bundle.passSAtoms]))
    (bytes := rx) (maxL := 2) (hw (.code (Bundle.initS cls) rx 2 none) (by cases names <;> simp [Bundle.ownAtomsX, Bundle.chainSAtomsX, Bundle.passSAtoms]))
    (f := { method := m₀, pc := pc, locals := ls, stack := .ref sa :: .ref a :: .ref a :: rest, locked := none }) rfl (a := a) (msg := .ref sa) (rest := .ref a :: rest) rfl d6
  rw [hPm] at ht
  cases ht
  obtain ⟨vm2, X2, st2⟩ := (X.noted hW1).ctorMessageOffV hexec (g := { method := m₀, pc := pc, locals := ls, stack := .ref a :: rest, locked := none }) rfl hls T LT Z LZ M LM (P :: Ps)
    (fun Q hQ => (List.mem_cons.mp hQ).elim (fun h => h ▸ LP) (LPs Q)) ⟨hP1, hP2⟩ (u0 := u) (sen := v) (self := a) (msg := .ref sa) rfl (cell := freshCell cX kX) (cellS := c1) ha (fun _ => nofun) nofun rfl rfl
    (hx_sel X.admits hc Y.fill0 (by decide) (hw (.selects cls Bundle.tFill0 Bundle.tFill0) (by simp [Bundle.ownAtomsX]))) (hx_sel X.admits hc Y.fill (by decide) (hw (.selects cls Bundle.tFill Bundle.tFill) (by simp [Bundle.ownAtomsX])))
    hc1 hne hk1 ((hsl _).trans hu) ((hsl _).trans hv) (Takes.of_laid hk hkind.1 fC.1 (by rw [Y.causeType]; rfl)) (Takes.of_laid hk hkind.1 fS.1 (by rw [Y.stackType]; exact fits_refV_array _ u))
    (Takes.of_laid hk hkind.1 fP.1 (by rw [Y.suppType]; exact fits_refV_object _ v)) (Takes.of_laid hk hkind.1 fM.1 (by rw [Y.msgType]; rfl)) Y.objLocals
    ⟨⟨ci, ib, fB⟩, ⟨b1, b2, b3, b4⟩, hnull, fun _ _ => rfl⟩ htr [] d6 (by simp only [List.length_cons, hlen]; omega)
    (by
      have h1 : (Value.ref a).category = 1 := rfl
      simp only [List.length_cons, hlen, List.map_cons, List.sum_cons, h1]
      show 2 * 0 + _ + _ ≤ _
      omega)
  obtain ⟨st3, hr, hen, hW, hsm⟩ := X2.athrowLeaves hexec (g := { method := m₀, pc := pc + 3, locals := ls, stack := .ref a :: rest, locked := none }) rfl rfl rfl hout (a := a) (rest := rest) rfl d9 hlocks
  refine ⟨_, _, st1 _ (fun acts => ?_), hr, hen, hW, hsm.weaken (fun z hz hlt => ?_) (Nat.le_refl _) (Nat.le_refl _), heapAt_setCell_self _ (Array.getElem?_eq_some_iff.mp ha).1, rfl, rfl, ?_⟩
  · rw [doInvoke_state]
    exact st2 _ st3
  · have hz1 : z.base = a := by
      simp only [List.nil_append, List.mem_cons, List.not_mem_nil, or_false] at hz
      rcases hz with h | h | h | h | h <;> rw [h]
    rw [hz1] at hlt
    exact absurd hlt (Nat.not_lt.mpr hn)
  · simp [plainBareV, preparedCellV, Cell.setSlot, hkind.2]
end HXC
def hx_atS (own : String) (ic : Nat) (X : String) (ix : Nat) (rx : ByteArray) (names : List String) : List Cond := (Bundle.ownAtomsX own ic X ix rx names).filter vx_no
section HXT
variable {p : Program} {l : Launch} {e : Env} {R : Room} {s : State} {m : MethodId} {args : Array Value} {below : List Frame} {meth : Method} {c : Code} {H : Heap} {locs : List Loc} {cells slots : Nat} {Q : State → Prop}
variable {mc ms : Nat} {free : Addr → Prop} {A0 A1 : Nat → Prop} {H0 : Heap} {a : Array Value} {ls : Array Slot} {st0 rest : List Value}
variable {Qc : Array Value → State → Outcome → State → Prop} {XC : String → State → State → Prop}
theorem hx_throwX {cc : ByteArray} {pc : Nat} (hexec : p.tables.exec = Jvm.exec) (hb : c.code = cc) (hl : l.stackTraces = false) {own cls text : String} {names : List String} {ik is ic ix mc ms sa : Nat} {rx : ByteArray} (x0 : decode rx 0 = .ok (.aload_n 0, 1)) (x1 : decode rx 1 = .ok (.aload_n 1, 1)) (x2 : decode rx 2 = .ok (.invokespecial ix, 3)) (x5 : decode rx 5 = .ok (.return_, 1)) {A : Nat → Prop}
    (hown : s.vm.findClass own = some m.cls) (hcls : Bundle.fit cls = true) (hnames : ∀ n ∈ names, Bundle.fit n = true)
    (hk : (Cond.classLink own ik cls).before args s = true) (hini : (Cond.initialized cls).before args s = true) (hstr : vk_R own is text sa s) (hat : ∀ w ∈ hx_atS own ic cls ix rx names, w.before args s = true)
    (hgood : ∀ w ∈ Cond.classLink own ik cls :: Cond.initialized cls :: hx_atS own ic cls ix rx names, vx_ot w = true)
    (hU : vx_Zq Bundle.tN "UNASSIGNED_STACK" Bundle.steD A s s.heap) (hN : vx_Zq Bundle.tN "SUPPRESSED_SENTINEL" Bundle.listD A s s.heap) (hS : va_S A s.heap H locs) (hsize : ls.size = c.maxLocals)
    (d0 : decode cc pc = .ok (.new ik, 3)) (d3 : decode cc (pc + 3) = .ok (.dup, 1)) (d4 : decode cc (pc + 4) = .ok (.ldc is, 2)) (d6 : decode cc (pc + 6) = .ok (.invokespecial ic, 3)) (d9 : decode cc (pc + 9) = .ok (.athrow, 1))
    (hout : ∀ x ∈ c.exceptionTable.toList, covers x (pc + 9) = false)
    (hRframes : names.length + 3 < R.frames) (hRlocals : (rest.map fun v => v.category).sum + (13 * (names.length + 1) + 43) ≤ R.locals) (hRcells : cells + 1 ≤ R.cells) (hRslots : slots + 6 ≤ R.slots) (hlocks : meth.locks = false)
    (hx : ∀ (t : State) (ce : Cell), s.vm.Alike t.vm → t.heap.size = H.size + 1 → (∀ q : Nat, q < H.size → t.heap[q]? = H[q]?) → t.heap[H.size]? = some ce → ce.vm = .none → ce.slots.size = 6 → XC cls s t)
    (hf : ∀ z ∈ locs, free z.base) (hc : cells + 1 ≤ mc) (hs : slots + 6 ≤ ms) :
    W p l e R s m args below meth c H locs cells slots (vx_MQ below Qc XC args s mc ms free) (F0 m pc ls rest) := by
  intro T hT X
  have htr : e.platform.stackTraces = false := (show e.platform.stackTraces = l.stackTraces by rw [X.admits.platform]).trans hl
  have Y := vx_rebase X (R' := { frames := R.frames, locals := R.locals, cells := 1, slots := 6 }) (Nat.le_refl _) (Nat.le_refl _) hRcells hRslots
  obtain ⟨s', hA⟩ : ∃ z, z = (T.setVm s.vm).setFrames (.invoking m args :: below) := ⟨_, rfl⟩
  rw [← hA] at Y
  have hvm : s'.vm = s.vm := by rw [hA]; rfl
  have hhp : s'.heap = H := by rw [hA]; exact hT
  have hW0 : s.WarmedH s'.vm := by rw [hvm]; exact State.WarmedH.refl s
  have hat' : ∀ w ∈ hx_atS own ic cls ix rx names, w.before args s' = true := fun w hw => vx_ot_at hW0 hvm.symm (hgood w (List.mem_cons_of_mem _ (List.mem_cons_of_mem _ hw))) (hat w hw)
  have hk' : (Cond.classLink own ik cls).before args s' = true := vx_ot_at hW0 hvm.symm (hgood _ List.mem_cons_self) hk
  have hini' : (Cond.initialized cls).before args s' = true := vx_ot_at hW0 hvm.symm (hgood _ (List.mem_cons_of_mem _ List.mem_cons_self)) hini
  have hU' : vx_Zq Bundle.tN "UNASSIGNED_STACK" Bundle.steD A s' s'.heap := by rw [hhp]; exact vx_Zq.moved hW0.alike (hU.kept hS.2.1)
  have hN' : vx_Zq Bundle.tN "SUPPRESSED_SENTINEL" Bundle.listD A s' s'.heap := by rw [hhp]; exact vx_Zq.moved hW0.alike (hN.kept hS.2.1)
  have h : ∀ w ∈ Bundle.ownAtomsX own ic cls ix rx names, w.before args s' = true := vx_own hat' (vx_isRefq hU'.1) (vx_isRefq hN'.1) hU'.2.word hN'.2.word
  have hown' : s'.vm.findClass own = some m.cls := by rw [hvm]; exact hown
  have hins : (Cond.instantiable cls 6).before args s' = true := h _ (by simp [Bundle.ownAtomsX])
  obtain ⟨vm₁, cX, kX, hfX, hkX, -, -, X₁, st1⟩ := Y.newCold hexec (own := own) (C := cls) (index := ik) (n := 6) hown' hk' hins hini'
    (g := F0 m pc ls rest) rfl (by rw [hb]; exact d0) (Nat.le_refl _) (Nat.le_refl _)
  generalize hT1 : (T.setVm vm₁).pushCell { cls := cX, slots := kX.instanceTypes.map defaultValue, vm := .none } = T1 at X₁ st1
  have hcat : (Value.ref T.heap.size).category = 1 := rfl
  have hcellA : T1.heap[T.heap.size]? = some (freshCell cX kX) := by rw [← hT1]; exact State.heap_pushCell_size _ _
  have d3' : decode c.code (pc + 3) = .ok (.dup, 1) := by rw [hb]; exact d3
  have d4' : decode c.code (pc + 4) = .ok (.ldc is, 2) := by rw [hb]; exact d4
  have hstr' : vk_R own is text sa s' := vk_R.warm hW0 hstr
  obtain ⟨U, ce, hsteps, hrun, hend, hW, hsame, hce, hO1, hO2, hO3⟩ := hx_ctor X₁ hexec htr x0 x1 x2 x5 (own := own) (cls := cls) (names := names) (ic := ic) hown' hcls hnames h hfX hkX hcellA (by rw [hhp, hT]; exact Nat.le_refl _) (sa := sa) (ls := ls)
    (pc := pc + 6) (rest := rest) hsize (by rw [hb]; exact d6) (by rw [hb]; exact d9) hout hRframes hRlocals hlocks
  obtain ⟨f1, f2⟩ := vx_frame hsame
  rw [hhp] at f1 f2
  have hWs : s.WarmedH U.vm := State.WarmedH.trans hW0 hW
  have hcl : s.vm.findClass cls = some ce.cls := by rw [hO1, ← hvm]; exact hfX
  have hall : s.sameButNew ({ U with vm := s.vm } : State) locs mc ms := by
    subst hA
    obtain ⟨e1, e2⟩ := hsame
    rw [State.setFrames_setFrames] at e1
    have h2 : (T.setVm s.vm).sameButNew ({ U with vm := s.vm } : State) [] (0 + 1) (0 + 6) := ⟨e1, e2⟩
    have h3 := X.same.trans h2
    rw [List.append_nil] at h3
    exact h3.mono hc hs
  refine ⟨U, ?_, .threw T.heap.size, hrun, hend, Or.inr ⟨T.heap.size, rfl, cls, ce, locs, hx U ce hWs.alike (by
      have g1 := (Array.getElem?_eq_some_iff.mp hce).1
      have g2 := hsame.2.2.1
      have g3 : U.heap.size ≤ s'.heap.size + (0 + 1) := g2
      rw [hhp] at g3
      rw [hT] at g1
      omega) (fun q hq => f2 q hq (fun z hz => nomatch hz)) (by rw [← hT]; exact hce) hO2 hO3, hce, hO2, hcl, hWs, hall, hf⟩⟩
  refine st1 _ ?_
  show Steps p.tables e below (T1.setTop { method := m, pc := pc + 3, locals := ls, stack := .ref T.heap.size :: rest, locked := none }) _
  jvm_step X₁.here [X₁.here.top, hexec, d3', Value.category]
  exact X₁.ldcString hexec (own := own) (text := text) (index := is) (a := sa) hown' hstr'.1 hstr'.2
    (g := { method := m, pc := pc + 4, locals := ls, stack := .ref T.heap.size :: .ref T.heap.size :: rest, locked := none }) rfl d4' _ hsteps
end HXT
