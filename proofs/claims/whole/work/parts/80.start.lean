/-! THE CLAIM OUT OF ONE WALK OF THE LAW'S BODY. Your part is whole_start (and what it stands on); all else here is the same for every law, but numbers. -/
def R_law : String := "HighFallLaw"
def lw_P (b : Addr) (xs : List Int32) (args : Array Value) (s : State) : Prop := args = #[.ref b] ∧ s.IntsAt b xs ∧ xs.length ≤ 3072 ∧ (Jvm.Cond.and given_1 narrow_1).before args s = true
def lw_Q (_ : Array Value) (s : State) (o : Outcome) (t : State) : Prop := o = .returned (some (.int 1)) ∧ Framed s o t [] 601024 7293034
def lw_Z (below : List Frame) (a : Array Value) (s : State) : State → Prop := fun t => ∃ o, t.status = .running ∧ Ended t below o ∧ lw_Q a s o t
/-- the law's own end, with 1 on the stack, nothing written that was there before, its room as the claim has it -/
theorem lw_ret {p : Program} {l : Launch} {e : Env} {s : State} {m : MethodId} {below : List Frame} {meth : Method} {c : Code} {b : Nat} (hx : p.tables.exec = Jvm.exec) (hb : c.code = code) (hr : meth.sig.returnType = ret) (hlocks : meth.locks = false) {pc : Nat} {H : Heap} {ls : Array Slot} (hdg : decode code pc = .ok (.ireturn, 1)) : W p l e room_1 s m #[Value.ref b] below meth c H [] 601024 7293034 (lw_Z below #[Value.ref b] s) (F0 m pc ls [.int 1]) := by
  intro T hT X
  obtain ⟨fs, hret, hrun, hended, hW, hframe⟩ := X.leave (v := some (.int 1)) (hlocks := hlocks) (fun h => by rw [hr] at h; cases h)
  have hmeth' : T.vm.method? m = some meth := X.method'
  refine ⟨T.setFrames fs, ?_, .returned (some (.int 1)), hrun, hended, rfl, ⟨_, rfl⟩, hW, hframe⟩
  jvm_step X.here [X.here.top, hx, hb, hdg, hmeth', hr, ret, narrow_b1]
  (try refine ⟨rfl, ?_⟩); (try refine ⟨rfl, ?_⟩)
  first | (intro acts; rw [hret _ acts rfl rfl rfl]) | rw [hret _ _ rfl rfl rfl]
  exact Steps.refl _
/-- what holds at the law's entry: the machine, the code, the tables' words (any of lw_tbl by 'hts w (by decide +kernel)'), the script of L ints xs at the cell b, what the Statement gives of the start (any of its parts by flat_of_before) -/
def lw_At (p : Program) (s : State) (m : MethodId) (meth : Method) (c : Code) (b L : Nat) (xs : Nat → Int32) : Prop :=
  p.tables.exec = Jvm.exec ∧ c.code = code ∧ meth.sig.returnType = ret ∧ c.maxLocals = 7 ∧ s.vm.findClass R_law = some m.cls ∧ (∀ w ∈ lw_tbl, w.before #[Value.ref b] s = true) ∧ va_X b L xs s s.heap ∧ b < s.heap.size ∧ meth.locks = false ∧ (Jvm.Cond.and given_1 narrow_1).before #[Value.ref b] s = true
/-- from the entry, for every script of at most 3072 ints, the law comes to its end with true, if the plain machine does -/
theorem whole_start {p : Program} {e : Env} {s : State} {m : MethodId} {below : List Frame} {meth : Method} {c : Code} (l : Launch) {b L : Nat} {xs : Nat → Int32} (hlt : l.stackTraces = false) (hnm : meth.name = "law") (hL : L ≤ 3072) (hpure : ∃ σ' : hf_S, f_L_law (hs_σ L xs) = some (1, σ')) (C0 : lw_At p s m meth c b L xs) : W p l e room_1 s m #[Value.ref b] below meth c s.heap [] 0 0 (lw_Z below #[Value.ref b] s) (entryFrame m ([Value.ref b] : List Value).toArray 7) := by
  obtain ⟨hx, hb, hr, hml, hown, hts, hX, hbl, hloc, hgv⟩ := C0
  obtain ⟨G, g1, g2, hK, hP⟩ := hs_K hts hgv hX hL
  obtain ⟨σ', hk⟩ := hpure
  have htb : ∀ w ∈ hf_all, w.before #[Value.ref b] s = true := fun w hw => hts w (List.mem_filter.mp hw).1
  have hv : hf_v G 2 (-1) = .ref b := by
    show (if (-1 : Int) = 0 then Value.null else if (0 : Int) < -1 then .ref (G.1.size + ((-1 : Int).toNat - 1)) else .ref (G.2.1 (-(-1 : Int)).toNat)) = _
    rw [if_neg (by decide), if_neg (by decide)]
    exact congrArg Value.ref g2
  have hl := lv_entry [Value.ref b] (n := 7) (show 1 ≤ 7 by decide)
  have C : hf_C M_L_law G 0 0 p l room_1 s m #[Value.ref b] meth c := ⟨hx, hb, hml, hown, htb, ⟨hlt, fun h => absurd h (by decide)⟩, hloc, hnm, ⟨rfl, rfl, rfl, rfl⟩, by rw [g1]; rfl, hP.total.symm, hK⟩
  rw [lg_entry_eq]
  have hl2 : ([(0, 2, -1)] : List (Nat × Nat × Int)).map (hf_y G) = lv_args 0 [Value.ref b] := by
    show [(0, hf_v G 2 (-1))] = [(0, Value.ref b)]
    rw [hv]
  refine jl_L_law p l e room_1 s m #[Value.ref b] below meth c G 0 0 C s.heap [] _ (hs_σ L xs) σ' 1 0 0 _ hP (fun q hq => by cases hq) (by rw [hl2]; exact hl) hk ?_
  intro H' locs' ls' pc' hP' hL' hls' hrt
  refine va_forget (fun q hq => by rw [← g1]; exact hL' q hq) ?_
  exact lw_ret hx hb hr hloc hrt.1
