/-! THE BOOK OF THE ROOM, by the plain machine's own counts -/
theorem hf_sum_drop {L : List Cell} {len : Nat → Nat} {b n : Nat} (hn : L.length = b + n) (h : ∀ a, a < n → ∃ cell, L[b + a]? = some cell ∧ cell.slots.size = len (a + 1)) :
    ∀ j, j ≤ n → ((L.drop (b + (n - j))).map (·.slots.size)).sum + hf_sum len (n - j) = hf_sum len n := by
  intro j
  induction j with
  | zero => intro _; rw [Nat.sub_zero, List.drop_eq_nil_of_le (by omega)]; simp
  | succ j ih =>
    intro hj
    obtain ⟨cell, h1, h2⟩ := h (n - (j + 1)) (by omega)
    have h3 := ih (by omega)
    have e1 : n - j = n - (j + 1) + 1 := by omega
    rw [e1] at h3
    have hlt : b + (n - (j + 1)) < L.length := by omega
    rw [List.drop_eq_getElem_cons hlt]
    have hg : L[b + (n - (j + 1))] = cell := by
      have := List.getElem?_eq_getElem hlt
      rw [this] at h1
      exact Option.some.inj h1
    rw [hg]
    simp only [List.map_cons, List.sum_cons]
    rw [show b + (n - (j + 1) + 1) = b + (n - (j + 1)) + 1 by omega] at h3
    simp only [hf_sum] at h3
    have h2' : cell.slots.size = len (n - (j + 1) + 1) := by
      obtain ⟨c2, g1, g2⟩ := h (n - (j + 1)) (by omega)
      rw [h1] at g1
      rw [Option.some.inj g1]; exact g2
    omega
theorem hf_P.sizes {G : hf_E} {σ : hf_S} {H : Heap} (h : hf_P G σ H) : ∀ a, a < σ.1 → ∃ cell, H.toList[G.1.size + a]? = some cell ∧ cell.slots.size = (fun a => (σ.2.1 a).2) (a + 1) := fun a ha => by
  obtain ⟨cell, h1, h2⟩ := h.2.2.1 a ha
  exact ⟨cell, by rw [Array.getElem?_toList]; exact h1, h2.2.1⟩
theorem hf_P.total {G : hf_E} {σ : hf_S} {H : Heap} (h : hf_P G σ H) : ((H.toList.drop G.1.size).map (·.slots.size)).sum = hf_sl σ := by
  have h1 := hf_sum_drop (L := H.toList) (len := fun a => (σ.2.1 a).2) (b := G.1.size) (n := σ.1) (by rw [Array.length_toList]; exact h.1) h.sizes σ.1 (Nat.le_refl _)
  rw [Nat.sub_self] at h1
  simpa [hf_sum] using h1
/-- a list's sizes before a place are those of another's -/
theorem hf_sum_take {L L' : List Cell} {b k : Nat} (hk : k ≤ L'.length) (hbk : b ≤ k) (hL : L.length = k) (h : ∀ (a : Nat) (c : Cell), L[a]? = some c → ∃ c' : Cell, L'[a]? = some c' ∧ c'.slots.size = c.slots.size) :
    ((L'.drop b).map (·.slots.size)).sum = ((L.drop b).map (·.slots.size)).sum + ((L'.drop k).map (·.slots.size)).sum := by
  obtain ⟨d, rfl⟩ : ∃ d, k = b + d := ⟨k - b, by omega⟩
  clear hbk
  induction d generalizing b with
  | zero => rw [List.drop_eq_nil_of_le (as := L) (by omega)]; simp
  | succ d ih =>
    have hb : b < L.length := by omega
    have hb' : b < L'.length := by omega
    have h2 := ih (b := b + 1) (by omega) (by omega)
    rw [List.drop_eq_getElem_cons hb, List.drop_eq_getElem_cons hb']
    obtain ⟨c', g1, g2⟩ := h b _ (List.getElem?_eq_getElem hb)
    rw [List.getElem?_eq_getElem hb'] at g1
    have e1 := Option.some.inj g1
    simp only [List.map_cons, List.sum_cons, e1, g2]
    rw [show b + 1 + d = b + (d + 1) by omega] at h2
    omega
section HFT
variable {p : Program} {l : Launch} {e : Env} {R : Room} {s : State} {m : MethodId} {args : Array Value} {below : List Frame} {meth : Method} {c : Code} {H : Heap} {locs : List Loc} {cells slots : Nat} {Q : State → Prop}
/-- how much was used is read off the heap -/
theorem hf_tight {G : hf_E} {σ : hf_S} {n0 s0 : Nat} {g : JFrame} (hs : s.heap.size = G.1.size + n0) (h0 : s0 = ((s.heap.toList.drop G.1.size).map (·.slots.size)).sum) (hP : hf_P G σ H)
    (k : n0 ≤ σ.1 → s0 ≤ hf_sl σ → W p l e R s m args below meth c H locs (σ.1 - n0) (hf_sl σ - s0) Q g) : W p l e R s m args below meth c H locs cells slots Q g := by
  intro T hT X
  have hsame := X.same
  obtain ⟨q1, q2, q3, q4, q5, q6⟩ := hsame
  have hTH : (T.setVm s.vm).heap = H := hT
  rw [hTH] at q2 q3 q4 q5 q6
  have e1 := hP.1
  have hsum := hf_sum_take (L := s.heap.toList) (L' := H.toList) (b := G.1.size) (k := s.heap.size) (by rw [Array.length_toList]; exact q2) (by omega) (by rw [Array.length_toList]) (fun a c h => by
    rw [Array.getElem?_toList] at h
    obtain ⟨c', g1, -, g2, -⟩ := q6 a c h
    exact ⟨c', by rw [Array.getElem?_toList]; exact g1, g2⟩)
  rw [hP.total, ← h0] at hsum
  refine k (by omega) (by omega) T hT { X with same := ?_ }
  refine ⟨q1, ?_, ?_, ?_, ?_, ?_⟩
  · rw [hTH]; exact q2
  · rw [hTH]; omega
  · rw [hTH]; exact q4
  · rw [hTH]; omega
  · rw [hTH]; exact q6
end HFT
/-- the tables' words that a method may ask -/
def hf_all : List Cond := lw_tbl.filter goodWord
theorem hf_good : GoodIn hf_all hf_all := fun w hw => ⟨hw, good_of_word (List.mem_filter.mp hw).2⟩
/-! THE JUDGEMENT: the code at pc, with these locals and this stack, does what k does -/
abbrev hf_D : Type := MethodName × ByteArray × Nat × Option FieldType × Nat × Nat
def hf_ltab : List (Nat × Nat × Nat × Nat) := [(0, 10, 13, 13), (0, 10, 17, 15)]
def hf_C (M : hf_D) (G : hf_E) (n0 s0 : Nat) (p : Program) (l : Launch) (R : Room) (s : State) (m : MethodId) (args : Array Value) (meth : Method) (c : Code) : Prop :=
  p.tables.exec = Jvm.exec ∧ c.code = M.2.1 ∧ c.maxLocals = M.2.2.1 ∧ s.vm.findClass M.1.cls = some m.cls ∧ (∀ w ∈ hf_all, w.before args s = true) ∧ (l.stackTraces = false ∧ (M.1 = yL_look → c.exceptionTable.toList.map (fun h => (h.startPc, h.endPc, h.handlerPc, h.catchType)) = hf_ltab)) ∧ meth.locks = false ∧ meth.name = M.1.name ∧ (R.frames = M.2.2.2.2.1 ∧ R.locals = M.2.2.2.2.2 ∧ R.cells = hf_cc - n0 ∧ R.slots = hf_cs - s0) ∧ s.heap.size = G.1.size + n0 ∧ s0 = ((s.heap.toList.drop G.1.size).map (·.slots.size)).sum ∧ hf_K G s
/-- what comes back of an answer -/
def hf_ro (G : hf_E) (ret : Option FieldType) (r : Int) : Option Value := match ret with
  | none => none
  | some .double => none
  | some ty => some (hf_v G (hf_code ty) r)
/-- a place where the method returns r -/
def hf_rt (cc : ByteArray) (ret : Option FieldType) (pc : Nat) (r : Int) : Prop := match ret with
  | none => decode cc pc = .ok (.return_, 1)
  | some .int => decode cc pc = .ok (.ireturn, 1)
  | some .boolean => decode cc pc = .ok (.ireturn, 1) ∧ (r = 0 ∨ r = 1)
  | some .char => decode cc pc = .ok (.ireturn, 1) ∧ 0 ≤ r ∧ r ≤ 65535
  | some .byte => decode cc pc = .ok (.ireturn, 1) ∧ -128 ≤ r ∧ r ≤ 127
  | some .long => decode cc pc = .ok (.lreturn, 1)
  | some (.object _) => decode cc pc = .ok (.areturn, 1)
  | some (.array _) => decode cc pc = .ok (.areturn, 1)
  | some .double => r = (pc : Int)
  | some _ => False
def hf_J (M : hf_D) (pc : Nat) (lv : List (Nat × Nat × Int)) (st : List (Nat × Int)) (k : hf_M Int) : Prop :=
  ∀ (p : Program) (l : Launch) (e : Env) (R : Room) (s : State) (m : MethodId) (args : Array Value) (below : List Frame) (meth : Method) (c : Code) (G : hf_E) (n0 s0 : Nat), hf_C M G n0 s0 p l R s m args meth c →
  ∀ (H : Heap) (locs : List Loc) (ls : Array Slot) (σ σ' : hf_S) (r : Int) (cells slots : Nat) (Q : State → Prop), hf_P G σ H → (∀ q ∈ locs, G.1.size ≤ q.base) → lv_has ls M.2.2.1 (lv.map (hf_y G)) → k σ = some (r, σ') →
  (∀ (H' : Heap) (locs' : List Loc) (ls' : Array Slot) (pc' : Nat), hf_P G σ' H' → (∀ q ∈ locs', G.1.size ≤ q.base) → ls'.size = M.2.2.1 → hf_rt M.2.1 M.2.2.2.1 pc' r → W p l e R s m args below meth c H' locs' R.cells R.slots Q (F0 m pc' ls' (hf_ro G M.2.2.2.1 r).toList)) →
  W p l e R s m args below meth c H locs cells slots Q (F0 m pc ls (st.map (hf_w G)))
section HFJ
variable {M : hf_D} {pc pc' : Nat} {lv lv' : List (Nat × Nat × Int)} {st st' : List (Nat × Int)} {k k1 k2 : hf_M Int}
/-- an instruction that moves the stack alone -/
theorem hf_stp (h : ∀ (p : Program) (l : Launch) (e : Env) (R : Room) (s : State) (m : MethodId) (args : Array Value) (below : List Frame) (meth : Method) (c : Code) (H : Heap) (locs : List Loc) (ls : Array Slot) (cells slots : Nat) (Q : State → Prop) (G : hf_E), p.tables.exec = Jvm.exec → c.code = M.2.1 → s.vm.findClass M.1.cls = some m.cls → (∀ w ∈ hf_all, w.before args s = true) →
      W p l e R s m args below meth c H locs cells slots Q (F0 m pc' ls (st'.map (hf_w G))) → W p l e R s m args below meth c H locs cells slots Q (F0 m pc ls (st.map (hf_w G)))) (hJ : hf_J M pc' lv st' k) : hf_J M pc lv st k := by
  intro p l e R s m args below meth c G n0 s0 C H locs ls σ σ' r cells slots Q hP hL hl hk hret
  exact h p l e R s m args below meth c H locs ls cells slots Q G C.1 C.2.1 C.2.2.2.1 C.2.2.2.2.1 (hJ p l e R s m args below meth c G n0 s0 C H locs ls σ σ' r cells slots Q hP hL hl hk hret)
/-- fewer locals are known -/
theorem hf_sub (ks : List Nat) (hl : ks.filterMap (fun i => lv[i]?) = lv') (hJ : hf_J M pc lv' st k) : hf_J M pc lv st k := by
  intro p l e R s m args below meth c G n0 s0 C H locs ls σ σ' r cells slots Q hP hL hlv hk hret
  refine hJ p l e R s m args below meth c G n0 s0 C H locs ls σ σ' r cells slots Q hP hL (lv_sub hlv ks ?_) hk hret
  rw [← hl]
  unfold lv_pick
  rw [List.map_filterMap]
  congr 1
  funext i
  rw [List.getElem?_map]
theorem hf_Jeq (h : ∀ σ, k1 σ = k2 σ) (hJ : hf_J M pc lv st k1) : hf_J M pc lv st k2 := by
  intro p l e R s m args below meth c G n0 s0 C H locs ls σ σ' r cells slots Q hP hL hlv hk hret
  exact hJ p l e R s m args below meth c G n0 s0 C H locs ls σ σ' r cells slots Q hP hL hlv (by rw [h]; exact hk) hret
theorem hf_Jck {q : Prop} [Decidable q] (h : q → hf_J M pc lv st k) : hf_J M pc lv st (hf_ck q k) := by
  intro p l e R s m args below meth c G n0 s0 C H locs ls σ σ' r cells slots Q hP hL hlv hk hret
  by_cases hq : q
  · exact h hq p l e R s m args below meth c G n0 s0 C H locs ls σ σ' r cells slots Q hP hL hlv (by simpa [hf_ck, hq] using hk) hret
  · simp [hf_ck, hq] at hk
theorem hf_Jit {q : Prop} [Decidable q] (h1 : q → hf_J M pc lv st k1) (h2 : ¬ q → hf_J M pc lv st k2) : hf_J M pc lv st (hf_it q k1 k2) := by
  intro p l e R s m args below meth c G n0 s0 C H locs ls σ σ' r cells slots Q hP hL hlv hk hret
  by_cases hq : q
  · exact h1 hq p l e R s m args below meth c G n0 s0 C H locs ls σ σ' r cells slots Q hP hL hlv (by simpa [hf_it, hq] using hk) hret
  · exact h2 hq p l e R s m args below meth c G n0 s0 C H locs ls σ σ' r cells slots Q hP hL hlv (by simpa [hf_it, hq] using hk) hret
theorem hf_Jrb {α : Type} {a : α} {f : α → hf_M Int} (h : hf_J M pc lv st (f a)) : hf_J M pc lv st (hf_bd (hf_ret a) f) := h
/-- a loop's head: what is right for one turn more is right -/
theorem hf_Jfx {S : Type} {F : (S → hf_M Int) → S → hf_M Int} {L : S → List (Nat × Nat × Int)} (h : ∀ rec : S → hf_M Int, (∀ s, hf_J M pc (L s) st (rec s)) → ∀ s, hf_J M pc (L s) st (F rec s)) : ∀ (n : Nat) (s : S), hf_J M pc (L s) st (hf_fx F n s) := by
  intro n
  induction n with
  | zero =>
    intro x p l e R s m args below meth c G n0 s0 C H locs ls σ σ' r cells slots Q hP hL hlv hk hret
    cases hk
  | succ n ih => exact h _ ih
end HFJ
