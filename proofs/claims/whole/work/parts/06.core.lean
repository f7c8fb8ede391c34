/-! THE PLAIN MACHINE: every value is an Int; a cell is a tag, a length and its numbers; addresses go from 1 on, 0 is null, below 0 are texts -/
abbrev hf_S : Type := Nat × (Nat → Nat × Nat) × (Nat → Nat → Int)
abbrev hf_M (α : Type) : Type := hf_S → Option (α × hf_S)
def hf_ret {α : Type} (a : α) : hf_M α := fun σ => some (a, σ)
def hf_bd {α β : Type} (m : hf_M α) (f : α → hf_M β) : hf_M β := fun σ => (m σ).bind fun x => f x.1 x.2
def hf_cc : Nat := 601024
def hf_cs : Nat := 7293034
abbrev hf_inI (a : Int) : Prop := -2147483648 ≤ a ∧ a ≤ 2147483647
abbrev hf_inL (a : Int) : Prop := -9223372036854775808 ≤ a ∧ a ≤ 9223372036854775807
def hf_sum (f : Nat → Nat) : Nat → Nat
  | 0 => 0
  | n + 1 => hf_sum f n + f (n + 1)
abbrev hf_sl (σ : hf_S) : Nat := hf_sum (fun a => (σ.2.1 a).2) σ.1
def hf_up (μ : Nat → Nat → Int) (a k : Nat) (v : Int) : Nat → Nat → Int := fun b j => if b = a ∧ j = k then v else μ b j
/-- o is the address of a cell with the tag tg -/
abbrev hf_is (σ : hf_S) (tg : Nat) (o : Int) : Prop := 1 ≤ o ∧ o.toNat ≤ σ.1 ∧ (σ.2.1 o.toNat).1 = tg
def hf_gf (tg k : Nat) (o : Int) : hf_M Int := fun σ => if hf_is σ tg o then some (σ.2.2 o.toNat k, σ) else none
def hf_pf (tg k : Nat) (o v : Int) : hf_M Unit := fun σ => if hf_is σ tg o then some ((), (σ.1, σ.2.1, hf_up σ.2.2 o.toNat k v)) else none
def hf_al (tg : Nat) (o i : Int) : hf_M Int := fun σ => if hf_is σ tg o ∧ 0 ≤ i ∧ i < (σ.2.1 o.toNat).2 then some (σ.2.2 o.toNat i.toNat, σ) else none
def hf_as (tg : Nat) (o i v : Int) : hf_M Unit := fun σ => if hf_is σ tg o ∧ 0 ≤ i ∧ i < (σ.2.1 o.toNat).2 then some ((), (σ.1, σ.2.1, hf_up σ.2.2 o.toNat i.toNat v)) else none
def hf_an (tg : Nat) (o : Int) : hf_M Int := fun σ => if hf_is σ tg o then some (((σ.2.1 o.toNat).2 : Int), σ) else none
/-- a new cell -/
def hf_nw (tg len : Nat) : hf_M Int := fun σ => if σ.1 + 1 ≤ hf_cc ∧ hf_sl σ + len ≤ hf_cs then some (((σ.1 + 1 : Nat) : Int), (σ.1 + 1, (fun a => if a = σ.1 + 1 then (tg, len) else σ.2.1 a), (fun b j => if b = σ.1 + 1 then 0 else σ.2.2 b j))) else none
def hf_na (tg : Nat) (n : Int) : hf_M Int := fun σ => if 0 ≤ n then hf_nw tg n.toNat σ else none
/-- asked: it holds, or there is no answer -/
def hf_ck {α : Type} (c : Prop) [Decidable c] (k : hf_M α) : hf_M α := fun σ => if c then k σ else none
def hf_ob {α : Type} (tg : Nat) (o : Int) (k : hf_M α) : hf_M α := fun σ => if hf_is σ tg o then k σ else none
def hf_cb {α : Type} (a b : Int) (c : Prop) [Decidable c] (k1 k2 : hf_M α) : hf_M α := fun σ => if hf_inI a ∧ hf_inI b then (if c then k1 σ else k2 σ) else none
def hf_cz {α : Type} (a : Int) (c : Prop) [Decidable c] (k1 k2 : hf_M α) : hf_M α := fun σ => if hf_inI a then (if c then k1 σ else k2 σ) else none
def hf_cl {α : Type} (a b : Int) (c : Prop) [Decidable c] (k1 k2 : hf_M α) : hf_M α := fun σ => if hf_inL a ∧ hf_inL b then (if c then k1 σ else k2 σ) else none
def hf_it {α : Type} (c : Prop) [Decidable c] (k1 k2 : hf_M α) : hf_M α := fun σ => if c then k1 σ else k2 σ
def hf_dv (a b : Int) : hf_M Int := fun σ => if hf_inI a ∧ hf_inI b ∧ b ≠ 0 then some (a.tdiv b, σ) else none
def hf_rm (a b : Int) : hf_M Int := fun σ => if hf_inI a ∧ hf_inI b ∧ b ≠ 0 then some (a.tmod b, σ) else none
def hf_dvl (a b : Int) : hf_M Int := fun σ => if hf_inL a ∧ hf_inL b ∧ b ≠ 0 then some (a.tdiv b, σ) else none
def hf_rml (a b : Int) : hf_M Int := fun σ => if hf_inL a ∧ hf_inL b ∧ b ≠ 0 then some (a.tmod b, σ) else none
def hf_and (a b : Int) : Int := (Int32.ofInt a &&& Int32.ofInt b).toInt
def hf_or (a b : Int) : Int := (Int32.ofInt a ||| Int32.ofInt b).toInt
def hf_shl (a b : Int) : Int := (Int32.ofInt a <<< (Int32.ofInt b &&& 31)).toInt
def hf_shr (a b : Int) : Int := (Int32.ofInt a >>> (Int32.ofInt b &&& 31)).toInt
def hf_ushr (a b : Int) : Int := ((Int32.ofInt a).toUInt32 >>> ((Int32.ofInt b).toUInt32 &&& Int32.toUInt32 31)).toInt32.toInt
def hf_i2b (a : Int) : Int := (Int32.ofInt a).toInt8.toInt32.toInt
def hf_andl (a b : Int) : Int := (Int64.ofInt a &&& Int64.ofInt b).toInt
/-- a loop: so many turns at most -/
def hf_fx {S R : Type} (F : (S → hf_M R) → S → hf_M R) : Nat → S → hf_M R
  | 0 => fun _ _ => none
  | n + 1 => F (hf_fx F n)
def hf_N : Nat := 100000
/-! HOW IT STANDS IN THE MACHINE -/
abbrev hf_E : Type := Heap × (Nat → Nat) × va_G × (Nat → ClassId)
def hf_v (G : hf_E) (t : Nat) (v : Int) : Value := match t with
  | 0 => .int (Int32.ofInt v)
  | 1 => .long (Int64.ofInt v)
  | _ => if v = 0 then .null else if 0 < v then .ref (G.1.size + (v.toNat - 1)) else .ref (G.2.1 (-v).toNat)
abbrev hf_w (G : hf_E) (x : Nat × Int) : Value := hf_v G x.1 x.2
abbrev hf_y (G : hf_E) (x : Nat × Nat × Int) : Nat × Value := (x.1, hf_v G x.2.1 x.2.2)
def hf_code (ty : FieldType) : Nat := match ty with
  | .long => 1
  | .object _ => 2
  | .array _ => 2
  | _ => 0
/-- the tags of arrays: what is in them -/
def hf_aty (tg : Nat) : FieldType := match tg with
  | 20 => .int
  | 21 => .long
  | 22 => .byte
  | 23 => .boolean
  | _ => .array .int
def hf_oty (tg : Nat) : Nat → FieldType := match tg with
  | 0 => tyX0
  | 1 => tyX1
  | 2 => tyX2
  | 3 => tyX3
  | 4 => tyX4
  | 5 => tyX5
  | 6 => tyX6
  | 7 => tyX7
  | 8 => tyX8
  | 9 => tyX9
  | 10 => tyX10
  | 11 => tyX11
  | _ => tyX12
/-- how many of its numbers a cell shows -/
def hf_num (tg len : Nat) : Nat := if tg < 13 then (match vwCl[tg]? with | some q => q.2.2 | none => 0) else if tg < 25 then len else 0
def hf_ty (tg k : Nat) : FieldType := if tg < 13 then hf_oty tg k else hf_aty tg
def hf_slot (G : hf_E) (tg k : Nat) : Nat := if tg < 13 then G.2.2.1.2 tg k else k
def hf_cls (G : hf_E) (tg : Nat) : ClassId := if tg < 13 then G.2.2.1.1 tg else G.2.2.2 tg
def hf_cell (G : hf_E) (tl : Nat × Nat) (f : Nat → Int) (cell : Cell) : Prop :=
  cell.vm = .none ∧ cell.slots.size = tl.2 ∧ (tl.1 < 25 → cell.cls = hf_cls G tl.1) ∧ ∀ k, k < hf_num tl.1 tl.2 → cell.slots[hf_slot G tl.1 k]? = some (hf_v G (hf_code (hf_ty tl.1 k)) (f k))
/-- the script: the row of address 0 -/
def hf_X (G : hf_E) (σ : hf_S) : Prop := ∃ scr : Cell, G.1[G.2.1 1]? = some scr ∧ scr.slots.size = (σ.2.1 0).2 ∧ (σ.2.1 0).2 ≤ hf_cs ∧ ∀ j, j < (σ.2.1 0).2 → scr.slots[j]? = some (.int (Int32.ofInt (σ.2.2 0 j)))
def hf_P (G : hf_E) (σ : hf_S) (H : Heap) : Prop :=
  H.size = G.1.size + σ.1 ∧ (∀ q, q < G.1.size → H[q]? = G.1[q]?) ∧ (∀ a, a < σ.1 → ∃ cell, H[G.1.size + a]? = some cell ∧ hf_cell G (σ.2.1 (a + 1)) (σ.2.2 (a + 1)) cell) ∧ σ.1 ≤ hf_cc ∧ hf_sl σ ≤ hf_cs ∧ hf_X G σ
def hf_nest : List Cond := [.methodLinkNest RX11 26 yX5_init RX11, .methodLinkNest RX11 33 yX4_init RX11, .methodLinkNest RX11 47 yX6_init RX11, .methodLinkNest RX11 54 yX0_init RX11, .methodLinkNest RX11 61 yX10_init RX11, .methodLinkNest RX11 71 yX2_init RX11, .methodLinkNest RX11 78 yX3_init RX11, .methodLinkNest RX0 121 yX11_unitOf RX11, .methodLinkNest RX0 135 yX11_spanAt RX11, .methodLinkNest RX5 11 yX9_init RX11, .methodLinkNest RX5 20 yX4_init RX11, .methodLinkNest RX6 22 yX7_init RX11, .methodLinkNest RX10 46 yX11_spanAt RX11]
/-- what the tables say of an array's tag -/
def hf_arr (G : hf_E) (U : State) (tg : Nat) : Prop := ∃ (kA : Class) (comp : ClassId), U.vm.classes[G.2.2.2 tg]? = some kA ∧ kA.kind = .array comp (hf_aty tg) ∧ (tg = 24 → comp = G.2.2.2 20) ∧ U.vm.findClass ("[" ++ (hf_aty tg).toString) = some (G.2.2.2 tg)
def hf_AO (U : State) : Prop := (Cond.arrayOver (.array .int)).before #[] U = true
theorem hf_AO.moved {u U : State} (hvm : u.vm.Alike U.vm) (h : hf_AO u) : hf_AO U := by
  have h2 : (Cond.arrayOver (.array .int)).before #[] (u.setVm U.vm) = true := by rw [Cond.arrayOver_setVmC hvm]; exact h
  exact h2
/-- the texts of Token, by their places -/
def hf_stxt : List String := ["if", "fall", "stop", "not", "or", "and", "low", "high", "span", "falls", "last", "broke", "one", "two", "three", ""]
def hf_sidx : List Nat := [75, 77, 79, 81, 83, 85, 87, 89, 91, 93, 95, 97, 99, 101, 103, 105]
def hf_slen : List Nat := [2, 4, 4, 3, 2, 3, 3, 4, 4, 5, 4, 5, 3, 3, 5, 0]
def hf_sbyt : List (List Int32) := [[105, 102], [102, 97, 108, 108], [115, 116, 111, 112], [110, 111, 116], [111, 114], [97, 110, 100], [108, 111, 119], [104, 105, 103, 104], [115, 112, 97, 110], [102, 97, 108, 108, 115], [108, 97, 115, 116], [98, 114, 111, 107, 101], [111, 110, 101], [116, 119, 111], [116, 104, 114, 101, 101], []]
/-- what a throw of look asks -/
def hf_xw : List Cond := [.declares ⟨"java/lang/RuntimeException", "<init>", "(Ljava/lang/String;)V"⟩, .declares ⟨"java/lang/Exception", "<init>", "(Ljava/lang/String;)V"⟩, .declares ⟨"java/lang/Throwable", "<init>", "(Ljava/lang/String;)V"⟩, .castable "java/lang/IndexOutOfBoundsException" "java/lang/IndexOutOfBoundsException", .castable "java/util/NoSuchElementException" "java/util/NoSuchElementException"]
def hf_Ky (G : hf_E) (U : State) : Prop := va_Nc "java/util/NoSuchElementException" "java/lang/IndexOutOfBoundsException" U ∧ vx_Zq Bundle.tN "UNASSIGNED_STACK" Bundle.steD (fun q => G.1.size ≤ q) U G.1 ∧ vx_Zq Bundle.tN "SUPPRESSED_SENTINEL" Bundle.listD (fun q => G.1.size ≤ q) U G.1 ∧ vk_R RX11 128 "no such kind" (G.2.1 101) U ∧ vk_R RX11 144 "no such what" (G.2.1 102) U ∧ ∀ w ∈ hf_xw, va_Nw w U
theorem hf_Ky.moved {G : hf_E} {u U : State} (hvm : u.vm.Alike U.vm) (hr : ∀ (own : String) (k : Nat) (tx : String) (a : Nat), vk_R own k tx a u → vk_R own k tx a U) (h : hf_Ky G u) : hf_Ky G U := by
  obtain ⟨h1, h2, h3, h4, h5, h6⟩ := h
  refine ⟨h1.moved hvm, h2.moved hvm, h3.moved hvm, hr _ _ _ _ h4, hr _ _ _ _ h5, fun w hw => ?_⟩
  have h9 := h6 w hw
  simp only [hf_xw, List.mem_cons, List.not_mem_nil, or_false] at hw
  rcases hw with rfl | rfl | rfl | rfl | rfl
  · exact va_tabs rfl (rfl : (u.setVm U.vm).vm = U.vm) (by rw [Cond.declares_setVm hvm]; exact h9)
  · exact va_tabs rfl (rfl : (u.setVm U.vm).vm = U.vm) (by rw [Cond.declares_setVm hvm]; exact h9)
  · exact va_tabs rfl (rfl : (u.setVm U.vm).vm = U.vm) (by rw [Cond.declares_setVm hvm]; exact h9)
  · exact va_tabs rfl (rfl : (u.setVm U.vm).vm = U.vm) (by rw [Cond.castable_setVm hvm]; exact h9)
  · exact va_tabs rfl (rfl : (u.setVm U.vm).vm = U.vm) (by rw [Cond.castable_setVm hvm]; exact h9)
def hf_Kx (G : hf_E) (U : State) : Prop := (∃ scr : Cell, G.1[G.2.1 1]? = some scr ∧ U.isArrayOf scr .int ∧ scr.vm ≠ .unknown) ∧ vk_S 16 hf_slen hf_sbyt (fun i => G.2.1 (2 * i + 2)) (fun i => G.2.1 (2 * i + 3)) (fun q => G.1.size ≤ q) U G.1 ∧ (∀ i, i < 16 → vk_R RX9 (hf_sidx.getD i 0) (hf_stxt.getD i "") (G.2.1 (2 * i + 2)) U) ∧ va_Z "java/lang/String" "COMPACT_STRINGS" "Z" (.int 1) (fun q => G.1.size ≤ q) U G.1 ∧ hf_AO U ∧ (va_Z "jdk/internal/util/Preconditions" "SIOOBE_FORMATTER" "Ljava/util/function/BiFunction;" .null (fun q => G.1.size ≤ q) U G.1 ∨ va_Z "jdk/internal/util/Preconditions" "SIOOBE_FORMATTER" "Ljava/util/function/BiFunction;" (.ref (G.2.1 100)) (fun q => G.1.size ≤ q) U G.1) ∧ hf_Ky G U
theorem hf_Kx.moved {G : hf_E} {u U : State} (hvm : u.vm.Alike U.vm) (hr : ∀ (own : String) (k : Nat) (tx : String) (a : Nat), vk_R own k tx a u → vk_R own k tx a U) (h : hf_Kx G u) : hf_Kx G U := by
  obtain ⟨⟨scr, h1, h2, h3⟩, h4, h5, h6, h7, h8, h9⟩ := h
  exact ⟨⟨scr, h1, State.isArrayOf_alike hvm h2, h3⟩, h4.moved hvm, fun i hi => hr _ _ _ _ (h5 i hi), h6.moved hvm, h7.moved hvm, h8.elim (fun h => Or.inl (h.moved hvm)) (fun h => Or.inr (h.moved hvm)), h9.moved hvm hr⟩
def hf_K (G : hf_E) (U : State) : Prop := va_K G.2.2.1 vwCl [] U ∧ (∀ tg, 20 ≤ tg → tg < 25 → hf_arr G U tg) ∧ (∀ w ∈ hf_nest, va_Nw w U) ∧ hf_Kx G U
theorem hf_K.alike {G : hf_E} {u U : State} (hvm : u.vm = U.vm) (h : hf_K G u) : hf_K G U := by
  refine ⟨va_K.moved (hvm ▸ Vm.Alike.refl _) h.1, fun tg h1 h2 => ?_, fun w hw => ?_, h.2.2.2.moved (hvm ▸ Vm.Alike.refl _) (fun own k tx a hr => hr.same hvm.symm)⟩
  · obtain ⟨kA, comp, a1, a2, a3, a4⟩ := h.2.1 tg h1 h2
    exact ⟨kA, comp, by rw [← hvm]; exact a1, a2, a3, by rw [← hvm]; exact a4⟩
  · have h1 := h.2.2.1 w hw
    refine va_Nw.same ?_ hvm h1
    have : ∀ w ∈ hf_nest, w.onTables = true := by decide +kernel
    exact this w hw
theorem hf_K.warm {G : hf_E} {s U : State} (hW : s.WarmedH U.vm) (h : hf_K G s) : hf_K G U := by
  refine ⟨va_K.moved hW.alike h.1, fun tg h1 h2 => ?_, fun w hw => ?_, h.2.2.2.moved hW.alike (fun own k tx a hr => hr.warm hW)⟩
  · obtain ⟨kA, comp, a1, a2, a3, a4⟩ := h.2.1 tg h1 h2
    obtain ⟨k', hk', he⟩ := hW.alike.2.2 _ _ a1
    exact ⟨k', comp, hk', by rw [he]; exact a2, a3, by rw [hW.alike.findClass]; exact a4⟩
  · have h1 := h.2.2.1 w hw
    simp only [hf_nest, List.mem_cons, List.not_mem_nil, or_false] at hw
    rcases hw with rfl | rfl | rfl | rfl | rfl | rfl | rfl | rfl | rfl | rfl | rfl | rfl | rfl <;> exact va_Nw.warmM hW h1
