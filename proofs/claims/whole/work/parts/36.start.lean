/-! THE LAW'S ENTRY: what the plain machine needs of the tables and of the start -/
def hs_fl : List Cond := flatC (Jvm.Cond.and given_1 narrow_1)
def hs_tm (i : Nat) : Term := .string RX9 (hf_sidx.getD i 0)
def hs_cl : List Nat := [40, 46, 55, 65, 75, 85, 97, 110, 125, 141, 159, 177, 197, 216, 236, 259]
theorem hs_ex0 : ∀ i, i < 16 → hs_fl[hs_cl.getD i 0 - 1]? = some (Cond.exactly (hs_tm i) "java/lang/String") := by decide +kernel
theorem hs_ex : ∀ i, i < 16 → Cond.exactly (hs_tm i) "java/lang/String" ∈ hs_fl := fun i hi => List.mem_of_getElem? (hs_ex0 i hi)
theorem hs_co0 : ∀ i, i < 16 → hs_fl[hs_cl.getD i 0]? = some (Cond.eq (.field (hs_tm i) "java/lang/String" "coder" "B") (.int 0)) := by decide +kernel
theorem hs_co : ∀ i, i < 16 → Cond.eq (.field (hs_tm i) "java/lang/String" "coder" "B") (.int 0) ∈ hs_fl := fun i hi => List.mem_of_getElem? (hs_co0 i hi)
theorem hs_ar0 : ∀ i, i < 16 → hs_fl[hs_cl.getD i 0 + 1]? = some (Cond.arrayOf (.field (hs_tm i) "java/lang/String" "value" "[B") .byte) := by decide +kernel
theorem hs_ar : ∀ i, i < 16 → Cond.arrayOf (.field (hs_tm i) "java/lang/String" "value" "[B") .byte ∈ hs_fl := fun i hi => List.mem_of_getElem? (hs_ar0 i hi)
theorem hs_le0 : ∀ i, i < 16 → hs_fl[hs_cl.getD i 0 + 2]? = some (Cond.eq (.length (.field (hs_tm i) "java/lang/String" "value" "[B")) (.int (Int32.ofNat (hf_slen.getD i 0)))) := by decide +kernel
theorem hs_le : ∀ i, i < 16 → Cond.eq (.length (.field (hs_tm i) "java/lang/String" "value" "[B")) (.int (Int32.ofNat (hf_slen.getD i 0))) ∈ hs_fl := fun i hi => List.mem_of_getElem? (hs_le0 i hi)
theorem hs_el0 : ∀ i, i < 16 → ∀ j, j < hf_slen.getD i 0 → hs_fl[hs_cl.getD i 0 + 3 + j]? = some (Cond.eq (.elem (.field (hs_tm i) "java/lang/String" "value" "[B") (.int (Int32.ofNat j))) (.int ((hf_sbyt.getD i []).getD j 0))) := by decide +kernel
theorem hs_el : ∀ i, i < 16 → ∀ j, j < hf_slen.getD i 0 → Cond.eq (.elem (.field (hs_tm i) "java/lang/String" "value" "[B") (.int (Int32.ofNat j))) (.int ((hf_sbyt.getD i []).getD j 0)) ∈ hs_fl := fun i hi j hj => List.mem_of_getElem? (hs_el0 i hi j hj)
theorem hs_ne0 : ∀ j, j < 16 → ∀ i, i < j → hs_fl[hs_cl.getD j 0 + 3 + hf_slen.getD j 0 + i]? = some (Cond.not (Cond.eq (hs_tm i) (hs_tm j))) := by decide +kernel
theorem hs_ne : ∀ i, i < 16 → ∀ j, j < 16 → i ≠ j → Cond.not (Cond.eq (hs_tm i) (hs_tm j)) ∈ hs_fl ∨ Cond.not (Cond.eq (hs_tm j) (hs_tm i)) ∈ hs_fl := by
  intro i hi j hj hij
  rcases Nat.lt_or_gt_of_ne hij with h | h
  · exact Or.inl (List.mem_of_getElem? (hs_ne0 j hj i h))
  · exact Or.inr (List.mem_of_getElem? (hs_ne0 i hi j h))
theorem hs_cs : Cond.eq (.static "java/lang/String" "COMPACT_STRINGS" "Z") (.int 1) ∈ hs_fl := by decide +kernel
theorem hs_fm : Cond.isRef (.static "jdk/internal/util/Preconditions" "SIOOBE_FORMATTER" "Ljava/util/function/BiFunction;") ∈ hs_fl := by decide +kernel
theorem hs_us : Cond.isRef (.static Bundle.tN "UNASSIGNED_STACK" Bundle.steD) ∈ hs_fl := by decide +kernel
theorem hs_ss : Cond.isRef (.static Bundle.tN "SUPPRESSED_SENTINEL" Bundle.listD) ∈ hs_fl := by decide +kernel
theorem hs_nc : Cond.not (.castable "java/util/NoSuchElementException" "java/lang/IndexOutOfBoundsException") ∈ hs_fl := by decide +kernel
theorem hs_e1 : Cond.exactly (.string RX11 128) "java/lang/String" ∈ hs_fl := by decide +kernel
theorem hs_e2 : Cond.exactly (.string RX11 144) "java/lang/String" ∈ hs_fl := by decide +kernel
theorem hs_sr : ∀ i, i < 16 → Cond.stringRef RX9 (hf_sidx.getD i 0) (hf_stxt.getD i "") ∈ lw_tbl := by decide +kernel
theorem hs_s1 : Cond.stringRef RX11 128 "no such kind" ∈ lw_tbl := by decide +kernel
theorem hs_s2 : Cond.stringRef RX11 144 "no such what" ∈ lw_tbl := by decide +kernel
theorem hs_l1 : Cond.laysStatic "java/lang/String" "COMPACT_STRINGS" "Z" ∈ lw_tbl := by decide +kernel
theorem hs_l2 : Cond.laysStatic "jdk/internal/util/Preconditions" "SIOOBE_FORMATTER" "Ljava/util/function/BiFunction;" ∈ lw_tbl := by decide +kernel
theorem hs_l3 : Cond.laysStatic Bundle.tN "UNASSIGNED_STACK" Bundle.steD ∈ lw_tbl := by decide +kernel
theorem hs_l4 : Cond.laysStatic Bundle.tN "SUPPRESSED_SENTINEL" Bundle.listD ∈ lw_tbl := by decide +kernel
theorem hs_i1 : Cond.initialized "java/lang/String" ∈ lw_tbl := by decide +kernel
theorem hs_i2 : Cond.initialized "jdk/internal/util/Preconditions" ∈ lw_tbl := by decide +kernel
theorem hs_i3 : Cond.initialized Bundle.tN ∈ lw_tbl := by decide +kernel
theorem hs_xw : ∀ w ∈ hf_xw, w ∈ lw_tbl := by decide +kernel
theorem hs_nest : ∀ w ∈ hf_nest, w ∈ lw_tbl := by decide +kernel
theorem hs_neso : ∀ w ∈ hf_nest, w.onTables = true := by decide +kernel
theorem hs_ao : Cond.arrayOver (.array .int) ∈ lw_tbl := by decide +kernel
/-- the plain machine's start: the script in row 0 -/
def hs_σ (L : Nat) (xs : Nat → Int32) : hf_S := (0, (fun a => if a = 0 then (20, L) else (0, 0)), (fun b j => if b = 0 then (xs j).toInt else 0))
theorem hs_K {s : State} {b L : Nat} {xs : Nat → Int32} (hts : ∀ w ∈ lw_tbl, w.before #[Value.ref b] s = true) (hgv : (Jvm.Cond.and given_1 narrow_1).before #[Value.ref b] s = true) (hX : va_X b L xs s s.heap) (hL : L ≤ 3072) : ∃ G : hf_E, G.1 = s.heap ∧ G.2.1 1 = b ∧ hf_K G s ∧ hf_P G (hs_σ L xs) s.heap := by
  have hg := flat_of_before _ hgv
  have hA : ∀ a : Nat, a < s.heap.size → ¬ (fun q : Nat => s.heap.size ≤ q) a := fun a h1 h2 => absurd h1 (Nat.not_lt.mpr h2)
  have htb : ∀ w ∈ hf_all, w.before #[Value.ref b] s = true := fun w hw => hts w (List.mem_filter.mp hw).1
  -- the classes
  have hcl : ∀ (k : Nat) (q : vw_C), vwCl[k]? = some q → ∃ (cC : ClassId) (iS : Nat → Nat), u_Kn s q.1 q.2.1 q.2.2 cC iS := by
    intro k q h
    match k, h with
    | 0, h => cases h; exact u_known htb hf_inX0 (htb _ it_X0)
    | 1, h => cases h; exact u_known htb hf_inX1 (htb _ it_X1)
    | 2, h => cases h; exact u_known htb hf_inX2 (htb _ it_X2)
    | 3, h => cases h; exact u_known htb hf_inX3 (htb _ it_X3)
    | 4, h => cases h; exact u_known htb hf_inX4 (htb _ it_X4)
    | 5, h => cases h; exact u_known htb hf_inX5 (htb _ it_X5)
    | 6, h => cases h; exact u_known htb hf_inX6 (htb _ it_X6)
    | 7, h => cases h; exact u_known htb hf_inX7 (htb _ it_X7)
    | 8, h => cases h; exact u_known htb hf_inX8 (htb _ it_X8)
    | 9, h => cases h; exact u_known htb hf_inX9 (htb _ it_X9)
    | 10, h => cases h; exact u_known htb hf_inX10 (htb _ it_X10)
    | 11, h => cases h; exact u_known htb hf_inX11 (htb _ it_X11)
    | 12, h => cases h; exact u_known htb hf_inX12 (htb _ it_X12)
    | n + 13, h => cases h
  have hcl2 : ∀ k : Nat, ∃ z : ClassId × (Nat → Nat), ∀ q : vw_C, vwCl[k]? = some q → u_Kn s q.1 q.2.1 q.2.2 z.1 z.2 := by
    intro k
    cases hk : vwCl[k]? with
    | none => exact ⟨(0, fun _ => 0), fun q h => by cases h⟩
    | some q =>
      obtain ⟨cC, iS, h⟩ := hcl k q hk
      exact ⟨(cC, iS), fun q' h' => by cases h'; exact h⟩
  obtain ⟨D, hD⟩ := Classical.axiomOfChoice hcl2
  -- the arrays
  obtain ⟨a0, k0, m0, i1, i2, i3⟩ := Cond.arrayClass_spec (htb _ ac_int)
  obtain ⟨a1, k1, m1, j1, j2, j3⟩ := Cond.arrayClass_spec (htb _ ac_long)
  obtain ⟨a2, k2, m2, b1, b2, b3⟩ := Cond.arrayClass_spec (htb _ ac_byte)
  obtain ⟨a3, k3, m3, z1, z2, z3⟩ := Cond.arrayClass_spec (htb _ ac_boolean)
  obtain ⟨m4, a4, k4, r1, r2, r3, r4⟩ := Cond.arrayOver_specA (hts _ hs_ao)
  have em : m4 = a0 := Option.some.inj (r1.symm.trans i1)
  -- the texts
  obtain ⟨adK, adV, hS, hev⟩ := vk_Sof (args := #[Value.ref b]) (s := s) (N := 16) (tm := hs_tm) (len := hf_slen) (byt := hf_sbyt) (A := fun q => s.heap.size ≤ q) (fun i hi => by have := hf_slen_lt i hi; omega) (fun i hi => hg _ (hs_ex i hi)) (fun i hi => hg _ (hs_co i hi)) (fun i hi => hg _ (hs_ar i hi)) (fun i hi => hg _ (hs_le i hi)) (fun i hi j hj => hg _ (hs_el i hi j hj)) (fun i j hi hj hij => (hs_ne i hi j hj hij).elim (fun h => Or.inl (hg _ h)) (fun h => Or.inr (hg _ h))) hA
  obtain ⟨t1, -, -, -, e1, -⟩ := Cond.exactly_spec (args := #[Value.ref b]) (first := s) (o := none) (s := s) (idx := []) (hg _ hs_e1)
  obtain ⟨t2, -, -, -, e2, -⟩ := Cond.exactly_spec (args := #[Value.ref b]) (first := s) (o := none) (s := s) (idx := []) (hg _ hs_e2)
  have hfm := va_Zqof (args := #[Value.ref b]) (A := fun q => s.heap.size ≤ q) (hts _ hs_l2) (hts _ hs_i2) (hg _ hs_fm) hA
  obtain ⟨t3, hfm⟩ : ∃ t3 : Nat, va_Z "jdk/internal/util/Preconditions" "SIOOBE_FORMATTER" "Ljava/util/function/BiFunction;" .null (fun q => s.heap.size ≤ q) s s.heap ∨ va_Z "jdk/internal/util/Preconditions" "SIOOBE_FORMATTER" "Ljava/util/function/BiFunction;" (.ref t3) (fun q => s.heap.size ≤ q) s s.heap := by
    rcases hfm with h | ⟨t, h⟩
    · exact ⟨0, Or.inl h⟩
    · exact ⟨t, Or.inr h⟩
  obtain ⟨scr, x1, x2, x3, x4, x5⟩ := hX
  refine ⟨(s.heap, (fun n => if n = 1 then b else if n = 100 then t3 else if n = 101 then t1 else if n = 102 then t2 else if n % 2 = 0 then adK ((n - 2) / 2) else adV ((n - 3) / 2)), ((fun k => (D k).1), fun k => (D k).2), (fun tg => if tg = 20 then a0 else if tg = 21 then a1 else if tg = 22 then a2 else if tg = 23 then a3 else a4)), rfl, rfl, ?_, ?_⟩
  · refine ⟨⟨fun k q h => hD k q h, fun k q h => by simp at h⟩, fun tg g1 g2 => ?_, fun w hw => va_Nw.of (hs_neso w hw) (hts _ (hs_nest w hw)), ⟨scr, x1, x2, x3⟩, ?_, fun i hi => ?_, va_Zof (args := #[Value.ref b]) (hts _ hs_l1) (hts _ hs_i1) (va_eqi (hg _ hs_cs)) hA, ?_, hfm, ?_⟩
    · rcases (show tg = 20 ∨ tg = 21 ∨ tg = 22 ∨ tg = 23 ∨ tg = 24 by omega) with rfl | rfl | rfl | rfl | rfl
      · exact ⟨k0, m0, i2, i3, fun h => by omega, i1⟩
      · exact ⟨k1, m1, j2, j3, fun h => by omega, j1⟩
      · exact ⟨k2, m2, b2, b3, fun h => by omega, b1⟩
      · exact ⟨k3, m3, z2, z3, fun h => by omega, z1⟩
      · exact ⟨k4, m4, r2, r3, fun _ => em, r4⟩
    · refine ⟨fun i hi => ?_, fun i j hi hj => ?_⟩
      · have h := hS.1 i hi
        have f1 : (if 2 * i + 2 = 1 then b else if 2 * i + 2 = 100 then t3 else if 2 * i + 2 = 101 then t1 else if 2 * i + 2 = 102 then t2 else if (2 * i + 2) % 2 = 0 then adK ((2 * i + 2 - 2) / 2) else adV ((2 * i + 2 - 3) / 2)) = adK i := by
          rw [if_neg (by omega), if_neg (by omega), if_neg (by omega), if_neg (by omega), if_pos (by omega)]; congr 1; omega
        have f2 : (if 2 * i + 3 = 1 then b else if 2 * i + 3 = 100 then t3 else if 2 * i + 3 = 101 then t1 else if 2 * i + 3 = 102 then t2 else if (2 * i + 3) % 2 = 0 then adK ((2 * i + 3 - 2) / 2) else adV ((2 * i + 3 - 3) / 2)) = adV i := by
          rw [if_neg (by omega), if_neg (by omega), if_neg (by omega), if_neg (by omega), if_neg (by omega)]; congr 1; omega
        simp only [f1, f2]
        exact h
      · have f1 : ∀ i, i < 16 → (if 2 * i + 2 = 1 then b else if 2 * i + 2 = 100 then t3 else if 2 * i + 2 = 101 then t1 else if 2 * i + 2 = 102 then t2 else if (2 * i + 2) % 2 = 0 then adK ((2 * i + 2 - 2) / 2) else adV ((2 * i + 2 - 3) / 2)) = adK i := fun i hi => by
          rw [if_neg (by omega), if_neg (by omega), if_neg (by omega), if_neg (by omega), if_pos (by omega)]; congr 1; omega
        simp only [f1 i hi, f1 j hj]
        exact hS.2 i j hi hj
    · have f1 : (if 2 * i + 2 = 1 then b else if 2 * i + 2 = 100 then t3 else if 2 * i + 2 = 101 then t1 else if 2 * i + 2 = 102 then t2 else if (2 * i + 2) % 2 = 0 then adK ((2 * i + 2 - 2) / 2) else adV ((2 * i + 2 - 3) / 2)) = adK i := by
        rw [if_neg (by omega), if_neg (by omega), if_neg (by omega), if_neg (by omega), if_pos (by omega)]; congr 1; omega
      simp only [f1]
      exact vk_R.of (A := #[Value.ref b]) (hts _ (hs_sr i hi)) (hev i hi)
    · exact hts _ hs_ao
    · exact ⟨va_Nc.of (hg _ hs_nc), vx_Zqof (hts _ hs_l3) (hts _ hs_i3) (hg _ hs_us) hA, vx_Zqof (hts _ hs_l4) (hts _ hs_i3) (hg _ hs_ss) hA, vk_R.of (A := #[Value.ref b]) (hts _ hs_s1) e1, vk_R.of (A := #[Value.ref b]) (hts _ hs_s2) e2, fun w hw => va_Nw.of (hx_xw_ot w hw) (hts _ (hs_xw w hw))⟩
  · refine ⟨rfl, fun q _ => rfl, fun a ha => absurd ha (Nat.not_lt_zero a), Nat.zero_le _, Nat.zero_le _, scr, x1, x4, by show L ≤ hf_cs; unfold hf_cs; omega, fun j hj => ?_⟩
    show scr.slots[j]? = some (.int (Int32.ofInt (xs j).toInt))
    rw [Int32.ofInt_toInt]
    exact x5 j hj
