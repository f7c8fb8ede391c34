/-! Arrays.copyOf of bytes -/
def hf_cp (x y n : Int) : hf_M Unit := fun σ => if hf_is σ 22 x ∧ hf_is σ 22 y ∧ ¬ x = y ∧ 0 ≤ n ∧ n ≤ (σ.2.1 x.toNat).2 ∧ n ≤ (σ.2.1 y.toNat).2 ∧ (∀ i, i < n.toNat → -128 ≤ σ.2.2 x.toNat i ∧ σ.2.2 x.toNat i ≤ 127) then some ((), (σ.1, σ.2.1, fun b j => if b = y.toNat ∧ j < n.toNat then σ.2.2 x.toNat j else σ.2.2 b j)) else none
theorem hf_cp_some {x y n : Int} {f : Unit → hf_M Int} {σ : hf_S} {z : Int × hf_S} (h : hf_bd (hf_cp x y n) f σ = some z) : (hf_is σ 22 x ∧ hf_is σ 22 y ∧ ¬ x = y ∧ 0 ≤ n ∧ n ≤ (σ.2.1 x.toNat).2 ∧ n ≤ (σ.2.1 y.toNat).2 ∧ (∀ i, i < n.toNat → -128 ≤ σ.2.2 x.toNat i ∧ σ.2.2 x.toNat i ≤ 127)) ∧ f () (σ.1, σ.2.1, fun b j => if b = y.toNat ∧ j < n.toNat then σ.2.2 x.toNat j else σ.2.2 b j) = some z := by
  unfold hf_bd hf_cp at h
  by_cases hi : hf_is σ 22 x ∧ hf_is σ 22 y ∧ ¬ x = y ∧ 0 ≤ n ∧ n ≤ (σ.2.1 x.toNat).2 ∧ n ≤ (σ.2.1 y.toNat).2 ∧ (∀ i, i < n.toNat → -128 ≤ σ.2.2 x.toNat i ∧ σ.2.2 x.toNat i ≤ 127)
  · rw [if_pos hi] at h; exact ⟨hi, h⟩
  · rw [if_neg hi] at h; cases h
theorem hf_acp {M : hf_D} {pc : Nat} {lv : List (Nat × Nat × Int)} {st : List (Nat × Int)} {x y n : Int} {f : Unit → hf_M Int} {ix : Nat} (hl : Cond.methodLink M.1.cls ix arraycopyName ∈ hf_all) (hR : 1 ≤ M.2.2.2.2.1 ∧ hf_stw st + 18 ≤ M.2.2.2.2.2) (hdg : decode M.2.1 pc = .ok (.invokestatic ix, 3)) (h : hf_J M (pc + 3) lv st (f ())) : hf_J M pc lv ((0, n) :: (0, 0) :: (2, y) :: (0, 0) :: (2, x) :: st) (hf_bd (hf_cp x y n) f) := by
  intro p l e R s m args below meth c G n0 s0 C H locs ls σ σ' r cells slots Q hP hL hlv hk hret
  obtain ⟨⟨hix, hiy, hxy, hn0, hnx, hny, hby⟩, hk⟩ := hf_cp_some hk
  obtain ⟨a, ca, a1, a2, a3, a4, a5, a6⟩ := hP.get hix
  obtain ⟨b, cb, b1, b2, b3, b4, b5, b6⟩ := hP.get hiy
  have C0 := C
  obtain ⟨hx, hb, hml, hown, hts, -, -, -, ⟨hRf, hRl, hRc, hRs⟩, hsz, hs0, hK⟩ := C
  show W p l e R s m args below meth c H locs cells slots Q (F0 m pc ls (.int (Int32.ofInt n) :: .int (Int32.ofInt 0) :: hf_v G 2 y :: .int (Int32.ofInt 0) :: hf_v G 2 x :: st.map (hf_w G)))
  rw [a3, b3]
  rw [a1] at hnx hby hk
  rw [b1] at hny hk
  have hab : a ≠ b := fun q => hxy (by omega)
  have hla := hP.len a2
  have hlb := hP.len b2
  unfold hf_cs at hla hlb
  have hri : hf_inI n := ⟨by omega, by omega⟩
  have ecl : (Int32.ofInt n).toNatClampNeg = n.toNat := by show (Int32.ofInt n).toInt.toNat = n.toNat; rw [hf_toInt hri]
  have e0 : (Int32.ofInt 0).toNatClampNeg = 0 := rfl
  obtain ⟨kA, comp, t1, t2, -, -⟩ := hK.2.1 22 (by omega) (by omega)
  have hca : ca.cls = G.2.2.2 22 := by have := a5.2.2.1 (by omega); rw [this, a6]; unfold hf_cls; rw [if_neg (by omega)]
  have hcb : cb.cls = G.2.2.2 22 := by have := b5.2.2.1 (by omega); rw [this, b6]; unfold hf_cls; rw [if_neg (by omega)]
  have hel : ∀ i, i < n.toNat → ca.slots.getD (0 + i) .null = .int (Int32.ofInt (σ.2.2 (a + 1) i)) := fun i hi => by
    rw [Array.getD_eq_getD_getElem?, Nat.zero_add, hf_elem (tg := 22) (by omega) (by omega) a5 a6 (by omega)]; rfl
  intro T hT X
  obtain ⟨vm', X', step⟩ := X.arraycopy hx hown (hts _ hl) (hts _ ac_nat) (hts _ ac_stat) (hts _ ac_ini) (src := G.1.size + a) (dst := G.1.size + b) (cs := ca) (cd := cb) (srcPos := Int32.ofInt 0) (destPos := Int32.ofInt 0) (n := Int32.ofInt n) (by rw [hT]; exact a4) (by rw [hT]; exact b4)
    (fun k hk => by rw [a5.1] at hk; cases hk) (fun k hk => by rw [b5.1] at hk; cases hk) (by rw [a5.1]; exact fun h => by cases h) (by rw [b5.1]; exact fun h => by cases h) (by rw [hca]; exact t1) (by rw [hcb]; exact t1) t2 t2 (by decide)
    (by decide) (by decide) (fun hn => by have := (hf_lt0 hri).mp hn; omega) (by rw [hf_toInt hri, a5.2.1]; show ¬ (0 : Int) + n > _; omega) (by rw [hf_toInt hri, b5.2.1]; show ¬ (0 : Int) + n > _; omega)
    (fun vm1 _ i hi => by
      rw [ecl] at hi
      rw [e0, hel i hi]
      refine ⟨?_, trivial⟩
      obtain ⟨g1, g2⟩ := hby i hi
      show (decide ((-128 : Int32) ≤ Int32.ofInt (σ.2.2 (a + 1) i)) && decide (Int32.ofInt (σ.2.2 (a + 1) i) ≤ 127)) = true
      rw [Bool.and_eq_true, decide_eq_true_iff, decide_eq_true_iff]
      exact ⟨(hf_leI (a := -128) (by decide) ⟨by omega, by omega⟩).mpr g1, (hf_leI (b := 127) ⟨by omega, by omega⟩ (by decide)).mpr g2⟩)
    (g := F0 m pc ls (.int (Int32.ofInt n) :: .int (Int32.ofInt 0) :: .ref (G.1.size + b) :: .int (Int32.ofInt 0) :: .ref (G.1.size + a) :: st.map (hf_w G))) rfl (hlv.1.trans hml.symm) (rest := st.map (hf_w G)) rfl (by rw [hb]; exact hdg) (by rw [hRf]; exact hR.1) (by rw [hf_stw_eq G st, hRl]; show 2 * 0 + hf_stw st + (7 + 11) ≤ _; omega)
  have hbH : G.1.size + b < H.size := (Array.getElem?_eq_some_iff.mp b4).1
  have hheap : ((T.setVm vm').setCell (G.1.size + b) (copied ca cb (Int32.ofInt 0) (Int32.ofInt 0) (Int32.ofInt n))).heap = H.setIfInBounds (G.1.size + b) (copied ca cb (Int32.ofInt 0) (Int32.ofInt 0) (Int32.ofInt n)) := by rw [← hT]; rfl
  have hfacts := Cell.storeRun_facts cb 0 (ca.stretch 0 n.toNat)
  have hcop : copied ca cb (Int32.ofInt 0) (Int32.ofInt 0) (Int32.ofInt n) = cb.storeRun 0 (ca.stretch 0 n.toNat) := by unfold copied; rw [ecl, e0]
  have hstl : (ca.stretch 0 n.toNat).length = n.toNat := by simp [Cell.stretch]
  have hP2 : hf_P G (σ.1, σ.2.1, fun z j => if z = b + 1 ∧ j < n.toNat then σ.2.2 (a + 1) j else σ.2.2 z j) (H.setIfInBounds (G.1.size + b) (copied ca cb (Int32.ofInt 0) (Int32.ofInt 0) (Int32.ofInt n))) := by
    rw [hcop]
    refine ⟨by rw [Array.size_setIfInBounds]; exact hP.1, fun q hq => ?_, fun z hz => ?_, hP.2.2.2.1, hP.2.2.2.2.1, by simpa [hf_X] using hP.2.2.2.2.2⟩
    · rw [Array.getElem?_setIfInBounds_ne (by omega)]; exact hP.2.1 q hq
    · by_cases hzb : z = b
      · subst hzb
        refine ⟨_, Array.getElem?_setIfInBounds_self_of_lt hbH, ?_⟩
        refine ⟨hfacts.2.1.trans b5.1, hfacts.2.2.1.trans b5.2.1, fun hlt => hfacts.1.trans (b5.2.2.1 hlt), fun j hj => ?_⟩
        have hj2 : j < (σ.2.1 (z + 1)).2 := by unfold hf_num at hj; rw [b6, if_neg (by omega), if_pos (by omega)] at hj; exact hj
        have es : hf_slot G (σ.2.1 (z + 1)).1 j = j := by unfold hf_slot; rw [b6, if_neg (by omega)]
        have et : hf_ty (σ.2.1 (z + 1)).1 j = .byte := by unfold hf_ty; rw [b6, if_neg (by omega)]; rfl
        show (cb.storeRun 0 (ca.stretch 0 n.toNat)).slots[hf_slot G (σ.2.1 (z + 1)).1 j]? = some (hf_v G (hf_code (hf_ty (σ.2.1 (z + 1)).1 j)) (if z + 1 = z + 1 ∧ j < n.toNat then σ.2.2 (a + 1) j else σ.2.2 (z + 1) j))
        rw [es, et, Cell.storeRun_get _ _ _ _ (by rw [hstl, b5.2.1]; omega), hstl]
        by_cases hjn : j < n.toNat
        · rw [if_pos ⟨by omega, by omega⟩, if_pos ⟨rfl, hjn⟩]
          unfold Cell.stretch
          rw [List.getElem?_map, List.getElem?_range (by omega), Option.map_some, show j - 0 = j by omega, hel j hjn]
          rfl
        · rw [if_neg (by omega), if_neg (by omega), hf_elem (tg := 22) (by omega) (by omega) b5 b6 hj2]
          rfl
      · obtain ⟨cz, q1, q2⟩ := hP.2.2.1 z hz
        refine ⟨cz, by rw [Array.getElem?_setIfInBounds_ne (by omega)]; exact q1, ?_⟩
        have e9 : (fun z j => if z = b + 1 ∧ j < n.toNat then σ.2.2 (a + 1) j else σ.2.2 z j) (z + 1) = σ.2.2 (z + 1) := by
          funext j; exact if_neg (fun q => hzb (by omega))
        show hf_cell G (σ.2.1 (z + 1)) ((fun z j => if z = b + 1 ∧ j < n.toNat then σ.2.2 (a + 1) j else σ.2.2 z j) (z + 1)) cz
        rw [e9]; exact q2
  have w := h p l e R s m args below meth c G n0 s0 C0 _ (locs ++ (ca.stretch (Int32.ofInt 0).toNatClampNeg (Int32.ofInt n).toNatClampNeg).zipIdx.map fun q => ⟨G.1.size + b, (Int32.ofInt 0).toNatClampNeg + q.2⟩) ls _ σ' r cells slots Q hP2 (fun z hz => ?_) hlv hk hret
  · obtain ⟨t2, g1, g2⟩ := w _ hheap X'
    exact ⟨t2, step t2 g1, g2⟩
  · rcases List.mem_append.mp hz with hz | hz
    · exact hL z hz
    · obtain ⟨q, -, hq⟩ := List.mem_map.mp hz
      rw [← hq]; exact Nat.le_add_right _ _
def M_J7_copyOf_9075b : hf_D := (yJ7_copyOf_9075b, cJ7_copyOf_9075b, 3, some (.array .byte), 1, 40)
def f_J7_copyOf_9075b (x0 x1 : Int) : hf_M Int := hf_bd (hf_an 22 x0) (fun v2 => hf_cb x1 v2 (¬ x1 = v2) (hf_bd (hf_na 22 x1) (fun v15 => hf_bd (hf_an 22 x0) (fun v23 => hf_ck (hf_inI v23 ∧ hf_inI x1) (hf_bd (hf_ret (min v23 x1)) (fun v25 => hf_bd (hf_cp x0 v15 v25) (fun _ => hf_ret v15)))))) hf_none)
theorem cal_J7_copyOf_9075b : hf_csx M_J7_copyOf_9075b 2 := ⟨⟨ii_J7, kc_J7_copyOf_9075b, by decide, by decide, by decide +kernel⟩, ks_J7_copyOf_9075b⟩
theorem c_J7_copyOf_9075b (x0 x1 : Int) : hf_Met M_J7_copyOf_9075b [2, 0] [x0, x1] (f_J7_copyOf_9075b x0 x1) := by
  refine hf_met rfl (by decide) (by decide) (by decide) ?_
  show hf_J M_J7_copyOf_9075b 0 [(0, 2, x0), (1, 0, x1)] [] _
  refine hf_ild_n (pc := 0) 1 rfl rfl dJ7_copyOf_9075b_0 ?_
  refine hf_ald_n (pc := 1) 0 rfl rfl dJ7_copyOf_9075b_1 ?_
  refine hf_alen (pc := 2) 22 (by decide) (by decide) dJ7_copyOf_9075b_2 (fun v2 => ?_)
  refine hf_icmp_ne (pc := 3) 14 dJ7_copyOf_9075b_3 rfl ?_ ?_
  · refine hf_ild_n (pc := 14) 1 rfl rfl dJ7_copyOf_9075b_14 ?_
    refine hf_newa0 (pc := 15) (tg := 22) (by decide) (by decide) rfl ac_byte dJ7_copyOf_9075b_15 (fun v15 => ?_)
    refine hf_ast_n (pc := 17) (lv' := [(2, 2, v15), (0, 2, x0), (1, 0, x1)]) rfl (by decide) rfl dJ7_copyOf_9075b_17 ?_
    refine hf_ald_n (pc := 18) 1 rfl rfl dJ7_copyOf_9075b_18 ?_
    refine hf_iconst (pc := 19) dJ7_copyOf_9075b_19 ?_
    refine hf_ald_n (pc := 20) 0 rfl rfl dJ7_copyOf_9075b_20 ?_
    refine hf_iconst (pc := 21) dJ7_copyOf_9075b_21 ?_
    refine hf_ald_n (pc := 22) 1 rfl rfl dJ7_copyOf_9075b_22 ?_
    refine hf_alen (pc := 23) 22 (by decide) (by decide) dJ7_copyOf_9075b_23 (fun v23 => ?_)
    refine hf_ild_n (pc := 24) 2 rfl rfl dJ7_copyOf_9075b_24 ?_
    refine hf_mmin (pc := 25) ml_J7_304 ⟨hf_le rfl, hf_le rfl⟩ dJ7_copyOf_9075b_25 (fun v25 => ?_)
    refine hf_acp (pc := 28) ac_link ⟨hf_le rfl, hf_le rfl⟩ dJ7_copyOf_9075b_28 ?_
    refine hf_ald_n (pc := 31) 0 rfl rfl dJ7_copyOf_9075b_31 ?_
    exact hf_Jret (pc := 32) dJ7_copyOf_9075b_32 (fun _ => rfl)
  · exact hf_no (fun _ => rfl)
