/-! TEXTS: the constants of Token -/
theorem hf_sv (G : hf_E) (i : Nat) : hf_v G 2 (-(2 * (i : Int) + 2)) = .ref (G.2.1 (2 * i + 2)) := by
  rw [hf_v_ref, if_neg (by omega), if_neg (by omega)]; congr 2
theorem hf_sw (G : hf_E) (i : Nat) : hf_v G 2 (-(2 * (i : Int) + 3)) = .ref (G.2.1 (2 * i + 3)) := by
  rw [hf_v_ref, if_neg (by omega), if_neg (by omega)]; congr 2
theorem hf_keptG {G : hf_E} {σ : hf_S} {H : Heap} (hP : hf_P G σ H) : ∀ a : Nat, a < G.1.size → ¬ (fun q => G.1.size ≤ q) a → H[a]? = G.1[a]? := fun a ha _ => hP.2.1 a ha
section HFS
variable {M N : hf_D} {pc : Nat} {lv : List (Nat × Nat × Int)} {st stk : List (Nat × Int)} {ts : List Nat} {vs : List Int} {k mm : hf_M Int} {f : Int → hf_M Int}
theorem hf_ldcs (i : Nat) {ix : Nat} (hi : i < 16) (hx0 : hf_sidx.getD i 0 = ix) (hdg : decode M.2.1 pc = .ok (.ldc ix, 2)) (hown0 : M.1.cls = RX9) (h : hf_J M (pc + 2) lv ((2, -(2 * (i : Int) + 2)) :: st) k) : hf_J M pc lv st k := by
  intro p l e R s m args below meth c G n0 s0 C H locs ls σ σ' r cells slots Q hP hL hlv hk hret
  have w := h p l e R s m args below meth c G n0 s0 C H locs ls σ σ' r cells slots Q hP hL hlv hk hret
  obtain ⟨hx, hb, -, hown, hts, -, -, -, -, -, -, hK⟩ := C
  have hR := hK.2.2.2.2.2.1 i hi
  rw [hx0] at hR
  rw [hown0] at hown
  refine va_ldcS hx hb hown hR hdg ?_
  rw [List.map_cons] at w
  change W p l e R s m args below meth c H locs cells slots Q (F0 m (pc + 2) ls (hf_v G 2 (-(2 * (i : Int) + 2)) :: st.map (hf_w G))) at w
  rw [hf_sv] at w
  exact w
theorem hf_sgv {i ix : Nat} (hi : i < 16) (hl : Cond.fieldLink M.1.cls ix "java/lang/String" "value" "[B" ∈ hf_all) (hdg : decode M.2.1 pc = .ok (.getfield ix, 3)) (h : hf_J M (pc + 3) lv ((2, -(2 * (i : Int) + 3)) :: st) k) : hf_J M pc lv ((2, -(2 * (i : Int) + 2)) :: st) k := by
  intro p l e R s m args below meth c G n0 s0 C H locs ls σ σ' r cells slots Q hP hL hlv hk hret
  have w := h p l e R s m args below meth c G n0 s0 C H locs ls σ σ' r cells slots Q hP hL hlv hk hret
  obtain ⟨hx, hb, -, hown, hts, -, -, -, -, -, -, hK⟩ := C
  obtain ⟨cf, kf, fi, fd, cell, h1, h2, h3, h4, h5, h6⟩ := (hK.2.2.2.2.1.1 i hi).2.2.1.kept (hf_keptG hP)
  show W p l e R s m args below meth c H locs cells slots Q (F0 m pc ls (hf_v G 2 (-(2 * (i : Int) + 2)) :: st.map (hf_w G)))
  change W p l e R s m args below meth c H locs cells slots Q (F0 m (pc + 3) ls (hf_v G 2 (-(2 * (i : Int) + 3)) :: st.map (hf_w G))) at w
  rw [hf_sw] at w
  rw [hf_sv]
  exact W.getf hx hb hown (hts _ hl) h1 h2 h3 h4 h5 rfl rfl hdg w
theorem hf_sgc {i ix : Nat} (hi : i < 16) (hl : Cond.fieldLink M.1.cls ix "java/lang/String" "coder" "B" ∈ hf_all) (hdg : decode M.2.1 pc = .ok (.getfield ix, 3)) (h : hf_J M (pc + 3) lv ((0, 0) :: st) k) : hf_J M pc lv ((2, -(2 * (i : Int) + 2)) :: st) k := by
  intro p l e R s m args below meth c G n0 s0 C H locs ls σ σ' r cells slots Q hP hL hlv hk hret
  have w := h p l e R s m args below meth c G n0 s0 C H locs ls σ σ' r cells slots Q hP hL hlv hk hret
  obtain ⟨hx, hb, -, hown, hts, -, -, -, -, -, -, hK⟩ := C
  obtain ⟨cf, kf, fi, fd, cell, h1, h2, h3, h4, h5, h6⟩ := (hK.2.2.2.2.1.1 i hi).2.1.kept (hf_keptG hP)
  show W p l e R s m args below meth c H locs cells slots Q (F0 m pc ls (hf_v G 2 (-(2 * (i : Int) + 2)) :: st.map (hf_w G)))
  rw [hf_sv]
  exact W.getf hx hb hown (hts _ hl) h1 h2 h3 h4 h5 rfl rfl hdg w
theorem hf_sal {i : Nat} (hi : i < 16) (hdg : decode M.2.1 pc = .ok (.arraylength, 1)) (h : hf_J M (pc + 1) lv ((0, ((hf_slen.getD i 0 : Nat) : Int)) :: st) k) : hf_J M pc lv ((2, -(2 * (i : Int) + 3)) :: st) k := by
  intro p l e R s m args below meth c G n0 s0 C H locs ls σ σ' r cells slots Q hP hL hlv hk hret
  have w := h p l e R s m args below meth c G n0 s0 C H locs ls σ σ' r cells slots Q hP hL hlv hk hret
  obtain ⟨hx, hb, -, hown, hts, -, -, -, -, -, -, hK⟩ := C
  obtain ⟨cell, h1, h2, h3, h4, h5, h6, h7⟩ := (hK.2.2.2.2.1.1 i hi).2.2.2.kept (hf_keptG hP)
  show W p l e R s m args below meth c H locs cells slots Q (F0 m pc ls (hf_v G 2 (-(2 * (i : Int) + 3)) :: st.map (hf_w G)))
  rw [hf_sw]
  exact W.alen hx hb h1 h2 h5 rfl rfl hdg w
theorem hf_slen_lt : ∀ i, i < 16 → hf_slen.getD i 0 < 6 := by decide
theorem hf_sbl {i : Nat} {j : Int} (hi : i < 16) (hj : 0 ≤ j ∧ j < hf_slen.getD i 0) (hdg : decode M.2.1 pc = .ok (.baload, 1)) (h : hf_J M (pc + 1) lv ((0, ((hf_sbyt.getD i []).getD j.toNat 0).toInt) :: st) k) : hf_J M pc lv ((0, j) :: (2, -(2 * (i : Int) + 3)) :: st) k := by
  intro p l e R s m args below meth c G n0 s0 C H locs ls σ σ' r cells slots Q hP hL hlv hk hret
  have w := h p l e R s m args below meth c G n0 s0 C H locs ls σ σ' r cells slots Q hP hL hlv hk hret
  obtain ⟨hx, hb, -, hown, hts, -, -, -, -, -, -, hK⟩ := C
  obtain ⟨cell, h1, h2, h3, h4, h5, h6, h7⟩ := (hK.2.2.2.2.1.1 i hi).2.2.2.kept (hf_keptG hP)
  show W p l e R s m args below meth c H locs cells slots Q (F0 m pc ls (.int (Int32.ofInt j) :: hf_v G 2 (-(2 * (i : Int) + 3)) :: st.map (hf_w G)))
  change W p l e R s m args below meth c H locs cells slots Q (F0 m (pc + 1) ls (.int (Int32.ofInt ((hf_sbyt.getD i []).getD j.toNat 0).toInt) :: st.map (hf_w G))) at w
  rw [Int32.ofInt_toInt] at w
  rw [hf_sw]
  have hlt := hf_slen_lt i hi
  obtain ⟨g1, g2⟩ := hf_clamp (n := hf_slen.getD i 0) hj.1 hj.2 (by unfold hf_cs; omega)
  refine W.bald hx hb h1 h2 h3 (fun z => g1 (z.elim Or.inl (fun z => Or.inr (Nat.le_trans h4 z)))) ?_ rfl rfl hdg w
  rw [g2]
  exact h6 j.toNat (by omega)
theorem hf_gcs {ix : Nat} (hl : Cond.fieldLink M.1.cls ix "java/lang/String" "COMPACT_STRINGS" "Z" ∈ hf_all) (hdg : decode M.2.1 pc = .ok (.getstatic ix, 3)) (h : hf_J M (pc + 3) lv ((0, 1) :: st) k) : hf_J M pc lv st k := by
  intro p l e R s m args below meth c G n0 s0 C H locs ls σ σ' r cells slots Q hP hL hlv hk hret
  have w := h p l e R s m args below meth c G n0 s0 C H locs ls σ σ' r cells slots Q hP hL hlv hk hret
  obtain ⟨hx, hb, -, hown, hts, -, -, -, -, -, -, hK⟩ := C
  obtain ⟨cf, kf, fi, fd, a, cell, h1, h2, h3, h4, h5, h6, h7, h8⟩ := hK.2.2.2.2.2.2.1.kept (hf_keptG hP)
  exact W.gets hx hb hown (hts _ hl) h1 h2 h3 h4 h5 (fun z => by rw [z] at h6; cases h6) h7 rfl hdg w
theorem hf_gfm {ix : Nat} (hl : Cond.fieldLink M.1.cls ix "jdk/internal/util/Preconditions" "SIOOBE_FORMATTER" "Ljava/util/function/BiFunction;" ∈ hf_all) (hdg : decode M.2.1 pc = .ok (.getstatic ix, 3)) (h : ∀ v, hf_J M (pc + 3) lv ((2, v) :: st) k) : hf_J M pc lv st k := by
  intro p l e R s m args below meth c G n0 s0 C H locs ls σ σ' r cells slots Q hP hL hlv hk hret
  have w := fun v => h v p l e R s m args below meth c G n0 s0 C H locs ls σ σ' r cells slots Q hP hL hlv hk hret
  obtain ⟨hx, hb, -, hown, hts, -, -, -, -, -, -, hK⟩ := C
  rcases hK.2.2.2.2.2.2.2.2.1 with hz | hz
  · obtain ⟨cf, kf, fi, fd, a, cell, h1, h2, h3, h4, h5, h6, h7, h8⟩ := hz.kept (hf_keptG hP)
    exact W.gets hx hb hown (hts _ hl) h1 h2 h3 h4 h5 (fun z => by rw [z] at h6; cases h6) h7 rfl hdg (w 0)
  · obtain ⟨cf, kf, fi, fd, a, cell, h1, h2, h3, h4, h5, h6, h7, h8⟩ := hz.kept (hf_keptG hP)
    have w2 : W p l e R s m args below meth c H locs cells slots Q (F0 m (pc + 3) ls (hf_v G 2 (-100) :: st.map (hf_w G))) := w (-100)
    rw [show hf_v G 2 (-100) = .ref (G.2.1 100) from rfl] at w2
    exact W.gets hx hb hown (hts _ hl) h1 h2 h3 h4 h5 (fun z => by rw [z] at h6; cases h6) h7 rfl hdg w2
theorem hf_no {k : hf_M Int} (h : ∀ σ, k σ = none) : hf_J M pc lv st k := by
  intro p l e R s m args below meth c G n0 s0 C H locs ls σ σ' r cells slots Q hP hL hlv hk hret
  rw [h] at hk; cases hk
theorem hf_i2c {x : Int} (hx0 : 0 ≤ x ∧ x ≤ 65535) (hdg : decode M.2.1 pc = .ok (.i2c, 1)) (h : hf_J M (pc + 1) lv ((0, x) :: st) k) : hf_J M pc lv ((0, x) :: st) k :=
  hf_stp (fun p l e R s m args below meth c H locs ls cells slots Q G hx hb _ _ w => lv_i2c (v := Int32.ofInt x) hx hb hdg (by
    rw [pk_char]
    have e : Int32.ofInt x = nI x.toNat := by rw [← Int32.toInt_inj, hf_toInt ⟨by omega, by omega⟩, nI_toInt (by omega)]; omega
    rw [e, pk_tn (by omega), Nat.mod_eq_of_lt (by omega)]) w) h
/-- what the tables say of a method of String -/
def hf_cvs (N : hf_D) (n : Nat) : Prop := hf_cb0 N n ∧ Cond.instanceMethod N.1 ∈ hf_all ∧ Cond.selects N.1.cls N.1 N.1 ∈ hf_all ∧ N.1.cls = "java/lang/String"
theorem hf_cVs {i ix n : Nat} {o : Int} (hi : i < 16) (ho : o = -(2 * (i : Int) + 2)) (stn : Int → List (Nat × Int)) (hM : hf_Met N (2 :: ts) (o :: vs) mm) (hc : hf_cvs N n) (hl : Cond.methodLink M.1.cls ix N.1 ∈ hf_all) (hR : hf_rmok M N) (hw : hf_stw st ≤ 8) (hn : ts.length = n ∧ vs.length = n) (hs : stk = (ts.zip vs).reverse ++ (2, o) :: st) (hdg : decode M.2.1 pc = .ok (.invokevirtual ix, 3)) (hst : ∀ r, hf_rp N.2.2.2.1 r ++ st = stn r) (h0 : ∀ r, hf_J M (pc + 3) lv (stn r) (f r)) : hf_J M pc lv stk (hf_bd mm f) := by
  have h : ∀ r, hf_J M (pc + 3) lv (hf_rp N.2.2.2.1 r ++ st) (f r) := fun r => by rw [hst]; exact h0 r
  intro p l e R s m args below meth c G n0 s0 C H locs ls σ σ' r cells slots Q hP hL hlv hk hret
  obtain ⟨r1, σ1, hk1, hk2⟩ := hf_bd_some hk
  have C0 := C
  obtain ⟨hx, hb, hml, hown, hts, -, -, -, ⟨hRf, hRl, hRc, hRs⟩, hsz, hs0, hK⟩ := C
  obtain ⟨⟨hini, hcode, hy1, hy2, hdesc⟩, hinst, hsel, hcl⟩ := hc
  have q3 : hf_v G 2 o = .ref (G.2.1 (2 * i + 2)) := by rw [ho]; exact hf_sv G i
  obtain ⟨cell, g1, g2, g3, -⟩ := (hK.2.2.2.2.1.1 i hi).1.kept (hf_keptG hP)
  refine hf_tight hsz hs0 hP (fun t1 t2 => ?_)
  have hPv : PreV s H N.1.cls (G.2.1 (2 * i + 2)) (hf_Pc G σ (2 :: ts) (o :: vs)) (List.zipWith (hf_v G) ts vs) := ⟨hf_blind, ⟨cell, g1, g2, by rw [hcl]; exact g3⟩, fun U hU hW => ⟨by rw [List.zipWith_cons_cons, q3], by rw [hU]; exact hP, hK.warm hW⟩⟩
  have hCB : CallW R s args M.1.cls N.1.cls ix N.1 N.2.1 N.2.2.1 N.2.2.2.1 (Cond.code N.1 N.2.1 N.2.2.1 N.2.2.2.1 :: hf_all) (hf_rm0 N σ) (hf_cc - σ.1) (hf_cs - hf_sl σ) n :=
    ⟨callB_of n hts (hf_goodc hcode) rfl rfl rfl (hts _ hini) (hts _ hl) ⟨hy1, hy2, hdesc⟩ ⟨by rw [hRf]; exact hR.1, by rw [hRl]; exact hR.2⟩, hts _ hinst, hts _ hsel⟩
  refine hf_back C0 hL hlv hk2 hret h (va_runV (S := ⟨hx, hb, hml, hown, hts⟩) (hM l C0.2.2.2.2.2.1.1 G σ σ1 r1 hk1) hCB hPv rfl (by rw [List.length_zipWith, hn.1, hn.2, Nat.min_self]) hlv.1 ?_ ?_ hdg ⟨by rw [hRc]; have := hP.2.2.2.1; show σ.1 - n0 + (hf_cc - σ.1) ≤ _; omega, by rw [hRs]; have := hP.2.2.2.2.1; show hf_sl σ - s0 + (hf_cs - hf_sl σ) ≤ _; omega⟩)
  · show stk.map (hf_w G) = _
    rw [hs, List.map_append, List.map_reverse, List.map_cons]
    have e1 : (ts.zip vs).map (hf_w G) = List.zipWith (hf_v G) ts vs := by rw [List.zip, List.map_zipWith]
    rw [e1]
    show _ ++ hf_v G 2 o :: _ = _
    rw [q3]
  · have e2 := hf_stw_eq G st
    show 2 * 0 + _ ≤ 8
    rw [e2]; omega
end HFS
