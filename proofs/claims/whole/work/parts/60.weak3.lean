/-! WEAK: the table -/
section
variable {α : Type} {T : gT} {ν : gN} {Q : α → gT → gN → Prop}
theorem gw_ret {a : α} (h : Q a T ν) : gw (gret a) T ν Q := ⟨a, T, ν, rfl, h⟩
theorem gw_get {x : Int} {f : Int → gM α} (h : gw (f (ν x 0)) T ν Q) : gw (gget x f) T ν Q := h
theorem gw_put {x v : Int} {k : gM α} (h : gw k T (gup ν x 0 v) Q) : gw (gput x v k) T ν Q := h
theorem gw_let {x : Int} {f : Int → gM α} (h : gw (f x) T ν Q) : gw (glet x f) T ν Q := h
theorem gw_al {x len i : Int} {f : Int → gM α} (hi : 0 ≤ i ∧ i < len) (h : gw (f (ν x i)) T ν Q) : gw (gal x len i f) T ν Q := by
  obtain ⟨r, T', ν', h1, h2⟩ := h
  exact ⟨r, T', ν', by unfold gal; rw [if_pos hi]; exact h1, h2⟩
theorem gw_and {tg : Nat} {o : Int} {f : Int → gM α} (ho : gis T tg o) (h : gw (f ((T.2 o.toNat).2 : Int)) T ν Q) : gw (gand tg o f) T ν Q := by
  obtain ⟨r, T', ν', g1, g2⟩ := h
  exact ⟨r, T', ν', by unfold gand; rw [if_pos ho]; exact g1, g2⟩
theorem gw_it {c : Prop} [Decidable c] {k1 k2 : gM α} (h1 : c → gw k1 T ν Q) (h2 : ¬ c → gw k2 T ν Q) : gw (git c k1 k2) T ν Q := by
  by_cases hc : c
  · obtain ⟨r, T', ν', g1, g2⟩ := h1 hc
    exact ⟨r, T', ν', by unfold git; rw [if_pos hc]; exact g1, g2⟩
  · obtain ⟨r, T', ν', g1, g2⟩ := h2 hc
    exact ⟨r, T', ν', by unfold git; rw [if_neg hc]; exact g1, g2⟩
theorem gw_cz {a : Int} {c : Prop} [Decidable c] {k1 k2 : gM α} (hi : -2147483648 ≤ a ∧ a ≤ 2147483647) (h1 : c → gw k1 T ν Q) (h2 : ¬ c → gw k2 T ν Q) : gw (gcz a c k1 k2) T ν Q := by
  obtain ⟨r, T', ν', g1, g2⟩ := gw_it h1 h2
  exact ⟨r, T', ν', by unfold gcz; rw [if_pos hi]; exact g1, g2⟩
theorem gw_cb {a b : Int} {c : Prop} [Decidable c] {k1 k2 : gM α} (hi : (-2147483648 ≤ a ∧ a ≤ 2147483647) ∧ (-2147483648 ≤ b ∧ b ≤ 2147483647)) (h1 : c → gw k1 T ν Q) (h2 : ¬ c → gw k2 T ν Q) : gw (gcb a b c k1 k2) T ν Q := by
  obtain ⟨r, T', ν', g1, g2⟩ := gw_it h1 h2
  exact ⟨r, T', ν', by unfold gcb; rw [if_pos hi]; exact g1, g2⟩
theorem gw_na {tg : Nat} {n : Int} {f : Int → gM α} (h0 : 0 ≤ n) (h1 : T.1 + 1 ≤ hf_cc) (h2 : gsl T + n.toNat ≤ hf_cs) (h : gw (f ((T.1 + 1 : Nat) : Int)) (gnT T tg n.toNat) (gnN T ν) Q) : gw (gna tg n f) T ν Q := by
  obtain ⟨r, T', ν', g1, g2⟩ := h
  exact ⟨r, T', ν', by unfold gna; rw [if_pos ⟨h0, h1, h2⟩]; exact g1, g2⟩
theorem gw_rd {β : Type} {m : gM β} {f : β → gM α} {v : β} (h : gd m T ν v) (k : gw (f v) T ν Q) : gw (gbd m f) T ν Q := by
  obtain ⟨r, T', ν', g1, g2⟩ := k
  exact ⟨r, T', ν', by unfold gbd; rw [show m (T, ν) = _ from h]; exact g1, g2⟩
end
/-- an array made later -/
def arr (T : gT) (o : Int) (len : Nat) : Prop := gis T 20 o ∧ 104 < o ∧ (T.2 o.toNat).2 = len
theorem gsl_new (T : gT) (tg len : Nat) : gsl (gnT T tg len) = gsl T + len := by
  show hf_sum (fun a => (if a = T.1 + 1 then (tg, len) else T.2 a).2) T.1 + (if T.1 + 1 = T.1 + 1 then (tg, len) else T.2 (T.1 + 1)).2 = _
  rw [if_pos rfl, hz_sumc (g := fun a => (T.2 a).2) T.1 (fun a _ h => by rw [if_neg (by omega)])]
  rfl
theorem gis_new {T : gT} {tg tg' len : Nat} {o : Int} (h : gis T tg o) : gis (gnT T tg' len) tg o ∧ (gnT T tg' len).2 o.toNat = T.2 o.toNat := by
  have e : (gnT T tg' len).2 o.toNat = T.2 o.toNat := by
    show (if o.toNat = T.1 + 1 then (tg', len) else T.2 o.toNat) = T.2 o.toNat
    rw [if_neg (by have := h.2.1; omega)]
  exact ⟨⟨h.1, Nat.le_succ_of_le h.2.1, by rw [e]; exact h.2.2⟩, e⟩
theorem arr_new {T : gT} {tg' len' len : Nat} {o : Int} (h : arr T o len) : arr (gnT T tg' len') o len := by
  have := gis_new (tg' := tg') (len := len') h.1
  exact ⟨this.1, h.2.1, by rw [this.2]; exact h.2.2⟩
theorem arr_made {T : gT} (len : Nat) (hT : 104 ≤ T.1) : arr (gnT T 20 len) ((T.1 + 1 : Nat) : Int) len := by
  have e : (gnT T 20 len).2 ((T.1 + 1 : Nat) : Int).toNat = (20, len) := by
    show (if ((T.1 + 1 : Nat) : Int).toNat = T.1 + 1 then (20, len) else _) = (20, len)
    rw [if_pos (Int.toNat_natCast _)]
  exact ⟨⟨by omega, by show ((T.1 + 1 : Nat) : Int).toNat ≤ T.1 + 1; omega, by rw [e]⟩, by omega, by rw [e]⟩
section
variable {α : Type} {T : gT} {ν : gN} {Q : α → gN → Prop}
theorem gv_ala {o i : Int} {len : Nat} {f : Int → gM α} (ho : arr T o len) (hi : 0 ≤ i ∧ i < (len : Int)) (h : gv (f (ν o i)) T ν Q) : gv (gald 20 o i f) T ν Q := gv_ald ho.1 hi.1 (by rw [ho.2.2]; exact hi.2) h
theorem gv_asa {o i v : Int} {len : Nat} {k : gM α} (ho : arr T o len) (hi : 0 ≤ i ∧ i < (len : Int)) (h : gv k T (gup ν o i v) Q) : gv (gasd 20 o i v k) T ν Q := gv_asd ho.1 ho.2.1 hi.1 (by rw [ho.2.2]; exact hi.2) h
theorem gd_ala {o i : Int} {len : Nat} {f : Int → gM α} {v : α} (ho : arr T o len) (hi : 0 ≤ i ∧ i < (len : Int)) (h : gd (f (ν o i)) T ν v) : gd (gald 20 o i f) T ν v := gd_ald ho.1 hi.1 (by rw [ho.2.2]; exact hi.2) h
end
/-- as the table has it: 1000000000 for never -/
def wcl (v : Int) : Int := if v < 1000000 then v else 1000000000
/-- the table's rows and numbers -/
def wkR (T : gT) (ν : gN) (F G H top d w : Int) : Prop := ν (-4600) 0 = F ∧ ν (-4601) 0 = G ∧ ν (-4602) 0 = H ∧ ν (-4603) 0 = top ∧ ν (-4604) 0 = d ∧ ν (-4605) 0 = w ∧ arr T F 861 ∧ arr T G 861 ∧ arr T H 1681 ∧ F ≠ G ∧ F ≠ H ∧ G ≠ H
def wkW (top d w : Int) : Prop := (1 ≤ top ∧ top ≤ 40) ∧ (-9 ≤ d ∧ d ≤ 9) ∧ (0 ≤ w ∧ w ≤ 3)
section
variable {T : gT} {ν : gN}
theorem d_X10_fewestFrom {F G H top d w low high fallen : Int} {n : Nat} (hR : wkR T ν F G H top d w) (hW : wkW top d w) (hl : 0 ≤ low ∧ low ≤ high ∧ high ≤ top) (hm : 0 ≤ fallen ∧ fallen ≤ low) (hF : ∀ a b : Int, 0 ≤ a → a ≤ b → b ≤ top → ν F (spn a b) = wcl (wk top d w n a b 0)) (hH : ∀ t j : Int, low < t → t ≤ high → 0 ≤ j → j ≤ t → ν H (t * 41 + j) = wcl (wk top d w (n + 1) t high j)) : gd (g_X10_fewestFrom low high fallen) T ν (wcl (wk top d w (n + 1) low high fallen)) := by
  obtain ⟨r1, r2, r3, r4, r5, r6, aF, aG, aH, -, -, -⟩ := hR
  obtain ⟨w1, w2, w3⟩ := hW
  have hp := wk_prod w3 (show 0 ≤ fallen ∧ fallen ≤ 41 by omega)
  unfold g_X10_fewestFrom
  refine gd_cb ⟨⟨by omega, by omega⟩, ⟨by omega, by omega⟩⟩ (fun c => ?_) (fun c => ?_)
  · have hlt : low < high := by omega
    have hin0 := wk_in top d w n _ low high 0 rfl (by omega)
    have hcap0 := wk_cap top d w n low high 0
    refine gd_get (gd_rd (d_X11_spanAt ⟨by omega, by omega⟩) ?_)
    rw [r1]
    refine gd_ala aF (by have := spn_in (a := low) (b := high) (by omega); omega) (gd_get (gd_get (gd_let ?_)))
    rw [r6, r5, hF low high (by omega) (by omega) (by omega)]
    refine gd_ck ⟨⟨by omega, by omega⟩, ⟨by omega, by omega⟩⟩ (gd_let (gd_get ?_))
    rw [r4]
    refine gd_ck ⟨⟨by omega, by omega⟩, ⟨by omega, by omega⟩⟩ (gd_let ?_)
    rw [wk_succ _ _ _ _ _ hlt]
    unfold g_X10_fewestFrom_61
    refine gd_fx (fun (s : Int × Int) => max (low + 1) (1 + (w * fallen - d)) ≤ s.2 ∧ s.2 ≤ max (max (low + 1) (1 + (w * fallen - d))) (min high (top + (w * fallen - d)) + 1) ∧ s.1 = wcl (gmn (wkc top d w n low high fallen) (low + 1) (wk top d w n low high 0) (min high (s.2 - 1) - low).toNat)) (fun s => (300 - s.2).toNat) ⟨Int.le_refl _, by show max (low + 1) (1 + (w * fallen - d)) ≤ _; omega, ?_⟩ (by show (300 - max (low + 1) (1 + (w * fallen - d))).toNat < 100000; omega) ?_
    · show wcl (wk top d w n low high 0) = wcl (gmn _ _ _ (min high (max (low + 1) (1 + (w * fallen - d)) - 1) - low).toNat)
      rw [gmn_stay (a := 0) _ (by omega) (fun k _ hk => ?_)]
      · rfl
      · show wk top d w n low high 0 ≤ wkc top d w n low high fallen (low + 1 + k)
        unfold wkc
        rw [if_neg (by omega)]
        omega
    · intro rec s hI hrec
      obtain ⟨h1, h2, e1⟩ := hI
      generalize hA : gmn (wkc top d w n low high fallen) (low + 1) (wk top d w n low high 0) (min high (s.2 - 1) - low).toNat = A at *
      have hAin : (0 ≤ A ∧ A ≤ 1000000) ∧ (A ≤ 40 ∨ A = 1000000) := by
        have q1 := gmn_init (wkc top d w n low high fallen) (low + 1) (wk top d w n low high 0) (min high (s.2 - 1) - low).toNat
        have hc : ∀ k : Nat, k < (min high (s.2 - 1) - low).toNat → (0 ≤ wkc top d w n low high fallen (low + 1 + k)) ∧ (wkc top d w n low high fallen (low + 1 + k) ≤ 40 ∨ 1000001 ≤ wkc top d w n low high fallen (low + 1 + k)) := fun k hk => by
          unfold wkc
          split
          · have a1 := wk_in top d w (n + 1) _ (low + 1 + k) high (fallen + 1) rfl (by omega)
            have a2 := wk_in top d w n _ low (low + 1 + k - 1) 0 rfl (by omega)
            omega
          · omega
        have q2 := le_gmn (f := wkc top d w n low high fallen) (lo := low + 1) (init := wk top d w n low high 0) (c := 0) (min high (s.2 - 1) - low).toNat hin0.1 (fun k hk => (hc k hk).1)
        rcases gmn_mem (wkc top d w n low high fallen) (low + 1) (wk top d w n low high 0) (min high (s.2 - 1) - low).toNat with e | ⟨k, hk, e⟩
        · omega
        · have := (hc k hk).2
          omega
      have hcl : 0 ≤ wcl A ∧ wcl A ≤ 1000000000 := by unfold wcl; split <;> omega
      unfold gB_X10_fewestFrom_61
      rw [e1]
      refine gd_cb ⟨⟨by omega, by omega⟩, ⟨by omega, by omega⟩⟩ (fun c2 => ?_) (fun c2 => gd_get ?_)
      · rw [gmn_stay (a := (min high (s.2 - 1) - low).toNat) _ (by omega) (fun k k1 k2 => ?_), hA]
        · exact gd_ret
        · rw [hA]
          unfold wkc
          rw [if_neg (by omega)]
          omega
      · have het : low < s.2 ∧ s.2 ≤ high ∧ 1 ≤ s.2 - (w * fallen - d) ∧ s.2 - (w * fallen - d) ≤ top := by omega
        have hB := wk_in top d w n _ low (s.2 - 1) 0 rfl (by omega)
        have hBc := wk_cap top d w n low (s.2 - 1) 0
        have hC := wk_in top d w (n + 1) _ s.2 high (fallen + 1) rfl (by omega)
        have hCc := wk_cap top d w (n + 1) s.2 high (fallen + 1)
        refine gd_rd (d_X11_spanAt ⟨by omega, by omega⟩) ?_
        rw [r1]
        refine gd_ala aF (by have := spn_in (a := low) (b := s.2 - 1) (by omega); omega) ?_
        rw [hF low (s.2 - 1) (by omega) (by omega) (by omega)]
        have hBcl : 0 ≤ wcl (wk top d w n low (s.2 - 1) 0) ∧ wcl (wk top d w n low (s.2 - 1) 0) ≤ 1000000000 := by unfold wcl; split <;> omega
        refine gd_cb ⟨⟨by omega, by omega⟩, ⟨by omega, by omega⟩⟩ (fun c3 => gd_get ?_) (fun c3 => ?_)
        · rw [r3]
          refine gd_ala aH ⟨by omega, by omega⟩ ?_
          rw [show s.2 * 41 + fallen + 1 = s.2 * 41 + (fallen + 1) by omega, hH s.2 (fallen + 1) (by omega) (by omega) (by omega) (by omega)]
          have hCcl : 0 ≤ wcl (wk top d w (n + 1) s.2 high (fallen + 1)) ∧ wcl (wk top d w (n + 1) s.2 high (fallen + 1)) ≤ 1000000000 := by unfold wcl; split <;> omega
          refine gd_ck ⟨⟨by omega, by omega⟩, ⟨by omega, by omega⟩⟩ (gd_let (gd_ck ⟨⟨by omega, by omega⟩, ⟨by omega, by omega⟩⟩ (gd_let (gd_let (hrec _ ⟨by show _ ≤ s.2 + 1; omega, by show s.2 + 1 ≤ _; omega, ?_⟩ (by show (300 - (s.2 + 1)).toNat < (300 - s.2).toNat; omega))))))
          show min (wcl A) (1 + max (wcl (wk top d w n low (s.2 - 1) 0)) (wcl (wk top d w (n + 1) s.2 high (fallen + 1)))) = wcl (gmn _ _ _ (min high (s.2 + 1 - 1) - low).toNat)
          rw [show (min high (s.2 + 1 - 1) - low).toNat = (min high (s.2 - 1) - low).toNat + 1 by omega]
          show _ = wcl (min (gmn _ _ _ (min high (s.2 - 1) - low).toNat) (wkc top d w n low high fallen (low + 1 + ((min high (s.2 - 1) - low).toNat : Int))))
          rw [hA, show low + 1 + ((min high (s.2 - 1) - low).toNat : Int) = s.2 by omega]
          have ew : wkc top d w n low high fallen s.2 = 1 + max (wk top d w (n + 1) s.2 high (fallen + 1)) (wk top d w n low (s.2 - 1) 0) := by unfold wkc; rw [if_pos het]
          rw [ew]
          unfold wcl
          repeat' split
          all_goals omega
        · rw [gmn_stay (a := (min high (s.2 - 1) - low).toNat) _ (by omega) (fun k k1 k2 => ?_), hA]
          · exact gd_ret
          · rw [hA]
            unfold wkc
            split
            · rename_i hh
              have hmo := wk_mono' top d w n low (s.2 - 1) (low + 1 + k - 1) 0 (by omega) (by omega)
              have hC' := wk_in top d w (n + 1) _ (low + 1 + k) high (fallen + 1) rfl (by omega)
              have c4 : A ≤ wk top d w n low (s.2 - 1) 0 + 1 := by
                unfold wcl at c3
                revert c3
                repeat' split
                all_goals omega
              omega
            · omega
  · rw [wk_eq _ _ _ _ _ (by omega)]; exact gd_ret
end
