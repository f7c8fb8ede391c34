/-! THE SCRIPT STAYS -/
def z0 {α : Type} (m : gM α) : Prop := ∀ (T : gT) (ν : gN) (r : α) (T' : gT) (ν' : gN), m (T, ν) = some (r, (T', ν')) → ν' 0 = ν 0 ∧ T'.2 0 = T.2 0
section
variable {α β : Type}
theorem z0_ret {a : α} : z0 (gret a) := fun T ν r T' ν' h => by
  have := Option.some.inj h
  have e := (Prod.mk.inj this).2
  have e1 := (Prod.mk.inj e).1
  have e2 := (Prod.mk.inj e).2
  exact ⟨by rw [e2], by rw [e1]⟩
theorem z0_none : z0 (gnone : gM α) := fun T ν r T' ν' h => absurd h (by unfold gnone; simp)
theorem z0_get {x : Int} {f : Int → gM α} (h : ∀ v, z0 (f v)) : z0 (gget x f) := fun T ν r T' ν' e => h _ T ν r T' ν' e
theorem z0_let {x : Int} {f : Int → gM α} (h : ∀ v, z0 (f v)) : z0 (glet x f) := fun T ν r T' ν' e => h _ T ν r T' ν' e
theorem z0_put {x v : Int} {k : gM α} (hx : x ≠ 0) (h : z0 k) : z0 (gput x v k) := fun T ν r T' ν' e => by
  have := h T (gup ν x 0 v) r T' ν' e
  rw [gup_ne (Ne.symm hx)] at this
  exact this
theorem z0_if {c : Prop} [Decidable c] {m k : gM α} (hm : ∀ s, m s = if c then k s else none) (h : c → z0 k) : z0 m := fun T ν r T' ν' e => by
  rw [hm] at e
  by_cases hc : c
  · rw [if_pos hc] at e; exact h hc T ν r T' ν' e
  · rw [if_neg hc] at e; exact absurd e (by simp)
theorem z0_al {x len i : Int} {f : Int → gM α} (h : ∀ v, z0 (f v)) : z0 (gal x len i f) := fun T ν r T' ν' e => by
  unfold gal at e
  split at e
  · exact h _ T ν r T' ν' e
  · exact absurd e (by simp)
theorem z0_as {x len i v : Int} {k : gM α} (hx : x ≠ 0) (h : z0 k) : z0 (gas x len i v k) := fun T ν r T' ν' e => by
  unfold gas at e
  split at e
  · have := h T (gup ν x i v) r T' ν' e
    rw [gup_ne (Ne.symm hx)] at this
    exact this
  · exact absurd e (by simp)
theorem z0_ald {tg : Nat} {o i : Int} {f : Int → gM α} (h : ∀ v, z0 (f v)) : z0 (gald tg o i f) := fun T ν r T' ν' e => by
  unfold gald at e
  split at e
  · exact h _ T ν r T' ν' e
  · exact absurd e (by simp)
theorem z0_asd {tg : Nat} {o i v : Int} {k : gM α} (h : z0 k) : z0 (gasd tg o i v k) := fun T ν r T' ν' e => by
  unfold gasd at e
  split at e
  · next c =>
    have := h T (gup ν o i v) r T' ν' e
    rw [gup_ne (by omega)] at this
    exact this
  · exact absurd e (by simp)
theorem z0_and {tg : Nat} {o : Int} {f : Int → gM α} (h : ∀ v, z0 (f v)) : z0 (gand tg o f) := fun T ν r T' ν' e => by
  unfold gand at e
  split at e
  · exact h _ T ν r T' ν' e
  · exact absurd e (by simp)
theorem z0_ob {tg : Nat} {o : Int} {k : gM α} (h : z0 k) : z0 (gob tg o k) := fun T ν r T' ν' e => by
  unfold gob at e
  split at e
  · exact h T ν r T' ν' e
  · exact absurd e (by simp)
theorem z0_new {T : gT} {ν : gN} {tg len : Nat} : gnN T ν 0 = ν 0 ∧ (gnT T tg len).2 0 = T.2 0 := by
  refine ⟨?_, ?_⟩
  · funext j; unfold gnN; rw [if_neg (by omega)]
  · show (if 0 = T.1 + 1 then (tg, len) else T.2 0) = T.2 0; rw [if_neg (by omega)]
theorem z0_na {tg : Nat} {n : Int} {f : Int → gM α} (h : ∀ v, z0 (f v)) : z0 (gna tg n f) := fun T ν r T' ν' e => by
  unfold gna at e
  split at e
  · have := h _ _ _ r T' ν' e
    have z := z0_new (T := T) (ν := ν) (tg := tg) (len := n.toNat)
    exact ⟨this.1.trans z.1, this.2.trans z.2⟩
  · exact absurd e (by simp)
theorem z0_xc {k : gM α} (h : z0 k) : z0 (gxc k) := fun T ν r T' ν' e => by
  unfold gxc at e
  split at e
  · have := h _ _ r T' ν' e
    have z := z0_new (T := T) (ν := ν) (tg := 99) (len := 6)
    exact ⟨this.1.trans z.1, this.2.trans z.2⟩
  · exact absurd e (by simp)
theorem z0_ck {c : Prop} [Decidable c] {k : gM α} (h : c → z0 k) : z0 (gck c k) := z0_if (fun _ => rfl) h
theorem z0_it {c : Prop} [Decidable c] {k1 k2 : gM α} (h1 : c → z0 k1) (h2 : ¬ c → z0 k2) : z0 (git c k1 k2) := fun T ν r T' ν' e => by
  unfold git at e
  split at e
  · next c => exact h1 c T ν r T' ν' e
  · next c => exact h2 c T ν r T' ν' e
theorem z0_cb {a b : Int} {c : Prop} [Decidable c] {k1 k2 : gM α} (h1 : c → z0 k1) (h2 : ¬ c → z0 k2) : z0 (gcb a b c k1 k2) := z0_if (k := git c k1 k2) (fun _ => rfl) (fun _ => z0_it h1 h2)
theorem z0_cz {a : Int} {c : Prop} [Decidable c] {k1 k2 : gM α} (h1 : c → z0 k1) (h2 : ¬ c → z0 k2) : z0 (gcz a c k1 k2) := z0_if (k := git c k1 k2) (fun _ => rfl) (fun _ => z0_it h1 h2)
theorem z0_cl {a b : Int} {c : Prop} [Decidable c] {k1 k2 : gM α} (h1 : c → z0 k1) (h2 : ¬ c → z0 k2) : z0 (gcl a b c k1 k2) := z0_if (k := git c k1 k2) (fun _ => rfl) (fun _ => z0_it h1 h2)
theorem z0_dv {a b : Int} {f : Int → gM α} (h : ∀ v, z0 (f v)) : z0 (gdv a b f) := z0_if (k := f (a.tdiv b)) (fun _ => rfl) (fun _ => h _)
theorem z0_rm {a b : Int} {f : Int → gM α} (h : ∀ v, z0 (f v)) : z0 (grm a b f) := z0_if (k := f (a.tmod b)) (fun _ => rfl) (fun _ => h _)
theorem z0_dvl {a b : Int} {f : Int → gM α} (h : ∀ v, z0 (f v)) : z0 (gdvl a b f) := z0_if (k := f (a.tdiv b)) (fun _ => rfl) (fun _ => h _)
theorem z0_rml {a b : Int} {f : Int → gM α} (h : ∀ v, z0 (f v)) : z0 (grml a b f) := z0_if (k := f (a.tmod b)) (fun _ => rfl) (fun _ => h _)
theorem z0_bd {m : gM β} {f : β → gM α} (h1 : z0 m) (h2 : ∀ v, z0 (f v)) : z0 (gbd m f) := fun T ν r T' ν' e => by
  unfold gbd at e
  match hm : m (T, ν) with
  | none => rw [hm] at e; exact absurd e (by simp)
  | some (v, (T1, ν1)) =>
    rw [hm] at e
    have a := h1 T ν v T1 ν1 hm
    have b := h2 v T1 ν1 r T' ν' e
    exact ⟨b.1.trans a.1, b.2.trans a.2⟩
theorem z0_fx {S : Type} {F : (S → gM α) → S → gM α} (h : ∀ rec, (∀ s, z0 (rec s)) → ∀ s, z0 (F rec s)) : ∀ (n : Nat) (s : S), z0 (gfx F n s) := by
  intro n
  induction n with
  | zero => intro s T ν r T' ν' e; exact absurd e (by unfold gfx; simp)
  | succ n ih => intro s; exact h _ ih s
end
theorem z_g_J0_length (o : Int) : z0 (g_J0_length o) := fun T ν r T' ν' e => by
  unfold g_J0_length at e
  match hm : hf_str o with
  | none => rw [hm] at e; exact absurd e (by simp)
  | some i =>
    rw [hm] at e
    exact z0_ret (a := ((hf_slen.getD i 0 : Nat) : Int)) T ν r T' ν' e
theorem z_g_J0_charAt (o j : Int) : z0 (g_J0_charAt o j) := fun T ν r T' ν' e => by
  unfold g_J0_charAt at e
  match hm : hf_str o with
  | none => rw [hm] at e; exact absurd e (by simp)
  | some i =>
    rw [hm] at e
    have e' : (if hf_inI j ∧ 0 ≤ j ∧ j < (hf_slen.getD i 0 : Nat) then some (hf_sch i j, (T, ν)) else none) = some (r, (T', ν')) := e
    split at e'
    · exact z0_ret (a := hf_sch i j) T ν r T' ν' e'
    · exact absurd e' (by simp)
theorem z_g_L_look1 (a p0 : Int) : z0 (g_L_look1 a p0) := by
  unfold g_L_look1
  exact z0_al (fun v => z0_ck (fun _ => z0_as (by omega) z0_ret))
theorem z_g_L_look (p0 p1 : Int) : z0 (g_L_look p0 p1) := by
  unfold g_L_look
  exact z0_ck (fun _ => z0_it (fun _ => z0_it (fun _ => z_g_L_look1 3 p0) (fun _ => z0_it (fun _ => z_g_L_look1 4 p0) (fun _ => z0_it (fun _ => z_g_L_look1 5 p0) (fun _ => z0_xc z0_ret)))) (fun _ => z0_xc z0_ret))
set_option maxRecDepth 20000 in
theorem z_g_X11_putBytes_43 (rec_3 : Int → gM Int) (hrec_3 : ∀ s, z0 (rec_3 s)) (x1 : Int) (x2 : Int) : z0 (g_X11_putBytes_43 rec_3 x1 x2) := by
  unfold g_X11_putBytes_43
  exact (z0_let (fun x2_43 => (hrec_3 _)))
set_option maxRecDepth 20000 in
theorem z_gB_X11_putBytes_3 (x1 : Int) (rec_3 : Int → gM Int) (hrec_3 : ∀ s, z0 (rec_3 s)) (x2 : Int) : z0 (gB_X11_putBytes_3 x1 rec_3 x2) := by
  unfold gB_X11_putBytes_3
  exact (z0_cz (fun h1 => z0_ret) (fun h2 => (z0_get (fun v8 => (z0_cb (fun h3 => (z_g_X11_putBytes_43 rec_3 hrec_3 x1 x2)) (fun h4 => (z0_get (fun v22 => (z0_as (by omega) (z0_get (fun v35 => (z0_put (by omega) (z_g_X11_putBytes_43 rec_3 hrec_3 x1 x2)))))))))))))
set_option maxRecDepth 20000 in
theorem z_g_X11_putBytes_3 (x1 : Int) (x2 : Int) : z0 (g_X11_putBytes_3 x1 x2) := by
  unfold g_X11_putBytes_3
  exact (z0_fx (fun rec hrec s => (z_gB_X11_putBytes_3 x1 rec hrec s)) _ _)
set_option maxRecDepth 20000 in
theorem z_g_X11_putBytes (x1 : Int) : z0 (g_X11_putBytes x1) := by
  unfold g_X11_putBytes
  exact (z_g_X11_putBytes_3 x1 24)
set_option maxRecDepth 20000 in
theorem z_g_X11_feed (x1 : Int) (x2 : Int) (x3 : Int) (x4 : Int) (x5 : Int) : z0 (g_X11_feed x1 x2 x3 x4 x5) := by
  unfold g_X11_feed
  exact (z0_get (fun v1 => (z0_cb (fun h1 => (z0_bd (z_g_X11_putBytes x1) (fun _ => (z0_bd (z_g_X11_putBytes x2) (fun _ => (z0_bd (z_g_X11_putBytes x3) (fun _ => (z0_bd (z_g_X11_putBytes x4) (fun _ => (z0_bd (z_g_X11_putBytes x5) (fun _ => (z0_get (fun v43 => z0_ret))))))))))))) (fun h2 => z0_ret))))
set_option maxRecDepth 20000 in
theorem z_g_X8_hasKind (x1 : Int) : z0 (g_X8_hasKind x1) := by
  unfold g_X8_hasKind
  exact (z0_cz (fun h1 => z0_ret) (fun h2 => (z0_cb (fun h3 => z0_ret) (fun h4 => z0_ret))))
set_option maxRecDepth 20000 in
theorem z_g_X11_isWithin (x0 : Int) (x1 : Int) : z0 (g_X11_isWithin x0 x1) := by
  unfold g_X11_isWithin
  exact (z0_cz (fun h1 => z0_ret) (fun h2 => (z0_cb (fun h3 => z0_ret) (fun h4 => z0_ret))))
set_option maxRecDepth 20000 in
theorem z_g_X8_hasStrength (x1 : Int) : z0 (g_X8_hasStrength x1) := by
  unfold g_X8_hasStrength
  exact (z0_cz (fun h1 => z0_ret) (fun h2 => (z0_get (fun v6 => (z0_cb (fun h3 => z0_ret) (fun h4 => z0_ret))))))
set_option maxRecDepth 20000 in
theorem z_g_X9_open (x2 : Int) : z0 (g_X9_open x2) := by
  unfold g_X9_open
  exact (z0_put (by omega) (z0_ck (fun h1 => (z0_let (fun v9 => (z0_put (by omega) (z0_put (by omega) z0_ret)))))))
set_option maxRecDepth 20000 in
theorem z_g_X4_clear (x0 : Int) : z0 (g_X4_clear x0) := by
  unfold g_X4_clear
  exact (z0_ck (fun h1 => (z0_put (by omega) (z0_ck (fun h2 => (z0_put (by omega) z0_ret))))))
set_option maxRecDepth 20000 in
theorem z_g_X5_read_115 : z0 (g_X5_read_115) := by
  unfold g_X5_read_115
  exact (z0_get (fun v116 => (z0_get (fun v120 => (z0_ck (fun h1 => (z0_put (by omega) z0_ret)))))))
set_option maxRecDepth 20000 in
theorem z_g_X9_isDigitAt (x1 : Int) : z0 (g_X9_isDigitAt x1) := by
  unfold g_X9_isDigitAt
  exact (z0_get (fun v2 => (z0_cb (fun h1 => z0_ret) (fun h2 => (z0_get (fun v => (z0_ck (fun h3 => (z0_al (fun v13 => (z0_cb (fun h4 => z0_ret) (fun h5 => (z0_get (fun v => (z0_ck (fun h6 => (z0_al (fun v24 => (z0_cb (fun h7 => z0_ret) (fun h8 => z0_ret))))))))))))))))))))
set_option maxRecDepth 20000 in
theorem z_g_X9_isLetterAt (x1 : Int) : z0 (g_X9_isLetterAt x1) := by
  unfold g_X9_isLetterAt
  exact (z0_get (fun v2 => (z0_cb (fun h1 => z0_ret) (fun h2 => (z0_get (fun v => (z0_ck (fun h3 => (z0_al (fun v13 => (z0_cb (fun h4 => z0_ret) (fun h5 => (z0_get (fun v => (z0_ck (fun h6 => (z0_al (fun v24 => (z0_cb (fun h7 => z0_ret) (fun h8 => z0_ret))))))))))))))))))))
set_option maxRecDepth 20000 in
theorem z_g_X9_signOf (x0 : Int) : z0 (g_X9_signOf x0) := by
  unfold g_X9_signOf
  exact (z0_ck (fun h1 => (z0_it (fun h2 => z0_ret) (fun h3 => (z0_it (fun h4 => z0_ret) (fun h5 => (z0_it (fun h6 => z0_ret) (fun h7 => (z0_it (fun h8 => z0_ret) (fun h9 => (z0_it (fun h10 => z0_ret) (fun h11 => (z0_it (fun h12 => z0_ret) (fun h13 => (z0_it (fun h14 => z0_ret) (fun h15 => (z0_it (fun h16 => z0_ret) (fun h17 => (z0_it (fun h18 => z0_ret) (fun h19 => (z0_it (fun h20 => z0_ret) (fun h21 => z0_ret))))))))))))))))))))))
set_option maxRecDepth 20000 in
theorem z_g_X9_readSign_116 (x2 : Int) : z0 (g_X9_readSign_116 x2) := by
  unfold g_X9_readSign_116
  exact (z0_get (fun v118 => (z0_cb (fun h1 => z0_ret) (fun h2 => (z0_put (by omega) (z0_get (fun v131 => (z0_put (by omega) z0_ret))))))))
set_option maxRecDepth 20000 in
theorem z_g_X9_readSign_98 (x1 : Int) (x2 : Int) : z0 (g_X9_readSign_98 x1 x2) := by
  unfold g_X9_readSign_98
  exact (z0_get (fun v99 => (z0_cb (fun h1 => (z_g_X9_readSign_116 x2)) (fun h2 => (z0_cb (fun h3 => (z_g_X9_readSign_116 x2)) (fun h4 => (z_g_X9_readSign_116 25)))))))
set_option maxRecDepth 20000 in
theorem z_g_X9_readSign_77 (x1 : Int) (x2 : Int) : z0 (g_X9_readSign_77 x1 x2) := by
  unfold g_X9_readSign_77
  exact (z0_get (fun v78 => (z0_cb (fun h1 => (z_g_X9_readSign_98 x1 x2)) (fun h2 => (z0_cb (fun h3 => (z_g_X9_readSign_98 x1 x2)) (fun h4 => (z_g_X9_readSign_116 24)))))))
set_option maxRecDepth 20000 in
theorem z_g_X9_readSign_50 (s0 : Int) : z0 (g_X9_readSign_50 s0) := by
  unfold g_X9_readSign_50
  exact (z0_get (fun v52 => (z0_get (fun v57 => (z0_cb (fun h1 => (z_g_X9_readSign_77 s0 v52)) (fun h2 => (z0_cb (fun h3 => (z_g_X9_readSign_77 s0 v52)) (fun h4 => (z_g_X9_readSign_116 22)))))))))
set_option maxRecDepth 20000 in
theorem z_g_X9_readSign : z0 (g_X9_readSign) := by
  unfold g_X9_readSign
  exact (z0_get (fun v => (z0_ck (fun h1 => (z0_get (fun v6 => (z0_al (fun v9 => (z0_bd (z_g_X9_signOf v9) (fun v10 => (z0_put (by omega) (z0_get (fun v18 => (z0_put (by omega) (z0_get (fun v27 => (z0_get (fun v31 => (z0_cb (fun h2 => (z_g_X9_readSign_50 0)) (fun h3 => (z0_get (fun v => (z0_ck (fun h4 => (z0_get (fun v42 => (z0_al (fun v45 => (z_g_X9_readSign_50 v45)))))))))))))))))))))))))))))
set_option maxRecDepth 20000 in
theorem z_g_X9_wordOf (x0 : Int) : z0 (g_X9_wordOf x0) := by
  unfold g_X9_wordOf
  exact (z0_ck (fun h1 => (z0_it (fun h2 => z0_ret) (fun h3 => (z0_it (fun h4 => z0_ret) (fun h5 => (z0_it (fun h6 => z0_ret) (fun h7 => (z0_it (fun h8 => z0_ret) (fun h9 => (z0_it (fun h10 => z0_ret) (fun h11 => (z0_it (fun h12 => z0_ret) (fun h13 => (z0_it (fun h14 => z0_ret) (fun h15 => (z0_it (fun h16 => z0_ret) (fun h17 => (z0_it (fun h18 => z0_ret) (fun h19 => (z0_it (fun h20 => z0_ret) (fun h21 => (z0_it (fun h22 => z0_ret) (fun h23 => (z0_it (fun h24 => z0_ret) (fun h25 => (z0_it (fun h26 => z0_ret) (fun h27 => (z0_it (fun h28 => z0_ret) (fun h29 => (z0_it (fun h30 => z0_ret) (fun h31 => z0_ret))))))))))))))))))))))))))))))))
set_option maxRecDepth 20000 in
theorem z_gB_X9_isWord_20 (x1 : Int) (rec_20 : Int → gM Int) (hrec_20 : ∀ s, z0 (rec_20 s)) (x2 : Int) : z0 (gB_X9_isWord_20 x1 rec_20 x2) := by
  unfold gB_X9_isWord_20
  exact (z0_bd (z_g_J0_length x1) (fun v22 => (z0_cb (fun h1 => z0_ret) (fun h2 => (z0_get (fun v => (z0_ck (fun h3 => (z0_get (fun v33 => (z0_al (fun v38 => (z0_bd (z_g_J0_charAt x1 x2) (fun v41 => (z0_cb (fun h4 => (z0_let (fun x2_49 => (hrec_20 _)))) (fun h5 => z0_ret))))))))))))))))
set_option maxRecDepth 20000 in
theorem z_g_X9_isWord_20 (x1 : Int) (x2 : Int) : z0 (g_X9_isWord_20 x1 x2) := by
  unfold g_X9_isWord_20
  exact (z0_fx (fun rec hrec s => (z_gB_X9_isWord_20 x1 rec hrec s)) _ _)
set_option maxRecDepth 20000 in
theorem z_g_X9_isWord (x1 : Int) : z0 (g_X9_isWord x1) := by
  unfold g_X9_isWord
  exact (z0_bd (z_g_J0_length x1) (fun v1 => (z0_get (fun v5 => (z0_get (fun v9 => (z0_cb (fun h1 => (z_g_X9_isWord_20 x1 0)) (fun h2 => z0_ret))))))))
set_option maxRecDepth 20000 in
theorem z_g_X9_readWord_54 (rec_32 : Int → gM Int) (hrec_32 : ∀ s, z0 (rec_32 s)) (x1 : Int) : z0 (g_X9_readWord_54 rec_32 x1) := by
  unfold g_X9_readWord_54
  exact (z0_let (fun x1_54 => (hrec_32 _)))
set_option maxRecDepth 20000 in
theorem z_gB_X9_readWord_32 (rec_32 : Int → gM Int) (hrec_32 : ∀ s, z0 (rec_32 s)) (x1 : Int) : z0 (gB_X9_readWord_32 rec_32 x1) := by
  unfold gB_X9_readWord_32
  exact (z0_cb (fun h1 => z0_ret) (fun h2 => (z0_bd (z_g_X9_wordOf x1) (fun v40 => (z0_bd (z_g_X9_isWord v40) (fun v43 => (z0_cz (fun h3 => (z_g_X9_readWord_54 rec_32 hrec_32 x1)) (fun h4 => (z0_put (by omega) (z_g_X9_readWord_54 rec_32 hrec_32 x1))))))))))
set_option maxRecDepth 20000 in
theorem z_g_X9_readWord_32 (x1 : Int) : z0 (g_X9_readWord_32 x1) := by
  unfold g_X9_readWord_32
  exact (z0_fx (fun rec hrec s => (z_gB_X9_readWord_32 rec hrec s)) _ _)
set_option maxRecDepth 20000 in
theorem z_gB_X9_readWord_0 (rec_0 : Unit → gM Int) (hrec_0 : ∀ s, z0 (rec_0 s)) : z0 (gB_X9_readWord_0 rec_0) := by
  unfold gB_X9_readWord_0
  exact (z0_get (fun v2 => (z0_bd (z_g_X9_isLetterAt v2) (fun v5 => (z0_cz (fun h1 => (z0_put (by omega) (z_g_X9_readWord_32 6))) (fun h2 => (z0_get (fun v13 => (z0_put (by omega) (hrec_0 _))))))))))
set_option maxRecDepth 20000 in
theorem z_g_X9_readWord_0 : z0 (g_X9_readWord_0) := by
  unfold g_X9_readWord_0
  exact (z0_fx (fun rec hrec s => (z_gB_X9_readWord_0 rec hrec)) _ _)
set_option maxRecDepth 20000 in
theorem z_g_X9_readWord : z0 (g_X9_readWord) := by
  unfold g_X9_readWord
  exact z_g_X9_readWord_0
set_option maxRecDepth 20000 in
theorem z_gB_X9_readNumber_5 (rec_5 : Unit → gM Int) (hrec_5 : ∀ s, z0 (rec_5 s)) : z0 (gB_X9_readNumber_5 rec_5) := by
  unfold gB_X9_readNumber_5
  exact (z0_get (fun v7 => (z0_bd (z_g_X9_isDigitAt v7) (fun v10 => (z0_cz (fun h1 => z0_ret) (fun h2 => (z0_get (fun v21 => (z0_get (fun v => (z0_ck (fun h3 => (z0_get (fun v32 => (z0_al (fun v35 => (z0_ck (fun h4 => (z0_let (fun v40 => (z0_put (by omega) (z0_get (fun v48 => (z0_put (by omega) (hrec_5 _)))))))))))))))))))))))))
set_option maxRecDepth 20000 in
theorem z_g_X9_readNumber_5 : z0 (g_X9_readNumber_5) := by
  unfold g_X9_readNumber_5
  exact (z0_fx (fun rec hrec s => (z_gB_X9_readNumber_5 rec hrec)) _ _)
set_option maxRecDepth 20000 in
theorem z_g_X9_readNumber : z0 (g_X9_readNumber) := by
  unfold g_X9_readNumber
  exact (z0_put (by omega) z_g_X9_readNumber_5)
set_option maxRecDepth 20000 in
theorem z_g_X9_advance_52 : z0 (g_X9_advance_52) := by
  unfold g_X9_advance_52
  exact (z0_get (fun v54 => (z0_put (by omega) (z0_put (by omega) (z0_get (fun v66 => (z0_get (fun v70 => (z0_cb (fun h1 => (z0_get (fun v86 => (z0_bd (z_g_X9_isDigitAt v86) (fun v89 => (z0_cz (fun h2 => (z0_get (fun v104 => (z0_bd (z_g_X9_isLetterAt v104) (fun v107 => (z0_cz (fun h3 => (z0_bd z_g_X9_readSign (fun _ => z0_ret))) (fun h4 => (z0_bd z_g_X9_readWord (fun _ => z0_ret))))))))) (fun h5 => (z0_bd z_g_X9_readNumber (fun _ => z0_ret))))))))) (fun h6 => (z0_put (by omega) z0_ret)))))))))))
set_option maxRecDepth 20000 in
theorem z_g_X9_advance_39 (rec_0 : Unit → gM Int) (hrec_0 : ∀ s, z0 (rec_0 s)) : z0 (g_X9_advance_39 rec_0) := by
  unfold g_X9_advance_39
  exact (z0_get (fun v41 => (z0_put (by omega) (hrec_0 _))))
set_option maxRecDepth 20000 in
theorem z_gB_X9_advance_0 (rec_0 : Unit → gM Int) (hrec_0 : ∀ s, z0 (rec_0 s)) : z0 (gB_X9_advance_0 rec_0) := by
  unfold gB_X9_advance_0
  exact (z0_get (fun v1 => (z0_get (fun v5 => (z0_cb (fun h1 => z_g_X9_advance_52) (fun h2 => (z0_get (fun v => (z0_ck (fun h3 => (z0_get (fun v16 => (z0_al (fun v19 => (z0_cb (fun h4 => (z_g_X9_advance_39 rec_0 hrec_0)) (fun h5 => (z0_get (fun v => (z0_ck (fun h6 => (z0_get (fun v30 => (z0_al (fun v33 => (z0_cb (fun h7 => z_g_X9_advance_52) (fun h8 => (z_g_X9_advance_39 rec_0 hrec_0)))))))))))))))))))))))))))
set_option maxRecDepth 20000 in
theorem z_g_X9_advance_0 : z0 (g_X9_advance_0) := by
  unfold g_X9_advance_0
  exact (z0_fx (fun rec hrec s => (z_gB_X9_advance_0 rec hrec)) _ _)
set_option maxRecDepth 20000 in
theorem z_g_X9_advance : z0 (g_X9_advance) := by
  unfold g_X9_advance
  exact z_g_X9_advance_0
set_option maxRecDepth 20000 in
theorem z_g_X5_startExpression : z0 (g_X5_startExpression) := by
  unfold g_X5_startExpression
  exact (z0_put (by omega) (z0_put (by omega) (z0_as (by omega) (z0_put (by omega) (z0_put (by omega) z0_ret)))))
set_option maxRecDepth 20000 in
theorem z_g_X5_startDeed (x1 : Int) : z0 (g_X5_startDeed x1) := by
  unfold g_X5_startDeed
  exact (z0_put (by omega) (z0_get (fun v6 => (z0_ck (fun h1 => (z0_get (fun v13 => (z0_ck (fun h2 => (z0_get (fun v16 => (z0_get (fun v20 => (z0_as (by omega) (z0_cb (fun h3 => (z0_get (fun v39 => (z0_ck (fun h4 => (z0_get (fun v46 => (z0_ck (fun h5 => (z0_get (fun v49 => (z0_as (by omega) (z0_bd z_g_X5_startExpression (fun _ => z0_ret)))))))))))))) (fun h6 => (z0_put (by omega) z0_ret)))))))))))))))))
set_option maxRecDepth 20000 in
theorem z_g_X5_takeAtLine_26 (x1 : Int) : z0 (g_X5_takeAtLine_26 x1) := by
  unfold g_X5_takeAtLine_26
  exact (z0_get (fun v27 => (z0_ck (fun h1 => (z0_get (fun v30 => (z0_cb (fun h2 => (z0_cb (fun h3 => (z0_bd (z_g_X5_startDeed x1) (fun _ => z0_ret))) (fun h4 => (z0_put (by omega) (z0_bd z_g_X5_startExpression (fun _ => z0_ret)))))) (fun h5 => z0_ret))))))))
set_option maxRecDepth 20000 in
theorem z_g_X5_takeAtLine (x1 : Int) : z0 (g_X5_takeAtLine x1) := by
  unfold g_X5_takeAtLine
  exact (z0_cz (fun h1 => (z0_cb (fun h2 => (z_g_X5_takeAtLine_26 x1)) (fun h3 => (z0_cb (fun h4 => (z_g_X5_takeAtLine_26 x1)) (fun h5 => (z0_cb (fun h6 => (z_g_X5_takeAtLine_26 x1)) (fun h7 => z0_ret))))))) (fun h8 => z0_ret))
set_option maxRecDepth 20000 in
theorem z_g_X5_takeKind (x1 : Int) : z0 (g_X5_takeKind x1) := by
  unfold g_X5_takeKind
  exact (z0_cb (fun h1 => (z0_get (fun v11 => (z0_cb (fun h2 => (z0_get (fun v21 => (z0_ck (fun h3 => (z0_get (fun v28 => (z0_ck (fun h4 => (z0_get (fun v31 => (z0_get (fun v38 => (z0_as (by omega) (z0_bd z_g_X5_startExpression (fun _ => z0_ret)))))))))))))))) (fun h5 => z0_ret))))) (fun h6 => z0_ret))
set_option maxRecDepth 20000 in
theorem z_g_X5_write (x1 : Int) : z0 (g_X5_write x1) := by
  unfold g_X5_write
  exact (z0_get (fun v1 => (z0_cb (fun h1 => z0_ret) (fun h2 => (z0_get (fun v10 => (z0_ck (fun h3 => (z0_get (fun v17 => (z0_as (by omega) (z0_get (fun v24 => (z0_put (by omega) z0_ret))))))))))))))
set_option maxRecDepth 20000 in
theorem z_g_X5_takeOperand_102 (s1 : Int) : z0 (g_X5_takeOperand_102 s1) := by
  unfold g_X5_takeOperand_102
  exact (z0_bd (z_g_X5_write s1) (fun _ => (z0_put (by omega) z0_ret)))
set_option maxRecDepth 20000 in
theorem z_g_X5_takeOperand_47 (x1 : Int) : z0 (g_X5_takeOperand_47 x1) := by
  unfold g_X5_takeOperand_47
  exact (z0_get (fun v48 => (z0_cb (fun h1 => z0_ret) (fun h2 => (z0_get (fun v60 => (z0_cb (fun h3 => (z0_get (fun v73 => (z0_put (by omega) (z0_cb (fun h4 => (z_g_X5_takeOperand_102 (1000 + x1))) (fun h5 => (z0_get (fun v91 => (z_g_X5_takeOperand_102 v91))))))))) (fun h6 => z0_ret))))))))
set_option maxRecDepth 20000 in
theorem z_g_X9_isName (x0 : Int) : z0 (g_X9_isName x0) := by
  unfold g_X9_isName
  exact (z0_cb (fun h1 => z0_ret) (fun h2 => (z0_cb (fun h3 => z0_ret) (fun h4 => z0_ret))))
set_option maxRecDepth 20000 in
theorem z_g_X5_hold (x1 : Int) : z0 (g_X5_hold x1) := by
  unfold g_X5_hold
  exact (z0_get (fun v1 => (z0_cb (fun h1 => z0_ret) (fun h2 => (z0_get (fun v17 => (z0_as (by omega) (z0_get (fun v24 => (z0_put (by omega) z0_ret))))))))))
set_option maxRecDepth 20000 in
theorem z_g_X9_isComparison (x0 : Int) : z0 (g_X9_isComparison x0) := by
  unfold g_X9_isComparison
  exact (z0_cb (fun h1 => z0_ret) (fun h2 => (z0_cb (fun h3 => z0_ret) (fun h4 => z0_ret))))
set_option maxRecDepth 20000 in
theorem z_g_X5_takeOperator_104 : z0 (g_X5_takeOperator_104) := by
  unfold g_X5_takeOperator_104
  exact (z0_put (by omega) z0_ret)
set_option maxRecDepth 20000 in
theorem z_g_X5_takeOperator_64 (x1 : Int) (s1 : Int) : z0 (g_X5_takeOperator_64 x1 s1) := by
  unfold g_X5_takeOperator_64
  exact (z0_ck (fun h1 => (z0_put (by omega) (z0_bd (z_g_X9_isComparison x1) (fun v68 => (z0_cz (fun h2 => (z0_get (fun v88 => (z0_cz (fun h3 => z_g_X5_takeOperator_104) (fun h4 => (z0_get (fun v99 => (z0_as (by omega) z_g_X5_takeOperator_104)))))))) (fun h5 => (z0_get (fun v79 => (z0_as (by omega) z_g_X5_takeOperator_104))))))))))
set_option maxRecDepth 20000 in
theorem z_g_X5_takeOperator_35 (x1 : Int) : z0 (g_X5_takeOperator_35 x1) := by
  unfold g_X5_takeOperator_35
  exact (z0_bd (z_g_X5_hold x1) (fun _ => (z0_cb (fun h1 => (z_g_X5_takeOperator_64 x1 1)) (fun h2 => (z0_cb (fun h3 => (z_g_X5_takeOperator_64 x1 1)) (fun h4 => (z0_cb (fun h5 => (z_g_X5_takeOperator_64 x1 0)) (fun h6 => (z_g_X5_takeOperator_64 x1 1)))))))))
set_option maxRecDepth 20000 in
theorem z_g_X9_bindingOf (x0 : Int) : z0 (g_X9_bindingOf x0) := by
  unfold g_X9_bindingOf
  exact (z0_cb (fun h1 => (z0_cb (fun h2 => (z0_cb (fun h3 => (z0_bd (z_g_X9_isComparison x0) (fun v25 => (z0_cz (fun h4 => (z0_cb (fun h5 => z0_ret) (fun h6 => (z0_cb (fun h7 => (z0_cb (fun h8 => z0_ret) (fun h9 => (z0_cb (fun h10 => z0_ret) (fun h11 => z0_ret))))) (fun h12 => z0_ret))))) (fun h13 => z0_ret))))) (fun h14 => z0_ret))) (fun h15 => z0_ret))) (fun h16 => z0_ret))
set_option maxRecDepth 20000 in
theorem z_gB_X5_release_0 (x1 : Int) (rec_0 : Unit → gM Int) (hrec_0 : ∀ s, z0 (rec_0 s)) : z0 (gB_X5_release_0 x1 rec_0) := by
  unfold gB_X5_release_0
  exact (z0_get (fun v1 => (z0_cz (fun h1 => z0_ret) (fun h2 => (z0_get (fun v12 => (z0_al (fun v17 => (z0_bd (z_g_X9_bindingOf v17) (fun v18 => (z0_cb (fun h3 => z0_ret) (fun h4 => (z0_get (fun v27 => (z0_put (by omega) (z0_get (fun v44 => (z0_al (fun v47 => (z0_bd (z_g_X5_write (1000 + v47)) (fun _ => (hrec_0 _))))))))))))))))))))))
set_option maxRecDepth 20000 in
theorem z_g_X5_release_0 (x1 : Int) : z0 (g_X5_release_0 x1) := by
  unfold g_X5_release_0
  exact (z0_fx (fun rec hrec s => (z_gB_X5_release_0 x1 rec hrec)) _ _)
set_option maxRecDepth 20000 in
theorem z_g_X5_release (x1 : Int) : z0 (g_X5_release x1) := by
  unfold g_X5_release
  exact (z_g_X5_release_0 x1)
set_option maxRecDepth 20000 in
theorem z_g_X5_takeOperator (x1 : Int) : z0 (g_X5_takeOperator x1) := by
  unfold g_X5_takeOperator
  exact (z0_get (fun v1 => (z0_cb (fun h1 => (z0_get (fun v13 => (z0_put (by omega) (z0_cb (fun h2 => (z_g_X5_takeOperator_35 x1)) (fun h3 => (z0_bd (z_g_X9_bindingOf x1) (fun v29 => (z0_bd (z_g_X5_release v29) (fun _ => (z_g_X5_takeOperator_35 x1))))))))))) (fun h4 => z0_ret))))
set_option maxRecDepth 20000 in
theorem z_g_X5_takeOpen : z0 (g_X5_takeOpen) := by
  unfold g_X5_takeOpen
  exact (z0_get (fun v1 => (z0_cb (fun h1 => (z0_get (fun v13 => (z0_put (by omega) (z0_get (fun v26 => (z0_as (by omega) (z0_put (by omega) (z0_bd (z_g_X5_hold 3) (fun _ => z0_ret)))))))))) (fun h2 => z0_ret))))
set_option maxRecDepth 20000 in
theorem z_g_X5_takeOperand (x1 : Int) : z0 (g_X5_takeOperand x1) := by
  unfold g_X5_takeOperand
  exact (z0_cb (fun h1 => (z0_cb (fun h2 => (z0_cb (fun h3 => (z_g_X5_takeOperand_47 x1)) (fun h4 => (z0_bd (z_g_X9_isName x1) (fun v39 => (z0_cz (fun h5 => (z_g_X5_takeOperand_47 x1)) (fun h6 => z0_ret))))))) (fun h7 => (z0_get (fun v17 => (z0_cz (fun h8 => z0_ret) (fun h9 => (z0_bd (z_g_X5_takeOperator x1) (fun v25 => z0_ret))))))))) (fun h10 => (z0_bd z_g_X5_takeOpen (fun v6 => z0_ret))))
set_option maxRecDepth 20000 in
theorem z_g_X5_takeBehindOperand_90 (x1 : Int) : z0 (g_X5_takeBehindOperand_90 x1) := by
  unfold g_X5_takeBehindOperand_90
  exact (z0_get (fun v91 => (z0_cz (fun h1 => z0_ret) (fun h2 => (z0_cb (fun h3 => z0_ret) (fun h4 => (z0_bd (z_g_X5_release 1) (fun _ => (z0_get (fun v108 => (z0_ck (fun h5 => (z0_get (fun v115 => (z0_ck (fun h6 => (z0_get (fun v118 => (z0_get (fun v122 => (z0_as (by omega) (z0_get (fun v127 => (z0_ck (fun h7 => (z0_get (fun v131 => (z0_ck (fun h8 => (z0_put (by omega) (z0_put (by omega) z0_ret)))))))))))))))))))))))))))))))
set_option maxRecDepth 20000 in
theorem z_g_X5_takeBehindOperand_78 (x1 : Int) : z0 (g_X5_takeBehindOperand_78 x1) := by
  unfold g_X5_takeBehindOperand_78
  exact (z0_bd (z_g_X5_release 1) (fun _ => (z0_bd (z_g_X5_startDeed x1) (fun _ => z0_ret))))
set_option maxRecDepth 20000 in
theorem z_g_X5_takeBehindOperand_50 (x1 : Int) : z0 (g_X5_takeBehindOperand_50 x1) := by
  unfold g_X5_takeBehindOperand_50
  exact (z0_get (fun v51 => (z0_cz (fun h1 => (z0_get (fun v60 => (z0_cz (fun h2 => (z_g_X5_takeBehindOperand_90 x1)) (fun h3 => (z0_cb (fun h4 => (z_g_X5_takeBehindOperand_78 x1)) (fun h5 => (z0_cb (fun h6 => (z_g_X5_takeBehindOperand_90 x1)) (fun h7 => (z_g_X5_takeBehindOperand_78 x1)))))))))) (fun h8 => z0_ret))))
set_option maxRecDepth 20000 in
theorem z_g_X5_takeBehindOperand_31 (x1 : Int) : z0 (g_X5_takeBehindOperand_31 x1) := by
  unfold g_X5_takeBehindOperand_31
  exact (z0_bd (z_g_X9_bindingOf x1) (fun v32 => (z0_cz (fun h1 => (z_g_X5_takeBehindOperand_50 x1)) (fun h2 => (z0_cb (fun h3 => (z_g_X5_takeBehindOperand_50 x1)) (fun h4 => (z0_bd (z_g_X5_takeOperator x1) (fun v46 => z0_ret))))))))
set_option maxRecDepth 20000 in
theorem z_g_X5_takeClose : z0 (g_X5_takeClose) := by
  unfold g_X5_takeClose
  exact (z0_get (fun v1 => (z0_cz (fun h1 => (z0_bd (z_g_X5_release 1) (fun _ => (z0_get (fun v16 => (z0_put (by omega) (z0_get (fun v26 => (z0_put (by omega) z0_ret))))))))) (fun h2 => z0_ret))))
set_option maxRecDepth 20000 in
theorem z_g_X5_takeBehindOperand (x1 : Int) : z0 (g_X5_takeBehindOperand x1) := by
  unfold g_X5_takeBehindOperand
  exact (z0_cb (fun h1 => (z0_bd (z_g_X9_isComparison x1) (fun v11 => (z0_cz (fun h2 => (z_g_X5_takeBehindOperand_31 x1)) (fun h3 => (z0_get (fun v22 => (z0_al (fun v25 => (z0_cz (fun h4 => (z_g_X5_takeBehindOperand_31 x1)) (fun h5 => z0_ret))))))))))) (fun h6 => (z0_bd z_g_X5_takeClose (fun v6 => z0_ret))))
set_option maxRecDepth 20000 in
theorem z_g_X5_take (x1 : Int) : z0 (g_X5_take x1) := by
  unfold g_X5_take
  exact (z0_get (fun v1 => (z0_ck (fun h1 => (z0_it (fun h2 => (z0_bd (z_g_X5_takeAtLine x1) (fun v34 => z0_ret))) (fun h3 => (z0_it (fun h4 => (z0_bd (z_g_X5_takeKind x1) (fun v40 => z0_ret))) (fun h5 => (z0_it (fun h6 => (z0_bd (z_g_X5_takeOperand x1) (fun v46 => z0_ret))) (fun h7 => (z0_bd (z_g_X5_takeBehindOperand x1) (fun v52 => z0_ret))))))))))))
set_option maxRecDepth 20000 in
theorem z_gB_X5_read_49 (x2 : Int) (rec_49 : Int → gM Int) (hrec_49 : ∀ s, z0 (rec_49 s)) (x4 : Int) : z0 (gB_X5_read_49 x2 rec_49 x4) := by
  unfold gB_X5_read_49
  exact (z0_cb (fun h1 => z_g_X5_read_115) (fun h2 => (z0_bd z_g_X9_advance (fun _ => (z0_get (fun v68 => (z0_bd (z_g_X5_take v68) (fun v71 => (z0_put (by omega) (z0_get (fun v78 => (z0_cz (fun h3 => (z0_get (fun v100 => (z0_cz (fun h4 => (z0_let (fun x4_109 => (hrec_49 _)))) (fun h5 => z_g_X5_read_115))))) (fun h6 => (z0_get (fun v89 => (z0_put (by omega) z0_ret))))))))))))))))
set_option maxRecDepth 20000 in
theorem z_g_X5_read_49 (x2 : Int) (x4 : Int) : z0 (g_X5_read_49 x2 x4) := by
  unfold g_X5_read_49
  exact (z0_fx (fun rec hrec s => (z_gB_X5_read_49 x2 rec hrec s)) _ _)
set_option maxRecDepth 20000 in
theorem z_g_X5_read (x2 : Int) (x3 : Int) : z0 (g_X5_read x2 x3) := by
  unfold g_X5_read
  exact (z0_bd (z_g_X9_open x2) (fun _ => (z0_put (by omega) (z0_get (fun v15 => (z0_ck (fun h1 => (z0_bd (z_g_X4_clear v15) (fun _ => (z0_put (by omega) (z0_put (by omega) (z0_put (by omega) (z0_put (by omega) (z0_put (by omega) (z_g_X5_read_49 x2 0)))))))))))))))
set_option maxRecDepth 20000 in
theorem z_g_X11_plan (x1 : Int) : z0 (g_X11_plan x1) := by
  unfold g_X11_plan
  exact (z0_cz (fun h1 => z0_ret) (fun h2 => (z0_get (fun v6 => (z0_cb (fun h3 => (z0_get (fun v25 => (z0_bd (z_g_X5_read x1 v25) (fun _ => (z0_put (by omega) (z0_get (fun v40 => (z0_cz (fun h4 => (z0_get (fun v49 => (z0_get (fun v55 => (z0_put (by omega) (z0_put (by omega) (z0_put (by omega) (z0_get (fun v72 => (z0_ck (fun h5 => (z0_get (fun v75 => z0_ret)))))))))))))) (fun h6 => z0_ret)))))))))) (fun h7 => z0_ret))))))
set_option maxRecDepth 20000 in
theorem z_g_X11_fault (x1 : Int) : z0 (g_X11_fault x1) := by
  unfold g_X11_fault
  exact (z0_ck (fun h1 => (z0_it (fun h2 => (z0_get (fun v32 => z0_ret))) (fun h3 => (z0_it (fun h4 => (z0_get (fun v40 => z0_ret))) (fun h5 => z0_ret))))))
set_option maxRecDepth 20000 in
theorem z_g_X11_tried_30 : z0 (g_X11_tried_30) := by
  unfold g_X11_tried_30
  exact z0_ret
set_option maxRecDepth 20000 in
theorem z_gB_X1_start_2_o29 (x2 : Int) (rec_2 : Int → gM Int) (hrec_2 : ∀ s, z0 (rec_2 s)) (x3 : Int) : z0 (gB_X1_start_2_o29 x2 rec_2 x3) := by
  unfold gB_X1_start_2_o29
  exact (z0_cb (fun h1 => (z0_put (by omega) (z0_put (by omega) (z0_get (fun v37 => (z0_put (by omega) (z0_put (by omega) (z0_put (by omega) (z0_put (by omega) z0_ret))))))))) (fun h2 => (z0_al (fun v17 => (z0_as (by omega) (z0_let (fun x3_19 => (hrec_2 _))))))))
set_option maxRecDepth 20000 in
theorem z_g_X1_start_2_o29 (x2 : Int) (x3 : Int) : z0 (g_X1_start_2_o29 x2 x3) := by
  unfold g_X1_start_2_o29
  exact (z0_fx (fun rec hrec s => (z_gB_X1_start_2_o29 x2 rec hrec s)) _ _)
set_option maxRecDepth 20000 in
theorem z_g_X1_start_o29 (x2 : Int) : z0 (g_X1_start_o29 x2) := by
  unfold g_X1_start_o29
  exact (z_g_X1_start_2_o29 x2 0)
set_option maxRecDepth 20000 in
theorem z_g_X6_run_77 (rec_24 : Int → gM Int) (hrec_24 : ∀ s, z0 (rec_24 s)) (x2 : Int) (x3 : Int) (x4 : Int) : z0 (g_X6_run_77 rec_24 x2 x3 x4) := by
  unfold g_X6_run_77
  exact (z0_let (fun x4_77 => (hrec_24 _)))
set_option maxRecDepth 20000 in
theorem z_g_X4_conditionFrom (x0 : Int) (x1 : Int) : z0 (g_X4_conditionFrom x0 x1) := by
  unfold g_X4_conditionFrom
  exact (z0_cz (fun h1 => z0_ret) (fun h2 => (z0_ck (fun h3 => (z0_al (fun v11 => z0_ret))))))
set_option maxRecDepth 20000 in
theorem z_g_X4_hasCondition (x0 : Int) (x1 : Int) : z0 (g_X4_hasCondition x0 x1) := by
  unfold g_X4_hasCondition
  exact (z0_ck (fun h1 => (z0_al (fun v5 => (z0_ck (fun h2 => (z0_bd (z_g_X4_conditionFrom x0 x1) (fun v8 => (z0_ck (fun h3 => (z0_let (fun w19 => (z0_ck (fun h4 => z0_ret))))))))))))))
set_option maxRecDepth 20000 in
theorem z_g_X7_pop : z0 (g_X7_pop) := by
  unfold g_X7_pop
  exact (z0_get (fun v1 => (z0_cz (fun h1 => (z0_get (fun v16 => (z0_put (by omega) (z0_get (fun v29 => (z0_al (fun v32 => z0_ret)))))))) (fun h2 => (z0_put (by omega) z0_ret)))))
set_option maxRecDepth 20000 in
theorem z_g_X7_work_99 : z0 (g_X7_work_99) := by
  unfold g_X7_work_99
  exact (z0_get (fun v100 => (z0_cz (fun h1 => (z0_bd z_g_X7_pop (fun v111 => z0_ret))) (fun h2 => z0_ret))))
set_option maxRecDepth 20000 in
theorem z_g_X7_push_51 : z0 (g_X7_push_51) := by
  unfold g_X7_push_51
  exact (z0_put (by omega) z0_ret)
set_option maxRecDepth 20000 in
theorem z_g_X7_push (x1 : Int) : z0 (g_X7_push x1) := by
  unfold g_X7_push
  exact (z0_get (fun v1 => (z0_cb (fun h1 => z_g_X7_push_51) (fun h2 => (z0_cl (fun h3 => z_g_X7_push_51) (fun h4 => (z0_cl (fun h5 => z_g_X7_push_51) (fun h6 => (z0_get (fun v33 => (z0_as (by omega) (z0_get (fun v40 => (z0_put (by omega) z0_ret))))))))))))))
set_option maxRecDepth 20000 in
theorem z_g_X7_multiply_30 (x1 : Int) (x3 : Int) : z0 (g_X7_multiply_30 x1 x3) := by
  unfold g_X7_multiply_30
  exact (z0_bd (z_g_X7_push (x1 * x3)) (fun _ => z0_ret))
set_option maxRecDepth 20000 in
theorem z_g_X7_multiply (x1 : Int) (x3 : Int) : z0 (g_X7_multiply x1 x3) := by
  unfold g_X7_multiply
  exact (z0_cl (fun h1 => (z_g_X7_multiply_30 x1 x3)) (fun h2 => (z0_ck (fun h3 => (z0_let (fun v7 => (z0_ck (fun h4 => (z0_let (fun v14 => (z0_dvl (fun v17 => (z0_cl (fun h5 => (z_g_X7_multiply_30 x1 x3)) (fun h6 => (z0_put (by omega) z0_ret)))))))))))))))
set_option maxRecDepth 20000 in
theorem z_g_X7_divide (x1 : Int) (x3 : Int) : z0 (g_X7_divide x1 x3) := by
  unfold g_X7_divide
  exact (z0_cl (fun h1 => (z0_dvl (fun v17 => (z0_bd (z_g_X7_push v17) (fun _ => z0_ret))))) (fun h2 => (z0_put (by omega) z0_ret)))
set_option maxRecDepth 20000 in
theorem z_g_X7_holds (x0 : Int) (x1 : Int) (x3 : Int) : z0 (g_X7_holds x0 x1 x3) := by
  unfold g_X7_holds
  exact (z0_ck (fun h1 => (z0_it (fun h2 => (z0_cl (fun h3 => z0_ret) (fun h4 => (z0_cl (fun h5 => z0_ret) (fun h6 => z0_ret))))) (fun h7 => (z0_it (fun h8 => (z0_cl (fun h9 => z0_ret) (fun h10 => (z0_cl (fun h11 => z0_ret) (fun h12 => z0_ret))))) (fun h13 => (z0_it (fun h14 => (z0_ck (fun h15 => (z0_let (fun w127 => (z0_ck (fun h16 => z0_ret))))))) (fun h17 => (z0_it (fun h18 => (z0_ck (fun h19 => (z0_let (fun w139 => (z0_ck (fun h20 => z0_ret))))))) (fun h21 => (z0_it (fun h22 => (z0_ck (fun h23 => (z0_let (fun w151 => (z0_ck (fun h24 => z0_ret))))))) (fun h25 => (z0_it (fun h26 => (z0_ck (fun h27 => (z0_let (fun w163 => (z0_ck (fun h28 => z0_ret))))))) (fun h29 => (z0_it (fun h30 => (z0_ck (fun h31 => (z0_let (fun w175 => (z0_ck (fun h32 => z0_ret))))))) (fun h33 => (z0_ck (fun h34 => (z0_let (fun w187 => (z0_ck (fun h35 => z0_ret))))))))))))))))))))))
set_option maxRecDepth 20000 in
theorem z_g_X7_operate (x1 : Int) : z0 (g_X7_operate x1) := by
  unfold g_X7_operate
  exact (z0_bd z_g_X7_pop (fun v1 => (z0_cb (fun h1 => (z0_bd z_g_X7_pop (fun v28 => (z0_ck (fun h2 => (z0_it (fun h3 => (z0_bd (z_g_X7_push (v28 + v1)) (fun _ => z0_ret))) (fun h4 => (z0_it (fun h5 => (z0_bd (z_g_X7_push (v28 - v1)) (fun _ => z0_ret))) (fun h6 => (z0_it (fun h7 => (z0_bd (z_g_X7_multiply v28 v1) (fun _ => z0_ret))) (fun h8 => (z0_it (fun h9 => (z0_bd (z_g_X7_divide v28 v1) (fun _ => z0_ret))) (fun h10 => (z0_bd (z_g_X7_holds x1 v28 v1) (fun v111 => (z0_ck (fun h11 => (z0_let (fun w122 => (z0_bd (z_g_X7_push w122) (fun _ => z0_ret))))))))))))))))))))) (fun h12 => (z0_ck (fun h13 => (z0_let (fun w23 => (z0_bd (z_g_X7_push w23) (fun _ => z0_ret))))))))))
set_option maxRecDepth 20000 in
theorem z_g_X7_work_93 (rec_13 : Int → gM Int) (hrec_13 : ∀ s, z0 (rec_13 s)) (x1 : Int) (x3 : Int) (x5 : Int) : z0 (g_X7_work_93 rec_13 x1 x3 x5) := by
  unfold g_X7_work_93
  exact (z0_let (fun x5_93 => (hrec_13 _)))
set_option maxRecDepth 20000 in
theorem z_g_X1_lastStep_o29 : z0 (g_X1_lastStep_o29) := by
  unfold g_X1_lastStep_o29
  exact (z0_get (fun v1 => (z0_cz (fun h1 => z0_ret) (fun h2 => (z0_get (fun v12 => (z0_al (fun v17 => z0_ret))))))))
set_option maxRecDepth 20000 in
theorem z_g_X1_lastBroke_o29 : z0 (g_X1_lastBroke_o29) := by
  unfold g_X1_lastBroke_o29
  exact (z0_get (fun v1 => (z0_cz (fun h1 => z0_ret) (fun h2 => (z0_get (fun v12 => (z0_al (fun v17 => z0_ret))))))))
set_option maxRecDepth 20000 in
theorem z_g_X7_valueOfName (x0 : Int) : z0 (g_X7_valueOfName x0) := by
  unfold g_X7_valueOfName
  exact (z0_ck (fun h1 => (z0_it (fun h2 => (z0_get (fun v49 => (z0_ck (fun h3 => z0_ret))))) (fun h4 => (z0_it (fun h5 => (z0_get (fun v55 => (z0_ck (fun h6 => z0_ret))))) (fun h7 => (z0_it (fun h8 => (z0_get (fun v61 => (z0_get (fun v65 => (z0_ck (fun h9 => z0_ret))))))) (fun h10 => (z0_it (fun h11 => (z0_get (fun v72 => (z0_ck (fun h12 => z0_ret))))) (fun h13 => (z0_it (fun h14 => (z0_bd z_g_X1_lastStep_o29 (fun v78 => (z0_ck (fun h15 => z0_ret))))) (fun h16 => (z0_it (fun h17 => (z0_bd z_g_X1_lastBroke_o29 (fun v84 => (z0_ck (fun h18 => z0_ret))))) (fun h19 => (z0_it (fun h20 => (z0_al (fun v94 => (z0_ck (fun h21 => z0_ret))))) (fun h22 => (z0_it (fun h23 => (z0_al (fun v102 => (z0_ck (fun h24 => z0_ret))))) (fun h25 => (z0_al (fun v110 => (z0_ck (fun h26 => z0_ret))))))))))))))))))))))
set_option maxRecDepth 20000 in
theorem z_gB_X7_work_13 (x1 : Int) (x3 : Int) (rec_13 : Int → gM Int) (hrec_13 : ∀ s, z0 (rec_13 s)) (x5 : Int) : z0 (gB_X7_work_13 x1 x3 rec_13 x5) := by
  unfold gB_X7_work_13
  exact (z0_cb (fun h1 => z_g_X7_work_99) (fun h2 => (z0_get (fun v20 => (z0_cz (fun h3 => z_g_X7_work_99) (fun h4 => (z0_ck (fun h5 => (z0_al (fun v32 => (z0_cb (fun h6 => (z0_bd (z_g_X9_isName (v32 - 1000)) (fun v59 => (z0_cz (fun h7 => (z0_bd (z_g_X7_operate (v32 - 1000)) (fun _ => (z_g_X7_work_93 rec_13 hrec_13 x1 x3 x5)))) (fun h8 => (z0_bd (z_g_X7_valueOfName (v32 - 1000)) (fun v74 => (z0_bd (z_g_X7_push v74) (fun _ => (z_g_X7_work_93 rec_13 hrec_13 x1 x3 x5)))))))))) (fun h9 => (z0_ck (fun h10 => (z0_bd (z_g_X7_push v32) (fun _ => (z_g_X7_work_93 rec_13 hrec_13 x1 x3 x5)))))))))))))))))
set_option maxRecDepth 20000 in
theorem z_g_X7_work_13 (x1 : Int) (x3 : Int) (x5 : Int) : z0 (g_X7_work_13 x1 x3 x5) := by
  unfold g_X7_work_13
  exact (z0_fx (fun rec hrec s => (z_gB_X7_work_13 x1 x3 rec hrec s)) _ _)
set_option maxRecDepth 20000 in
theorem z_g_X7_work (x1 : Int) (x2 : Int) (x3 : Int) : z0 (g_X7_work x1 x2 x3) := by
  unfold g_X7_work
  exact (z0_put (by omega) (z0_put (by omega) (z_g_X7_work_13 x1 x3 x2)))
set_option maxRecDepth 20000 in
theorem z_gB_X6_lineThatHolds_2 (x1 : Int) (rec_2 : Int → gM Int) (hrec_2 : ∀ s, z0 (rec_2 s)) (x2 : Int) : z0 (gB_X6_lineThatHolds_2 x1 rec_2 x2) := by
  unfold gB_X6_lineThatHolds_2
  exact (z0_ck (fun h1 => (z0_get (fun v4 => (z0_cb (fun h2 => z0_ret) (fun h3 => (z0_ck (fun h4 => (z0_bd (z_g_X4_hasCondition x1 x2) (fun v12 => (z0_cz (fun h5 => (z0_ck (fun h6 => (z0_bd (z_g_X4_conditionFrom x1 x2) (fun v27 => (z0_ck (fun h7 => (z0_al (fun v35 => (z0_bd (z_g_X7_work x1 v27 v35) (fun v40 => (z0_cl (fun h8 => (z0_let (fun x2_50 => (hrec_2 _)))) (fun h9 => z0_ret))))))))))))) (fun h10 => z0_ret))))))))))))
set_option maxRecDepth 20000 in
theorem z_g_X6_lineThatHolds_2 (x1 : Int) (x2 : Int) : z0 (g_X6_lineThatHolds_2 x1 x2) := by
  unfold g_X6_lineThatHolds_2
  exact (z0_fx (fun rec hrec s => (z_gB_X6_lineThatHolds_2 x1 rec hrec s)) _ _)
set_option maxRecDepth 20000 in
theorem z_g_X6_lineThatHolds (x1 : Int) : z0 (g_X6_lineThatHolds x1) := by
  unfold g_X6_lineThatHolds
  exact (z_g_X6_lineThatHolds_2 x1 0)
set_option maxRecDepth 20000 in
theorem z_g_X6_letFall_30 : z0 (g_X6_letFall_30) := by
  unfold g_X6_letFall_30
  exact (z0_put (by omega) z0_ret)
set_option maxRecDepth 20000 in
theorem z_g_X8_hasStep (x1 : Int) : z0 (g_X8_hasStep x1) := by
  unfold g_X8_hasStep
  exact (z0_cb (fun h1 => z0_ret) (fun h2 => (z0_get (fun v7 => (z0_cb (fun h3 => z0_ret) (fun h4 => z0_ret))))))
set_option maxRecDepth 20000 in
theorem z_g_X1_canFall_o29 (x2 : Int) (x3 : Int) : z0 (g_X1_canFall_o29 x2 x3) := by
  unfold g_X1_canFall_o29
  exact (z0_bd (z_g_X8_hasKind x2) (fun v2 => (z0_cz (fun h1 => z0_ret) (fun h2 => (z0_bd (z_g_X8_hasStep x3) (fun v10 => (z0_cz (fun h3 => z0_ret) (fun h4 => (z0_al (fun v21 => (z0_cz (fun h5 => z0_ret) (fun h6 => (z0_get (fun v26 => (z0_cb (fun h7 => z0_ret) (fun h8 => z0_ret))))))))))))))))
set_option maxRecDepth 20000 in
theorem z_g_X8_breaks (x1 : Int) (x2 : Int) (x3 : Int) : z0 (g_X8_breaks x1 x2 x3) := by
  unfold g_X8_breaks
  exact (z0_al (fun v7 => (z0_ck (fun h1 => (z0_let (fun w17 => (z0_ck (fun h2 => z0_ret))))))))
set_option maxRecDepth 20000 in
theorem z_g_X8_costOf_25 (s0 : Int) (s1 : Int) : z0 (g_X8_costOf_25 s0 s1) := by
  unfold g_X8_costOf_25
  exact z0_ret
set_option maxRecDepth 20000 in
theorem z_g_X8_costOf (x1 : Int) (x2 : Int) (x3 : Int) : z0 (g_X8_costOf x1 x2 x3) := by
  unfold g_X8_costOf
  exact (z0_get (fun v1 => (z0_get (fun v5 => (z0_cz (fun h1 => (z_g_X8_costOf_25 (v1 + (v5 * x2)) 0)) (fun h2 => (z0_al (fun v20 => (z_g_X8_costOf_25 (v1 + (v5 * x2)) v20)))))))))
set_option maxRecDepth 20000 in
theorem z_g_X1_letFall_166_o29 (x2 : Int) (x3 : Int) (x4 : Int) : z0 (g_X1_letFall_166_o29 x2 x3 x4) := by
  unfold g_X1_letFall_166_o29
  exact (z0_get (fun v168 => (z0_bd (z_g_X8_costOf x2 x3 x4) (fun v176 => (z0_put (by omega) (z0_ck (fun h1 => z0_ret)))))))
set_option maxRecDepth 20000 in
theorem z_g_X1_letFall_o29 (x2 : Int) (x3 : Int) : z0 (g_X1_letFall_o29 x2 x3) := by
  unfold g_X1_letFall_o29
  exact (z0_get (fun v4 => (z0_bd (z_g_X8_breaks x2 x3 v4) (fun v7 => (z0_get (fun v17 => (z0_as (by omega) (z0_get (fun v27 => (z0_as (by omega) (z0_get (fun v37 => (z0_ck (fun h1 => (z0_let (fun w50 => (z0_as (by omega) (z0_get (fun v56 => (z0_get (fun v60 => (z0_as (by omega) (z0_get (fun v69 => (z0_get (fun v73 => (z0_as (by omega) (z0_get (fun v82 => (z0_get (fun v86 => (z0_as (by omega) (z0_get (fun v92 => (z0_put (by omega) (z0_al (fun v106 => (z0_let (fun x5_108 => (z0_cz (fun h2 => (z0_get (fun v155 => (z0_ck (fun h3 => (z0_let (fun v160 => (z0_put (by omega) (z_g_X1_letFall_166_o29 x2 x3 v7))))))))) (fun h4 => (z0_get (fun v117 => (z0_ck (fun h5 => (z0_let (fun v124 => (z0_put (by omega) (z0_al (fun v136 => (z0_as (by omega) (z0_get (fun v142 => (z0_put (by omega) (z_g_X1_letFall_166_o29 x2 x3 v7)))))))))))))))))))))))))))))))))))))))))))))))))))))))
set_option maxRecDepth 20000 in
theorem z_g_X6_letFall (x2 : Int) (x3 : Int) : z0 (g_X6_letFall x2 x3) := by
  unfold g_X6_letFall
  exact (z0_cl (fun h1 => z_g_X6_letFall_30) (fun h2 => (z0_get (fun v8 => (z0_ck (fun h3 => (z0_cl (fun h4 => z_g_X6_letFall_30) (fun h5 => (z0_bd (z_g_X1_canFall_o29 x2 x3) (fun v24 => (z0_cz (fun h6 => (z0_bd (z_g_X1_letFall_o29 x2 x3) (fun v46 => z0_ret))) (fun h7 => z_g_X6_letFall_30))))))))))))
set_option maxRecDepth 20000 in
theorem z_g_X6_takeTurn (x2 : Int) : z0 (g_X6_takeTurn x2) := by
  unfold g_X6_takeTurn
  exact (z0_bd (z_g_X6_lineThatHolds x2) (fun v2 => (z0_cb (fun h1 => (z0_ck (fun h2 => (z0_al (fun v27 => (z0_ck (fun h3 => (z0_al (fun v33 => (z0_bd (z_g_X7_work x2 v27 v33) (fun v38 => (z0_get (fun v47 => (z0_cz (fun h4 => (z0_ck (fun h5 => (z0_al (fun v66 => (z0_cb (fun h6 => (z0_ck (fun h7 => (z0_al (fun v110 => (z0_bd (z_g_X6_letFall v110 v38) (fun _ => z0_ret))))))) (fun h8 => (z0_put (by omega) (z0_get (fun v84 => (z0_ck (fun h9 => (z0_ck (fun h10 => (z0_let (fun w97 => (z0_put (by omega) z0_ret))))))))))))))))) (fun h11 => (z0_put (by omega) z0_ret)))))))))))))))) (fun h12 => (z0_put (by omega) z0_ret)))))
set_option maxRecDepth 20000 in
theorem z_gB_X6_run_24 (x2 : Int) (x3 : Int) (rec_24 : Int → gM Int) (hrec_24 : ∀ s, z0 (rec_24 s)) (x4 : Int) : z0 (gB_X6_run_24 x2 x3 rec_24 x4) := by
  unfold gB_X6_run_24
  exact (z0_cb (fun h1 => z0_ret) (fun h2 => (z0_get (fun v33 => (z0_cb (fun h3 => z0_ret) (fun h4 => (z0_get (fun v44 => (z0_get (fun v51 => (z0_cb (fun h5 => (z0_put (by omega) (z0_ck (fun h6 => (z0_put (by omega) (z_g_X6_run_77 rec_24 hrec_24 x2 x3 x4)))))) (fun h7 => (z0_bd (z_g_X6_takeTurn x2) (fun _ => (z_g_X6_run_77 rec_24 hrec_24 x2 x3 x4)))))))))))))))
set_option maxRecDepth 20000 in
theorem z_g_X6_run_24 (x2 : Int) (x3 : Int) (x4 : Int) : z0 (g_X6_run_24 x2 x3 x4) := by
  unfold g_X6_run_24
  exact (z0_fx (fun rec hrec s => (z_gB_X6_run_24 x2 x3 rec hrec s)) _ _)
set_option maxRecDepth 20000 in
theorem z_g_X6_run (x2 : Int) (x3 : Int) : z0 (g_X6_run x2 x3) := by
  unfold g_X6_run
  exact (z0_bd (z_g_X1_start_o29 x3) (fun _ => (z0_put (by omega) (z0_put (by omega) (z_g_X6_run_24 x2 x3 0)))))
set_option maxRecDepth 20000 in
theorem z_g_X11_tried (x1 : Int) (x2 : Int) : z0 (g_X11_tried x1 x2) := by
  unfold g_X11_tried
  exact (z0_get (fun v1 => (z0_cz (fun h1 => (z0_bd (z_g_X8_hasStrength x1) (fun v16 => (z0_cz (fun h2 => z_g_X11_tried_30) (fun h3 => (z0_bd (z_g_X11_isWithin x2 4) (fun v24 => (z0_cz (fun h4 => (z0_get (fun v43 => (z0_bd (z_g_X6_run v43 x1) (fun _ => (z0_ck (fun h5 => (z0_it (fun h6 => (z0_get (fun v84 => (z0_ck (fun h7 => z0_ret))))) (fun h8 => (z0_it (fun h9 => (z0_get (fun v96 => (z0_ck (fun h10 => z0_ret))))) (fun h11 => (z0_it (fun h12 => (z0_get (fun v108 => (z0_ck (fun h13 => z0_ret))))) (fun h14 => (z0_it (fun h15 => (z0_get (fun v120 => (z0_ck (fun h16 => z0_ret))))) (fun h17 => (z0_get (fun v129 => z0_ret))))))))))))))))) (fun h18 => z_g_X11_tried_30))))))))) (fun h19 => z0_ret))))
set_option maxRecDepth 20000 in
theorem z_g_X1_recall_o29 (x1 : Int) (x2 : Int) : z0 (g_X1_recall_o29 x1 x2) := by
  unfold g_X1_recall_o29
  exact (z0_cz (fun h1 => z0_ret) (fun h2 => (z0_get (fun v6 => (z0_cb (fun h3 => (z0_cz (fun h4 => (z0_cb (fun h5 => (z0_al (fun v46 => z0_ret))) (fun h6 => (z0_al (fun v37 => z0_ret))))) (fun h7 => (z0_al (fun v23 => z0_ret))))) (fun h8 => z0_ret))))))
set_option maxRecDepth 20000 in
theorem z_g_X11_fall (x1 : Int) (x2 : Int) (x3 : Int) : z0 (g_X11_fall x1 x2 x3) := by
  unfold g_X11_fall
  exact (z0_get (fun v1 => (z0_cz (fun h1 => (z0_bd (z_g_X8_hasStrength x1) (fun v15 => (z0_cz (fun h2 => z0_ret) (fun h3 => (z0_cz (fun h4 => z0_ret) (fun h5 => (z0_bd (z_g_X11_isWithin x3 2) (fun v27 => (z0_cz (fun h6 => (z0_get (fun v44 => (z0_bd (z_g_X6_run v44 x1) (fun _ => (z0_bd (z_g_X1_recall_o29 x2 x3) (fun v60 => z0_ret))))))) (fun h7 => z0_ret))))))))))) (fun h8 => z0_ret))))
set_option maxRecDepth 20000 in
theorem z_g_X6_shareOf (x1 : Int) (x2 : Int) : z0 (g_X6_shareOf x1 x2) := by
  unfold g_X6_shareOf
  exact (z0_ck (fun h1 => (z0_it (fun h2 => (z0_get (fun v40 => (z0_ck (fun h3 => z0_ret))))) (fun h4 => (z0_it (fun h5 => (z0_get (fun v49 => (z0_ck (fun h6 => z0_ret))))) (fun h7 => (z0_it (fun h8 => (z0_ck (fun h9 => (z0_get (fun v60 => (z0_ck (fun h10 => z0_ret))))))) (fun h11 => (z0_it (fun h12 => (z0_ck (fun h13 => (z0_get (fun v72 => (z0_ck (fun h14 => z0_ret))))))) (fun h15 => (z0_it (fun h16 => (z0_get (fun v79 => (z0_cb (fun h17 => z0_ret) (fun h18 => (z0_ck (fun h19 => z0_ret))))))) (fun h20 => (z0_get (fun v94 => (z0_cb (fun h21 => z0_ret) (fun h22 => (z0_ck (fun h23 => z0_ret))))))))))))))))))
set_option maxRecDepth 20000 in
theorem z_g_X11_judge_95 (rec_28 : Int × Int → gM Int) (hrec_28 : ∀ s, z0 (rec_28 s)) (x1 : Int) (x4 : Int) (s0 : Int) : z0 (g_X11_judge_95 rec_28 x1 x4 s0) := by
  unfold g_X11_judge_95
  exact (z0_let (fun x4_96 => (hrec_28 _)))
set_option maxRecDepth 20000 in
theorem z_gB_X11_judge_28 (x1 : Int) (rec_28 : Int × Int → gM Int) (hrec_28 : ∀ s, z0 (rec_28 s)) (x2 : Int) (x4 : Int) : z0 (gB_X11_judge_28 x1 rec_28 x2 x4) := by
  unfold gB_X11_judge_28
  exact (z0_get (fun v34 => (z0_cb (fun h1 => z0_ret) (fun h2 => (z0_get (fun v49 => (z0_bd (z_g_X6_run v49 x4) (fun _ => (z0_al (fun v71 => (z0_bd (z_g_X6_shareOf x1 v71) (fun v72 => (z0_cb (fun h3 => (z_g_X11_judge_95 rec_28 hrec_28 x1 x4 (x2 + v72))) (fun h4 => (z0_ck (fun h5 => (z0_let (fun v85 => (z_g_X11_judge_95 rec_28 hrec_28 x1 x4 v85)))))))))))))))))))
set_option maxRecDepth 20000 in
theorem z_g_X11_judge_28 (x1 : Int) (x2 : Int) (x4 : Int) : z0 (g_X11_judge_28 x1 x2 x4) := by
  unfold g_X11_judge_28
  exact (z0_fx (fun rec hrec s => (z_gB_X11_judge_28 x1 rec hrec s.1 s.2)) _ _)
set_option maxRecDepth 20000 in
theorem z_g_X11_judge (x1 : Int) : z0 (g_X11_judge x1) := by
  unfold g_X11_judge
  exact (z0_get (fun v1 => (z0_cz (fun h1 => (z0_bd (z_g_X11_isWithin x1 5) (fun v13 => (z0_cz (fun h2 => (z_g_X11_judge_28 x1 0 0)) (fun h3 => z0_ret))))) (fun h4 => z0_ret))))
set_option maxRecDepth 20000 in
theorem z_g_X3_settle_65 (rec_30 : Int → gM Int) (hrec_30 : ∀ s, z0 (rec_30 s)) (x1 : Int) : z0 (g_X3_settle_65 rec_30 x1) := by
  unfold g_X3_settle_65
  exact (z0_let (fun x1_65 => (hrec_30 _)))
set_option maxRecDepth 20000 in
theorem z_gB_X3_settle_30 (rec_30 : Int → gM Int) (hrec_30 : ∀ s, z0 (rec_30 s)) (x1 : Int) : z0 (gB_X3_settle_30 rec_30 x1) := by
  unfold gB_X3_settle_30
  exact (z0_cz (fun h1 => z0_ret) (fun h2 => (z0_al (fun v39 => (z0_cz (fun h3 => (z_g_X3_settle_65 rec_30 hrec_30 x1)) (fun h4 => (z0_al (fun v48 => (z0_cb (fun h5 => (z_g_X3_settle_65 rec_30 hrec_30 x1)) (fun h6 => (z0_al (fun v62 => (z0_as (by omega) (z_g_X3_settle_65 rec_30 hrec_30 x1))))))))))))))
set_option maxRecDepth 20000 in
theorem z_g_X3_settle_30 (x1 : Int) : z0 (g_X3_settle_30 x1) := by
  unfold g_X3_settle_30
  exact (z0_fx (fun rec hrec s => (z_gB_X3_settle_30 rec hrec s)) _ _)
set_option maxRecDepth 20000 in
theorem z_gB_X3_settle_2 (rec_2 : Int → gM Int) (hrec_2 : ∀ s, z0 (rec_2 s)) (x1 : Int) : z0 (gB_X3_settle_2 rec_2 x1) := by
  unfold gB_X3_settle_2
  exact (z0_get (fun v4 => (z0_cb (fun h1 => (z0_get (fun v24 => (z0_let (fun x1_29 => (z_g_X3_settle_30 x1_29)))))) (fun h2 => (z0_as (by omega) (z0_let (fun x1_17 => (hrec_2 _))))))))
set_option maxRecDepth 20000 in
theorem z_g_X3_settle_2 (x1 : Int) : z0 (g_X3_settle_2 x1) := by
  unfold g_X3_settle_2
  exact (z0_fx (fun rec hrec s => (z_gB_X3_settle_2 rec hrec s)) _ _)
set_option maxRecDepth 20000 in
theorem z_g_X3_settle : z0 (g_X3_settle) := by
  unfold g_X3_settle
  exact (z_g_X3_settle_2 0)
set_option maxRecDepth 20000 in
theorem z_g_X3_close (x1 : Int) : z0 (g_X3_close x1) := by
  unfold g_X3_close
  exact (z0_get (fun v5 => (z0_as (by omega) (z0_get (fun v12 => (z0_put (by omega) (z0_bd z_g_X3_settle (fun _ => (z0_get (fun v25 => z0_ret))))))))))
set_option maxRecDepth 20000 in
theorem z_g_X3_write (x1 : Int) (x2 : Int) (x3 : Int) (x4 : Int) : z0 (g_X3_write x1 x2 x3 x4) := by
  unfold g_X3_write
  exact (z0_get (fun v1 => (z0_cb (fun h1 => (z0_get (fun v16 => (z0_as (by omega) (z0_get (fun v26 => (z0_as (by omega) (z0_get (fun v36 => (z0_as (by omega) (z0_get (fun v46 => (z0_ck (fun h2 => (z0_as (by omega) (z0_bd (z_g_X3_close (-1)) (fun v54 => z0_ret))))))))))))))))) (fun h3 => z0_ret))))
set_option maxRecDepth 20000 in
theorem z_g_X11_note (x1 : Int) (x2 : Int) (x3 : Int) (x4 : Int) : z0 (g_X11_note x1 x2 x3 x4) := by
  unfold g_X11_note
  exact (z0_bd (z_g_X11_isWithin x1 5) (fun v2 => (z0_cz (fun h1 => z0_ret) (fun h2 => (z0_bd (z_g_X8_hasKind x2) (fun v13 => (z0_cz (fun h3 => z0_ret) (fun h4 => (z0_bd (z_g_X8_hasStep x3) (fun v24 => (z0_cz (fun h5 => (z0_bd (z_g_X3_write x1 x2 x3 x4) (fun v41 => z0_ret))) (fun h6 => z0_ret))))))))))))
set_option maxRecDepth 20000 in
theorem z_g_X3_writeStrike (x1 : Int) : z0 (g_X3_writeStrike x1) := by
  unfold g_X3_writeStrike
  exact (z0_cz (fun h1 => z0_ret) (fun h2 => (z0_get (fun v6 => (z0_cb (fun h3 => z0_ret) (fun h4 => (z0_get (fun v13 => (z0_cb (fun h5 => (z0_bd (z_g_X3_close x1) (fun v25 => z0_ret))) (fun h6 => z0_ret))))))))))
set_option maxRecDepth 20000 in
theorem z_g_X11_strike (x1 : Int) : z0 (g_X11_strike x1) := by
  unfold g_X11_strike
  exact (z0_bd (z_g_X3_writeStrike x1) (fun v5 => z0_ret))
set_option maxRecDepth 20000 in
theorem z_g_X3_isWrong (x1 : Int) (x3 : Int) : z0 (g_X3_isWrong x1 x3) := by
  unfold g_X3_isWrong
  exact (z0_al (fun v5 => (z0_cz (fun h1 => z0_ret) (fun h2 => (z0_al (fun v14 => (z0_cb (fun h3 => z0_ret) (fun h4 => (z0_al (fun v25 => (z0_al (fun v31 => (z0_bd (z_g_X8_breaks v25 v31 x3) (fun v33 => (z0_al (fun v41 => (z0_cb (fun h5 => z0_ret) (fun h6 => z0_ret))))))))))))))))))
set_option maxRecDepth 20000 in
theorem z_g_X3_wrongAt_28 (rec_5 : Int × Int → gM Int) (hrec_5 : ∀ s, z0 (rec_5 s)) (x2 : Int) (x3 : Int) (x4 : Int) : z0 (g_X3_wrongAt_28 rec_5 x2 x3 x4) := by
  unfold g_X3_wrongAt_28
  exact (z0_let (fun x4_28 => (hrec_5 _)))
set_option maxRecDepth 20000 in
theorem z_gB_X3_wrongAt_5 (x2 : Int) (rec_5 : Int × Int → gM Int) (hrec_5 : ∀ s, z0 (rec_5 s)) (x3 : Int) (x4 : Int) : z0 (gB_X3_wrongAt_5 x2 rec_5 x3 x4) := by
  unfold gB_X3_wrongAt_5
  exact (z0_get (fun v8 => (z0_cb (fun h1 => z0_ret) (fun h2 => (z0_bd (z_g_X3_isWrong x4 x2) (fun v19 => (z0_cz (fun h3 => (z_g_X3_wrongAt_28 rec_5 hrec_5 x2 x3 x4)) (fun h4 => (z0_let (fun x3_25 => (z_g_X3_wrongAt_28 rec_5 hrec_5 x2 x3_25 x4)))))))))))
set_option maxRecDepth 20000 in
theorem z_g_X3_wrongAt_5 (x2 : Int) (x3 : Int) (x4 : Int) : z0 (g_X3_wrongAt_5 x2 x3 x4) := by
  unfold g_X3_wrongAt_5
  exact (z0_fx (fun rec hrec s => (z_gB_X3_wrongAt_5 x2 rec hrec s.1 s.2)) _ _)
set_option maxRecDepth 20000 in
theorem z_g_X3_wrongAt (x2 : Int) : z0 (g_X3_wrongAt x2) := by
  unfold g_X3_wrongAt
  exact (z_g_X3_wrongAt_5 x2 0 0)
set_option maxRecDepth 20000 in
theorem z_g_X11_fitting_40 (rec_4 : Int × Int → gM Int) (hrec_4 : ∀ s, z0 (rec_4 s)) (x1 : Int) (x2 : Int) (x3 : Int) : z0 (g_X11_fitting_40 rec_4 x1 x2 x3) := by
  unfold g_X11_fitting_40
  exact (z0_let (fun x3_40 => (hrec_4 _)))
set_option maxRecDepth 20000 in
theorem z_gB_X11_fitting_4 (x1 : Int) (rec_4 : Int × Int → gM Int) (hrec_4 : ∀ s, z0 (rec_4 s)) (x2 : Int) (x3 : Int) : z0 (gB_X11_fitting_4 x1 rec_4 x2 x3) := by
  unfold gB_X11_fitting_4
  exact (z0_get (fun v9 => (z0_cb (fun h1 => (z0_ck (fun h2 => (z0_let (fun w56 => z0_ret))))) (fun h3 => (z0_bd (z_g_X3_wrongAt x3) (fun v24 => (z0_cz (fun h4 => (z_g_X11_fitting_40 rec_4 hrec_4 x1 x2 x3)) (fun h5 => (z0_cb (fun h6 => (z0_let (fun x2_37 => (z_g_X11_fitting_40 rec_4 hrec_4 x1 x2_37 x3)))) (fun h7 => z0_ret))))))))))
set_option maxRecDepth 20000 in
theorem z_g_X11_fitting_4 (x1 : Int) (x2 : Int) (x3 : Int) : z0 (g_X11_fitting_4 x1 x2 x3) := by
  unfold g_X11_fitting_4
  exact (z0_fx (fun rec hrec s => (z_gB_X11_fitting_4 x1 rec hrec s.1 s.2)) _ _)
set_option maxRecDepth 20000 in
theorem z_g_X11_fitting (x1 : Int) : z0 (g_X11_fitting x1) := by
  unfold g_X11_fitting
  exact (z_g_X11_fitting_4 x1 0 0)
set_option maxRecDepth 20000 in
theorem z_g_X11_doubt (x1 : Int) : z0 (g_X11_doubt x1) := by
  unfold g_X11_doubt
  exact (z0_bd (z_g_X8_hasStrength x1) (fun v5 => (z0_cz (fun h1 => z0_ret) (fun h2 => (z0_bd (z_g_X3_wrongAt x1) (fun v20 => z0_ret))))))
set_option maxRecDepth 20000 in
theorem z_g_X3_leastDoubted_42 (rec_12 : Int × Int × Int → gM Int) (hrec_12 : ∀ s, z0 (rec_12 s)) (x2 : Int) (x3 : Int) (x4 : Int) : z0 (g_X3_leastDoubted_42 rec_12 x2 x3 x4) := by
  unfold g_X3_leastDoubted_42
  exact (z0_let (fun x4_42 => (hrec_12 _)))
set_option maxRecDepth 20000 in
theorem z_gB_X3_leastDoubted_12 (rec_12 : Int × Int × Int → gM Int) (hrec_12 : ∀ s, z0 (rec_12 s)) (x2 : Int) (x3 : Int) (x4 : Int) : z0 (gB_X3_leastDoubted_12 rec_12 x2 x3 x4) := by
  unfold gB_X3_leastDoubted_12
  exact (z0_get (fun v15 => (z0_cb (fun h1 => z0_ret) (fun h2 => (z0_bd (z_g_X3_wrongAt x4) (fun v25 => (z0_cb (fun h3 => (z_g_X3_leastDoubted_42 rec_12 hrec_12 x2 x3 x4)) (fun h4 => (z_g_X3_leastDoubted_42 rec_12 hrec_12 x4 v25 x4)))))))))
set_option maxRecDepth 20000 in
theorem z_g_X3_leastDoubted_12 (x2 : Int) (x3 : Int) (x4 : Int) : z0 (g_X3_leastDoubted_12 x2 x3 x4) := by
  unfold g_X3_leastDoubted_12
  exact (z0_fx (fun rec hrec s => (z_gB_X3_leastDoubted_12 rec hrec s.1 s.2.1 s.2.2)) _ _)
set_option maxRecDepth 20000 in
theorem z_g_X3_leastDoubted : z0 (g_X3_leastDoubted) := by
  unfold g_X3_leastDoubted
  exact (z0_bd (z_g_X3_wrongAt 0) (fun v5 => (z_g_X3_leastDoubted_12 0 v5 1)))
set_option maxRecDepth 20000 in
theorem z_g_X11_least (x1 : Int) : z0 (g_X11_least x1) := by
  unfold g_X11_least
  exact (z0_bd (z_g_X11_isWithin x1 1) (fun v2 => (z0_cz (fun h1 => (z0_bd z_g_X3_leastDoubted (fun v18 => (z0_cz (fun h2 => z0_ret) (fun h3 => (z0_bd (z_g_X3_wrongAt v18) (fun v35 => z0_ret))))))) (fun h4 => z0_ret))))
set_option maxRecDepth 20000 in
theorem z_g_X3_wrongBy_40 (rec_6 : Int × Int → gM Int) (hrec_6 : ∀ s, z0 (rec_6 s)) (x1 : Int) (x3 : Int) (x4 : Int) (x5 : Int) : z0 (g_X3_wrongBy_40 rec_6 x1 x3 x4 x5) := by
  unfold g_X3_wrongBy_40
  exact (z0_let (fun x5_40 => (hrec_6 _)))
set_option maxRecDepth 20000 in
theorem z_gB_X3_wrongBy_6 (x1 : Int) (x3 : Int) (rec_6 : Int × Int → gM Int) (hrec_6 : ∀ s, z0 (rec_6 s)) (x4 : Int) (x5 : Int) : z0 (gB_X3_wrongBy_6 x1 x3 rec_6 x4 x5) := by
  unfold gB_X3_wrongBy_6
  exact (z0_get (fun v9 => (z0_cb (fun h1 => z0_ret) (fun h2 => (z0_al (fun v21 => (z0_cb (fun h3 => (z_g_X3_wrongBy_40 rec_6 hrec_6 x1 x3 x4 x5)) (fun h4 => (z0_bd (z_g_X3_isWrong x5 x3) (fun v31 => (z0_cz (fun h5 => (z_g_X3_wrongBy_40 rec_6 hrec_6 x1 x3 x4 x5)) (fun h6 => (z0_let (fun x4_37 => (z_g_X3_wrongBy_40 rec_6 hrec_6 x1 x3 x4_37 x5)))))))))))))))
set_option maxRecDepth 20000 in
theorem z_g_X3_wrongBy_6 (x1 : Int) (x3 : Int) (x4 : Int) (x5 : Int) : z0 (g_X3_wrongBy_6 x1 x3 x4 x5) := by
  unfold g_X3_wrongBy_6
  exact (z0_fx (fun rec hrec s => (z_gB_X3_wrongBy_6 x1 x3 rec hrec s.1 s.2)) _ _)
set_option maxRecDepth 20000 in
theorem z_g_X3_wrongBy (x1 : Int) (x3 : Int) : z0 (g_X3_wrongBy x1 x3) := by
  unfold g_X3_wrongBy
  exact (z_g_X3_wrongBy_6 x1 x3 0 0)
set_option maxRecDepth 20000 in
theorem z_g_X11_doubted (x1 : Int) : z0 (g_X11_doubted x1) := by
  unfold g_X11_doubted
  exact (z0_bd (z_g_X11_isWithin x1 5) (fun v2 => (z0_cz (fun h1 => (z0_bd z_g_X3_leastDoubted (fun v27 => (z0_bd (z_g_X3_wrongBy x1 v27) (fun v30 => z0_ret))))) (fun h2 => z0_ret))))
set_option maxRecDepth 20000 in
theorem z_g_X3_differenceBy_59 (rec_6 : Int × Int → gM Int) (hrec_6 : ∀ s, z0 (rec_6 s)) (x1 : Int) (x3 : Int) (x4 : Int) (x5 : Int) : z0 (g_X3_differenceBy_59 rec_6 x1 x3 x4 x5) := by
  unfold g_X3_differenceBy_59
  exact (z0_let (fun x5_59 => (hrec_6 _)))
set_option maxRecDepth 20000 in
theorem z_g_X3_differenceBy_56 (rec_6 : Int × Int → gM Int) (hrec_6 : ∀ s, z0 (rec_6 s)) (x1 : Int) (x3 : Int) (x5 : Int) (s0 : Int) (s1 : Int) : z0 (g_X3_differenceBy_56 rec_6 x1 x3 x5 s0 s1) := by
  unfold g_X3_differenceBy_56
  exact (z0_let (fun x4_57 => (z_g_X3_differenceBy_59 rec_6 hrec_6 x1 x3 x4_57 x5)))
set_option maxRecDepth 20000 in
theorem z_gB_X3_differenceBy_6 (x1 : Int) (x3 : Int) (rec_6 : Int × Int → gM Int) (hrec_6 : ∀ s, z0 (rec_6 s)) (x4 : Int) (x5 : Int) : z0 (gB_X3_differenceBy_6 x1 x3 rec_6 x4 x5) := by
  unfold gB_X3_differenceBy_6
  exact (z0_get (fun v9 => (z0_cb (fun h1 => (z0_ck (fun h2 => (z0_let (fun v67 => z0_ret))))) (fun h3 => (z0_al (fun v21 => (z0_cz (fun h4 => (z_g_X3_differenceBy_59 rec_6 hrec_6 x1 x3 x4 x5)) (fun h5 => (z0_bd (z_g_X8_breaks x3 x1 x5) (fun v32 => (z0_cz (fun h6 => (z0_al (fun v54 => (z_g_X3_differenceBy_56 rec_6 hrec_6 x1 x3 x5 x4 (-v54))))) (fun h7 => (z0_al (fun v44 => (z_g_X3_differenceBy_56 rec_6 hrec_6 x1 x3 x5 x4 v44)))))))))))))))
set_option maxRecDepth 20000 in
theorem z_g_X3_differenceBy_6 (x1 : Int) (x3 : Int) (x4 : Int) (x5 : Int) : z0 (g_X3_differenceBy_6 x1 x3 x4 x5) := by
  unfold g_X3_differenceBy_6
  exact (z0_fx (fun rec hrec s => (z_gB_X3_differenceBy_6 x1 x3 rec hrec s.1 s.2)) _ _)
set_option maxRecDepth 20000 in
theorem z_g_X3_differenceBy (x1 : Int) (x3 : Int) : z0 (g_X3_differenceBy x1 x3) := by
  unfold g_X3_differenceBy
  exact (z_g_X3_differenceBy_6 x1 x3 0 0)
set_option maxRecDepth 20000 in
theorem z_g_X3_partingStep_117 (rec_83 : Int × Int × Int → gM Int) (hrec_83 : ∀ s, z0 (rec_83 s)) (x2 : Int) (x4 : Int) (x5 : Int) (x6 : Int) : z0 (g_X3_partingStep_117 rec_83 x2 x4 x5 x6) := by
  unfold g_X3_partingStep_117
  exact (z0_let (fun x6_117 => (hrec_83 _)))
set_option maxRecDepth 20000 in
theorem z_gB_X3_partingStep_83 (x2 : Int) (rec_83 : Int × Int × Int → gM Int) (hrec_83 : ∀ s, z0 (rec_83 s)) (x4 : Int) (x5 : Int) (x6 : Int) : z0 (gB_X3_partingStep_83 x2 rec_83 x4 x5 x6) := by
  unfold gB_X3_partingStep_83
  exact (z0_get (fun v86 => (z0_cb (fun h1 => z0_ret) (fun h2 => (z0_bd (z_g_X3_differenceBy x6 x2) (fun v97 => (z0_cb (fun h3 => (z_g_X3_partingStep_117 rec_83 hrec_83 x2 x4 x5 x6)) (fun h4 => (z_g_X3_partingStep_117 rec_83 hrec_83 x2 x6 v97 x6)))))))))
set_option maxRecDepth 20000 in
theorem z_g_X3_partingStep_83 (x2 : Int) (x4 : Int) (x5 : Int) (x6 : Int) : z0 (g_X3_partingStep_83 x2 x4 x5 x6) := by
  unfold g_X3_partingStep_83
  exact (z0_fx (fun rec hrec s => (z_gB_X3_partingStep_83 x2 rec hrec s.1 s.2.1 s.2.2)) _ _)
set_option maxRecDepth 20000 in
theorem z_g_X3_partingStep_55 (rec_5 : Int × Int → gM Int) (hrec_5 : ∀ s, z0 (rec_5 s)) (x2 : Int) (x4 : Int) (s0 : Int) : z0 (g_X3_partingStep_55 rec_5 x2 x4 s0) := by
  unfold g_X3_partingStep_55
  exact (z0_let (fun x4_56 => (hrec_5 _)))
set_option maxRecDepth 20000 in
theorem z_gB_X3_partingStep_5 (x2 : Int) (rec_5 : Int × Int → gM Int) (hrec_5 : ∀ s, z0 (rec_5 s)) (x3 : Int) (x4 : Int) : z0 (gB_X3_partingStep_5 x2 rec_5 x3 x4) := by
  unfold gB_X3_partingStep_5
  exact (z0_get (fun v8 => (z0_cb (fun h1 => (z0_cz (fun h2 => (z0_bd (z_g_X3_differenceBy 1 x2) (fun v75 => (z_g_X3_partingStep_83 x2 1 v75 2)))) (fun h3 => z0_ret))) (fun h4 => (z0_bd (z_g_X3_wrongAt x4) (fun v24 => (z0_ck (fun h5 => (z0_let (fun w35 => (z0_ck (fun h6 => (z0_as (by omega) (z0_cz (fun h7 => (z_g_X3_partingStep_55 rec_5 hrec_5 x2 x4 1)) (fun h8 => (z0_al (fun v46 => (z0_cz (fun h9 => (z_g_X3_partingStep_55 rec_5 hrec_5 x2 x4 0)) (fun h10 => (z_g_X3_partingStep_55 rec_5 hrec_5 x2 x4 1))))))))))))))))))))
set_option maxRecDepth 20000 in
theorem z_g_X3_partingStep_5 (x2 : Int) (x3 : Int) (x4 : Int) : z0 (g_X3_partingStep_5 x2 x3 x4) := by
  unfold g_X3_partingStep_5
  exact (z0_fx (fun rec hrec s => (z_gB_X3_partingStep_5 x2 rec hrec s.1 s.2)) _ _)
set_option maxRecDepth 20000 in
theorem z_g_X3_partingStep (x2 : Int) : z0 (g_X3_partingStep x2) := by
  unfold g_X3_partingStep
  exact (z_g_X3_partingStep_5 x2 0 0)
set_option maxRecDepth 20000 in
theorem z_g_X11_parts (x1 : Int) : z0 (g_X11_parts x1) := by
  unfold g_X11_parts
  exact (z0_bd (z_g_X8_hasKind x1) (fun v5 => (z0_cz (fun h1 => z0_ret) (fun h2 => (z0_bd (z_g_X3_partingStep x1) (fun v20 => z0_ret))))))
set_option maxRecDepth 20000 in
theorem z_gB_X8_allWeights_4 (rec_4 : Int × Int → gM Int) (hrec_4 : ∀ s, z0 (rec_4 s)) (x1 : Int) (x2 : Int) : z0 (gB_X8_allWeights_4 rec_4 x1 x2) := by
  unfold gB_X8_allWeights_4
  exact (z0_get (fun v6 => (z0_cb (fun h1 => z0_ret) (fun h2 => (z0_al (fun v18 => (z0_let (fun x1_20 => (z0_let (fun x2_21 => (hrec_4 _)))))))))))
set_option maxRecDepth 20000 in
theorem z_g_X8_allWeights_4 (x1 : Int) (x2 : Int) : z0 (g_X8_allWeights_4 x1 x2) := by
  unfold g_X8_allWeights_4
  exact (z0_fx (fun rec hrec s => (z_gB_X8_allWeights_4 rec hrec s.1 s.2)) _ _)
set_option maxRecDepth 20000 in
theorem z_g_X8_allWeights : z0 (g_X8_allWeights) := by
  unfold g_X8_allWeights
  exact (z_g_X8_allWeights_4 0 0)
set_option maxRecDepth 20000 in
theorem z_gB_X8_strengthBehind_4 (x1 : Int) (rec_4 : Int × Int → gM Int) (hrec_4 : ∀ s, z0 (rec_4 s)) (x2 : Int) (x3 : Int) : z0 (gB_X8_strengthBehind_4 x1 rec_4 x2 x3) := by
  unfold gB_X8_strengthBehind_4
  exact (z0_get (fun v6 => (z0_cb (fun h1 => (z0_get (fun v35 => z0_ret))) (fun h2 => (z0_al (fun v18 => (z0_let (fun x2_20 => (z0_cb (fun h3 => (z0_let (fun x3_28 => (hrec_4 _)))) (fun h4 => z0_ret))))))))))
set_option maxRecDepth 20000 in
theorem z_g_X8_strengthBehind_4 (x1 : Int) (x2 : Int) (x3 : Int) : z0 (g_X8_strengthBehind_4 x1 x2 x3) := by
  unfold g_X8_strengthBehind_4
  exact (z0_fx (fun rec hrec s => (z_gB_X8_strengthBehind_4 x1 rec hrec s.1 s.2)) _ _)
set_option maxRecDepth 20000 in
theorem z_g_X8_strengthBehind (x1 : Int) : z0 (g_X8_strengthBehind x1) := by
  unfold g_X8_strengthBehind
  exact (z_g_X8_strengthBehind_4 x1 0 0)
set_option maxRecDepth 20000 in
theorem z_gB_X1_start_2_o61 (x2 : Int) (rec_2 : Int → gM Int) (hrec_2 : ∀ s, z0 (rec_2 s)) (x3 : Int) : z0 (gB_X1_start_2_o61 x2 rec_2 x3) := by
  unfold gB_X1_start_2_o61
  exact (z0_cb (fun h1 => (z0_put (by omega) (z0_put (by omega) (z0_get (fun v37 => (z0_put (by omega) (z0_put (by omega) (z0_put (by omega) (z0_put (by omega) z0_ret))))))))) (fun h2 => (z0_al (fun v17 => (z0_as (by omega) (z0_let (fun x3_19 => (hrec_2 _))))))))
set_option maxRecDepth 20000 in
theorem z_g_X1_start_2_o61 (x2 : Int) (x3 : Int) : z0 (g_X1_start_2_o61 x2 x3) := by
  unfold g_X1_start_2_o61
  exact (z0_fx (fun rec hrec s => (z_gB_X1_start_2_o61 x2 rec hrec s)) _ _)
set_option maxRecDepth 20000 in
theorem z_g_X1_start_o61 (x2 : Int) : z0 (g_X1_start_o61 x2) := by
  unfold g_X1_start_o61
  exact (z_g_X1_start_2_o61 x2 0)
set_option maxRecDepth 20000 in
theorem z_g_X11_begin (x1 : Int) : z0 (g_X11_begin x1) := by
  unfold g_X11_begin
  exact (z0_bd z_g_X8_allWeights (fun v4 => (z0_cz (fun h1 => z0_ret) (fun h2 => (z0_cz (fun h3 => (z0_ck (fun h4 => (z0_let (fun x3_32 => (z0_dvl (fun v49 => (z0_ck (fun h5 => (z0_rml (fun v52 => (z0_bd (z_g_X8_strengthBehind v52) (fun v54 => (z0_bd (z_g_X1_start_o61 v54) (fun _ => (z0_put (by omega) z0_ret)))))))))))))))) (fun h6 => z0_ret))))))
set_option maxRecDepth 20000 in
theorem z_g_X1_canFall_o61 (x2 : Int) (x3 : Int) : z0 (g_X1_canFall_o61 x2 x3) := by
  unfold g_X1_canFall_o61
  exact (z0_bd (z_g_X8_hasKind x2) (fun v2 => (z0_cz (fun h1 => z0_ret) (fun h2 => (z0_bd (z_g_X8_hasStep x3) (fun v10 => (z0_cz (fun h3 => z0_ret) (fun h4 => (z0_al (fun v21 => (z0_cz (fun h5 => z0_ret) (fun h6 => (z0_get (fun v26 => (z0_cb (fun h7 => z0_ret) (fun h8 => z0_ret))))))))))))))))
set_option maxRecDepth 20000 in
theorem z_g_X1_letFall_166_o61 (x2 : Int) (x3 : Int) (x4 : Int) : z0 (g_X1_letFall_166_o61 x2 x3 x4) := by
  unfold g_X1_letFall_166_o61
  exact (z0_get (fun v168 => (z0_bd (z_g_X8_costOf x2 x3 x4) (fun v176 => (z0_put (by omega) (z0_ck (fun h1 => z0_ret)))))))
set_option maxRecDepth 20000 in
theorem z_g_X1_letFall_o61 (x2 : Int) (x3 : Int) : z0 (g_X1_letFall_o61 x2 x3) := by
  unfold g_X1_letFall_o61
  exact (z0_get (fun v4 => (z0_bd (z_g_X8_breaks x2 x3 v4) (fun v7 => (z0_get (fun v17 => (z0_as (by omega) (z0_get (fun v27 => (z0_as (by omega) (z0_get (fun v37 => (z0_ck (fun h1 => (z0_let (fun w50 => (z0_as (by omega) (z0_get (fun v56 => (z0_get (fun v60 => (z0_as (by omega) (z0_get (fun v69 => (z0_get (fun v73 => (z0_as (by omega) (z0_get (fun v82 => (z0_get (fun v86 => (z0_as (by omega) (z0_get (fun v92 => (z0_put (by omega) (z0_al (fun v106 => (z0_let (fun x5_108 => (z0_cz (fun h2 => (z0_get (fun v155 => (z0_ck (fun h3 => (z0_let (fun v160 => (z0_put (by omega) (z_g_X1_letFall_166_o61 x2 x3 v7))))))))) (fun h4 => (z0_get (fun v117 => (z0_ck (fun h5 => (z0_let (fun v124 => (z0_put (by omega) (z0_al (fun v136 => (z0_as (by omega) (z0_get (fun v142 => (z0_put (by omega) (z_g_X1_letFall_166_o61 x2 x3 v7)))))))))))))))))))))))))))))))))))))))))))))))))))))))
set_option maxRecDepth 20000 in
theorem z_g_X11_drop (x1 : Int) (x2 : Int) : z0 (g_X11_drop x1 x2) := by
  unfold g_X11_drop
  exact (z0_get (fun v1 => (z0_cz (fun h1 => z0_ret) (fun h2 => (z0_bd (z_g_X1_canFall_o61 x1 x2) (fun v17 => (z0_cz (fun h3 => (z0_bd (z_g_X1_letFall_o61 x1 x2) (fun v35 => (z0_ck (fun h4 => (z0_let (fun w46 => z0_ret))))))) (fun h5 => z0_ret))))))))
set_option maxRecDepth 20000 in
theorem z_g_X1_takeBack_o61 : z0 (g_X1_takeBack_o61) := by
  unfold g_X1_takeBack_o61
  exact (z0_get (fun v1 => (z0_cz (fun h1 => z0_ret) (fun h2 => (z0_get (fun v9 => (z0_put (by omega) (z0_get (fun v23 => (z0_al (fun v26 => (z0_put (by omega) (z0_get (fun v36 => (z0_al (fun v39 => (z0_put (by omega) (z0_get (fun v49 => (z0_al (fun v52 => (z0_put (by omega) (z0_get (fun v65 => (z0_al (fun v68 => (z0_al (fun v70 => (z0_get (fun v76 => (z0_al (fun v79 => (z0_as (by omega) (z0_get (fun v84 => (z0_get (fun v92 => (z0_al (fun v95 => (z0_put (by omega) z0_ret))))))))))))))))))))))))))))))))))))))))
set_option maxRecDepth 20000 in
theorem z_g_X11_back : z0 (g_X11_back) := by
  unfold g_X11_back
  exact (z0_get (fun v1 => (z0_cz (fun h1 => z0_ret) (fun h2 => (z0_get (fun v11 => (z0_cz (fun h3 => (z0_bd z_g_X1_takeBack_o61 (fun _ => (z0_get (fun v30 => z0_ret))))) (fun h4 => z0_ret))))))))
set_option maxRecDepth 20000 in
theorem z_g_X1_leftCode_o61 : z0 (g_X1_leftCode_o61) := by
  unfold g_X1_leftCode_o61
  exact (z0_al (fun v5 => (z0_al (fun v12 => (z0_al (fun v22 => z0_ret))))))
set_option maxRecDepth 20000 in
theorem z_g_X11_now (x1 : Int) : z0 (g_X11_now x1) := by
  unfold g_X11_now
  exact (z0_get (fun v1 => (z0_cz (fun h1 => (z0_ck (fun h2 => (z0_it (fun h3 => (z0_get (fun v52 => z0_ret))) (fun h4 => (z0_it (fun h5 => (z0_get (fun v60 => z0_ret))) (fun h6 => (z0_it (fun h7 => (z0_get (fun v68 => z0_ret))) (fun h8 => (z0_it (fun h9 => (z0_bd z_g_X1_leftCode_o61 (fun v76 => z0_ret))) (fun h10 => (z0_it (fun h11 => (z0_get (fun v84 => z0_ret))) (fun h12 => (z0_it (fun h13 => (z0_get (fun v92 => z0_ret))) (fun h14 => z0_ret))))))))))))))) (fun h15 => z0_ret))))
set_option maxRecDepth 20000 in
theorem z_g_X11_count (x1 : Int) : z0 (g_X11_count x1) := by
  unfold g_X11_count
  exact (z0_ck (fun h1 => (z0_it (fun h2 => (z0_get (fun v48 => z0_ret))) (fun h3 => (z0_it (fun h4 => (z0_get (fun v53 => (z0_ck (fun h5 => (z0_get (fun v56 => z0_ret))))))) (fun h6 => (z0_it (fun h7 => (z0_get (fun v61 => (z0_ck (fun h8 => (z0_get (fun v64 => z0_ret))))))) (fun h9 => (z0_it (fun h10 => (z0_get (fun v72 => z0_ret))) (fun h11 => (z0_it (fun h12 => (z0_get (fun v80 => z0_ret))) (fun h13 => (z0_it (fun h14 => (z0_get (fun v88 => z0_ret))) (fun h15 => (z0_it (fun h16 => (z0_bd z_g_X8_allWeights (fun v96 => z0_ret))) (fun h17 => z0_ret))))))))))))))))
