/-! THE SCRIPT: the row of address 0, the reference -1 -/
def hf_sn : hf_M Int := fun σ => some (((σ.2.1 0).2 : Int), σ)
def hf_sg (i : Int) : hf_M Int := fun σ => if 0 ≤ i ∧ i < (σ.2.1 0).2 then some (σ.2.2 0 i.toNat, σ) else none
theorem hf_vs (G : hf_E) : hf_v G 2 (-1) = .ref (G.2.1 1) := rfl
section HFZ
variable {M : hf_D} {pc : Nat} {lv : List (Nat × Nat × Int)} {st : List (Nat × Int)} {f : Int → hf_M Int}
theorem hf_sln (hdg : decode M.2.1 pc = .ok (.arraylength, 1)) (h : ∀ v, hf_J M (pc + 1) lv ((0, v) :: st) (f v)) : hf_J M pc lv ((2, -1) :: st) (hf_bd hf_sn f) := by
  intro p l e R s m args below meth c G n0 s0 C H locs ls σ σ' r cells slots Q hP hL hlv hk hret
  have w := h _ p l e R s m args below meth c G n0 s0 C H locs ls σ σ' r cells slots Q hP hL hlv hk hret
  obtain ⟨hx, hb, -, hown, hts, -, -, -, -, -, -, hK⟩ := C
  obtain ⟨scr, g1, g2, g3⟩ := hK.2.2.2.1
  obtain ⟨scr', k1, k2, k3, k4⟩ := hP.2.2.2.2.2
  have e : scr' = scr := Option.some.inj (k1.symm.trans g1)
  subst e
  have hlt : G.2.1 1 < G.1.size := (Array.getElem?_eq_some_iff.mp g1).1
  show W p l e R s m args below meth c H locs cells slots Q (F0 m pc ls (hf_v G 2 (-1) :: st.map (hf_w G)))
  rw [hf_vs]
  refine W.alen hx hb (by rw [hP.2.1 _ hlt]; exact g1) g2 (n := Int32.ofInt ((σ.2.1 0).2 : Int)) ?_ rfl rfl hdg w
  rw [k2]; rfl
theorem hf_sld {i : Int} (hdg : decode M.2.1 pc = .ok (.iaload, 1)) (h : ∀ v, hf_J M (pc + 1) lv ((0, v) :: st) (f v)) : hf_J M pc lv ((0, i) :: (2, -1) :: st) (hf_bd (hf_sg i) f) := by
  intro p l e R s m args below meth c G n0 s0 C H locs ls σ σ' r cells slots Q hP hL hlv hk hret
  obtain ⟨v, σ1, h1, h2⟩ := hf_bd_some hk
  unfold hf_sg at h1
  by_cases hi : 0 ≤ i ∧ i < (σ.2.1 0).2
  · rw [if_pos hi] at h1
    cases h1
    have w := h _ p l e R s m args below meth c G n0 s0 C H locs ls σ σ' r cells slots Q hP hL hlv h2 hret
    obtain ⟨hx, hb, -, hown, hts, -, -, -, -, -, -, hK⟩ := C
    obtain ⟨scr, g1, g2, g3⟩ := hK.2.2.2.1
    obtain ⟨scr', k1, k2, k3, k4⟩ := hP.2.2.2.2.2
    have e : scr' = scr := Option.some.inj (k1.symm.trans g1)
    subst e
    have hlt : G.2.1 1 < G.1.size := (Array.getElem?_eq_some_iff.mp g1).1
    show W p l e R s m args below meth c H locs cells slots Q (F0 m pc ls (.int (Int32.ofInt i) :: hf_v G 2 (-1) :: st.map (hf_w G)))
    rw [hf_vs]
    obtain ⟨z1, z2⟩ := hf_clamp hi.1 hi.2 k3
    refine W.iald hx hb (by rw [hP.2.1 _ hlt]; exact g1) g2 g3 (by rw [k2]; exact z1) ?_ rfl rfl hdg w
    rw [z2]
    exact k4 i.toNat (by omega)
  · rw [if_neg hi] at h1; cases h1
end HFZ
