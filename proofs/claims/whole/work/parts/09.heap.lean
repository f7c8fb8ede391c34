/-! BRANCHES, CELLS, RETURNS -/
theorem hf_cb_some {a b : Int} {q : Prop} [Decidable q] {k1 k2 : hf_M Int} {σ : hf_S} {z : Int × hf_S} (h : hf_cb a b q k1 k2 σ = some z) : hf_inI a ∧ hf_inI b ∧ (q → k1 σ = some z) ∧ (¬ q → k2 σ = some z) := by
  unfold hf_cb at h
  by_cases hr : hf_inI a ∧ hf_inI b
  · rw [if_pos hr] at h
    exact ⟨hr.1, hr.2, fun hq => by rw [if_pos hq] at h; exact h, fun hq => by rw [if_neg hq] at h; exact h⟩
  · rw [if_neg hr] at h; cases h
theorem hf_cl_some {a b : Int} {q : Prop} [Decidable q] {k1 k2 : hf_M Int} {σ : hf_S} {z : Int × hf_S} (h : hf_cl a b q k1 k2 σ = some z) : hf_inL a ∧ hf_inL b ∧ (q → k1 σ = some z) ∧ (¬ q → k2 σ = some z) := by
  unfold hf_cl at h
  by_cases hr : hf_inL a ∧ hf_inL b
  · rw [if_pos hr] at h
    exact ⟨hr.1, hr.2, fun hq => by rw [if_pos hq] at h; exact h, fun hq => by rw [if_neg hq] at h; exact h⟩
  · rw [if_neg hr] at h; cases h
theorem hf_cz_some {a : Int} {q : Prop} [Decidable q] {k1 k2 : hf_M Int} {σ : hf_S} {z : Int × hf_S} (h : hf_cz a q k1 k2 σ = some z) : hf_inI a ∧ (q → k1 σ = some z) ∧ (¬ q → k2 σ = some z) := by
  unfold hf_cz at h
  by_cases hr : hf_inI a
  · rw [if_pos hr] at h
    exact ⟨hr, fun hq => by rw [if_pos hq] at h; exact h, fun hq => by rw [if_neg hq] at h; exact h⟩
  · rw [if_neg hr] at h; cases h
theorem hf_lcmp_eq {x y : Int} (hx : hf_inL x) (hy : hf_inL y) : lg_cmp (Int64.ofInt x) (Int64.ofInt y) = if x < y then -1 else if x = y then 0 else 1 := by
  unfold lg_cmp
  have e1 : (Int64.ofInt x > Int64.ofInt y) ↔ y < x := by
    show (Int64.ofInt y < Int64.ofInt x) ↔ _
    rw [Int64.lt_iff_toInt_lt, hf_toIntL hx, hf_toIntL hy]
  have e2 : (Int64.ofInt x = Int64.ofInt y) ↔ x = y := by rw [← Int64.toInt_inj, hf_toIntL hx, hf_toIntL hy]
  by_cases h1 : y < x
  · rw [if_pos (e1.mpr h1), if_neg (by omega), if_neg (by omega)]
  · rw [if_neg (fun h => h1 (e1.mp h))]
    by_cases h2 : x = y
    · rw [if_pos (e2.mpr h2), if_neg (by omega), if_pos h2]
    · rw [if_neg (fun h => h2 (e2.mp h)), if_pos (by omega)]
section HFB
variable {M : hf_D} {pc : Nat} {lv lv' : List (Nat × Nat × Int)} {st : List (Nat × Int)} {k k1 k2 : hf_M Int}
theorem hf_icmp_eq {x y off : Int} (tgt : Nat) (hdg : decode M.2.1 pc = .ok (.if_icmp .eq off, 3)) (ht : (pc : Int) + off = (tgt : Int)) (h1 : hf_J M tgt lv st k1) (h2 : hf_J M (pc + 3) lv st k2) : hf_J M pc lv ((0, y) :: (0, x) :: st) (hf_cb x y (x = y) k1 k2) := by
  intro p l e R s m args below meth c G n0 s0 C H locs ls σ σ' r cells slots Q hP hL hlv hk hret
  obtain ⟨g1, g2, g3, g4⟩ := hf_cb_some hk
  exact lv_icmp_eq C.1 C.2.1 hdg ht (fun q => h1 p l e R s m args below meth c G n0 s0 C H locs ls σ σ' r cells slots Q hP hL hlv (g3 ((hf_eqI g1 g2).mp q)) hret) (fun q => h2 p l e R s m args below meth c G n0 s0 C H locs ls σ σ' r cells slots Q hP hL hlv (g4 (fun hn => q ((hf_eqI g1 g2).mpr hn))) hret)
theorem hf_if_eq {x off : Int} (tgt : Nat) (hdg : decode M.2.1 pc = .ok (.ifCond .eq off, 3)) (ht : (pc : Int) + off = (tgt : Int)) (h1 : hf_J M tgt lv st k1) (h2 : hf_J M (pc + 3) lv st k2) : hf_J M pc lv ((0, x) :: st) (hf_cz x (x = 0) k1 k2) := by
  intro p l e R s m args below meth c G n0 s0 C H locs ls σ σ' r cells slots Q hP hL hlv hk hret
  obtain ⟨g1, g3, g4⟩ := hf_cz_some hk
  exact lv_if_eq C.1 C.2.1 hdg ht (fun q => h1 p l e R s m args below meth c G n0 s0 C H locs ls σ σ' r cells slots Q hP hL hlv (g3 ((hf_eq0 g1).mp q)) hret) (fun q => h2 p l e R s m args below meth c G n0 s0 C H locs ls σ σ' r cells slots Q hP hL hlv (g4 (fun hn => q ((hf_eq0 g1).mpr hn))) hret)
theorem hf_lcm_eq {x y off : Int} (tgt : Nat) (hd1 : decode M.2.1 pc = .ok (.lcmp, 1)) (hdg : decode M.2.1 (pc + 1) = .ok (.ifCond .eq off, 3)) (ht : ((pc + 1 : Nat) : Int) + off = (tgt : Int)) (h1 : hf_J M tgt lv st k1) (h2 : hf_J M (pc + 4) lv st k2) : hf_J M pc lv ((1, y) :: (1, x) :: st) (hf_cl x y (x = y) k1 k2) := by
  intro p l e R s m args below meth c G n0 s0 C H locs ls σ σ' r cells slots Q hP hL hlv hk hret
  obtain ⟨g1, g2, g3, g4⟩ := hf_cl_some hk
  have hi : (lg_cmp (Int64.ofInt x) (Int64.ofInt y) = 0) ↔ x = y := by
    rw [hf_lcmp_eq g1 g2]
    rcases Int.lt_trichotomy x y with q | q | q
    · rw [if_pos q]; constructor <;> intro z <;> first | omega | (exfalso; revert z; decide) | decide
    · rw [if_neg (by omega), if_pos q]; constructor <;> intro z <;> first | omega | (exfalso; revert z; decide) | decide
    · rw [if_neg (by omega), if_neg (by omega)]; constructor <;> intro z <;> first | omega | (exfalso; revert z; decide) | decide
  exact W.lcmp C.1 C.2.1 hd1 (lv_if_eq C.1 C.2.1 hdg ht (fun q => h1 p l e R s m args below meth c G n0 s0 C H locs ls σ σ' r cells slots Q hP hL hlv (g3 (hi.mp q)) hret) (fun q => h2 p l e R s m args below meth c G n0 s0 C H locs ls σ σ' r cells slots Q hP hL hlv (g4 (fun hn => q (hi.mpr hn))) hret))
theorem hf_icmp_ne {x y off : Int} (tgt : Nat) (hdg : decode M.2.1 pc = .ok (.if_icmp .ne off, 3)) (ht : (pc : Int) + off = (tgt : Int)) (h1 : hf_J M tgt lv st k1) (h2 : hf_J M (pc + 3) lv st k2) : hf_J M pc lv ((0, y) :: (0, x) :: st) (hf_cb x y (¬ x = y) k1 k2) := by
  intro p l e R s m args below meth c G n0 s0 C H locs ls σ σ' r cells slots Q hP hL hlv hk hret
  obtain ⟨g1, g2, g3, g4⟩ := hf_cb_some hk
  exact lv_icmp_ne C.1 C.2.1 hdg ht (fun q => h1 p l e R s m args below meth c G n0 s0 C H locs ls σ σ' r cells slots Q hP hL hlv (g3 ((not_congr (hf_eqI g1 g2)).mp q)) hret) (fun q => h2 p l e R s m args below meth c G n0 s0 C H locs ls σ σ' r cells slots Q hP hL hlv (g4 (fun hn => hn ((hf_eqI g1 g2).mp q))) hret)
theorem hf_if_ne {x off : Int} (tgt : Nat) (hdg : decode M.2.1 pc = .ok (.ifCond .ne off, 3)) (ht : (pc : Int) + off = (tgt : Int)) (h1 : hf_J M tgt lv st k1) (h2 : hf_J M (pc + 3) lv st k2) : hf_J M pc lv ((0, x) :: st) (hf_cz x (¬ x = 0) k1 k2) := by
  intro p l e R s m args below meth c G n0 s0 C H locs ls σ σ' r cells slots Q hP hL hlv hk hret
  obtain ⟨g1, g3, g4⟩ := hf_cz_some hk
  exact lv_if_ne C.1 C.2.1 hdg ht (fun q => h1 p l e R s m args below meth c G n0 s0 C H locs ls σ σ' r cells slots Q hP hL hlv (g3 ((not_congr (hf_eq0 g1)).mp q)) hret) (fun q => h2 p l e R s m args below meth c G n0 s0 C H locs ls σ σ' r cells slots Q hP hL hlv (g4 (fun hn => hn ((hf_eq0 g1).mp q))) hret)
theorem hf_lcm_ne {x y off : Int} (tgt : Nat) (hd1 : decode M.2.1 pc = .ok (.lcmp, 1)) (hdg : decode M.2.1 (pc + 1) = .ok (.ifCond .ne off, 3)) (ht : ((pc + 1 : Nat) : Int) + off = (tgt : Int)) (h1 : hf_J M tgt lv st k1) (h2 : hf_J M (pc + 4) lv st k2) : hf_J M pc lv ((1, y) :: (1, x) :: st) (hf_cl x y (¬ x = y) k1 k2) := by
  intro p l e R s m args below meth c G n0 s0 C H locs ls σ σ' r cells slots Q hP hL hlv hk hret
  obtain ⟨g1, g2, g3, g4⟩ := hf_cl_some hk
  have hi : (¬ lg_cmp (Int64.ofInt x) (Int64.ofInt y) = 0) ↔ ¬ x = y := by
    rw [hf_lcmp_eq g1 g2]
    rcases Int.lt_trichotomy x y with q | q | q
    · rw [if_pos q]; constructor <;> intro z <;> first | omega | (exfalso; revert z; decide) | decide
    · rw [if_neg (by omega), if_pos q]; constructor <;> intro z <;> first | omega | (exfalso; revert z; decide) | decide
    · rw [if_neg (by omega), if_neg (by omega)]; constructor <;> intro z <;> first | omega | (exfalso; revert z; decide) | decide
  exact W.lcmp C.1 C.2.1 hd1 (lv_if_ne C.1 C.2.1 hdg ht (fun q => h1 p l e R s m args below meth c G n0 s0 C H locs ls σ σ' r cells slots Q hP hL hlv (g3 (hi.mp q)) hret) (fun q => h2 p l e R s m args below meth c G n0 s0 C H locs ls σ σ' r cells slots Q hP hL hlv (g4 (fun hn => (hi.mpr hn) q)) hret))
theorem hf_icmp_lt {x y off : Int} (tgt : Nat) (hdg : decode M.2.1 pc = .ok (.if_icmp .lt off, 3)) (ht : (pc : Int) + off = (tgt : Int)) (h1 : hf_J M tgt lv st k1) (h2 : hf_J M (pc + 3) lv st k2) : hf_J M pc lv ((0, y) :: (0, x) :: st) (hf_cb x y (x < y) k1 k2) := by
  intro p l e R s m args below meth c G n0 s0 C H locs ls σ σ' r cells slots Q hP hL hlv hk hret
  obtain ⟨g1, g2, g3, g4⟩ := hf_cb_some hk
  exact lv_icmp_lt C.1 C.2.1 hdg ht (fun q => h1 p l e R s m args below meth c G n0 s0 C H locs ls σ σ' r cells slots Q hP hL hlv (g3 ((hf_ltI g1 g2).mp q)) hret) (fun q => h2 p l e R s m args below meth c G n0 s0 C H locs ls σ σ' r cells slots Q hP hL hlv (g4 (fun hn => q ((hf_ltI g1 g2).mpr hn))) hret)
theorem hf_if_lt {x off : Int} (tgt : Nat) (hdg : decode M.2.1 pc = .ok (.ifCond .lt off, 3)) (ht : (pc : Int) + off = (tgt : Int)) (h1 : hf_J M tgt lv st k1) (h2 : hf_J M (pc + 3) lv st k2) : hf_J M pc lv ((0, x) :: st) (hf_cz x (x < 0) k1 k2) := by
  intro p l e R s m args below meth c G n0 s0 C H locs ls σ σ' r cells slots Q hP hL hlv hk hret
  obtain ⟨g1, g3, g4⟩ := hf_cz_some hk
  exact lv_if_lt C.1 C.2.1 hdg ht (fun q => h1 p l e R s m args below meth c G n0 s0 C H locs ls σ σ' r cells slots Q hP hL hlv (g3 ((hf_lt0 g1).mp q)) hret) (fun q => h2 p l e R s m args below meth c G n0 s0 C H locs ls σ σ' r cells slots Q hP hL hlv (g4 (fun hn => q ((hf_lt0 g1).mpr hn))) hret)
theorem hf_lcm_lt {x y off : Int} (tgt : Nat) (hd1 : decode M.2.1 pc = .ok (.lcmp, 1)) (hdg : decode M.2.1 (pc + 1) = .ok (.ifCond .lt off, 3)) (ht : ((pc + 1 : Nat) : Int) + off = (tgt : Int)) (h1 : hf_J M tgt lv st k1) (h2 : hf_J M (pc + 4) lv st k2) : hf_J M pc lv ((1, y) :: (1, x) :: st) (hf_cl x y (x < y) k1 k2) := by
  intro p l e R s m args below meth c G n0 s0 C H locs ls σ σ' r cells slots Q hP hL hlv hk hret
  obtain ⟨g1, g2, g3, g4⟩ := hf_cl_some hk
  have hi : (lg_cmp (Int64.ofInt x) (Int64.ofInt y) < 0) ↔ x < y := by
    rw [hf_lcmp_eq g1 g2]
    rcases Int.lt_trichotomy x y with q | q | q
    · rw [if_pos q]; constructor <;> intro z <;> first | omega | (exfalso; revert z; decide) | decide
    · rw [if_neg (by omega), if_pos q]; constructor <;> intro z <;> first | omega | (exfalso; revert z; decide) | decide
    · rw [if_neg (by omega), if_neg (by omega)]; constructor <;> intro z <;> first | omega | (exfalso; revert z; decide) | decide
  exact W.lcmp C.1 C.2.1 hd1 (lv_if_lt C.1 C.2.1 hdg ht (fun q => h1 p l e R s m args below meth c G n0 s0 C H locs ls σ σ' r cells slots Q hP hL hlv (g3 (hi.mp q)) hret) (fun q => h2 p l e R s m args below meth c G n0 s0 C H locs ls σ σ' r cells slots Q hP hL hlv (g4 (fun hn => q (hi.mpr hn))) hret))
theorem hf_icmp_ge {x y off : Int} (tgt : Nat) (hdg : decode M.2.1 pc = .ok (.if_icmp .ge off, 3)) (ht : (pc : Int) + off = (tgt : Int)) (h1 : hf_J M tgt lv st k1) (h2 : hf_J M (pc + 3) lv st k2) : hf_J M pc lv ((0, y) :: (0, x) :: st) (hf_cb x y (y ≤ x) k1 k2) := by
  intro p l e R s m args below meth c G n0 s0 C H locs ls σ σ' r cells slots Q hP hL hlv hk hret
  obtain ⟨g1, g2, g3, g4⟩ := hf_cb_some hk
  exact lv_icmp_ge C.1 C.2.1 hdg ht (fun q => h1 p l e R s m args below meth c G n0 s0 C H locs ls σ σ' r cells slots Q hP hL hlv (g3 ((hf_leI g2 g1).mp q)) hret) (fun q => h2 p l e R s m args below meth c G n0 s0 C H locs ls σ σ' r cells slots Q hP hL hlv (g4 (fun hn => q ((hf_leI g2 g1).mpr hn))) hret)
theorem hf_if_ge {x off : Int} (tgt : Nat) (hdg : decode M.2.1 pc = .ok (.ifCond .ge off, 3)) (ht : (pc : Int) + off = (tgt : Int)) (h1 : hf_J M tgt lv st k1) (h2 : hf_J M (pc + 3) lv st k2) : hf_J M pc lv ((0, x) :: st) (hf_cz x (0 ≤ x) k1 k2) := by
  intro p l e R s m args below meth c G n0 s0 C H locs ls σ σ' r cells slots Q hP hL hlv hk hret
  obtain ⟨g1, g3, g4⟩ := hf_cz_some hk
  exact lv_if_ge C.1 C.2.1 hdg ht (fun q => h1 p l e R s m args below meth c G n0 s0 C H locs ls σ σ' r cells slots Q hP hL hlv (g3 ((hf_0le g1).mp q)) hret) (fun q => h2 p l e R s m args below meth c G n0 s0 C H locs ls σ σ' r cells slots Q hP hL hlv (g4 (fun hn => q ((hf_0le g1).mpr hn))) hret)
theorem hf_lcm_ge {x y off : Int} (tgt : Nat) (hd1 : decode M.2.1 pc = .ok (.lcmp, 1)) (hdg : decode M.2.1 (pc + 1) = .ok (.ifCond .ge off, 3)) (ht : ((pc + 1 : Nat) : Int) + off = (tgt : Int)) (h1 : hf_J M tgt lv st k1) (h2 : hf_J M (pc + 4) lv st k2) : hf_J M pc lv ((1, y) :: (1, x) :: st) (hf_cl x y (y ≤ x) k1 k2) := by
  intro p l e R s m args below meth c G n0 s0 C H locs ls σ σ' r cells slots Q hP hL hlv hk hret
  obtain ⟨g1, g2, g3, g4⟩ := hf_cl_some hk
  have hi : (0 ≤ lg_cmp (Int64.ofInt x) (Int64.ofInt y)) ↔ y ≤ x := by
    rw [hf_lcmp_eq g1 g2]
    rcases Int.lt_trichotomy x y with q | q | q
    · rw [if_pos q]; constructor <;> intro z <;> first | omega | (exfalso; revert z; decide) | decide
    · rw [if_neg (by omega), if_pos q]; constructor <;> intro z <;> first | omega | (exfalso; revert z; decide) | decide
    · rw [if_neg (by omega), if_neg (by omega)]; constructor <;> intro z <;> first | omega | (exfalso; revert z; decide) | decide
  exact W.lcmp C.1 C.2.1 hd1 (lv_if_ge C.1 C.2.1 hdg ht (fun q => h1 p l e R s m args below meth c G n0 s0 C H locs ls σ σ' r cells slots Q hP hL hlv (g3 (hi.mp q)) hret) (fun q => h2 p l e R s m args below meth c G n0 s0 C H locs ls σ σ' r cells slots Q hP hL hlv (g4 (fun hn => q (hi.mpr hn))) hret))
theorem hf_icmp_gt {x y off : Int} (tgt : Nat) (hdg : decode M.2.1 pc = .ok (.if_icmp .gt off, 3)) (ht : (pc : Int) + off = (tgt : Int)) (h1 : hf_J M tgt lv st k1) (h2 : hf_J M (pc + 3) lv st k2) : hf_J M pc lv ((0, y) :: (0, x) :: st) (hf_cb x y (y < x) k1 k2) := by
  intro p l e R s m args below meth c G n0 s0 C H locs ls σ σ' r cells slots Q hP hL hlv hk hret
  obtain ⟨g1, g2, g3, g4⟩ := hf_cb_some hk
  exact lv_icmp_gt C.1 C.2.1 hdg ht (fun q => h1 p l e R s m args below meth c G n0 s0 C H locs ls σ σ' r cells slots Q hP hL hlv (g3 ((hf_ltI g2 g1).mp q)) hret) (fun q => h2 p l e R s m args below meth c G n0 s0 C H locs ls σ σ' r cells slots Q hP hL hlv (g4 (fun hn => q ((hf_ltI g2 g1).mpr hn))) hret)
theorem hf_if_gt {x off : Int} (tgt : Nat) (hdg : decode M.2.1 pc = .ok (.ifCond .gt off, 3)) (ht : (pc : Int) + off = (tgt : Int)) (h1 : hf_J M tgt lv st k1) (h2 : hf_J M (pc + 3) lv st k2) : hf_J M pc lv ((0, x) :: st) (hf_cz x (0 < x) k1 k2) := by
  intro p l e R s m args below meth c G n0 s0 C H locs ls σ σ' r cells slots Q hP hL hlv hk hret
  obtain ⟨g1, g3, g4⟩ := hf_cz_some hk
  exact lv_if_gt C.1 C.2.1 hdg ht (fun q => h1 p l e R s m args below meth c G n0 s0 C H locs ls σ σ' r cells slots Q hP hL hlv (g3 ((hf_0lt g1).mp q)) hret) (fun q => h2 p l e R s m args below meth c G n0 s0 C H locs ls σ σ' r cells slots Q hP hL hlv (g4 (fun hn => q ((hf_0lt g1).mpr hn))) hret)
theorem hf_lcm_gt {x y off : Int} (tgt : Nat) (hd1 : decode M.2.1 pc = .ok (.lcmp, 1)) (hdg : decode M.2.1 (pc + 1) = .ok (.ifCond .gt off, 3)) (ht : ((pc + 1 : Nat) : Int) + off = (tgt : Int)) (h1 : hf_J M tgt lv st k1) (h2 : hf_J M (pc + 4) lv st k2) : hf_J M pc lv ((1, y) :: (1, x) :: st) (hf_cl x y (y < x) k1 k2) := by
  intro p l e R s m args below meth c G n0 s0 C H locs ls σ σ' r cells slots Q hP hL hlv hk hret
  obtain ⟨g1, g2, g3, g4⟩ := hf_cl_some hk
  have hi : (0 < lg_cmp (Int64.ofInt x) (Int64.ofInt y)) ↔ y < x := by
    rw [hf_lcmp_eq g1 g2]
    rcases Int.lt_trichotomy x y with q | q | q
    · rw [if_pos q]; constructor <;> intro z <;> first | omega | (exfalso; revert z; decide) | decide
    · rw [if_neg (by omega), if_pos q]; constructor <;> intro z <;> first | omega | (exfalso; revert z; decide) | decide
    · rw [if_neg (by omega), if_neg (by omega)]; constructor <;> intro z <;> first | omega | (exfalso; revert z; decide) | decide
  exact W.lcmp C.1 C.2.1 hd1 (lv_if_gt C.1 C.2.1 hdg ht (fun q => h1 p l e R s m args below meth c G n0 s0 C H locs ls σ σ' r cells slots Q hP hL hlv (g3 (hi.mp q)) hret) (fun q => h2 p l e R s m args below meth c G n0 s0 C H locs ls σ σ' r cells slots Q hP hL hlv (g4 (fun hn => q (hi.mpr hn))) hret))
theorem hf_icmp_le {x y off : Int} (tgt : Nat) (hdg : decode M.2.1 pc = .ok (.if_icmp .le off, 3)) (ht : (pc : Int) + off = (tgt : Int)) (h1 : hf_J M tgt lv st k1) (h2 : hf_J M (pc + 3) lv st k2) : hf_J M pc lv ((0, y) :: (0, x) :: st) (hf_cb x y (x ≤ y) k1 k2) := by
  intro p l e R s m args below meth c G n0 s0 C H locs ls σ σ' r cells slots Q hP hL hlv hk hret
  obtain ⟨g1, g2, g3, g4⟩ := hf_cb_some hk
  exact lv_icmp_le C.1 C.2.1 hdg ht (fun q => h1 p l e R s m args below meth c G n0 s0 C H locs ls σ σ' r cells slots Q hP hL hlv (g3 ((hf_leI g1 g2).mp q)) hret) (fun q => h2 p l e R s m args below meth c G n0 s0 C H locs ls σ σ' r cells slots Q hP hL hlv (g4 (fun hn => q ((hf_leI g1 g2).mpr hn))) hret)
theorem hf_if_le {x off : Int} (tgt : Nat) (hdg : decode M.2.1 pc = .ok (.ifCond .le off, 3)) (ht : (pc : Int) + off = (tgt : Int)) (h1 : hf_J M tgt lv st k1) (h2 : hf_J M (pc + 3) lv st k2) : hf_J M pc lv ((0, x) :: st) (hf_cz x (x ≤ 0) k1 k2) := by
  intro p l e R s m args below meth c G n0 s0 C H locs ls σ σ' r cells slots Q hP hL hlv hk hret
  obtain ⟨g1, g3, g4⟩ := hf_cz_some hk
  exact lv_if_le C.1 C.2.1 hdg ht (fun q => h1 p l e R s m args below meth c G n0 s0 C H locs ls σ σ' r cells slots Q hP hL hlv (g3 ((hf_le0 g1).mp q)) hret) (fun q => h2 p l e R s m args below meth c G n0 s0 C H locs ls σ σ' r cells slots Q hP hL hlv (g4 (fun hn => q ((hf_le0 g1).mpr hn))) hret)
theorem hf_lcm_le {x y off : Int} (tgt : Nat) (hd1 : decode M.2.1 pc = .ok (.lcmp, 1)) (hdg : decode M.2.1 (pc + 1) = .ok (.ifCond .le off, 3)) (ht : ((pc + 1 : Nat) : Int) + off = (tgt : Int)) (h1 : hf_J M tgt lv st k1) (h2 : hf_J M (pc + 4) lv st k2) : hf_J M pc lv ((1, y) :: (1, x) :: st) (hf_cl x y (x ≤ y) k1 k2) := by
  intro p l e R s m args below meth c G n0 s0 C H locs ls σ σ' r cells slots Q hP hL hlv hk hret
  obtain ⟨g1, g2, g3, g4⟩ := hf_cl_some hk
  have hi : (lg_cmp (Int64.ofInt x) (Int64.ofInt y) ≤ 0) ↔ x ≤ y := by
    rw [hf_lcmp_eq g1 g2]
    rcases Int.lt_trichotomy x y with q | q | q
    · rw [if_pos q]; constructor <;> intro z <;> first | omega | (exfalso; revert z; decide) | decide
    · rw [if_neg (by omega), if_pos q]; constructor <;> intro z <;> first | omega | (exfalso; revert z; decide) | decide
    · rw [if_neg (by omega), if_neg (by omega)]; constructor <;> intro z <;> first | omega | (exfalso; revert z; decide) | decide
  exact W.lcmp C.1 C.2.1 hd1 (lv_if_le C.1 C.2.1 hdg ht (fun q => h1 p l e R s m args below meth c G n0 s0 C H locs ls σ σ' r cells slots Q hP hL hlv (g3 (hi.mp q)) hret) (fun q => h2 p l e R s m args below meth c G n0 s0 C H locs ls σ σ' r cells slots Q hP hL hlv (g4 (fun hn => q (hi.mpr hn))) hret))
theorem hf_ifnull {x : Int} {off : Int} (tgt : Nat) (hdg : decode M.2.1 pc = .ok (.ifnull off, 3)) (ht : (pc : Int) + off = (tgt : Int)) (h1 : hf_J M tgt lv st k1) (h2 : hf_J M (pc + 3) lv st k2) : hf_J M pc lv ((2, x) :: st) (hf_it (x = 0) k1 k2) := by
  refine hf_Jit (fun hq => ?_) (fun hq => ?_)
  · subst hq
    exact hf_stp (fun p l e R s m args below meth c H locs ls cells slots Q G hx hb _ _ w => lv_ifnullN hx hb hdg ht w) h1
  · refine hf_stp (fun p l e R s m args below meth c H locs ls cells slots Q G hx hb _ _ w => ?_) h2
    show W p l e R s m args below meth c H locs cells slots Q (F0 m pc ls (hf_v G 2 x :: st.map (hf_w G)))
    rcases hf_v2 G x with hv | ⟨a, hv⟩
    · exfalso; rw [hf_v_ref, if_neg hq] at hv; split at hv <;> cases hv
    · rw [hv]; exact lv_ifnull hx hb hdg w
theorem hf_ifnonnull {x : Int} {off : Int} (tgt : Nat) (hdg : decode M.2.1 pc = .ok (.ifnonnull off, 3)) (ht : (pc : Int) + off = (tgt : Int)) (h1 : hf_J M tgt lv st k1) (h2 : hf_J M (pc + 3) lv st k2) : hf_J M pc lv ((2, x) :: st) (hf_it (¬ x = 0) k1 k2) := by
  refine hf_Jit (fun hq => ?_) (fun hq => ?_)
  · refine hf_stp (fun p l e R s m args below meth c H locs ls cells slots Q G hx hb _ _ w => ?_) h1
    show W p l e R s m args below meth c H locs cells slots Q (F0 m pc ls (hf_v G 2 x :: st.map (hf_w G)))
    rcases hf_v2 G x with hv | ⟨a, hv⟩
    · exfalso; rw [hf_v_ref, if_neg hq] at hv; split at hv <;> cases hv
    · rw [hv]; exact lv_ifnonnull hx hb hdg ht w
  · have hq : x = 0 := by omega
    subst hq
    exact hf_stp (fun p l e R s m args below meth c H locs ls cells slots Q G hx hb _ _ w => lv_ifnonnullN hx hb hdg w) h2
theorem hf_idiv {x y : Int} {f : Int → hf_M Int} (hdg : decode M.2.1 pc = .ok (.idiv, 1)) (h : ∀ v, hf_J M (pc + 1) lv ((0, v) :: st) (f v)) : hf_J M pc lv ((0, y) :: (0, x) :: st) (hf_bd (hf_dv x y) f) := by
  have e : ∀ σ, hf_ck (hf_inI x ∧ hf_inI y ∧ y ≠ 0) (f (x.tdiv y)) σ = hf_bd (hf_dv x y) f σ := fun σ => by
    unfold hf_ck hf_bd hf_dv; by_cases hq : hf_inI x ∧ hf_inI y ∧ y ≠ 0
    · rw [if_pos hq, if_pos hq]; rfl
    · rw [if_neg hq, if_neg hq]; rfl
  refine hf_Jeq e (hf_Jck (fun hq => ?_))
  refine hf_stp (fun p l e R s m args below meth c H locs ls cells slots Q G hx hb _ _ w => lv_idiv hx hb hdg (fun h0 => hq.2.2 ((hf_eq0 hq.2.1).mp h0)) ?_) (h (x.tdiv y))
  rw [← Int32.ofInt_tdiv (hf_inI_min hq.1) (hf_inI_max hq.1) (hf_inI_min hq.2.1) (hf_inI_max hq.2.1)]; exact w
theorem hf_irem {x y : Int} {f : Int → hf_M Int} (hdg : decode M.2.1 pc = .ok (.irem, 1)) (h : ∀ v, hf_J M (pc + 1) lv ((0, v) :: st) (f v)) : hf_J M pc lv ((0, y) :: (0, x) :: st) (hf_bd (hf_rm x y) f) := by
  have e : ∀ σ, hf_ck (hf_inI x ∧ hf_inI y ∧ y ≠ 0) (f (x.tmod y)) σ = hf_bd (hf_rm x y) f σ := fun σ => by
    unfold hf_ck hf_bd hf_rm; by_cases hq : hf_inI x ∧ hf_inI y ∧ y ≠ 0
    · rw [if_pos hq, if_pos hq]; rfl
    · rw [if_neg hq, if_neg hq]; rfl
  refine hf_Jeq e (hf_Jck (fun hq => ?_))
  refine hf_stp (fun p l e R s m args below meth c H locs ls cells slots Q G hx hb _ _ w => lv_irem hx hb hdg (fun h0 => hq.2.2 ((hf_eq0 hq.2.1).mp h0)) ?_) (h (x.tmod y))
  rw [← Int32.ofInt_tdiv (hf_inI_min hq.1) (hf_inI_max hq.1) (hf_inI_min hq.2.1) (hf_inI_max hq.2.1), ← Int32.ofInt_mul, ← Int32.ofInt_sub, show x - x.tdiv y * y = x.tmod y by have := Int.tmod_add_mul_tdiv x y; rw [Int.mul_comm] at this; omega]; exact w
theorem hf_ldiv {x y : Int} {f : Int → hf_M Int} (hdg : decode M.2.1 pc = .ok (.ldiv, 1)) (h : ∀ v, hf_J M (pc + 1) lv ((1, v) :: st) (f v)) : hf_J M pc lv ((1, y) :: (1, x) :: st) (hf_bd (hf_dvl x y) f) := by
  have e : ∀ σ, hf_ck (hf_inL x ∧ hf_inL y ∧ y ≠ 0) (f (x.tdiv y)) σ = hf_bd (hf_dvl x y) f σ := fun σ => by
    unfold hf_ck hf_bd hf_dvl; by_cases hq : hf_inL x ∧ hf_inL y ∧ y ≠ 0
    · rw [if_pos hq, if_pos hq]; rfl
    · rw [if_neg hq, if_neg hq]; rfl
  refine hf_Jeq e (hf_Jck (fun hq => ?_))
  refine hf_stp (fun p l e R s m args below meth c H locs ls cells slots Q G hx hb _ _ w => lv_ldiv hx hb hdg (fun h0 => hq.2.2 (by have h1 := congrArg Int64.toInt h0; rw [hf_toIntL hq.2.1] at h1; exact h1)) ?_) (h (x.tdiv y))
  rw [← Int64.ofInt_tdiv hq.1.1 hq.1.2 hq.2.1.1 hq.2.1.2]; exact w
theorem hf_lrem {x y : Int} {f : Int → hf_M Int} (hdg : decode M.2.1 pc = .ok (.lrem, 1)) (h : ∀ v, hf_J M (pc + 1) lv ((1, v) :: st) (f v)) : hf_J M pc lv ((1, y) :: (1, x) :: st) (hf_bd (hf_rml x y) f) := by
  have e : ∀ σ, hf_ck (hf_inL x ∧ hf_inL y ∧ y ≠ 0) (f (x.tmod y)) σ = hf_bd (hf_rml x y) f σ := fun σ => by
    unfold hf_ck hf_bd hf_rml; by_cases hq : hf_inL x ∧ hf_inL y ∧ y ≠ 0
    · rw [if_pos hq, if_pos hq]; rfl
    · rw [if_neg hq, if_neg hq]; rfl
  refine hf_Jeq e (hf_Jck (fun hq => ?_))
  refine hf_stp (fun p l e R s m args below meth c H locs ls cells slots Q G hx hb _ _ w => lv_lrem hx hb hdg (fun h0 => hq.2.2 (by have h1 := congrArg Int64.toInt h0; rw [hf_toIntL hq.2.1] at h1; exact h1)) ?_) (h (x.tmod y))
  rw [← Int64.ofInt_tdiv hq.1.1 hq.1.2 hq.2.1.1 hq.2.1.2, ← Int64.ofInt_mul, ← Int64.ofInt_sub, show x - x.tdiv y * y = x.tmod y by have := Int.tmod_add_mul_tdiv x y; rw [Int.mul_comm] at this; omega]; exact w
theorem hf_tsw {dflt lo hi : Int} {offs : Array Int} {len : Nat} {x : Int} (tgt : Nat) (off : Int) (hx0 : hf_inI x) (hdg : decode M.2.1 pc = .ok (.tableswitch dflt lo hi offs, len)) (h1 : ¬ x < lo) (h2 : ¬ hi < x) (ho : offs[(x - lo).toNat]? = some off) (ht : (pc : Int) + off = (tgt : Int)) (h : hf_J M tgt lv st k) : hf_J M pc lv ((0, x) :: st) k :=
  hf_stp (fun p l e R s m args below meth c H locs ls cells slots Q G hx hb _ _ w => lv_tableIn hx hb hdg (by rw [hf_toInt hx0]; exact h1) (by rw [hf_toInt hx0]; exact h2) (by rw [hf_toInt hx0]; exact ho) ht w) h
theorem hf_tswd {dflt lo hi : Int} {offs : Array Int} {len : Nat} {x : Int} (tgt : Nat) (hx0 : hf_inI x) (hdg : decode M.2.1 pc = .ok (.tableswitch dflt lo hi offs, len)) (h1 : x < lo ∨ hi < x) (ht : (pc : Int) + dflt = (tgt : Int)) (h : hf_J M tgt lv st k) : hf_J M pc lv ((0, x) :: st) k :=
  hf_stp (fun p l e R s m args below meth c H locs ls cells slots Q G hx hb _ _ w => lv_tableOut hx hb hdg (by rw [hf_toInt hx0]; exact h1) ht w) h
theorem hf_lsw {dflt : Int} {ps : Array (Int × Int)} {len : Nat} {x off : Int} (tgt : Nat) (hx0 : hf_inI x) (hdg : decode M.2.1 pc = .ok (.lookupswitch dflt ps, len)) (hp : (ps.toList.zip (ps.toList.drop 1)).all (fun (a, next) => a.1 < next.1) = true) (ho : Op.lookupswitch.offset ps.toList dflt x = off) (ht : (pc : Int) + off = (tgt : Int)) (h : hf_J M tgt lv st k) : hf_J M pc lv ((0, x) :: st) k :=
  hf_stp (fun p l e R s m args below meth c H locs ls cells slots Q G hx hb _ _ w => lv_lookup hx hb hdg hp (by rw [hf_toInt hx0]; exact ho) ht w) h
/-- the returns -/
theorem hf_Jret {r : Int} (hr : hf_rt M.2.1 M.2.2.2.1 pc r) (hs : ∀ G, st.map (hf_w G) = (hf_ro G M.2.2.2.1 r).toList) : hf_J M pc lv st (hf_ret r) := by
  intro p l e R s m args below meth c G n0 s0 C H locs ls σ σ' r' cells slots Q hP hL hlv hk hret
  cases hk
  obtain ⟨-, -, -, -, -, -, -, -, ⟨-, -, hRc, hRs⟩, hsz, hs0, -⟩ := C
  refine hf_tight hsz hs0 hP (fun g1 g2 => ?_)
  refine W.widen (k := R.cells) (n := R.slots) (by rw [hRc]; have := hP.2.2.2.1; omega) (by rw [hRs]; have := hP.2.2.2.2.1; omega) ?_
  rw [hs G]
  exact hret H locs ls pc hP hL hlv.1 hr
end HFB
