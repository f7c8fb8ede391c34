/-! THE CONSTRUCTORS, walked: printed by ctor.py -/
theorem hz_fill_ne {a b : Nat} {v : Int} {k : Nat} (h : b ≠ a) : ∀ (j : Nat) (D : List (Nat × Nat × Int)), hz_look (hz_fill a v j D) b k = hz_look D b k := by
  intro j D
  induction j with
  | zero => rfl
  | succ j ih =>
    show (if b = a ∧ k = j then v else hz_look (hz_fill a v j D) b k) = _
    rw [if_neg (fun hh => h hh.1), ih]
theorem z_X12_init_734 {n S : Nat} {D : List (Nat × Nat × Int)} {ℓ : Nat × Nat} {ρ : Nat → Int} {σ : hf_S} (hn : n = 103) (h : hz n S D ℓ ρ σ) (e7 : hz_look D 69 7 = 74) : hw (f_X12_init_734 69 0) σ (fun _ τ => hz n S (hz_fill 74 1 41 D) ℓ ρ τ) := by
  subst hn
  unfold f_X12_init_734
  refine hw_fx (fun (s : Int) τ => ∃ j : Nat, j ≤ 41 ∧ s = j ∧ hz 103 S (hz_fill 74 1 j D) ℓ ρ τ) (fun s _ => 41 - s.toNat) ?_ hf_N 0 σ ⟨0, Nat.zero_le _, rfl, h⟩ (by unfold hf_N; decide)
  intro rec s τ hI hrec
  obtain ⟨j, hj, rfl, hz1⟩ := hI
  unfold B_X12_init_734
  refine hw_cb ⟨by omega, by omega⟩ ⟨by omega, by omega⟩ (fun hc => ?_) (fun hc => ?_)
  · have e : j = 41 := by omega
    subst e
    exact hw_ret hz1
  · refine hz_gf 69 74 hz1 rfl (by decide) (by decide) rfl (by rw [hz_fill_ne (by decide)]; exact e7) ?_
    refine hz_as 74 j hz1 rfl (by omega) (by decide) (by decide) rfl (by omega) (by show (j : Int) < ((41 : Nat) : Int); omega) (fun τ' h' => ?_)
    refine hw_bd_ret (hrec _ _ ⟨j + 1, by omega, by omega, h'⟩ ?_)
    show 41 - ((j : Int) + 1).toNat < 41 - (j : Int).toNat
    omega
theorem z_X12_init_714 {n S : Nat} {D : List (Nat × Nat × Int)} {ℓ : Nat × Nat} {ρ : Nat → Int} {σ : hf_S} (hn : n = 103) (h : hz n S D ℓ ρ σ) (e6 : hz_look D 69 6 = 73) (e7 : hz_look D 69 7 = 74) : hw (f_X12_init_714 69 0) σ (fun _ τ => hz n S (hz_fill 74 1 41 (hz_fill 73 1 3 D)) ℓ ρ τ) := by
  subst hn
  unfold f_X12_init_714
  refine hw_fx (fun (s : Int) τ => ∃ j : Nat, j ≤ 3 ∧ s = j ∧ hz 103 S (hz_fill 73 1 j D) ℓ ρ τ) (fun s _ => 3 - s.toNat) ?_ hf_N 0 σ ⟨0, Nat.zero_le _, rfl, h⟩ (by unfold hf_N; decide)
  intro rec s τ hI hrec
  obtain ⟨j, hj, rfl, hz1⟩ := hI
  unfold B_X12_init_714
  refine hw_cb ⟨by omega, by omega⟩ ⟨by omega, by omega⟩ (fun hc => ?_) (fun hc => ?_)
  · have e : j = 3 := by omega
    subst e
    exact z_X12_init_734 rfl hz1 (by rw [hz_fill_ne (by decide)]; exact e7)
  · refine hz_gf 69 73 hz1 rfl (by decide) (by decide) rfl (by rw [hz_fill_ne (by decide)]; exact e6) ?_
    refine hz_as 73 j hz1 rfl (by omega) (by decide) (by decide) rfl (by omega) (by show (j : Int) < ((3 : Nat) : Int); omega) (fun τ' h' => ?_)
    refine hw_bd_ret (hrec _ _ ⟨j + 1, by omega, by omega, h'⟩ ?_)
    show 3 - ((j : Int) + 1).toNat < 3 - (j : Int).toNat
    omega
def d_z_X8_init_2 (D : List (Nat × Nat × Int)) : List (Nat × Nat × Int) := hz_fill 6 1 41 ((2, 7, 0) :: (2, 6, 6) :: (2, 5, 0) :: (2, 4, 1) :: (2, 3, 5) :: (5, 2, 1) :: (5, 1, 1) :: (5, 0, 1) :: (2, 2, 4) :: (4, 2, 0) :: (4, 1, 0) :: (4, 0, 2) :: (2, 1, 3) :: (2, 0, 20) :: D)
set_option maxRecDepth 20000 in
theorem z_X8_init_2 {D : List (Nat × Nat × Int)} {ℓ : Nat × Nat} {ρ : Nat → Int} {σ : hf_S} (h : hz 2 23 D ℓ ρ σ) : hw (f_X8_init 2) σ (fun _ τ => hz 6 73 (d_z_X8_init_2 D) ℓ ρ τ) := by
  unfold f_X8_init d_z_X8_init_2
  refine hw_ob (h.is (by decide) (by decide) rfl) ?_
  refine hz_pf 2 h rfl (by decide) (by decide) rfl (fun τ h => ?_)
  refine hz_na (by decide) ?_
  refine hz_nw 3 3 26 h rfl rfl rfl (by decide) (by decide) rfl (fun τ h => ?_)
  refine hz_pf 2 h rfl (by decide) (by decide) rfl (fun τ h => ?_)
  refine hz_na (by decide) ?_
  refine hz_nw 4 4 29 h rfl rfl rfl (by decide) (by decide) rfl (fun τ h => ?_)
  refine hz_as 4 0 h rfl rfl (by decide) (by decide) rfl (by decide) (by decide) (fun τ h => ?_)
  refine hz_as 4 1 h rfl rfl (by decide) (by decide) rfl (by decide) (by decide) (fun τ h => ?_)
  refine hz_as 4 2 h rfl rfl (by decide) (by decide) rfl (by decide) (by decide) (fun τ h => ?_)
  refine hz_pf 2 h rfl (by decide) (by decide) rfl (fun τ h => ?_)
  refine hz_na (by decide) ?_
  refine hz_nw 5 5 32 h rfl rfl rfl (by decide) (by decide) rfl (fun τ h => ?_)
  refine hz_as 5 0 h rfl rfl (by decide) (by decide) rfl (by decide) (by decide) (fun τ h => ?_)
  refine hz_as 5 1 h rfl rfl (by decide) (by decide) rfl (by decide) (by decide) (fun τ h => ?_)
  refine hz_as 5 2 h rfl rfl (by decide) (by decide) rfl (by decide) (by decide) (fun τ h => ?_)
  refine hz_pf 2 h rfl (by decide) (by decide) rfl (fun τ h => ?_)
  refine hz_pf 2 h rfl (by decide) (by decide) rfl (fun τ h => ?_)
  refine hz_pf 2 h rfl (by decide) (by decide) rfl (fun τ h => ?_)
  refine hz_na (by decide) ?_
  refine hz_nw 6 6 73 h rfl rfl rfl (by decide) (by decide) rfl (fun τ h => ?_)
  refine hz_pf 2 h rfl (by decide) (by decide) rfl (fun τ h => ?_)
  refine hz_pf 2 h rfl (by decide) (by decide) rfl (fun τ h => ?_)
  refine hz_gf 2 6 h rfl (by decide) (by decide) rfl ?_ ?_
  · rfl
  refine hw_call (z_fill (a := 6) (v := 1) (len := 41) h rfl (by decide) (by decide) rfl (by decide)) (fun _ τ h => ?_)
  exact hw_ret h
def d_z_X9_init_9 (D : List (Nat × Nat × Int)) : List (Nat × Nat × Int) := (9, 5, 0) :: (9, 4, 0) :: (9, 3, 0) :: (9, 2, 0) :: (9, 1, 0) :: (9, 0, 10) :: D
set_option maxRecDepth 20000 in
theorem z_X9_init_9 {D : List (Nat × Nat × Int)} {ℓ : Nat × Nat} {ρ : Nat → Int} {σ : hf_S} (h : hz 9 492 D ℓ ρ σ) : hw (f_X9_init 9) σ (fun _ τ => hz 10 492 (d_z_X9_init_9 D) ℓ ρ τ) := by
  unfold f_X9_init d_z_X9_init_9
  refine hw_ob (h.is (by decide) (by decide) rfl) ?_
  refine hz_na (by decide) ?_
  refine hz_nw 10 10 492 h rfl rfl rfl (by decide) (by decide) rfl (fun τ h => ?_)
  refine hz_pf 9 h rfl (by decide) (by decide) rfl (fun τ h => ?_)
  refine hz_pf 9 h rfl (by decide) (by decide) rfl (fun τ h => ?_)
  refine hz_pf 9 h rfl (by decide) (by decide) rfl (fun τ h => ?_)
  refine hz_pf 9 h rfl (by decide) (by decide) rfl (fun τ h => ?_)
  refine hz_pf 9 h rfl (by decide) (by decide) rfl (fun τ h => ?_)
  refine hz_pf 9 h rfl (by decide) (by decide) rfl (fun τ h => ?_)
  exact hw_ret h
def d_z_X4_init_11 (D : List (Nat × Nat × Int)) : List (Nat × Nat × Int) := (11, 5, 15) :: (11, 4, 14) :: (11, 3, 13) :: (11, 2, 12) :: (11, 1, 0) :: (11, 0, 0) :: D
set_option maxRecDepth 20000 in
theorem z_X4_init_11 {D : List (Nat × Nat × Int)} {ℓ : Nat × Nat} {ρ : Nat → Int} {σ : hf_S} (h : hz 11 498 D ℓ ρ σ) : hw (f_X4_init 11) σ (fun _ τ => hz 15 598 (d_z_X4_init_11 D) ℓ ρ τ) := by
  unfold f_X4_init d_z_X4_init_11
  refine hw_ob (h.is (by decide) (by decide) rfl) ?_
  refine hz_pf 11 h rfl (by decide) (by decide) rfl (fun τ h => ?_)
  refine hz_pf 11 h rfl (by decide) (by decide) rfl (fun τ h => ?_)
  refine hz_na (by decide) ?_
  refine hz_nw 12 12 510 h rfl rfl rfl (by decide) (by decide) rfl (fun τ h => ?_)
  refine hz_pf 11 h rfl (by decide) (by decide) rfl (fun τ h => ?_)
  refine hz_na (by decide) ?_
  refine hz_nw 13 13 522 h rfl rfl rfl (by decide) (by decide) rfl (fun τ h => ?_)
  refine hz_pf 11 h rfl (by decide) (by decide) rfl (fun τ h => ?_)
  refine hz_na (by decide) ?_
  refine hz_nw 14 14 534 h rfl rfl rfl (by decide) (by decide) rfl (fun τ h => ?_)
  refine hz_pf 11 h rfl (by decide) (by decide) rfl (fun τ h => ?_)
  refine hz_na (by decide) ?_
  refine hz_nw 15 15 598 h rfl rfl rfl (by decide) (by decide) rfl (fun τ h => ?_)
  refine hz_pf 11 h rfl (by decide) (by decide) rfl (fun τ h => ?_)
  exact hw_ret h
def d_z_X5_init_8 (D : List (Nat × Nat × Int)) : List (Nat × Nat × Int) := (8, 12, -1) :: (8, 11, 0) :: (8, 10, 0) :: (8, 9, 0) :: (8, 8, 17) :: (8, 7, 0) :: (8, 6, 0) :: (8, 5, 0) :: (8, 4, 0) :: (8, 3, 0) :: (8, 2, 16) :: (8, 1, 11) :: (d_z_X4_init_11 ((8, 0, 9) :: (d_z_X9_init_9 (D))))
set_option maxRecDepth 20000 in
theorem z_X5_init_8 {D : List (Nat × Nat × Int)} {ℓ : Nat × Nat} {ρ : Nat → Int} {σ : hf_S} (h : hz 8 486 D ℓ ρ σ) : hw (f_X5_init 8) σ (fun _ τ => hz 17 679 (d_z_X5_init_8 D) ℓ ρ τ) := by
  unfold f_X5_init d_z_X5_init_8
  refine hw_ob (h.is (by decide) (by decide) rfl) ?_
  refine hz_nw 9 9 492 h rfl rfl rfl (by decide) (by decide) rfl (fun τ h => ?_)
  refine hw_call (hw_ob (h.is (by decide) (by decide) rfl) (z_X9_init_9 h)) (fun _ τ h => ?_)
  refine hz_pf 8 h rfl (by decide) (by decide) rfl (fun τ h => ?_)
  refine hz_nw 11 11 498 h rfl rfl rfl (by decide) (by decide) rfl (fun τ h => ?_)
  refine hw_call (hw_ob (h.is (by decide) (by decide) rfl) (z_X4_init_11 h)) (fun _ τ h => ?_)
  refine hz_pf 8 h rfl (by decide) (by decide) rfl (fun τ h => ?_)
  refine hz_na (by decide) ?_
  refine hz_nw 16 16 670 h rfl rfl rfl (by decide) (by decide) rfl (fun τ h => ?_)
  refine hz_pf 8 h rfl (by decide) (by decide) rfl (fun τ h => ?_)
  refine hz_pf 8 h rfl (by decide) (by decide) rfl (fun τ h => ?_)
  refine hz_pf 8 h rfl (by decide) (by decide) rfl (fun τ h => ?_)
  refine hz_pf 8 h rfl (by decide) (by decide) rfl (fun τ h => ?_)
  refine hz_pf 8 h rfl (by decide) (by decide) rfl (fun τ h => ?_)
  refine hz_pf 8 h rfl (by decide) (by decide) rfl (fun τ h => ?_)
  refine hz_na (by decide) ?_
  refine hz_nw 17 17 679 h rfl rfl rfl (by decide) (by decide) rfl (fun τ h => ?_)
  refine hz_pf 8 h rfl (by decide) (by decide) rfl (fun τ h => ?_)
  refine hz_pf 8 h rfl (by decide) (by decide) rfl (fun τ h => ?_)
  refine hz_pf 8 h rfl (by decide) (by decide) rfl (fun τ h => ?_)
  refine hz_pf 8 h rfl (by decide) (by decide) rfl (fun τ h => ?_)
  refine hz_pf 8 h rfl (by decide) (by decide) rfl (fun τ h => ?_)
  exact hw_ret h
def d_z_X4_init_18 (D : List (Nat × Nat × Int)) : List (Nat × Nat × Int) := (18, 5, 22) :: (18, 4, 21) :: (18, 3, 20) :: (18, 2, 19) :: (18, 1, 0) :: (18, 0, 0) :: D
set_option maxRecDepth 20000 in
theorem z_X4_init_18 {D : List (Nat × Nat × Int)} {ℓ : Nat × Nat} {ρ : Nat → Int} {σ : hf_S} (h : hz 18 685 D ℓ ρ σ) : hw (f_X4_init 18) σ (fun _ τ => hz 22 785 (d_z_X4_init_18 D) ℓ ρ τ) := by
  unfold f_X4_init d_z_X4_init_18
  refine hw_ob (h.is (by decide) (by decide) rfl) ?_
  refine hz_pf 18 h rfl (by decide) (by decide) rfl (fun τ h => ?_)
  refine hz_pf 18 h rfl (by decide) (by decide) rfl (fun τ h => ?_)
  refine hz_na (by decide) ?_
  refine hz_nw 19 19 697 h rfl rfl rfl (by decide) (by decide) rfl (fun τ h => ?_)
  refine hz_pf 18 h rfl (by decide) (by decide) rfl (fun τ h => ?_)
  refine hz_na (by decide) ?_
  refine hz_nw 20 20 709 h rfl rfl rfl (by decide) (by decide) rfl (fun τ h => ?_)
  refine hz_pf 18 h rfl (by decide) (by decide) rfl (fun τ h => ?_)
  refine hz_na (by decide) ?_
  refine hz_nw 21 21 721 h rfl rfl rfl (by decide) (by decide) rfl (fun τ h => ?_)
  refine hz_pf 18 h rfl (by decide) (by decide) rfl (fun τ h => ?_)
  refine hz_na (by decide) ?_
  refine hz_nw 22 22 785 h rfl rfl rfl (by decide) (by decide) rfl (fun τ h => ?_)
  refine hz_pf 18 h rfl (by decide) (by decide) rfl (fun τ h => ?_)
  exact hw_ret h
def d_z_X4_init_23 (D : List (Nat × Nat × Int)) : List (Nat × Nat × Int) := (23, 5, 27) :: (23, 4, 26) :: (23, 3, 25) :: (23, 2, 24) :: (23, 1, 0) :: (23, 0, 0) :: D
set_option maxRecDepth 20000 in
theorem z_X4_init_23 {D : List (Nat × Nat × Int)} {ℓ : Nat × Nat} {ρ : Nat → Int} {σ : hf_S} (h : hz 23 791 D ℓ ρ σ) : hw (f_X4_init 23) σ (fun _ τ => hz 27 891 (d_z_X4_init_23 D) ℓ ρ τ) := by
  unfold f_X4_init d_z_X4_init_23
  refine hw_ob (h.is (by decide) (by decide) rfl) ?_
  refine hz_pf 23 h rfl (by decide) (by decide) rfl (fun τ h => ?_)
  refine hz_pf 23 h rfl (by decide) (by decide) rfl (fun τ h => ?_)
  refine hz_na (by decide) ?_
  refine hz_nw 24 24 803 h rfl rfl rfl (by decide) (by decide) rfl (fun τ h => ?_)
  refine hz_pf 23 h rfl (by decide) (by decide) rfl (fun τ h => ?_)
  refine hz_na (by decide) ?_
  refine hz_nw 25 25 815 h rfl rfl rfl (by decide) (by decide) rfl (fun τ h => ?_)
  refine hz_pf 23 h rfl (by decide) (by decide) rfl (fun τ h => ?_)
  refine hz_na (by decide) ?_
  refine hz_nw 26 26 827 h rfl rfl rfl (by decide) (by decide) rfl (fun τ h => ?_)
  refine hz_pf 23 h rfl (by decide) (by decide) rfl (fun τ h => ?_)
  refine hz_na (by decide) ?_
  refine hz_nw 27 27 891 h rfl rfl rfl (by decide) (by decide) rfl (fun τ h => ?_)
  refine hz_pf 23 h rfl (by decide) (by decide) rfl (fun τ h => ?_)
  exact hw_ret h
def d_z_X1_init_29 (D : List (Nat × Nat × Int)) : List (Nat × Nat × Int) := (29, 6, 36) :: (29, 5, 35) :: (29, 4, 34) :: (29, 3, 33) :: (29, 2, 32) :: (29, 1, 31) :: (29, 0, 200) :: (29, 13, 0) :: (29, 12, 0) :: (29, 11, 0) :: (29, 10, 0) :: (29, 9, 0) :: (29, 8, 0) :: (29, 7, 30) :: D
set_option maxRecDepth 20000 in
theorem z_X1_init_29 {D : List (Nat × Nat × Int)} {ℓ : Nat × Nat} {ρ : Nat → Int} {σ : hf_S} (h : hz 29 909 D ℓ ρ σ) : hw (f_X1_init 29 200) σ (fun _ τ => hz 36 2112 (d_z_X1_init_29 D) ℓ ρ τ) := by
  unfold f_X1_init d_z_X1_init_29
  refine hw_ob (h.is (by decide) (by decide) rfl) ?_
  refine hz_na (by decide) ?_
  refine hz_nw 30 30 912 h rfl rfl rfl (by decide) (by decide) rfl (fun τ h => ?_)
  refine hz_pf 29 h rfl (by decide) (by decide) rfl (fun τ h => ?_)
  refine hz_pf 29 h rfl (by decide) (by decide) rfl (fun τ h => ?_)
  refine hz_pf 29 h rfl (by decide) (by decide) rfl (fun τ h => ?_)
  refine hz_pf 29 h rfl (by decide) (by decide) rfl (fun τ h => ?_)
  refine hz_pf 29 h rfl (by decide) (by decide) rfl (fun τ h => ?_)
  refine hz_pf 29 h rfl (by decide) (by decide) rfl (fun τ h => ?_)
  refine hz_pf 29 h rfl (by decide) (by decide) rfl (fun τ h => ?_)
  refine hz_pf 29 h rfl (by decide) (by decide) rfl (fun τ h => ?_)
  refine hz_na (by decide) ?_
  refine hz_nw 31 31 1112 h rfl rfl rfl (by decide) (by decide) rfl (fun τ h => ?_)
  refine hz_pf 29 h rfl (by decide) (by decide) rfl (fun τ h => ?_)
  refine hz_na (by decide) ?_
  refine hz_nw 32 32 1312 h rfl rfl rfl (by decide) (by decide) rfl (fun τ h => ?_)
  refine hz_pf 29 h rfl (by decide) (by decide) rfl (fun τ h => ?_)
  refine hz_na (by decide) ?_
  refine hz_nw 33 33 1512 h rfl rfl rfl (by decide) (by decide) rfl (fun τ h => ?_)
  refine hz_pf 29 h rfl (by decide) (by decide) rfl (fun τ h => ?_)
  refine hz_na (by decide) ?_
  refine hz_nw 34 34 1712 h rfl rfl rfl (by decide) (by decide) rfl (fun τ h => ?_)
  refine hz_pf 29 h rfl (by decide) (by decide) rfl (fun τ h => ?_)
  refine hz_na (by decide) ?_
  refine hz_nw 35 35 1912 h rfl rfl rfl (by decide) (by decide) rfl (fun τ h => ?_)
  refine hz_pf 29 h rfl (by decide) (by decide) rfl (fun τ h => ?_)
  refine hz_na (by decide) ?_
  refine hz_nw 36 36 2112 h rfl rfl rfl (by decide) (by decide) rfl (fun τ h => ?_)
  refine hz_pf 29 h rfl (by decide) (by decide) rfl (fun τ h => ?_)
  exact hw_ret h
def d_z_X7_init_37 (D : List (Nat × Nat × Int)) : List (Nat × Nat × Int) := (37, 2, 0) :: (37, 1, 0) :: (37, 0, 38) :: D
set_option maxRecDepth 20000 in
theorem z_X7_init_37 {D : List (Nat × Nat × Int)} {ℓ : Nat × Nat} {ρ : Nat → Int} {σ : hf_S} (h : hz 37 2115 D ℓ ρ σ) : hw (f_X7_init 37) σ (fun _ τ => hz 38 2179 (d_z_X7_init_37 D) ℓ ρ τ) := by
  unfold f_X7_init d_z_X7_init_37
  refine hw_ob (h.is (by decide) (by decide) rfl) ?_
  refine hz_na (by decide) ?_
  refine hz_nw 38 38 2179 h rfl rfl rfl (by decide) (by decide) rfl (fun τ h => ?_)
  refine hz_pf 37 h rfl (by decide) (by decide) rfl (fun τ h => ?_)
  refine hz_pf 37 h rfl (by decide) (by decide) rfl (fun τ h => ?_)
  refine hz_pf 37 h rfl (by decide) (by decide) rfl (fun τ h => ?_)
  exact hw_ret h
def d_z_X6_init_28 (D : List (Nat × Nat × Int)) : List (Nat × Nat × Int) := (28, 3, -1) :: (28, 2, 3) :: (28, 1, 37) :: (d_z_X7_init_37 ((28, 0, 29) :: (d_z_X1_init_29 (D))))
set_option maxRecDepth 20000 in
theorem z_X6_init_28 {D : List (Nat × Nat × Int)} {ℓ : Nat × Nat} {ρ : Nat → Int} {σ : hf_S} (h : hz 28 895 D ℓ ρ σ) : hw (f_X6_init 28) σ (fun _ τ => hz 38 2179 (d_z_X6_init_28 D) ℓ ρ τ) := by
  unfold f_X6_init d_z_X6_init_28
  refine hw_ob (h.is (by decide) (by decide) rfl) ?_
  refine hz_nw 29 29 909 h rfl rfl rfl (by decide) (by decide) rfl (fun τ h => ?_)
  refine hw_call (hw_ob (h.is (by decide) (by decide) rfl) (z_X1_init_29 h)) (fun _ τ h => ?_)
  refine hz_pf 28 h rfl (by decide) (by decide) rfl (fun τ h => ?_)
  refine hz_nw 37 37 2115 h rfl rfl rfl (by decide) (by decide) rfl (fun τ h => ?_)
  refine hw_call (hw_ob (h.is (by decide) (by decide) rfl) (z_X7_init_37 h)) (fun _ τ h => ?_)
  refine hz_pf 28 h rfl (by decide) (by decide) rfl (fun τ h => ?_)
  refine hz_pf 28 h rfl (by decide) (by decide) rfl (fun τ h => ?_)
  refine hz_pf 28 h rfl (by decide) (by decide) rfl (fun τ h => ?_)
  exact hw_ret h
def d_z_X0_init_39 (D : List (Nat × Nat × Int)) : List (Nat × Nat × Int) := (39, 17, -1) :: (39, 16, -1) :: (39, 15, 1000000000) :: (39, 14, -1) :: (39, 13, -1) :: (39, 12, 45) :: (39, 11, 44) :: (39, 10, 43) :: (39, 9, 42) :: (39, 8, 0) :: (39, 7, 0) :: (39, 6, 0) :: (39, 5, 0) :: (39, 4, -1) :: (39, 3, -1) :: (39, 2, 0) :: (39, 1, 41) :: (39, 0, 40) :: D
set_option maxRecDepth 20000 in
theorem z_X0_init_39 {D : List (Nat × Nat × Int)} {ℓ : Nat × Nat} {ρ : Nat → Int} {σ : hf_S} (h : hz 39 2197 D ℓ ρ σ) : hw (f_X0_init 39) σ (fun _ τ => hz 45 2595 (d_z_X0_init_39 D) ℓ ρ τ) := by
  unfold f_X0_init d_z_X0_init_39
  refine hw_ob (h.is (by decide) (by decide) rfl) ?_
  refine hz_na (by decide) ?_
  refine hz_nw 40 40 2322 h rfl rfl rfl (by decide) (by decide) rfl (fun τ h => ?_)
  refine hz_pf 39 h rfl (by decide) (by decide) rfl (fun τ h => ?_)
  refine hz_na (by decide) ?_
  refine hz_nw 41 41 2447 h rfl rfl rfl (by decide) (by decide) rfl (fun τ h => ?_)
  refine hz_pf 39 h rfl (by decide) (by decide) rfl (fun τ h => ?_)
  refine hz_pf 39 h rfl (by decide) (by decide) rfl (fun τ h => ?_)
  refine hz_pf 39 h rfl (by decide) (by decide) rfl (fun τ h => ?_)
  refine hz_pf 39 h rfl (by decide) (by decide) rfl (fun τ h => ?_)
  refine hz_pf 39 h rfl (by decide) (by decide) rfl (fun τ h => ?_)
  refine hz_pf 39 h rfl (by decide) (by decide) rfl (fun τ h => ?_)
  refine hz_pf 39 h rfl (by decide) (by decide) rfl (fun τ h => ?_)
  refine hz_pf 39 h rfl (by decide) (by decide) rfl (fun τ h => ?_)
  refine hz_na (by decide) ?_
  refine hz_nw 42 42 2450 h rfl rfl rfl (by decide) (by decide) rfl (fun τ h => ?_)
  refine hz_pf 39 h rfl (by decide) (by decide) rfl (fun τ h => ?_)
  refine hz_na (by decide) ?_
  refine hz_nw 43 43 2453 h rfl rfl rfl (by decide) (by decide) rfl (fun τ h => ?_)
  refine hz_pf 39 h rfl (by decide) (by decide) rfl (fun τ h => ?_)
  refine hz_na (by decide) ?_
  refine hz_nw 44 44 2495 h rfl rfl rfl (by decide) (by decide) rfl (fun τ h => ?_)
  refine hz_pf 39 h rfl (by decide) (by decide) rfl (fun τ h => ?_)
  refine hz_na (by decide) ?_
  refine hz_nw 45 45 2595 h rfl rfl rfl (by decide) (by decide) rfl (fun τ h => ?_)
  refine hz_pf 39 h rfl (by decide) (by decide) rfl (fun τ h => ?_)
  refine hz_pf 39 h rfl (by decide) (by decide) rfl (fun τ h => ?_)
  refine hz_pf 39 h rfl (by decide) (by decide) rfl (fun τ h => ?_)
  refine hz_pf 39 h rfl (by decide) (by decide) rfl (fun τ h => ?_)
  refine hz_pf 39 h rfl (by decide) (by decide) rfl (fun τ h => ?_)
  refine hz_pf 39 h rfl (by decide) (by decide) rfl (fun τ h => ?_)
  exact hw_ret h
def d_z_X10_init_46 (D : List (Nat × Nat × Int)) : List (Nat × Nat × Int) := (46, 5, 0) :: (46, 4, 0) :: (46, 3, 0) :: (46, 2, 49) :: (46, 1, 48) :: (46, 0, 47) :: D
set_option maxRecDepth 20000 in
theorem z_X10_init_46 {D : List (Nat × Nat × Int)} {ℓ : Nat × Nat} {ρ : Nat → Int} {σ : hf_S} (h : hz 46 2601 D ℓ ρ σ) : hw (f_X10_init 46) σ (fun _ τ => hz 49 2601 (d_z_X10_init_46 D) ℓ ρ τ) := by
  unfold f_X10_init d_z_X10_init_46
  refine hw_ob (h.is (by decide) (by decide) rfl) ?_
  refine hz_na (by decide) ?_
  refine hz_nw 47 47 2601 h rfl rfl rfl (by decide) (by decide) rfl (fun τ h => ?_)
  refine hz_pf 46 h rfl (by decide) (by decide) rfl (fun τ h => ?_)
  refine hz_na (by decide) ?_
  refine hz_nw 48 48 2601 h rfl rfl rfl (by decide) (by decide) rfl (fun τ h => ?_)
  refine hz_pf 46 h rfl (by decide) (by decide) rfl (fun τ h => ?_)
  refine hz_na (by decide) ?_
  refine hz_nw 49 49 2601 h rfl rfl rfl (by decide) (by decide) rfl (fun τ h => ?_)
  refine hz_pf 46 h rfl (by decide) (by decide) rfl (fun τ h => ?_)
  refine hz_pf 46 h rfl (by decide) (by decide) rfl (fun τ h => ?_)
  refine hz_pf 46 h rfl (by decide) (by decide) rfl (fun τ h => ?_)
  refine hz_pf 46 h rfl (by decide) (by decide) rfl (fun τ h => ?_)
  exact hw_ret h
def d_z_X2_init_51 (D : List (Nat × Nat × Int)) : List (Nat × Nat × Int) := (51, 1, 0) :: (51, 0, 52) :: D
set_option maxRecDepth 20000 in
theorem z_X2_init_51 {D : List (Nat × Nat × Int)} {ℓ : Nat × Nat} {ρ : Nat → Int} {σ : hf_S} (h : hz 51 2613 D ℓ ρ σ) : hw (f_X2_init 51) σ (fun _ τ => hz 52 2613 (d_z_X2_init_51 D) ℓ ρ τ) := by
  unfold f_X2_init d_z_X2_init_51
  refine hw_ob (h.is (by decide) (by decide) rfl) ?_
  refine hz_na (by decide) ?_
  refine hz_nw 52 52 2613 h rfl rfl rfl (by decide) (by decide) rfl (fun τ h => ?_)
  refine hz_pf 51 h rfl (by decide) (by decide) rfl (fun τ h => ?_)
  refine hz_pf 51 h rfl (by decide) (by decide) rfl (fun τ h => ?_)
  exact hw_ret h
def d_z_X3_init_53 (D : List (Nat × Nat × Int)) : List (Nat × Nat × Int) := (53, 7, 60) :: (53, 6, 59) :: (53, 5, 58) :: (53, 4, 57) :: (53, 3, 56) :: (53, 2, 55) :: (53, 1, 54) :: (53, 0, 0) :: D
set_option maxRecDepth 20000 in
theorem z_X3_init_53 {D : List (Nat × Nat × Int)} {ℓ : Nat × Nat} {ρ : Nat → Int} {σ : hf_S} (h : hz 53 2621 D ℓ ρ σ) : hw (f_X3_init 53) σ (fun _ τ => hz 60 2902 (d_z_X3_init_53 D) ℓ ρ τ) := by
  unfold f_X3_init d_z_X3_init_53
  refine hw_ob (h.is (by decide) (by decide) rfl) ?_
  refine hz_pf 53 h rfl (by decide) (by decide) rfl (fun τ h => ?_)
  refine hz_na (by decide) ?_
  refine hz_nw 54 54 2661 h rfl rfl rfl (by decide) (by decide) rfl (fun τ h => ?_)
  refine hz_pf 53 h rfl (by decide) (by decide) rfl (fun τ h => ?_)
  refine hz_na (by decide) ?_
  refine hz_nw 55 55 2701 h rfl rfl rfl (by decide) (by decide) rfl (fun τ h => ?_)
  refine hz_pf 53 h rfl (by decide) (by decide) rfl (fun τ h => ?_)
  refine hz_na (by decide) ?_
  refine hz_nw 56 56 2741 h rfl rfl rfl (by decide) (by decide) rfl (fun τ h => ?_)
  refine hz_pf 53 h rfl (by decide) (by decide) rfl (fun τ h => ?_)
  refine hz_na (by decide) ?_
  refine hz_nw 57 57 2781 h rfl rfl rfl (by decide) (by decide) rfl (fun τ h => ?_)
  refine hz_pf 53 h rfl (by decide) (by decide) rfl (fun τ h => ?_)
  refine hz_na (by decide) ?_
  refine hz_nw 58 58 2821 h rfl rfl rfl (by decide) (by decide) rfl (fun τ h => ?_)
  refine hz_pf 53 h rfl (by decide) (by decide) rfl (fun τ h => ?_)
  refine hz_na (by decide) ?_
  refine hz_nw 59 59 2861 h rfl rfl rfl (by decide) (by decide) rfl (fun τ h => ?_)
  refine hz_pf 53 h rfl (by decide) (by decide) rfl (fun τ h => ?_)
  refine hz_na (by decide) ?_
  refine hz_nw 60 60 2902 h rfl rfl rfl (by decide) (by decide) rfl (fun τ h => ?_)
  refine hz_pf 53 h rfl (by decide) (by decide) rfl (fun τ h => ?_)
  exact hw_ret h
def d_z_X1_init_61 (D : List (Nat × Nat × Int)) : List (Nat × Nat × Int) := (61, 6, 68) :: (61, 5, 67) :: (61, 4, 66) :: (61, 3, 65) :: (61, 2, 64) :: (61, 1, 63) :: (61, 0, 100) :: (61, 13, 0) :: (61, 12, 0) :: (61, 11, 0) :: (61, 10, 0) :: (61, 9, 0) :: (61, 8, 0) :: (61, 7, 62) :: D
set_option maxRecDepth 20000 in
theorem z_X1_init_61 {D : List (Nat × Nat × Int)} {ℓ : Nat × Nat} {ρ : Nat → Int} {σ : hf_S} (h : hz 61 2916 D ℓ ρ σ) : hw (f_X1_init 61 100) σ (fun _ τ => hz 68 3519 (d_z_X1_init_61 D) ℓ ρ τ) := by
  unfold f_X1_init d_z_X1_init_61
  refine hw_ob (h.is (by decide) (by decide) rfl) ?_
  refine hz_na (by decide) ?_
  refine hz_nw 62 62 2919 h rfl rfl rfl (by decide) (by decide) rfl (fun τ h => ?_)
  refine hz_pf 61 h rfl (by decide) (by decide) rfl (fun τ h => ?_)
  refine hz_pf 61 h rfl (by decide) (by decide) rfl (fun τ h => ?_)
  refine hz_pf 61 h rfl (by decide) (by decide) rfl (fun τ h => ?_)
  refine hz_pf 61 h rfl (by decide) (by decide) rfl (fun τ h => ?_)
  refine hz_pf 61 h rfl (by decide) (by decide) rfl (fun τ h => ?_)
  refine hz_pf 61 h rfl (by decide) (by decide) rfl (fun τ h => ?_)
  refine hz_pf 61 h rfl (by decide) (by decide) rfl (fun τ h => ?_)
  refine hz_pf 61 h rfl (by decide) (by decide) rfl (fun τ h => ?_)
  refine hz_na (by decide) ?_
  refine hz_nw 63 63 3019 h rfl rfl rfl (by decide) (by decide) rfl (fun τ h => ?_)
  refine hz_pf 61 h rfl (by decide) (by decide) rfl (fun τ h => ?_)
  refine hz_na (by decide) ?_
  refine hz_nw 64 64 3119 h rfl rfl rfl (by decide) (by decide) rfl (fun τ h => ?_)
  refine hz_pf 61 h rfl (by decide) (by decide) rfl (fun τ h => ?_)
  refine hz_na (by decide) ?_
  refine hz_nw 65 65 3219 h rfl rfl rfl (by decide) (by decide) rfl (fun τ h => ?_)
  refine hz_pf 61 h rfl (by decide) (by decide) rfl (fun τ h => ?_)
  refine hz_na (by decide) ?_
  refine hz_nw 66 66 3319 h rfl rfl rfl (by decide) (by decide) rfl (fun τ h => ?_)
  refine hz_pf 61 h rfl (by decide) (by decide) rfl (fun τ h => ?_)
  refine hz_na (by decide) ?_
  refine hz_nw 67 67 3419 h rfl rfl rfl (by decide) (by decide) rfl (fun τ h => ?_)
  refine hz_pf 61 h rfl (by decide) (by decide) rfl (fun τ h => ?_)
  refine hz_na (by decide) ?_
  refine hz_nw 68 68 3519 h rfl rfl rfl (by decide) (by decide) rfl (fun τ h => ?_)
  refine hz_pf 61 h rfl (by decide) (by decide) rfl (fun τ h => ?_)
  exact hw_ret h
def d_z_X11_init_1 (D : List (Nat × Nat × Int)) : List (Nat × Nat × Int) := (1, 14, 0) :: (1, 13, 61) :: (d_z_X1_init_61 ((1, 12, 53) :: (d_z_X3_init_53 ((1, 11, 51) :: (d_z_X2_init_51 ((1, 10, 50) :: (1, 9, 46) :: (d_z_X10_init_46 ((1, 8, 39) :: (d_z_X0_init_39 ((1, 7, 28) :: (d_z_X6_init_28 ((1, 6, 0) :: (1, 5, 23) :: (d_z_X4_init_23 ((1, 4, 18) :: (d_z_X4_init_18 ((1, 3, 8) :: (d_z_X5_init_8 ((1, 2, 0) :: (1, 1, 7) :: (1, 0, 2) :: (d_z_X8_init_2 (D))))))))))))))))))))
set_option maxRecDepth 20000 in
theorem z_X11_init_1 {D : List (Nat × Nat × Int)} {ℓ : Nat × Nat} {ρ : Nat → Int} {σ : hf_S} (h : hz 1 15 D ℓ ρ σ) : hw (f_X11_init 1) σ (fun _ τ => hz 68 3519 (d_z_X11_init_1 D) ℓ ρ τ) := by
  unfold f_X11_init d_z_X11_init_1
  refine hw_ob (h.is (by decide) (by decide) rfl) ?_
  refine hz_nw 2 2 23 h rfl rfl rfl (by decide) (by decide) rfl (fun τ h => ?_)
  refine hw_call (hw_ob (h.is (by decide) (by decide) rfl) (z_X8_init_2 h)) (fun _ τ h => ?_)
  refine hz_pf 1 h rfl (by decide) (by decide) rfl (fun τ h => ?_)
  refine hz_na (by decide) ?_
  refine hz_nw 7 7 473 h rfl rfl rfl (by decide) (by decide) rfl (fun τ h => ?_)
  refine hz_pf 1 h rfl (by decide) (by decide) rfl (fun τ h => ?_)
  refine hz_pf 1 h rfl (by decide) (by decide) rfl (fun τ h => ?_)
  refine hz_nw 8 8 486 h rfl rfl rfl (by decide) (by decide) rfl (fun τ h => ?_)
  refine hw_call (hw_ob (h.is (by decide) (by decide) rfl) (z_X5_init_8 h)) (fun _ τ h => ?_)
  refine hz_pf 1 h rfl (by decide) (by decide) rfl (fun τ h => ?_)
  refine hz_nw 18 18 685 h rfl rfl rfl (by decide) (by decide) rfl (fun τ h => ?_)
  refine hw_call (hw_ob (h.is (by decide) (by decide) rfl) (z_X4_init_18 h)) (fun _ τ h => ?_)
  refine hz_pf 1 h rfl (by decide) (by decide) rfl (fun τ h => ?_)
  refine hz_nw 23 23 791 h rfl rfl rfl (by decide) (by decide) rfl (fun τ h => ?_)
  refine hw_call (hw_ob (h.is (by decide) (by decide) rfl) (z_X4_init_23 h)) (fun _ τ h => ?_)
  refine hz_pf 1 h rfl (by decide) (by decide) rfl (fun τ h => ?_)
  refine hz_pf 1 h rfl (by decide) (by decide) rfl (fun τ h => ?_)
  refine hz_nw 28 28 895 h rfl rfl rfl (by decide) (by decide) rfl (fun τ h => ?_)
  refine hw_call (hw_ob (h.is (by decide) (by decide) rfl) (z_X6_init_28 h)) (fun _ τ h => ?_)
  refine hz_pf 1 h rfl (by decide) (by decide) rfl (fun τ h => ?_)
  refine hz_nw 39 39 2197 h rfl rfl rfl (by decide) (by decide) rfl (fun τ h => ?_)
  refine hw_call (hw_ob (h.is (by decide) (by decide) rfl) (z_X0_init_39 h)) (fun _ τ h => ?_)
  refine hz_pf 1 h rfl (by decide) (by decide) rfl (fun τ h => ?_)
  refine hz_nw 46 46 2601 h rfl rfl rfl (by decide) (by decide) rfl (fun τ h => ?_)
  refine hw_call (hw_ob (h.is (by decide) (by decide) rfl) (z_X10_init_46 h)) (fun _ τ h => ?_)
  refine hz_pf 1 h rfl (by decide) (by decide) rfl (fun τ h => ?_)
  refine hz_na (by decide) ?_
  refine hz_nw 50 50 2611 h rfl rfl rfl (by decide) (by decide) rfl (fun τ h => ?_)
  refine hz_pf 1 h rfl (by decide) (by decide) rfl (fun τ h => ?_)
  refine hz_nw 51 51 2613 h rfl rfl rfl (by decide) (by decide) rfl (fun τ h => ?_)
  refine hw_call (hw_ob (h.is (by decide) (by decide) rfl) (z_X2_init_51 h)) (fun _ τ h => ?_)
  refine hz_pf 1 h rfl (by decide) (by decide) rfl (fun τ h => ?_)
  refine hz_nw 53 53 2621 h rfl rfl rfl (by decide) (by decide) rfl (fun τ h => ?_)
  refine hw_call (hw_ob (h.is (by decide) (by decide) rfl) (z_X3_init_53 h)) (fun _ τ h => ?_)
  refine hz_pf 1 h rfl (by decide) (by decide) rfl (fun τ h => ?_)
  refine hz_nw 61 61 2916 h rfl rfl rfl (by decide) (by decide) rfl (fun τ h => ?_)
  refine hw_call (hw_ob (h.is (by decide) (by decide) rfl) (z_X1_init_61 h)) (fun _ τ h => ?_)
  refine hz_pf 1 h rfl (by decide) (by decide) rfl (fun τ h => ?_)
  refine hz_pf 1 h rfl (by decide) (by decide) rfl (fun τ h => ?_)
  exact hw_ret h
def d_z_X12_init_69 (D : List (Nat × Nat × Int)) : List (Nat × Nat × Int) := hz_fill 74 1 41 (hz_fill 73 1 3 ((72, 0, 2) :: (69, 68, 103) :: (69, 67, 102) :: (69, 66, 101) :: (69, 62, 100) :: (69, 61, 99) :: (69, 60, 98) :: (69, 59, 97) :: (69, 58, 96) :: (69, 56, 95) :: (69, 55, 94) :: (69, 54, 93) :: (69, 51, 92) :: (69, 50, 91) :: (69, 49, 90) :: (69, 48, 89) :: (69, 47, 88) :: (69, 40, 87) :: (69, 39, 86) :: (69, 32, 85) :: (69, 31, 84) :: (69, 30, 83) :: (69, 29, 82) :: (69, 28, 81) :: (69, 27, 80) :: (69, 26, 79) :: (69, 25, 78) :: (69, 24, 77) :: (69, 23, 76) :: (69, 12, -1) :: (69, 10, 75) :: (75, 68, 32) :: (75, 67, 101) :: (75, 66, 101) :: (75, 65, 114) :: (75, 64, 104) :: (75, 63, 116) :: (75, 62, 32) :: (75, 61, 111) :: (75, 60, 119) :: (75, 59, 116) :: (75, 58, 32) :: (75, 57, 101) :: (75, 56, 110) :: (75, 55, 111) :: (75, 54, 32) :: (75, 53, 101) :: (75, 52, 107) :: (75, 51, 111) :: (75, 50, 114) :: (75, 49, 98) :: (75, 48, 32) :: (75, 47, 116) :: (75, 46, 115) :: (75, 45, 97) :: (75, 44, 108) :: (75, 43, 32) :: (75, 42, 115) :: (75, 41, 108) :: (75, 40, 108) :: (75, 39, 97) :: (75, 38, 102) :: (75, 37, 32) :: (75, 36, 110) :: (75, 35, 97) :: (75, 34, 112) :: (75, 33, 115) :: (75, 32, 32) :: (75, 31, 104) :: (75, 30, 103) :: (75, 29, 105) :: (75, 28, 104) :: (75, 27, 32) :: (75, 26, 119) :: (75, 25, 111) :: (75, 24, 108) :: (75, 23, 32) :: (75, 22, 116) :: (75, 21, 111) :: (75, 20, 110) :: (75, 19, 32) :: (75, 18, 114) :: (75, 17, 111) :: (75, 16, 32) :: (75, 15, 100) :: (75, 14, 110) :: (75, 13, 97) :: (75, 12, 32) :: (75, 11, 112) :: (75, 10, 111) :: (75, 9, 116) :: (75, 8, 115) :: (75, 7, 32) :: (75, 6, 108) :: (75, 5, 108) :: (75, 4, 97) :: (75, 3, 102) :: (75, 2, 32) :: (75, 1, 102) :: (75, 0, 105) :: (69, 8, 1) :: (69, 7, 74) :: (69, 6, 73) :: (69, 5, 72) :: (69, 4, 71) :: (69, 3, 20) :: (69, 0, 70) :: D))
set_option maxRecDepth 20000 in
theorem z_X12_init_69 {D : List (Nat × Nat × Int)} {ℓ : Nat × Nat} {ρ : Nat → Int} {σ : hf_S} (h : hz 69 3588 D ℓ ρ σ) : hw (f_X12_init 69) σ (fun _ τ => hz 103 626694 (d_z_X12_init_69 D) ℓ ρ τ) := by
  unfold f_X12_init d_z_X12_init_69
  refine hw_ob (h.is (by decide) (by decide) rfl) ?_
  refine hz_na (by decide) ?_
  refine hz_nw 70 70 3988 h rfl rfl rfl (by decide) (by decide) rfl (fun τ h => ?_)
  refine hz_pf 69 h rfl (by decide) (by decide) rfl (fun τ h => ?_)
  refine hz_pf 69 h rfl (by decide) (by decide) rfl (fun τ h => ?_)
  refine hz_na (by decide) ?_
  refine hz_nw 71 71 3991 h rfl rfl rfl (by decide) (by decide) rfl (fun τ h => ?_)
  refine hz_pf 69 h rfl (by decide) (by decide) rfl (fun τ h => ?_)
  refine hz_na (by decide) ?_
  refine hz_nw 72 72 3994 h rfl rfl rfl (by decide) (by decide) rfl (fun τ h => ?_)
  refine hz_pf 69 h rfl (by decide) (by decide) rfl (fun τ h => ?_)
  refine hz_na (by decide) ?_
  refine hz_nw 73 73 3997 h rfl rfl rfl (by decide) (by decide) rfl (fun τ h => ?_)
  refine hz_pf 69 h rfl (by decide) (by decide) rfl (fun τ h => ?_)
  refine hz_na (by decide) ?_
  refine hz_nw 74 74 4038 h rfl rfl rfl (by decide) (by decide) rfl (fun τ h => ?_)
  refine hz_pf 69 h rfl (by decide) (by decide) rfl (fun τ h => ?_)
  refine hz_pf 69 h rfl (by decide) (by decide) rfl (fun τ h => ?_)
  refine hz_na (by decide) ?_
  refine hz_nw 75 75 4107 h rfl rfl rfl (by decide) (by decide) rfl (fun τ h => ?_)
  refine hz_as 75 0 h rfl rfl (by decide) (by decide) rfl (by decide) (by decide) (fun τ h => ?_)
  refine hz_as 75 1 h rfl rfl (by decide) (by decide) rfl (by decide) (by decide) (fun τ h => ?_)
  refine hz_as 75 2 h rfl rfl (by decide) (by decide) rfl (by decide) (by decide) (fun τ h => ?_)
  refine hz_as 75 3 h rfl rfl (by decide) (by decide) rfl (by decide) (by decide) (fun τ h => ?_)
  refine hz_as 75 4 h rfl rfl (by decide) (by decide) rfl (by decide) (by decide) (fun τ h => ?_)
  refine hz_as 75 5 h rfl rfl (by decide) (by decide) rfl (by decide) (by decide) (fun τ h => ?_)
  refine hz_as 75 6 h rfl rfl (by decide) (by decide) rfl (by decide) (by decide) (fun τ h => ?_)
  refine hz_as 75 7 h rfl rfl (by decide) (by decide) rfl (by decide) (by decide) (fun τ h => ?_)
  refine hz_as 75 8 h rfl rfl (by decide) (by decide) rfl (by decide) (by decide) (fun τ h => ?_)
  refine hz_as 75 9 h rfl rfl (by decide) (by decide) rfl (by decide) (by decide) (fun τ h => ?_)
  refine hz_as 75 10 h rfl rfl (by decide) (by decide) rfl (by decide) (by decide) (fun τ h => ?_)
  refine hz_as 75 11 h rfl rfl (by decide) (by decide) rfl (by decide) (by decide) (fun τ h => ?_)
  refine hz_as 75 12 h rfl rfl (by decide) (by decide) rfl (by decide) (by decide) (fun τ h => ?_)
  refine hz_as 75 13 h rfl rfl (by decide) (by decide) rfl (by decide) (by decide) (fun τ h => ?_)
  refine hz_as 75 14 h rfl rfl (by decide) (by decide) rfl (by decide) (by decide) (fun τ h => ?_)
  refine hz_as 75 15 h rfl rfl (by decide) (by decide) rfl (by decide) (by decide) (fun τ h => ?_)
  refine hz_as 75 16 h rfl rfl (by decide) (by decide) rfl (by decide) (by decide) (fun τ h => ?_)
  refine hz_as 75 17 h rfl rfl (by decide) (by decide) rfl (by decide) (by decide) (fun τ h => ?_)
  refine hz_as 75 18 h rfl rfl (by decide) (by decide) rfl (by decide) (by decide) (fun τ h => ?_)
  refine hz_as 75 19 h rfl rfl (by decide) (by decide) rfl (by decide) (by decide) (fun τ h => ?_)
  refine hz_as 75 20 h rfl rfl (by decide) (by decide) rfl (by decide) (by decide) (fun τ h => ?_)
  refine hz_as 75 21 h rfl rfl (by decide) (by decide) rfl (by decide) (by decide) (fun τ h => ?_)
  refine hz_as 75 22 h rfl rfl (by decide) (by decide) rfl (by decide) (by decide) (fun τ h => ?_)
  refine hz_as 75 23 h rfl rfl (by decide) (by decide) rfl (by decide) (by decide) (fun τ h => ?_)
  refine hz_as 75 24 h rfl rfl (by decide) (by decide) rfl (by decide) (by decide) (fun τ h => ?_)
  refine hz_as 75 25 h rfl rfl (by decide) (by decide) rfl (by decide) (by decide) (fun τ h => ?_)
  refine hz_as 75 26 h rfl rfl (by decide) (by decide) rfl (by decide) (by decide) (fun τ h => ?_)
  refine hz_as 75 27 h rfl rfl (by decide) (by decide) rfl (by decide) (by decide) (fun τ h => ?_)
  refine hz_as 75 28 h rfl rfl (by decide) (by decide) rfl (by decide) (by decide) (fun τ h => ?_)
  refine hz_as 75 29 h rfl rfl (by decide) (by decide) rfl (by decide) (by decide) (fun τ h => ?_)
  refine hz_as 75 30 h rfl rfl (by decide) (by decide) rfl (by decide) (by decide) (fun τ h => ?_)
  refine hz_as 75 31 h rfl rfl (by decide) (by decide) rfl (by decide) (by decide) (fun τ h => ?_)
  refine hz_as 75 32 h rfl rfl (by decide) (by decide) rfl (by decide) (by decide) (fun τ h => ?_)
  refine hz_as 75 33 h rfl rfl (by decide) (by decide) rfl (by decide) (by decide) (fun τ h => ?_)
  refine hz_as 75 34 h rfl rfl (by decide) (by decide) rfl (by decide) (by decide) (fun τ h => ?_)
  refine hz_as 75 35 h rfl rfl (by decide) (by decide) rfl (by decide) (by decide) (fun τ h => ?_)
  refine hz_as 75 36 h rfl rfl (by decide) (by decide) rfl (by decide) (by decide) (fun τ h => ?_)
  refine hz_as 75 37 h rfl rfl (by decide) (by decide) rfl (by decide) (by decide) (fun τ h => ?_)
  refine hz_as 75 38 h rfl rfl (by decide) (by decide) rfl (by decide) (by decide) (fun τ h => ?_)
  refine hz_as 75 39 h rfl rfl (by decide) (by decide) rfl (by decide) (by decide) (fun τ h => ?_)
  refine hz_as 75 40 h rfl rfl (by decide) (by decide) rfl (by decide) (by decide) (fun τ h => ?_)
  refine hz_as 75 41 h rfl rfl (by decide) (by decide) rfl (by decide) (by decide) (fun τ h => ?_)
  refine hz_as 75 42 h rfl rfl (by decide) (by decide) rfl (by decide) (by decide) (fun τ h => ?_)
  refine hz_as 75 43 h rfl rfl (by decide) (by decide) rfl (by decide) (by decide) (fun τ h => ?_)
  refine hz_as 75 44 h rfl rfl (by decide) (by decide) rfl (by decide) (by decide) (fun τ h => ?_)
  refine hz_as 75 45 h rfl rfl (by decide) (by decide) rfl (by decide) (by decide) (fun τ h => ?_)
  refine hz_as 75 46 h rfl rfl (by decide) (by decide) rfl (by decide) (by decide) (fun τ h => ?_)
  refine hz_as 75 47 h rfl rfl (by decide) (by decide) rfl (by decide) (by decide) (fun τ h => ?_)
  refine hz_as 75 48 h rfl rfl (by decide) (by decide) rfl (by decide) (by decide) (fun τ h => ?_)
  refine hz_as 75 49 h rfl rfl (by decide) (by decide) rfl (by decide) (by decide) (fun τ h => ?_)
  refine hz_as 75 50 h rfl rfl (by decide) (by decide) rfl (by decide) (by decide) (fun τ h => ?_)
  refine hz_as 75 51 h rfl rfl (by decide) (by decide) rfl (by decide) (by decide) (fun τ h => ?_)
  refine hz_as 75 52 h rfl rfl (by decide) (by decide) rfl (by decide) (by decide) (fun τ h => ?_)
  refine hz_as 75 53 h rfl rfl (by decide) (by decide) rfl (by decide) (by decide) (fun τ h => ?_)
  refine hz_as 75 54 h rfl rfl (by decide) (by decide) rfl (by decide) (by decide) (fun τ h => ?_)
  refine hz_as 75 55 h rfl rfl (by decide) (by decide) rfl (by decide) (by decide) (fun τ h => ?_)
  refine hz_as 75 56 h rfl rfl (by decide) (by decide) rfl (by decide) (by decide) (fun τ h => ?_)
  refine hz_as 75 57 h rfl rfl (by decide) (by decide) rfl (by decide) (by decide) (fun τ h => ?_)
  refine hz_as 75 58 h rfl rfl (by decide) (by decide) rfl (by decide) (by decide) (fun τ h => ?_)
  refine hz_as 75 59 h rfl rfl (by decide) (by decide) rfl (by decide) (by decide) (fun τ h => ?_)
  refine hz_as 75 60 h rfl rfl (by decide) (by decide) rfl (by decide) (by decide) (fun τ h => ?_)
  refine hz_as 75 61 h rfl rfl (by decide) (by decide) rfl (by decide) (by decide) (fun τ h => ?_)
  refine hz_as 75 62 h rfl rfl (by decide) (by decide) rfl (by decide) (by decide) (fun τ h => ?_)
  refine hz_as 75 63 h rfl rfl (by decide) (by decide) rfl (by decide) (by decide) (fun τ h => ?_)
  refine hz_as 75 64 h rfl rfl (by decide) (by decide) rfl (by decide) (by decide) (fun τ h => ?_)
  refine hz_as 75 65 h rfl rfl (by decide) (by decide) rfl (by decide) (by decide) (fun τ h => ?_)
  refine hz_as 75 66 h rfl rfl (by decide) (by decide) rfl (by decide) (by decide) (fun τ h => ?_)
  refine hz_as 75 67 h rfl rfl (by decide) (by decide) rfl (by decide) (by decide) (fun τ h => ?_)
  refine hz_as 75 68 h rfl rfl (by decide) (by decide) rfl (by decide) (by decide) (fun τ h => ?_)
  refine hz_pf 69 h rfl (by decide) (by decide) rfl (fun τ h => ?_)
  refine hz_pf 69 h rfl (by decide) (by decide) rfl (fun τ h => ?_)
  refine hz_na (by decide) ?_
  refine hz_nw 76 76 4235 h rfl rfl rfl (by decide) (by decide) rfl (fun τ h => ?_)
  refine hz_pf 69 h rfl (by decide) (by decide) rfl (fun τ h => ?_)
  refine hz_na (by decide) ?_
  refine hz_nw 77 77 4363 h rfl rfl rfl (by decide) (by decide) rfl (fun τ h => ?_)
  refine hz_pf 69 h rfl (by decide) (by decide) rfl (fun τ h => ?_)
  refine hz_na (by decide) ?_
  refine hz_nw 78 78 4491 h rfl rfl rfl (by decide) (by decide) rfl (fun τ h => ?_)
  refine hz_pf 69 h rfl (by decide) (by decide) rfl (fun τ h => ?_)
  refine hz_na (by decide) ?_
  refine hz_nw 79 79 4515 h rfl rfl rfl (by decide) (by decide) rfl (fun τ h => ?_)
  refine hz_pf 69 h rfl (by decide) (by decide) rfl (fun τ h => ?_)
  refine hz_na (by decide) ?_
  refine hz_nw 80 80 4539 h rfl rfl rfl (by decide) (by decide) rfl (fun τ h => ?_)
  refine hz_pf 69 h rfl (by decide) (by decide) rfl (fun τ h => ?_)
  refine hz_na (by decide) ?_
  refine hz_nw 81 81 4563 h rfl rfl rfl (by decide) (by decide) rfl (fun τ h => ?_)
  refine hz_pf 69 h rfl (by decide) (by decide) rfl (fun τ h => ?_)
  refine hz_na (by decide) ?_
  refine hz_nw 82 82 4587 h rfl rfl rfl (by decide) (by decide) rfl (fun τ h => ?_)
  refine hz_pf 69 h rfl (by decide) (by decide) rfl (fun τ h => ?_)
  refine hz_na (by decide) ?_
  refine hz_nw 83 83 4611 h rfl rfl rfl (by decide) (by decide) rfl (fun τ h => ?_)
  refine hz_pf 69 h rfl (by decide) (by decide) rfl (fun τ h => ?_)
  refine hz_na (by decide) ?_
  refine hz_nw 84 84 4707 h rfl rfl rfl (by decide) (by decide) rfl (fun τ h => ?_)
  refine hz_pf 69 h rfl (by decide) (by decide) rfl (fun τ h => ?_)
  refine hz_na (by decide) ?_
  refine hz_nw 85 85 4803 h rfl rfl rfl (by decide) (by decide) rfl (fun τ h => ?_)
  refine hz_pf 69 h rfl (by decide) (by decide) rfl (fun τ h => ?_)
  refine hz_na (by decide) ?_
  refine hz_nw 86 86 4812 h rfl rfl rfl (by decide) (by decide) rfl (fun τ h => ?_)
  refine hz_pf 69 h rfl (by decide) (by decide) rfl (fun τ h => ?_)
  refine hz_na (by decide) ?_
  refine hz_nw 87 87 4876 h rfl rfl rfl (by decide) (by decide) rfl (fun τ h => ?_)
  refine hz_pf 69 h rfl (by decide) (by decide) rfl (fun τ h => ?_)
  refine hz_na (by decide) ?_
  refine hz_nw 88 88 5076 h rfl rfl rfl (by decide) (by decide) rfl (fun τ h => ?_)
  refine hz_pf 69 h rfl (by decide) (by decide) rfl (fun τ h => ?_)
  refine hz_na (by decide) ?_
  refine hz_nw 89 89 5276 h rfl rfl rfl (by decide) (by decide) rfl (fun τ h => ?_)
  refine hz_pf 69 h rfl (by decide) (by decide) rfl (fun τ h => ?_)
  refine hz_na (by decide) ?_
  refine hz_nw 90 90 5476 h rfl rfl rfl (by decide) (by decide) rfl (fun τ h => ?_)
  refine hz_pf 69 h rfl (by decide) (by decide) rfl (fun τ h => ?_)
  refine hz_na (by decide) ?_
  refine hz_nw 91 91 215601 h rfl rfl rfl (by decide) (by decide) rfl (fun τ h => ?_)
  refine hz_pf 69 h rfl (by decide) (by decide) rfl (fun τ h => ?_)
  refine hz_na (by decide) ?_
  refine hz_nw 92 92 215643 h rfl rfl rfl (by decide) (by decide) rfl (fun τ h => ?_)
  refine hz_pf 69 h rfl (by decide) (by decide) rfl (fun τ h => ?_)
  refine hz_na (by decide) ?_
  refine hz_nw 93 93 560248 h rfl rfl rfl (by decide) (by decide) rfl (fun τ h => ?_)
  refine hz_pf 69 h rfl (by decide) (by decide) rfl (fun τ h => ?_)
  refine hz_na (by decide) ?_
  refine hz_nw 94 94 560658 h rfl rfl rfl (by decide) (by decide) rfl (fun τ h => ?_)
  refine hz_pf 69 h rfl (by decide) (by decide) rfl (fun τ h => ?_)
  refine hz_na (by decide) ?_
  refine hz_nw 95 95 626194 h rfl rfl rfl (by decide) (by decide) rfl (fun τ h => ?_)
  refine hz_pf 69 h rfl (by decide) (by decide) rfl (fun τ h => ?_)
  refine hz_na (by decide) ?_
  refine hz_nw 96 96 626234 h rfl rfl rfl (by decide) (by decide) rfl (fun τ h => ?_)
  refine hz_pf 69 h rfl (by decide) (by decide) rfl (fun τ h => ?_)
  refine hz_na (by decide) ?_
  refine hz_nw 97 97 626274 h rfl rfl rfl (by decide) (by decide) rfl (fun τ h => ?_)
  refine hz_pf 69 h rfl (by decide) (by decide) rfl (fun τ h => ?_)
  refine hz_na (by decide) ?_
  refine hz_nw 98 98 626314 h rfl rfl rfl (by decide) (by decide) rfl (fun τ h => ?_)
  refine hz_pf 69 h rfl (by decide) (by decide) rfl (fun τ h => ?_)
  refine hz_na (by decide) ?_
  refine hz_nw 99 99 626354 h rfl rfl rfl (by decide) (by decide) rfl (fun τ h => ?_)
  refine hz_pf 69 h rfl (by decide) (by decide) rfl (fun τ h => ?_)
  refine hz_na (by decide) ?_
  refine hz_nw 100 100 626394 h rfl rfl rfl (by decide) (by decide) rfl (fun τ h => ?_)
  refine hz_pf 69 h rfl (by decide) (by decide) rfl (fun τ h => ?_)
  refine hz_na (by decide) ?_
  refine hz_nw 101 101 626494 h rfl rfl rfl (by decide) (by decide) rfl (fun τ h => ?_)
  refine hz_pf 69 h rfl (by decide) (by decide) rfl (fun τ h => ?_)
  refine hz_na (by decide) ?_
  refine hz_nw 102 102 626594 h rfl rfl rfl (by decide) (by decide) rfl (fun τ h => ?_)
  refine hz_pf 69 h rfl (by decide) (by decide) rfl (fun τ h => ?_)
  refine hz_na (by decide) ?_
  refine hz_nw 103 103 626694 h rfl rfl rfl (by decide) (by decide) rfl (fun τ h => ?_)
  refine hz_pf 69 h rfl (by decide) (by decide) rfl (fun τ h => ?_)
  refine hz_gf 69 72 h rfl (by decide) (by decide) rfl ?_ ?_
  · rfl
  refine hz_as 72 0 h rfl rfl (by decide) (by decide) rfl (by decide) (by decide) (fun τ h => ?_)
  exact z_X12_init_714 rfl h rfl rfl
-- z_X11_init_1 z_X12_init_69 n 103 s 626694
