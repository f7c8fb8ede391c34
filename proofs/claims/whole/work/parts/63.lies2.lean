/-! LIES: bits -/
theorem i32_nat {a : Nat} (h : a < 2147483648) : (Int32.ofInt (a : Int)).toBitVec.toNat = a := by
  show (BitVec.ofInt 32 (a : Int)).toNat = a
  rw [BitVec.toNat_ofInt]
  omega
theorem hf_and_nat {a b : Nat} (ha : a < 2147483648) (hb : b < 2147483648) : hf_and (a : Int) (b : Int) = ((a &&& b : Nat) : Int) := by
  unfold hf_and
  show ((Int32.ofInt (a : Int)).toBitVec &&& (Int32.ofInt (b : Int)).toBitVec).toInt = _
  have h1 : ((Int32.ofInt (a : Int)).toBitVec &&& (Int32.ofInt (b : Int)).toBitVec).toNat = a &&& b := by
    rw [BitVec.toNat_and, i32_nat ha, i32_nat hb]
  have h2 : a &&& b ≤ a := Nat.and_le_left
  rw [BitVec.toInt_eq_toNat_of_lt (by rw [h1]; omega), h1]
theorem hf_or_nat {a b : Nat} (ha : a < 65536) (hb : b < 65536) : hf_or (a : Int) (b : Int) = ((a ||| b : Nat) : Int) := by
  unfold hf_or
  show ((Int32.ofInt (a : Int)).toBitVec ||| (Int32.ofInt (b : Int)).toBitVec).toInt = _
  have h1 : ((Int32.ofInt (a : Int)).toBitVec ||| (Int32.ofInt (b : Int)).toBitVec).toNat = a ||| b := by
    rw [BitVec.toNat_or, i32_nat (by omega), i32_nat (by omega)]
  have h2 : a ||| b < 2 ^ 16 := Nat.or_lt_two_pow ha hb
  rw [BitVec.toInt_eq_toNat_of_lt (by rw [h1]; omega), h1]
theorem hf_shr1_nat {a : Nat} (ha : a < 2147483648) : hf_shr (a : Int) 1 = ((a / 2 : Nat) : Int) := by
  unfold hf_shr
  have e : (Int32.ofInt 1 &&& 31 : Int32) = 1 := by decide
  rw [e]
  show ((Int32.ofInt (a : Int)).toBitVec.sshiftRight' ((1 : Int32).toBitVec.smod 32)).toInt = _
  have e2 : ((1 : Int32).toBitVec.smod 32) = 1#32 := by decide
  rw [e2]
  show ((Int32.ofInt (a : Int)).toBitVec.sshiftRight 1).toInt = _
  have hm : (Int32.ofInt (a : Int)).toBitVec.msb = false := by
    rw [BitVec.msb_eq_decide, i32_nat ha]
    exact decide_eq_false (by omega)
  rw [BitVec.sshiftRight_eq_of_msb_false hm]
  have h1 : ((Int32.ofInt (a : Int)).toBitVec >>> 1).toNat = a / 2 := by
    rw [BitVec.toNat_ushiftRight, i32_nat ha, Nat.shiftRight_eq_div_pow]
  rw [BitVec.toInt_eq_toNat_of_lt (by rw [h1]; omega), h1]
theorem alive_dig (y t : Nat) (ht : t < 8) : ((y ||| (y / 2)) &&& 21845) / 4 ^ t % 4 = alv y t := by
  have e4 : 4 ^ t = 2 ^ (2 * t) := by rw [Nat.pow_mul]
  have hM : 21845 >>> (2 * t) % 2 ^ 2 = 1 := by
    have : t = 0 ∨ t = 1 ∨ t = 2 ∨ t = 3 ∨ t = 4 ∨ t = 5 ∨ t = 6 ∨ t = 7 := by omega
    rcases this with rfl | rfl | rfl | rfl | rfl | rfl | rfl | rfl <;> decide
  have h2 : (y / 2) >>> (2 * t) = (y >>> (2 * t)) / 2 := by
    rw [Nat.shiftRight_eq_div_pow, Nat.shiftRight_eq_div_pow, Nat.div_div_eq_div_mul, Nat.div_div_eq_div_mul, Nat.mul_comm]
  have hz : dq y t = (y >>> (2 * t)) % 4 := by
    unfold dq
    rw [e4, Nat.shiftRight_eq_div_pow]
  unfold alv
  rw [hz, e4, ← Nat.shiftRight_eq_div_pow, Nat.shiftRight_and_distrib, Nat.shiftRight_or_distrib, show (4 : Nat) = 2 ^ 2 from rfl, Nat.and_mod_two_pow, Nat.or_mod_two_pow, hM, h2]
  generalize y >>> (2 * t) = z
  have hd : ∀ r q : Fin 4, (q : Nat) % 2 = (r : Nat) / 2 → (((r : Nat) ||| (q : Nat)) &&& 1) = if (r : Nat) = 0 then 0 else 1 := by decide
  exact hd ⟨z % 2 ^ 2, Nat.mod_lt _ (by decide)⟩ ⟨z / 2 % 2 ^ 2, Nat.mod_lt _ (by decide)⟩ (by show z / 2 % 4 % 2 = z % 4 / 2; omega)
theorem alive_nat {y : Nat} (h : y < 65536) : (y ||| (y / 2)) &&& 21845 = blw y 8 := by
  have hle : (y ||| (y / 2)) &&& 21845 ≤ 21845 := Nat.and_le_right
  rw [← own8 (y := (y ||| (y / 2)) &&& 21845) (by omega)]
  exact vlN_congr 8 (fun t ht => alive_dig y t ht)
/-- Java's count of bits -/
def bcI (x : Int) : Int :=
  let a := x - hf_and (hf_ushr x 1) 1431655765
  let b := hf_and a 858993459 + hf_and (hf_ushr a 2) 858993459
  let c := hf_and (b + hf_ushr b 4) 252645135
  let d := c + hf_ushr c 8
  let e := d + hf_ushr d 16
  hf_and e 63
theorem d_J6_bitCount {T : gT} {ν : gN} (x : Int) : gd (g_J6_bitCount x) T ν (bcI x) := rfl
def chkB : Bool := (List.range 256).all (fun m => decide (bcI ((vlN 4 (fun t => m / 2 ^ t % 2) 8 : Nat) : Int) = ((cnN (fun t => m / 2 ^ t % 2) 8 : Nat) : Int)))
set_option maxRecDepth 100000 in
theorem chkB_ok : chkB = true := by decide +kernel
theorem bc_alive (y : Nat) : bcI ((blw y 8 : Nat) : Int) = ((cnN (alv y) 8 : Nat) : Int) := by
  have hd : ∀ t, t < 8 → vlN 2 (alv y) 8 / 2 ^ t % 2 = alv y t := vlN_dig (by decide) 8 (fun t _ => by have := alv01 y t; omega)
  have hl : vlN 2 (alv y) 8 < 2 ^ 8 := vlN_lt 8 (fun t _ => by have := alv01 y t; omega)
  have h1 := of_decide_eq_true (List.all_eq_true.mp chkB_ok (vlN 2 (alv y) 8) (List.mem_range.mpr hl))
  rw [vlN_congr (D' := alv y) 8 hd, cnN_congr (D' := alv y) 8 hd] at h1
  exact h1
theorem hf_and_mask {a s : Nat} (ha : a < 65536) (hs : 1 ≤ s ∧ s ≤ 7) : hf_and (a : Int) (hf_shl 1 (2 * (s : Int)) - 1) = ((a % 4 ^ s : Nat) : Int) := by
  have e : hf_shl 1 (2 * (s : Int)) - 1 = ((2 ^ (2 * s) - 1 : Nat) : Int) := by
    have : s = 1 ∨ s = 2 ∨ s = 3 ∨ s = 4 ∨ s = 5 ∨ s = 6 ∨ s = 7 := by omega
    rcases this with rfl | rfl | rfl | rfl | rfl | rfl | rfl <;> decide
  have hp : 2 ^ (2 * s) ≤ 2 ^ 14 := Nat.pow_le_pow_right (by decide) (by omega)
  rw [e, hf_and_nat (by omega) (by omega), Nat.and_two_pow_sub_one_eq_mod, Nat.pow_mul]
theorem i2b_ok {v : Int} (h : 0 ≤ v ∧ v ≤ 100) : hf_i2b v = v := by
  have hd : ∀ k : Fin 101, hf_i2b ((k : Nat) : Int) = ((k : Nat) : Int) := by decide +kernel
  have := hd ⟨v.toNat, by omega⟩
  rw [show (((⟨v.toNat, by omega⟩ : Fin 101) : Nat) : Int) = v by show ((v.toNat : Nat) : Int) = v; omega] at this
  exact this
