/-! ONE BIT SET in a set of persons -/
def ks (t b v : Nat) : Nat := t - t / 2 ^ b % 2 * 2 ^ b + v * 2 ^ b
def ks_c1 (t b : Nat) : Bool := (nI t ||| nI (2 ^ b)) == nI (ks t b 1) && (nI t &&& (nI (2 ^ b) ^^^ (-1))) == nI (ks t b 0) && (nI t ^^^ nI (2 ^ b)) == nI (ks t b (1 - t / 2 ^ b % 2)) && ((nI t &&& (nI (2 ^ b) ^^^ (-1))) ||| (nI 0 <<< (nI b &&& 31))) == nI (ks t b 0) && ((nI t &&& (nI (2 ^ b) ^^^ (-1))) ||| (nI 1 <<< (nI b &&& 31))) == nI (ks t b 1)
theorem ks_1 : ((List.range 512).all fun t => (List.range 9).all fun b => ks_c1 t b) = true := by decide +kernel
def ks_c2 (t b q : Nat) : Bool := (ks t b 0).testBit q == (if q = b then false else t.testBit q) && (ks t b 1).testBit q == (if q = b then true else t.testBit q)
theorem ks_2 : ((List.range 512).all fun t => (List.range 9).all fun b => (List.range 9).all fun q => ks_c2 t b q) = true := by decide +kernel
theorem ks_ok {t b : Nat} (ht : t < 512) (hb : b < 9) : (nI t ||| nI (2 ^ b)) = nI (ks t b 1) ∧ (nI t &&& (nI (2 ^ b) ^^^ (-1))) = nI (ks t b 0) ∧ (nI t ^^^ nI (2 ^ b)) = nI (ks t b (1 - t / 2 ^ b % 2)) ∧ ((nI t &&& (nI (2 ^ b) ^^^ (-1))) ||| (nI 0 <<< (nI b &&& 31))) = nI (ks t b 0) ∧ ((nI t &&& (nI (2 ^ b) ^^^ (-1))) ||| (nI 1 <<< (nI b &&& 31))) = nI (ks t b 1) := by
  have h := List.all_eq_true.mp (List.all_eq_true.mp ks_1 t (List.mem_range.mpr ht)) b (List.mem_range.mpr hb)
  unfold ks_c1 at h
  simp only [Bool.and_eq_true, beq_iff_eq] at h
  exact ⟨h.1.1.1.1, h.1.1.1.2, h.1.1.2, h.1.2, h.2⟩
theorem ks_bit {t b q v : Nat} (ht : t < 512) (hb : b < 9) (hq : q < 9) (hv : v < 2) : (ks t b v).testBit q = if q = b then decide (v = 1) else t.testBit q := by
  have h := List.all_eq_true.mp (List.all_eq_true.mp (List.all_eq_true.mp ks_2 t (List.mem_range.mpr ht)) b (List.mem_range.mpr hb)) q (List.mem_range.mpr hq)
  unfold ks_c2 at h
  simp only [Bool.and_eq_true, beq_iff_eq] at h
  rcases (show v = 0 ∨ v = 1 by omega) with rfl | rfl
  · rw [h.1]; rfl
  · rw [h.2]; rfl
theorem ks_same {t b v : Nat} (hv : t / 2 ^ b % 2 = v) : ks t b v = t := by
  unfold ks
  rw [hv]
  have h1 : v * 2 ^ b ≤ t := by
    subst hv
    have h2 : t / 2 ^ b % 2 ≤ t / 2 ^ b := Nat.mod_le _ _
    exact Nat.le_trans (Nat.mul_le_mul_right _ h2) (Nat.div_mul_le_self t (2 ^ b))
  omega
theorem ks_lt {n t b v : Nat} (hn : n ≤ 9) (ht : t < 2 ^ n) (hb : b < n) (hv : v < 2) : ks t b v < 2 ^ n := by
  have ht9 := pow9 hn ht
  have h0 : ks t b v < 512 := by
    unfold ks
    have h1 : t / 2 ^ b % 2 * 2 ^ b ≤ t := Nat.le_trans (Nat.mul_le_mul_right _ (Nat.mod_le _ _)) (Nat.div_mul_le_self t (2 ^ b))
    have key : ∀ t, t < 512 → ∀ b, b < 9 → t - t / 2 ^ b % 2 * 2 ^ b + 2 ^ b < 512 := by decide +kernel
    have := key t ht9 b (by omega)
    have : v * 2 ^ b ≤ 1 * 2 ^ b := Nat.mul_le_mul_right _ (by omega)
    omega
  apply Nat.lt_pow_two_of_testBit
  intro q hq
  by_cases q9 : q < 9
  · rw [ks_bit ht9 (by omega) q9 hv, if_neg (by omega)]
    exact Nat.testBit_lt_two_pow (Nat.lt_of_lt_of_le ht (Nat.pow_le_pow_right (by omega) hq))
  · exact Nat.testBit_lt_two_pow (Nat.lt_of_lt_of_le h0 (Nat.le_trans (by decide : 512 ≤ 2 ^ 9) (Nat.pow_le_pow_right (by omega) (by omega))))
