/-! BITS, on -/
theorem pop_low {a : Nat} (h : a < 16384) (h0 : a ≠ 0) : pop 14 (a &&& (a - 1)) + 1 = pop 14 a := by
  have key : ∀ lo, pck lo 4096 = true → lo ≤ a → a < lo + 4096 → pop 14 (a &&& (a - 1)) + 1 = pop 14 a := by
    intro lo hb h1 h2
    have := pck_ok (k := a - lo) hb (by omega) (by omega)
    rw [show lo + (a - lo) = a by omega] at this
    exact this
  rcases (show a < 4096 ∨ (4096 ≤ a ∧ a < 8192) ∨ (8192 ≤ a ∧ a < 12288) ∨ 12288 ≤ a by omega) with q | q | q | q
  · exact key 0 pck_a (by omega) (by omega)
  · exact key 4096 pck_b q.1 (by omega)
  · exact key 8192 pck_c q.1 (by omega)
  · exact key 12288 pck_d q (by omega)
theorem pop_0 : ∀ f, pop f 0 = 0
  | 0 => rfl
  | f + 1 => by
    show 0 % 2 + pop f (0 / 2) = 0
    rw [show 0 / 2 = 0 from rfl, pop_0 f]
theorem pop_le : ∀ (f n a : Nat), a < 2 ^ n → pop f a ≤ n
  | 0, _, _, _ => Nat.zero_le _
  | f + 1, 0, a, h => by
    have : a = 0 := by omega
    subst this
    rw [pop_0]
    omega
  | f + 1, n + 1, a, h => by
    show a % 2 + pop f (a / 2) ≤ n + 1
    have := pop_le f n (a / 2) (by rw [Nat.pow_succ] at h; omega)
    omega
theorem C_bits4 (d : Nat) (σ : Sg) : ∀ (a c : Nat), a < 16384 → X_Mod_bitsOf_4 d (nI c) (nI a) σ = some (some (.int (nI (c + pop 14 a))), σ) := by
  intro a
  induction a using Nat.strongRecOn with
  | ind a ih =>
    intro c h
    rw [X_Mod_bitsOf_4_e]
    by_cases h0 : a = 0
    · subst h0
      rw [xm_br_t nI_0, pop_0, Nat.add_zero]
    · have hle : a &&& (a - 1) ≤ a - 1 := Nat.and_le_right
      rw [xm_br_f (nI_ne0 (by omega) (by omega)), nI_m1 (by omega), fa_and, nI_1, ih (a &&& (a - 1)) (by omega) (c + 1) (by omega), ← pop_low h h0, show c + 1 + pop 14 (a &&& (a - 1)) = c + (pop 14 (a &&& (a - 1)) + 1) by omega]
theorem C_bitsOf (d : Nat) {a : Nat} (σ : Sg) (h : a < 16384) : X_Mod_bitsOf d (nI a) σ = some (some (.int (nI (pop 14 a))), σ) := by
  rw [X_Mod_bitsOf_e]
  have := C_bits4 d σ a 0 h
  rw [Nat.zero_add] at this
  exact this
