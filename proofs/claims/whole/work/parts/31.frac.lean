/-! FRACTIONS in lowest terms -/
def NOTL : Int64 := (-9223372036854775808) - (-3 : Int32).toInt64
def BADL : Int64 := (-9223372036854775808) - (-2 : Int32).toInt64
noncomputable def frN (a b : Nat) (w : Int32) : Int64 := @ite Int64 (b = 0) (Classical.propDecidable _) NOTL (@ite Int64 (w = 0) (Classical.propDecidable _) (lN (a / Nat.gcd a b)) (lN (b / Nat.gcd a b)))
theorem lN_0 : lN 0 = 0 := rfl
theorem l_eq0 {a : Nat} (h : a < 2 ^ 63) : lg_cmp (lN a) 0 = 0 ↔ a = 0 := by
  rw [lg_cmp_eq, ← lN_0, pk_lEQ h (by omega)]
theorem l_ne0 {a : Nat} (h : a < 2 ^ 63) (h0 : a ≠ 0) : ¬ lN a = 0 := by
  rw [← lN_0, pk_lEQ h (by omega)]
  exact h0
theorem gcd_st (x y : Nat) : Nat.gcd y (x % y) = Nat.gcd x y := by
  rw [Nat.gcd_comm y, ← Nat.gcd_rec, Nat.gcd_comm]
theorem mod_half {y r : Nat} (h0 : 0 < r) (h : r < y) {k : Nat} (hk : y < 2 ^ (k + 1)) : y % r < 2 ^ k := by
  have h1 := Nat.mod_lt y h0
  have h2 := Nat.div_add_mod y r
  have h3 : 1 ≤ y / r := (Nat.one_le_div_iff h0).mpr (Nat.le_of_lt h)
  have h4 : r ≤ r * (y / r) := Nat.le_mul_of_pos_right r h3
  rw [Nat.pow_succ] at hk
  omega
theorem G_one {d : Nat} {x y i : Nat} {σ : Sg} (hx : x < 2 ^ 63) (hy : y < 2 ^ 63) (h0 : y ≠ 0) (hi : i < 200) : X_TO_greatestCommon_9 d (lN x) (lN y) (nI i) σ = X_TO_greatestCommon_9 d (lN y) (lN (x % y)) (nI (i + 1)) σ := by
  rw [X_TO_greatestCommon_9_e, xm_br_f, xm_br_f, xm_dvL_n (l_ne0 hy h0), pk_lRem hx (by omega) hy, nI_1]
  · rw [l_eq0 hy]; exact h0
  · show ¬ nI 200 ≤ nI i
    exact nI_ge hi (by omega)
theorem G_end {d : Nat} {x i : Nat} {σ : Sg} : X_TO_greatestCommon_9 d (lN x) (lN 0) (nI i) σ = some (some (.long (lN x)), σ) := by
  rw [X_TO_greatestCommon_9_e]
  by_cases h : (200 : Int32) ≤ nI i
  · rw [xm_br_t h]
  · rw [xm_br_f h, xm_br_t]
    rw [l_eq0 (by omega)]
theorem G_gc {d : Nat} {σ : Sg} : ∀ (k x y i : Nat), y < 2 ^ k → x < 2 ^ 63 → y < 2 ^ 63 → i + 2 * k ≤ 200 → X_TO_greatestCommon_9 d (lN x) (lN y) (nI i) σ = some (some (.long (lN (Nat.gcd x y))), σ)
  | 0, x, y, i, h, hx, hy, hi => by
    have : y = 0 := by omega
    subst this
    rw [G_end, Nat.gcd_zero_right]
  | k + 1, x, y, i, h, hx, hy, hi => by
    by_cases h0 : y = 0
    · subst h0
      rw [G_end, Nat.gcd_zero_right]
    · rw [G_one hx hy h0 (by omega)]
      have hm := Nat.mod_lt x (Nat.pos_of_ne_zero h0)
      by_cases h1 : x % y = 0
      · rw [h1, G_end, ← gcd_st, h1, Nat.gcd_zero_right]
      · rw [G_one hy (by omega) h1 (by omega), G_gc k (x % y) (y % (x % y)) (i + 1 + 1) (mod_half (by omega) hm h) (by omega) (Nat.lt_of_lt_of_le (Nat.mod_lt _ (by omega)) (by omega)) (by omega), gcd_st, gcd_st]
theorem F_gc (d : Nat) (σ : Sg) {x y : Nat} (hx : x < 2 ^ 63) (hy : y < 2 ^ 63) : X_TO_greatestCommon d (lN x) (lN y) σ = some (some (.long (lN (Nat.gcd x y))), σ) := by
  rw [X_TO_greatestCommon_e]
  exact G_gc 63 x y 0 hy hx hy (by omega)
theorem F_dv {d : Nat} {σ : Sg} : ∀ (y x : Nat), x < 2 ^ 63 → y < 2 ^ 63 → X_Mod_divisor_6 d (lN x) (lN y) σ = some (some (.long (lN (Nat.gcd x y))), σ) := by
  intro y
  induction y using Nat.strongRecOn with
  | ind y ih =>
    intro x hx hy
    rw [X_Mod_divisor_6_e]
    by_cases h0 : y = 0
    · subst h0
      rw [xm_br_t ((l_eq0 (by omega)).mpr rfl), Nat.gcd_zero_right]
    · rw [xm_br_f (fun h => h0 ((l_eq0 hy).mp h)), xm_dvL_n (l_ne0 hy h0), pk_lRem hx (by omega) hy]
      have hm := Nat.mod_lt x (Nat.pos_of_ne_zero h0)
      rw [ih (x % y) hm y hy (by omega), gcd_st]
theorem F_div (d : Nat) (σ : Sg) {x y : Nat} (hx : x < 2 ^ 63) (hy : y < 2 ^ 63) : X_Mod_divisor d (lN x) (lN y) σ = some (some (.long (lN (Nat.gcd x y))), σ) := by
  rw [X_Mod_divisor_e]
  exact F_dv y x hx hy
theorem gcd_lt {a b : Nat} (hb : b < 2 ^ 63) (h0 : b ≠ 0) : Nat.gcd a b < 2 ^ 63 ∧ 0 < Nat.gcd a b :=
  ⟨Nat.lt_of_le_of_lt (Nat.le_of_dvd (Nat.pos_of_ne_zero h0) (Nat.gcd_dvd_right a b)) hb, Nat.pos_of_ne_zero (fun h => h0 (Nat.eq_zero_of_gcd_eq_zero_right h))⟩
theorem F_frac (d : Nat) (σ : Sg) {a b : Nat} (w : Int32) (ha : a < 2 ^ 63) (hb : b < 2 ^ 63) : X_TO_fraction (d + 1) (lN a) (lN b) w σ = some (some (.long (frN a b w)), σ) := by
  rw [X_TO_fraction_e, F_gc d σ ha hb, xm_cL_s]
  unfold frN
  by_cases h0 : b = 0
  · subst h0
    rw [xm_br_t ((lg_cmp_le _ _).mpr (by rw [← lN_0, pk_lLE (by omega) (by omega)]; omega)), C_refusal, xm_cL_s, if_pos rfl]
    rfl
  · obtain ⟨g1, g2⟩ := gcd_lt (a := a) hb h0
    rw [if_neg h0, xm_br_f, xm_br_t]
    · by_cases hw : w = 0
      · rw [xm_br_t hw, if_pos hw, xm_dvL_n (l_ne0 g1 (by omega)), pk_lDiv ha g2 g1]
      · rw [xm_br_f hw, if_neg hw, xm_dvL_n (l_ne0 g1 (by omega)), pk_lDiv hb g2 g1]
    · rw [lg_cmp_gt, ← lN_0, pk_lLT (by omega) g1]
      exact g2
    · rw [lg_cmp_le, ← lN_0, pk_lLE hb (by omega)]
      omega
theorem F_part (d : Nat) (σ : Sg) {a b : Nat} (w : Int32) (ha : a < 2 ^ 63) (hb : b < 2 ^ 63) (h0 : b ≠ 0) : X_Mod_part (d + 1) (lN a) (lN b) w σ = some (some (.long (frN a b w)), σ) := by
  rw [X_Mod_part_e, F_div d σ ha hb]
  obtain ⟨g1, g2⟩ := gcd_lt (a := a) hb h0
  unfold frN
  rw [if_neg h0]
  by_cases hw : w = 0
  · rw [xm_br_t hw, if_pos hw, xm_cL_s, xm_dvL_n (l_ne0 g1 (by omega)), pk_lDiv ha g2 g1]
  · rw [xm_br_f hw, if_neg hw, xm_cL_s, xm_dvL_n (l_ne0 g1 (by omega)), pk_lDiv hb g2 g1]
theorem frN_scale {a b c : Nat} (hc : 0 < c) (w : Int32) : frN (a * c) (b * c) w = frN a b w := by
  unfold frN
  rw [Nat.gcd_mul_right, Nat.mul_div_mul_right _ _ hc, Nat.mul_div_mul_right _ _ hc]
  by_cases h0 : b = 0
  · subst h0
    rw [if_pos rfl, if_pos (Nat.zero_mul c)]
  · rw [if_neg h0, if_neg (Nat.mul_ne_zero h0 (by omega))]
theorem F_tpart (d : Nat) (σ : Sg) {a b : Nat} (w : Int32) (h : a + b < 2 ^ 63) : X_TO_part (d + 2) (lN a) (lN b) w σ = some (some (.long (frN a (a + b) w)), σ) := by
  rw [X_TO_part_e, lN_add, F_frac d σ w (by omega) h, xm_cL_s]
