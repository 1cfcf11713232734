/-! BASE: the checks of arguments, numbers, bits -/
noncomputable def bI (p : Prop) : Int32 := @ite Int32 p (Classical.propDecidable p) 1 0
theorem bI_t {p : Prop} (h : p) : bI p = 1 := if_pos h
theorem bI_f {p : Prop} (h : ¬ p) : bI p = 0 := if_neg h
theorem bI_c {p q : Prop} (h : p ↔ q) : bI p = bI q := by
  by_cases hp : p
  · rw [bI_t hp, bI_t (h.mp hp)]
  · rw [bI_f hp, bI_f (fun hq => hp (h.mpr hq))]
theorem bI_01 (p : Prop) : bI p = 0 ∨ bI p = 1 := by
  by_cases hp : p
  · exact Or.inr (bI_t hp)
  · exact Or.inl (bI_f hp)
theorem i10 : ¬ (1 : Int32) = 0 := by decide
theorem xm_bo_b (p : Prop) (k : Oz) : xm_bo (bI p) k = k := if_pos (bI_01 p)
theorem xm_bo_0 (k : Oz) : xm_bo 0 k = k := if_pos (Or.inl rfl)
theorem xm_bo_1 (k : Oz) : xm_bo 1 k = k := if_pos (Or.inr rfl)
theorem xm_br_b {p : Prop} {a b : Oz} {h : Decidable (bI p = 0)} (hp : p) : @xm_br (bI p = 0) h a b = b := xm_br_f (by rw [bI_t hp]; exact i10)
theorem xm_br_n {p : Prop} {a b : Oz} {h : Decidable (bI p = 0)} (hp : ¬ p) : @xm_br (bI p = 0) h a b = a := xm_br_t (bI_f hp)
theorem xm_cI_s (x : Int32) (σ : Sg) (k : Int32 → Sg → Oz) : xm_cI (some (some (.int x), σ)) k = k x σ := rfl
theorem xm_cL_s (x : Int64) (σ : Sg) (k : Int64 → Sg → Oz) : xm_cL (some (some (.long x), σ)) k = k x σ := rfl
theorem xm_cV_s (σ : Sg) (k : Sg → Oz) : xm_cV (some (none, σ)) k = k σ := rfl
theorem xm_ix_n {j n : Nat} {k : Nat → Oz} (h : j < n) (hn : n < 2 ^ 31) : xm_ix (nI j) n k = k j := by
  unfold xm_ix
  rw [if_neg (nI_in h hn), nI_clamp (by omega)]
theorem xm_dvL_n {y : Int64} {k : Oz} (h : ¬ y = 0) : xm_dvL y k = k := if_neg h
theorem xm_dv_n {y : Int32} {k : Oz} (h : ¬ y = 0) : xm_dv y k = k := if_neg h
-- reading a store
theorem sI_same (σ : Sg) (k j : Nat) (x : Int32) : (xm_sI σ k j x).1 k j = x := by
  unfold xm_sI upd
  simp
theorem sI_row (σ : Sg) {k j i : Nat} (x : Int32) (h : i ≠ j) : (xm_sI σ k j x).1 k i = σ.1 k i := by
  unfold xm_sI upd
  simp [h]
theorem sI_cell (σ : Sg) {k c : Nat} (j : Nat) (x : Int32) (h : c ≠ k) : (xm_sI σ k j x).1 c = σ.1 c := if_neg h
theorem sI_at (σ : Sg) (k j i : Nat) (x : Int32) : (xm_sI σ k j x).1 k i = if i = j then x else σ.1 k i := by
  unfold xm_sI upd
  simp
theorem sI_2 (σ : Sg) (k j : Nat) (x : Int32) : (xm_sI σ k j x).2 = σ.2 := rfl
theorem sL_same (σ : Sg) (k j : Nat) (x : Int64) : (xm_sL σ k j x).2 k j = x := by
  unfold xm_sL vp_updL
  simp
theorem sL_row (σ : Sg) {k j i : Nat} (x : Int64) (h : i ≠ j) : (xm_sL σ k j x).2 k i = σ.2 k i := by
  unfold xm_sL vp_updL
  simp [h]
theorem sL_cell (σ : Sg) {k c : Nat} (j : Nat) (x : Int64) (h : c ≠ k) : (xm_sL σ k j x).2 c = σ.2 c := if_neg h
theorem sL_at (σ : Sg) (k j i : Nat) (x : Int64) : (xm_sL σ k j x).2 k i = if i = j then x else σ.2 k i := by
  unfold xm_sL vp_updL
  simp
theorem sL_1 (σ : Sg) (k j : Nat) (x : Int64) : (xm_sL σ k j x).1 = σ.1 := rfl
theorem nI_m1 {z : Nat} (h : 1 ≤ z) : nI z - 1 = nI (z - 1) := pk_sub (a := z) (b := 1) h
-- the checks
/-- an int that is a place of a row of n -/
def inR (x : Int32) (n : Nat) : Prop := ∃ j, j < n ∧ x = nI j
theorem inR_iff {x : Int32} {n : Nat} (hn : n < 2 ^ 31) : inR x n ↔ 0 ≤ x.toInt ∧ x.toInt < n := by
  constructor
  · rintro ⟨j, hj, rfl⟩
    rw [nI_toInt (by omega)]
    omega
  · intro h
    refine ⟨x.toInt.toNat, by omega, ?_⟩
    apply Int32.toInt_inj.mp
    rw [nI_toInt (by omega)]
    omega
theorem C_in (d : Nat) (a b c : Int64) (σ : Sg) : X_Mod_in d a b c σ = some (some (.int (bI (b ≤ a ∧ a ≤ c))), σ) := by
  rw [X_Mod_in_e]
  by_cases h1 : a < b
  · rw [xm_br_t ((lg_cmp_lt a b).mpr h1), bI_f]
    rintro ⟨h, -⟩
    exact lg_lt_not_le h1 h
  · rw [xm_br_f (fun h => h1 ((lg_cmp_lt a b).mp h))]
    have h1' : b ≤ a := by rw [fa_le64]; rw [fa_lt64] at h1; omega
    by_cases h2 : c < a
    · rw [xm_br_t ((lg_cmp_gt a c).mpr h2), bI_f]
      rintro ⟨-, h⟩
      exact lg_lt_not_le h2 h
    · rw [xm_br_f (fun h => h2 ((lg_cmp_gt a c).mp h)), bI_t]
      exact ⟨h1', by rw [fa_le64]; rw [fa_lt64] at h2; omega⟩
theorem C_in32 (d : Nat) (x lo hi : Int32) (σ : Sg) : X_Mod_in d x.toInt64 lo.toInt64 hi.toInt64 σ = some (some (.int (bI (lo ≤ x ∧ x ≤ hi))), σ) := by
  rw [C_in, bI_c (by rw [fa_wide_le, fa_wide_le])]
theorem C_isTwo (d : Nat) (x : Int32) (σ : Sg) : X_Mod_isTwo (d + 1) x σ = some (some (.int (bI (inR x 2))), σ) := by
  rw [X_Mod_isTwo_e]
  have h := C_in32 d x 0 1 σ
  rw [show ((0 : Int32).toInt64) = 0 from rfl, show ((1 : Int32).toInt64) = 1 from rfl] at h
  rw [h, xm_cI_s, xm_bo_b, bI_c]
  rw [inR_iff (by omega), fa_le, fa_le]
  show (0 : Int) ≤ x.toInt ∧ x.toInt ≤ 1 ↔ _
  omega
theorem C_isBit (d : Nat) (x : Int32) (σ : Sg) : X_TO_isBit d x σ = some (some (.int (bI (inR x 2))), σ) := by
  rw [X_TO_isBit_e]
  by_cases h0 : x = 0
  · rw [xm_br_t h0, bI_t]
    exact ⟨0, by omega, h0⟩
  · rw [xm_br_f h0]
    by_cases h1 : x = 1
    · rw [xm_br_t h1, bI_t]
      exact ⟨1, by omega, h1⟩
    · rw [xm_br_f h1, bI_f]
      rintro ⟨j, hj, e⟩
      rcases (show j = 0 ∨ j = 1 by omega) with rfl | rfl
      · exact h0 e
      · exact h1 e
theorem C_isUpTo (d : Nat) (x lo hi : Int32) (σ : Sg) : X_TO_isUpTo d x lo hi σ = some (some (.int (bI (lo ≤ x ∧ x ≤ hi))), σ) := by
  rw [X_TO_isUpTo_e]
  by_cases h1 : x < lo
  · rw [xm_br_t h1, bI_f]
    rintro ⟨h, -⟩
    rw [fa_lt] at h1; rw [fa_le] at h
    omega
  · rw [xm_br_f h1]
    by_cases h2 : hi < x
    · rw [xm_br_t h2, bI_f]
      rintro ⟨-, h⟩
      rw [fa_lt] at h2; rw [fa_le] at h
      omega
    · rw [xm_br_f h2, bI_t]
      exact ⟨fa_of_nlt h1, fa_of_nlt h2⟩
theorem C_refusal (d : Nat) (x : Int32) (σ : Sg) : X_TO_refusal d x σ = some (some (.long ((-9223372036854775808) - x.toInt64)), σ) := X_TO_refusal_e d x σ
theorem C_holds {n : Nat} (d : Nat) (x : Int32) (σ : Sg) (hn : n < 2 ^ 31) (h : σ.1 1 1 = nI n) : X_Net_holds d x σ = some (some (.int (bI (inR x n))), σ) := by
  rw [X_Net_holds_e, h]
  by_cases h0 : x < 0
  · rw [xm_br_t h0, bI_f]
    rw [inR_iff hn]
    rw [fa_lt] at h0
    have : x.toInt < 0 := h0
    omega
  · rw [xm_br_f h0]
    rw [fa_lt] at h0
    have h0 : ¬ x.toInt < 0 := h0
    by_cases h1 : nI n ≤ x
    · rw [xm_br_t h1, bI_f]
      rw [inR_iff hn]
      rw [fa_le, nI_toInt hn] at h1
      omega
    · rw [xm_br_f h1, bI_t]
      rw [inR_iff hn]
      rw [fa_le, nI_toInt hn] at h1
      omega
theorem C_isPerson {n : Nat} (d : Nat) (x : Int32) (σ : Sg) (h0 : 0 < n) (hn : n < 2 ^ 31) (h : σ.1 39 5 = nI n) : X_Mod_isPerson (d + 1) x σ = some (some (.int (bI (inR x n))), σ) := by
  rw [X_Mod_isPerson_e, h]
  have e : nI n - 1 = nI (n - 1) := pk_sub (a := n) (b := 1) (by omega)
  have h9 := C_in32 d x 0 (nI n - 1) σ
  rw [show ((0 : Int32).toInt64) = 0 from rfl] at h9
  rw [h9, xm_cI_s, xm_bo_b, bI_c]
  rw [inR_iff hn, e, fa_le, fa_le, nI_toInt (by omega)]
  show (0 : Int) ≤ x.toInt ∧ _ ↔ _
  omega
-- bits
theorem sh_1 : ∀ k, k < 31 → (1 : Int32) <<< (nI k &&& 31) = nI (2 ^ k) := by decide +kernel
theorem s_l : ∀ n, n < 32 → ((nI n &&& 31).toBitVec.smod 32).toNat = n := by decide +kernel
theorem bt_1 {a k : Nat} (ha : a < 2 ^ 31) (hk : k < 31) : ((nI a >>> (nI k &&& 31)) &&& 1) = nI (a / 2 ^ k % 2) := by
  rw [pk_shrN ha _ k (s_l k (by omega))]
  exact fa_mask (a / 2 ^ k) 1
theorem bt_n (a k : Nat) : a / 2 ^ k % 2 = (a.testBit k).toNat := by
  rw [Nat.testBit_eq_decide_div_mod_eq]
  rcases Nat.mod_two_eq_zero_or_one (a / 2 ^ k) with h | h <;> rw [h] <;> rfl
theorem bt_t {a k : Nat} (ha : a < 2 ^ 31) (hk : k < 31) : ((nI a >>> (nI k &&& 31)) &&& 1) = 1 ↔ a.testBit k = true := by
  rw [bt_1 ha hk, bt_n]
  cases a.testBit k
  · exact ⟨fun h => absurd h.symm i10, fun h => by cases h⟩
  · exact ⟨fun _ => rfl, fun _ => rfl⟩
def pop : Nat → Nat → Nat
  | 0, _ => 0
  | f + 1, k => k % 2 + pop f (k / 2)
