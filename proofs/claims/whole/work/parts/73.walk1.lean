/-! WALKS: the numbers -/
theorem sm_sw (f : Nat → Nat → Nat) (n : Nat) : ∀ m, sm (fun q => sm (fun p => f p q) n) m = sm (fun p => sm (fun q => f p q) m) n
  | 0 => (sm_0 (fun _ _ => rfl)).symm
  | m + 1 => by
    show sm (fun q => sm (fun p => f p q) n) m + sm (fun p => f p m) n = sm (fun p => sm (fun q => f p q) m + f p m) n
    rw [sm_sw f n m, sm_add]
theorem sm_mn {f g : Nat → Nat} : ∀ {n : Nat}, (∀ i, i < n → f i ≤ g i) → sm f n ≤ sm g n
  | 0, _ => Nat.le_refl _
  | n + 1, h => by
    show sm f n + f n ≤ sm g n + g n
    have := sm_mn (f := f) (g := g) (n := n) (fun i hi => h i (by omega))
    have := h n (by omega)
    omega
theorem sm_one {f : Nat → Nat} {q : Nat} : ∀ {n : Nat}, q < n → (∀ i, i < n → i ≠ q → f i = 0) → sm f n = f q
  | 0, h, _ => by omega
  | n + 1, h, hz => by
    show sm f n + f n = f q
    by_cases e : q = n
    · subst e
      rw [sm_0 (fun i hi => hz i (by omega) (by omega))]
      omega
    · rw [sm_one (n := n) (by omega) (fun i hi => hz i (by omega)), hz n (by omega) (Ne.symm e)]
      rfl
theorem sm_ge {f : Nat → Nat} {q : Nat} : ∀ {n : Nat}, q < n → f q ≤ sm f n
  | 0, h => by omega
  | n + 1, h => by
    show f q ≤ sm f n + f n
    by_cases e : q = n
    · subst e; omega
    · have := sm_ge (f := f) (q := q) (n := n) (by omega)
      omega
theorem cnt_sh (p : Nat → Bool) : ∀ n, cnt p (n + 1) = (p 0).toNat + cnt (fun i => p (i + 1)) n
  | 0 => by
    show 0 + (p 0).toNat = (p 0).toNat + 0
    omega
  | n + 1 => by
    rw [cnt_s, cnt_sh p n, cnt_s]
    omega
theorem pop_cnt : ∀ (f a : Nat), pop f a = cnt (fun i => a.testBit i) f
  | 0, _ => rfl
  | f + 1, a => by
    rw [cnt_sh]
    show a % 2 + pop f (a / 2) = _
    rw [pop_cnt f (a / 2)]
    congr 1
    · rw [Nat.testBit_zero]
      rcases Nat.mod_two_eq_zero_or_one a with e | e <;> rw [e] <;> rfl
    · exact cnt_c (fun i _ => (Nat.testBit_succ a i).symm)
theorem pop_bits {n a : Nat} (hn : n ≤ 14) (h : a < 2 ^ n) : cnt (fun i => a.testBit i) n = pop 14 a := by
  rw [pop_cnt]
  exact (cnt_gap (p := fun i => a.testBit i) hn (fun z h1 _ => Nat.testBit_lt_two_pow (Nat.lt_of_lt_of_le h (Nat.pow_le_pow_right (by omega) h1)))).symm
theorem d840 : ∀ k, k < 9 → k ≠ 0 → k * (840 / k) = 840 := by decide
/-- what comes from p to q, of a there -/
def yF (T : Nat → Nat) (A : Nat → Nat) (p q : Nat) : Nat := if pop 14 (T p) = 0 then (if p = q then A p * 840 else 0) else if (T p).testBit q then A p * (840 / pop 14 (T p)) else 0
/-- where a walk is, behind i steps -/
def wkF (T : Nat → Nat) (n : Nat) (A0 : Nat → Nat) : Nat → Nat → Nat
  | 0, p => A0 p
  | i + 1, q => sm (fun p => yF T (wkF T n A0 i) p q) n
theorem yF_row {T : Nat → Nat} {n : Nat} (hn : n ≤ 9) (hT : ∀ p, p < n → T p < 2 ^ n ∧ pop 14 (T p) ≤ 8) (A : Nat → Nat) {p : Nat} (hp : p < n) : sm (fun q => yF T A p q) n = A p * 840 := by
  unfold yF
  by_cases e : pop 14 (T p) = 0
  · simp only [if_pos e]
    rw [sm_one (q := p) hp (fun i _ hi => if_neg (Ne.symm hi)), if_pos rfl]
  · simp only [if_neg e]
    have h1 : sm (fun q => if (T p).testBit q = true then A p * (840 / pop 14 (T p)) else 0) n = (A p * (840 / pop 14 (T p))) * cnt (fun q => (T p).testBit q) n := by
      unfold cnt
      rw [← sm_mul]
      refine sm_c (fun i _ => ?_)
      show (if (T p).testBit i = true then A p * (840 / pop 14 (T p)) else 0) = A p * (840 / pop 14 (T p)) * ((T p).testBit i).toNat
      cases (T p).testBit i <;> simp
    rw [h1, pop_bits (by omega) (hT p hp).1, Nat.mul_assoc, Nat.mul_comm (840 / _), d840 _ (by have := (hT p hp).2; omega) e]
theorem wk_tot {T : Nat → Nat} {n : Nat} (hn : n ≤ 9) (hT : ∀ p, p < n → T p < 2 ^ n ∧ pop 14 (T p) ≤ 8) (A0 : Nat → Nat) : ∀ i, sm (wkF T n A0 i) n = sm A0 n * 840 ^ i
  | 0 => by
    rw [Nat.pow_zero, Nat.mul_one]
    rfl
  | i + 1 => by
    show sm (fun q => sm (fun p => yF T (wkF T n A0 i) p q) n) n = _
    rw [sm_sw, sm_c (fun p hp => yF_row hn hT (wkF T n A0 i) hp), Nat.pow_succ, ← Nat.mul_assoc, ← wk_tot hn hT A0 i, Nat.mul_comm, ← sm_mul]
    exact sm_c (fun p _ => Nat.mul_comm _ _)
/-- the class's share of it: the same by a unit -/
def xF (T : Nat → Nat) (N : Nat → Nat) (p q : Nat) : Nat := if pop 14 (T p) = 0 then (if p = q then N p else 0) else if (T p).testBit q then N p / pop 14 (T p) else 0
theorem xF_y {T : Nat → Nat} {A N : Nat → Nat} {M p : Nat} (q : Nat) (h8 : pop 14 (T p) ≤ 8) (hN : N p = A p * (840 * M)) : xF T N p q = yF T A p q * M := by
  unfold xF yF
  by_cases e : pop 14 (T p) = 0
  · rw [if_pos e, if_pos e]
    by_cases e2 : p = q
    · rw [if_pos e2, if_pos e2, hN, Nat.mul_assoc]
    · rw [if_neg e2, if_neg e2, Nat.zero_mul]
  · rw [if_neg e, if_neg e]
    cases (T p).testBit q with
    | false => simp
    | true =>
      simp only [if_true]
      rw [hN]
      have := d840 (pop 14 (T p)) (by omega) e
      generalize 840 / pop 14 (T p) = z at this ⊢
      rw [show A p * (840 * M) = pop 14 (T p) * (A p * z * M) by
        rw [← this]
        simp only [Nat.mul_assoc, Nat.mul_comm, Nat.mul_left_comm], Nat.mul_div_cancel_left _ (by omega)]
/-- the reference adds in another order -/
theorem yF_z {T : Nat → Nat} {n : Nat} (A : Nat → Nat) {q : Nat} (hq : q < n) (hT : ∀ p, p < n → pop 14 (T p) = 0 → T p = 0) : sm (fun p => yF T A p q) n = (if pop 14 (T q) = 0 then A q * 840 else 0) + sm (fun p => if (T p).testBit q = true then A p * (840 / pop 14 (T p)) else 0) n := by
  have e : sm (fun p => yF T A p q) n = sm (fun p => (if p = q then (if pop 14 (T q) = 0 then A q * 840 else 0) else 0) + (if (T p).testBit q = true then A p * (840 / pop 14 (T p)) else 0)) n := by
    refine sm_c (fun p hp => ?_)
    unfold yF
    by_cases e : pop 14 (T p) = 0
    · rw [if_pos e, hT p hp e]
      by_cases e2 : p = q
      · subst e2
        rw [if_pos rfl, if_pos rfl, hT p hp e]
        simp [pop_0]
      · simp [e2]
    · rw [if_neg e]
      by_cases e2 : p = q
      · subst e2
        rw [if_pos rfl, if_neg e, Nat.zero_add]
      · rw [if_neg e2, Nat.zero_add]
  rw [e, sm_add, sm_one (f := fun p => if p = q then (if pop 14 (T q) = 0 then A q * 840 else 0) else 0) (q := q) hq (fun i _ hi => if_neg hi), if_pos rfl]
theorem NtA_nz {n K : Nat} {T : Nat → Nat} {σ : Sg} (h : NtA n T K σ) {p : Nat} (hp : p < 9) (e : pop 14 (T p) = 0) : T p = 0 := pop_pos 14 (T p) (by have := h.T hp; omega) e
theorem NtA_tb {n K : Nat} {T : Nat → Nat} {σ : Sg} (h : NtA n T K σ) : ∀ p, p < n → T p < 2 ^ n ∧ pop 14 (T p) ≤ 8 := fun p hp => ⟨(h.2.2.2.1 p (by have := h.1; omega)).2.2.1, h.pop (by have := h.1; omega)⟩
-- absolute differences
def adf (a b : Nat) : Nat := if a ≤ b then b - a else a - b
theorem labs_n {a b : Nat} (ha : a < 2 ^ 62) (hb : b < 2 ^ 62) : xm_labs (lN a - lN b) = lN (adf a b) := by
  unfold xm_labs adf
  by_cases h : a ≤ b
  · rw [if_pos h]
    have e : lN a - lN b = -(lN (b - a)) := by
      rw [← lN_sub h]
      exact (Int64.neg_sub).symm
    rw [e, if_neg, Int64.neg_neg]
    rw [fa_lt64, ← e]
    show ¬ (0 : Int) < (lN a - lN b).toInt
    rw [Int64.toInt_sub, pk_lT (by omega), pk_lT (by omega), Int.bmod_eq_of_le (by omega) (by omega)]
    omega
  · rw [if_neg h, lN_sub (by omega), if_pos]
    show lN 0 < lN (a - b)
    rw [pk_lLT (by omega) (by omega)]
    omega
theorem lsub_ge {a b : Nat} (ha : a < 2 ^ 62) (hb : b < 2 ^ 62) : 0 ≤ lg_cmp (lN a - lN b) 0 ↔ b ≤ a := by
  rw [lg_cmp_ge, fa_le64, Int64.toInt_sub, pk_lT (by omega), pk_lT (by omega), Int.bmod_eq_of_le (by omega) (by omega)]
  show (0 : Int) ≤ (a : Int) - b ↔ _
  omega
theorem adf_mul (a b c : Nat) : adf (a * c) (b * c) = adf a b * c := by
  unfold adf
  by_cases h : a ≤ b
  · rw [if_pos h, if_pos (Nat.mul_le_mul_right _ h), Nat.sub_mul]
  · rw [if_neg h]
    by_cases hc : c = 0
    · subst hc; simp
    · rw [if_neg (by
        intro q
        have := Nat.le_of_mul_le_mul_right q (by omega)
        omega), Nat.sub_mul]
theorem lN_neg {a b : Nat} (h : a ≤ b) : -(lN a - lN b) = lN (b - a) := by rw [Int64.neg_sub, lN_sub h]
