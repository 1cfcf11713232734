/-! RECORDS: what both know of them, as numbers -/
def oI : Nat → Int32
  | 0 => -1
  | b + 1 => nI b
def oK : Nat → Int32
  | 0 => -1
  | k + 1 => nI (k + 1)
/-- r records: bringer (0: none, else one more), kind, knows (0: not told), tree, whether one counts, is taken -/
def VwA (r : Nat) (bo kd kn tr : Nat → Nat) (ct tk : Nat → Bool) (σ : Sg) : Prop :=
  (r ≤ 24 ∧ σ.1 9 9 = nI r ∧ σ.1 39 26 = nI r ∧ σ.1 39 11 = σ.1 9 12) ∧ ∀ i, i < r →
    (bo i ≤ i ∧ σ.1 10 i = oI (bo i) ∧ σ.1 56 i = oI (bo i)) ∧ (kd i < 2 ∧ σ.1 11 i = nI (kd i) ∧ σ.1 57 i = nI (kd i)) ∧
    (kn i ≤ 20 ∧ σ.1 12 i = oK (kn i) ∧ σ.1 58 i = oK (kn i)) ∧ (tr i ≤ i ∧ σ.1 16 i = nI (tr i) ∧ σ.1 63 i = nI (tr i)) ∧
    (σ.1 18 i = nI (ct i).toNat ∧ σ.1 62 i = σ.1 15 i ∧ (σ.1 15 i = 0 ↔ bo i = 0)) ∧ (tk i = true ↔ ct i = true ∧ ¬ σ.1 15 i < σ.1 9 12) ∧
    (bo (tr i) = 0 ∧ tr (tr i) = tr i ∧ (bo i = 0 ↔ tr i = i) ∧ (ct i = true → ct (tr i) = true)) ∧ (ct i = true → bo i = 0 ∨ ct (bo i - 1) = true)
theorem oI_m1 {b : Nat} (h : b < 2 ^ 31) : oI b = -1 ↔ b = 0 := by
  cases b with
  | zero => exact ⟨fun _ => rfl, fun _ => rfl⟩
  | succ b => exact ⟨fun q => absurd q (nI_nm1 (by omega)), fun q => by omega⟩
theorem oK_m1 {b : Nat} (h : b < 2 ^ 31) : oK b = -1 ↔ b = 0 := by
  cases b with
  | zero => exact ⟨fun _ => rfl, fun _ => rfl⟩
  | succ b => exact ⟨fun q => absurd q (nI_nm1 (by omega)), fun q => by omega⟩
theorem oI_s {b : Nat} (h : b ≠ 0) : oI b = nI (b - 1) := by
  cases b with
  | zero => exact absurd rfl h
  | succ b => rfl
theorem oK_s {b : Nat} (h : b ≠ 0) : oK b = nI b := by
  cases b with
  | zero => exact absurd rfl h
  | succ b => rfl
theorem RcA.view {r : Nat} {σ : Sg} (h : RcA r σ) : ∃ bo kd kn tr ct tk, VwA r bo kd kn tr ct tk σ := by
  have hr := h.1
  have b1 : ∀ i b, b < 2 ^ 31 → σ.1 10 i = nI b → (if σ.1 10 i = -1 then 0 else (σ.1 10 i).toNatClampNeg + 1) = b + 1 := by
    intro i b hb e
    rw [e, if_neg (nI_nm1 hb), nI_clamp hb]
  have tn : ∀ b : Bool, b.toNat = 0 ∨ b.toNat = 1 := by intro b; cases b <;> decide
  refine ⟨fun i => if σ.1 10 i = -1 then 0 else (σ.1 10 i).toNatClampNeg + 1, fun i => (σ.1 11 i).toNatClampNeg, fun i => if σ.1 12 i = -1 then 0 else (σ.1 12 i).toNatClampNeg, fun i => (σ.1 16 i).toNatClampNeg, fun i => decide (σ.1 18 i = 1), fun i => decide (σ.1 18 i = 1) && decide (¬ σ.1 15 i < σ.1 9 12), ⟨hr, h.2.1, h.2.2.1, h.2.2.2.2.2.1.1.symm⟩, fun i hi => ?_⟩
  obtain ⟨⟨a1, a2⟩, ⟨a3, j3, a3', e3⟩, ⟨a4, a4'⟩, -, -, ⟨a7, -⟩, ⟨a8, -⟩, -, a9⟩ := h.2.2.2.2.2.2.1 i hi
  obtain ⟨w, t, w1, w2, w3, w4, w5, w6, w7, w8, w9⟩ := h.wt i hi
  have et : (σ.1 16 i).toNatClampNeg = t := by rw [w4, nI_clamp (by omega)]
  have e18 : σ.1 18 i = 0 ∨ σ.1 18 i = 1 := by rw [a9]; exact bI_01 _
  refine ⟨?_, ⟨?_, ?_, ?_⟩, ?_, ⟨?_, ?_, ?_⟩, ⟨?_, a7.symm, ?_⟩, ?_, ⟨?_, ?_, ?_, ?_⟩, ?_⟩
  · rcases a2 with ⟨e, -⟩ | ⟨b, hb, e, -⟩
    · show (if σ.1 10 i = -1 then 0 else _) ≤ i ∧ σ.1 10 i = oI (if σ.1 10 i = -1 then 0 else _) ∧ σ.1 56 i = oI (if σ.1 10 i = -1 then 0 else _)
      rw [if_pos e, ← a1, e]
      exact ⟨by omega, rfl, rfl⟩
    · have := b1 i b (by omega) e
      show (if σ.1 10 i = -1 then 0 else _) ≤ i ∧ σ.1 10 i = oI (if σ.1 10 i = -1 then 0 else _) ∧ σ.1 56 i = oI (if σ.1 10 i = -1 then 0 else _)
      rw [this, ← a1, e]
      exact ⟨by omega, rfl, rfl⟩
  · show (σ.1 11 i).toNatClampNeg < 2
    rw [e3, nI_clamp (by omega)]; exact a3'
  · show σ.1 11 i = nI (σ.1 11 i).toNatClampNeg
    rw [e3, nI_clamp (by omega)]
  · show σ.1 57 i = nI (σ.1 11 i).toNatClampNeg
    rw [← a3, e3, nI_clamp (by omega)]
  · show (if σ.1 12 i = -1 then 0 else _) ≤ 20 ∧ σ.1 12 i = oK (if σ.1 12 i = -1 then 0 else _) ∧ σ.1 58 i = oK (if σ.1 12 i = -1 then 0 else _)
    rw [← a4]
    rcases a4' with e | ⟨k, k1, k2, e⟩
    · rw [if_pos e, e]; exact ⟨by omega, rfl, rfl⟩
    · rw [e, if_neg (nI_nm1 (by omega)), nI_clamp (by omega)]
      exact ⟨k2, (oK_s (by omega)).symm, (oK_s (by omega)).symm⟩
  · show (σ.1 16 i).toNatClampNeg ≤ i
    rw [et]; exact w3
  · show σ.1 16 i = nI (σ.1 16 i).toNatClampNeg
    rw [et]; exact w4
  · show σ.1 63 i = nI (σ.1 16 i).toNatClampNeg
    rw [← a8, et]; exact w4
  · show σ.1 18 i = nI (decide (σ.1 18 i = 1)).toNat
    rcases e18 with e | e <;> rw [e] <;> rfl
  · show σ.1 15 i = 0 ↔ (if σ.1 10 i = -1 then 0 else _) = 0
    by_cases q : σ.1 10 i = -1
    · rw [if_pos q, w2, (w7 q).2]
      exact ⟨fun _ => rfl, fun _ => rfl⟩
    · rw [if_neg q, w2]
      have := (w8 q).2
      exact ⟨fun e => absurd e (nI_ne0 (by omega) (by omega)), fun e => by omega⟩
  · show (decide (σ.1 18 i = 1) && decide (¬ σ.1 15 i < σ.1 9 12)) = true ↔ decide (σ.1 18 i = 1) = true ∧ _
    simp
  · show (if σ.1 10 (σ.1 16 i).toNatClampNeg = -1 then 0 else _) = 0
    rw [et, if_pos w5]
  · show (σ.1 16 (σ.1 16 i).toNatClampNeg).toNatClampNeg = (σ.1 16 i).toNatClampNeg
    rw [et, w6, nI_clamp (by omega)]
  · show (if σ.1 10 i = -1 then 0 else _) = 0 ↔ (σ.1 16 i).toNatClampNeg = i
    rw [et]
    by_cases q : σ.1 10 i = -1
    · rw [if_pos q]; exact ⟨fun _ => (w7 q).1, fun _ => rfl⟩
    · rw [if_neg q]; have := (w8 q).1; exact ⟨fun e => by omega, fun e => by omega⟩
  · show decide (σ.1 18 i = 1) = true → decide (σ.1 18 (σ.1 16 i).toNatClampNeg = 1) = true
    rw [et, decide_eq_true_iff, decide_eq_true_iff]
    exact w9
  · show decide (σ.1 18 i = 1) = true → (if σ.1 10 i = -1 then 0 else _) = 0 ∨ decide (σ.1 18 ((if σ.1 10 i = -1 then 0 else (σ.1 10 i).toNatClampNeg + 1) - 1) = 1) = true
    rw [decide_eq_true_iff, decide_eq_true_iff, a9]
    intro q
    obtain ⟨-, -, q | ⟨b, hb, e', q⟩⟩ := bI_1.mp q
    · left; rw [if_pos q]
    · right
      rw [b1 i b (by omega) e']
      exact q
theorem VwA.cells {r : Nat} {bo kd kn tr : Nat → Nat} {ct tk : Nat → Bool} {σ τ : Sg} (h : VwA r bo kd kn tr ct tk σ) (e : ∀ c, c ∈ [9, 10, 11, 12, 15, 16, 18, 56, 57, 58, 62, 63] → τ.1 c = σ.1 c) (m : ∀ j, j ∈ [11, 26] → τ.1 39 j = σ.1 39 j) : VwA r bo kd kn tr ct tk τ := by
  unfold VwA
  rw [e 9 (by decide), e 10 (by decide), e 11 (by decide), e 12 (by decide), e 15 (by decide), e 16 (by decide), e 18 (by decide), e 56 (by decide), e 57 (by decide), e 58 (by decide), e 62 (by decide), e 63 (by decide), m 11 (by decide), m 26 (by decide)]
  exact h
theorem VwA.es {r : Nat} {bo kd kn tr : Nat → Nat} {ct tk : Nat → Bool} {σ τ : Sg} (h : VwA r bo kd kn tr ct tk σ) (g : Es σ τ) : VwA r bo kd kn tr ct tk τ :=
  h.cells (fun c hc => g.1 c (by revert c; decide)) (fun j hj => g.2.1 j (by revert j; decide))
/-- the reference's counts lie there -/
def CtA (r : Nat) (σ : Sg) : Prop := ∀ i, i < r → σ.1 64 i = σ.1 18 i
theorem FcP.ct {r : Nat} {σ τ : Sg} (h : FcP r σ τ) : CtA r τ := fun i hi => by rw [h.2.2 i hi, h.1 18 (by decide)]
theorem b_0 {b : Bool} : nI b.toNat = 0 ↔ b = false := by cases b <;> decide
theorem C_isT {r : Nat} {bo kd kn tr : Nat → Nat} {ct tk : Nat → Bool} {σ : Sg} (h : VwA r bo kd kn tr ct tk σ) (d : Nat) {i : Nat} (hi : i < r) : X_Records_isTaken d (nI i) σ = some (some (.int (nI (tk i).toNat)), σ) := by
  have hr := h.1.1
  obtain ⟨-, -, -, -, ⟨a5, -⟩, a6, -⟩ := h.2 i hi
  rw [X_Records_isTaken_e]
  simp only [xm_ix_n (show i < 24 by omega) (show 24 < 2 ^ 31 by omega), a5]
  cases hc : ct i with
  | false =>
    rw [xm_br_t (by decide)]
    cases ht : tk i with
    | false => rfl
    | true => rw [(a6.mp ht).1] at hc; cases hc
  | true =>
    rw [xm_br_f (by decide)]
    by_cases q : σ.1 15 i < σ.1 9 12
    · rw [xm_br_t q]
      cases ht : tk i with
      | false => rfl
      | true => exact absurd q (a6.mp ht).2
    · rw [xm_br_f q, a6.mpr ⟨hc, q⟩]
      rfl
theorem C_mT {r : Nat} {bo kd kn tr : Nat → Nat} {ct tk : Nat → Bool} {σ : Sg} (h : VwA r bo kd kn tr ct tk σ) (h64 : CtA r σ) (d : Nat) {i : Nat} (hi : i < r) : X_Mod_isTaken d (nI i) σ = some (some (.int (nI (tk i).toNat)), σ) := by
  rw [← C_isT h d hi, X_Mod_isTaken_e, X_Records_isTaken_e]
  have hr := h.1.1
  simp only [xm_ix_n (show i < 24 by omega) (show 24 < 2 ^ 31 by omega)]
  rw [h64 i hi, (h.2 i hi).2.2.2.2.1.2.1, h.1.2.2.2]
/-- a sum of ones -/
def cnt (p : Nat → Bool) (r : Nat) : Nat := sm (fun i => (p i).toNat) r
theorem cnt_le (p : Nat → Bool) (r : Nat) : cnt p r ≤ r := by
  have := sm_le (f := fun i => (p i).toNat) (c := 1) (n := r) (fun i _ => by show (p i).toNat ≤ 1; cases p i <;> decide)
  unfold cnt
  omega
