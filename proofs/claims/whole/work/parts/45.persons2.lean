/-! THE NET: persons, the op -/
theorem mod_bit (a m q : Nat) : (a % 2 ^ m).testBit q = (decide (q < m) && a.testBit q) := Nat.testBit_mod_two_pow a m q
def PeP (σ : Sg) : Sg → Prop := fun τ => τ = σ ∨ ((∃ n T K s L, NtA n T K τ ∧ StA n s L τ) ∧ Ex [0, 1, 2, 44, 45] [5, 8] σ τ ∧ τ.1 1 3 = σ.1 1 3 + 1)
theorem NtA.cut {n K : Nat} {T : Nat → Nat} {σ τ : Sg} (h : NtA n T K σ) {m : Nat} (hm : 1 ≤ m ∧ m ≤ 9) (e1 : τ.1 1 1 = nI m) (e12 : τ.1 1 2 = nI (K % 2 ^ m)) (e39 : τ.1 39 5 = nI m) (e2 : ∀ p, p < 9 → τ.1 2 p = nI (Tr T m p)) (e44 : ∀ p, p < 9 → τ.1 44 p = nI (Tr T m p)) (e45 : ∀ p, p < 9 → τ.1 45 p = nI (if p < m then K / 2 ^ p % 2 else 0)) : NtA m (Tr T m) (K % 2 ^ m) τ := by
  have bit : ∀ p q, (Tr T m p).testBit q = (decide (p < m) && (decide (q < m) && (T p).testBit q)) := by
    intro p q
    unfold Tr
    by_cases hp : p < m
    · rw [if_pos hp, mod_bit]
      simp [hp]
    · rw [if_neg hp]
      simp [hp]
  refine ⟨hm, e1, e39, fun p hp => ⟨e2 p hp, e44 p hp, ?_, ?_, fun hmp => ?_, fun q hq => ?_⟩, e12, Nat.mod_lt _ (two_pos m), fun p hp => ?_⟩
  · unfold Tr
    by_cases hp : p < m
    · rw [if_pos hp]; exact Nat.mod_lt _ (two_pos m)
    · rw [if_neg hp]; exact two_pos m
  · rw [bit, (h.2.2.2.1 p hp).2.2.2.1]
    simp
  · unfold Tr
    rw [if_neg (by omega)]
  · rw [bit, bit, (h.2.2.2.1 p hp).2.2.2.2.2 q hq]
    cases decide (p < m) <;> cases decide (q < m) <;> simp
  · rw [e45 p hp, bt_n, bt_n, mod_bit]
    by_cases hpm : p < m
    · rw [if_pos hpm]; simp [hpm]
    · rw [if_neg hpm]; simp [hpm]
noncomputable def stC (s : Int32) (m : Nat) : Int32 := @ite Int32 (s = -1 ∨ inR s m) (Classical.propDecidable _) s (-1)
theorem m1_inR {m : Nat} (hm : m < 2 ^ 31) : ¬ inR (-1) m := by
  rw [inR_iff hm]
  have : (-1 : Int32).toInt = -1 := by decide
  omega
theorem O_persons {n K L : Nat} {T : Nat → Nat} {s : Int32} {σ : Sg} (h : NtA n T K σ) (hs : StA n s L σ) (d : Nat) (x : Int32) : OpI (X_TO_persons (d + 4) x) (X_Mod_persons (d + 4) x) (PeP σ) σ := by
  unfold OpI
  have hm0 : ∀ τ, X_Mod_persons (d + 4) x τ = xm_br (bI (inR (x - 1) 9) = 0) (some (some (.int (-2)), τ)) (X_Mod_persons_27 (d + 4) x (τ.1 39 5) 0 (xm_sI τ 39 5 x)) := by
    intro τ
    rw [X_Mod_persons_e]
    have h9 := C_in32 (d + 3) x 1 9 τ
    rw [show ((1 : Int32).toInt64) = 1 from rfl, show ((9 : Int32).toInt64) = 9 from rfl] at h9
    rw [h9, xm_cI_s, bI_c]
    rw [inR_iff (by omega), fa_le, fa_le]
    show (1 : Int) ≤ x.toInt ∧ x.toInt ≤ 9 ↔ _
    have hb := Int32.le_toInt x
    have ht := Int32.toInt_lt x
    rw [Int32.toInt_sub]
    show _ ↔ 0 ≤ (x.toInt - 1).bmod (2 ^ 32) ∧ (x.toInt - 1).bmod (2 ^ 32) < _
    by_cases hmin : x.toInt = -2147483648
    · rw [hmin]
      decide
    · rw [Int.bmod_eq_of_le (by omega) (by omega)]
      omega
  rw [X_TO_persons_e]
  by_cases hx : inR (x - 1) 9
  · obtain ⟨m, hm, rfl⟩ : ∃ m, (1 ≤ m ∧ m ≤ 9) ∧ x = nI m := by
      obtain ⟨j, hj, e⟩ := hx
      refine ⟨j + 1, by omega, ?_⟩
      rw [nI_succ, ← e]
      apply Int32.toBitVec_inj.mp
      simp
    have c1 : ¬ nI m < 1 := nI_nlt (a := m) (b := 1) (by omega) (by omega)
    have c2 : nI m ≤ 9 := nI_le (a := m) (b := 9) (by omega) (by omega)
    rw [xm_br_f c1, xm_br_t c2, X_Net_resize_e, C_everyone (n := m) _ _ hm.2 (sI_same _ _ _ _), xm_cI_s]
    obtain ⟨τ, t1, t2, t3, t4, t5, t6, t7⟩ := C_rez (d + 2) T hm.2 9 0 (xm_sI (xm_sI σ 1 1 (nI m)) 1 2 (σ.1 1 2 &&& nI (2 ^ m - 1))) (by omega) (by rw [sI_row _ _ (by decide), sI_same]) (fun p _ hp => by rw [sI_cell _ _ _ (by decide), sI_cell _ _ _ (by decide)]; exact (h.2.2.2.1 p hp).1)
    rw [show X_Net_resize_20 (d + 2 + 1) (nI m) 0 (xm_sI (xm_sI σ 1 1 (nI m)) 1 2 (σ.1 1 2 &&& nI (2 ^ m - 1))) = some (none, τ) from t1, xm_cV_s]
    have q1 : τ.1 1 1 = nI m := by rw [t5 1 (by decide), sI_row _ _ (by decide), sI_same]
    have q2 : τ.1 1 2 = nI (K % 2 ^ m) := by rw [t5 2 (by decide), sI_same, h.2.2.2.2.1, fa_mask]
    have q3 : τ.1 1 3 = σ.1 1 3 + 1 := by rw [t6, sI_row _ _ (by decide), sI_row _ _ (by decide)]
    have qc : ∀ c, c ≠ 1 → c ≠ 2 → τ.1 c = σ.1 c := fun c a b => by rw [t4 c a b, sI_cell _ _ _ a, sI_cell _ _ _ a]
    have q8 : τ.1 0 8 = s := by rw [qc 0 (by decide) (by decide)]; exact hs.1
    rw [C_holds (n := m) _ _ τ (by omega) q1, xm_cI_s, q8]
    -- the reference, from any store that is so at its own cells
    have mod : ∀ υ : Sg, (∀ c, c ≠ 0 → c ≠ 1 → c ≠ 2 → υ.1 c = σ.1 c) → ∃ ρ, X_Mod_persons (d + 4) (nI m) υ = some (some (.int (σ.1 1 1)), xm_sI ρ 39 8 (stC s m)) ∧ (∀ p, p < 9 → ρ.1 44 p = nI (Tr T m p) ∧ ρ.1 45 p = nI (if p < m then K / 2 ^ p % 2 else 0)) ∧ (∀ c, c ≠ 44 → c ≠ 45 → ρ.1 c = (xm_sI υ 39 5 (nI m)).1 c) ∧ ρ.2 = υ.2 := by
      intro υ hυ
      obtain ⟨ρ, r1, r2, r3, r4, r5⟩ := C_mpers (d + 4) (K := K) T (υ.1 39 5) hm.2 9 0 (xm_sI υ 39 5 (nI m)) (by omega) (fun p _ hp => by rw [sI_cell _ _ _ (by decide), hυ 44 (by decide) (by decide) (by decide)]; exact (h.2.2.2.1 p hp).2.1) (fun p _ hp => by rw [sI_cell _ _ _ (by decide), hυ 45 (by decide) (by decide) (by decide)]; exact h.2.2.2.2.2.2 p hp)
      refine ⟨ρ, ?_, fun p hp => r2 p (by omega) hp, r4, r5⟩
      rw [hm0, xm_br_b hx, show X_Mod_persons_27 (d + 4) (nI m) (υ.1 39 5) 0 (xm_sI υ 39 5 (nI m)) = _ from r1, sI_row _ _ (by decide : (8 : Nat) ≠ 5), hυ 39 (by decide) (by decide) (by decide), hs.2.1, h.2.2.1, ← h.2.1]
      unfold stC
      rcases hs.2.2.1 with e | ⟨j, hj, e⟩
      · rw [xm_br_f (by rw [e, fa_le, nI_toInt (by omega)]; have : (-1 : Int32).toInt = -1 := (by decide); omega), if_pos (Or.inl e)]
      · by_cases hjm : j < m
        · rw [xm_br_f (by rw [e]; exact nI_ge hjm (by omega)), if_pos (Or.inr ⟨j, hjm, e⟩)]
        · rw [xm_br_t (by rw [e]; exact nI_le (by omega) (by have := h.1; omega)), if_neg]
          rintro (q | ⟨k, hk, q⟩)
          · rw [e] at q
            have q2 := congrArg Int32.toInt q
            rw [nI_toInt (by have := h.1; omega)] at q2
            have : (-1 : Int32).toInt = -1 := (by decide)
            omega
          · rw [e] at q
            have := (nI_eq (by have := h.1; omega) (by omega)).mp q
            omega
    have fin : ∀ υ : Sg, (∀ c, c ≠ 0 → υ.1 c = τ.1 c) → (∀ j, j ≠ 8 → υ.1 0 j = τ.1 0 j) → υ.1 0 8 = stC s m → υ.2 = τ.2 → ∃ σ2, X_Mod_persons (d + 4) (nI m) υ = some (some (.int (σ.1 1 1)), σ2) ∧ PeP σ σ2 := by
      intro υ v1 v2 v3 v4
      obtain ⟨ρ, r1, r2, r3, r4⟩ := mod υ (fun c a b e => by rw [v1 c a, qc c b e])
      refine ⟨_, r1, Or.inr ⟨⟨m, Tr T m, K % 2 ^ m, stC s m, L, ?_, ?_⟩, ⟨fun c hc h9 => ?_, fun j hj => ?_, ?_⟩, ?_⟩⟩
      · refine h.cut hm ?_ ?_ ?_ ?_ ?_ ?_
        · rw [sI_cell _ _ _ (by decide), r3 1 (by decide) (by decide), sI_cell _ _ _ (by decide), v1 1 (by decide), q1]
        · rw [sI_cell _ _ _ (by decide), r3 1 (by decide) (by decide), sI_cell _ _ _ (by decide), v1 1 (by decide), q2]
        · rw [sI_row _ _ (by decide), r3 39 (by decide) (by decide), sI_same]
        · intro p hp
          rw [sI_cell _ _ _ (by decide), r3 2 (by decide) (by decide), sI_cell _ _ _ (by decide), v1 2 (by decide)]
          exact t2 p (by omega) hp
        · intro p hp
          rw [sI_cell _ _ _ (by decide)]
          exact (r2 p hp).1
        · intro p hp
          rw [sI_cell _ _ _ (by decide)]
          exact (r2 p hp).2
      · refine ⟨?_, sI_same _ _ _ _, ?_, ?_, ?_, hs.2.2.2.2.2⟩
        · rw [sI_cell _ _ _ (by decide), r3 0 (by decide) (by decide), sI_cell _ _ _ (by decide), v3]
        · unfold stC
          by_cases e : s = -1 ∨ inR s m
          · rw [if_pos e]; exact e
          · rw [if_neg e]; exact Or.inl rfl
        · rw [sI_cell _ _ _ (by decide), r3 0 (by decide) (by decide), sI_cell _ _ _ (by decide), v2 9 (by decide), qc 0 (by decide) (by decide)]
          exact hs.2.2.2.1
        · rw [sI_row _ _ (by decide), r3 39 (by decide) (by decide), sI_row _ _ (by decide), v1 39 (by decide), qc 39 (by decide) (by decide)]
          exact hs.2.2.2.2.1
      · have hc' : ∀ k, k ∈ [0, 1, 2, 44, 45] → c ≠ k := fun k hk e => hc (e ▸ hk)
        rw [sI_cell _ _ _ h9, r3 c (hc' 44 (by decide)) (hc' 45 (by decide)), sI_cell _ _ _ h9, v1 c (hc' 0 (by decide)), qc c (hc' 1 (by decide)) (hc' 2 (by decide))]
      · have hj' : ∀ k, k ∈ [5, 8] → j ≠ k := fun k hk e => hj (e ▸ hk)
        rw [sI_row _ _ (hj' 8 (by decide)), r3 39 (by decide) (by decide), sI_row _ _ (hj' 5 (by decide)), v1 39 (by decide), qc 39 (by decide) (by decide)]
      · show ρ.2 = σ.2
        rw [r4, v4, t7]
        rfl
      · rw [sI_cell _ _ _ (by decide), r3 1 (by decide) (by decide), sI_cell _ _ _ (by decide), v1 1 (by decide), q3]
    by_cases hin : inR s m
    · rw [xm_br_b hin]
      obtain ⟨σ2, f1, f2⟩ := fin τ (fun _ _ => rfl) (fun _ _ => rfl) (by rw [q8, stC, if_pos (Or.inr hin)]) rfl
      exact ⟨_, _, σ2, rfl, f1, f2⟩
    · rw [xm_br_n hin]
      have e9 : stC s m = -1 := by
        unfold stC
        by_cases e : s = -1 ∨ inR s m
        · rw [if_pos e]
          exact e.resolve_right hin
        · rw [if_neg e]
      obtain ⟨σ2, f1, f2⟩ := fin (xm_sI τ 0 8 (-1)) (fun c hc => sI_cell _ _ _ hc) (fun j hj => sI_row _ _ hj) (by rw [sI_same, e9]) rfl
      exact ⟨_, _, σ2, rfl, f1, f2⟩
  · have hr : xm_br (x < 1) (some (some (Value.int (-2)), σ)) (xm_br (x ≤ 9) (xm_cV (X_Net_resize (d + 3) x σ) fun σ1 => xm_cI (X_Net_holds (d + 3) (σ1.1 0 8) σ1) fun r3 σ2 => xm_br (r3 = 0) (some (some (Value.int (σ.1 1 1)), xm_sI σ2 0 8 (-1))) (some (some (Value.int (σ.1 1 1)), σ2))) (some (some (Value.int (-2)), σ))) = some (some (Value.int (-2)), σ) := by
      by_cases c1 : x < 1
      · rw [xm_br_t c1]
      · rw [xm_br_f c1, xm_br_f]
        intro c2
        apply hx
        refine ⟨x.toInt.toNat - 1, ?_, ?_⟩
        · rw [fa_le] at c2
          have : x.toInt ≤ 9 := c2
          omega
        · rw [fa_lt] at c1
          have c1 : ¬ x.toInt < 1 := c1
          rw [fa_le] at c2
          have c2 : x.toInt ≤ 9 := c2
          have ex : x = nI x.toInt.toNat := by
            apply Int32.toInt_inj.mp
            rw [nI_toInt (by omega)]
            omega
          rw [← nI_m1 (by omega), ← ex]
    rw [hr]
    refine ⟨_, _, σ, rfl, ?_, Or.inl rfl⟩
    rw [hm0, xm_br_n hx]
