/-! THE NET: persons -/
theorem two_pos (n : Nat) : 1 ≤ 2 ^ n := Nat.one_le_two_pow
theorem C_everyone (d : Nat) {n : Nat} (σ : Sg) (hn : n ≤ 9) (h : σ.1 1 1 = nI n) : X_Net_everyone d σ = some (some (.int (nI (2 ^ n - 1))), σ) := by
  rw [X_Net_everyone_e, h, sh_1 n (by omega), nI_m1 (two_pos n)]
theorem C_everybody (d : Nat) {n : Nat} (σ : Sg) (hn : n ≤ 9) (h : σ.1 39 5 = nI n) : X_Mod_everybody d σ = some (some (.int (nI (2 ^ n - 1))), σ) := by
  rw [X_Mod_everybody_e, h, sh_1 n (by omega), nI_m1 (two_pos n)]
def Tr (T : Nat → Nat) (m : Nat) : Nat → Nat := fun p => if p < m then T p % 2 ^ m else 0
theorem C_rez (d : Nat) {m : Nat} (T : Nat → Nat) (hm : m ≤ 9) : ∀ (k i : Nat) (σ : Sg), i + k = 9 → σ.1 1 1 = nI m → (∀ p, i ≤ p → p < 9 → σ.1 2 p = nI (T p)) → ∃ τ, X_Net_resize_20 (d + 1) (nI m) (nI i) σ = some (none, τ) ∧ (∀ p, i ≤ p → p < 9 → τ.1 2 p = nI (Tr T m p)) ∧ (∀ p, p < i → τ.1 2 p = σ.1 2 p) ∧ (∀ c, c ≠ 1 → c ≠ 2 → τ.1 c = σ.1 c) ∧ (∀ j, j ≠ 3 → τ.1 1 j = σ.1 1 j) ∧ τ.1 1 3 = σ.1 1 3 + 1 ∧ τ.2 = σ.2
  | 0, i, σ, h, h1, h2 => by
    refine ⟨xm_sI σ 1 3 (σ.1 1 3 + 1), ?_, fun p h1 h2 => by omega, fun p _ => by rw [sI_cell _ _ _ (by decide)], fun c h1 _ => sI_cell _ _ _ h1, fun j hj => sI_row _ _ hj, sI_same _ _ _ _, rfl⟩
    rw [X_Net_resize_20_e, xm_br_t]
    show nI 9 ≤ nI i
    exact nI_le (by omega) (by omega)
  | k + 1, i, σ, h, h1, h2 => by
    have hi : ¬ (9 : Int32) ≤ nI i := nI_ge (a := i) (b := 9) (by omega) (by omega)
    have step : ∃ σ', X_Net_resize_20 (d + 1) (nI m) (nI i) σ = X_Net_resize_20 (d + 1) (nI m) (nI (i + 1)) (xm_sI σ 2 i (nI (Tr T m i))) ∧ σ' = xm_sI σ 2 i (nI (Tr T m i)) := by
      refine ⟨_, ?_, rfl⟩
      rw [X_Net_resize_20_e, xm_br_f hi]
      unfold Tr
      by_cases hmi : m ≤ i
      · rw [xm_br_t (nI_le hmi (by omega)), xm_ix_n (by omega) (by omega), nI_1, if_neg (by omega)]
        rfl
      · rw [xm_br_f (nI_ge (by omega) (by omega)), xm_ix_n (by omega) (by omega), C_everyone _ _ hm h1, xm_cI_s, xm_ix_n (by omega) (by omega), nI_1, h2 i (by omega) (by omega), fa_mask, if_pos (by omega)]
    obtain ⟨σ', s1, s2⟩ := step
    obtain ⟨τ, t1, t2, t3, t4, t5, t6, t7⟩ := C_rez d T hm k (i + 1) (xm_sI σ 2 i (nI (Tr T m i))) (by omega) (by rw [sI_cell _ _ _ (by decide)]; exact h1) (fun p a b => by rw [sI_row _ _ (by omega)]; exact h2 p (by omega) b)
    refine ⟨τ, s1.trans t1, fun p a b => ?_, fun p a => ?_, fun c a b => ?_, fun j hj => ?_, ?_, t7⟩
    · by_cases e : p = i
      · rw [e, t3 i (by omega), sI_same]
      · exact t2 p (by omega) b
    · rw [t3 p (by omega), sI_row _ _ (by omega)]
    · rw [t4 c a b, sI_cell _ _ _ b]
    · rw [t5 j hj, sI_cell _ _ _ (by decide)]
    · rw [t6, sI_cell _ _ _ (by decide)]
/-- the reference's loop -/
theorem C_mpers (d : Nat) {m K : Nat} (T : Nat → Nat) (w : Int32) (hm : m ≤ 9) : ∀ (k i : Nat) (σ : Sg), i + k = 9 → (∀ p, i ≤ p → p < 9 → σ.1 44 p = nI (T p)) → (∀ p, i ≤ p → p < 9 → σ.1 45 p = nI (K / 2 ^ p % 2)) → ∃ τ, X_Mod_persons_27 d (nI m) w (nI i) σ = xm_br (nI m ≤ σ.1 39 8) (some (some (.int w), xm_sI τ 39 8 (-1))) (some (some (.int w), xm_sI τ 39 8 (σ.1 39 8))) ∧ (∀ p, i ≤ p → p < 9 → τ.1 44 p = nI (Tr T m p) ∧ τ.1 45 p = nI (if p < m then K / 2 ^ p % 2 else 0)) ∧ (∀ p, p < i → τ.1 44 p = σ.1 44 p ∧ τ.1 45 p = σ.1 45 p) ∧ (∀ c, c ≠ 44 → c ≠ 45 → τ.1 c = σ.1 c) ∧ τ.2 = σ.2
  | 0, i, σ, h, h1, h2 => by
    refine ⟨σ, ?_, fun p h1 h2 => by omega, fun p _ => ⟨rfl, rfl⟩, fun c _ _ => rfl, rfl⟩
    rw [X_Mod_persons_27_e, xm_br_t]
    show nI 9 ≤ nI i
    exact nI_le (by omega) (by omega)
  | k + 1, i, σ, h, h1, h2 => by
    have hi : ¬ (9 : Int32) ≤ nI i := nI_ge (a := i) (b := 9) (by omega) (by omega)
    have step : X_Mod_persons_27 d (nI m) w (nI i) σ = X_Mod_persons_27 d (nI m) w (nI (i + 1)) (xm_sI (xm_sI σ 44 i (nI (Tr T m i))) 45 i (nI (if i < m then K / 2 ^ i % 2 else 0))) := by
      rw [X_Mod_persons_27_e, xm_br_f hi]
      unfold Tr
      by_cases hmi : m ≤ i
      · rw [xm_br_t (nI_le hmi (by omega)), xm_ix_n (by omega) (by omega), xm_br_t (nI_le hmi (by omega)), xm_ix_n (by omega) (by omega), nI_1, if_neg (by omega), if_neg (by omega)]
        rfl
      · rw [xm_br_f (nI_ge (by omega) (by omega)), xm_ix_n (by omega) (by omega), xm_ix_n (by omega) (by omega), xm_br_f (nI_ge (by omega) (by omega)), xm_ix_n (by omega) (by omega), xm_ix_n (by omega) (by omega), nI_1, sh_1 m (by omega), nI_m1 (two_pos m), h1 i (by omega) (by omega), h2 i (by omega) (by omega), fa_mask, if_pos (by omega), if_pos (by omega)]
    obtain ⟨τ, t1, t2, t3, t4, t5⟩ := C_mpers d (K := K) T w hm k (i + 1) (xm_sI (xm_sI σ 44 i (nI (Tr T m i))) 45 i (nI (if i < m then K / 2 ^ i % 2 else 0))) (by omega) (fun p a b => by rw [sI_cell _ _ _ (by decide), sI_row _ _ (by omega)]; exact h1 p (by omega) b) (fun p a b => by rw [sI_row _ _ (by omega), sI_cell _ _ _ (by decide)]; exact h2 p (by omega) b)
    rw [sI_cell _ _ _ (by decide : (39 : Nat) ≠ 45), sI_cell _ _ _ (by decide : (39 : Nat) ≠ 44)] at t1
    refine ⟨τ, step.trans t1, fun p a b => ?_, fun p a => ?_, fun c a b => ?_, t5⟩
    · by_cases e : p = i
      · rw [e, (t3 i (by omega)).1, (t3 i (by omega)).2, sI_cell _ _ _ (by decide), sI_same, sI_same]
        exact ⟨rfl, rfl⟩
      · exact t2 p (by omega) b
    · rw [(t3 p (by omega)).1, (t3 p (by omega)).2, sI_cell _ _ _ (by decide), sI_row _ _ (by omega), sI_row _ _ (by omega), sI_cell _ _ _ (by decide)]
      exact ⟨rfl, rfl⟩
    · rw [t4 c a b, sI_cell _ _ _ b, sI_cell _ _ _ a]
