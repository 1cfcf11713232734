/-! Arrays.fill, row by row -/
theorem fl_4_l (d : Nat) (x : Int64) : ∀ (k i : Nat) (σ : Sg), i + k = 4608 → ∃ τ, X_Arr_fillL_c4_6 d x (nI i) 4608 σ = some (none, τ) ∧ (∀ j, i ≤ j → j < 4608 → τ.2 4 j = x) ∧ (∀ j, j < i → τ.2 4 j = σ.2 4 j) ∧ (∀ z, z ≠ 4 → τ.2 z = σ.2 z) ∧ τ.1 = σ.1
  | 0, i, σ, h => by
    refine ⟨σ, ?_, fun j h1 h2 => by omega, fun _ _ => rfl, fun _ _ => rfl, rfl⟩
    rw [X_Arr_fillL_c4_6_e, xm_br_t]
    show nI 4608 ≤ nI i
    exact nI_le (by omega) (by omega)
  | k + 1, i, σ, h => by
    obtain ⟨τ, t1, t2, t3, t4, t5⟩ := fl_4_l d x k (i + 1) (xm_sL σ 4 i x) (by omega)
    refine ⟨τ, ?_, fun j h1 h2 => ?_, fun j h1 => ?_, fun z hz => ?_, t5⟩
    · rw [X_Arr_fillL_c4_6_e, xm_br_f, xm_ix_n (by omega) (by omega), nI_1, t1]
      show ¬ nI 4608 ≤ nI i
      exact nI_ge (by omega) (by omega)
    · by_cases e : j = i
      · subst e
        rw [t3 j (by omega), sL_same]
      · exact t2 j (by omega) h2
    · rw [t3 j (by omega), sL_row _ _ (by omega)]
    · rw [t4 z hz, sL_cell _ _ _ hz]
theorem fl_4 (d : Nat) (x : Int64) (σ : Sg) : ∃ τ, X_Arr_fillL_c4 d x σ = some (none, τ) ∧ (∀ j, j < 4608 → τ.2 4 j = x) ∧ (∀ z, z ≠ 4 → τ.2 z = σ.2 z) ∧ τ.1 = σ.1 := by
  obtain ⟨τ, t1, t2, -, t4, t5⟩ := fl_4_l d x 4608 0 σ (by omega)
  exact ⟨τ, by rw [X_Arr_fillL_c4_e]; exact t1, fun j hj => t2 j (by omega) hj, t4, t5⟩
theorem fl_5_l (d : Nat) (x : Int64) : ∀ (k i : Nat) (σ : Sg), i + k = 512 → ∃ τ, X_Arr_fillL_c5_6 d x (nI i) 512 σ = some (none, τ) ∧ (∀ j, i ≤ j → j < 512 → τ.2 5 j = x) ∧ (∀ j, j < i → τ.2 5 j = σ.2 5 j) ∧ (∀ z, z ≠ 5 → τ.2 z = σ.2 z) ∧ τ.1 = σ.1
  | 0, i, σ, h => by
    refine ⟨σ, ?_, fun j h1 h2 => by omega, fun _ _ => rfl, fun _ _ => rfl, rfl⟩
    rw [X_Arr_fillL_c5_6_e, xm_br_t]
    show nI 512 ≤ nI i
    exact nI_le (by omega) (by omega)
  | k + 1, i, σ, h => by
    obtain ⟨τ, t1, t2, t3, t4, t5⟩ := fl_5_l d x k (i + 1) (xm_sL σ 5 i x) (by omega)
    refine ⟨τ, ?_, fun j h1 h2 => ?_, fun j h1 => ?_, fun z hz => ?_, t5⟩
    · rw [X_Arr_fillL_c5_6_e, xm_br_f, xm_ix_n (by omega) (by omega), nI_1, t1]
      show ¬ nI 512 ≤ nI i
      exact nI_ge (by omega) (by omega)
    · by_cases e : j = i
      · subst e
        rw [t3 j (by omega), sL_same]
      · exact t2 j (by omega) h2
    · rw [t3 j (by omega), sL_row _ _ (by omega)]
    · rw [t4 z hz, sL_cell _ _ _ hz]
theorem fl_5 (d : Nat) (x : Int64) (σ : Sg) : ∃ τ, X_Arr_fillL_c5 d x σ = some (none, τ) ∧ (∀ j, j < 512 → τ.2 5 j = x) ∧ (∀ z, z ≠ 5 → τ.2 z = σ.2 z) ∧ τ.1 = σ.1 := by
  obtain ⟨τ, t1, t2, -, t4, t5⟩ := fl_5_l d x 512 0 σ (by omega)
  exact ⟨τ, by rw [X_Arr_fillL_c5_e]; exact t1, fun j hj => t2 j (by omega) hj, t4, t5⟩
theorem fl_7_l (d : Nat) (x : Int64) : ∀ (k i : Nat) (σ : Sg), i + k = 9 → ∃ τ, X_Arr_fillL_c7_6 d x (nI i) 9 σ = some (none, τ) ∧ (∀ j, i ≤ j → j < 9 → τ.2 7 j = x) ∧ (∀ j, j < i → τ.2 7 j = σ.2 7 j) ∧ (∀ z, z ≠ 7 → τ.2 z = σ.2 z) ∧ τ.1 = σ.1
  | 0, i, σ, h => by
    refine ⟨σ, ?_, fun j h1 h2 => by omega, fun _ _ => rfl, fun _ _ => rfl, rfl⟩
    rw [X_Arr_fillL_c7_6_e, xm_br_t]
    show nI 9 ≤ nI i
    exact nI_le (by omega) (by omega)
  | k + 1, i, σ, h => by
    obtain ⟨τ, t1, t2, t3, t4, t5⟩ := fl_7_l d x k (i + 1) (xm_sL σ 7 i x) (by omega)
    refine ⟨τ, ?_, fun j h1 h2 => ?_, fun j h1 => ?_, fun z hz => ?_, t5⟩
    · rw [X_Arr_fillL_c7_6_e, xm_br_f, xm_ix_n (by omega) (by omega), nI_1, t1]
      show ¬ nI 9 ≤ nI i
      exact nI_ge (by omega) (by omega)
    · by_cases e : j = i
      · subst e
        rw [t3 j (by omega), sL_same]
      · exact t2 j (by omega) h2
    · rw [t3 j (by omega), sL_row _ _ (by omega)]
    · rw [t4 z hz, sL_cell _ _ _ hz]
theorem fl_7 (d : Nat) (x : Int64) (σ : Sg) : ∃ τ, X_Arr_fillL_c7 d x σ = some (none, τ) ∧ (∀ j, j < 9 → τ.2 7 j = x) ∧ (∀ z, z ≠ 7 → τ.2 z = σ.2 z) ∧ τ.1 = σ.1 := by
  obtain ⟨τ, t1, t2, -, t4, t5⟩ := fl_7_l d x 9 0 σ (by omega)
  exact ⟨τ, by rw [X_Arr_fillL_c7_e]; exact t1, fun j hj => t2 j (by omega) hj, t4, t5⟩
theorem fl_20_l (d : Nat) (x : Int32) : ∀ (k i : Nat) (σ : Sg), i + k = 4 → ∃ τ, X_Arr_fillI_c20_5 d x (nI i) 4 σ = some (none, τ) ∧ (∀ j, i ≤ j → j < 4 → τ.1 20 j = x) ∧ (∀ j, j < i → τ.1 20 j = σ.1 20 j) ∧ (∀ z, z ≠ 20 → τ.1 z = σ.1 z) ∧ τ.2 = σ.2
  | 0, i, σ, h => by
    refine ⟨σ, ?_, fun j h1 h2 => by omega, fun _ _ => rfl, fun _ _ => rfl, rfl⟩
    rw [X_Arr_fillI_c20_5_e, xm_br_t]
    show nI 4 ≤ nI i
    exact nI_le (by omega) (by omega)
  | k + 1, i, σ, h => by
    obtain ⟨τ, t1, t2, t3, t4, t5⟩ := fl_20_l d x k (i + 1) (xm_sI σ 20 i x) (by omega)
    refine ⟨τ, ?_, fun j h1 h2 => ?_, fun j h1 => ?_, fun z hz => ?_, t5⟩
    · rw [X_Arr_fillI_c20_5_e, xm_br_f, xm_ix_n (by omega) (by omega), nI_1, t1]
      show ¬ nI 4 ≤ nI i
      exact nI_ge (by omega) (by omega)
    · by_cases e : j = i
      · subst e
        rw [t3 j (by omega), sI_same]
      · exact t2 j (by omega) h2
    · rw [t3 j (by omega), sI_row _ _ (by omega)]
    · rw [t4 z hz, sI_cell _ _ _ hz]
theorem fl_20 (d : Nat) (x : Int32) (σ : Sg) : ∃ τ, X_Arr_fillI_c20 d x σ = some (none, τ) ∧ (∀ j, j < 4 → τ.1 20 j = x) ∧ (∀ z, z ≠ 20 → τ.1 z = σ.1 z) ∧ τ.2 = σ.2 := by
  obtain ⟨τ, t1, t2, -, t4, t5⟩ := fl_20_l d x 4 0 σ (by omega)
  exact ⟨τ, by rw [X_Arr_fillI_c20_e]; exact t1, fun j hj => t2 j (by omega) hj, t4, t5⟩
theorem fl_30_l (d : Nat) (x : Int32) : ∀ (k i : Nat) (σ : Sg), i + k = 12 → ∃ τ, X_Arr_fillI_c30_5 d x (nI i) 12 σ = some (none, τ) ∧ (∀ j, i ≤ j → j < 12 → τ.1 30 j = x) ∧ (∀ j, j < i → τ.1 30 j = σ.1 30 j) ∧ (∀ z, z ≠ 30 → τ.1 z = σ.1 z) ∧ τ.2 = σ.2
  | 0, i, σ, h => by
    refine ⟨σ, ?_, fun j h1 h2 => by omega, fun _ _ => rfl, fun _ _ => rfl, rfl⟩
    rw [X_Arr_fillI_c30_5_e, xm_br_t]
    show nI 12 ≤ nI i
    exact nI_le (by omega) (by omega)
  | k + 1, i, σ, h => by
    obtain ⟨τ, t1, t2, t3, t4, t5⟩ := fl_30_l d x k (i + 1) (xm_sI σ 30 i x) (by omega)
    refine ⟨τ, ?_, fun j h1 h2 => ?_, fun j h1 => ?_, fun z hz => ?_, t5⟩
    · rw [X_Arr_fillI_c30_5_e, xm_br_f, xm_ix_n (by omega) (by omega), nI_1, t1]
      show ¬ nI 12 ≤ nI i
      exact nI_ge (by omega) (by omega)
    · by_cases e : j = i
      · subst e
        rw [t3 j (by omega), sI_same]
      · exact t2 j (by omega) h2
    · rw [t3 j (by omega), sI_row _ _ (by omega)]
    · rw [t4 z hz, sI_cell _ _ _ hz]
theorem fl_30 (d : Nat) (x : Int32) (σ : Sg) : ∃ τ, X_Arr_fillI_c30 d x σ = some (none, τ) ∧ (∀ j, j < 12 → τ.1 30 j = x) ∧ (∀ z, z ≠ 30 → τ.1 z = σ.1 z) ∧ τ.2 = σ.2 := by
  obtain ⟨τ, t1, t2, -, t4, t5⟩ := fl_30_l d x 12 0 σ (by omega)
  exact ⟨τ, by rw [X_Arr_fillI_c30_e]; exact t1, fun j hj => t2 j (by omega) hj, t4, t5⟩
theorem fl_35_l (d : Nat) (x : Int32) : ∀ (k i : Nat) (σ : Sg), i + k = 60 → ∃ τ, X_Arr_fillI_c35_5 d x (nI i) 60 σ = some (none, τ) ∧ (∀ j, i ≤ j → j < 60 → τ.1 35 j = x) ∧ (∀ j, j < i → τ.1 35 j = σ.1 35 j) ∧ (∀ z, z ≠ 35 → τ.1 z = σ.1 z) ∧ τ.2 = σ.2
  | 0, i, σ, h => by
    refine ⟨σ, ?_, fun j h1 h2 => by omega, fun _ _ => rfl, fun _ _ => rfl, rfl⟩
    rw [X_Arr_fillI_c35_5_e, xm_br_t]
    show nI 60 ≤ nI i
    exact nI_le (by omega) (by omega)
  | k + 1, i, σ, h => by
    obtain ⟨τ, t1, t2, t3, t4, t5⟩ := fl_35_l d x k (i + 1) (xm_sI σ 35 i x) (by omega)
    refine ⟨τ, ?_, fun j h1 h2 => ?_, fun j h1 => ?_, fun z hz => ?_, t5⟩
    · rw [X_Arr_fillI_c35_5_e, xm_br_f, xm_ix_n (by omega) (by omega), nI_1, t1]
      show ¬ nI 60 ≤ nI i
      exact nI_ge (by omega) (by omega)
    · by_cases e : j = i
      · subst e
        rw [t3 j (by omega), sI_same]
      · exact t2 j (by omega) h2
    · rw [t3 j (by omega), sI_row _ _ (by omega)]
    · rw [t4 z hz, sI_cell _ _ _ hz]
theorem fl_35 (d : Nat) (x : Int32) (σ : Sg) : ∃ τ, X_Arr_fillI_c35 d x σ = some (none, τ) ∧ (∀ j, j < 60 → τ.1 35 j = x) ∧ (∀ z, z ≠ 35 → τ.1 z = σ.1 z) ∧ τ.2 = σ.2 := by
  obtain ⟨τ, t1, t2, -, t4, t5⟩ := fl_35_l d x 60 0 σ (by omega)
  exact ⟨τ, by rw [X_Arr_fillI_c35_e]; exact t1, fun j hj => t2 j (by omega) hj, t4, t5⟩
theorem fl_36_l (d : Nat) (x : Int32) : ∀ (k i : Nat) (σ : Sg), i + k = 60 → ∃ τ, X_Arr_fillI_c36_5 d x (nI i) 60 σ = some (none, τ) ∧ (∀ j, i ≤ j → j < 60 → τ.1 36 j = x) ∧ (∀ j, j < i → τ.1 36 j = σ.1 36 j) ∧ (∀ z, z ≠ 36 → τ.1 z = σ.1 z) ∧ τ.2 = σ.2
  | 0, i, σ, h => by
    refine ⟨σ, ?_, fun j h1 h2 => by omega, fun _ _ => rfl, fun _ _ => rfl, rfl⟩
    rw [X_Arr_fillI_c36_5_e, xm_br_t]
    show nI 60 ≤ nI i
    exact nI_le (by omega) (by omega)
  | k + 1, i, σ, h => by
    obtain ⟨τ, t1, t2, t3, t4, t5⟩ := fl_36_l d x k (i + 1) (xm_sI σ 36 i x) (by omega)
    refine ⟨τ, ?_, fun j h1 h2 => ?_, fun j h1 => ?_, fun z hz => ?_, t5⟩
    · rw [X_Arr_fillI_c36_5_e, xm_br_f, xm_ix_n (by omega) (by omega), nI_1, t1]
      show ¬ nI 60 ≤ nI i
      exact nI_ge (by omega) (by omega)
    · by_cases e : j = i
      · subst e
        rw [t3 j (by omega), sI_same]
      · exact t2 j (by omega) h2
    · rw [t3 j (by omega), sI_row _ _ (by omega)]
    · rw [t4 z hz, sI_cell _ _ _ hz]
theorem fl_36 (d : Nat) (x : Int32) (σ : Sg) : ∃ τ, X_Arr_fillI_c36 d x σ = some (none, τ) ∧ (∀ j, j < 60 → τ.1 36 j = x) ∧ (∀ z, z ≠ 36 → τ.1 z = σ.1 z) ∧ τ.2 = σ.2 := by
  obtain ⟨τ, t1, t2, -, t4, t5⟩ := fl_36_l d x 60 0 σ (by omega)
  exact ⟨τ, by rw [X_Arr_fillI_c36_e]; exact t1, fun j hj => t2 j (by omega) hj, t4, t5⟩
theorem fl_37_l (d : Nat) (x : Int32) : ∀ (k i : Nat) (σ : Sg), i + k = 60 → ∃ τ, X_Arr_fillI_c37_5 d x (nI i) 60 σ = some (none, τ) ∧ (∀ j, i ≤ j → j < 60 → τ.1 37 j = x) ∧ (∀ j, j < i → τ.1 37 j = σ.1 37 j) ∧ (∀ z, z ≠ 37 → τ.1 z = σ.1 z) ∧ τ.2 = σ.2
  | 0, i, σ, h => by
    refine ⟨σ, ?_, fun j h1 h2 => by omega, fun _ _ => rfl, fun _ _ => rfl, rfl⟩
    rw [X_Arr_fillI_c37_5_e, xm_br_t]
    show nI 60 ≤ nI i
    exact nI_le (by omega) (by omega)
  | k + 1, i, σ, h => by
    obtain ⟨τ, t1, t2, t3, t4, t5⟩ := fl_37_l d x k (i + 1) (xm_sI σ 37 i x) (by omega)
    refine ⟨τ, ?_, fun j h1 h2 => ?_, fun j h1 => ?_, fun z hz => ?_, t5⟩
    · rw [X_Arr_fillI_c37_5_e, xm_br_f, xm_ix_n (by omega) (by omega), nI_1, t1]
      show ¬ nI 60 ≤ nI i
      exact nI_ge (by omega) (by omega)
    · by_cases e : j = i
      · subst e
        rw [t3 j (by omega), sI_same]
      · exact t2 j (by omega) h2
    · rw [t3 j (by omega), sI_row _ _ (by omega)]
    · rw [t4 z hz, sI_cell _ _ _ hz]
theorem fl_37 (d : Nat) (x : Int32) (σ : Sg) : ∃ τ, X_Arr_fillI_c37 d x σ = some (none, τ) ∧ (∀ j, j < 60 → τ.1 37 j = x) ∧ (∀ z, z ≠ 37 → τ.1 z = σ.1 z) ∧ τ.2 = σ.2 := by
  obtain ⟨τ, t1, t2, -, t4, t5⟩ := fl_37_l d x 60 0 σ (by omega)
  exact ⟨τ, by rw [X_Arr_fillI_c37_e]; exact t1, fun j hj => t2 j (by omega) hj, t4, t5⟩
theorem fl_38_l (d : Nat) (x : Int32) : ∀ (k i : Nat) (σ : Sg), i + k = 60 → ∃ τ, X_Arr_fillI_c38_5 d x (nI i) 60 σ = some (none, τ) ∧ (∀ j, i ≤ j → j < 60 → τ.1 38 j = x) ∧ (∀ j, j < i → τ.1 38 j = σ.1 38 j) ∧ (∀ z, z ≠ 38 → τ.1 z = σ.1 z) ∧ τ.2 = σ.2
  | 0, i, σ, h => by
    refine ⟨σ, ?_, fun j h1 h2 => by omega, fun _ _ => rfl, fun _ _ => rfl, rfl⟩
    rw [X_Arr_fillI_c38_5_e, xm_br_t]
    show nI 60 ≤ nI i
    exact nI_le (by omega) (by omega)
  | k + 1, i, σ, h => by
    obtain ⟨τ, t1, t2, t3, t4, t5⟩ := fl_38_l d x k (i + 1) (xm_sI σ 38 i x) (by omega)
    refine ⟨τ, ?_, fun j h1 h2 => ?_, fun j h1 => ?_, fun z hz => ?_, t5⟩
    · rw [X_Arr_fillI_c38_5_e, xm_br_f, xm_ix_n (by omega) (by omega), nI_1, t1]
      show ¬ nI 60 ≤ nI i
      exact nI_ge (by omega) (by omega)
    · by_cases e : j = i
      · subst e
        rw [t3 j (by omega), sI_same]
      · exact t2 j (by omega) h2
    · rw [t3 j (by omega), sI_row _ _ (by omega)]
    · rw [t4 z hz, sI_cell _ _ _ hz]
theorem fl_38 (d : Nat) (x : Int32) (σ : Sg) : ∃ τ, X_Arr_fillI_c38 d x σ = some (none, τ) ∧ (∀ j, j < 60 → τ.1 38 j = x) ∧ (∀ z, z ≠ 38 → τ.1 z = σ.1 z) ∧ τ.2 = σ.2 := by
  obtain ⟨τ, t1, t2, -, t4, t5⟩ := fl_38_l d x 60 0 σ (by omega)
  exact ⟨τ, by rw [X_Arr_fillI_c38_e]; exact t1, fun j hj => t2 j (by omega) hj, t4, t5⟩
