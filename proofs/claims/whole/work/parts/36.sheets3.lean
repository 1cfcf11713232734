/-! SHEETS, on: sheet, copy -/
theorem C_renew (d : Nat) {s : Nat} (f z : Int32) (σ : Sg) (hs : s < 4) : ∃ τ, X_Sheets_renew (d + 1) (nI s) f z σ = some (none, τ) ∧ (∀ j, j < 60 → τ.1 (35 + s) j = 0) ∧ (∀ c, c ≠ 35 + s → τ.1 c = (xm_sI (xm_sI σ 32 s f) 33 s z).1 c) ∧ τ.2 = σ.2 := by
  rw [X_Sheets_renew_e, xm_ix_n hs (by omega), xm_ix_n hs (by omega)]
  rcases s4 hs with rfl | rfl | rfl | rfl
  · obtain ⟨τ, t1, t2, t3, t4⟩ := fl_35 d 0 (xm_sI (xm_sI σ 32 0 f) 33 0 z)
    exact ⟨τ, by rw [xm_br_t (by decide), t1, xm_cV_s], t2, t3, t4⟩
  · obtain ⟨τ, t1, t2, t3, t4⟩ := fl_36 d 0 (xm_sI (xm_sI σ 32 1 f) 33 1 z)
    exact ⟨τ, by rw [xm_br_f (by decide), xm_br_t (by decide), t1, xm_cV_s], t2, t3, t4⟩
  · obtain ⟨τ, t1, t2, t3, t4⟩ := fl_37 d 0 (xm_sI (xm_sI σ 32 2 f) 33 2 z)
    exact ⟨τ, by rw [xm_br_f (by decide), xm_br_f (by decide), xm_br_t (by decide), t1, xm_cV_s], t2, t3, t4⟩
  · obtain ⟨τ, t1, t2, t3, t4⟩ := fl_38 d 0 (xm_sI (xm_sI σ 32 3 f) 33 3 z)
    exact ⟨τ, by rw [xm_br_f (by decide), xm_br_f (by decide), xm_br_f (by decide), xm_br_t (by decide), t1, xm_cV_s], t2, t3, t4⟩
theorem C_msheet (d : Nat) {s : Nat} (z : Nat) (hs : s < 4) (hz : z ≤ 60) : ∀ (k i : Nat) (σ : Sg), i + k = z → ∃ τ, X_Mod_sheet_55 d (nI s) (nI z) (nI i) σ = some (some (.int (nI z)), τ) ∧ (∀ j, i ≤ j → j < z → τ.1 42 (60 * s + j) = 0) ∧ (∀ j, (j < 60 * s + i ∨ 60 * s + z ≤ j) → τ.1 42 j = σ.1 42 j) ∧ (∀ c, c ≠ 42 → τ.1 c = σ.1 c) ∧ τ.2 = σ.2
  | 0, i, σ, h => by
    refine ⟨σ, ?_, fun j h1 h2 => by omega, fun _ _ => rfl, fun _ _ => rfl, rfl⟩
    rw [X_Mod_sheet_55_e, xm_br_t (nI_le (by omega) (by omega))]
  | k + 1, i, σ, h => by
    obtain ⟨τ, t1, t2, t3, t4, t5⟩ := C_msheet d z hs hz k (i + 1) (xm_sI σ 42 (60 * s + i) 0) (by omega)
    refine ⟨τ, ?_, fun j h1 h2 => ?_, fun j h1 => ?_, fun c hc => ?_, t5⟩
    · rw [X_Mod_sheet_55_e, xm_br_f (nI_ge (by omega) (by omega)), nI_row, xm_ix_n (by omega) (by omega), nI_1, t1]
    · by_cases e : j = i
      · subst e
        rw [t3 _ (by omega), sI_same]
      · exact t2 j (by omega) h2
    · rw [t3 j (by omega), sI_row _ _ (by omega)]
    · rw [t4 c hc, sI_cell _ _ _ hc]
theorem O_sheet {σ : Sg} (h : ShA σ) (d : Nat) (x f n : Int32) : OpI (X_TO_sheet (d + 4) x f n) (X_Mod_sheet (d + 4) x f n) (ShP σ) σ := by
  unfold OpI
  rw [X_TO_sheet_e, C_shHolds, xm_cI_s]
  have hm : ∀ τ, inR x 4 → inR f 3 → X_Mod_sheet (d + 4) x f n τ = xm_br (n ≤ 60) (xm_br (0 ≤ n) (xm_ix x 4 (fun j5 => xm_ix x 4 (fun j6 => X_Mod_sheet_55 (d + 4) x n 0 (xm_sI (xm_sI τ 40 j5 f) 41 j6 n)))) (xm_cI (X_Mod_met (d + 3) 5 τ) (fun r8 σ7 => some (some (.int r8), σ7)))) (some (some (.int (-2)), τ)) := by
    intro τ h1 h2
    rw [X_Mod_sheet_e, C_isSheet, xm_cI_s, xm_br_b h1, C_inF, xm_cI_s, xm_br_b h2]
  by_cases hx : inR x 4
  · have hx0 := hx
    obtain ⟨s, hs, rfl⟩ := hx
    rw [xm_br_b hx0, C_isForm, xm_cI_s]
    by_cases hf : inR f 3
    · rw [xm_br_b hf]
      by_cases h60 : n ≤ 60
      · rw [xm_br_t h60]
        by_cases h0 : 0 ≤ n
        · rw [xm_br_t h0]
          obtain ⟨z, hz, rfl⟩ : ∃ z, z ≤ 60 ∧ n = nI z := by
            obtain ⟨j, hj, e⟩ := (inR_iff (x := n) (n := 61) (by omega)).mpr (by
              rw [fa_le] at h0 h60
              have a : (0 : Int) ≤ n.toInt := h0
              have b : n.toInt ≤ (60 : Int) := h60
              omega)
            exact ⟨j, by omega, e⟩
          obtain ⟨τ, t1, t2, t3, t4⟩ := C_renew (d + 2) f (nI z) σ hs
          rw [t1, xm_cV_s]
          obtain ⟨υ, u1, u2, u3, u4, u5⟩ := C_msheet (d + 4) z hs hz z 0 (xm_sI (xm_sI τ 40 s f) 41 s (nI z)) (by omega)
          refine ⟨_, _, υ, rfl, ?_, ?_, ?_⟩
          · rw [hm τ hx0 hf, xm_br_t h60, xm_br_t h0, xm_ix_n hs (by omega), xm_ix_n hs (by omega)]
            exact u1
          · have e : ∀ c, c ≠ 42 → c ≠ 41 → c ≠ 40 → υ.1 c = τ.1 c := fun c a1 a2 a3 => by rw [u4 c a1, sI_cell _ _ _ a2, sI_cell _ _ _ a3]
            have e2 : ∀ c, c ≠ 35 + s → c ≠ 33 → c ≠ 32 → τ.1 c = σ.1 c := fun c a1 a2 a3 => by rw [t3 c a1, sI_cell _ _ _ a2, sI_cell _ _ _ a3]
            have f32 : τ.1 32 = (xm_sI σ 32 s f).1 32 := by rw [t3 32 (by omega), sI_cell _ _ _ (by decide)]
            have f33 : τ.1 33 = (xm_sI (xm_sI σ 32 s f) 33 s (nI z)).1 33 := t3 33 (by omega)
            have f40 : υ.1 40 = (xm_sI τ 40 s f).1 40 := by rw [u4 40 (by decide), sI_cell _ _ _ (by decide)]
            have f41 : υ.1 41 = (xm_sI (xm_sI τ 40 s f) 41 s (nI z)).1 41 := u4 41 (by decide)
            refine ⟨?_, fun u hu => ?_⟩
            · rw [e 31 (by decide) (by decide) (by decide), e 39 (by decide) (by decide) (by decide), e2 31 (by omega) (by decide) (by decide), e2 39 (by omega) (by decide) (by decide)]
              exact h.1
            · obtain ⟨g1, g2, g3, y, g4, g5, g6⟩ := h.2 u hu
              rw [e 32 (by decide) (by decide) (by decide), e 33 (by decide) (by decide) (by decide), f32, f33, f40, f41, sI_at, sI_at, sI_at, sI_at, sI_cell σ _ _ (by decide : (33 : Nat) ≠ 32), sI_cell τ _ _ (by decide : (41 : Nat) ≠ 40), e2 40 (by omega) (by decide) (by decide), e2 41 (by omega) (by decide) (by decide)]
              by_cases hus : u = s
              · subst hus
                rw [if_pos rfl, if_pos rfl, if_pos rfl, if_pos rfl]
                refine ⟨rfl, Or.inr hf, rfl, z, hz, rfl, fun k hk => ?_⟩
                rw [e (35 + u) (by omega) (by omega) (by omega), t2 k (by omega), u2 k (by omega) hk]
              · rw [if_neg hus, if_neg hus, if_neg hus, if_neg hus]
                refine ⟨g1, g2, g3, y, g4, g5, fun k hk => ?_⟩
                rw [e (35 + u) (by omega) (by omega) (by omega), e2 (35 + u) (by omega) (by omega) (by omega), u3 _ (by omega), sI_cell _ _ _ (by decide : (42 : Nat) ≠ 41), sI_cell _ _ _ (by decide : (42 : Nat) ≠ 40), e2 42 (by omega) (by decide) (by decide)]
                exact g6 k hk
          · refine ⟨fun c hc h9 => ?_, fun j hj => ?_, by rw [u5]; exact t4⟩
            · have hc' : ∀ k, k ∈ WSh → c ≠ k := fun k hk e => hc (e ▸ hk)
              rw [u4 c (hc' 42 (by decide)), sI_cell _ _ _ (hc' 41 (by decide)), sI_cell _ _ _ (hc' 40 (by decide)), t3 c (hc' _ (by rcases s4 hs with rfl | rfl | rfl | rfl <;> decide)), sI_cell _ _ _ (hc' 33 (by decide)), sI_cell _ _ _ (hc' 32 (by decide))]
            · rw [u4 39 (by decide), sI_cell _ _ _ (by decide), sI_cell _ _ _ (by decide), t3 39 (by omega), sI_cell _ _ _ (by decide), sI_cell _ _ _ (by decide)]
        · rw [xm_br_f h0, C_finding, xm_cI_s]
          refine ⟨_, _, xm_sI (xm_sI σ 31 3 5) 39 4 5, rfl, ?_, h.find 5⟩
          rw [hm _ hx0 hf, xm_br_t h60, xm_br_f h0, C_met, xm_cI_s]
      · rw [xm_br_f h60]
        refine ⟨_, _, σ, rfl, ?_, h, Ex.rf _ _ _⟩
        rw [hm _ hx0 hf, xm_br_f h60]
    · rw [xm_br_n hf]
      refine ⟨_, _, σ, rfl, ?_, h, Ex.rf _ _ _⟩
      rw [X_Mod_sheet_e, C_isSheet, xm_cI_s, xm_br_b hx0, C_inF, xm_cI_s, xm_br_n hf]
  · rw [xm_br_n hx]
    refine ⟨_, _, σ, rfl, ?_, h, Ex.rf _ _ _⟩
    rw [X_Mod_sheet_e, C_isSheet, xm_cI_s, xm_br_n hx]
