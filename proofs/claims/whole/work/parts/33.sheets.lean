/-! SHEETS: sheet, lose, lay, get -/
def WSh : List Nat := [31, 32, 33, 35, 36, 37, 38, 40, 41, 42, 43]
theorem s4 {s : Nat} (h : s < 4) : s = 0 ∨ s = 1 ∨ s = 2 ∨ s = 3 := by omega
theorem C_shHolds (d : Nat) (x : Int32) (σ : Sg) : X_Sheets_holds d x σ = some (some (.int (bI (inR x 4))), σ) := by
  rw [X_Sheets_holds_e]
  by_cases h0 : x < 0
  · rw [xm_br_t h0, bI_f]
    rw [inR_iff (by omega)]
    rw [fa_lt] at h0
    have : x.toInt < 0 := h0
    omega
  · rw [xm_br_f h0]
    rw [fa_lt] at h0
    have h0 : ¬ x.toInt < 0 := h0
    by_cases h1 : 4 ≤ x
    · rw [xm_br_t h1, bI_f]
      rw [inR_iff (by omega)]
      rw [fa_le] at h1
      have : (4 : Int) ≤ x.toInt := h1
      omega
    · rw [xm_br_f h1, bI_t]
      rw [inR_iff (by omega)]
      rw [fa_le] at h1
      have : ¬ (4 : Int) ≤ x.toInt := h1
      omega
theorem C_isSheet (d : Nat) (x : Int32) (σ : Sg) : X_Mod_isSheet (d + 1) x σ = some (some (.int (bI (inR x 4))), σ) := by
  rw [X_Mod_isSheet_e]
  have h := C_in32 d x 0 3 σ
  rw [show ((0 : Int32).toInt64) = 0 from rfl, show ((3 : Int32).toInt64) = 3 from rfl] at h
  rw [h, xm_cI_s, xm_bo_b, bI_c]
  rw [inR_iff (by omega), fa_le, fa_le]
  show (0 : Int) ≤ x.toInt ∧ x.toInt ≤ 3 ↔ _
  omega
theorem C_isForm (d : Nat) (x : Int32) (σ : Sg) : X_Sheets_isForm d x σ = some (some (.int (bI (inR x 3))), σ) := by
  rw [X_Sheets_isForm_e]
  by_cases h0 : x < 0
  · rw [xm_br_t h0, bI_f]
    rw [inR_iff (by omega)]
    rw [fa_lt] at h0
    have : x.toInt < 0 := h0
    omega
  · rw [xm_br_f h0]
    rw [fa_lt] at h0
    have h0 : ¬ x.toInt < 0 := h0
    by_cases h1 : 2 < x
    · rw [xm_br_t h1, bI_f]
      rw [inR_iff (by omega)]
      rw [fa_lt] at h1
      have : (2 : Int) < x.toInt := h1
      omega
    · rw [xm_br_f h1, bI_t]
      rw [inR_iff (by omega)]
      rw [fa_lt] at h1
      have : ¬ (2 : Int) < x.toInt := h1
      omega
theorem C_inF (d : Nat) (x : Int32) (σ : Sg) : X_Mod_in d x.toInt64 0 2 σ = some (some (.int (bI (inR x 3))), σ) := by
  have h := C_in32 d x 0 2 σ
  rw [show ((0 : Int32).toInt64) = 0 from rfl, show ((2 : Int32).toInt64) = 2 from rfl] at h
  rw [h, bI_c]
  rw [inR_iff (by omega), fa_le, fa_le]
  show (0 : Int) ≤ x.toInt ∧ x.toInt ≤ 2 ↔ _
  omega
theorem form_nn {x : Int32} (h : inR x 3) : 0 ≤ x ∧ x ≠ -1 := by
  obtain ⟨j, hj, rfl⟩ := h
  refine ⟨nI_pos' (by omega), ?_⟩
  rcases (show j = 0 ∨ j = 1 ∨ j = 2 by omega) with rfl | rfl | rfl <;> decide
theorem m1_neg : ¬ (0 : Int32) ≤ -1 := by decide
theorem C_isLost (d : Nat) {s : Nat} (σ : Sg) (hs : s < 4) : X_Sheets_isLost d (nI s) σ = some (some (.int (bI (σ.1 32 s = -1))), σ) := by
  rw [X_Sheets_isLost_e, xm_ix_n hs (by omega)]
  by_cases h : σ.1 32 s = -1
  · rw [xm_br_t h, bI_t h]
  · rw [xm_br_f h, bI_f h]
theorem C_finding (d : Nat) (x : Int32) (σ : Sg) : X_Sheets_finding d x σ = some (some (.int ((-10) - x)), xm_sI σ 31 3 x) := X_Sheets_finding_e d x σ
theorem C_met (d : Nat) (x : Int32) (σ : Sg) : X_Mod_met d x σ = some (some (.int ((-10) - x)), xm_sI σ 39 4 x) := X_Mod_met_e d x σ
theorem C_item (d : Nat) {s i : Nat} (σ : Sg) (hs : s < 4) (hi : i < 60) : X_Sheets_item d (nI s) (nI i) σ = some (some (.int (σ.1 (35 + s) i)), σ) := by
  rw [X_Sheets_item_e]
  rcases s4 hs with rfl | rfl | rfl | rfl
  · rw [xm_br_t (by decide), xm_ix_n hi (by omega)]
  · rw [xm_br_f (by decide), xm_br_t (by decide), xm_ix_n hi (by omega)]
  · rw [xm_br_f (by decide), xm_br_f (by decide), xm_br_t (by decide), xm_ix_n hi (by omega)]
  · rw [xm_br_f (by decide), xm_br_f (by decide), xm_br_f (by decide), xm_br_t (by decide), xm_ix_n hi (by omega)]
/-- the lowest bits that an item of a form has -/
noncomputable def cutF (f v : Int32) : Int32 := @ite Int32 (f = 0) (Classical.propDecidable _) v.toInt8.toInt32 (@ite Int32 (f = 1) (Classical.propDecidable _) v.toInt16.toInt32 v)
theorem C_put (d : Nat) {s i : Nat} (v : Int32) (σ : Sg) (hs : s < 4) (hi : i < 60) : X_Sheets_put d (nI s) (nI i) v σ = some (none, xm_sI σ (35 + s) i (cutF (σ.1 32 s) v)) := by
  rw [X_Sheets_put_e, xm_ix_n hs (by omega)]
  unfold cutF
  by_cases h0 : σ.1 32 s = 0
  · rw [xm_br_t h0, if_pos h0]
    rcases s4 hs with rfl | rfl | rfl | rfl
    · rw [xm_br_t (by decide), xm_ix_n hi (by omega), X_Sheets_put_54_e]
    · rw [xm_br_f (by decide), xm_br_t (by decide), xm_ix_n hi (by omega), X_Sheets_put_54_e]
    · rw [xm_br_f (by decide), xm_br_f (by decide), xm_br_t (by decide), xm_ix_n hi (by omega), X_Sheets_put_54_e]
    · rw [xm_br_f (by decide), xm_br_f (by decide), xm_br_f (by decide), xm_br_t (by decide), xm_ix_n hi (by omega), X_Sheets_put_54_e]
  · rw [xm_br_f h0, if_neg h0, xm_ix_n hs (by omega)]
    by_cases h1 : σ.1 32 s = 1
    · rw [xm_br_t h1, if_pos h1]
      rcases s4 hs with rfl | rfl | rfl | rfl
      · rw [xm_br_t (by decide), xm_ix_n hi (by omega), X_Sheets_put_54_e]
      · rw [xm_br_f (by decide), xm_br_t (by decide), xm_ix_n hi (by omega), X_Sheets_put_54_e]
      · rw [xm_br_f (by decide), xm_br_f (by decide), xm_br_t (by decide), xm_ix_n hi (by omega), X_Sheets_put_54_e]
      · rw [xm_br_f (by decide), xm_br_f (by decide), xm_br_f (by decide), xm_br_t (by decide), xm_ix_n hi (by omega), X_Sheets_put_54_e]
    · rw [xm_br_f h1, if_neg h1]
      rcases s4 hs with rfl | rfl | rfl | rfl
      · rw [xm_br_t (by decide), xm_ix_n hi (by omega), X_Sheets_put_54_e]
      · rw [xm_br_f (by decide), xm_br_t (by decide), xm_ix_n hi (by omega), X_Sheets_put_54_e]
      · rw [xm_br_f (by decide), xm_br_f (by decide), xm_br_t (by decide), xm_ix_n hi (by omega), X_Sheets_put_54_e]
      · rw [xm_br_f (by decide), xm_br_f (by decide), xm_br_f (by decide), xm_br_t (by decide), xm_ix_n hi (by omega), X_Sheets_put_54_e]
theorem C_cut (d : Nat) (f v : Int32) (σ : Sg) : X_Mod_cut d f v σ = some (some (.int (cutF f v)), σ) := by
  rw [X_Mod_cut_e]
  unfold cutF
  by_cases h0 : f = 0
  · rw [xm_br_t h0, if_pos h0]
  · rw [xm_br_f h0, if_neg h0]
    by_cases h1 : f = 1
    · rw [xm_br_t h1, if_pos h1]
    · rw [xm_br_f h1, if_neg h1]
/-- an answer of both, and the world behind it -/
def OpI (f g : Sg → Oz) (P : Sg → Prop) (σ : Sg) : Prop := ∃ r σ1 σ2, f σ = some (some (.int r), σ1) ∧ g σ1 = some (some (.int r), σ2) ∧ P σ2
def OpL (f g : Sg → Oz) (P : Sg → Prop) (σ : Sg) : Prop := ∃ r σ1 σ2, f σ = some (some (.long r), σ1) ∧ g σ1 = some (some (.long r), σ2) ∧ P σ2
def ShP (σ : Sg) : Sg → Prop := fun τ => ShA τ ∧ Ex WSh [4] σ τ
theorem ShA.find {σ : Sg} (h : ShA σ) (x : Int32) : ShP σ (xm_sI (xm_sI σ 31 3 x) 39 4 x) := by
  refine ⟨?_, ((Ex.rf _ _ _).sI (by decide) (by decide)).sM (by decide)⟩
  refine ⟨?_, fun s hs => ?_⟩
  · rw [sI_same, sI_cell _ _ _ (by decide), sI_same]
  · have e : ∀ c, c ≠ 31 → c ≠ 39 → (xm_sI (xm_sI σ 31 3 x) 39 4 x).1 c = σ.1 c := fun c h1 h2 => by rw [sI_cell _ _ _ h2, sI_cell _ _ _ h1]
    rw [e 32 (by decide) (by decide), e 40 (by decide) (by decide), e 33 (by decide) (by decide), e 41 (by decide) (by decide), e (35 + s) (by omega) (by omega), e 42 (by decide) (by decide)]
    exact h.2 s hs
theorem O_lose {σ : Sg} (h : ShA σ) (d : Nat) (x : Int32) : OpI (X_TO_lose (d + 3) x) (X_Mod_lose (d + 3) x) (ShP σ) σ := by
  unfold OpI
  rw [X_TO_lose_e, C_shHolds, xm_cI_s]
  by_cases hx : inR x 4
  · obtain ⟨s, hs, rfl⟩ := hx
    have hx : inR (nI s) 4 := ⟨s, hs, rfl⟩
    obtain ⟨h1, h2, h3, z, h4, h5, h6⟩ := h.2 s hs
    rw [xm_br_b hx, C_isLost _ _ hs, xm_cI_s]
    by_cases hl : σ.1 32 s = -1
    · rw [xm_br_b hl, C_finding, xm_cI_s]
      refine ⟨_, _, xm_sI (xm_sI σ 31 3 1) 39 4 1, rfl, ?_, h.find 1⟩
      have hf : ¬ 0 ≤ (xm_sI σ 31 3 1).1 40 s := by
        rw [sI_cell _ _ _ (by decide), ← h1, hl]
        exact m1_neg
      rw [X_Mod_lose_e, C_isSheet, xm_cI_s, xm_br_b hx, xm_ix_n hs (by omega), xm_br_f hf, C_met, xm_cI_s]
    · rw [xm_br_n hl, xm_ix_n hs (by omega), xm_ix_n hs (by omega)]
      have hf := form_nn (h2.resolve_left hl)
      refine ⟨_, _, xm_sI (xm_sI σ 32 s (-1)) 40 s (-1), rfl, ?_, ?_⟩
      · have hf' : 0 ≤ (xm_sI σ 32 s (-1)).1 40 s := by
          rw [sI_cell _ _ _ (by decide), ← h1]
          exact hf.1
        rw [X_Mod_lose_e, C_isSheet, xm_cI_s, xm_br_b hx, xm_ix_n hs (by omega), xm_br_t hf', xm_ix_n hs (by omega), xm_ix_n hs (by omega), sI_cell _ _ _ (by decide : (41 : Nat) ≠ 32), h3]
      · refine ⟨⟨?_, fun u hu => ?_⟩, ((Ex.rf _ _ _).sI (by decide) (by decide)).sI (by decide) (by decide)⟩
        · rw [sI_cell _ _ _ (by decide), sI_cell _ _ _ (by decide), sI_cell _ _ _ (by decide), sI_cell _ _ _ (by decide)]
          exact h.1
        · obtain ⟨g1, g2, g3, y, g4, g5, g6⟩ := h.2 u hu
          have e : ∀ c, c ≠ 32 → c ≠ 40 → (xm_sI (xm_sI σ 32 s (-1)) 40 s (-1)).1 c = σ.1 c := fun c h1 h2 => by rw [sI_cell _ _ _ h2, sI_cell _ _ _ h1]
          rw [e 33 (by decide) (by decide), e 41 (by decide) (by decide), e (35 + u) (by omega) (by omega), e 42 (by decide) (by decide), sI_cell _ _ _ (by decide : (32 : Nat) ≠ 40), sI_at, sI_at, sI_cell _ _ _ (by decide : (40 : Nat) ≠ 32)]
          refine ⟨?_, ?_, g3, y, g4, g5, g6⟩
          · by_cases hus : u = s
            · rw [if_pos hus, if_pos hus]
            · rw [if_neg hus, if_neg hus]; exact g1
          · by_cases hus : u = s
            · rw [if_pos hus]; exact Or.inl rfl
            · rw [if_neg hus]; exact g2
  · rw [xm_br_n hx]
    refine ⟨_, _, σ, rfl, ?_, h, Ex.rf _ _ _⟩
    rw [X_Mod_lose_e, C_isSheet, xm_cI_s, xm_br_n hx]
