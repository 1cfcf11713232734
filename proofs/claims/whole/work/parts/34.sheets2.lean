/-! SHEETS, on: lay, get, sheet, copy -/
noncomputable def flt (f0 z f i : Int32) : Int32 := @ite Int32 (f0 = -1) (Classical.propDecidable _) 1 (@ite Int32 (f0 = f) (Classical.propDecidable _) (@ite Int32 (0 ≤ i ∧ i < z) (Classical.propDecidable _) 0 2) 3)
theorem C_faultOf (d : Nat) {s : Nat} (f i : Int32) (σ : Sg) (hs : s < 4) : X_Sheets_faultOf (d + 1) (nI s) f i σ = some (some (.int (flt (σ.1 32 s) (σ.1 33 s) f i)), σ) := by
  rw [X_Sheets_faultOf_e, C_isLost _ _ hs, xm_cI_s]
  unfold flt
  by_cases hl : σ.1 32 s = -1
  · rw [xm_br_b hl, if_pos hl]
  · rw [xm_br_n hl, if_neg hl, xm_ix_n hs (by omega)]
    by_cases hf : σ.1 32 s = f
    · rw [xm_br_t hf, if_pos hf]
      by_cases h0 : i < 0
      · rw [xm_br_t h0, if_neg]
        rintro ⟨q, -⟩
        rw [fa_lt] at h0; rw [fa_le] at q
        omega
      · rw [xm_br_f h0, xm_ix_n hs (by omega)]
        by_cases h1 : i < σ.1 33 s
        · rw [xm_br_t h1, if_pos ⟨fa_of_nlt h0, h1⟩]
        · rw [xm_br_f h1, if_neg (fun q => h1 q.2)]
    · rw [xm_br_f hf, if_neg hf]
theorem flt_ne (f0 z f i : Int32) : flt f0 z f i = 0 ∨ flt f0 z f i = 1 ∨ flt f0 z f i = 2 ∨ flt f0 z f i = 3 := by
  unfold flt
  by_cases h1 : f0 = -1
  · rw [if_pos h1]; simp
  · rw [if_neg h1]
    by_cases h2 : f0 = f
    · rw [if_pos h2]
      by_cases h3 : 0 ≤ i ∧ i < z
      · rw [if_pos h3]; simp
      · rw [if_neg h3]; simp
    · rw [if_neg h2]; simp
theorem C_lacks (d : Nat) {s : Nat} (f i : Int32) (σ : Sg) (hs : s < 4) (hf : σ.1 40 s = -1 ∨ inR (σ.1 40 s) 3) (hz : ∃ z, z ≤ 60 ∧ σ.1 41 s = nI z) :
    (flt (σ.1 40 s) (σ.1 41 s) f i = 0 → X_Mod_lacks (d + 1) (nI s) f i σ = some (some (.int 0), σ)) ∧ (¬ flt (σ.1 40 s) (σ.1 41 s) f i = 0 → X_Mod_lacks (d + 1) (nI s) f i σ = some (some (.int ((-10) - flt (σ.1 40 s) (σ.1 41 s) f i)), xm_sI σ 39 4 (flt (σ.1 40 s) (σ.1 41 s) f i))) := by
  rw [X_Mod_lacks_e, xm_ix_n hs (by omega)]
  unfold flt
  rcases hf with hf | hf
  · rw [if_pos hf]
    refine ⟨fun h => absurd h i10, fun _ => ?_⟩
    rw [xm_br_f (by rw [hf]; exact m1_neg), C_met, xm_cI_s]
  · obtain ⟨g1, g2⟩ := form_nn hf
    rw [if_neg g2, xm_br_t g1, xm_ix_n hs (by omega)]
    by_cases he : σ.1 40 s = f
    · rw [if_pos he, xm_br_t he, xm_ix_n hs (by omega)]
      have h9 := C_in32 d i 0 (σ.1 41 s - 1) σ
      rw [show ((0 : Int32).toInt64) = 0 from rfl] at h9
      rw [h9, xm_cI_s]
      obtain ⟨z, hz1, hz2⟩ := hz
      have key : (0 ≤ i ∧ i ≤ σ.1 41 s - 1) ↔ (0 ≤ i ∧ i < σ.1 41 s) := by
        rw [hz2]
        constructor
        · rintro ⟨a, b⟩
          refine ⟨a, ?_⟩
          by_cases z0 : z = 0
          · subst z0
            exfalso
            rw [fa_le] at a b
            have b : i.toInt ≤ -1 := b
            have a : (0 : Int) ≤ i.toInt := a
            omega
          · rw [nI_m1 (by omega), fa_le, nI_toInt (by omega)] at b
            rw [fa_lt, nI_toInt (by omega)]
            omega
        · rintro ⟨a, b⟩
          refine ⟨a, ?_⟩
          rw [fa_le] at a
          have a : (0 : Int) ≤ i.toInt := a
          rw [fa_lt, nI_toInt (by omega)] at b
          rw [nI_m1 (by omega), fa_le, nI_toInt (by omega)]
          omega
      rw [bI_c key]
      by_cases h3 : 0 ≤ i ∧ i < σ.1 41 s
      · rw [if_pos h3, xm_br_b h3]
        exact ⟨fun _ => rfl, fun h => absurd rfl h⟩
      · rw [if_neg h3, xm_br_n h3, C_met, xm_cI_s]
        exact ⟨fun h => absurd h (by decide), fun _ => rfl⟩
    · rw [if_neg he, xm_br_f he, C_met, xm_cI_s]
      exact ⟨fun h => absurd h (by decide), fun _ => rfl⟩
theorem flt_0 {f0 z f i : Int32} (h : flt f0 z f i = 0) : f0 ≠ -1 ∧ f0 = f ∧ 0 ≤ i ∧ i < z := by
  unfold flt at h
  by_cases h1 : f0 = -1
  · rw [if_pos h1] at h; exact absurd h i10
  · rw [if_neg h1] at h
    by_cases h2 : f0 = f
    · rw [if_pos h2] at h
      by_cases h3 : 0 ≤ i ∧ i < z
      · exact ⟨h1, h2, h3⟩
      · rw [if_neg h3] at h; exact absurd h (by decide)
    · rw [if_neg h2] at h; exact absurd h (by decide)
theorem in_row {x : Int32} {z : Nat} (hz : z < 2 ^ 31) (h : 0 ≤ x ∧ x < nI z) : ∃ j, j < z ∧ x = nI j := by
  apply (inR_iff hz).mpr
  rw [fa_le, fa_lt, nI_toInt hz] at h
  exact h
theorem nI_row (s i : Nat) : 60 * nI s + nI i = nI (60 * s + i) := by
  rw [← nI_add, ← pk_mul]
  rfl
theorem O_get {σ : Sg} (h : ShA σ) (d : Nat) (x f i : Int32) : OpI (X_TO_get (d + 4) x f i) (X_Mod_get (d + 4) x f i) (ShP σ) σ := by
  unfold OpI
  rw [X_TO_get_e, C_shHolds, xm_cI_s]
  by_cases hx : inR x 4
  · have hx0 := hx
    obtain ⟨s, hs, rfl⟩ := hx
    obtain ⟨h1, h2, h3, z, h4, h5, h6⟩ := h.2 s hs
    rw [xm_br_b hx0, C_isForm, xm_cI_s]
    by_cases hf : inR f 3
    · rw [xm_br_b hf, C_faultOf _ _ _ _ hs, xm_cI_s]
      have hL : ∀ τ : Sg, τ.1 40 = σ.1 40 → τ.1 41 = σ.1 41 → τ.1 39 = σ.1 39 → X_Mod_get (d + 4) (nI s) f i τ = xm_cI (X_Mod_lacks (d + 3) (nI s) f i τ) (fun r6 σ5 => xm_br (r6 = 0) (xm_ix (60 * nI s + i) 240 (fun j7 => some (some (.int (σ5.1 42 j7)), σ5))) (some (some (.int (-2147483648)), σ5))) := by
        intro τ _ _ _
        rw [X_Mod_get_e, C_isSheet, xm_cI_s, xm_br_b hx0, C_inF, xm_cI_s, xm_br_b hf]
      by_cases hq : flt (σ.1 32 s) (σ.1 33 s) f i = 0
      · obtain ⟨q1, q2, q3⟩ := flt_0 hq
        obtain ⟨j, hj, rfl⟩ := in_row (z := z) (by omega) (by rw [← h5]; exact q3)
        rw [xm_br_t hq, C_item _ _ hs (by omega), xm_cI_s]
        refine ⟨_, _, σ, rfl, ?_, h, Ex.rf _ _ _⟩
        rw [hL σ rfl rfl rfl, (C_lacks (d + 2) f (nI j) σ hs (by rw [← h1]; exact h2) ⟨z, h4, by rw [← h3]; exact h5⟩).1 (by rw [← h1, ← h3]; exact hq), xm_cI_s, xm_br_t rfl, nI_row, xm_ix_n (by omega) (by omega), h6 j hj]
      · rw [xm_br_f hq, C_finding, xm_cI_s]
        refine ⟨_, _, xm_sI (xm_sI σ 31 3 (flt (σ.1 32 s) (σ.1 33 s) f i)) 39 4 (flt (σ.1 32 s) (σ.1 33 s) f i), rfl, ?_, h.find _⟩
        have e40 : (xm_sI σ 31 3 (flt (σ.1 32 s) (σ.1 33 s) f i)).1 40 s = σ.1 32 s := by rw [sI_cell _ _ _ (by decide), h1]
        have e41 : (xm_sI σ 31 3 (flt (σ.1 32 s) (σ.1 33 s) f i)).1 41 s = σ.1 33 s := by rw [sI_cell _ _ _ (by decide), h3]
        have hk := (C_lacks (d + 2) f i (xm_sI σ 31 3 (flt (σ.1 32 s) (σ.1 33 s) f i)) hs (by rw [e40]; exact h2) ⟨z, h4, by rw [e41]; exact h5⟩).2
        rw [e40, e41] at hk
        rw [X_Mod_get_e, C_isSheet, xm_cI_s, xm_br_b hx0, C_inF, xm_cI_s, xm_br_b hf, hk hq, xm_cI_s, xm_br_f]
        rcases flt_ne (σ.1 32 s) (σ.1 33 s) f i with e | e | e | e
        · exact absurd e hq
        · rw [e]; decide
        · rw [e]; decide
        · rw [e]; decide
    · rw [xm_br_n hf]
      refine ⟨_, _, σ, rfl, ?_, h, Ex.rf _ _ _⟩
      rw [X_Mod_get_e, C_isSheet, xm_cI_s, xm_br_b hx0, C_inF, xm_cI_s, xm_br_n hf]
  · rw [xm_br_n hx]
    refine ⟨_, _, σ, rfl, ?_, h, Ex.rf _ _ _⟩
    rw [X_Mod_get_e, C_isSheet, xm_cI_s, xm_br_n hx]
/-- one item laid on both sides -/
theorem ShA.put {σ : Sg} (h : ShA σ) {s i : Nat} (v : Int32) (hs : s < 4) (hi : i < 60) : ShA (xm_sI (xm_sI σ (35 + s) i v) 42 (60 * s + i) v) := by
  have e : ∀ c, c ≠ 35 + s → c ≠ 42 → (xm_sI (xm_sI σ (35 + s) i v) 42 (60 * s + i) v).1 c = σ.1 c := fun c h1 h2 => by rw [sI_cell _ _ _ h2, sI_cell _ _ _ h1]
  refine ⟨?_, fun u hu => ?_⟩
  · rw [e 31 (by omega) (by decide), e 39 (by omega) (by decide)]
    exact h.1
  · obtain ⟨g1, g2, g3, y, g4, g5, g6⟩ := h.2 u hu
    rw [e 32 (by omega) (by decide), e 40 (by omega) (by decide), e 33 (by omega) (by decide), e 41 (by omega) (by decide)]
    refine ⟨g1, g2, g3, y, g4, g5, fun k hk => ?_⟩
    rw [sI_cell _ _ _ (show 35 + u ≠ 42 by omega), sI_at, sI_cell _ _ _ (show (42 : Nat) ≠ 35 + s by omega)]
    by_cases hus : u = s
    · subst hus
      rw [sI_at]
      by_cases hki : k = i
      · rw [if_pos hki, if_pos (by omega)]
      · rw [if_neg hki, if_neg (by omega)]
        exact g6 k hk
    · rw [sI_cell _ _ _ (show 35 + u ≠ 35 + s by omega), if_neg (by omega)]
      exact g6 k hk
theorem Ex.put {σ τ : Sg} (h : Ex WSh [4] σ τ) {s i j : Nat} {v w : Int32} (hs : s < 4) : Ex WSh [4] σ (xm_sI (xm_sI τ (35 + s) i v) 42 j w) :=
  (h.sI (by rcases s4 hs with rfl | rfl | rfl | rfl <;> decide) (by omega)).sI (by decide) (by decide)
theorem O_lay {σ : Sg} (h : ShA σ) (d : Nat) (x f i v : Int32) : OpI (X_TO_lay (d + 4) x f i v) (X_Mod_lay (d + 4) x f i v) (ShP σ) σ := by
  unfold OpI
  rw [X_TO_lay_e, C_shHolds, xm_cI_s]
  by_cases hx : inR x 4
  · have hx0 := hx
    obtain ⟨s, hs, rfl⟩ := hx
    obtain ⟨h1, h2, h3, z, h4, h5, h6⟩ := h.2 s hs
    rw [xm_br_b hx0, C_isForm, xm_cI_s]
    by_cases hf : inR f 3
    · rw [xm_br_b hf, C_faultOf _ _ _ _ hs, xm_cI_s]
      by_cases hq : flt (σ.1 32 s) (σ.1 33 s) f i = 0
      · obtain ⟨q1, q2, q3⟩ := flt_0 hq
        obtain ⟨j, hj, rfl⟩ := in_row (z := z) (by omega) (by rw [← h5]; exact q3)
        rw [xm_br_t hq, C_put _ _ _ hs (by omega), xm_cV_s]
        refine ⟨_, _, xm_sI (xm_sI σ (35 + s) j (cutF (σ.1 32 s) v)) 42 (60 * s + j) (cutF (σ.1 32 s) v), rfl, ?_, h.put _ hs (by omega), (Ex.rf _ _ _).put hs⟩
        have e40 : (xm_sI σ (35 + s) j (cutF (σ.1 32 s) v)).1 40 s = σ.1 32 s := by rw [sI_cell _ _ _ (by omega), h1]
        have e41 : (xm_sI σ (35 + s) j (cutF (σ.1 32 s) v)).1 41 s = σ.1 33 s := by rw [sI_cell _ _ _ (by omega), h3]
        have hk := (C_lacks (d + 2) f (nI j) (xm_sI σ (35 + s) j (cutF (σ.1 32 s) v)) hs (by rw [e40]; exact h2) ⟨z, h4, by rw [e41]; exact h5⟩).1
        rw [e40, e41] at hk
        rw [X_Mod_lay_e, C_isSheet, xm_cI_s, xm_br_b hx0, C_inF, xm_cI_s, xm_br_b hf, hk hq, xm_cI_s, xm_br_t rfl, C_cut, xm_cI_s, nI_row, xm_ix_n (by omega) (by omega), q2]
      · rw [xm_br_f hq, C_finding, xm_cI_s]
        refine ⟨_, _, xm_sI (xm_sI σ 31 3 (flt (σ.1 32 s) (σ.1 33 s) f i)) 39 4 (flt (σ.1 32 s) (σ.1 33 s) f i), rfl, ?_, h.find _⟩
        have e40 : (xm_sI σ 31 3 (flt (σ.1 32 s) (σ.1 33 s) f i)).1 40 s = σ.1 32 s := by rw [sI_cell _ _ _ (by decide), h1]
        have e41 : (xm_sI σ 31 3 (flt (σ.1 32 s) (σ.1 33 s) f i)).1 41 s = σ.1 33 s := by rw [sI_cell _ _ _ (by decide), h3]
        have hk := (C_lacks (d + 2) f i (xm_sI σ 31 3 (flt (σ.1 32 s) (σ.1 33 s) f i)) hs (by rw [e40]; exact h2) ⟨z, h4, by rw [e41]; exact h5⟩).2
        rw [e40, e41] at hk
        rw [X_Mod_lay_e, C_isSheet, xm_cI_s, xm_br_b hx0, C_inF, xm_cI_s, xm_br_b hf, hk hq, xm_cI_s, xm_br_f]
        rcases flt_ne (σ.1 32 s) (σ.1 33 s) f i with e | e | e | e
        · exact absurd e hq
        · rw [e]; decide
        · rw [e]; decide
        · rw [e]; decide
    · rw [xm_br_n hf]
      refine ⟨_, _, σ, rfl, ?_, h, Ex.rf _ _ _⟩
      rw [X_Mod_lay_e, C_isSheet, xm_cI_s, xm_br_b hx0, C_inF, xm_cI_s, xm_br_n hf]
  · rw [xm_br_n hx]
    refine ⟨_, _, σ, rfl, ?_, h, Ex.rf _ _ _⟩
    rw [X_Mod_lay_e, C_isSheet, xm_cI_s, xm_br_n hx]
