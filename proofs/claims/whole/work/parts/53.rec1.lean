/-! RECORDS: the checks; who counts -/
theorem C_rHolds {r : Nat} (d : Nat) (x : Int32) (σ : Sg) (hn : r < 2 ^ 31) (h : σ.1 9 9 = nI r) : X_Records_holds d x σ = some (some (.int (bI (inR x r))), σ) := by
  rw [X_Records_holds_e, h]
  by_cases h0 : x < 0
  · rw [xm_br_t h0, bI_f]
    rw [inR_iff hn]
    rw [fa_lt] at h0
    have : x.toInt < 0 := h0
    omega
  · rw [xm_br_f h0]
    rw [fa_lt] at h0
    have h0 : ¬ x.toInt < 0 := h0
    by_cases h1 : nI r ≤ x
    · rw [xm_br_t h1, bI_f]
      rw [inR_iff hn]
      rw [fa_le, nI_toInt hn] at h1
      omega
    · rw [xm_br_f h1, bI_t]
      rw [inR_iff hn]
      rw [fa_le, nI_toInt hn] at h1
      omega
theorem C_isRecord {r : Nat} (d : Nat) (x : Int32) (σ : Sg) (hn : r < 2 ^ 31) (h : σ.1 39 26 = nI r) : X_Mod_isRecord (d + 1) x σ = some (some (.int (bI (inR x r))), σ) := by
  rw [X_Mod_isRecord_e, h]
  have h9 := C_in32 d x 0 (nI r - 1) σ
  rw [show ((0 : Int32).toInt64) = 0 from rfl] at h9
  rw [h9, xm_cI_s, xm_bo_b, bI_c]
  rw [inR_iff hn]
  by_cases hr : r = 0
  · subst hr
    rw [fa_le, fa_le]
    show (0 : Int) ≤ x.toInt ∧ x.toInt ≤ -1 ↔ _
    omega
  · rw [nI_m1 (by omega), fa_le, fa_le, nI_toInt (by omega)]
    show (0 : Int) ≤ x.toInt ∧ _ ↔ _
    omega
theorem C_nextDay (d : Nat) (x : Int32) (σ : Sg) : X_Records_isNextDay d x σ = some (some (.int (bI (σ.1 9 10 ≤ x ∧ x ≤ 99))), σ) := by
  rw [X_Records_isNextDay_e]
  by_cases h1 : x < σ.1 9 10
  · rw [xm_br_t h1, bI_f]
    rintro ⟨h, -⟩
    exact (fa_of_lt h1).2.1 h
  · rw [xm_br_f h1]
    by_cases h2 : 99 < x
    · rw [xm_br_t h2, bI_f]
      rintro ⟨-, h⟩
      exact (fa_of_lt h2).2.1 h
    · rw [xm_br_f h2, bI_t ⟨fa_of_nlt h1, fa_of_nlt h2⟩]
theorem C_mday (d : Nat) (x : Int32) (σ : Sg) : X_Mod_in d x.toInt64 ((σ.1 39 35).toInt64) 99 σ = some (some (.int (bI (σ.1 39 35 ≤ x ∧ x ≤ 99))), σ) := C_in32 d x (σ.1 39 35) 99 σ
/-- whether record j counts, as of day x, by what is told of it -/
def ctP (x dy bk br : Int32) (cb : Nat → Int32) (j : Nat) : Prop := dy ≤ x ∧ x < bk ∧ (br = -1 ∨ ∃ b, b < j ∧ br = nI b ∧ cb b = 1)
theorem bI_0 {p : Prop} : bI p = 0 ↔ ¬ p := by
  by_cases h : p
  · rw [bI_t h]; exact ⟨fun q => absurd q i10, fun q => absurd h q⟩
  · rw [bI_f h]; exact ⟨fun _ => h, fun _ => rfl⟩
theorem bI_1 {p : Prop} : bI p = 1 ↔ p := by
  by_cases h : p
  · rw [bI_t h]; exact ⟨fun _ => h, fun _ => rfl⟩
  · rw [bI_f h]; exact ⟨fun q => absurd q.symm i10, fun q => absurd q h⟩
theorem C_lk7 (d : Nat) {r : Nat} (x : Int32) (hr : r ≤ 24) : ∀ (k i : Nat) (σ : Sg), i + k = r → σ.1 9 9 = nI r → (∀ j, j < r → σ.1 10 j = -1 ∨ ∃ b, b < j ∧ σ.1 10 j = nI b) → (∀ j, j < i → σ.1 18 j = 0 ∨ σ.1 18 j = 1) → ∃ τ, X_Records_look_7 d x (nI i) σ = some (none, τ) ∧ (∀ c, c ≠ 18 → τ.1 c = σ.1 c) ∧ τ.2 = σ.2 ∧ (∀ j, j < i → τ.1 18 j = σ.1 18 j) ∧ ∀ j, i ≤ j → j < r → τ.1 18 j = bI (ctP x (σ.1 13 j) (σ.1 14 j) (σ.1 10 j) (τ.1 18) j)
  | 0, i, σ, hi, h9, hb, hc => by
    refine ⟨σ, ?_, fun _ _ => rfl, rfl, fun _ _ => rfl, fun j h1 h2 => by omega⟩
    rw [X_Records_look_7_e, h9, xm_br_t (nI_le (by omega) (by omega))]
  | k + 1, i, σ, hi, h9, hb, hc => by
    -- the value that comes to place i
    have hv : X_Records_look_7 d x (nI i) σ = X_Records_look_7 d x (nI (i + 1)) (xm_sI σ 18 i (bI (ctP x (σ.1 13 i) (σ.1 14 i) (σ.1 10 i) (σ.1 18) i))) := by
      rw [X_Records_look_7_e, h9, xm_br_f (nI_ge (by omega) (by omega)), nI_1]
      simp only [xm_ix_n (show i < 24 by omega) (show 24 < 2 ^ 31 by omega)]
      by_cases q1 : x < σ.1 13 i
      · rw [xm_br_t q1, bI_f]
        rintro ⟨a, -⟩
        exact (fa_of_lt q1).2.1 a
      rw [xm_br_f q1]
      by_cases q2 : σ.1 14 i ≤ x
      · rw [xm_br_t q2, bI_f]
        rintro ⟨-, a, -⟩
        exact (fa_of_lt a).2.1 q2
      rw [xm_br_f q2]
      by_cases q3 : σ.1 10 i = -1
      · rw [xm_br_t q3, bI_t ⟨fa_of_nlt q1, fa_of_nle q2, Or.inl q3⟩]
      rw [xm_br_f q3]
      obtain ⟨b, hbi, eb⟩ := (hb i (by omega)).resolve_left q3
      rw [eb, xm_ix_n (show b < 24 by omega) (by omega)]
      rcases hc b hbi with e | e
      · rw [e, xm_br_t rfl, bI_f]
        rintro ⟨-, -, a | ⟨b', hb', e', a⟩⟩
        · exact nI_nm1 (show b < 2 ^ 31 by omega) a
        · have := (nI_eq (by omega) (by omega)).mp e'
          subst this
          rw [e] at a
          exact i10 a.symm
      · rw [e, xm_br_f i10, bI_t ⟨fa_of_nlt q1, fa_of_nle q2, Or.inr ⟨b, hbi, rfl, e⟩⟩]
    obtain ⟨τ, t1, t2, t3, t4, t5⟩ := C_lk7 d x hr k (i + 1) (xm_sI σ 18 i (bI (ctP x (σ.1 13 i) (σ.1 14 i) (σ.1 10 i) (σ.1 18) i))) (by omega) (by rw [sI_cell _ _ _ (by decide)]; exact h9) (fun j hj => by rw [sI_cell _ _ _ (by decide)]; exact hb j hj) (fun j hj => by
      rw [sI_at]
      by_cases e : j = i
      · rw [if_pos e]; exact bI_01 _
      · rw [if_neg e]; exact hc j (by omega))
    refine ⟨τ, hv.trans t1, fun c hc => by rw [t2 c hc, sI_cell _ _ _ hc], t3, fun j hj => by rw [t4 j (by omega), sI_row _ _ (by omega)], fun j h1 h2 => ?_⟩
    by_cases e : j = i
    · subst e
      rw [t4 j (by omega), sI_same]
      refine bI_c ?_
      unfold ctP
      refine and_congr_right fun _ => and_congr_right fun _ => or_congr_right ?_
      constructor
      · rintro ⟨b, hb1, hb2, hb3⟩
        exact ⟨b, hb1, hb2, by rw [t4 b (by omega), sI_row _ _ (by omega)]; exact hb3⟩
      · rintro ⟨b, hb1, hb2, hb3⟩
        rw [t4 b (by omega), sI_row _ _ (by omega)] at hb3
        exact ⟨b, hb1, hb2, hb3⟩
    · rw [t5 j (by omega) h2, sI_cell _ _ _ (by decide), sI_cell _ _ _ (by decide), sI_cell _ _ _ (by decide)]
theorem C_look (d : Nat) {r : Nat} (x : Int32) (hr : r ≤ 24) (σ : Sg) (h9 : σ.1 9 9 = nI r) (hb : ∀ j, j < r → σ.1 10 j = -1 ∨ ∃ b, b < j ∧ σ.1 10 j = nI b) : ∃ τ, X_Records_look d x σ = some (none, τ) ∧ (∀ c, c ≠ 18 → c ≠ 9 → τ.1 c = σ.1 c) ∧ (∀ j, j ≠ 11 → τ.1 9 j = σ.1 9 j) ∧ τ.1 9 11 = x ∧ τ.2 = σ.2 ∧ ∀ j, j < r → τ.1 18 j = bI (ctP x (σ.1 13 j) (σ.1 14 j) (σ.1 10 j) (τ.1 18) j) := by
  obtain ⟨τ, t1, t2, t3, t4, t5⟩ := C_lk7 d x hr r 0 (xm_sI σ 9 11 x) (by omega) (by rw [sI_row _ _ (by decide)]; exact h9) (fun j hj => by rw [sI_cell _ _ _ (by decide)]; exact hb j hj) (fun j hj => by omega)
  refine ⟨τ, ?_, fun c h1 h2 => by rw [t2 c h1, sI_cell _ _ _ h2], fun j hj => by rw [t2 9 (by decide), sI_row _ _ hj], by rw [t2 9 (by decide), sI_same], t3, fun j hj => ?_⟩
  · rw [X_Records_look_e]
    exact t1
  · rw [t5 j (by omega) hj, sI_cell _ _ _ (by decide), sI_cell _ _ _ (by decide), sI_cell _ _ _ (by decide)]
/-- the reference's counts are the class's -/
theorem C_fc2 (d : Nat) {r : Nat} : ∀ (k i : Nat) (σ : Sg), i + k = r → RcA r σ → (∀ j, j < i → σ.1 64 j = σ.1 18 j) → ∃ τ, X_Mod_findCounts_2 d (nI i) σ = some (none, τ) ∧ (∀ c, c ≠ 64 → τ.1 c = σ.1 c) ∧ τ.2 = σ.2 ∧ ∀ j, j < r → τ.1 64 j = σ.1 18 j
  | 0, i, σ, hi, h, hc => by
    have hr := h.1
    refine ⟨σ, ?_, fun _ _ => rfl, rfl, fun j hj => hc j (by omega)⟩
    rw [X_Mod_findCounts_2_e, h.2.2.1, xm_br_t (nI_le (by omega) (by omega))]
  | k + 1, i, σ, hi, h, hc => by
    have hr := h.1
    obtain ⟨⟨a1, a2⟩, -, -, ⟨a3, -⟩, a4, -, -, -, a5⟩ := h.2.2.2.2.2.2.1 i (by omega)
    have ha := h.2.2.2.2.1
    have hv : X_Mod_findCounts_2 d (nI i) σ = X_Mod_findCounts_2 d (nI (i + 1)) (xm_sI σ 64 i (σ.1 18 i)) := by
      rw [X_Mod_findCounts_2_e, h.2.2.1, xm_br_f (nI_ge (by omega) (by omega)), nI_1]
      simp only [xm_ix_n (show i < 24 by omega) (show 24 < 2 ^ 31 by omega)]
      rw [← a1, ← a3, ← ha.1]
      -- the part behind 'told'
      have tail : σ.1 13 i ≤ σ.1 9 11 → σ.1 9 11 < σ.1 14 i → xm_br (σ.1 10 i = -1) (X_Mod_findCounts_2 d (nI (i + 1)) (xm_sI σ 64 i 1)) (xm_ix (σ.1 10 i) 24 fun j7 => xm_br (σ.1 64 j7 = 0) (X_Mod_findCounts_2 d (nI (i + 1)) (xm_sI σ 64 i 0)) (X_Mod_findCounts_2 d (nI (i + 1)) (xm_sI σ 64 i 1))) = X_Mod_findCounts_2 d (nI (i + 1)) (xm_sI σ 64 i (σ.1 18 i)) := by
        intro q1 q2
        rcases a2 with ⟨e, -⟩ | ⟨b, hb, e, -⟩
        · rw [xm_br_t e, a5, bI_t ⟨q1, q2, Or.inl e⟩]
        · rw [xm_br_f (by rw [e]; exact nI_nm1 (by omega)), e, xm_ix_n (show b < 24 by omega) (by omega), hc b hb, a5]
          by_cases q3 : σ.1 18 b = 1
          · rw [q3, xm_br_f i10, bI_t ⟨q1, q2, Or.inr ⟨b, hb, e, q3⟩⟩]
          · have q4 : σ.1 18 b = 0 := by
              have := (h.2.2.2.2.2.2.1 b (by omega)).2.2.2.2.2.2.2.2
              rw [this] at q3 ⊢
              exact bI_0.mpr (fun q => q3 (bI_1.mpr q))
            rw [q4, xm_br_t rfl, bI_f]
            rintro ⟨-, -, a | ⟨b', hb', e', a⟩⟩
            · rw [e] at a; exact nI_nm1 (show b < 2 ^ 31 by omega) a
            · rw [e] at e'
              have := (nI_eq (by omega) (by omega)).mp e'
              subst this
              exact q3 a
      by_cases q1 : σ.1 9 11 < σ.1 13 i
      · rw [xm_br_t q1, a5, bI_f]
        rintro ⟨a, -⟩
        exact (fa_of_lt q1).2.1 a
      rw [xm_br_f q1]
      rcases a4 with ⟨e1, e2⟩ | ⟨e1, j, hj, e2⟩
      · rw [e1, xm_br_t rfl]
        refine tail (fa_of_nlt q1) ?_
        rw [e2]
        obtain ⟨y, hy, ey⟩ := ha.2
        rw [ey]
        exact nI_lt hy (by omega)
      · rw [e1, xm_br_f (by rw [e2]; exact nI_nm1 (by omega))]
        by_cases q2 : σ.1 14 i ≤ σ.1 9 11
        · rw [xm_br_t q2, a5, bI_f]
          rintro ⟨-, a, -⟩
          exact (fa_of_lt a).2.1 q2
        · rw [xm_br_f q2]
          exact tail (fa_of_nlt q1) (fa_of_nle q2)
    have hE : Es σ (xm_sI σ 64 i (σ.1 18 i)) := (Es.rf σ).sI (by decide) (Or.inl (by decide))
    obtain ⟨τ, t1, t2, t3, t4⟩ := C_fc2 d k (i + 1) (xm_sI σ 64 i (σ.1 18 i)) (by omega) (h.es hE) (fun j hj => by
      rw [sI_at, sI_cell _ _ _ (by decide)]
      by_cases e : j = i
      · rw [if_pos e, e]
      · rw [if_neg e]; exact hc j (by omega))
    exact ⟨τ, hv.trans t1, fun c hc => by rw [t2 c hc, sI_cell _ _ _ hc], t3, fun j hj => by rw [t4 j hj, sI_cell _ _ _ (by decide)]⟩
/-- the store behind findCounts -/
def FcP (r : Nat) (σ τ : Sg) : Prop := (∀ c, c ≠ 64 → τ.1 c = σ.1 c) ∧ τ.2 = σ.2 ∧ ∀ j, j < r → τ.1 64 j = σ.1 18 j
theorem C_fc (d : Nat) {r : Nat} {σ : Sg} (h : RcA r σ) : ∃ τ, X_Mod_findCounts d σ = some (none, τ) ∧ FcP r σ τ := by
  obtain ⟨τ, t1, t2, t3, t4⟩ := C_fc2 d r 0 σ (by omega) h (fun j hj => by omega)
  exact ⟨τ, by rw [X_Mod_findCounts_e]; exact t1, t2, t3, t4⟩
theorem FcP.es {r : Nat} {σ τ : Sg} (h : FcP r σ τ) : Es σ τ := by
  refine ⟨fun c hc => h.1 c (by rintro rfl; revert hc; decide), fun j _ => by rw [h.1 39 (by decide)], by rw [h.2.1], by rw [h.2.1]⟩
