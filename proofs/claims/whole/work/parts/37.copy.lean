/-! SHEETS, on: copy -/
def spn (i n : Int32) (z : Nat) : Prop := 0 ≤ n.toInt ∧ 0 ≤ i.toInt ∧ i.toInt + n.toInt ≤ z
theorem C_spans (d : Nat) {s z : Nat} (i n : Int32) (σ : Sg) (hs : s < 4) (hz : z ≤ 60) (h : σ.1 33 s = nI z) : X_Sheets_spans d (nI s) i n σ = some (some (.int (bI (spn i n z))), σ) := by
  rw [X_Sheets_spans_e]
  unfold spn
  by_cases h0 : n < 0
  · rw [xm_br_t h0, bI_f]
    rw [fa_lt] at h0
    have h0 : n.toInt < 0 := h0
    omega
  · rw [xm_br_f h0]
    rw [fa_lt] at h0
    have h0 : ¬ n.toInt < 0 := h0
    by_cases h1 : i < 0
    · rw [xm_br_t h1, bI_f]
      rw [fa_lt] at h1
      have h1 : i.toInt < 0 := h1
      omega
    · rw [xm_br_f h1, xm_ix_n hs (by omega), h]
      rw [fa_lt] at h1
      have h1 : ¬ i.toInt < 0 := h1
      have e : (nI z - n).toInt = z - n.toInt := by
        have hn := Int32.toInt_lt n
        rw [Int32.toInt_sub, nI_toInt (by omega)]
        apply Int.bmod_eq_of_le <;> omega
      by_cases h2 : nI z - n < i
      · rw [xm_br_t h2, bI_f]
        rw [fa_lt, e] at h2
        omega
      · rw [xm_br_f h2, bI_t]
        rw [fa_lt, e] at h2
        omega
theorem C_cp1 (d : Nat) {s i t j n : Nat} (hs : s < 4) (ht : t < 4) (hi : i + n ≤ 60) (hj : j + n ≤ 60) : ∀ (k a : Nat) (σ : Sg), a + k = n → ∃ τ, X_Mod_copy_120 d (nI s) (nI i) (nI t) (nI j) (nI n) (nI a) σ = X_Mod_copy_157 d (nI t) (nI j) (nI n) 0 τ ∧ (∀ b, a ≤ b → b < n → τ.1 43 b = σ.1 42 (60 * s + i + b)) ∧ (∀ b, b < a → τ.1 43 b = σ.1 43 b) ∧ (∀ c, c ≠ 43 → τ.1 c = σ.1 c) ∧ τ.2 = σ.2
  | 0, a, σ, h => by
    refine ⟨σ, ?_, fun b h1 h2 => by omega, fun _ _ => rfl, fun _ _ => rfl, rfl⟩
    rw [X_Mod_copy_120_e, xm_br_t (nI_le (by omega) (by omega))]
  | k + 1, a, σ, h => by
    obtain ⟨τ, t1, t2, t3, t4, t5⟩ := C_cp1 d hs ht hi hj k (a + 1) (xm_sI σ 43 a (σ.1 42 (60 * s + i + a))) (by omega)
    refine ⟨τ, ?_, fun b h1 h2 => ?_, fun b h1 => ?_, fun c hc => ?_, t5⟩
    · rw [X_Mod_copy_120_e, xm_br_f (nI_ge (by omega) (by omega)), nI_row, nI_add, xm_ix_n (by omega) (by omega), xm_ix_n (by omega) (by omega), nI_1, t1]
    · by_cases e : b = a
      · subst e
        rw [t3 b (by omega), sI_same]
      · rw [t2 b (by omega) h2, sI_cell _ _ _ (by decide)]
    · rw [t3 b (by omega), sI_row _ _ (by omega)]
    · rw [t4 c hc, sI_cell _ _ _ hc]
theorem C_cp2 (d : Nat) {t j n : Nat} (ht : t < 4) (hj : j + n ≤ 60) : ∀ (k a : Nat) (σ : Sg), a + k = n → ∃ τ, X_Mod_copy_157 d (nI t) (nI j) (nI n) (nI a) σ = some (some (.int 1), τ) ∧ (∀ b, a ≤ b → b < n → τ.1 42 (60 * t + j + b) = σ.1 43 b) ∧ (∀ b, (b < 60 * t + j + a ∨ 60 * t + j + n ≤ b) → τ.1 42 b = σ.1 42 b) ∧ (∀ c, c ≠ 42 → τ.1 c = σ.1 c) ∧ τ.2 = σ.2
  | 0, a, σ, h => by
    refine ⟨σ, ?_, fun b h1 h2 => by omega, fun _ _ => rfl, fun _ _ => rfl, rfl⟩
    rw [X_Mod_copy_157_e, xm_br_t (nI_le (by omega) (by omega))]
  | k + 1, a, σ, h => by
    obtain ⟨τ, t1, t2, t3, t4, t5⟩ := C_cp2 d ht hj k (a + 1) (xm_sI σ 42 (60 * t + j + a) (σ.1 43 a)) (by omega)
    refine ⟨τ, ?_, fun b h1 h2 => ?_, fun b h1 => ?_, fun c hc => ?_, t5⟩
    · rw [X_Mod_copy_157_e, xm_br_f (nI_ge (by omega) (by omega)), xm_ix_n (by omega) (by omega), nI_row, nI_add, xm_ix_n (by omega) (by omega), nI_1, t1]
    · by_cases e : b = a
      · subst e
        rw [t3 _ (by omega), sI_same]
      · rw [t2 b (by omega) h2, sI_cell _ _ _ (by decide)]
    · rw [t3 b (by omega), sI_row _ _ (by omega)]
    · rw [t4 c hc, sI_cell _ _ _ hc]
theorem yI_row {σ : Sg} {a b sp dp n k : Nat} : (xm_yI σ a b sp dp n).1 b k = if dp ≤ k ∧ k < dp + n then σ.1 a (sp + (k - dp)) else σ.1 b k := by
  unfold xm_yI va_cpy
  simp
theorem yI_cell {σ : Sg} {a b c sp dp n : Nat} (h : c ≠ b) : (xm_yI σ a b sp dp n).1 c = σ.1 c := if_neg h
theorem C_acp {σ : Sg} {s t i j n : Nat} (hs : s < 4) (ht : t < 4) (hi : i + n ≤ 60) (hj : j + n ≤ 60) (K : Nat → Nat → Oz) (hK : ∀ a b, K a b = xm_cp (nI i) (nI j) (nI n) 60 60 (some (some (.int 1), (xm_yI σ a b (nI i).toNatClampNeg (nI j).toNatClampNeg (nI n).toNatClampNeg)))) : K (35 + s) (35 + t) = some (some (.int 1), xm_yI σ (35 + s) (35 + t) i j n) := by
  rw [hK]
  unfold xm_cp
  rw [nI_clamp (by omega), nI_clamp (by omega), nI_clamp (by omega), if_neg]
  rintro (h | h | h | h | h)
  · exact nI_pos (by omega) h
  · exact nI_pos (by omega) h
  · exact nI_pos (by omega) h
  · omega
  · omega
theorem C_rows (x y : Int32) {s t : Nat} (hs : s < 4) (ht : t < 4) (ex : x = nI s) (ey : y = nI t) (K : Nat → Nat → Oz) : xm_br (x = 0) (xm_br (y = 0) (K 35 35) (xm_br (y = 1) (K 35 36) (xm_br (y = 2) (K 35 37) (xm_br (y = 3) (K 35 38) none)))) (xm_br (x = 1) (xm_br (y = 0) (K 36 35) (xm_br (y = 1) (K 36 36) (xm_br (y = 2) (K 36 37) (xm_br (y = 3) (K 36 38) none)))) (xm_br (x = 2) (xm_br (y = 0) (K 37 35) (xm_br (y = 1) (K 37 36) (xm_br (y = 2) (K 37 37) (xm_br (y = 3) (K 37 38) none)))) (xm_br (x = 3) (xm_br (y = 0) (K 38 35) (xm_br (y = 1) (K 38 36) (xm_br (y = 2) (K 38 37) (xm_br (y = 3) (K 38 38) none)))) none))) = K (35 + s) (35 + t) := by
  have row : ∀ k : Nat → Oz, xm_br (y = 0) (k 35) (xm_br (y = 1) (k 36) (xm_br (y = 2) (k 37) (xm_br (y = 3) (k 38) none))) = k (35 + t) := by
    intro k
    subst ey
    rcases s4 ht with rfl | rfl | rfl | rfl
    · rw [xm_br_t (by decide)]
    · rw [xm_br_f (by decide), xm_br_t (by decide)]
    · rw [xm_br_f (by decide), xm_br_f (by decide), xm_br_t (by decide)]
    · rw [xm_br_f (by decide), xm_br_f (by decide), xm_br_f (by decide), xm_br_t (by decide)]
  rw [row (K 35), row (K 36), row (K 37), row (K 38)]
  subst ex
  rcases s4 hs with rfl | rfl | rfl | rfl
  · rw [xm_br_t (by decide)]
  · rw [xm_br_f (by decide), xm_br_t (by decide)]
  · rw [xm_br_f (by decide), xm_br_f (by decide), xm_br_t (by decide)]
  · rw [xm_br_f (by decide), xm_br_f (by decide), xm_br_f (by decide), xm_br_t (by decide)]
theorem spn_of {i n : Int32} {z : Nat} (hz : z ≤ 60) (h : spn i n z) : ∃ a k, i = nI a ∧ n = nI k ∧ a + k ≤ z := by
  obtain ⟨h1, h2, h3⟩ := h
  refine ⟨i.toInt.toNat, n.toInt.toNat, ?_, ?_, by omega⟩
  · apply Int32.toInt_inj.mp
    rw [nI_toInt (by omega)]
    omega
  · apply Int32.toInt_inj.mp
    rw [nI_toInt (by omega)]
    omega
theorem i2l_sum (a b c : Int32) : (a.toInt64 + b.toInt64 ≤ c.toInt64) ↔ a.toInt + b.toInt ≤ c.toInt := by
  rw [fa_le64, lg_i2l_add, Int32.toInt_toInt64]
theorem i2l_sumlt (a b c : Int32) : (c.toInt64 < a.toInt64 + b.toInt64) ↔ c.toInt < a.toInt + b.toInt := by
  rw [fa_lt64, lg_i2l_add, Int32.toInt_toInt64]
theorem C_mspan (d : Nat) {s t z y : Nat} (i j n : Int32) (σ : Sg) (hs : s < 4) (ht : t < 4) (hz : z ≤ 60) (hy : y ≤ 60) (h : σ.1 41 s = nI z) (g : σ.1 41 t = nI y) (A B : Oz) :
    xm_br (i < 0) A (xm_br (j < 0) A (xm_br (n < 0) A (xm_ix (nI s) 4 (fun j9 => xm_br (0 < (lg_cmp (i.toInt64 + n.toInt64) ((σ.1 41 j9).toInt64))) A (xm_ix (nI t) 4 (fun j10 => xm_br ((lg_cmp (j.toInt64 + n.toInt64) ((σ.1 41 j10).toInt64)) ≤ 0) B A)))))) = @ite Oz (spn i n z ∧ spn j n y) (Classical.propDecidable _) B A := by
  have zz : ∀ x : Int32, x < 0 ↔ x.toInt < 0 := fun x => fa_lt x 0
  by_cases h0 : i < 0
  · rw [xm_br_t h0, if_neg]
    rintro ⟨⟨-, q, -⟩, -⟩
    rw [zz] at h0; omega
  rw [xm_br_f h0]
  by_cases h1 : j < 0
  · rw [xm_br_t h1, if_neg]
    rintro ⟨-, ⟨-, q, -⟩⟩
    rw [zz] at h1; omega
  rw [xm_br_f h1]
  by_cases h2 : n < 0
  · rw [xm_br_t h2, if_neg]
    rintro ⟨⟨q, -, -⟩, -⟩
    rw [zz] at h2; omega
  rw [xm_br_f h2, xm_ix_n hs (by omega), h]
  have e1 := i2l_sumlt i n (nI z)
  rw [nI_toInt (by omega)] at e1
  have e2 := i2l_sum j n (nI y)
  rw [nI_toInt (by omega)] at e2
  rw [zz] at h0 h1 h2
  by_cases h3 : (nI z).toInt64 < i.toInt64 + n.toInt64
  · rw [xm_br_t ((lg_cmp_gt _ _).mpr h3), if_neg]
    rintro ⟨⟨-, -, q⟩, -⟩
    have := e1.mp h3
    omega
  rw [xm_br_f (fun q => h3 ((lg_cmp_gt _ _).mp q)), xm_ix_n ht (by omega), g]
  rw [e1] at h3
  by_cases h4 : j.toInt64 + n.toInt64 ≤ (nI y).toInt64
  · rw [xm_br_t ((lg_cmp_le _ _).mpr h4), if_pos]
    rw [e2] at h4
    exact ⟨⟨by omega, by omega, by omega⟩, ⟨by omega, by omega, by omega⟩⟩
  · rw [xm_br_f (fun q => h4 ((lg_cmp_le _ _).mp q)), if_neg]
    rintro ⟨-, ⟨-, -, q⟩⟩
    exact h4 (e2.mpr q)
theorem lt_ge {x : Int32} : x < 0 ↔ ¬ 0 ≤ x := by
  rw [fa_lt, fa_le]
  omega
theorem O_copy {σ : Sg} (h : ShA σ) (d : Nat) (x i y j n : Int32) : OpI (X_TO_copy (d + 4) x i y j n) (X_Mod_copy (d + 4) x i y j n) (ShP σ) σ := by
  unfold OpI
  rw [X_TO_copy_e, C_shHolds, xm_cI_s]
  by_cases hx : inR x 4
  rotate_left
  · rw [xm_br_n hx, X_TO_copy_22_e]
    refine ⟨_, _, σ, rfl, ?_, h, Ex.rf _ _ _⟩
    rw [X_Mod_copy_e, C_isSheet, xm_cI_s, xm_br_n hx, X_Mod_copy_14_e]
  rw [xm_br_b hx, C_shHolds, xm_cI_s]
  by_cases hy : inR y 4
  rotate_left
  · rw [xm_br_n hy, X_TO_copy_22_e]
    refine ⟨_, _, σ, rfl, ?_, h, Ex.rf _ _ _⟩
    rw [X_Mod_copy_e, C_isSheet, xm_cI_s, xm_br_b hx, C_isSheet, xm_cI_s, xm_br_n hy, X_Mod_copy_14_e]
  rw [xm_br_b hy]
  have hx0 := hx
  have hy0 := hy
  obtain ⟨s, hs, rfl⟩ := hx
  obtain ⟨t, ht, rfl⟩ := hy
  obtain ⟨h1, h2, h3, z, h4, h5, h6⟩ := h.2 s hs
  obtain ⟨g1, g2, g3, w, g4, g5, g6⟩ := h.2 t ht
  have null : ∀ τ : Sg, τ.1 40 = σ.1 40 → (σ.1 32 s = -1 ∨ σ.1 32 t = -1) → X_Mod_copy (d + 4) (nI s) i (nI t) j n τ = some (some (.int ((-10) - 1)), xm_sI τ 39 4 1) := by
    intro τ e hl
    rw [X_Mod_copy_e, C_isSheet, xm_cI_s, xm_br_b hx0, C_isSheet, xm_cI_s, xm_br_b hy0, xm_ix_n hs (by omega), e, ← h1]
    by_cases hl1 : σ.1 32 s = -1
    · rw [xm_br_t (by rw [hl1]; decide), X_Mod_copy_35_e, C_met, xm_cI_s]
    · rw [xm_br_f (by rw [lt_ge]; exact fun q => q (form_nn (h2.resolve_left hl1)).1), xm_ix_n ht (by omega), ← g1, xm_br_f (by rw [hl.resolve_left hl1]; exact m1_neg), X_Mod_copy_35_e, C_met, xm_cI_s]
  rw [C_isLost _ _ hs, xm_cI_s]
  by_cases hl1 : σ.1 32 s = -1
  · rw [xm_br_b hl1, X_TO_copy_47_e, C_finding, xm_cI_s]
    exact ⟨_, _, _, rfl, null _ (sI_cell _ _ _ (by decide)) (Or.inl hl1), h.find 1⟩
  rw [xm_br_n hl1, C_isLost _ _ ht, xm_cI_s]
  by_cases hl2 : σ.1 32 t = -1
  · rw [xm_br_b hl2, X_TO_copy_47_e, C_finding, xm_cI_s]
    exact ⟨_, _, _, rfl, null _ (sI_cell _ _ _ (by decide)) (Or.inr hl2), h.find 1⟩
  rw [xm_br_n hl2, xm_ix_n hs (by omega), xm_ix_n ht (by omega)]
  have f1 := (form_nn (h2.resolve_left hl1)).1
  have f2 := (form_nn (g2.resolve_left hl2)).1
  have there : ∀ τ : Sg, τ.1 40 = σ.1 40 → τ.1 41 = σ.1 41 → X_Mod_copy (d + 4) (nI s) i (nI t) j n τ = xm_br (σ.1 32 s = σ.1 32 t) (@ite Oz (spn i n z ∧ spn j n w) (Classical.propDecidable _) (X_Mod_copy_120 (d + 4) (nI s) i (nI t) j n 0 τ) (X_Mod_copy_111 (d + 4) τ)) (xm_cI (X_Mod_met (d + 3) 4 τ) (fun r12 σ11 => some (some (.int r12), σ11))) := by
    intro τ e e'
    rw [X_Mod_copy_e, C_isSheet, xm_cI_s, xm_br_b hx0, C_isSheet, xm_cI_s, xm_br_b hy0, xm_ix_n hs (by omega), e, ← h1, xm_br_f (by rw [lt_ge]; exact fun q => q f1), xm_ix_n ht (by omega), ← g1, xm_br_t f2, xm_ix_n hs (by omega), xm_ix_n ht (by omega), ← h1, ← g1]
    rw [C_mspan d i j n τ hs ht h4 g4 (by rw [e', ← h3]; exact h5) (by rw [e', ← g3]; exact g5)]
  by_cases hf : σ.1 32 s = σ.1 32 t
  rotate_left
  · rw [xm_br_f hf, C_finding, xm_cI_s]
    refine ⟨_, _, xm_sI (xm_sI σ 31 3 4) 39 4 4, rfl, ?_, h.find 4⟩
    rw [there _ (sI_cell _ _ _ (by decide)) (sI_cell _ _ _ (by decide)), xm_br_f hf, C_met, xm_cI_s]
  rw [xm_br_t hf, C_spans _ _ _ _ hs h4 h5, xm_cI_s]
  have bad : ¬ (spn i n z ∧ spn j n w) → X_Mod_copy (d + 4) (nI s) i (nI t) j n (xm_sI σ 31 3 2) = some (some (.int ((-10) - 2)), xm_sI (xm_sI σ 31 3 2) 39 4 2) := by
    intro hb
    rw [there _ (sI_cell _ _ _ (by decide)) (sI_cell _ _ _ (by decide)), xm_br_t hf, if_neg hb, X_Mod_copy_111_e, C_met, xm_cI_s]
  by_cases k1 : spn i n z
  rotate_left
  · rw [xm_br_n k1, X_TO_copy_115_e, C_finding, xm_cI_s]
    exact ⟨_, _, _, rfl, bad (fun q => k1 q.1), h.find 2⟩
  rw [xm_br_b k1, C_spans _ _ _ _ ht g4 g5, xm_cI_s]
  by_cases k2 : spn j n w
  rotate_left
  · rw [xm_br_n k2, X_TO_copy_115_e, C_finding, xm_cI_s]
    exact ⟨_, _, _, rfl, bad (fun q => k2 q.2), h.find 2⟩
  rw [xm_br_b k2]
  have k12 := And.intro k1 k2
  obtain ⟨a, k, rfl, rfl, ha⟩ := spn_of h4 k1
  obtain ⟨b, k', rfl, ek, hb⟩ := spn_of g4 k2
  have ekk : k' = k := by
    have q1 : a + k ≤ 60 := by omega
    have q2 : b + k' ≤ 60 := by omega
    exact ((nI_eq (by omega) (by omega)).mp ek).symm
  subst ekk
  rw [C_rows (nI s) (nI t) hs ht rfl rfl (fun p q => xm_cp (nI a) (nI b) (nI k') 60 60 (some (some (.int 1), (xm_yI σ p q (nI a).toNatClampNeg (nI b).toNatClampNeg (nI k').toNatClampNeg)))), C_acp (σ := σ) hs ht (by omega) (by omega) _ (fun _ _ => rfl)]
  obtain ⟨τ, t1, t2, t3, t4, t5⟩ := C_cp1 (d + 4) hs ht (by omega : a + k' ≤ 60) (by omega : b + k' ≤ 60) k' 0 (xm_yI σ (35 + s) (35 + t) a b k') (by omega)
  obtain ⟨υ, u1, u2, u3, u4, u5⟩ := C_cp2 (d + 4) ht (by omega : b + k' ≤ 60) k' 0 τ (by omega)
  have hy' : ∀ c, c ≠ 35 + t → (xm_yI σ (35 + s) (35 + t) a b k').1 c = σ.1 c := fun c hc => yI_cell hc
  refine ⟨_, _, υ, rfl, ?_, ?_, ?_⟩
  · rw [there _ (hy' 40 (by omega)) (hy' 41 (by omega)), xm_br_t hf, if_pos k12]
    exact t1.trans u1
  · have e : ∀ c, c ≠ 42 → c ≠ 43 → c ≠ 35 + t → υ.1 c = σ.1 c := fun c a1 a2 a3 => by rw [u4 c a1, t4 c a2, hy' c a3]
    refine ⟨?_, fun u hu => ?_⟩
    · rw [e 31 (by decide) (by decide) (by omega), e 39 (by decide) (by decide) (by omega)]
      exact h.1
    · obtain ⟨q1, q2, q3, y, q4, q5, q6⟩ := h.2 u hu
      rw [e 32 (by decide) (by decide) (by omega), e 33 (by decide) (by decide) (by omega), e 40 (by decide) (by decide) (by omega), e 41 (by decide) (by decide) (by omega)]
      refine ⟨q1, q2, q3, y, q4, q5, fun v hv => ?_⟩
      by_cases hut : u = t
      · subst hut
        rw [u4 _ (by omega), t4 _ (by omega), yI_row]
        by_cases hin : b ≤ v ∧ v < b + k'
        · rw [if_pos hin]
          have := u2 (v - b) (by omega) (by omega)
          rw [show 60 * u + b + (v - b) = 60 * u + v by omega] at this
          rw [this, t2 (v - b) (by omega) (by omega), hy' 42 (by omega), h6 (a + (v - b)) (by omega), Nat.add_assoc]
        · rw [if_neg hin, u3 _ (by omega), t4 42 (by decide), hy' 42 (by omega)]
          exact q6 v hv
      · rw [e (35 + u) (by omega) (by omega) (by omega), u3 _ (by omega), t4 42 (by decide), hy' 42 (by omega)]
        exact q6 v hv
  · refine ⟨fun c hc h9 => ?_, fun v hv => ?_, by rw [u5, t5]; rfl⟩
    · have hc' : ∀ k, k ∈ WSh → c ≠ k := fun k hk e => hc (e ▸ hk)
      rw [u4 c (hc' 42 (by decide)), t4 c (hc' 43 (by decide)), hy' c (hc' _ (by rcases s4 ht with rfl | rfl | rfl | rfl <;> decide))]
    · rw [u4 39 (by decide), t4 39 (by decide), hy' 39 (by omega)]
