/-! WRITE: ties of a person come to a sheet -/
theorem NtA.cells {n K : Nat} {T : Nat → Nat} {σ τ : Sg} (h : NtA n T K σ) (e1 : τ.1 1 = σ.1 1) (e2 : τ.1 2 = σ.1 2) (e39 : τ.1 39 5 = σ.1 39 5) (e44 : τ.1 44 = σ.1 44) (e45 : τ.1 45 = σ.1 45) : NtA n T K τ := by
  unfold NtA
  rw [e1, e2, e39, e44, e45]
  exact h
theorem NtA.sI {n K : Nat} {T : Nat → Nat} {σ : Sg} (h : NtA n T K σ) {k j : Nat} {x : Int32} (hk : k ∉ [1, 2, 39, 44, 45]) : NtA n T K (xm_sI σ k j x) := by
  have e : ∀ c, c ∈ [1, 2, 39, 44, 45] → (xm_sI σ k j x).1 c = σ.1 c := fun c hc => sI_cell _ _ _ (fun q => hk (q ▸ hc))
  exact h.cells (e 1 (by decide)) (e 2 (by decide)) (by rw [e 39 (by decide)]) (e 44 (by decide)) (e 45 (by decide))
theorem NtA.sL {n K : Nat} {T : Nat → Nat} {σ : Sg} (h : NtA n T K σ) {k j : Nat} {x : Int64} : NtA n T K (xm_sL σ k j x) := h
theorem cutF_b {f : Int32} {b : Nat} (hb : b < 2) : cutF f (nI b) = nI b := by
  unfold cutF
  by_cases h0 : f = 0
  · rw [if_pos h0]
    rcases (show b = 0 ∨ b = 1 by omega) with rfl | rfl <;> decide
  · rw [if_neg h0]
    by_cases h1 : f = 1
    · rw [if_pos h1]
      rcases (show b = 0 ∨ b = 1 by omega) with rfl | rfl <;> decide
    · rw [if_neg h1]
theorem C_wr (d : Nat) {n K : Nat} {T : Nat → Nat} {p s m : Nat} (hp : p < n) (hs : s < 4) (hm : m ≤ n) : ∀ (k i : Nat) (σ : Sg), i + k = m → NtA n T K σ → ∃ τ, X_TO_write_68 (d + 3) (nI p) (nI s) (nI m) (nI i) σ = some (some (.int (nI m)), τ) ∧ (∀ j, i ≤ j → j < m → τ.1 (35 + s) j = nI (T p / 2 ^ j % 2)) ∧ (∀ j, j < i ∨ m ≤ j → τ.1 (35 + s) j = σ.1 (35 + s) j) ∧ (∀ c, c ≠ 35 + s → τ.1 c = σ.1 c) ∧ τ.2 = σ.2
  | 0, i, σ, hi, h => by
    have hn := h.1
    refine ⟨σ, ?_, fun j h1 h2 => by omega, fun _ _ => rfl, fun _ _ => rfl, rfl⟩
    rw [X_TO_write_68_e, xm_br_t (nI_le (by omega) (by omega))]
  | k + 1, i, σ, hi, h => by
    have hn := h.1
    obtain ⟨τ, t1, t2, t3, t4, t5⟩ := C_wr d hp hs hm k (i + 1) (xm_sI σ (35 + s) i (nI (T p / 2 ^ i % 2))) (by omega) (h.sI (by rcases s4 hs with rfl | rfl | rfl | rfl <;> decide))
    have e : X_TO_write_68 (d + 3) (nI p) (nI s) (nI m) (nI i) σ = some (some (.int (nI m)), τ) := by
      rw [X_TO_write_68_e, xm_br_f (nI_ge (by omega) (by omega)), C_tied h _ hp (by omega), xm_cI_s]
      have hc := C_put (d + 2) (nI (T p / 2 ^ i % 2)) σ hs (show i < 60 by omega)
      rw [cutF_b (Nat.mod_lt _ (by omega))] at hc
      rcases Nat.mod_two_eq_zero_or_one (T p / 2 ^ i) with e | e
      · rw [e] at hc t1 ⊢
        rw [xm_br_t nI_0, show (0 : Int32) = nI 0 from rfl, hc, xm_cV_s, nI_1, t1]
      · rw [e] at hc t1 ⊢
        rw [xm_br_f (by decide), show (1 : Int32) = nI 1 from rfl, hc, xm_cV_s, nI_add, t1]
    refine ⟨τ, e, fun j h1 h2 => ?_, fun j h1 => ?_, fun c hc => ?_, t5⟩
    · by_cases hj : j = i
      · subst hj
        rw [t3 j (by omega), sI_same]
      · exact t2 j (by omega) h2
    · rw [t3 j (by omega), sI_row _ _ (by omega)]
    · rw [t4 c hc, sI_cell _ _ _ hc]
theorem C_mwr (d : Nat) {n K : Nat} {T : Nat → Nat} {p s m : Nat} (hp : p < 9) (hs : s < 4) (hm : m ≤ 9) : ∀ (k i : Nat) (σ : Sg), i + k = m → NtA n T K σ → ∃ τ, X_Mod_write_63 d (nI p) (nI s) (nI m) (nI i) σ = some (some (.int (nI m)), τ) ∧ (∀ j, i ≤ j → j < m → τ.1 42 (60 * s + j) = nI (T p / 2 ^ j % 2)) ∧ (∀ j, (∀ q, i ≤ q → q < m → j ≠ 60 * s + q) → τ.1 42 j = σ.1 42 j) ∧ (∀ c, c ≠ 42 → τ.1 c = σ.1 c) ∧ τ.2 = σ.2
  | 0, i, σ, hi, h => by
    refine ⟨σ, ?_, fun j h1 h2 => by omega, fun _ _ => rfl, fun _ _ => rfl, rfl⟩
    rw [X_Mod_write_63_e, xm_br_t (nI_le (by omega) (by omega))]
  | k + 1, i, σ, hi, h => by
    obtain ⟨τ, t1, t2, t3, t4, t5⟩ := C_mwr d hp hs hm k (i + 1) (xm_sI σ 42 (60 * s + i) (nI (T p / 2 ^ i % 2))) (by omega) (h.sI (by decide))
    have h9 := h.T hp
    refine ⟨τ, ?_, fun j h1 h2 => ?_, fun j h1 => ?_, fun c hc => ?_, t5⟩
    · rw [X_Mod_write_63_e, xm_br_f (nI_ge (by omega) (by omega)), xm_ix_n hp (by omega), nI_row, xm_ix_n (by omega) (by omega), (h.2.2.2.1 p hp).2.1, bt_1 (by omega) (by omega), nI_1, t1]
    · by_cases hj : j = i
      · subst hj
        rw [t3 _ (by omega), sI_same]
      · exact t2 j (by omega) h2
    · rw [t3 j (fun q a b => h1 q (by omega) b), sI_row _ _ (h1 i (by omega) (by omega))]
    · rw [t4 c hc, sI_cell _ _ _ hc]
theorem imin_n {a b : Nat} (ha : a < 2 ^ 31) (hb : b < 2 ^ 31) : xm_imin (nI a) (nI b) = nI (min a b) := by
  unfold xm_imin
  by_cases h : b < a
  · rw [if_pos (nI_lt h ha), Nat.min_eq_right (by omega)]
  · rw [if_neg (nI_nlt (by omega) hb), Nat.min_eq_left (by omega)]
theorem imax_n {a b : Nat} (ha : a < 2 ^ 31) (hb : b < 2 ^ 31) : xm_imax (nI a) (nI b) = nI (max a b) := by
  unfold xm_imax
  by_cases h : a < b
  · rw [if_pos (nI_lt h hb), Nat.max_eq_right (by omega)]
  · rw [if_neg (nI_nlt (by omega) ha), Nat.max_eq_left (by omega)]
theorem O_write {n K : Nat} {T : Nat → Nat} {σ : Sg} (h : NtA n T K σ) (hsh : ShA σ) (d : Nat) (x y : Int32) : OpI (X_TO_write (d + 4) x y) (X_Mod_write (d + 4) x y) (ShP σ) σ := by
  unfold OpI
  have hn := h.1
  by_cases hx : inR x n
  rotate_left
  · refine ⟨-2, σ, σ, ?_, ?_, hsh, Ex.rf _ _ _⟩
    · rw [X_TO_write_e, C_holds _ _ σ (by omega) h.2.1, xm_cI_s, xm_br_n hx]
    · rw [X_Mod_write_e, C_isPerson _ _ σ (by omega) (by omega) h.2.2.1, xm_cI_s, xm_br_n hx]
  by_cases hy : inR y 4
  rotate_left
  · refine ⟨-2, σ, σ, ?_, ?_, hsh, Ex.rf _ _ _⟩
    · rw [X_TO_write_e, C_holds _ _ σ (by omega) h.2.1, xm_cI_s, xm_br_b hx, C_shHolds, xm_cI_s, xm_br_n hy]
    · rw [X_Mod_write_e, C_isPerson _ _ σ (by omega) (by omega) h.2.2.1, xm_cI_s, xm_br_b hx, C_isSheet, xm_cI_s, xm_br_n hy]
  have hx0 := hx
  have hy0 := hy
  obtain ⟨p, hp, rfl⟩ := hx
  obtain ⟨s, hs, rfl⟩ := hy
  obtain ⟨h1, h2, h3, z, h4, h5, h6⟩ := hsh.2 s hs
  have hm : ∀ τ : Sg, τ.1 39 5 = nI n → X_Mod_write (d + 4) (nI p) (nI s) τ = xm_br (0 ≤ (τ.1 40 s)) (xm_br ((τ.1 39 5) ≤ (τ.1 41 s)) (X_Mod_write_63 (d + 4) (nI p) (nI s) (τ.1 39 5) 0 τ) (X_Mod_write_63 (d + 4) (nI p) (nI s) (τ.1 41 s) 0 τ)) (xm_cI (X_Mod_met (d + 3) 1 τ) (fun r9 σ8 => some (some (.int r9), σ8))) := by
    intro τ e
    rw [X_Mod_write_e, C_isPerson _ _ τ (by omega) (by omega) e, xm_cI_s, xm_br_b hx0, C_isSheet, xm_cI_s, xm_br_b hy0, xm_ix_n hs (by omega), xm_ix_n hs (by omega), xm_ix_n hs (by omega)]
  rw [X_TO_write_e, C_holds _ _ σ (by omega) h.2.1, xm_cI_s, xm_br_b hx0, C_shHolds, xm_cI_s, xm_br_b hy0, C_isLost _ _ hs, xm_cI_s]
  by_cases hl : σ.1 32 s = -1
  · rw [xm_br_b hl, C_finding, xm_cI_s]
    refine ⟨_, _, xm_sI (xm_sI σ 31 3 1) 39 4 1, rfl, ?_, hsh.find 1⟩
    rw [hm _ (by rw [sI_cell _ _ _ (by decide)]; exact h.2.2.1), xm_br_f, C_met, xm_cI_s]
    rw [sI_cell _ _ _ (by decide), ← h1, hl]
    exact m1_neg
  rw [xm_br_n hl, xm_ix_n hs (by omega), h5, h.2.1, imin_n (by omega) (by omega)]
  obtain ⟨τ, t1, t2, t3, t4, t5⟩ := C_wr (d + 1) hp hs (Nat.min_le_right z n) (min z n) 0 σ (by omega) h
  have hmin : min z n ≤ z := Nat.min_le_left z n
  have hmin2 : min z n ≤ n := Nat.min_le_right z n
  have ht : NtA n T K τ := by
    have e : ∀ c, c ∈ [1, 2, 39, 44, 45] → τ.1 c = σ.1 c := fun c hc => t4 c (fun q => by rw [q] at hc; revert hc; rcases s4 hs with rfl | rfl | rfl | rfl <;> decide)
    exact h.cells (e 1 (by decide)) (e 2 (by decide)) (by rw [e 39 (by decide)]) (e 44 (by decide)) (e 45 (by decide))
  obtain ⟨υ, u1, u2, u3, u4, u5⟩ := C_mwr (d + 4) (p := p) (s := s) (m := min z n) (by omega) hs (by omega) (min z n) 0 τ (by omega) ht
  refine ⟨nI (min z n), τ, υ, t1, ?_, ?_, ?_⟩
  · rw [hm τ ht.2.2.1, t4 40 (by omega), t4 41 (by omega), ← h1, ← h3, h5, ht.2.2.1, xm_br_t (form_nn (h2.resolve_left hl)).1]
    by_cases q : n ≤ z
    · rw [xm_br_t (nI_le q (by omega))]
      rw [show min z n = n from Nat.min_eq_right q] at u1 ⊢
      exact u1
    · rw [xm_br_f (nI_ge (by omega) (by omega))]
      rw [show min z n = z from Nat.min_eq_left (by omega)] at u1 ⊢
      exact u1
  · refine ⟨?_, fun u hu => ?_⟩
    · rw [u4 31 (by decide), u4 39 (by decide), t4 31 (by omega), t4 39 (by omega)]
      exact hsh.1
    · obtain ⟨g1, g2, g3, y, g4, g5, g6⟩ := hsh.2 u hu
      rw [u4 32 (by decide), u4 40 (by decide), u4 33 (by decide), u4 41 (by decide), t4 32 (by omega), t4 40 (by omega), t4 33 (by omega), t4 41 (by omega)]
      refine ⟨g1, g2, g3, y, g4, g5, fun k hk => ?_⟩
      rw [u4 (35 + u) (by omega)]
      by_cases hus : u = s
      · subst hus
        have : y = z := (nI_eq (by omega) (by omega)).mp (g5.symm.trans h5)
        by_cases q : k < min z n
        · rw [t2 k (by omega) q, u2 k (by omega) q]
        · rw [t3 k (by omega), u3 _ (by omega), t4 42 (by omega)]
          exact g6 k hk
      · rw [t4 (35 + u) (by omega), u3 _ (by omega), t4 42 (by omega)]
        exact g6 k hk
  · refine ⟨fun c hc h9 => ?_, fun j hj => ?_, u5.trans t5⟩
    · have hc' : ∀ k, k ∈ WSh → c ≠ k := fun k hk e => hc (e ▸ hk)
      rw [u4 c (hc' 42 (by decide)), t4 c (hc' _ (by rcases s4 hs with rfl | rfl | rfl | rfl <;> decide))]
    · rw [u4 39 (by decide), t4 39 (by omega)]
