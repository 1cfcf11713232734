/-! THE NET: about, kind, tie -/
theorem pow9 {n a : Nat} (hn : n ≤ 9) (h : a < 2 ^ n) : a < 512 := Nat.lt_of_lt_of_le h (Nat.pow_le_pow_right (by omega) hn)
theorem NtA.T {n K : Nat} {T : Nat → Nat} {σ : Sg} (h : NtA n T K σ) {p : Nat} (hp : p < 9) : T p < 512 := pow9 h.1.2 (h.2.2.2.1 p hp).2.2.1
theorem C_degree {n K : Nat} {T : Nat → Nat} {σ : Sg} (h : NtA n T K σ) (d : Nat) {p : Nat} (hp : p < n) : X_Net_degree (d + 1) (nI p) σ = some (some (.int (nI (pop 14 (T p)))), σ) := by
  have hn := h.1.2
  rw [X_Net_degree_e, C_holds d _ σ (by omega) h.2.1, xm_cI_s, xm_br_b ⟨p, hp, rfl⟩, xm_ix_n (by omega) (by omega), (h.2.2.2.1 p (by omega)).1, C_bitCount d σ (by have := h.T (show p < 9 by omega); omega), xm_cI_s]
theorem C_mdegree {n K : Nat} {T : Nat → Nat} {σ : Sg} (h : NtA n T K σ) (d : Nat) {p : Nat} (hp : p < 9) : X_Mod_degree (d + 1) (nI p) σ = some (some (.int (nI (pop 14 (T p)))), σ) := by
  rw [X_Mod_degree_e, xm_ix_n hp (by omega), (h.2.2.2.1 p hp).2.1, C_bitsOf d σ (by have := h.T hp; omega), xm_cI_s]
theorem C_kindOf {n K : Nat} {T : Nat → Nat} {σ : Sg} (h : NtA n T K σ) (d : Nat) {p : Nat} (hp : p < 9) : X_Net_kindOf d (nI p) σ = some (some (.int (nI (K / 2 ^ p % 2))), σ) := by
  have hk := pow9 h.1.2 h.2.2.2.2.2.1
  rw [X_Net_kindOf_e, h.2.2.2.2.1, bt_1 (by omega) (by omega)]
theorem O_about {n K : Nat} {T : Nat → Nat} {σ : Sg} (h : NtA n T K σ) (d : Nat) (x w : Int32) : OpI (X_TO_about (d + 4) x w) (X_Mod_about (d + 4) x w) (fun τ => τ = σ) σ := by
  unfold OpI
  have hn := h.1
  rw [X_TO_about_e, C_holds _ _ σ (by omega) h.2.1, xm_cI_s]
  by_cases hx : inR x n
  · rw [xm_br_b hx, C_isBit, xm_cI_s]
    by_cases hw : inR w 2
    · rw [xm_br_b hw]
      have hx0 := hx
      obtain ⟨p, hp, rfl⟩ := hx
      by_cases hw0 : w = 0
      · rw [xm_br_t hw0, C_degree h _ hp, xm_cI_s]
        refine ⟨_, _, _, rfl, ?_, rfl⟩
        rw [X_Mod_about_e, C_isPerson _ _ σ (by omega) (by omega) h.2.2.1, xm_cI_s, xm_br_b hx0, C_isTwo, xm_cI_s, xm_br_b hw, xm_br_t hw0, C_mdegree h _ (by omega), xm_cI_s]
      · rw [xm_br_f hw0, C_kindOf h _ (by omega), xm_cI_s]
        refine ⟨_, _, _, rfl, ?_, rfl⟩
        rw [X_Mod_about_e, C_isPerson _ _ σ (by omega) (by omega) h.2.2.1, xm_cI_s, xm_br_b hx0, C_isTwo, xm_cI_s, xm_br_b hw, xm_br_f hw0, xm_ix_n (by omega) (by omega), h.2.2.2.2.2.2 p (by omega)]
    · rw [xm_br_n hw]
      refine ⟨_, _, _, rfl, ?_, rfl⟩
      rw [X_Mod_about_e, C_isPerson _ _ σ (by omega) (by omega) h.2.2.1, xm_cI_s, xm_br_b hx, C_isTwo, xm_cI_s, xm_br_n hw]
  · rw [xm_br_n hx]
    refine ⟨_, _, _, rfl, ?_, rfl⟩
    rw [X_Mod_about_e, C_isPerson _ _ σ (by omega) (by omega) h.2.2.1, xm_cI_s, xm_br_n hx]
