/-! THE NET: kind, tie -/
def KdP (n : Nat) (T : Nat → Nat) (σ : Sg) : Sg → Prop := fun τ => (∃ K', NtA n T K' τ) ∧ Ex [1, 45] [] σ τ ∧ τ.1 1 3 = σ.1 1 3
theorem O_kind {n K : Nat} {T : Nat → Nat} {σ : Sg} (h : NtA n T K σ) (d : Nat) (x v : Int32) : OpI (X_TO_kind (d + 4) x v) (X_Mod_kind (d + 4) x v) (KdP n T σ) σ := by
  unfold OpI
  have hn := h.1
  have hk := pow9 hn.2 h.2.2.2.2.2.1
  rw [X_TO_kind_e, C_holds _ _ σ (by omega) h.2.1, xm_cI_s]
  by_cases hx : inR x n
  · rw [xm_br_b hx, C_isBit, xm_cI_s]
    by_cases hw : inR v 2
    · rw [xm_br_b hw]
      have hx0 := hx
      have hw0 := hw
      obtain ⟨p, hp, rfl⟩ := hx
      obtain ⟨u, hu, rfl⟩ := hw
      rw [C_kindOf h _ (by omega), xm_cI_s, X_Net_turn_e, xm_cV_s, h.2.2.2.2.1, sh_1 p (by omega)]
      have e : ((nI K &&& (nI (2 ^ p) ^^^ (-1))) ||| (nI u <<< (nI p &&& 31))) = nI (ks K p u) := by
        rcases (show u = 0 ∨ u = 1 by omega) with rfl | rfl
        · exact (ks_ok hk (by omega)).2.2.2.1
        · exact (ks_ok hk (by omega)).2.2.2.2
      rw [e]
      refine ⟨_, _, xm_sI (xm_sI σ 1 2 (nI (ks K p u))) 45 p (nI u), rfl, ?_, ⟨ks K p u, ?_⟩, ((Ex.rf _ _ _).sI (by decide) (by decide)).sI (by decide) (by decide), ?_⟩
      · rw [X_Mod_kind_e, C_isPerson (n := n) _ _ _ (by omega) (by omega) (by rw [sI_cell _ _ _ (by decide)]; exact h.2.2.1), xm_cI_s, xm_br_b hx0, C_isTwo, xm_cI_s, xm_br_b hw0, xm_ix_n (by omega) (by omega), xm_ix_n (by omega) (by omega), sI_cell _ _ _ (by decide : (45 : Nat) ≠ 1), h.2.2.2.2.2.2 p (by omega)]
      · have e9 : ∀ c, c ≠ 1 → c ≠ 45 → (xm_sI (xm_sI σ 1 2 (nI (ks K p u))) 45 p (nI u)).1 c = σ.1 c := fun c h1 h2 => by rw [sI_cell _ _ _ h2, sI_cell _ _ _ h1]
        refine ⟨hn, ?_, ?_, ?_, ?_, ks_lt hn.2 h.2.2.2.2.2.1 hp hu, fun q hq => ?_⟩
        · rw [sI_cell _ _ _ (by decide), sI_row _ _ (by decide)]
          exact h.2.1
        · rw [e9 39 (by decide) (by decide)]
          exact h.2.2.1
        · rw [e9 2 (by decide) (by decide), e9 44 (by decide) (by decide)]
          exact h.2.2.2.1
        · rw [sI_cell _ _ _ (by decide), sI_same]
        · rw [sI_at, bt_n, ks_bit hk (by omega) hq hu]
          by_cases hqp : q = p
          · rw [if_pos hqp, if_pos hqp]
            rcases (show u = 0 ∨ u = 1 by omega) with rfl | rfl <;> rfl
          · rw [if_neg hqp, if_neg hqp, sI_cell _ _ _ (by decide), ← bt_n]
            exact h.2.2.2.2.2.2 q hq
      · rw [sI_cell _ _ _ (by decide), sI_row _ _ (by decide)]
    · rw [xm_br_n hw]
      refine ⟨_, _, σ, rfl, ?_, ⟨K, h⟩, Ex.rf _ _ _, rfl⟩
      rw [X_Mod_kind_e, C_isPerson _ _ σ (by omega) (by omega) h.2.2.1, xm_cI_s, xm_br_b hx, C_isTwo, xm_cI_s, xm_br_n hw]
  · rw [xm_br_n hx]
    refine ⟨_, _, σ, rfl, ?_, ⟨K, h⟩, Ex.rf _ _ _, rfl⟩
    rw [X_Mod_kind_e, C_isPerson _ _ σ (by omega) (by omega) h.2.2.1, xm_cI_s, xm_br_n hx]
