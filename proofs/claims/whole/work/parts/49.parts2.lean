/-! PARTS, BRIDGES, on -/
theorem or0 (a : Nat) : (nI a ||| 0) = nI a := by
  have := fa_or a 0
  rw [Nat.or_zero] at this
  exact this
theorem C_brid {n K : Nat} {T : Nat → Nat} {σ : Sg} (h : NtA n T K σ) (d d' : Nat) {c : Nat} : ∀ (m i b : Nat), i + m = n → b < 512 → ∃ r, X_Net_bridges_13 (d + 2) (nI b) (nI c) (nI i) σ = some (some (.int r), σ) ∧ X_Mod_partsNow_20 (d' + 2) (nI c) (nI b) (nI i) σ = some (some (.int r), σ)
  | 0, i, b, hi, hb => by
    have hn := h.1
    refine ⟨nI b, ?_, ?_⟩
    · rw [X_Net_bridges_13_e, h.2.1, xm_br_t (nI_le (by omega) (by omega))]
    · rw [X_Mod_partsNow_20_e, h.2.2.1, xm_br_t (nI_le (by omega) (by omega))]
  | m + 1, i, b, hi, hb => by
    have hn := h.1
    have he := e_512 hn.2
    have ha : an (2 ^ n - 1) (2 ^ i) < 512 := Nat.lt_of_le_of_lt (an_le _ _) he
    obtain ⟨r, r1, r2⟩ := C_brid h d d' (c := c) m (i + 1) b (by omega) hb
    obtain ⟨s, s1, s2⟩ := C_brid h d d' (c := c) m (i + 1) (b ||| 2 ^ i) (by omega) (or_512 hb (p2_512 (by omega)))
    have h1 : X_Net_bridges_13 (d + 2) (nI b) (nI c) (nI i) σ = xm_br (nI (pcs T n (an (2 ^ n - 1) (2 ^ i)) 9 (an (2 ^ n - 1) (2 ^ i))) ≤ nI c) (X_Net_bridges_13 (d + 2) (nI b) (nI c) (nI (i + 1)) σ) (X_Net_bridges_13 (d + 2) (nI (b ||| 2 ^ i)) (nI c) (nI (i + 1)) σ) := by
      rw [X_Net_bridges_13_e, h.2.1, xm_br_f (nI_ge (by omega) (by omega)), C_everyone _ _ hn.2 h.2.1, xm_cI_s, sh_1 i (by omega), an_nI _ (by omega), C_pieces h d ha, xm_cI_s, fa_or, nI_1]
    have h2 : X_Mod_partsNow_20 (d' + 2) (nI c) (nI b) (nI i) σ = xm_br (nI (pcs T n (an (2 ^ n - 1) (2 ^ i)) 9 (an (2 ^ n - 1) (2 ^ i))) ≤ nI c) (X_Mod_partsNow_20 (d' + 2) (nI c) (nI b) (nI (i + 1)) σ) (X_Mod_partsNow_20 (d' + 2) (nI c) (nI (b ||| 2 ^ i)) (nI (i + 1)) σ) := by
      rw [X_Mod_partsNow_20_e, h.2.2.1, xm_br_f (nI_ge (by omega) (by omega)), C_everybody _ _ hn.2 h.2.2.1, xm_cI_s, sh_1 i (by omega), an_nI _ (by omega), C_partsOf h d' ha, xm_cI_s, fa_or, nI_1, or0]
    rw [h1, h2]
    by_cases q : nI (pcs T n (an (2 ^ n - 1) (2 ^ i)) 9 (an (2 ^ n - 1) (2 ^ i))) ≤ nI c
    · rw [xm_br_t q, xm_br_t q]; exact ⟨r, r1, r2⟩
    · rw [xm_br_f q, xm_br_f q]; exact ⟨s, s1, s2⟩
/-- both answers of parts -/
theorem C_parts {n K : Nat} {T : Nat → Nat} {σ : Sg} (h : NtA n T K σ) (d d' : Nat) {w : Int32} (hw : inR w 2) : ∃ r, X_TO_parts (d + 4) w σ = some (some (.int r), σ) ∧ X_Mod_partsNow (d' + 3) w σ = some (some (.int r), σ) := by
  have hn := h.1
  have he := e_512 hn.2
  have h2 : X_Mod_partsNow (d' + 3) w σ = xm_br (w = 0) (some (some (.int (nI (pcs T n (2 ^ n - 1) 9 (2 ^ n - 1)))), σ)) (X_Mod_partsNow_20 (d' + 3) (nI (pcs T n (2 ^ n - 1) 9 (2 ^ n - 1))) 0 0 σ) := by
    rw [X_Mod_partsNow_e, C_everybody _ _ hn.2 h.2.2.1, xm_cI_s, C_partsOf h _ he, xm_cI_s]
  by_cases hw0 : w = 0
  · refine ⟨nI (pcs T n (2 ^ n - 1) 9 (2 ^ n - 1)), ?_, ?_⟩
    · rw [X_TO_parts_e, C_isBit, xm_cI_s, xm_br_b hw, xm_br_t hw0, C_everyone _ _ hn.2 h.2.1, xm_cI_s, C_pieces h _ he, xm_cI_s]
    · rw [h2, xm_br_t hw0]
  · obtain ⟨r, r1, r2⟩ := C_brid h (d + 1) (d' + 1) (c := pcs T n (2 ^ n - 1) 9 (2 ^ n - 1)) n 0 0 (by omega) (by omega)
    refine ⟨r, ?_, ?_⟩
    · rw [X_TO_parts_e, C_isBit, xm_cI_s, xm_br_b hw, xm_br_f hw0, X_Net_bridges_e, C_everyone _ _ hn.2 h.2.1, xm_cI_s, C_pieces h _ he, xm_cI_s, show X_Net_bridges_13 (d + 1 + 2) 0 _ 0 σ = _ from r1, xm_cI_s]
    · rw [h2, xm_br_f hw0]
      exact r2
theorem O_parts {n K : Nat} {T : Nat → Nat} {σ : Sg} (h : NtA n T K σ) (d : Nat) (w : Int32) : OpI (X_TO_parts (d + 4) w) (X_Mod_parts (d + 4) w) (fun τ => τ = σ) σ := by
  unfold OpI
  by_cases hw : inR w 2
  · obtain ⟨r, r1, r2⟩ := C_parts h d d hw
    refine ⟨_, _, σ, r1, ?_, rfl⟩
    rw [X_Mod_parts_e, C_isTwo, xm_cI_s, xm_br_b hw, r2, xm_cI_s]
  · refine ⟨-2, σ, σ, ?_, ?_, rfl⟩
    · rw [X_TO_parts_e, C_isBit, xm_cI_s, xm_br_n hw]
    · rw [X_Mod_parts_e, C_isTwo, xm_cI_s, xm_br_n hw]
