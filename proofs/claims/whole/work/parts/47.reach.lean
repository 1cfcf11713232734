/-! REACH -/
theorem or_and_g (x g : Nat) : g ||| (x &&& g) = g := by
  apply Nat.eq_of_testBit_eq
  intro j
  rw [Nat.testBit_or, Nat.testBit_and]
  cases g.testBit j <;> cases x.testBit j <;> rfl
theorem og_all (T : Nat → Nat) (g : Nat) : ∀ i, og T g g i = g
  | 0 => rfl
  | i + 1 => by
    show og T g g i ||| (if g.testBit i then T i &&& g else 0) = g
    rw [og_all T g i]
    by_cases h : g.testBit i = true
    · rw [if_pos h, or_and_g]
    · rw [if_neg h, Nat.or_zero]
theorem pop_E : ∀ n, n < 10 → ∀ i, i < 512 → i < 2 ^ n - 1 → pop 14 i < pop 14 (2 ^ n - 1) := by decide +kernel
theorem e_512 {n : Nat} (hn : n ≤ 9) : 2 ^ n - 1 < 512 := by
  have := Nat.pow_le_pow_right (n := 2) (by omega) hn
  omega
theorem C_reach {n K : Nat} {T : Nat → Nat} {σ : Sg} (h : NtA n T K σ) (d d' : Nat) {w : Nat} (hw : w < 9) : ∀ (m i b : Nat) (y : Int32), i + m = 2 ^ n - 1 → 1 ≤ i → ((b = 2 ^ n - 1 ∧ y = -1) ∨ (b < i ∧ y = nI b)) → ∃ r, X_Net_fewestReaching_7 (d + 1) (nI w) (nI b) (nI i) σ = some (some (.int r), σ) ∧ X_Mod_reach_19 (d' + 1) (nI w) y (nI i) σ = some (some (.int r), σ)
  | 0, i, b, y, hi, h1, hy => by
    have hn := h.1
    have he := e_512 hn.2
    have : i = 2 ^ n - 1 := by omega
    subst this
    refine ⟨nI b, ?_, ?_⟩
    · rw [X_Net_fewestReaching_7_e, C_everyone _ _ hn.2 h.2.1, xm_cI_s, xm_br_t (nI_le (Nat.le_refl _) (by omega))]
    · have last : ∀ z : Int32, X_Mod_reach_19 (d' + 1) (nI w) z (nI (2 ^ n - 1) + 1) σ = some (some (.int z), σ) := by
        intro z
        rw [X_Mod_reach_19_e, C_everybody _ _ hn.2 h.2.2.1, xm_cI_s, nI_1, xm_br_t (nI_lt (by omega) (by omega))]
      rw [X_Mod_reach_19_e, C_everybody _ _ hn.2 h.2.2.1, xm_cI_s, xm_br_f (nI_nlt (Nat.le_refl _) (by omega))]
      rcases hy with ⟨rfl, rfl⟩ | ⟨hb, rfl⟩
      · rw [xm_br_t rfl, C_everybody _ _ hn.2 h.2.2.1, xm_cI_s, C_around d' hn.2 h.2.2.1 h.m (by omega) he, xm_cI_s, C_everybody _ _ hn.2 h.2.2.1, xm_cI_s, it_fix (og_all T _ n), xm_br_t rfl, last]
      · have hp := pop_E n (by omega) b (by omega) hb
        have hq := pop_le 14 n (2 ^ n - 1) (by have := two_pos n; omega)
        rw [xm_br_f (by intro q; have q2 := congrArg Int32.toInt q; rw [nI_toInt (by omega)] at q2; have : (-1 : Int32).toInt = -1 := (by decide); omega), C_bitsOf d' σ (by omega), xm_cI_s, C_bitsOf d' σ (by omega), xm_cI_s, xm_br_t (nI_le (by omega) (by omega)), last]
  | m + 1, i, b, y, hi, h1, hy => by
    have hn := h.1
    have he := e_512 hn.2
    have hq := pop_le 14 n (2 ^ n - 1) (by have := two_pos n; omega)
    have hpi := pop_E n (by omega) i (by omega) (by omega)
    have hit := it_512 (T := T) (n := n) (g := 2 ^ n - 1) (fun p hp => h.T (by omega)) w i (by omega)
    have hb9 : b < 512 := by rcases hy with ⟨e, -⟩ | ⟨e, -⟩ <;> omega
    have hcl : X_Net_fewestReaching_7 (d + 1) (nI w) (nI b) (nI i) σ = xm_br (nI (pop 14 b) ≤ nI (pop 14 i)) (X_Net_fewestReaching_7 (d + 1) (nI w) (nI b) (nI (i + 1)) σ) (xm_br (nI (it T n (2 ^ n - 1) w i) = nI (2 ^ n - 1)) (X_Net_fewestReaching_7 (d + 1) (nI w) (nI i) (nI (i + 1)) σ) (X_Net_fewestReaching_7 (d + 1) (nI w) (nI b) (nI (i + 1)) σ)) := by
      rw [X_Net_fewestReaching_7_e, C_everyone _ _ hn.2 h.2.1, xm_cI_s, xm_br_f (nI_ge (by omega) (by omega)), C_bitCount d σ (by omega), xm_cI_s, C_bitCount d σ (by omega), xm_cI_s, C_everyone _ _ hn.2 h.2.1, xm_cI_s, C_spread d hn.2 h.2.1 h.c (by omega) (by omega), xm_cI_s, C_everyone _ _ hn.2 h.2.1, xm_cI_s, nI_1]
    have hmo : X_Mod_reach_19 (d' + 1) (nI w) y (nI i) σ = xm_br (y = -1) (xm_br (nI (it T n (2 ^ n - 1) w i) = nI (2 ^ n - 1)) (X_Mod_reach_19 (d' + 1) (nI w) (nI i) (nI (i + 1)) σ) (X_Mod_reach_19 (d' + 1) (nI w) y (nI (i + 1)) σ)) (xm_cI (X_Mod_bitsOf d' (nI i) σ) (fun r10 σ9 => xm_cI (X_Mod_bitsOf d' y σ9) (fun r12 σ11 => xm_br (r12 ≤ r10) (X_Mod_reach_19 (d' + 1) (nI w) y (nI i + 1) σ11) (xm_cI (X_Mod_everybody d' σ11) (fun r14 σ13 => xm_cI (X_Mod_around d' (nI i) (nI w) r14 σ13) (fun r16 σ15 => xm_cI (X_Mod_everybody d' σ15) (fun r18 σ17 => xm_br (r16 = r18) (X_Mod_reach_19 (d' + 1) (nI w) (nI i) (nI i + 1) σ17) (X_Mod_reach_19 (d' + 1) (nI w) y (nI i + 1) σ17)))))))) := by
      rw [X_Mod_reach_19_e, C_everybody _ _ hn.2 h.2.2.1, xm_cI_s, xm_br_f (nI_nlt (by omega) (by omega)), C_everybody _ _ hn.2 h.2.2.1, xm_cI_s, C_around d' hn.2 h.2.2.1 h.m (by omega) (by omega), xm_cI_s, C_everybody _ _ hn.2 h.2.2.1, xm_cI_s, nI_1]
    rw [hcl, hmo]
    obtain ⟨ra, ra1, ra2⟩ := C_reach h d d' hw m (i + 1) i (nI i) (by omega) (by omega) (Or.inr ⟨by omega, rfl⟩)
    rcases hy with ⟨rfl, rfl⟩ | ⟨hb, rfl⟩
    · obtain ⟨rb, rb1, rb2⟩ := C_reach h d d' hw m (i + 1) (2 ^ n - 1) (-1) (by omega) (by omega) (Or.inl ⟨rfl, rfl⟩)
      rw [xm_br_f (nI_ge hpi (by omega)), xm_br_t rfl]
      by_cases e : nI (it T n (2 ^ n - 1) w i) = nI (2 ^ n - 1)
      · rw [xm_br_t e, xm_br_t e]; exact ⟨ra, ra1, ra2⟩
      · rw [xm_br_f e, xm_br_f e]; exact ⟨rb, rb1, rb2⟩
    · obtain ⟨rb, rb1, rb2⟩ := C_reach h d d' hw m (i + 1) b (nI b) (by omega) (by omega) (Or.inr ⟨by omega, rfl⟩)
      rw [xm_br_f (c := nI b = -1) (by intro q; have q2 := congrArg Int32.toInt q; rw [nI_toInt (by omega)] at q2; have : (-1 : Int32).toInt = -1 := (by decide); omega), C_bitsOf d' σ (by omega), xm_cI_s, C_bitsOf d' σ (by omega), xm_cI_s, C_everybody _ _ hn.2 h.2.2.1, xm_cI_s, C_around d' hn.2 h.2.2.1 h.m (by omega) (by omega), xm_cI_s, C_everybody _ _ hn.2 h.2.2.1, xm_cI_s, nI_1]
      by_cases c : nI (pop 14 b) ≤ nI (pop 14 i)
      · rw [xm_br_t c, xm_br_t c]; exact ⟨rb, rb1, rb2⟩
      · rw [xm_br_f c, xm_br_f c]
        by_cases e : nI (it T n (2 ^ n - 1) w i) = nI (2 ^ n - 1)
        · rw [xm_br_t e, xm_br_t e]; exact ⟨ra, ra1, ra2⟩
        · rw [xm_br_f e, xm_br_f e]; exact ⟨rb, rb1, rb2⟩
theorem O_reach {n K : Nat} {T : Nat → Nat} {σ : Sg} (h : NtA n T K σ) (d : Nat) (x : Int32) : OpI (X_TO_reach (d + 4) x) (X_Mod_reach (d + 4) x) (fun τ => τ = σ) σ := by
  unfold OpI
  have hn := h.1
  have h9 := C_in32 (d + 3) x 0 8 σ
  rw [show ((0 : Int32).toInt64) = 0 from rfl, show ((8 : Int32).toInt64) = 8 from rfl] at h9
  rw [X_TO_reach_e, C_isUpTo, xm_cI_s]
  by_cases hx : 0 ≤ x ∧ x ≤ 8
  · have hx0 := hx
    obtain ⟨w, hw, rfl⟩ := in_row (x := x) (z := 9) (by omega) ⟨hx.1, by rw [fa_lt]; have := hx.2; rw [fa_le] at this; have h8 : (8 : Int32).toInt = 8 := (by decide); rw [nI_toInt (by omega)]; omega⟩
    have hp : 1 ≤ 2 ^ n - 1 := by
      have := Nat.pow_le_pow_right (n := 2) (by omega) hn.1
      omega
    obtain ⟨r, r1, r2⟩ := C_reach h (d + 2) (d + 3) hw (2 ^ n - 2) 1 (2 ^ n - 1) (-1) (by omega) (by omega) (Or.inl ⟨rfl, rfl⟩)
    rw [xm_br_b hx0, X_Net_fewestReaching_e, C_everyone _ _ hn.2 h.2.1, xm_cI_s, show X_Net_fewestReaching_7 (d + 2 + 1) (nI w) (nI (2 ^ n - 1)) 1 σ = _ from r1, xm_cI_s]
    refine ⟨_, _, σ, rfl, ?_, rfl⟩
    rw [X_Mod_reach_e, h9, xm_cI_s, xm_br_b hx0]
    exact r2
  · rw [xm_br_n hx]
    refine ⟨_, _, σ, rfl, ?_, rfl⟩
    rw [X_Mod_reach_e, h9, xm_cI_s, xm_br_n hx]
