/-! PARTS, NARROW: the class over one store, the reference over another -/
theorem C_brid2 {n K : Nat} {T : Nat → Nat} {σ τ : Sg} (h : NtA n T K σ) (g : NtA n T K τ) (d d' : Nat) {c : Nat} : ∀ (m i b : Nat), i + m = n → b < 512 → ∃ r, X_Net_bridges_13 (d + 2) (nI b) (nI c) (nI i) σ = some (some (.int r), σ) ∧ X_Mod_partsNow_20 (d' + 2) (nI c) (nI b) (nI i) τ = some (some (.int r), τ)
  | 0, i, b, hi, hb => by
    have hn := h.1
    refine ⟨nI b, ?_, ?_⟩
    · rw [X_Net_bridges_13_e, h.2.1, xm_br_t (nI_le (by omega) (by omega))]
    · rw [X_Mod_partsNow_20_e, g.2.2.1, xm_br_t (nI_le (by omega) (by omega))]
  | m + 1, i, b, hi, hb => by
    have hn := h.1
    have he := e_512 hn.2
    have ha : an (2 ^ n - 1) (2 ^ i) < 512 := Nat.lt_of_le_of_lt (an_le _ _) he
    obtain ⟨r, r1, r2⟩ := C_brid2 h g d d' (c := c) m (i + 1) b (by omega) hb
    obtain ⟨s, s1, s2⟩ := C_brid2 h g d d' (c := c) m (i + 1) (b ||| 2 ^ i) (by omega) (or_512 hb (p2_512 (by omega)))
    have h1 : X_Net_bridges_13 (d + 2) (nI b) (nI c) (nI i) σ = xm_br (nI (pcs T n (an (2 ^ n - 1) (2 ^ i)) 9 (an (2 ^ n - 1) (2 ^ i))) ≤ nI c) (X_Net_bridges_13 (d + 2) (nI b) (nI c) (nI (i + 1)) σ) (X_Net_bridges_13 (d + 2) (nI (b ||| 2 ^ i)) (nI c) (nI (i + 1)) σ) := by
      rw [X_Net_bridges_13_e, h.2.1, xm_br_f (nI_ge (by omega) (by omega)), C_everyone _ _ hn.2 h.2.1, xm_cI_s, sh_1 i (by omega), an_nI _ (by omega), C_pieces h d ha, xm_cI_s, fa_or, nI_1]
    have h2 : X_Mod_partsNow_20 (d' + 2) (nI c) (nI b) (nI i) τ = xm_br (nI (pcs T n (an (2 ^ n - 1) (2 ^ i)) 9 (an (2 ^ n - 1) (2 ^ i))) ≤ nI c) (X_Mod_partsNow_20 (d' + 2) (nI c) (nI b) (nI (i + 1)) τ) (X_Mod_partsNow_20 (d' + 2) (nI c) (nI (b ||| 2 ^ i)) (nI (i + 1)) τ) := by
      rw [X_Mod_partsNow_20_e, g.2.2.1, xm_br_f (nI_ge (by omega) (by omega)), C_everybody _ _ hn.2 g.2.2.1, xm_cI_s, sh_1 i (by omega), an_nI _ (by omega), C_partsOf g d' ha, xm_cI_s, fa_or, nI_1, or0]
    rw [h1, h2]
    by_cases q : nI (pcs T n (an (2 ^ n - 1) (2 ^ i)) 9 (an (2 ^ n - 1) (2 ^ i))) ≤ nI c
    · rw [xm_br_t q, xm_br_t q]; exact ⟨r, r1, r2⟩
    · rw [xm_br_f q, xm_br_f q]; exact ⟨s, s1, s2⟩
theorem C_parts2 {n K : Nat} {T : Nat → Nat} {σ τ : Sg} (h : NtA n T K σ) (g : NtA n T K τ) (d d' : Nat) {w : Int32} (hw : inR w 2) : ∃ r, X_TO_parts (d + 4) w σ = some (some (.int r), σ) ∧ X_Mod_partsNow (d' + 3) w τ = some (some (.int r), τ) := by
  have hn := h.1
  have he := e_512 hn.2
  have h2 : X_Mod_partsNow (d' + 3) w τ = xm_br (w = 0) (some (some (.int (nI (pcs T n (2 ^ n - 1) 9 (2 ^ n - 1)))), τ)) (X_Mod_partsNow_20 (d' + 3) (nI (pcs T n (2 ^ n - 1) 9 (2 ^ n - 1))) 0 0 τ) := by
    rw [X_Mod_partsNow_e, C_everybody _ _ hn.2 g.2.2.1, xm_cI_s, C_partsOf g _ he, xm_cI_s]
  by_cases hw0 : w = 0
  · refine ⟨nI (pcs T n (2 ^ n - 1) 9 (2 ^ n - 1)), ?_, ?_⟩
    · rw [X_TO_parts_e, C_isBit, xm_cI_s, xm_br_b hw, xm_br_t hw0, C_everyone _ _ hn.2 h.2.1, xm_cI_s, C_pieces h _ he, xm_cI_s]
    · rw [h2, xm_br_t hw0]
  · obtain ⟨r, r1, r2⟩ := C_brid2 h g (d + 1) (d' + 1) (c := pcs T n (2 ^ n - 1) 9 (2 ^ n - 1)) n 0 0 (by omega) (by omega)
    refine ⟨r, ?_, ?_⟩
    · rw [X_TO_parts_e, C_isBit, xm_cI_s, xm_br_b hw, xm_br_f hw0, X_Net_bridges_e, C_everyone _ _ hn.2 h.2.1, xm_cI_s, C_pieces h _ he, xm_cI_s, show X_Net_bridges_13 (d + 1 + 2) 0 _ 0 σ = _ from r1, xm_cI_s]
    · rw [h2, xm_br_f hw0]
      exact r2
theorem C_nar2 {n K : Nat} {T : Nat → Nat} {σ τ : Sg} (h : NtA n T K σ) (g : NtA n T K τ) (d d' : Nat) (w : Int32) : ∀ (m i b : Nat) (y : Int32) (a c : Nat), i + m = 2 ^ n → b < i → ((b = 0 ∧ y = -1) ∨ (b ≠ 0 ∧ y = nI b ∧ a = lo T n b ∧ c = dg T n b ∧ c ≠ 0)) → ∃ r, r < 512 ∧ X_Net_narrowest_19 (d + 3) (nI b) (nI (if b = 0 then 0 else a)) (nI (if b = 0 then 0 else c)) (nI (dgs T n)) (nI i) σ = some (some (.int (nI r)), σ) ∧ X_Mod_narrowOf_16 (d' + 3) w y (nI a) (nI c) (nI (dgs T n)) (nI i) τ = some (some (.long (nw T n w r)), τ)
  | 0, i, b, y, a, c, hi, hb, hy => by
    have hn := h.1
    have he := e_512 hn.2
    have hp := two_pos n
    refine ⟨b, by omega, ?_, ?_⟩
    · rw [X_Net_narrowest_19_e, C_everyone _ _ hn.2 h.2.1, xm_cI_s, xm_br_t (nI_lt (by omega) (by omega))]
    · rw [X_Mod_narrowOf_16_e, C_everybody _ _ hn.2 g.2.2.1, xm_cI_s, xm_br_t (nI_lt (by omega) (by omega))]
      unfold nw
      by_cases hw : w = 2
      · rw [xm_br_t hw, if_pos hw]
        rcases hy with ⟨e, rfl⟩ | ⟨e, rfl, -⟩
        · rw [if_pos e]; rfl
        · rw [if_neg e]
      · rw [xm_br_f hw, if_neg hw]
        rcases hy with ⟨e, rfl⟩ | ⟨e, rfl, e1, e2, e3⟩
        · rw [xm_br_t rfl, C_no, xm_cL_s, e, dg_0]
          unfold frN
          rw [if_pos rfl]
          rfl
        · have l1 := lo_le h b
          have l2 := dg_le h b
          rw [xm_br_f (nI_nm1 (by omega)), nI_l (by omega), nI_l (by omega), F_part _ _ _ (by omega) (by omega) e3, xm_cL_s, e1, e2]
  | m + 1, i, b, y, a, c, hi, hb, hy => by
    have hn := h.1
    have he := e_512 hn.2
    have hp := two_pos n
    have l1 := lo_le h i
    have l2 := dg_le h i
    have l3 := dgs_le h
    have h1 : ∀ x1 x2 x3, X_Net_narrowest_19 (d + 3) x1 x2 x3 (nI (dgs T n)) (nI i) σ = xm_br (nI (dg T n i) = 0) (X_Net_narrowest_19 (d + 3) x1 x2 x3 (nI (dgs T n)) (nI (i + 1)) σ) (xm_br ((2 * nI (dg T n i)) ≤ nI (dgs T n)) (xm_br (x1 = 0) (X_Net_narrowest_19 (d + 3) (nI i) (nI (lo T n i)) (nI (dg T n i)) (nI (dgs T n)) (nI (i + 1)) σ) (xm_br ((x2 * nI (dg T n i)) ≤ (nI (lo T n i) * x3)) (X_Net_narrowest_19 (d + 3) x1 x2 x3 (nI (dgs T n)) (nI (i + 1)) σ) (X_Net_narrowest_19 (d + 3) (nI i) (nI (lo T n i)) (nI (dg T n i)) (nI (dgs T n)) (nI (i + 1)) σ))) (X_Net_narrowest_19 (d + 3) x1 x2 x3 (nI (dgs T n)) (nI (i + 1)) σ)) := by
      intro x1 x2 x3
      rw [X_Net_narrowest_19_e, C_everyone _ _ hn.2 h.2.1, xm_cI_s, xm_br_f (nI_nlt (by omega) (by omega)), C_degs h _ (by omega), xm_cI_s, C_lead h _ (by omega), xm_cI_s, nI_1]
    have h2 : X_Mod_narrowOf_16 (d' + 3) w y (nI a) (nI c) (nI (dgs T n)) (nI i) τ = xm_br (nI (dg T n i) ≤ 0) (X_Mod_narrowOf_16 (d' + 3) w y (nI a) (nI c) (nI (dgs T n)) (nI (i + 1)) τ) (xm_br (nI (dgs T n) < 2 * nI (dg T n i)) (X_Mod_narrowOf_16 (d' + 3) w y (nI a) (nI c) (nI (dgs T n)) (nI (i + 1)) τ) (xm_br (y = -1) (X_Mod_narrowOf_16 (d' + 3) w (nI i) (nI (lo T n i)) (nI (dg T n i)) (nI (dgs T n)) (nI (i + 1)) τ) (xm_br ((nI a * nI (dg T n i)) ≤ (nI (lo T n i) * nI c)) (X_Mod_narrowOf_16 (d' + 3) w y (nI a) (nI c) (nI (dgs T n)) (nI (i + 1)) τ) (X_Mod_narrowOf_16 (d' + 3) w (nI i) (nI (lo T n i)) (nI (dg T n i)) (nI (dgs T n)) (nI (i + 1)) τ)))) := by
      rw [X_Mod_narrowOf_16_e, C_everybody _ _ hn.2 g.2.2.1, xm_cI_s, xm_br_f (nI_nlt (by omega) (by omega)), show X_Mod_narrowOf_34 (d' + 3) w y (nI a) (nI c) (nI (dgs T n)) (nI i) 0 0 0 τ = _ from C_nar34 g (d' + 1) (s := i) (by omega) n 0 (by omega), X_Mod_narrowOf_34_e, g.2.2.1, xm_br_t (nI_le (Nat.le_refl _) (by omega)), nI_1]
    obtain ⟨ra, a0, a1, a2⟩ := C_nar2 h g d d' w m (i + 1) b y a c (by omega) (by omega) hy
    rw [h1, h2]
    by_cases q0 : dg T n i = 0
    · rw [q0, xm_br_t nI_0, xm_br_t (by decide)]
      exact ⟨ra, a0, a1, a2⟩
    rw [xm_br_f (nI_ne0 (by omega) (by omega)), xm_br_f (nI_nle (by omega) (by omega)), show (2 : Int32) = nI 2 from rfl, pk_mul]
    by_cases q1 : 2 * dg T n i ≤ dgs T n
    rotate_left
    · rw [xm_br_f (nI_ge (by omega) (by omega)), xm_br_t (nI_lt (by omega) (by omega))]
      exact ⟨ra, a0, a1, a2⟩
    rw [xm_br_t (nI_le q1 (by omega)), xm_br_f (nI_nlt q1 (by omega))]
    obtain ⟨rb, b0, b1, b2⟩ := C_nar2 h g d d' w m (i + 1) i (nI i) (lo T n i) (dg T n i) (by omega) (by omega) (Or.inr ⟨by omega, rfl, rfl, rfl, q0⟩)
    rw [if_neg (by omega), if_neg (by omega)] at b1
    rcases hy with ⟨e, rfl⟩ | ⟨e, rfl, e1, e2, e3⟩
    · rw [e, xm_br_t nI_0, xm_br_t rfl]
      exact ⟨rb, b0, b1, b2⟩
    · rw [xm_br_f (nI_ne0 (by omega) (by omega)), xm_br_f (nI_nm1 (by omega)), if_neg e, if_neg e]
      rw [if_neg e, if_neg e] at a1
      by_cases q : (nI a * nI (dg T n i)) ≤ (nI (lo T n i) * nI c)
      · rw [xm_br_t q, xm_br_t q]; exact ⟨ra, a0, a1, a2⟩
      · rw [xm_br_f q, xm_br_f q]; exact ⟨rb, b0, b1, b2⟩
theorem C_narV2 {n K : Nat} {T : Nat → Nat} {σ τ : Sg} (h : NtA n T K σ) (g : NtA n T K τ) (d d' : Nat) {w : Int32} (hw : 0 ≤ w ∧ w ≤ 2) : ∃ r, X_TO_narrow (d + 4) w σ = some (some (.long r), σ) ∧ X_Mod_narrowOf (d' + 3) w τ = some (some (.long r), τ) := by
  have hn := h.1
  have hp := two_pos n
  have h2 : 2 ≤ 2 ^ n := Nat.pow_le_pow_right (n := 2) (by omega) hn.1
  obtain ⟨b, b0, b1, b2⟩ := C_nar2 h g d d' w (2 ^ n - 1) 1 0 (-1) 0 1 (by omega) (by omega) (Or.inl ⟨rfl, rfl⟩)
  rw [if_pos rfl, if_pos rfl] at b1
  refine ⟨nw T n w b, ?_, ?_⟩
  · rw [X_TO_narrow_e, C_isUpTo, xm_cI_s, xm_br_b hw, X_Net_narrowest_e, C_everyone _ _ hn.2 h.2.1, xm_cI_s, C_degall h _, xm_cI_s, show X_Net_narrowest_19 (d + 3) 0 0 0 (nI (dgs T n)) 1 σ = _ from b1, xm_cI_s]
    unfold nw
    by_cases hw2 : w = 2
    · rw [xm_br_t hw2, if_pos hw2]
      by_cases e : b = 0
      · rw [e, xm_br_t nI_0, if_pos rfl]
      · rw [xm_br_f (nI_ne0 (by omega) (by omega)), if_neg e]
    · have l1 := lo_le h b
      have l2 := dg_le h b
      rw [xm_br_f hw2, if_neg hw2, C_lead h _ b0, xm_cI_s, C_degs h _ b0, xm_cI_s, nI_l (by omega), nI_l (by omega), F_frac _ _ _ (by omega) (by omega), xm_cL_s]
  · rw [X_Mod_narrowOf_e, C_mdegs g _, xm_cI_s]
    exact b2
