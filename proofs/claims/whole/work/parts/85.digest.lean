/-! DIGEST -/
section DG
variable {T : Nat → Nat} {n K L c r : Nat} {s : Int32} {σ : Sg}
theorem D_cnt (h : NtA n T K σ) (hs : StA n s L σ) (hr : RcA r σ) (hm : MkA σ) (hsh : ShA σ) (d : Nat) : ∀ (k i : Nat) (x : Int64), i + k = 10 → ∃ x', X_TO_digest_6 (d + 5) x (nI i) σ = X_TO_digest_6 (d + 5) x' (nI 10) σ ∧ ∀ ρ, Ec σ ρ → ∃ υ, X_Mod_digest_6 (d + 5) x (nI i) ρ = X_Mod_digest_6 (d + 5) x' (nI 10) υ ∧ Es ρ υ
  | 0, i, x, hi => by
    have : i = 10 := by omega
    subst this
    exact ⟨x, rfl, fun ρ _ => ⟨ρ, rfl, Es.rf ρ⟩⟩
  | k + 1, i, x, hi => by
    have n1 : ¬ (9 : Int32) < nI i := nI_nlt (a := 9) (by omega) (by omega)
    have n2 : ¬ (10 : Int32) ≤ nI i := nI_ge (b := 10) (by omega) (by omega)
    by_cases e8 : i = 8
    · subst e8
      obtain ⟨x', a, b⟩ := D_cnt h hs hr hm hsh d k (8 + 1) x (by omega)
      refine ⟨x', ?_, fun ρ hE => ?_⟩
      · rw [X_TO_digest_6_e, xm_br_f n1, xm_br_t (show nI 8 = 8 from rfl)]
        exact a
      · obtain ⟨υ, u1, u2⟩ := b ρ hE
        refine ⟨υ, ?_, u2⟩
        rw [X_Mod_digest_6_e, xm_br_f n2, xm_br_t (show nI 8 = 8 from rfl)]
        exact u1
    · have n3 : ¬ nI i = 8 := fun q => e8 ((nI_eq (a := i) (b := 8) (by omega) (by omega)).mp q)
      obtain ⟨v, v1, v2⟩ := C_count h hs hr hm hsh d (nI i)
      obtain ⟨x', a, b⟩ := D_cnt h hs hr hm hsh d k (i + 1) (31 * x + v.toInt64) (by omega)
      refine ⟨x', ?_, fun ρ hE => ?_⟩
      · rw [X_TO_digest_6_e, xm_br_f n1, xm_br_f n3, v1, xm_cI_s, nI_1]
        exact a
      · obtain ⟨υ, u1, u2⟩ := v2 ρ hE
        obtain ⟨ω, w1, w2⟩ := b υ (hE.tr u2.ec)
        refine ⟨ω, ?_, u2.tr w2⟩
        rw [X_Mod_digest_6_e, xm_br_f n2, xm_br_f n3, u1, xm_cI_s, nI_1]
        exact w1
theorem C_ab0 (h : NtA n T K σ) (d : Nat) {p : Nat} (hp : p < n) : X_TO_about (d + 4) (nI p) 0 σ = some (some (.int (nI (pop 14 (T p)))), σ) := by
  have hn := h.1
  rw [X_TO_about_e, C_holds _ _ σ (by omega) h.2.1, xm_cI_s, xm_br_b ⟨p, hp, rfl⟩, C_isBit, xm_cI_s, xm_br_b ⟨0, by omega, rfl⟩, xm_br_t rfl, C_degree h _ hp, xm_cI_s]
theorem C_ab1 (h : NtA n T K σ) (d : Nat) {p : Nat} (hp : p < n) : X_TO_about (d + 4) (nI p) 1 σ = some (some (.int (nI (K / 2 ^ p % 2))), σ) := by
  have hn := h.1
  rw [X_TO_about_e, C_holds _ _ σ (by omega) h.2.1, xm_cI_s, xm_br_b ⟨p, hp, rfl⟩, C_isBit, xm_cI_s, xm_br_b ⟨1, by omega, rfl⟩, xm_br_f (by decide), C_kindOf h _ (by omega), xm_cI_s]
theorem D_net (h0 : NtA n T K σ) (hsv : s = -1 ∨ inR s n) (d d' : Nat) : ∀ (k p : Nat) (x : Int64), p + k = n → ∃ x', (∀ τ, NtA n T K τ → StA n s L τ → CcA n T c τ → ∃ υ, X_TO_digestOfNet_5 (d + 5) x (nI p) τ = some (some (.long x'), υ) ∧ ChP n T c τ υ) ∧ (∀ ρ, NtA n T K ρ → (∀ j, j < 9 → ρ.2 50 j = lN (3841600 * CstF T n L s (phF T n K 10 50 j))) → ρ.2 39 22 = lN (3841600 * CstF T n L s (phF T n K 10 39 22)) → ρ.2 39 17 = lN (sm (stN n s) n * 351298031616000000) → X_Mod_digest_49 (d' + 3) x (nI p) ρ = xm_cV (X_Mod_findCounts (d' + 2) ρ) (fun σ5 => X_Mod_digest_176 (d' + 3) x' 0 σ5))
  | 0, p, x, hp => by
    have hn := h0.1
    have : p = n := by omega
    subst this
    refine ⟨31 * (31 * x + chA T p L s (phF T p K 10 39 22) 0) + chA T p L s (phF T p K 10 39 22) 1, fun τ h1 h2 h3 => ?_, fun ρ g1 g2 g3 g4 => ?_⟩
    · obtain ⟨υ, u1, u2, u3⟩ := C_within h1 h2 h3 d (e := 10) (w := 0) (by omega) ⟨0, by omega, rfl⟩
      obtain ⟨ω, w1, w2, w3⟩ := C_within (h1.ec u2) (h2.ec u2) u3 d (e := 10) (w := 1) (by omega) ⟨1, by omega, rfl⟩
      refine ⟨ω, ?_, u2.tr w2, w3⟩
      rw [X_TO_digestOfNet_5_e, h1.2.1, xm_br_t (nI_le (Nat.le_refl _) (by omega)), show X_TO_within (d + 4) 10 0 τ = _ from u1, xm_cL_s, show X_TO_within (d + 4) 10 1 υ = _ from w1, xm_cL_s]
    · rw [X_Mod_digest_49_e, g1.2.2.1, xm_br_t (nI_le (Nat.le_refl _) (by omega)), g3, g4, C_chr g1 hsv (d' + 1) (phF_1 T p K 10 39 22) 0 ρ, xm_cL_s, g3, g4, C_chr g1 hsv (d' + 1) (phF_1 T p K 10 39 22) 1 ρ, xm_cL_s]
  | k + 1, p, x, hp => by
    have hn := h0.1
    have hpn : p < n := by omega
    obtain ⟨x', a, b⟩ := D_net h0 hsv d d' k (p + 1) (31 * (31 * (31 * (31 * x + (nI (pop 14 (T p))).toInt64) + (nI (K / 2 ^ p % 2)).toInt64) + chA T n L s (phF T n K 10 50 p) 0) + chA T n L s (phF T n K 10 50 p) 1) (by omega)
    refine ⟨x', fun τ h1 h2 h3 => ?_, fun ρ g1 g2 g3 g4 => ?_⟩
    · obtain ⟨υ, u1, u2, u3⟩ := C_found h1 h2 h3 d 10 (w := 0) hpn ⟨0, by omega, rfl⟩
      obtain ⟨ω, w1, w2, w3⟩ := C_found (h1.ec u2) (h2.ec u2) u3 d 10 (w := 1) hpn ⟨1, by omega, rfl⟩
      obtain ⟨χ, c1, c2, c3⟩ := a ω ((h1.ec u2).ec w2) ((h2.ec u2).ec w2) w3
      refine ⟨χ, ?_, (u2.tr w2).tr c2, c3⟩
      rw [X_TO_digestOfNet_5_e, h1.2.1, xm_br_f (nI_ge hpn (by omega)), C_ab0 h1 d hpn, xm_cI_s, C_ab1 h1 d hpn, xm_cI_s, u1, xm_cL_s, w1, xm_cL_s, nI_1]
      exact c1
    · rw [X_Mod_digest_49_e, g1.2.2.1, xm_br_f (nI_ge hpn (by omega)), C_mdegree g1 _ (by omega), xm_cI_s]
      simp only [xm_ix_n (show p < 9 by omega) (show 9 < 2 ^ 31 by omega), g2 p (show p < 9 by omega), g4, C_chr g1 hsv (d' + 1) (phF_1 T n K 10 50 p), xm_cL_s, g1.2.2.2.2.2.2 p (show p < 9 by omega), nI_1]
      exact b ρ g1 g2 g3 g4
theorem C_det2 (h : RcA r σ) (d d' : Nat) {i : Nat} (hi : i < r) (w : Int32) : ∃ v, ∀ τ, Es σ τ → X_Records_detail d (nI i) w τ = some (some (.int v), τ) ∧ (τ.1 64 i = σ.1 18 i → X_Mod_recordOf d' (nI i) w τ = some (some (.int v), τ)) := by
  have hr := h.1
  obtain ⟨⟨a1, -⟩, ⟨a2, -⟩, ⟨a3, -⟩, ⟨a4, -⟩, -, ⟨a6, -⟩, ⟨a7, -⟩, ⟨a8, -⟩, a9⟩ := h.2.2.2.2.2.2.1 i hi
  have red : ∀ (v : Int32), (∀ τ, Es σ τ → X_Records_detail d (nI i) w τ = some (some (.int v), τ) ∧ (τ.1 64 i = σ.1 18 i → X_Mod_recordOf d' (nI i) w τ = some (some (.int v), τ))) → ∃ v, ∀ τ, Es σ τ → X_Records_detail d (nI i) w τ = some (some (.int v), τ) ∧ (τ.1 64 i = σ.1 18 i → X_Mod_recordOf d' (nI i) w τ = some (some (.int v), τ)) := fun v hv => ⟨v, hv⟩
  have body : ∀ τ, Es σ τ → X_Records_detail d (nI i) w τ = xm_br (w = 0) (some (some (.int (σ.1 10 i)), τ)) (xm_br (w = 1) (some (some (.int (σ.1 11 i)), τ)) (xm_br (w = 2) (some (some (.int (σ.1 12 i)), τ)) (xm_br (w = 3) (some (some (.int (σ.1 13 i)), τ)) (xm_br (w = 4) (xm_br (σ.1 18 i = 0) (some (some (.int 0), τ)) (some (some (.int 1), τ))) (xm_br (w = 5) (some (some (.int (σ.1 15 i)), τ)) (xm_br (w = 6) (some (some (.int (σ.1 16 i)), τ)) (some (some (.int (σ.1 17 i)), τ)))))))) := by
    intro τ g
    rw [X_Records_detail_e]
    simp only [xm_ix_n (show i < 24 by omega) (show 24 < 2 ^ 31 by omega), g.1 10 (by decide), g.1 11 (by decide), g.1 12 (by decide), g.1 13 (by decide), g.1 15 (by decide), g.1 16 (by decide), g.1 17 (by decide), g.1 18 (by decide)]
  have body2 : ∀ τ, Es σ τ → τ.1 64 i = σ.1 18 i → X_Mod_recordOf d' (nI i) w τ = xm_br (w = 0) (some (some (.int (σ.1 10 i)), τ)) (xm_br (w = 1) (some (some (.int (σ.1 11 i)), τ)) (xm_br (w = 2) (some (some (.int (σ.1 12 i)), τ)) (xm_br (w = 3) (some (some (.int (σ.1 13 i)), τ)) (xm_br (w = 4) (xm_br (σ.1 18 i = 0) (some (some (.int 0), τ)) (some (some (.int 1), τ))) (xm_br (w = 5) (some (some (.int (σ.1 15 i)), τ)) (xm_br (w = 6) (some (some (.int (σ.1 16 i)), τ)) (some (some (.int (σ.1 17 i)), τ)))))))) := by
    intro τ g e64
    rw [X_Mod_recordOf_e]
    simp only [xm_ix_n (show i < 24 by omega) (show 24 < 2 ^ 31 by omega), g.1 56 (by decide), g.1 57 (by decide), g.1 58 (by decide), g.1 59 (by decide), g.1 61 (by decide), g.1 62 (by decide), g.1 63 (by decide), e64, ← a1, ← a2, ← a3, ← a4, ← a6, ← a7, ← a8]
  by_cases h0 : w = 0
  · exact ⟨_, fun τ g => ⟨by rw [body τ g, xm_br_t h0], fun e => by rw [body2 τ g e, xm_br_t h0]⟩⟩
  by_cases h1 : w = 1
  · exact ⟨_, fun τ g => ⟨by rw [body τ g, xm_br_f h0, xm_br_t h1], fun e => by rw [body2 τ g e, xm_br_f h0, xm_br_t h1]⟩⟩
  by_cases h2 : w = 2
  · exact ⟨_, fun τ g => ⟨by rw [body τ g, xm_br_f h0, xm_br_f h1, xm_br_t h2], fun e => by rw [body2 τ g e, xm_br_f h0, xm_br_f h1, xm_br_t h2]⟩⟩
  by_cases h3 : w = 3
  · exact ⟨_, fun τ g => ⟨by rw [body τ g, xm_br_f h0, xm_br_f h1, xm_br_f h2, xm_br_t h3], fun e => by rw [body2 τ g e, xm_br_f h0, xm_br_f h1, xm_br_f h2, xm_br_t h3]⟩⟩
  by_cases h4 : w = 4
  · by_cases q : σ.1 18 i = 0
    · exact ⟨_, fun τ g => ⟨by rw [body τ g, xm_br_f h0, xm_br_f h1, xm_br_f h2, xm_br_f h3, xm_br_t h4, xm_br_t q], fun e => by rw [body2 τ g e, xm_br_f h0, xm_br_f h1, xm_br_f h2, xm_br_f h3, xm_br_t h4, xm_br_t q]⟩⟩
    · exact ⟨_, fun τ g => ⟨by rw [body τ g, xm_br_f h0, xm_br_f h1, xm_br_f h2, xm_br_f h3, xm_br_t h4, xm_br_f q], fun e => by rw [body2 τ g e, xm_br_f h0, xm_br_f h1, xm_br_f h2, xm_br_f h3, xm_br_t h4, xm_br_f q]⟩⟩
  by_cases h5 : w = 5
  · exact ⟨_, fun τ g => ⟨by rw [body τ g, xm_br_f h0, xm_br_f h1, xm_br_f h2, xm_br_f h3, xm_br_f h4, xm_br_t h5], fun e => by rw [body2 τ g e, xm_br_f h0, xm_br_f h1, xm_br_f h2, xm_br_f h3, xm_br_f h4, xm_br_t h5]⟩⟩
  by_cases h6 : w = 6
  · exact ⟨_, fun τ g => ⟨by rw [body τ g, xm_br_f h0, xm_br_f h1, xm_br_f h2, xm_br_f h3, xm_br_f h4, xm_br_f h5, xm_br_t h6], fun e => by rw [body2 τ g e, xm_br_f h0, xm_br_f h1, xm_br_f h2, xm_br_f h3, xm_br_f h4, xm_br_f h5, xm_br_t h6]⟩⟩
  · exact ⟨_, fun τ g => ⟨by rw [body τ g, xm_br_f h0, xm_br_f h1, xm_br_f h2, xm_br_f h3, xm_br_f h4, xm_br_f h5, xm_br_f h6], fun e => by rw [body2 τ g e, xm_br_f h0, xm_br_f h1, xm_br_f h2, xm_br_f h3, xm_br_f h4, xm_br_f h5, xm_br_f h6]⟩⟩
/-- one record's eight -/
theorem D_r8 (h : RcA r σ) (d d' : Nat) {i : Nat} (hi : i < r) : ∀ (k j : Nat) (x : Int64), j + k = 8 → ∃ x', ∀ τ, Es σ τ → X_TO_digestOfRecords_20 (d + 2) x (nI i) (nI j) τ = X_TO_digestOfRecords_5 (d + 2) x' (nI (i + 1)) τ ∧ (τ.1 64 i = σ.1 18 i → X_Mod_digest_187 (d' + 1) x (nI i) (nI j) τ = X_Mod_digest_176 (d' + 1) x' (nI (i + 1)) τ)
  | 0, j, x, hj => by
    have hr := h.1
    have : j = 8 := by omega
    subst this
    refine ⟨x, fun τ _ => ⟨?_, fun _ => ?_⟩⟩
    · rw [X_TO_digestOfRecords_20_e, xm_br_t (by decide), nI_1]
    · rw [X_Mod_digest_187_e, xm_br_t (by decide), nI_1]
  | k + 1, j, x, hj => by
    have hr := h.1
    have n1 : ¬ (7 : Int32) < nI j := nI_nlt (a := 7) (by omega) (by omega)
    have n2 : ¬ (8 : Int32) ≤ nI j := nI_ge (b := 8) (by omega) (by omega)
    have hu : 0 ≤ nI j ∧ nI j ≤ 7 := ⟨nI_pos' (by omega), nI_le (b := 7) (by omega) (by omega)⟩
    obtain ⟨v, hv⟩ := C_det2 h d d' hi (nI j)
    obtain ⟨x', hx⟩ := D_r8 h d d' hi k (j + 1) (31 * x + v.toInt64) (by omega)
    refine ⟨x', fun τ g => ⟨?_, fun e => ?_⟩⟩
    · rw [X_TO_digestOfRecords_20_e, xm_br_f n1, X_TO_record_e, C_rHolds _ _ τ (by omega) (h.es g).2.1, xm_cI_s, xm_br_b ⟨i, hi, rfl⟩, C_isUpTo, xm_cI_s, xm_br_b hu, (hv τ g).1, xm_cI_s, xm_cI_s, nI_1]
      exact (hx τ g).1
    · rw [X_Mod_digest_187_e, xm_br_f n2, (hv τ g).2 e, xm_cI_s, nI_1]
      exact (hx τ g).2 e
theorem D_rec (h : RcA r σ) (d d' : Nat) : ∀ (k i : Nat) (x : Int64), i + k = r → ∃ x', ∀ τ, Es σ τ → X_TO_digestOfRecords_5 (d + 2) x (nI i) τ = X_TO_digestOfRecords_58 (d + 2) x' 0 τ ∧ ((∀ j, j < r → τ.1 64 j = σ.1 18 j) → X_Mod_digest_176 (d' + 1) x (nI i) τ = X_Mod_digest_223 (d' + 1) x' 0 τ)
  | 0, i, x, hi => by
    have hr := h.1
    have : i = r := by omega
    subst this
    refine ⟨x, fun τ g => ⟨?_, fun _ => ?_⟩⟩
    · rw [X_TO_digestOfRecords_5_e, (h.es g).2.1, xm_br_t (nI_le (Nat.le_refl _) (by omega))]
    · rw [X_Mod_digest_176_e, (h.es g).2.2.1, xm_br_t (nI_le (Nat.le_refl _) (by omega))]
  | k + 1, i, x, hi => by
    have hr := h.1
    obtain ⟨y, hy⟩ := D_r8 h d d' (show i < r by omega) 8 0 x (by omega)
    obtain ⟨x', hx⟩ := D_rec h d d' k (i + 1) y (by omega)
    refine ⟨x', fun τ g => ⟨?_, fun e => ?_⟩⟩
    · rw [X_TO_digestOfRecords_5_e, (h.es g).2.1, xm_br_f (nI_ge (by omega) (by omega)), show X_TO_digestOfRecords_20 (d + 2) x (nI i) 0 τ = _ from (hy τ g).1]
      exact (hx τ g).1
    · rw [X_Mod_digest_176_e, (h.es g).2.2.1, xm_br_f (nI_ge (by omega) (by omega)), show X_Mod_digest_187 (d' + 1) x (nI i) 0 τ = _ from (hy τ g).2 (e i (by omega))]
      exact (hx τ g).2 e
theorem D_shr (h : RcA r σ) (d d' : Nat) : ∀ (k i : Nat) (x : Int64), i + k = 3 → ∃ x', (∀ τ, Es σ τ → ∃ υ, X_TO_digestOfRecords_58 (d + 5) x (nI i) τ = some (some (.long x'), υ) ∧ Es σ υ) ∧ (∀ ρ, Es σ ρ → ∃ υ, X_Mod_digest_223 (d' + 4) x (nI (2 * i)) ρ = X_Mod_digest_223 (d' + 4) x' (nI 6) υ ∧ Es σ υ)
  | 0, i, x, hi => by
    have : i = 3 := by omega
    subst this
    refine ⟨x, fun τ g => ⟨τ, ?_, g⟩, fun ρ g => ⟨ρ, rfl, g⟩⟩
    rw [X_TO_digestOfRecords_58_e, xm_br_t (by decide)]
  | k + 1, i, x, hi => by
    have hu : 0 ≤ nI i ∧ nI i ≤ 2 := ⟨nI_pos' (by omega), nI_le (b := 2) (by omega) (by omega)⟩
    obtain ⟨V0, a0, b0⟩ := C_sh h d d' (how := nI i) (w := 0) hu ⟨0, by omega, rfl⟩
    obtain ⟨V1, a1, b1⟩ := C_sh h d d' (how := nI i) (w := 1) hu ⟨1, by omega, rfl⟩
    obtain ⟨x', p, q⟩ := D_shr h d d' k (i + 1) (31 * (31 * x + V0) + V1) (by omega)
    have n1 : ¬ (2 : Int32) < nI i := nI_nlt (a := 2) (by omega) (by omega)
    refine ⟨x', fun τ g => ?_, fun ρ g => ?_⟩
    · obtain ⟨υ, u1, u2⟩ := a0 τ g
      obtain ⟨ω, w1, w2⟩ := a1 υ u2
      obtain ⟨χ, c1, c2⟩ := p ω w2
      refine ⟨χ, ?_, c2⟩
      rw [X_TO_digestOfRecords_58_e, xm_br_f n1, u1, xm_cL_s, w1, xm_cL_s, nI_1]
      exact c1
    · obtain ⟨υ, u1, u2⟩ := b0 ρ g
      obtain ⟨ω, w1, w2⟩ := b1 υ u2
      obtain ⟨χ, c1, c2⟩ := q ω w2
      refine ⟨χ, ?_, c2⟩
      have m1 : ¬ (6 : Int32) ≤ nI (2 * i) := nI_ge (b := 6) (by omega) (by omega)
      have m2 : ¬ (6 : Int32) ≤ nI (2 * i + 1) := nI_ge (b := 6) (by omega) (by omega)
      have dv : ∀ z, z < 100 → nI z / 2 = nI (z / 2) := fun z hz => pk_div (d := 2) (by omega) (by omega) (by omega)
      have rm : ∀ z, z < 100 → nI z - nI z / 2 * 2 = nI (z % 2) := fun z hz => pk_rem (d := 2) (by omega) (by omega) (by omega)
      rw [X_Mod_digest_223_e, xm_br_f m1, rm (2 * i) (by omega), dv (2 * i) (by omega), show 2 * i / 2 = i by omega, show 2 * i % 2 = 0 by omega, show X_Mod_shareOf (d' + 3) (nI i) (nI 0) ρ = _ from u1, xm_cL_s, nI_1, X_Mod_digest_223_e, xm_br_f m2, rm (2 * i + 1) (by omega), dv (2 * i + 1) (by omega), show (2 * i + 1) / 2 = i by omega, show (2 * i + 1) % 2 = 1 by omega, show X_Mod_shareOf (d' + 3) (nI i) (nI 1) υ = _ from w1, xm_cL_s, nI_1, show 2 * i + 1 + 1 = 2 * (i + 1) by omega]
      exact c1
theorem D_nar (d d' : Nat) {τ ρ : Sg} (h : NtA n T K τ) (g : NtA n T K ρ) : ∀ (k i : Nat) (x : Int64), i + k = 3 → ∃ x', X_TO_digest_94 (d + 5) x (nI i) τ = some (some (.long x'), τ) ∧ X_Mod_digest_293 (d' + 4) x (nI i) ρ = some (some (.long x'), ρ)
  | 0, i, x, hi => by
    have : i = 3 := by omega
    subst this
    refine ⟨x, ?_, ?_⟩
    · rw [X_TO_digest_94_e, xm_br_t (by decide)]
    · rw [X_Mod_digest_293_e, xm_br_t (by decide)]
  | k + 1, i, x, hi => by
    have hu : 0 ≤ nI i ∧ nI i ≤ 2 := ⟨nI_pos' (by omega), nI_le (b := 2) (by omega) (by omega)⟩
    have n1 : ¬ (2 : Int32) < nI i := nI_nlt (a := 2) (by omega) (by omega)
    have n2 : ¬ (3 : Int32) ≤ nI i := nI_ge (b := 3) (by omega) (by omega)
    obtain ⟨v, v1, v2⟩ := C_narV2 h g d d' hu
    obtain ⟨x', a, b⟩ := D_nar d d' h g k (i + 1) (31 * x + v) (by omega)
    refine ⟨x', ?_, ?_⟩
    · rw [X_TO_digest_94_e, xm_br_f n1, v1, xm_cL_s, nI_1]; exact a
    · rw [X_Mod_digest_293_e, xm_br_f n2, v2, xm_cL_s, nI_1]; exact b
theorem O_digest (h : NtA n T K σ) (hs : StA n s L σ) (hr : RcA r σ) (hm : MkA σ) (hsh : ShA σ) (hc : CcA n T c σ) (d : Nat) : OpL (X_TO_digest (d + 6)) (X_Mod_digest (d + 6)) (ChP n T c σ) σ := by
  unfold OpL
  obtain ⟨x1, p1, q1⟩ := D_cnt h hs hr hm hsh (d + 1) 10 0 17 (by omega)
  obtain ⟨x2, p2, q2⟩ := D_net (L := L) (c := c) h hs.2.2.1 d (d + 3) n 0 x1 (by omega)
  obtain ⟨τ1, t1, t2, t3⟩ := p2 σ h hs hc
  have h1 := h.ec t2
  have hr1 := hr.ec t2
  obtain ⟨x3, p3⟩ := D_rec hr1 (d + 3) (d + 5) r 0 x2 (by omega)
  obtain ⟨x4, p4, q4⟩ := D_shr hr1 d (d + 2) 3 0 x3 (by omega)
  obtain ⟨τ2, a1, a2⟩ := p4 τ1 (Es.rf τ1)
  obtain ⟨bo, kd, kn, tr, ct, tk, hv⟩ := hr1.view
  obtain ⟨l1, -⟩ := C_al0 (hr1.es a2) (hv.es a2) (d + 3) (d + 3)
  have h2 := h1.es a2
  -- the reference, behind the class
  have r1 : Ec σ τ2 := t2.tr a2.ec
  obtain ⟨ρ1, b1, b2⟩ := q1 τ2 r1
  have hE1 : Es τ1 ρ1 := a2.tr b2
  have hs1 := hs.ec t2
  obtain ⟨ρ2, g1, g2, g3, g4⟩ := C_gt (h1.es hE1) (hs1.es hE1) (e := 10) (by omega) d
  have hE2 := hE1.tr g2
  obtain ⟨ρ3, f1, f2⟩ := C_fc (d + 5) (hr1.es hE2)
  have hE3 := hE2.tr f2.es
  obtain ⟨ρ4, k1, k2⟩ := q4 ρ3 hE3
  obtain ⟨-, ρ5, m1, m2⟩ := C_al0 (hr1.es k2) (hv.es k2) (d + 3) (d + 3)
  have hE5 := k2.tr m2
  have h5 := h1.es hE5
  obtain ⟨u0, u1, u2⟩ := C_parts2 h2 h5 (d + 1) (d + 2) (w := 0) ⟨0, by omega, rfl⟩
  obtain ⟨v0, v1, v2⟩ := C_parts2 h2 h5 (d + 1) (d + 2) (w := 1) ⟨1, by omega, rfl⟩
  obtain ⟨x6, w1, w2⟩ := D_nar (d + 1) (d + 2) h2 h5 3 0 (31 * (31 * (31 * x4 + (nI (alF (obF bo ct r) (cnt ct r) (owF kd (whF ct r) (cnt ct r)))).toInt64) + u0.toInt64) + v0.toInt64) (by omega)
  refine ⟨x6, τ2, ρ5, ?_, ?_, t2.tr hE5.ec, t3.es hE5⟩
  · rw [X_TO_digest_e, show X_TO_digest_6 (d + 6) 17 0 σ = _ from p1, X_TO_digest_6_e, xm_br_t (by decide), X_TO_digestOfNet_e, show X_TO_digestOfNet_5 (d + 5) x1 0 σ = _ from t1, xm_cL_s, X_TO_digestOfRecords_e, show X_TO_digestOfRecords_5 (d + 5) x2 0 τ1 = _ from (p3 τ1 (Es.rf τ1)).1, show X_TO_digestOfRecords_58 (d + 5) x3 0 τ1 = _ from a1, xm_cL_s, show X_TO_alike (d + 5) 0 τ2 = _ from l1, xm_cI_s, show X_TO_parts (d + 5) 0 τ2 = _ from u1, xm_cI_s, show X_TO_parts (d + 5) 1 τ2 = _ from v1, xm_cI_s]
    exact w1
  · rw [X_Mod_digest_e, show X_Mod_digest_6 (d + 6) 17 0 τ2 = _ from b1, X_Mod_digest_6_e, xm_br_t (by decide), show X_Mod_goesThrough (d + 5) 10 ρ1 = _ from g1, xm_cV_s, show X_Mod_digest_49 (d + 6) x1 0 ρ2 = _ from q2 ρ2 (h1.es hE2) (fun j hj => g3 50 j (Or.inl ⟨rfl, hj⟩)) (g3 39 22 (Or.inr (Or.inr (Or.inr (Or.inr ⟨rfl, rfl⟩))))) g4, f1, xm_cV_s, show X_Mod_digest_176 (d + 6) x2 0 ρ3 = _ from (p3 ρ3 hE3).2 (fun j hj => by rw [f2.2.2 j hj, hE2.1 18 (by decide)]), show X_Mod_digest_223 (d + 6) x3 0 ρ3 = _ from k1, X_Mod_digest_223_e, xm_br_t (by decide), show X_Mod_alikeOf (d + 5) 0 ρ4 = _ from m1, xm_cI_s, show X_Mod_partsNow (d + 5) 0 ρ5 = _ from u2, xm_cI_s, show X_Mod_partsNow (d + 5) 1 ρ5 = _ from v2, xm_cI_s]
    exact w2
end DG
