/-! THE NET: who is reached; far -/
def og (T : Nat → Nat) (g s : Nat) : Nat → Nat
  | 0 => s
  | i + 1 => og T g s i ||| (if s.testBit i then T i &&& g else 0)
def it (T : Nat → Nat) (n g : Nat) : Nat → Nat → Nat
  | 0, s => s
  | k + 1, s => it T n g k (og T g s n)
theorem or_512 {a b : Nat} (ha : a < 512) (hb : b < 512) : a ||| b < 512 := Nat.or_lt_two_pow (n := 9) ha hb
theorem and_512 {a b : Nat} (ha : a < 512) : a &&& b < 512 := Nat.lt_of_le_of_lt Nat.and_le_left ha
theorem og_512 {T : Nat → Nat} {g s : Nat} (hs : s < 512) : ∀ i, (∀ p, p < i → T p < 512) → og T g s i < 512
  | 0, _ => hs
  | i + 1, h => by
    refine or_512 (og_512 hs i (fun p hp => h p (by omega))) ?_
    by_cases hb : s.testBit i = true
    · rw [if_pos hb]; exact and_512 (h i (by omega))
    · rw [if_neg hb]; omega
theorem it_fix {T : Nat → Nat} {n g s : Nat} (h : og T g s n = s) : ∀ k, it T n g k s = s
  | 0 => rfl
  | k + 1 => by
    show it T n g k (og T g s n) = s
    rw [h, it_fix h k]
theorem it_512 {T : Nat → Nat} {n g : Nat} (hT : ∀ p, p < n → T p < 512) : ∀ k s, s < 512 → it T n g k s < 512
  | 0, s, hs => hs
  | k + 1, s, hs => it_512 hT k _ (og_512 hs n hT)
theorem C_sp19 (d : Nat) {n : Nat} {T : Nat → Nat} {σ : Sg} (hn : n ≤ 9) (h1 : σ.1 1 1 = nI n) (hT : ∀ p, p < 9 → σ.1 2 p = nI (T p) ∧ T p < 512) {g s k a : Nat} (hs : s < 512) : ∀ (m i : Nat), i + m = n → X_Net_spread_19 d (nI k) (nI g) (nI s) (nI a) (nI (og T g s i)) (nI i) σ = if og T g s n = s then some (some (.int (nI s)), σ) else X_Net_spread_6 d (nI k) (nI g) (nI (og T g s n)) (nI (a + 1)) σ
  | 0, i, h => by
    have : i = n := by omega
    subst this
    rw [X_Net_spread_19_e, h1, xm_br_t (nI_le (Nat.le_refl _) (by omega))]
    have hb := og_512 (T := T) (g := g) hs i (fun p hp => (hT p (by omega)).2)
    by_cases e : og T g s i = s
    · rw [if_pos e, xm_br_t (by rw [e])]
    · rw [if_neg e, xm_br_f (fun q => e ((nI_eq (by omega) (by omega)).mp q)), nI_1]
  | m + 1, i, h => by
    have hb := og_512 (T := T) (g := g) hs i (fun p hp => (hT p (by omega)).2)
    rw [X_Net_spread_19_e, h1, xm_br_f (nI_ge (by omega) (by omega))]
    have ih := C_sp19 d hn h1 hT (g := g) (k := k) (a := a) hs m (i + 1) (by omega)
    by_cases hbit : s.testBit i = true
    · rw [xm_br_t ((bt_t (by omega) (by omega)).mpr hbit), xm_ix_n (by omega) (by omega), (hT i (by omega)).1, fa_and, fa_or, nI_1]
      rw [show og T g s (i + 1) = og T g s i ||| (T i &&& g) by show og T g s i ||| (if s.testBit i then T i &&& g else 0) = _; rw [if_pos hbit]] at ih
      exact ih
    · rw [xm_br_f (fun q => hbit ((bt_t (by omega) (by omega)).mp q)), show (nI (og T g s i) ||| 0) = nI (og T g s i ||| 0) from fa_or _ 0, nI_1]
      rw [show og T g s (i + 1) = og T g s i ||| 0 by show og T g s i ||| (if s.testBit i then T i &&& g else 0) = _; rw [if_neg hbit]] at ih
      exact ih
theorem C_sp6 (d : Nat) {n : Nat} {T : Nat → Nat} {σ : Sg} (hn : n ≤ 9) (h1 : σ.1 1 1 = nI n) (hT : ∀ p, p < 9 → σ.1 2 p = nI (T p) ∧ T p < 512) {g k : Nat} (hk : k < 1000) : ∀ (m a s : Nat), s < 512 → a + m = k → X_Net_spread_6 d (nI k) (nI g) (nI s) (nI a) σ = some (some (.int (nI (it T n g m s))), σ)
  | 0, a, s, hs, h => by
    rw [X_Net_spread_6_e, xm_br_t (nI_le (by omega) (by omega))]
    rfl
  | m + 1, a, s, hs, h => by
    rw [X_Net_spread_6_e, xm_br_f (nI_ge (by omega) (by omega))]
    have := C_sp19 d hn h1 hT (g := g) (k := k) (a := a) hs n 0 (by omega)
    rw [show X_Net_spread_19 d (nI k) (nI g) (nI s) (nI a) (nI s) 0 σ = _ from this]
    by_cases e : og T g s n = s
    · rw [if_pos e]
      show _ = some (some (Value.int (nI (it T n g m (og T g s n)))), σ)
      rw [e, it_fix e]
    · rw [if_neg e, C_sp6 d hn h1 hT hk m (a + 1) _ (og_512 hs n (fun p hp => (hT p (by omega)).2)) (by omega)]
      rfl
theorem C_spread (d : Nat) {n : Nat} {T : Nat → Nat} {σ : Sg} (hn : n ≤ 9) (h1 : σ.1 1 1 = nI n) (hT : ∀ p, p < 9 → σ.1 2 p = nI (T p) ∧ T p < 512) {g k s : Nat} (hk : k < 1000) (hs : s < 512) : X_Net_spread d (nI s) (nI k) (nI g) σ = some (some (.int (nI (it T n g k s))), σ) := by
  rw [X_Net_spread_e]
  exact C_sp6 d hn h1 hT hk k 0 s hs (by omega)
theorem C_ar19 (d : Nat) {n : Nat} {T : Nat → Nat} {σ : Sg} (hn : n ≤ 9) (h1 : σ.1 39 5 = nI n) (hT : ∀ p, p < 9 → σ.1 44 p = nI (T p) ∧ T p < 512) {g s k a : Nat} (hs : s < 512) : ∀ (m i : Nat), i + m = n → X_Mod_around_19 d (nI k) (nI g) (nI s) (nI a) (nI (og T g s i)) (nI i) σ = X_Mod_around_6 d (nI k) (nI g) (nI (og T g s n)) (nI (a + 1)) σ
  | 0, i, h => by
    have : i = n := by omega
    subst this
    rw [X_Mod_around_19_e, h1, xm_br_t (nI_le (Nat.le_refl _) (by omega)), nI_1]
  | m + 1, i, h => by
    rw [X_Mod_around_19_e, h1, xm_br_f (nI_ge (by omega) (by omega))]
    have ih := C_ar19 d hn h1 hT (g := g) (k := k) (a := a) hs m (i + 1) (by omega)
    by_cases hbit : s.testBit i = true
    · rw [xm_br_t ((bt_t (by omega) (by omega)).mpr hbit), xm_ix_n (by omega) (by omega), (hT i (by omega)).1, fa_and, fa_or, nI_1]
      rw [show og T g s (i + 1) = og T g s i ||| (T i &&& g) by show og T g s i ||| (if s.testBit i then T i &&& g else 0) = _; rw [if_pos hbit]] at ih
      exact ih
    · rw [xm_br_f (fun q => hbit ((bt_t (by omega) (by omega)).mp q)), show (nI (og T g s i) ||| 0) = nI (og T g s i ||| 0) from fa_or _ 0, nI_1]
      rw [show og T g s (i + 1) = og T g s i ||| 0 by show og T g s i ||| (if s.testBit i then T i &&& g else 0) = _; rw [if_neg hbit]] at ih
      exact ih
theorem C_ar6 (d : Nat) {n : Nat} {T : Nat → Nat} {σ : Sg} (hn : n ≤ 9) (h1 : σ.1 39 5 = nI n) (hT : ∀ p, p < 9 → σ.1 44 p = nI (T p) ∧ T p < 512) {g k : Nat} (hk : k < 1000) : ∀ (m a s : Nat), s < 512 → a + m = k → X_Mod_around_6 d (nI k) (nI g) (nI s) (nI a) σ = some (some (.int (nI (it T n g m s))), σ)
  | 0, a, s, hs, h => by
    rw [X_Mod_around_6_e, xm_br_t (nI_le (by omega) (by omega))]
    rfl
  | m + 1, a, s, hs, h => by
    rw [X_Mod_around_6_e, xm_br_f (nI_ge (by omega) (by omega))]
    have := C_ar19 d hn h1 hT (g := g) (k := k) (a := a) hs n 0 (by omega)
    rw [show X_Mod_around_19 d (nI k) (nI g) (nI s) (nI a) (nI s) 0 σ = _ from this, C_ar6 d hn h1 hT hk m (a + 1) _ (og_512 hs n (fun p hp => (hT p (by omega)).2)) (by omega)]
    rfl
theorem C_around (d : Nat) {n : Nat} {T : Nat → Nat} {σ : Sg} (hn : n ≤ 9) (h1 : σ.1 39 5 = nI n) (hT : ∀ p, p < 9 → σ.1 44 p = nI (T p) ∧ T p < 512) {g k s : Nat} (hk : k < 1000) (hs : s < 512) : X_Mod_around d (nI s) (nI k) (nI g) σ = some (some (.int (nI (it T n g k s))), σ) := by
  rw [X_Mod_around_e]
  exact C_ar6 d hn h1 hT hk k 0 s hs (by omega)
theorem NtA.c {n K : Nat} {T : Nat → Nat} {σ : Sg} (h : NtA n T K σ) : ∀ p, p < 9 → σ.1 2 p = nI (T p) ∧ T p < 512 := fun p hp => ⟨(h.2.2.2.1 p hp).1, h.T hp⟩
theorem NtA.m {n K : Nat} {T : Nat → Nat} {σ : Sg} (h : NtA n T K σ) : ∀ p, p < 9 → σ.1 44 p = nI (T p) ∧ T p < 512 := fun p hp => ⟨(h.2.2.2.1 p hp).2.1, h.T hp⟩
theorem p2_512 {a : Nat} (h : a < 9) : 2 ^ a < 512 := Nat.lt_of_lt_of_le (Nat.pow_lt_pow_right (by omega) h) (by decide)
/-- both loops of far give the same -/
theorem C_far {n K : Nat} {T : Nat → Nat} {σ : Sg} (h : NtA n T K σ) (d d' : Nat) {a b : Nat} (ha : a < n) (hb : b < n) : ∀ (m k : Nat), k + m = 9 → ∃ r, X_Net_distance_2 (d + 1) (nI a) (nI b) (nI k) σ = some (some (.int r), σ) ∧ X_Mod_far_21 (d' + 1) (nI a) (nI b) (nI k) σ = some (some (.int r), σ)
  | 0, k, hk => by
    refine ⟨-1, ?_, ?_⟩
    · rw [X_Net_distance_2_e, xm_br_t (show (9 : Int32) ≤ nI k from nI_le (a := 9) (b := k) (by omega) (by omega))]
    · rw [X_Mod_far_21_e, xm_br_t (show (9 : Int32) ≤ nI k from nI_le (a := 9) (b := k) (by omega) (by omega))]
  | m + 1, k, hk => by
    have hn := h.1
    have c9 : ¬ (9 : Int32) ≤ nI k := nI_ge (a := k) (b := 9) (by omega) (by omega)
    have hi := it_512 (T := T) (n := n) (g := 2 ^ n - 1) (fun p hp => h.T (by omega)) k (2 ^ a) (p2_512 (by omega))
    obtain ⟨r, r1, r2⟩ := C_far h d d' ha hb m (k + 1) (by omega)
    by_cases hbit : (it T n (2 ^ n - 1) k (2 ^ a)).testBit b = true
    · refine ⟨nI k, ?_, ?_⟩
      · rw [X_Net_distance_2_e, xm_br_f c9, C_everyone _ _ hn.2 h.2.1, xm_cI_s, sh_1 a (by omega), C_spread d hn.2 h.2.1 h.c (by omega) (p2_512 (by omega)), xm_cI_s, xm_br_t ((bt_t (by omega) (by omega)).mpr hbit)]
      · rw [X_Mod_far_21_e, xm_br_f c9, C_everybody _ _ hn.2 h.2.2.1, xm_cI_s, sh_1 a (by omega), C_around d' hn.2 h.2.2.1 h.m (by omega) (p2_512 (by omega)), xm_cI_s, xm_br_t ((bt_t (by omega) (by omega)).mpr hbit)]
    · refine ⟨r, ?_, ?_⟩
      · rw [X_Net_distance_2_e, xm_br_f c9, C_everyone _ _ hn.2 h.2.1, xm_cI_s, sh_1 a (by omega), C_spread d hn.2 h.2.1 h.c (by omega) (p2_512 (by omega)), xm_cI_s, xm_br_f (fun q => hbit ((bt_t (by omega) (by omega)).mp q)), nI_1, r1]
      · rw [X_Mod_far_21_e, xm_br_f c9, C_everybody _ _ hn.2 h.2.2.1, xm_cI_s, sh_1 a (by omega), C_around d' hn.2 h.2.2.1 h.m (by omega) (p2_512 (by omega)), xm_cI_s, xm_br_f (fun q => hbit ((bt_t (by omega) (by omega)).mp q)), nI_1, r2]
theorem O_far {n K : Nat} {T : Nat → Nat} {σ : Sg} (h : NtA n T K σ) (d : Nat) (x y : Int32) : OpI (X_TO_far (d + 4) x y) (X_Mod_far (d + 4) x y) (fun τ => τ = σ) σ := by
  unfold OpI
  have hn := h.1
  rw [X_TO_far_e, C_holds _ _ σ (by omega) h.2.1, xm_cI_s]
  by_cases hx : inR x n
  rotate_left
  · rw [xm_br_n hx]
    refine ⟨_, _, σ, rfl, ?_, rfl⟩
    rw [X_Mod_far_e, C_isPerson _ _ σ (by omega) (by omega) h.2.2.1, xm_cI_s, xm_br_n hx]
  rw [xm_br_b hx, C_holds _ _ σ (by omega) h.2.1, xm_cI_s]
  by_cases hy : inR y n
  rotate_left
  · rw [xm_br_n hy]
    refine ⟨_, _, σ, rfl, ?_, rfl⟩
    rw [X_Mod_far_e, C_isPerson _ _ σ (by omega) (by omega) h.2.2.1, xm_cI_s, xm_br_b hx, C_isPerson _ _ σ (by omega) (by omega) h.2.2.1, xm_cI_s, xm_br_n hy]
  have hx0 := hx
  have hy0 := hy
  obtain ⟨a, ha, rfl⟩ := hx
  obtain ⟨b, hb, rfl⟩ := hy
  obtain ⟨r, r1, r2⟩ := C_far h (d + 2) (d + 3) ha hb 9 0 (by omega)
  rw [xm_br_b hy0, X_Net_distance_e, show X_Net_distance_2 (d + 3) (nI a) (nI b) 0 σ = _ from r1, xm_cI_s]
  refine ⟨_, _, σ, rfl, ?_, rfl⟩
  rw [X_Mod_far_e, C_isPerson _ _ σ (by omega) (by omega) h.2.2.1, xm_cI_s, xm_br_b hx0, C_isPerson _ _ σ (by omega) (by omega) h.2.2.1, xm_cI_s, xm_br_b hy0]
  exact r2
