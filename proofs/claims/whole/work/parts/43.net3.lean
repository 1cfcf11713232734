/-! THE NET: tie -/
def Tj (T : Nat → Nat) (a b v : Nat) : Nat → Nat := fun p => if p = a then ks (T a) b v else if p = b then ks (T b) a v else T p
theorem C_tied {n K : Nat} {T : Nat → Nat} {σ : Sg} (h : NtA n T K σ) (d : Nat) {a b : Nat} (ha : a < n) (hb : b < n) : X_Net_tied (d + 1) (nI a) (nI b) σ = some (some (.int (nI (T a / 2 ^ b % 2))), σ) := by
  have hn := h.1
  have h9 := h.T (show a < 9 by omega)
  rw [X_Net_tied_e, C_holds _ _ σ (by omega) h.2.1, xm_cI_s, xm_br_b ⟨a, ha, rfl⟩, C_holds _ _ σ (by omega) h.2.1, xm_cI_s, xm_br_b ⟨b, hb, rfl⟩, xm_ix_n (by omega) (by omega), (h.2.2.2.1 a (by omega)).1, bt_1 (by omega) (by omega)]
  rcases Nat.mod_two_eq_zero_or_one (T a / 2 ^ b) with e | e <;> rw [e]
  · rw [xm_br_f (by decide)]; rfl
  · rw [xm_br_t (by decide)]; rfl
/-- the class's side of a tie -/
def Jn (T : Nat → Nat) (a b v : Nat) (σ : Sg) : Sg := xm_sI (xm_sI (xm_sI σ 2 a (nI (ks (T a) b v))) 2 b (nI (ks (T b) a v))) 1 3 (σ.1 1 3 + 1)
theorem C_join {n : Nat} {T : Nat → Nat} {σ : Sg} (d : Nat) {a b v : Nat} (ha : a < n) (hb : b < n) (hab : a ≠ b) (hv : v < 2) (hn : n ≤ 9) (h1 : σ.1 1 1 = nI n) (hT : ∀ p, p < 9 → σ.1 2 p = nI (T p) ∧ T p < 512) : X_Net_join (d + 1) (nI a) (nI b) (nI v) σ = some (none, Jn T a b v σ) := by
  rw [X_Net_join_e, C_holds _ _ σ (by omega) h1, xm_cI_s, xm_br_b ⟨a, ha, rfl⟩, C_holds _ _ σ (by omega) h1, xm_cI_s, xm_br_b ⟨b, hb, rfl⟩, sh_1 a (by omega), sh_1 b (by omega)]
  have ka := ks_ok (hT a (by omega)).2 (show b < 9 by omega)
  have kb := ks_ok (hT b (by omega)).2 (show a < 9 by omega)
  unfold Jn
  rcases (show v = 0 ∨ v = 1 by omega) with rfl | rfl
  · rw [xm_br_t (by decide), xm_ix_n (by omega) (by omega), xm_ix_n (by omega) (by omega), xm_br_t (by decide), xm_ix_n (by omega) (by omega), xm_ix_n (by omega) (by omega), sI_row _ _ (Ne.symm hab), (hT a (by omega)).1, (hT b (by omega)).1, ka.2.1, kb.2.1]
  · rw [xm_br_f (by decide), xm_ix_n (by omega) (by omega), xm_ix_n (by omega) (by omega), xm_br_f (by decide), xm_ix_n (by omega) (by omega), xm_ix_n (by omega) (by omega), sI_row _ _ (Ne.symm hab), (hT a (by omega)).1, (hT b (by omega)).1, ka.1, kb.1]
/-- the reference's side of a tie -/
def Mj (T : Nat → Nat) (a b v : Nat) (σ : Sg) : Sg := if T a / 2 ^ b % 2 = v then σ else xm_sI (xm_sI σ 44 a (nI (ks (T a) b v))) 44 b (nI (ks (T b) a v))
theorem C_ties {T : Nat → Nat} {σ : Sg} (d : Nat) {a b v : Nat} (ha : a < 9) (hb : b < 9) (hab : a ≠ b) (hv : v < 2) (hT : ∀ p, p < 9 → σ.1 44 p = nI (T p) ∧ T p < 512) (hs : T a / 2 ^ b % 2 = T b / 2 ^ a % 2) : X_Mod_ties d (nI a) (nI b) (nI v) σ = some (some (.int (if T a / 2 ^ b % 2 = v then 0 else 1)), Mj T a b v σ) := by
  have ka := ks_ok (hT a ha).2 hb
  have kb := ks_ok (hT b hb).2 ha
  have h9 := (hT a ha).2
  rw [X_Mod_ties_e, xm_ix_n ha (by omega), (hT a ha).1, bt_1 (by omega) (by omega), sh_1 a (by omega), sh_1 b (by omega)]
  unfold Mj
  have e0 : ∀ t, t = 1 - T a / 2 ^ b % 2 → ¬ T a / 2 ^ b % 2 = v → t = v := by intro t h1 h2; have := Nat.mod_lt (T a / 2 ^ b) (show 0 < 2 by omega); omega
  by_cases hq : T a / 2 ^ b % 2 = v
  · rw [if_pos hq, if_pos hq, hq]
    rcases (show v = 0 ∨ v = 1 by omega) with rfl | rfl
    · rw [xm_br_f (by decide), xm_br_t (by decide)]
    · rw [xm_br_t (by decide), xm_br_t (by decide)]
  · rw [if_neg hq, if_neg hq]
    have e1 := e0 _ rfl hq
    rw [e1] at ka
    rw [← hs, e1] at kb
    rcases Nat.mod_two_eq_zero_or_one (T a / 2 ^ b) with e | e <;> rw [e]
    · rw [xm_br_f (by decide), xm_br_f (by intro q; rw [e] at hq; have := (nI_eq (a := 0) (b := v) (by omega) (by omega)).mp q; omega), xm_ix_n ha (by omega), xm_ix_n ha (by omega), xm_ix_n hb (by omega), xm_ix_n hb (by omega), sI_row _ _ (Ne.symm hab), (hT a ha).1, (hT b hb).1, ka.2.2.1, kb.2.2.1]
    · rw [xm_br_t (by decide), xm_br_f (by intro q; rw [e] at hq; have := (nI_eq (a := 1) (b := v) (by omega) (by omega)).mp q; omega), xm_ix_n ha (by omega), xm_ix_n ha (by omega), xm_ix_n hb (by omega), xm_ix_n hb (by omega), sI_row _ _ (Ne.symm hab), (hT a ha).1, (hT b hb).1, ka.2.2.1, kb.2.2.1]
theorem NtA.sym {n K : Nat} {T : Nat → Nat} {σ : Sg} (h : NtA n T K σ) {a b : Nat} (ha : a < 9) (hb : b < 9) : T a / 2 ^ b % 2 = T b / 2 ^ a % 2 := by
  rw [bt_n, bt_n, (h.2.2.2.1 a ha).2.2.2.2.2 b hb]
/-- the net behind a tie on both sides -/
theorem NtA.tie {n K : Nat} {T : Nat → Nat} {σ τ : Sg} (h : NtA n T K σ) {a b v : Nat} (ha : a < n) (hb : b < n) (hab : a ≠ b) (hv : v < 2) (e1 : τ.1 1 1 = σ.1 1 1) (e12 : τ.1 1 2 = σ.1 1 2) (e39 : τ.1 39 5 = σ.1 39 5) (e45 : τ.1 45 = σ.1 45) (e2 : ∀ p, p < 9 → τ.1 2 p = nI (Tj T a b v p)) (e44 : ∀ p, p < 9 → τ.1 44 p = nI (Tj T a b v p)) : NtA n (Tj T a b v) K τ := by
  have hn := h.1
  have bit : ∀ p q, p < 9 → q < 9 → (Tj T a b v p).testBit q = if (p = a ∧ q = b) ∨ (p = b ∧ q = a) then decide (v = 1) else (T p).testBit q := by
    intro p q hp hq
    unfold Tj
    by_cases hpa : p = a
    · subst hpa
      rw [if_pos rfl, ks_bit (h.T hp) (by omega) hq hv]
      by_cases hqb : q = b
      · rw [if_pos hqb, if_pos (Or.inl ⟨rfl, hqb⟩)]
      · rw [if_neg hqb, if_neg (by omega)]
    · rw [if_neg hpa]
      by_cases hpb : p = b
      · subst hpb
        rw [if_pos rfl, ks_bit (h.T hp) (by omega) hq hv]
        by_cases hqa : q = a
        · rw [if_pos hqa, if_pos (Or.inr ⟨rfl, hqa⟩)]
        · rw [if_neg hqa, if_neg (by omega)]
      · rw [if_neg hpb, if_neg (by omega)]
  refine ⟨hn, e1.trans h.2.1, e39.trans h.2.2.1, fun p hp => ⟨e2 p hp, e44 p hp, ?_, ?_, ?_, fun q hq => ?_⟩, e12.trans h.2.2.2.2.1, h.2.2.2.2.2.1, fun p hp => by rw [e45]; exact h.2.2.2.2.2.2 p hp⟩
  · unfold Tj
    by_cases hpa : p = a
    · rw [if_pos hpa]
      exact ks_lt hn.2 (h.2.2.2.1 a (by omega)).2.2.1 hb hv
    · rw [if_neg hpa]
      by_cases hpb : p = b
      · rw [if_pos hpb]
        exact ks_lt hn.2 (h.2.2.2.1 b (by omega)).2.2.1 ha hv
      · rw [if_neg hpb]
        exact (h.2.2.2.1 p hp).2.2.1
  · rw [bit p p hp hp, if_neg (by omega)]
    exact (h.2.2.2.1 p hp).2.2.2.1
  · intro hnp
    unfold Tj
    rw [if_neg (by omega), if_neg (by omega)]
    exact (h.2.2.2.1 p hp).2.2.2.2.1 hnp
  · rw [bit p q hp hq, bit q p hq hp]
    by_cases hc : (p = a ∧ q = b) ∨ (p = b ∧ q = a)
    · rw [if_pos hc, if_pos (by omega)]
    · rw [if_neg hc, if_neg (by omega)]
      exact (h.2.2.2.1 p hp).2.2.2.2.2 q hq
theorem Mj_44 {T : Nat → Nat} {a b v : Nat} {σ : Sg} (hab : a ≠ b) (hs : T a / 2 ^ b % 2 = T b / 2 ^ a % 2) (hT : ∀ p, p < 9 → σ.1 44 p = nI (T p)) : ∀ p, p < 9 → (Mj T a b v σ).1 44 p = nI (Tj T a b v p) := by
  intro p hp
  unfold Mj Tj
  by_cases hq : T a / 2 ^ b % 2 = v
  · rw [if_pos hq, hT p hp]
    by_cases hpa : p = a
    · rw [if_pos hpa, hpa, ks_same hq]
    · rw [if_neg hpa]
      by_cases hpb : p = b
      · rw [if_pos hpb, hpb, ks_same (by rw [← hs]; exact hq)]
      · rw [if_neg hpb]
  · rw [if_neg hq, sI_at]
    by_cases hpa : p = a
    · rw [if_neg (by omega), if_pos hpa, hpa, sI_same]
    · rw [if_neg hpa]
      by_cases hpb : p = b
      · rw [if_pos hpb, if_pos hpb]
      · rw [if_neg hpb, if_neg hpb, sI_row _ _ hpa, hT p hp]
theorem Jn_2 {T : Nat → Nat} {a b v : Nat} {σ : Sg} (hab : a ≠ b) (hT : ∀ p, p < 9 → σ.1 2 p = nI (T p)) : ∀ p, p < 9 → (Jn T a b v σ).1 2 p = nI (Tj T a b v p) := by
  intro p hp
  unfold Jn Tj
  rw [sI_cell _ _ _ (by decide), sI_at]
  by_cases hpa : p = a
  · rw [if_neg (by omega), if_pos hpa, hpa, sI_same]
  · rw [if_neg hpa]
    by_cases hpb : p = b
    · rw [if_pos hpb, if_pos hpb]
    · rw [if_neg hpb, if_neg hpb, sI_row _ _ hpa, hT p hp]
theorem Jn_ex {T : Nat → Nat} {a b v : Nat} {σ τ : Sg} (h : Ex [1, 2, 44] [] σ τ) : Ex [1, 2, 44] [] σ (Jn T a b v τ) := ((h.sI (by decide) (by decide)).sI (by decide) (by decide)).sI (by decide) (by decide)
theorem Mj_ex {T : Nat → Nat} {a b v : Nat} {σ τ : Sg} (h : Ex [1, 2, 44] [] σ τ) : Ex [1, 2, 44] [] σ (Mj T a b v τ) := by
  unfold Mj
  by_cases hq : T a / 2 ^ b % 2 = v
  · rw [if_pos hq]; exact h
  · rw [if_neg hq]
    exact (h.sI (by decide) (by decide)).sI (by decide) (by decide)
theorem Mj_cell {T : Nat → Nat} {a b v c : Nat} {σ : Sg} (h : c ≠ 44) : (Mj T a b v σ).1 c = σ.1 c := by
  unfold Mj
  by_cases hq : T a / 2 ^ b % 2 = v
  · rw [if_pos hq]
  · rw [if_neg hq, sI_cell _ _ _ h, sI_cell _ _ _ h]
/-- the net may be another one, then the count of changes is one more; else all is as it was -/
def TiP (n K : Nat) (T : Nat → Nat) (σ : Sg) : Sg → Prop := fun τ => τ = σ ∨ ((∃ T', NtA n T' K τ) ∧ Ex [1, 2, 44] [] σ τ ∧ τ.1 1 3 = σ.1 1 3 + 1)
theorem O_tie {n K : Nat} {T : Nat → Nat} {σ : Sg} (h : NtA n T K σ) (d : Nat) (x y w : Int32) (hw : inR w 2) : OpI (X_TO_tie (d + 4) x y w) (X_Mod_tie (d + 4) x y w) (TiP n K T σ) σ := by
  unfold OpI
  have hn := h.1
  rw [X_TO_tie_e, C_holds _ _ σ (by omega) h.2.1, xm_cI_s]
  by_cases hx : inR x n
  rotate_left
  · rw [xm_br_n hx]
    refine ⟨_, _, σ, rfl, ?_, Or.inl rfl⟩
    rw [X_Mod_tie_e, C_isPerson _ _ σ (by omega) (by omega) h.2.2.1, xm_cI_s, xm_br_n hx]
  rw [xm_br_b hx, C_holds _ _ σ (by omega) h.2.1, xm_cI_s]
  by_cases hy : inR y n
  rotate_left
  · rw [xm_br_n hy]
    refine ⟨_, _, σ, rfl, ?_, Or.inl rfl⟩
    rw [X_Mod_tie_e, C_isPerson _ _ σ (by omega) (by omega) h.2.2.1, xm_cI_s, xm_br_b hx, C_isPerson _ _ σ (by omega) (by omega) h.2.2.1, xm_cI_s, xm_br_n hy]
  rw [xm_br_b hy]
  have hm : ∀ τ : Sg, τ.1 39 5 = nI n → X_Mod_tie (d + 4) x y w τ = xm_br (x = y) (some (some (.int (-2)), τ)) (xm_cI (X_Mod_ties (d + 3) x y w τ) (fun r6 σ5 => some (some (.int r6), σ5))) := by
    intro τ e
    rw [X_Mod_tie_e, C_isPerson _ _ τ (by omega) (by omega) e, xm_cI_s, xm_br_b hx, C_isPerson _ _ τ (by omega) (by omega) e, xm_cI_s, xm_br_b hy]
  by_cases hxy : x = y
  · rw [xm_br_t hxy]
    refine ⟨_, _, σ, rfl, ?_, Or.inl rfl⟩
    rw [hm σ h.2.2.1, xm_br_t hxy]
  rw [xm_br_f hxy]
  obtain ⟨a, ha, rfl⟩ := hx
  obtain ⟨b, hb, rfl⟩ := hy
  obtain ⟨v, hv, rfl⟩ := hw
  have hab : a ≠ b := fun e => hxy (by rw [e])
  have hsy := h.sym (show a < 9 by omega) (show b < 9 by omega)
  rw [C_tied h _ ha hb, xm_cI_s]
  by_cases hq : T a / 2 ^ b % 2 = v
  · rw [xm_br_t (by rw [hq])]
    refine ⟨_, _, σ, rfl, ?_, Or.inl rfl⟩
    rw [hm σ h.2.2.1, xm_br_f hxy, C_ties _ (by omega) (by omega) hab hv (fun p hp => ⟨(h.2.2.2.1 p hp).2.1, h.T hp⟩) hsy, xm_cI_s, if_pos hq, Mj, if_pos hq]
  · rw [xm_br_f (fun e => hq ((nI_eq (by omega) (by omega)).mp e)), C_join (T := T) _ ha hb hab hv hn.2 h.2.1 (fun p hp => ⟨(h.2.2.2.1 p hp).1, h.T hp⟩), xm_cV_s]
    have j44 : (Jn T a b v σ).1 44 = σ.1 44 := by unfold Jn; rw [sI_cell _ _ _ (by decide), sI_cell _ _ _ (by decide), sI_cell _ _ _ (by decide)]
    have j39 : (Jn T a b v σ).1 39 = σ.1 39 := by unfold Jn; rw [sI_cell _ _ _ (by decide), sI_cell _ _ _ (by decide), sI_cell _ _ _ (by decide)]
    have j45 : (Jn T a b v σ).1 45 = σ.1 45 := by unfold Jn; rw [sI_cell _ _ _ (by decide), sI_cell _ _ _ (by decide), sI_cell _ _ _ (by decide)]
    have j1 : ∀ i, i ≠ 3 → (Jn T a b v σ).1 1 i = σ.1 1 i := fun i hi => by unfold Jn; rw [sI_row _ _ hi, sI_cell _ _ _ (by decide), sI_cell _ _ _ (by decide)]
    refine ⟨_, _, Mj T a b v (Jn T a b v σ), rfl, ?_, Or.inr ⟨⟨Tj T a b v, ?_⟩, Mj_ex (Jn_ex (Ex.rf _ _ _)), ?_⟩⟩
    · rw [hm _ (by rw [j39]; exact h.2.2.1), xm_br_f hxy, C_ties _ (by omega) (by omega) hab hv (fun p hp => ⟨by rw [j44]; exact (h.2.2.2.1 p hp).2.1, h.T hp⟩) hsy, xm_cI_s, if_neg hq]
    · refine h.tie ha hb hab hv ?_ ?_ ?_ ?_ ?_ ?_
      · rw [Mj_cell (by decide), j1 1 (by decide)]
      · rw [Mj_cell (by decide), j1 2 (by decide)]
      · rw [Mj_cell (by decide), j39]
      · rw [Mj_cell (by decide), j45]
      · intro p hp
        rw [Mj_cell (by decide)]
        exact Jn_2 hab (fun p hp => (h.2.2.2.1 p hp).1) p hp
      · exact Mj_44 hab hsy (fun p hp => by rw [j44]; exact (h.2.2.2.1 p hp).2.1)
    · rw [Mj_cell (by decide)]
      unfold Jn
      rw [sI_same]
