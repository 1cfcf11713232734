/-! MARKS: type, wipe, clash -/
def MkP (σ : Sg) : Sg → Prop := fun τ => MkA τ ∧ Ex [25, 26, 67, 68] [] σ τ
theorem sg_n (a l : Nat) : (nI a * 8 + nI l) = nI (8 * a + l) := by
  rw [← nI_add, ← pk_mul, Int32.mul_comm]; rfl
theorem sg_m (a l : Nat) : (8 * nI a + nI l) = nI (8 * a + l) := by
  rw [← nI_add, ← pk_mul]; rfl
theorem C_isSign (d : Nat) (x : Int32) (σ : Sg) : X_Marks_isSign d x σ = some (some (.int (bI (x = 63 ∨ (97 ≤ x ∧ x ≤ 122)))), σ) := by
  rw [X_Marks_isSign_e]
  by_cases h1 : x < 97
  · rw [xm_br_t h1]
    by_cases h2 : x = 63
    · rw [xm_br_t h2, bI_t (Or.inl h2)]
    · rw [xm_br_f h2, bI_f]
      rintro (q | q)
      · exact h2 q
      · exact (fa_of_lt h1).2.1 q.1
  · rw [xm_br_f h1]
    by_cases h3 : x ≤ 122
    · rw [xm_br_t h3, bI_t (Or.inr ⟨fa_of_nlt h1, h3⟩)]
    · rw [xm_br_f h3]
      by_cases h2 : x = 63
      · rw [xm_br_t h2, bI_t (Or.inl h2)]
      · rw [xm_br_f h2, bI_f]
        rintro (q | q)
        · exact h2 q
        · exact h3 q.2
theorem O_type {r : Nat} {σ : Sg} (h : RcA r σ) (hm : MkA σ) (d : Nat) (x y : Int32) : OpI (X_TO_type (d + 4) x y) (X_Mod_type (d + 4) x y) (MkP σ) σ := by
  unfold OpI
  have hr := h.1
  have h9 : ∀ τ, X_Mod_in (d + 3) y.toInt64 0 255 τ = some (some (.int (bI (0 ≤ y ∧ y ≤ 255))), τ) := fun τ => C_in32 (d + 3) y 0 255 τ
  have h8 : ∀ τ, X_Mod_in (d + 3) y.toInt64 97 122 τ = some (some (.int (bI (97 ≤ y ∧ y ≤ 122))), τ) := fun τ => C_in32 (d + 3) y 97 122 τ
  by_cases hx : inR x r
  rotate_left
  · refine ⟨-2, σ, σ, ?_, ?_, hm, Ex.rf _ _ _⟩
    · rw [X_TO_type_e, C_rHolds _ _ σ (by omega) h.2.1, xm_cI_s, xm_br_n hx]
    · rw [X_Mod_type_e, C_isRecord _ _ σ (by omega) h.2.2.1, xm_cI_s, xm_br_n hx]
  by_cases hy : 0 ≤ y ∧ y ≤ 255
  rotate_left
  · refine ⟨-2, σ, σ, ?_, ?_, hm, Ex.rf _ _ _⟩
    · rw [X_TO_type_e, C_rHolds _ _ σ (by omega) h.2.1, xm_cI_s, xm_br_b hx, C_isUpTo, xm_cI_s, xm_br_n hy]
    · rw [X_Mod_type_e, C_isRecord _ _ σ (by omega) h.2.2.1, xm_cI_s, xm_br_b hx, h9, xm_cI_s, xm_br_n hy]
  have hx0 := hx
  obtain ⟨a, ha, rfl⟩ := hx
  obtain ⟨e68, l, hl, el⟩ := hm.1 a (by omega)
  have mod : ∀ τ : Sg, τ.1 39 26 = nI r → τ.1 68 a = nI l → X_Mod_type (d + 4) (nI a) y τ = xm_br (bI (y = 63 ∨ (97 ≤ y ∧ y ≤ 122)) = 0) (some (some (.int (-3)), τ)) (xm_br (nI l = 8) (some (some (.int (-4)), τ)) (xm_ix (nI (8 * a + l)) 192 (fun j => some (some (.int (nI l + 1)), xm_sI (xm_sI τ 67 j y) 68 a (nI l + 1))))) := by
    intro τ e1 e2
    rw [X_Mod_type_e, C_isRecord _ _ τ (by omega) e1, xm_cI_s, xm_br_b hx0, h9, xm_cI_s, xm_br_b hy, h8, xm_cI_s]
    simp only [xm_ix_n (show a < 24 by omega) (show 24 < 2 ^ 31 by omega), e2, sg_m, sI_same]
    by_cases q : y = 63
    · rw [xm_br_t q, xm_br_b (Or.inl q)]
    · rw [xm_br_f q]
      by_cases q2 : 97 ≤ y ∧ y ≤ 122
      · rw [xm_br_b q2, xm_br_b (Or.inr q2)]
      · rw [xm_br_n q2, xm_br_n (fun o => o.elim q q2)]
  rw [X_TO_type_e, C_rHolds _ _ σ (by omega) h.2.1, xm_cI_s, xm_br_b hx0, C_isUpTo, xm_cI_s, xm_br_b hy, C_isSign, xm_cI_s, xm_ix_n (show a < 24 by omega) (by omega), el]
  by_cases hs : y = 63 ∨ (97 ≤ y ∧ y ≤ 122)
  rotate_left
  · refine ⟨-3, σ, σ, ?_, ?_, hm, Ex.rf _ _ _⟩
    · rw [xm_br_n hs]
    · rw [mod σ h.2.2.1 (by rw [← e68]; exact el), xm_br_n hs]
  rw [xm_br_b hs]
  by_cases h8' : l = 8
  · subst h8'
    refine ⟨-4, σ, σ, ?_, ?_, hm, Ex.rf _ _ _⟩
    · rw [xm_br_f (by decide)]
    · rw [mod σ h.2.2.1 (by rw [← e68]; exact el), xm_br_b hs, xm_br_t (by decide)]
  rw [xm_br_t (show nI l < 8 from nI_lt (b := 8) (by omega) (by omega)), X_Marks_append_e]
  simp only [xm_ix_n (show a < 24 by omega) (show 24 < 2 ^ 31 by omega), el, sg_n, sI_same]
  rw [xm_ix_n (show 8 * a + l < 192 by omega) (by omega), xm_cI_s]
  refine ⟨_, _, xm_sI (xm_sI (xm_sI (xm_sI σ 25 (8 * a + l) y) 26 a (nI l + 1)) 67 (8 * a + l) y) 68 a (nI l + 1), rfl, ?_, ⟨fun i hi => ?_, fun j hj => ?_⟩, ((((Ex.rf _ _ _).sI (by decide) (by decide)).sI (by decide) (by decide)).sI (by decide) (by decide)).sI (by decide) (by decide)⟩
  · rw [mod _ (by simp [xm_sI, h.2.2.1]) (by simp [xm_sI, ← e68, el]), xm_br_b hs, xm_br_f (show ¬ nI l = 8 from fun q => h8' ((nI_eq (a := l) (b := 8) (by omega) (by omega)).mp q)), xm_ix_n (show 8 * a + l < 192 by omega) (by omega)]
  · by_cases e : i = a
    · subst e
      simp [xm_sI, upd]
      exact ⟨l + 1, by omega, nI_1 l⟩
    · have := hm.1 i hi
      simpa [xm_sI, upd, e] using this
  · by_cases e : j = 8 * a + l
    · subst e
      simp [xm_sI, upd]
    · have := hm.2 j hj
      simpa [xm_sI, upd, e] using this
theorem O_wipe {r : Nat} {σ : Sg} (h : RcA r σ) (hm : MkA σ) (d : Nat) (x : Int32) : OpI (X_TO_wipe (d + 4) x) (X_Mod_wipe (d + 4) x) (MkP σ) σ := by
  unfold OpI
  have hr := h.1
  by_cases hx : inR x r
  rotate_left
  · refine ⟨-2, σ, σ, ?_, ?_, hm, Ex.rf _ _ _⟩
    · rw [X_TO_wipe_e, C_rHolds _ _ σ (by omega) h.2.1, xm_cI_s, xm_br_n hx]
    · rw [X_Mod_wipe_e, C_isRecord _ _ σ (by omega) h.2.2.1, xm_cI_s, xm_br_n hx]
  have hx0 := hx
  obtain ⟨a, ha, rfl⟩ := hx
  have e68 := (hm.1 a (by omega)).1
  refine ⟨σ.1 26 a, xm_sI σ 26 a 0, xm_sI (xm_sI σ 26 a 0) 68 a 0, ?_, ?_, ⟨fun i hi => ?_, fun j hj => ?_⟩, ((Ex.rf _ _ _).sI (by decide) (by decide)).sI (by decide) (by decide)⟩
  · rw [X_TO_wipe_e, C_rHolds _ _ σ (by omega) h.2.1, xm_cI_s, xm_br_b hx0, xm_ix_n (show a < 24 by omega) (by omega), xm_ix_n (show a < 24 by omega) (by omega)]
  · rw [X_Mod_wipe_e, C_isRecord (r := r) _ _ _ (by omega) (by simp [xm_sI, h.2.2.1]), xm_cI_s, xm_br_b hx0, xm_ix_n (show a < 24 by omega) (by omega), xm_ix_n (show a < 24 by omega) (by omega), sI_cell _ _ _ (by decide : (68 : Nat) ≠ 26), e68]
  · by_cases e : i = a
    · subst e
      simp [xm_sI, upd]
      exact ⟨0, by omega, rfl⟩
    · have := hm.1 i hi
      simpa [xm_sI, upd, e] using this
  · have := hm.2 j hj
    simpa [xm_sI, upd] using this
/-- how many signs a record has -/
def lnF (σ : Sg) (a : Nat) : Nat := (σ.1 26 a).toNatClampNeg
theorem MkA.ln {σ : Sg} (hm : MkA σ) {a : Nat} (ha : a < 24) : lnF σ a ≤ 8 ∧ σ.1 26 a = nI (lnF σ a) ∧ σ.1 68 a = nI (lnF σ a) := by
  obtain ⟨e, l, hl, el⟩ := hm.1 a ha
  have : lnF σ a = l := by unfold lnF; rw [el, nI_clamp (by omega)]
  rw [this, ← e]
  exact ⟨by omega, el, el⟩
/-- two clash, from a sign on -/
def clP (σ : Sg) (a b i : Nat) : Prop := ∃ j, i ≤ j ∧ j < min (lnF σ a) (lnF σ b) ∧ σ.1 25 (8 * a + j) ≠ σ.1 25 (8 * b + j) ∧ σ.1 25 (8 * a + j) ≠ 63 ∧ σ.1 25 (8 * b + j) ≠ 63
theorem clP_st {σ : Sg} {a b i : Nat} (hi : i < min (lnF σ a) (lnF σ b)) : clP σ a b i ↔ ((σ.1 25 (8 * a + i) ≠ σ.1 25 (8 * b + i) ∧ σ.1 25 (8 * a + i) ≠ 63 ∧ σ.1 25 (8 * b + i) ≠ 63) ∨ clP σ a b (i + 1)) := by
  constructor
  · rintro ⟨j, h1, h2, h3⟩
    by_cases e : j = i
    · subst e; exact Or.inl h3
    · exact Or.inr ⟨j, by omega, h2, h3⟩
  · rintro (q | ⟨j, h1, h2, h3⟩)
    · exact ⟨i, Nat.le_refl _, hi, q⟩
    · exact ⟨j, by omega, h2, h3⟩
theorem clP_end {σ : Sg} {a b i : Nat} (hi : min (lnF σ a) (lnF σ b) ≤ i) : ¬ clP σ a b i := by
  rintro ⟨j, h1, h2, -⟩
  omega
theorem clP_sy {σ : Sg} {a b i : Nat} (h : clP σ a b i) : clP σ b a i := by
  obtain ⟨j, h1, h2, h3, h4, h5⟩ := h
  exact ⟨j, h1, by rw [Nat.min_comm]; exact h2, Ne.symm h3, h5, h4⟩
theorem clP_ir {σ : Sg} {a i : Nat} : ¬ clP σ a a i := by
  rintro ⟨j, h1, h2, h3, -⟩
  exact h3 rfl
theorem C_differ {σ : Sg} (hm : MkA σ) (d : Nat) {a b : Nat} (ha : a < 24) (hb : b < 24) : X_Marks_differ d (nI a) (nI b) σ = some (some (.int (bI (clP σ a b 0))), σ) := by
  obtain ⟨a1, a2, -⟩ := hm.ln ha
  obtain ⟨b1, b2, -⟩ := hm.ln hb
  rw [X_Marks_differ_e, xm_ix_n ha (by omega), xm_ix_n hb (by omega), a2, b2, imin_n (by omega) (by omega)]
  have loop : ∀ (k i : Nat), i + k = min (lnF σ a) (lnF σ b) → X_Marks_differ_19 d (nI a) (nI b) (nI (min (lnF σ a) (lnF σ b))) (nI i) σ = some (some (.int (bI (clP σ a b i))), σ) := by
    intro k
    induction k with
    | zero =>
      intro i hi
      rw [X_Marks_differ_19_e, xm_br_t (nI_le (by omega) (by omega)), bI_f (clP_end (by omega))]
    | succ k ih =>
      intro i hi
      rw [X_Marks_differ_19_e, xm_br_f (nI_ge (by omega) (by omega)), sg_n, sg_n, xm_ix_n (by omega) (by omega), xm_ix_n (by omega) (by omega), nI_1, ih (i + 1) (by omega), bI_c (clP_st (σ := σ) (a := a) (b := b) (i := i) (by omega))]
      by_cases q1 : σ.1 25 (8 * a + i) = σ.1 25 (8 * b + i)
      · rw [xm_br_t q1, bI_c]
        exact ⟨Or.inr, fun q => q.resolve_left (fun z => z.1 q1)⟩
      rw [xm_br_f q1]
      by_cases q2 : σ.1 25 (8 * a + i) = 63
      · rw [xm_br_t q2, bI_c]
        exact ⟨Or.inr, fun q => q.resolve_left (fun z => z.2.1 q2)⟩
      rw [xm_br_f q2]
      by_cases q3 : σ.1 25 (8 * b + i) = 63
      · rw [xm_br_t q3, bI_c]
        exact ⟨Or.inr, fun q => q.resolve_left (fun z => z.2.2 q3)⟩
      rw [xm_br_f q3, bI_t (Or.inl ⟨q1, q2, q3⟩)]
  exact loop (min (lnF σ a) (lnF σ b)) 0 (by omega)
theorem C_clashes {σ : Sg} (hm : MkA σ) (d : Nat) {a b : Nat} (ha : a < 24) (hb : b < 24) : X_Mod_clashes d (nI a) (nI b) σ = some (some (.int (bI (clP σ a b 0))), σ) := by
  obtain ⟨a1, -, a2⟩ := hm.ln ha
  obtain ⟨b1, -, b2⟩ := hm.ln hb
  have stop : ∀ (p : Prop) (i : Nat), min (lnF σ a) (lnF σ b) ≤ i → i ≤ 8 → X_Mod_clashes_5 d (nI a) (nI b) (bI p) (nI i) σ = some (some (.int (bI p)), σ) := by
    intro p i hi h8
    rw [X_Mod_clashes_5_e, xm_ix_n ha (by omega), a2, xm_ix_n hb (by omega), b2, xm_bo_b]
    by_cases q : lnF σ a ≤ i
    · rw [xm_br_t (nI_le q (by omega))]
    · rw [xm_br_f (nI_ge (by omega) (by omega)), xm_br_t (nI_le (by omega) (by omega))]
  have loop : ∀ (k i : Nat) (p : Prop), i + k = min (lnF σ a) (lnF σ b) → X_Mod_clashes_5 d (nI a) (nI b) (bI p) (nI i) σ = some (some (.int (bI (p ∨ clP σ a b i))), σ) := by
    intro k
    induction k with
    | zero =>
      intro i p hi
      rw [stop p i (by omega) (by omega), bI_c]
      exact ⟨Or.inl, fun q => q.resolve_right (clP_end (by omega))⟩
    | succ k ih =>
      intro i p hi
      rw [X_Mod_clashes_5_e, xm_ix_n ha (by omega), a2, xm_br_f (nI_ge (by omega) (by omega)), xm_ix_n hb (by omega), b2, xm_br_f (nI_ge (by omega) (by omega)), sg_m, sg_m, xm_ix_n (by omega) (by omega), xm_ix_n (by omega) (by omega), nI_1, ← hm.2 (8 * a + i) (by omega), ← hm.2 (8 * b + i) (by omega)]
      have e0 : X_Mod_clashes_5 d (nI a) (nI b) 0 (nI (i + 1)) σ = some (some (.int (bI (False ∨ clP σ a b (i + 1)))), σ) := by
        rw [← ih (i + 1) False (by omega), bI_f (fun q => q)]
      have e1 : X_Mod_clashes_5 d (nI a) (nI b) 1 (nI (i + 1)) σ = some (some (.int (bI (True ∨ clP σ a b (i + 1)))), σ) := by
        rw [← ih (i + 1) True (by omega), bI_t trivial]
      rw [e0, e1, bI_c (or_congr_right (clP_st (σ := σ) (a := a) (b := b) (i := i) (by omega)))]
      by_cases hp : p
      · rw [xm_br_b hp, bI_t (Or.inl trivial), bI_t (Or.inl hp)]
      rw [xm_br_n hp]
      by_cases q2 : σ.1 25 (8 * a + i) = 63
      · rw [xm_br_t q2, bI_c]
        exact ⟨fun q => Or.inr (Or.inr (q.resolve_left (fun z => z))), fun q => Or.inr ((q.resolve_left hp).resolve_left (fun z => z.2.1 q2))⟩
      rw [xm_br_f q2]
      by_cases q3 : σ.1 25 (8 * b + i) = 63
      · rw [xm_br_t q3, bI_c]
        exact ⟨fun q => Or.inr (Or.inr (q.resolve_left (fun z => z))), fun q => Or.inr ((q.resolve_left hp).resolve_left (fun z => z.2.2 q3))⟩
      rw [xm_br_f q3]
      by_cases q1 : σ.1 25 (8 * a + i) = σ.1 25 (8 * b + i)
      · rw [xm_br_t q1, bI_c]
        exact ⟨fun q => Or.inr (Or.inr (q.resolve_left (fun z => z))), fun q => Or.inr ((q.resolve_left hp).resolve_left (fun z => z.1 q1))⟩
      rw [xm_br_f q1, bI_t (Or.inl trivial), bI_t (Or.inr (Or.inl ⟨q1, q2, q3⟩))]
  have := loop (min (lnF σ a) (lnF σ b)) 0 False (by omega)
  rw [bI_f (fun q => q)] at this
  rw [X_Mod_clashes_e, show X_Mod_clashes_5 d (nI a) (nI b) 0 0 σ = _ from this, bI_c]
  exact ⟨fun q => q.resolve_left (fun z => z), Or.inr⟩
theorem O_clash {r : Nat} {σ : Sg} (h : RcA r σ) (hm : MkA σ) (d : Nat) (x y : Int32) : OpI (X_TO_clash (d + 4) x y) (X_Mod_clash (d + 4) x y) (Es σ) σ := by
  unfold OpI
  have hr := h.1
  by_cases hx : inR x r
  rotate_left
  · refine ⟨-2, σ, σ, ?_, ?_, Es.rf σ⟩
    · rw [X_TO_clash_e, C_rHolds _ _ σ (by omega) h.2.1, xm_cI_s, xm_br_n hx]
    · rw [X_Mod_clash_e, C_isRecord _ _ σ (by omega) h.2.2.1, xm_cI_s, xm_br_n hx]
  by_cases hy : inR y r
  rotate_left
  · refine ⟨-2, σ, σ, ?_, ?_, Es.rf σ⟩
    · rw [X_TO_clash_e, C_rHolds _ _ σ (by omega) h.2.1, xm_cI_s, xm_br_b hx, C_rHolds _ _ σ (by omega) h.2.1, xm_cI_s, xm_br_n hy]
    · rw [X_Mod_clash_e, C_isRecord _ _ σ (by omega) h.2.2.1, xm_cI_s, xm_br_b hx, C_isRecord _ _ σ (by omega) h.2.2.1, xm_cI_s, xm_br_n hy]
  have hx0 := hx
  have hy0 := hy
  obtain ⟨a, ha, rfl⟩ := hx
  obtain ⟨b, hb, rfl⟩ := hy
  refine ⟨bI (clP σ a b 0), σ, σ, ?_, ?_, Es.rf σ⟩
  · rw [X_TO_clash_e, C_rHolds _ _ σ (by omega) h.2.1, xm_cI_s, xm_br_b hx0, C_rHolds _ _ σ (by omega) h.2.1, xm_cI_s, xm_br_b hy0, C_differ hm _ (by omega) (by omega), xm_cI_s]
    by_cases q : clP σ a b 0
    · rw [xm_br_b q, bI_t q]
    · rw [xm_br_n q, bI_f q]
  · rw [X_Mod_clash_e, C_isRecord _ _ σ (by omega) h.2.2.1, xm_cI_s, xm_br_b hx0, C_isRecord _ _ σ (by omega) h.2.2.1, xm_cI_s, xm_br_b hy0, C_clashes hm _ (by omega) (by omega), xm_cI_s]
    by_cases q : clP σ a b 0
    · rw [xm_br_b q, bI_t q]
    · rw [xm_br_n q, bI_f q]
