/-! RECORDS: takeBack, set, record, wave -/
theorem RcA.br {r : Nat} {σ : Sg} (h : RcA r σ) : ∀ j, j < r → σ.1 10 j = -1 ∨ ∃ b, b < j ∧ σ.1 10 j = nI b := by
  intro j hj
  rcases (h.2.2.2.2.2.2.1 j hj).1.2 with q | ⟨b, hb, e, -⟩
  · exact Or.inl q.1
  · exact Or.inr ⟨b, hb, e⟩
/-- the records with other days of taking back, another last day, another day as of -/
theorem RcA.look {r : Nat} {σ τ : Sg} (h : RcA r σ) (ol : ∀ c, c ∈ [10, 11, 12, 13, 15, 16, 17, 56, 57, 58, 59, 61, 62, 63] → τ.1 c = σ.1 c)
    (bk : ∀ i, i < r → (τ.1 60 i = -1 ∧ τ.1 14 i = nI 100) ∨ (τ.1 60 i = τ.1 14 i ∧ inR (τ.1 14 i) 100)) (ct : ∀ j, j < r → τ.1 18 j = bI (ctP (τ.1 9 11) (τ.1 13 j) (τ.1 14 j) (τ.1 10 j) (τ.1 18) j))
    (c9 : τ.1 9 9 = nI r) (m26 : τ.1 39 26 = nI r) (c10 : τ.1 9 10 = τ.1 39 35) (k10 : inR (τ.1 9 10) 100) (c11 : τ.1 9 11 = τ.1 39 10) (k11 : inR (τ.1 9 11) 100) (c12 : τ.1 9 12 = σ.1 9 12) (m11 : τ.1 39 11 = σ.1 39 11) : RcA r τ := by
  refine ⟨h.1, c9, m26, ⟨c10, k10⟩, ⟨c11, k11⟩, ⟨by rw [c12, m11]; exact h.2.2.2.2.2.1.1, by rw [c12]; exact h.2.2.2.2.2.1.2⟩, fun i hi => ?_, fun i h1 h2 => by rw [ol 61 (by decide)]; exact h.2.2.2.2.2.2.2 i h1 h2⟩
  obtain ⟨a1, a3, a4, a5, -, a7, a8, a9, -⟩ := h.2.2.2.2.2.2.1 i hi
  refine ⟨?_, ?_, ?_, ?_, bk i hi, ?_, ?_, ?_, ct i hi⟩
  · rw [ol 10 (by decide), ol 56 (by decide), ol 15 (by decide), ol 16 (by decide)]; exact a1
  · rw [ol 11 (by decide), ol 57 (by decide)]; exact a3
  · rw [ol 12 (by decide), ol 58 (by decide)]; exact a4
  · rw [ol 13 (by decide), ol 59 (by decide)]; exact a5
  · rw [ol 15 (by decide), ol 62 (by decide)]; exact a7
  · rw [ol 16 (by decide), ol 63 (by decide)]; exact a8
  · rw [ol 17 (by decide), ol 61 (by decide)]; exact a9
theorem O_takeBack {r : Nat} {σ : Sg} (h : RcA r σ) (d : Nat) (x y : Int32) : OpI (X_TO_takeBack (d + 4) x y) (X_Mod_takeBack (d + 4) x y) (RcP σ) σ := by
  unfold OpI
  have hr := h.1
  by_cases hx : inR x r
  rotate_left
  · refine ⟨-2, σ, σ, ?_, ?_, ⟨r, h⟩, Ex.rf _ _ _⟩
    · rw [X_TO_takeBack_e, C_rHolds _ _ σ (by omega) h.2.1, xm_cI_s, xm_br_n hx]
    · rw [X_Mod_takeBack_e, C_isRecord _ _ σ (by omega) h.2.2.1, xm_cI_s, xm_br_n hx]
  by_cases hy : σ.1 9 10 ≤ y ∧ y ≤ 99
  rotate_left
  · refine ⟨-2, σ, σ, ?_, ?_, ⟨r, h⟩, Ex.rf _ _ _⟩
    · rw [X_TO_takeBack_e, C_rHolds _ _ σ (by omega) h.2.1, xm_cI_s, xm_br_b hx, C_nextDay, xm_cI_s, xm_br_n hy]
    · rw [X_Mod_takeBack_e, C_isRecord _ _ σ (by omega) h.2.2.1, xm_cI_s, xm_br_b hx, C_mday, xm_cI_s, ← h.2.2.2.1.1, xm_br_n hy]
  have hx0 := hx
  obtain ⟨i, hi, rfl⟩ := hx
  have hd := day_n h.2.2.2.1.2 hy
  have h5 := (h.2.2.2.2.2.2.1 i hi).2.2.2.2.1
  have hm : ∀ τ : Sg, τ.1 39 26 = nI r → τ.1 39 35 = σ.1 39 35 → X_Mod_takeBack (d + 4) (nI i) y τ = xm_br ((τ.1 60 i) = (-1)) (some (some (.int 1), (xm_sI (xm_sI τ 60 i y) 39 35 y))) (some (some (.int (-3)), τ)) := by
    intro τ e1 e2
    rw [X_Mod_takeBack_e, C_isRecord _ _ τ (by omega) e1, xm_cI_s, xm_br_b hx0, C_mday, xm_cI_s, e2, ← h.2.2.2.1.1, xm_br_b hy]
    simp only [xm_ix_n (show i < 24 by omega) (show 24 < 2 ^ 31 by omega)]
  rw [X_TO_takeBack_e, C_rHolds _ _ σ (by omega) h.2.1, xm_cI_s, xm_br_b hx0, C_nextDay, xm_cI_s, xm_br_b hy, xm_ix_n (show i < 24 by omega) (by omega)]
  by_cases hb : σ.1 60 i = -1
  rotate_left
  · obtain ⟨e1, j, hj, e2⟩ := h5.resolve_left (fun q => hb q.1)
    refine ⟨-3, σ, σ, ?_, ?_, ⟨r, h⟩, Ex.rf _ _ _⟩
    · rw [e2, xm_br_f (show ¬ nI j = 100 from fun q => by have := (nI_eq (a := j) (b := 100) (by omega) (by omega)).mp q; omega)]
    · rw [hm σ h.2.2.1 rfl, xm_br_f hb]
  have e2 : σ.1 14 i = nI 100 := by
    rcases h5 with q | ⟨e1, j, hj, e2⟩
    · exact q.2
    · rw [hb, e2] at e1
      exact absurd e1.symm (nI_nm1 (by omega))
  rw [e2, xm_br_t (show nI 100 = 100 from rfl), X_Records_untell_e, C_rHolds _ _ σ (by omega) h.2.1, xm_cI_s, xm_br_b hx0, xm_ix_n (show i < 24 by omega) (by omega)]
  obtain ⟨τ, t1, t2, t3, t4, t5, t6⟩ := C_look (d + 2) (r := r) (σ.1 9 11) hr (xm_sI (xm_sI σ 14 i y) 9 10 y) (by simp [xm_sI, upd, h.2.1]) (fun j hj => by
    have := h.br j hj
    simpa [xm_sI, upd] using this)
  rw [t1, xm_cV_s, xm_cV_s]
  have m39 : τ.1 39 = σ.1 39 := by rw [t2 39 (by decide) (by decide)]; simp [xm_sI]
  have m60 : τ.1 60 = σ.1 60 := by rw [t2 60 (by decide) (by decide)]; simp [xm_sI]
  refine ⟨1, τ, xm_sI (xm_sI τ 60 i y) 39 35 y, rfl, ?_, ⟨r, ?_⟩, ?_⟩
  · rw [hm τ (by rw [m39]; exact h.2.2.1) (by rw [m39]), m60, xm_br_t hb]
  · refine h.look ?_ ?_ ?_ ?_ ?_ ?_ ?_ ?_ ?_ ?_ ?_
    · intro c hc
      simp only [List.mem_cons, List.not_mem_nil, or_false] at hc
      rcases hc with rfl | rfl | rfl | rfl | rfl | rfl | rfl | rfl | rfl | rfl | rfl | rfl | rfl | rfl <;> simp [xm_sI, t2]
    · intro j hj
      by_cases e : j = i
      · right
        subst e
        simp [xm_sI, upd, t2]
        exact hd
      · have := (h.2.2.2.2.2.2.1 j hj).2.2.2.2.1
        simpa [xm_sI, upd, t2, e] using this
    · intro j hj
      have := t6 j hj
      simp [xm_sI, upd, t2, t4] at this ⊢
      exact this
    · simp [xm_sI, upd, t3, h.2.1]
    · simp [xm_sI, upd, m39, h.2.2.1]
    · simp [xm_sI, upd, t3]
    · simp [xm_sI, upd, t3]; exact hd
    · simp [xm_sI, upd, t4, m39, h.2.2.2.2.1.1]
    · simp [xm_sI, upd, t4]; exact h.2.2.2.2.1.2
    · simp [xm_sI, upd, t3]
    · simp [xm_sI, upd, m39]
  · refine ⟨fun c hc h9 => ?_, fun j hj => ?_, ?_⟩
    · have hc' : ∀ k, k ∈ WRc → c ≠ k := fun k hk e => hc (e ▸ hk)
      simp [xm_sI, t2 c (hc' 18 (by decide)) (hc' 9 (by decide)), h9, hc' 9 (by decide), hc' 14 (by decide), hc' 60 (by decide)]
    · have hj' : ∀ k, k ∈ WRm → j ≠ k := fun k hk e => hj (e ▸ hk)
      simp [xm_sI, upd, m39, hj' 35 (by decide)]
    · show τ.2 = σ.2
      rw [t5]
      rfl
-- set
theorem C_isSet (d : Nat) {n : Nat} (w x : Int32) {σ : Sg} (h : σ.1 1 1 = nI n) (hn : n ≤ 9) : X_TO_isSetting (d + 1) w x σ = some (some (.int (bI ((w = 0 ∧ (x = -1 ∨ inR x n)) ∨ (w = 1 ∧ 1 ≤ x ∧ x ≤ 7) ∨ (w = 2 ∧ 0 ≤ x ∧ x ≤ 99) ∨ (w = 3 ∧ 0 ≤ x ∧ x ≤ 9)))), σ) := by
  rw [X_TO_isSetting_e]
  have n10 : ¬ (1 : Int32) = 0 := by decide
  by_cases h0 : w = 0
  · subst h0
    rw [xm_br_t rfl]
    by_cases hx : x = -1
    · rw [xm_br_t hx, bI_t (Or.inl ⟨rfl, Or.inl hx⟩)]
    · rw [xm_br_f hx, C_holds _ _ σ (by omega) h, xm_cI_s]
      by_cases hi : inR x n
      · rw [xm_br_b hi, bI_t (Or.inl ⟨rfl, Or.inr hi⟩)]
      · rw [xm_br_n hi, bI_f]
        rintro (q | q | q | q)
        · exact q.2.elim hx hi
        · exact absurd q.1 (by decide)
        · exact absurd q.1 (by decide)
        · exact absurd q.1 (by decide)
  rw [xm_br_f h0]
  by_cases h1 : w = 1
  · subst h1
    rw [xm_br_t rfl, C_isUpTo, xm_cI_s, xm_bo_b, bI_c]
    constructor
    · intro q; exact Or.inr (Or.inl ⟨rfl, q⟩)
    · rintro (q | q | q | q)
      · exact absurd q.1 (by decide)
      · exact q.2
      · exact absurd q.1 (by decide)
      · exact absurd q.1 (by decide)
  rw [xm_br_f h1]
  by_cases h2 : w = 2
  · subst h2
    rw [xm_br_t rfl, C_isUpTo, xm_cI_s, xm_bo_b, bI_c]
    constructor
    · intro q; exact Or.inr (Or.inr (Or.inl ⟨rfl, q⟩))
    · rintro (q | q | q | q)
      · exact absurd q.1 (by decide)
      · exact absurd q.1 (by decide)
      · exact q.2
      · exact absurd q.1 (by decide)
  rw [xm_br_f h2]
  by_cases h3 : w = 3
  · subst h3
    rw [xm_br_t rfl, C_isUpTo, xm_cI_s, xm_bo_b, bI_c]
    constructor
    · intro q; exact Or.inr (Or.inr (Or.inr ⟨rfl, q⟩))
    · rintro (q | q | q | q)
      · exact absurd q.1 (by decide)
      · exact absurd q.1 (by decide)
      · exact absurd q.1 (by decide)
      · exact q.2
  rw [xm_br_f h3, bI_f]
  rintro (q | q | q | q)
  · exact h0 q.1
  · exact h1 q.1
  · exact h2 q.1
  · exact h3 q.1
