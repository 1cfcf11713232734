/-! THE INVARIANT: what ties the class's cells to the reference's -/
/-- the sheets -/
def ShA (σ : Sg) : Prop := σ.1 31 3 = σ.1 39 4 ∧ ∀ s, s < 4 → σ.1 32 s = σ.1 40 s ∧ (σ.1 32 s = -1 ∨ inR (σ.1 32 s) 3) ∧ σ.1 33 s = σ.1 41 s ∧ ∃ z, z ≤ 60 ∧ σ.1 33 s = nI z ∧ ∀ i, i < z → σ.1 (35 + s) i = σ.1 42 (60 * s + i)
/-- the marks -/
def MkA (σ : Sg) : Prop := (∀ i, i < 24 → σ.1 26 i = σ.1 68 i ∧ inR (σ.1 26 i) 9) ∧ ∀ j, j < 192 → σ.1 25 j = σ.1 67 j
/-- the net: n persons, ties T as bits, kinds K as bits -/
def NtA (n : Nat) (T : Nat → Nat) (K : Nat) (σ : Sg) : Prop :=
  (1 ≤ n ∧ n ≤ 9) ∧ σ.1 1 1 = nI n ∧ σ.1 39 5 = nI n ∧
  (∀ p, p < 9 → σ.1 2 p = nI (T p) ∧ σ.1 44 p = nI (T p) ∧ T p < 2 ^ n ∧ (T p).testBit p = false ∧ (n ≤ p → T p = 0) ∧ ∀ q, q < 9 → (T p).testBit q = (T q).testBit p) ∧
  σ.1 1 2 = nI K ∧ K < 2 ^ n ∧ ∀ p, p < 9 → σ.1 45 p = nI (K / 2 ^ p % 2)
/-- where a chain begins, how long it is -/
def StA (n : Nat) (s : Int32) (L : Nat) (σ : Sg) : Prop := σ.1 0 8 = s ∧ σ.1 39 8 = s ∧ (s = -1 ∨ inR s n) ∧ σ.1 0 9 = nI L ∧ σ.1 39 9 = nI L ∧ 1 ≤ L ∧ L ≤ 7
/-- one record: bringer, kind, knows, day, back, wave, tree, brought, whether it counts -/
def RcI (i : Nat) (σ : Sg) : Prop :=
  (σ.1 10 i = σ.1 56 i ∧ ((σ.1 10 i = -1 ∧ σ.1 15 i = 0 ∧ σ.1 16 i = nI i) ∨ ∃ b, b < i ∧ σ.1 10 i = nI b ∧ σ.1 15 i = σ.1 15 b + 1 ∧ σ.1 16 i = σ.1 16 b)) ∧
  (σ.1 11 i = σ.1 57 i ∧ inR (σ.1 11 i) 2) ∧ (σ.1 12 i = σ.1 58 i ∧ (σ.1 12 i = -1 ∨ ∃ k, 1 ≤ k ∧ k ≤ 20 ∧ σ.1 12 i = nI k)) ∧ (σ.1 13 i = σ.1 59 i ∧ inR (σ.1 13 i) 100) ∧
  ((σ.1 60 i = -1 ∧ σ.1 14 i = nI 100) ∨ (σ.1 60 i = σ.1 14 i ∧ inR (σ.1 14 i) 100)) ∧ (σ.1 15 i = σ.1 62 i ∧ inR (σ.1 15 i) 24) ∧ (σ.1 16 i = σ.1 63 i ∧ inR (σ.1 16 i) 24) ∧ (σ.1 17 i = σ.1 61 i ∧ inR (σ.1 17 i) 4) ∧
  σ.1 18 i = bI (σ.1 13 i ≤ σ.1 9 11 ∧ σ.1 9 11 < σ.1 14 i ∧ (σ.1 10 i = -1 ∨ ∃ b, b < i ∧ σ.1 10 i = nI b ∧ σ.1 18 b = 1))
/-- the records: r of them -/
def RcA (r : Nat) (σ : Sg) : Prop := r ≤ 24 ∧ σ.1 9 9 = nI r ∧ σ.1 39 26 = nI r ∧ (σ.1 9 10 = σ.1 39 35 ∧ inR (σ.1 9 10) 100) ∧ (σ.1 9 11 = σ.1 39 10 ∧ inR (σ.1 9 11) 100) ∧ (σ.1 9 12 = σ.1 39 11 ∧ inR (σ.1 9 12) 10) ∧ (∀ i, i < r → RcI i σ) ∧ ∀ i, r ≤ i → i < 24 → σ.1 61 i = 0
-- what the invariant speaks of
def ecI : List Nat := [0, 1, 2, 3, 9, 10, 11, 12, 13, 14, 15, 16, 17, 18, 25, 26, 31, 32, 33, 35, 36, 37, 38, 40, 41, 42, 44, 45, 56, 57, 58, 59, 60, 61, 62, 63, 67, 68]
def ecM : List Nat := [4, 5, 8, 9, 10, 11, 26, 35]
def Es (σ τ : Sg) : Prop := (∀ c, c ∈ ecI → τ.1 c = σ.1 c) ∧ (∀ j, j ∈ ecM → τ.1 39 j = σ.1 39 j) ∧ τ.2 3 = σ.2 3 ∧ τ.2 5 = σ.2 5
theorem Es.rf (σ : Sg) : Es σ σ := ⟨fun _ _ => rfl, fun _ _ => rfl, rfl, rfl⟩
theorem Es.tr {σ τ υ : Sg} (h : Es σ τ) (g : Es τ υ) : Es σ υ := ⟨fun c hc => (g.1 c hc).trans (h.1 c hc), fun j hj => (g.2.1 j hj).trans (h.2.1 j hj), g.2.2.1.trans h.2.2.1, g.2.2.2.trans h.2.2.2⟩
theorem Es.sI {σ τ : Sg} (h : Es σ τ) {k j : Nat} {x : Int32} (hk : k ∉ ecI) (hm : k ≠ 39 ∨ j ∉ ecM) : Es σ (xm_sI τ k j x) := by
  refine ⟨fun c hc => ?_, fun i hi => ?_, h.2.2.1, h.2.2.2⟩
  · rw [sI_cell τ j x (show c ≠ k from fun e => hk (e ▸ hc))]
    exact h.1 c hc
  · by_cases e : (39 : Nat) = k
    · subst e
      rw [sI_row τ x (show i ≠ j from fun e => (hm.resolve_left (fun q => q rfl)) (e ▸ hi))]
      exact h.2.1 i hi
    · rw [sI_cell τ j x e]
      exact h.2.1 i hi
theorem Es.sL {σ τ : Sg} (h : Es σ τ) {k j : Nat} {x : Int64} (hk : k ≠ 3) (hk2 : k ≠ 5) : Es σ (xm_sL τ k j x) :=
  ⟨h.1, h.2.1, (sL_cell τ j x (Ne.symm hk)).trans h.2.2.1, (sL_cell τ j x (Ne.symm hk2)).trans h.2.2.2⟩
theorem ShA.es {σ τ : Sg} (h : ShA σ) (g : Es σ τ) : ShA τ := by
  have e : ∀ c, c ∈ ecI → τ.1 c = σ.1 c := g.1
  unfold ShA
  rw [e 31 (by decide), e 32 (by decide), e 33 (by decide), e 40 (by decide), e 41 (by decide), e 42 (by decide), g.2.1 4 (by decide)]
  refine ⟨h.1, fun s hs => ?_⟩
  obtain ⟨h1, h2, h3, z, h4, h5, h6⟩ := h.2 s hs
  refine ⟨h1, h2, h3, z, h4, h5, fun i hi => ?_⟩
  rw [e (35 + s) (by rcases (show s = 0 ∨ s = 1 ∨ s = 2 ∨ s = 3 by omega) with rfl | rfl | rfl | rfl <;> decide)]
  exact h6 i hi
theorem MkA.es {σ τ : Sg} (h : MkA σ) (g : Es σ τ) : MkA τ := by
  have e : ∀ c, c ∈ ecI → τ.1 c = σ.1 c := g.1
  unfold MkA
  rw [e 25 (by decide), e 26 (by decide), e 67 (by decide), e 68 (by decide)]
  exact h
theorem NtA.es {n K : Nat} {T : Nat → Nat} {σ τ : Sg} (h : NtA n T K σ) (g : Es σ τ) : NtA n T K τ := by
  have e : ∀ c, c ∈ ecI → τ.1 c = σ.1 c := g.1
  unfold NtA
  rw [e 1 (by decide), e 2 (by decide), e 44 (by decide), e 45 (by decide), g.2.1 5 (by decide)]
  exact h
theorem StA.es {n L : Nat} {s : Int32} {σ τ : Sg} (h : StA n s L σ) (g : Es σ τ) : StA n s L τ := by
  have e : ∀ c, c ∈ ecI → τ.1 c = σ.1 c := g.1
  unfold StA
  rw [e 0 (by decide), g.2.1 8 (by decide), g.2.1 9 (by decide)]
  exact h
theorem RcI.es {i : Nat} {σ τ : Sg} (h : RcI i σ) (g : Es σ τ) : RcI i τ := by
  have e : ∀ c, c ∈ ecI → τ.1 c = σ.1 c := g.1
  unfold RcI
  rw [e 9 (by decide), e 10 (by decide), e 11 (by decide), e 12 (by decide), e 13 (by decide), e 14 (by decide), e 15 (by decide), e 16 (by decide), e 17 (by decide), e 18 (by decide), e 56 (by decide), e 57 (by decide), e 58 (by decide), e 59 (by decide), e 60 (by decide), e 61 (by decide), e 62 (by decide), e 63 (by decide)]
  exact h
theorem RcA.es {r : Nat} {σ τ : Sg} (h : RcA r σ) (g : Es σ τ) : RcA r τ := by
  have e : ∀ c, c ∈ ecI → τ.1 c = σ.1 c := g.1
  unfold RcA
  rw [e 9 (by decide), e 61 (by decide), g.2.1 26 (by decide), g.2.1 35 (by decide), g.2.1 10 (by decide), g.2.1 11 (by decide)]
  exact ⟨h.1, h.2.1, h.2.2.1, h.2.2.2.1, h.2.2.2.2.1, h.2.2.2.2.2.1, fun i hi => (h.2.2.2.2.2.2.1 i hi).es g, h.2.2.2.2.2.2.2⟩
/-- what differs lies in the int cells W, or in the places WM of the reference's own cell -/
def Ex (W WM : List Nat) (σ τ : Sg) : Prop := (∀ c, c ∉ W → c ≠ 39 → τ.1 c = σ.1 c) ∧ (∀ j, j ∉ WM → τ.1 39 j = σ.1 39 j) ∧ τ.2 = σ.2
theorem Ex.rf (W WM : List Nat) (σ : Sg) : Ex W WM σ σ := ⟨fun _ _ _ => rfl, fun _ _ => rfl, rfl⟩
theorem Ex.tr {W WM : List Nat} {σ τ υ : Sg} (h : Ex W WM σ τ) (g : Ex W WM τ υ) : Ex W WM σ υ := ⟨fun c h1 h2 => (g.1 c h1 h2).trans (h.1 c h1 h2), fun j hj => (g.2.1 j hj).trans (h.2.1 j hj), g.2.2.trans h.2.2⟩
theorem Ex.sI {W WM : List Nat} {σ τ : Sg} (h : Ex W WM σ τ) {k j : Nat} {x : Int32} (hk : k ∈ W) (h9 : k ≠ 39) : Ex W WM σ (xm_sI τ k j x) := by
  refine ⟨fun c h1 h2 => ?_, fun i hi => ?_, h.2.2⟩
  · rw [sI_cell τ j x (show c ≠ k from fun e => h1 (e ▸ hk))]
    exact h.1 c h1 h2
  · rw [sI_cell τ j x (Ne.symm h9)]
    exact h.2.1 i hi
theorem Ex.sM {W WM : List Nat} {σ τ : Sg} (h : Ex W WM σ τ) {j : Nat} {x : Int32} (hj : j ∈ WM) : Ex W WM σ (xm_sI τ 39 j x) := by
  refine ⟨fun c h1 h2 => ?_, fun i hi => ?_, h.2.2⟩
  · rw [sI_cell τ j x h2]
    exact h.1 c h1 h2
  · rw [sI_row τ x (show i ≠ j from fun e => hi (e ▸ hj))]
    exact h.2.1 i hi
theorem MkA.ex {W WM : List Nat} {σ τ : Sg} (h : MkA σ) (g : Ex W WM σ τ) (hw : ∀ c, c ∈ [25, 26, 67, 68] → c ∉ W) : MkA τ := by
  unfold MkA
  rw [g.1 25 (hw 25 (by decide)) (by decide), g.1 26 (hw 26 (by decide)) (by decide), g.1 67 (hw 67 (by decide)) (by decide), g.1 68 (hw 68 (by decide)) (by decide)]
  exact h
theorem NtA.ex {n K : Nat} {T : Nat → Nat} {W WM : List Nat} {σ τ : Sg} (h : NtA n T K σ) (g : Ex W WM σ τ) (hw : ∀ c, c ∈ [1, 2, 44, 45] → c ∉ W) (hm : 5 ∉ WM) : NtA n T K τ := by
  unfold NtA
  rw [g.1 1 (hw 1 (by decide)) (by decide), g.1 2 (hw 2 (by decide)) (by decide), g.1 44 (hw 44 (by decide)) (by decide), g.1 45 (hw 45 (by decide)) (by decide), g.2.1 5 hm]
  exact h
theorem StA.ex {n L : Nat} {s : Int32} {W WM : List Nat} {σ τ : Sg} (h : StA n s L σ) (g : Ex W WM σ τ) (hw : 0 ∉ W) (hm : ∀ j, j ∈ [8, 9] → j ∉ WM) : StA n s L τ := by
  unfold StA
  rw [g.1 0 hw (by decide), g.2.1 8 (hm 8 (by decide)), g.2.1 9 (hm 9 (by decide))]
  exact h
theorem RcI.ex {i : Nat} {W WM : List Nat} {σ τ : Sg} (h : RcI i σ) (g : Ex W WM σ τ) (hw : ∀ c, c ∈ [9, 10, 11, 12, 13, 14, 15, 16, 17, 18, 56, 57, 58, 59, 60, 61, 62, 63] → c ∉ W) : RcI i τ := by
  have e : ∀ c, c ∈ [9, 10, 11, 12, 13, 14, 15, 16, 17, 18, 56, 57, 58, 59, 60, 61, 62, 63] → τ.1 c = σ.1 c := fun c hc => g.1 c (hw c hc) (by rintro rfl; revert hc; decide)
  unfold RcI
  rw [e 9 (by decide), e 10 (by decide), e 11 (by decide), e 12 (by decide), e 13 (by decide), e 14 (by decide), e 15 (by decide), e 16 (by decide), e 17 (by decide), e 18 (by decide), e 56 (by decide), e 57 (by decide), e 58 (by decide), e 59 (by decide), e 60 (by decide), e 61 (by decide), e 62 (by decide), e 63 (by decide)]
  exact h
theorem RcA.ex {r : Nat} {W WM : List Nat} {σ τ : Sg} (h : RcA r σ) (g : Ex W WM σ τ) (hw : ∀ c, c ∈ [9, 10, 11, 12, 13, 14, 15, 16, 17, 18, 56, 57, 58, 59, 60, 61, 62, 63] → c ∉ W) (hm : ∀ j, j ∈ [10, 11, 26, 35] → j ∉ WM) : RcA r τ := by
  unfold RcA
  rw [g.1 9 (hw 9 (by decide)) (by decide), g.1 61 (hw 61 (by decide)) (by decide), g.2.1 26 (hm 26 (by decide)), g.2.1 35 (hm 35 (by decide)), g.2.1 10 (hm 10 (by decide)), g.2.1 11 (hm 11 (by decide))]
  exact ⟨h.1, h.2.1, h.2.2.1, h.2.2.2.1, h.2.2.2.2.1, h.2.2.2.2.2.1, fun i hi => (h.2.2.2.2.2.2.1 i hi).ex g hw, h.2.2.2.2.2.2.2⟩
theorem ShA.ex {W WM : List Nat} {σ τ : Sg} (h : ShA σ) (g : Ex W WM σ τ) (hw : ∀ c, c ∈ [31, 32, 33, 35, 36, 37, 38, 40, 41, 42] → c ∉ W) (hm : 4 ∉ WM) : ShA τ := by
  have e : ∀ c, c ∈ [31, 32, 33, 35, 36, 37, 38, 40, 41, 42] → τ.1 c = σ.1 c := fun c hc => g.1 c (hw c hc) (by rintro rfl; revert hc; decide)
  unfold ShA
  rw [e 31 (by decide), e 32 (by decide), e 33 (by decide), e 40 (by decide), e 41 (by decide), e 42 (by decide), g.2.1 4 hm]
  refine ⟨h.1, fun s hs => ?_⟩
  obtain ⟨h1, h2, h3, z, h4, h5, h6⟩ := h.2 s hs
  refine ⟨h1, h2, h3, z, h4, h5, fun i hi => ?_⟩
  rw [e (35 + s) (by rcases (show s = 0 ∨ s = 1 ∨ s = 2 ∨ s = 3 by omega) with rfl | rfl | rfl | rfl <;> decide)]
  exact h6 i hi
