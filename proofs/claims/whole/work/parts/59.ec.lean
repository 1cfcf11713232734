/-! what all but the kept chains rest on -/
def Ec (σ τ : Sg) : Prop := (∀ c, c ∈ ecI → c ≠ 3 → τ.1 c = σ.1 c) ∧ ∀ j, j ∈ ecM → τ.1 39 j = σ.1 39 j
theorem Ec.rf (σ : Sg) : Ec σ σ := ⟨fun _ _ _ => rfl, fun _ _ => rfl⟩
theorem Ec.tr {σ τ υ : Sg} (h : Ec σ τ) (g : Ec τ υ) : Ec σ υ := ⟨fun c hc h3 => (g.1 c hc h3).trans (h.1 c hc h3), fun j hj => (g.2 j hj).trans (h.2 j hj)⟩
theorem Es.ec {σ τ : Sg} (h : Es σ τ) : Ec σ τ := ⟨fun c hc _ => h.1 c hc, h.2.1⟩
theorem ShA.ec {σ τ : Sg} (h : ShA σ) (g : Ec σ τ) : ShA τ := by
  have e : ∀ c, c ∈ ecI → c ≠ 3 → τ.1 c = σ.1 c := g.1
  unfold ShA
  rw [e 31 (by decide) (by decide), e 32 (by decide) (by decide), e 33 (by decide) (by decide), e 40 (by decide) (by decide), e 41 (by decide) (by decide), e 42 (by decide) (by decide), g.2 4 (by decide)]
  refine ⟨h.1, fun s hs => ?_⟩
  obtain ⟨h1, h2, h3, z, h4, h5, h6⟩ := h.2 s hs
  refine ⟨h1, h2, h3, z, h4, h5, fun i hi => ?_⟩
  rw [e (35 + s) (by rcases (show s = 0 ∨ s = 1 ∨ s = 2 ∨ s = 3 by omega) with rfl | rfl | rfl | rfl <;> decide) (by omega)]
  exact h6 i hi
theorem MkA.ec {σ τ : Sg} (h : MkA σ) (g : Ec σ τ) : MkA τ := by
  have e : ∀ c, c ∈ ecI → c ≠ 3 → τ.1 c = σ.1 c := g.1
  unfold MkA
  rw [e 25 (by decide) (by decide), e 26 (by decide) (by decide), e 67 (by decide) (by decide), e 68 (by decide) (by decide)]
  exact h
theorem NtA.ec {n K : Nat} {T : Nat → Nat} {σ τ : Sg} (h : NtA n T K σ) (g : Ec σ τ) : NtA n T K τ := h.cells (g.1 1 (by decide) (by decide)) (g.1 2 (by decide) (by decide)) (g.2 5 (by decide)) (g.1 44 (by decide) (by decide)) (g.1 45 (by decide) (by decide))
theorem StA.ec {n L : Nat} {s : Int32} {σ τ : Sg} (h : StA n s L σ) (g : Ec σ τ) : StA n s L τ := by
  unfold StA
  rw [g.1 0 (by decide) (by decide), g.2 8 (by decide), g.2 9 (by decide)]
  exact h
theorem RcI.ec {i : Nat} {σ τ : Sg} (h : RcI i σ) (g : Ec σ τ) : RcI i τ := by
  have e : ∀ c, c ∈ [9, 10, 11, 12, 13, 14, 15, 16, 17, 18, 56, 57, 58, 59, 60, 61, 62, 63] → τ.1 c = σ.1 c := fun c hc => g.1 c (by revert c; decide) (by rintro rfl; revert hc; decide)
  unfold RcI
  rw [e 9 (by decide), e 10 (by decide), e 11 (by decide), e 12 (by decide), e 13 (by decide), e 14 (by decide), e 15 (by decide), e 16 (by decide), e 17 (by decide), e 18 (by decide), e 56 (by decide), e 57 (by decide), e 58 (by decide), e 59 (by decide), e 60 (by decide), e 61 (by decide), e 62 (by decide), e 63 (by decide)]
  exact h
theorem RcA.ec {r : Nat} {σ τ : Sg} (h : RcA r σ) (g : Ec σ τ) : RcA r τ := by
  unfold RcA
  rw [g.1 9 (by decide) (by decide), g.1 61 (by decide) (by decide), g.2 26 (by decide), g.2 35 (by decide), g.2 10 (by decide), g.2 11 (by decide)]
  exact ⟨h.1, h.2.1, h.2.2.1, h.2.2.2.1, h.2.2.2.2.1, h.2.2.2.2.2.1, fun i hi => (h.2.2.2.2.2.2.1 i hi).ec g, h.2.2.2.2.2.2.2⟩
theorem VwA.ec {r : Nat} {bo kd kn tr : Nat → Nat} {ct tk : Nat → Bool} {σ τ : Sg} (h : VwA r bo kd kn tr ct tk σ) (g : Ec σ τ) : VwA r bo kd kn tr ct tk τ :=
  h.cells (fun c hc => g.1 c (by revert c; decide) (by rintro rfl; revert hc; decide)) (fun j hj => g.2 j (by revert j; decide))
