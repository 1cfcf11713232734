/-! RECORDS: came, takeBack -/
theorem RcA.wt {r : Nat} {σ : Sg} (h : RcA r σ) : ∀ i, i < r → ∃ w t, w ≤ i ∧ σ.1 15 i = nI w ∧ t ≤ i ∧ σ.1 16 i = nI t ∧ σ.1 10 t = -1 ∧ σ.1 16 t = nI t ∧ (σ.1 10 i = -1 → t = i ∧ w = 0) ∧ (σ.1 10 i ≠ -1 → t < i ∧ w ≠ 0) ∧ (σ.1 18 i = 1 → σ.1 18 t = 1) := by
  intro i
  induction i using Nat.strongRecOn with
  | ind i ih =>
    intro hi
    have hr := h.1
    obtain ⟨⟨-, a2⟩, -, -, -, -, -, -, -, a5⟩ := h.2.2.2.2.2.2.1 i hi
    rcases a2 with ⟨e1, e2, e3⟩ | ⟨b, hb, e1, e2, e3⟩
    · exact ⟨0, i, by omega, e2, by omega, e3, e1, e3, fun _ => ⟨rfl, rfl⟩, fun q => absurd e1 q, fun q => q⟩
    · obtain ⟨w, t, b1, b2, b3, b4, b5, b6, -, -, b7⟩ := ih b hb (by omega)
      refine ⟨w + 1, t, by omega, by rw [e2, b2, nI_1], by omega, by rw [e3, b4], b5, b6, fun q => ?_, fun _ => ⟨by omega, by omega⟩, fun q => ?_⟩
      · rw [e1] at q
        exact absurd q (nI_nm1 (by omega))
      · rw [a5] at q
        obtain ⟨-, -, q | ⟨b', hb', e', q⟩⟩ := bI_1.mp q
        · rw [e1] at q
          exact absurd q (nI_nm1 (by omega))
        · rw [e1] at e'
          have := (nI_eq (by omega) (by omega)).mp e'
          subst this
          exact b7 q
theorem RcA.add {r : Nat} {σ τ : Sg} (h : RcA r σ) (hr : r < 24) {x1 x2 x3 x4 : Int32} (k2 : inR x2 2) (k3 : x3 = -1 ∨ ∃ k, 1 ≤ k ∧ k ≤ 20 ∧ x3 = nI k) (k4 : inR x4 100)
    (ol : ∀ c, c ∈ [10, 11, 12, 13, 14, 15, 16, 56, 57, 58, 59, 60, 62, 63] → ∀ j, j < r → τ.1 c j = σ.1 c j)
    (n10 : τ.1 10 r = x1) (n56 : τ.1 56 r = x1) (n11 : τ.1 11 r = x2) (n57 : τ.1 57 r = x2) (n12 : τ.1 12 r = x3) (n58 : τ.1 58 r = x3) (n13 : τ.1 13 r = x4) (n59 : τ.1 59 r = x4) (n14 : τ.1 14 r = nI 100) (n60 : τ.1 60 r = -1) (nw : (x1 = -1 ∧ τ.1 15 r = 0 ∧ τ.1 16 r = nI r) ∨ ∃ b, b < r ∧ x1 = nI b ∧ τ.1 15 r = σ.1 15 b + 1 ∧ τ.1 16 r = σ.1 16 b) (n62 : τ.1 62 r = τ.1 15 r) (n63 : τ.1 63 r = τ.1 16 r)
    (br : ∀ j, j ≤ r → τ.1 17 j = τ.1 61 j ∧ inR (τ.1 17 j) 4) (b0 : ∀ j, r < j → j < 24 → τ.1 61 j = 0) (ct : ∀ j, j ≤ r → τ.1 18 j = bI (ctP (τ.1 9 11) (τ.1 13 j) (τ.1 14 j) (τ.1 10 j) (τ.1 18) j))
    (c9 : τ.1 9 9 = nI (r + 1)) (m26 : τ.1 39 26 = nI (r + 1)) (c10 : τ.1 9 10 = x4) (m35 : τ.1 39 35 = x4) (c11 : τ.1 9 11 = σ.1 9 11) (m10 : τ.1 39 10 = σ.1 39 10) (c12 : τ.1 9 12 = σ.1 9 12) (m11 : τ.1 39 11 = σ.1 39 11) : RcA (r + 1) τ := by
  refine ⟨by omega, c9, m26, ⟨c10.trans m35.symm, by rw [c10]; exact k4⟩, ⟨by rw [c11, m10]; exact h.2.2.2.2.1.1, by rw [c11]; exact h.2.2.2.2.1.2⟩, ⟨by rw [c12, m11]; exact h.2.2.2.2.2.1.1, by rw [c12]; exact h.2.2.2.2.2.1.2⟩, fun i hi => ?_, fun i h1 h2 => b0 i (by omega) h2⟩
  have hct := ct i (by omega)
  by_cases e : i = r
  · subst e
    refine ⟨⟨by rw [n10, n56], ?_⟩, ⟨by rw [n11, n57], by rw [n11]; exact k2⟩, ⟨by rw [n12, n58], by rw [n12]; exact k3⟩, ⟨by rw [n13, n59], by rw [n13]; exact k4⟩, Or.inl ⟨n60, n14⟩, ⟨n62.symm, ?_⟩, ⟨n63.symm, ?_⟩, br i (Nat.le_refl _), hct⟩
    · rw [n10]
      rcases nw with ⟨a, b, c⟩ | ⟨b, hb, e1, e2, e3⟩
      · exact Or.inl ⟨a, b, c⟩
      · exact Or.inr ⟨b, hb, e1, by rw [e2, ol 15 (by decide) b hb], by rw [e3, ol 16 (by decide) b hb]⟩
    · rcases nw with ⟨a, b, c⟩ | ⟨b, hb, e1, e2, e3⟩
      · rw [b]; exact ⟨0, by omega, rfl⟩
      · obtain ⟨w, t, w1, w2, -⟩ := h.wt b hb
        rw [e2, w2, nI_1]
        exact ⟨w + 1, by omega, rfl⟩
    · rcases nw with ⟨a, b, c⟩ | ⟨b, hb, e1, e2, e3⟩
      · rw [c]; exact ⟨i, by omega, rfl⟩
      · obtain ⟨w, t, w1, w2, w3, w4, -⟩ := h.wt b hb
        rw [e3, w4]
        exact ⟨t, by omega, rfl⟩
  · have hi' : i < r := by omega
    have o : ∀ c, c ∈ [10, 11, 12, 13, 14, 15, 16, 56, 57, 58, 59, 60, 62, 63] → τ.1 c i = σ.1 c i := fun c hc => ol c hc i hi'
    obtain ⟨⟨a1, a2⟩, a3, a4, a5, a6, a7, a8, -, -⟩ := h.2.2.2.2.2.2.1 i hi'
    unfold RcI
    refine ⟨?_, ?_, ?_, ?_, ?_, ?_, ?_, br i (by omega), hct⟩
    · rw [o 10 (by decide), o 56 (by decide), o 15 (by decide), o 16 (by decide)]
      refine ⟨a1, ?_⟩
      rcases a2 with q | ⟨b, hb, e1, e2, e3⟩
      · exact Or.inl q
      · exact Or.inr ⟨b, hb, e1, by rw [e2, ol 15 (by decide) b (by omega)], by rw [e3, ol 16 (by decide) b (by omega)]⟩
    · rw [o 11 (by decide), o 57 (by decide)]; exact a3
    · rw [o 12 (by decide), o 58 (by decide)]; exact a4
    · rw [o 13 (by decide), o 59 (by decide)]; exact a5
    · rw [o 14 (by decide), o 60 (by decide)]; exact a6
    · rw [o 15 (by decide), o 62 (by decide)]; exact a7
    · rw [o 16 (by decide), o 63 (by decide)]; exact a8
def WRc : List Nat := [9, 10, 11, 12, 13, 14, 15, 16, 17, 18, 56, 57, 58, 59, 60, 61, 62, 63]
def WRm : List Nat := [10, 11, 26, 35]
/-- the records are others; all else is as it was -/
def RcP (σ : Sg) : Sg → Prop := fun τ => (∃ r, RcA r τ) ∧ Ex WRc WRm σ τ
theorem C_tc (d : Nat) {r : Nat} (x1 x2 x3 x4 : Int32) {σ : Sg} (h : σ.1 9 9 = nI r) (hr : r ≤ 24) : X_TO_came (d + 1) x1 x2 x3 x4 σ = X_TO_came_43 (d + 1) x1 x2 x3 x4 (bI (x1 = -1 ∨ inR x1 r)) (bI (x3 = -1 ∨ (1 ≤ x3 ∧ x3 ≤ 20))) σ := by
  rw [X_TO_came_e, C_rHolds d x1 σ (by omega) h, xm_cI_s]
  simp only [C_isUpTo, xm_cI_s]
  have k3 : ∀ a : Int32, xm_br (x3 = -1) (X_TO_came_43 (d + 1) x1 x2 x3 x4 a 1 σ) (xm_br (bI (1 ≤ x3 ∧ x3 ≤ 20) = 0) (X_TO_came_43 (d + 1) x1 x2 x3 x4 a 0 σ) (X_TO_came_43 (d + 1) x1 x2 x3 x4 a 1 σ)) = X_TO_came_43 (d + 1) x1 x2 x3 x4 a (bI (x3 = -1 ∨ (1 ≤ x3 ∧ x3 ≤ 20))) σ := by
    intro a
    by_cases q : x3 = -1
    · rw [xm_br_t q, bI_t (Or.inl q)]
    · rw [xm_br_f q]
      by_cases q2 : 1 ≤ x3 ∧ x3 ≤ 20
      · rw [xm_br_b q2, bI_t (Or.inr q2)]
      · rw [xm_br_n q2, bI_f (fun o => o.elim q q2)]
  rw [k3, k3]
  by_cases q : x1 = -1
  · rw [xm_br_t q, bI_t (Or.inl q)]
  · rw [xm_br_f q]
    by_cases q2 : inR x1 r
    · rw [xm_br_b q2, bI_t (Or.inr q2)]
    · rw [xm_br_n q2, bI_f (p := x1 = -1 ∨ inR x1 r) (fun o => o.elim q q2)]
def cmG (r : Nat) (x1 x2 x3 x4 : Int32) (σ : Sg) : Prop := (x1 = -1 ∨ inR x1 r) ∧ inR x2 2 ∧ (x3 = -1 ∨ (1 ≤ x3 ∧ x3 ≤ 20)) ∧ (σ.1 9 10 ≤ x4 ∧ x4 ≤ 99)
theorem C_tc0 (d : Nat) {r : Nat} (x1 x2 x3 x4 : Int32) {σ : Sg} (h : σ.1 9 9 = nI r) (hr : r ≤ 24) (hg : ¬ cmG r x1 x2 x3 x4 σ) : X_TO_came (d + 1) x1 x2 x3 x4 σ = some (some (.int (-2)), σ) := by
  rw [C_tc d x1 x2 x3 x4 h hr, X_TO_came_43_e]
  by_cases q1 : x1 = -1 ∨ inR x1 r
  rotate_left
  · rw [xm_br_n q1, X_TO_came_74_e]
  rw [xm_br_b q1, C_isBit, xm_cI_s]
  by_cases q2 : inR x2 2
  rotate_left
  · rw [xm_br_n q2, X_TO_came_74_e]
  rw [xm_br_b q2]
  by_cases q3 : x3 = -1 ∨ (1 ≤ x3 ∧ x3 ≤ 20)
  rotate_left
  · rw [xm_br_n q3, X_TO_came_74_e]
  rw [xm_br_b q3, C_nextDay, xm_cI_s]
  by_cases q4 : σ.1 9 10 ≤ x4 ∧ x4 ≤ 99
  · exact absurd ⟨q1, q2, q3, q4⟩ hg
  · rw [xm_br_n q4, X_TO_came_74_e]
theorem C_tc1 (d : Nat) {r : Nat} (x1 x2 x3 x4 : Int32) {σ : Sg} (h : σ.1 9 9 = nI r) (hr : r ≤ 24) (hg : cmG r x1 x2 x3 x4 σ) : X_TO_came (d + 1) x1 x2 x3 x4 σ = xm_br ((σ.1 9 9) < 24) (xm_br (x1 = (-1)) (xm_cI (X_Records_tell d x1 x2 x3 x4 σ) (fun r6 σ5 => some (some (.int r6), σ5))) (xm_ix x1 24 (fun j7 => xm_br ((σ.1 17 j7) < 3) (xm_cI (X_Records_tell d x1 x2 x3 x4 σ) (fun r9 σ8 => some (some (.int r9), σ8))) (some (some (.int (-3)), σ))))) (some (some (.int (-4)), σ)) := by
  obtain ⟨q1, q2, q3, q4⟩ := hg
  rw [C_tc d x1 x2 x3 x4 h hr, X_TO_came_43_e, xm_br_b q1, C_isBit, xm_cI_s, xm_br_b q2, xm_br_b q3, C_nextDay, xm_cI_s, xm_br_b q4]
theorem C_in120 (d : Nat) (x : Int32) (σ : Sg) : X_Mod_in d x.toInt64 1 20 σ = some (some (.int (bI (1 ≤ x ∧ x ≤ 20))), σ) := C_in32 d x 1 20 σ
theorem C_mc (d : Nat) {r : Nat} (x1 x2 x3 x4 : Int32) {σ : Sg} (h : σ.1 39 26 = nI r) (hr : r ≤ 24) : X_Mod_came (d + 2) x1 x2 x3 x4 σ = xm_br (bI ((x1 = -1 ∨ inR x1 r) ∧ inR x2 2 ∧ (x3 = -1 ∨ (1 ≤ x3 ∧ x3 ≤ 20))) = 0) (some (some (.int (-2)), σ)) (X_Mod_came_37 (d + 2) x1 x2 x3 x4 σ) := by
  rw [X_Mod_came_e, C_isTwo, xm_cI_s, C_in120, xm_cI_s, C_isRecord _ _ σ (by omega) h, xm_cI_s, C_isTwo, xm_cI_s, C_in120, xm_cI_s, X_Mod_came_54_e]
  by_cases q1 : x1 = -1 ∨ inR x1 r
  rotate_left
  · rw [xm_br_f (fun q => q1 (Or.inl q)), xm_br_n (fun q => q1 (Or.inr q)), xm_br_n (fun q => q1 q.1)]
  have s1 : ∀ a b : Oz, xm_br (x1 = -1) a (xm_br (bI (inR x1 r) = 0) b a) = a := by
    intro a b
    by_cases q : x1 = -1
    · rw [xm_br_t q]
    · rw [xm_br_f q, xm_br_b (q1.resolve_left q)]
  rw [s1]
  by_cases q2 : inR x2 2
  rotate_left
  · rw [xm_br_n q2, xm_br_n (fun q => q2 q.2.1)]
  rw [xm_br_b q2]
  by_cases q3 : x3 = -1
  · rw [xm_br_t q3, xm_br_b ⟨q1, q2, Or.inl q3⟩]
  rw [xm_br_f q3]
  by_cases q4 : 1 ≤ x3 ∧ x3 ≤ 20
  · rw [xm_br_b q4, xm_br_b ⟨q1, q2, Or.inr q4⟩]
  · rw [xm_br_n q4, xm_br_n (fun q => q.2.2.elim q3 q4)]
theorem C_mc0 (d : Nat) {r : Nat} (x1 x2 x3 x4 : Int32) {σ : Sg} (h : RcA r σ) (hg : ¬ cmG r x1 x2 x3 x4 σ) : X_Mod_came (d + 2) x1 x2 x3 x4 σ = some (some (.int (-2)), σ) := by
  rw [C_mc d x1 x2 x3 x4 h.2.2.1 h.1]
  by_cases q : (x1 = -1 ∨ inR x1 r) ∧ inR x2 2 ∧ (x3 = -1 ∨ (1 ≤ x3 ∧ x3 ≤ 20))
  · rw [xm_br_b q, X_Mod_came_37_e, C_mday, xm_cI_s, X_Mod_came_54_e, xm_br_n]
    rw [← h.2.2.2.1.1]
    exact fun q2 => hg ⟨q.1, q.2.1, q.2.2, q2⟩
  · rw [xm_br_n q]
theorem C_mc1 (d : Nat) {r : Nat} (x1 x2 x3 x4 : Int32) {σ : Sg} (h : σ.1 39 26 = nI r) (hr : r ≤ 24) (h1 : x1 = -1 ∨ inR x1 r) (h2 : inR x2 2) (h3 : x3 = -1 ∨ (1 ≤ x3 ∧ x3 ≤ 20)) (h4 : σ.1 39 35 ≤ x4 ∧ x4 ≤ 99) : X_Mod_came (d + 2) x1 x2 x3 x4 σ = xm_br ((σ.1 39 26) = 24) (some (some (.int (-4)), σ)) (xm_br (x1 = (-1)) (X_Mod_came_87 (d + 2) x1 x2 x3 x4 σ) (xm_ix x1 24 (fun j3 => xm_br ((σ.1 61 j3) = 3) (some (some (.int (-3)), σ)) (X_Mod_came_87 (d + 2) x1 x2 x3 x4 σ)))) := by
  rw [C_mc d x1 x2 x3 x4 h hr, xm_br_b ⟨h1, h2, h3⟩, X_Mod_came_37_e, C_mday, xm_cI_s, xm_br_b h4]
