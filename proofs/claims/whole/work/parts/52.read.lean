/-! READ: ties of a person by a sheet -/
theorem NtA.swap {n K : Nat} {T : Nat → Nat} {σ τ : Sg} (h : NtA n T K σ) (e1 : τ.1 1 1 = nI n) (e39 : τ.1 39 5 = nI n) (e2 : ∀ p, p < 9 → τ.1 2 p = nI (T p)) (e44 : ∀ p, p < 9 → τ.1 44 p = nI (T p)) (e12 : τ.1 1 2 = nI K) (e45 : ∀ p, p < 9 → τ.1 45 p = nI (K / 2 ^ p % 2)) : NtA n T K τ :=
  ⟨h.1, e1, e39, fun p hp => ⟨e2 p hp, e44 p hp, (h.2.2.2.1 p hp).2.2⟩, e12, h.2.2.2.2.2.1, e45⟩
theorem NtA.tj {n K : Nat} {T : Nat → Nat} {σ : Sg} (h : NtA n T K σ) {a b v : Nat} (ha : a < n) (hb : b < n) (hab : a ≠ b) (hv : v < 2) : ∃ τ, NtA n (Tj T a b v) K τ :=
  ⟨(fun c => if c = 2 ∨ c = 44 then (fun p => nI (Tj T a b v p)) else σ.1 c, σ.2), h.tie ha hb hab hv rfl rfl rfl rfl (fun _ _ => rfl) (fun _ _ => rfl)⟩
/-- what the class has of the net, the reference -/
def clN (n : Nat) (T : Nat → Nat) (σ : Sg) : Prop := σ.1 1 1 = nI n ∧ ∀ p, p < 9 → σ.1 2 p = nI (T p)
def mdN (n : Nat) (T : Nat → Nat) (σ : Sg) : Prop := σ.1 39 5 = nI n ∧ ∀ p, p < 9 → σ.1 44 p = nI (T p)
theorem C_rd (d d' : Nat) {n K s p m z : Nat} {it : Nat → Int32} (hs : s < 4) (hp : p < n) (hm : m = min z n) (hz : z ≤ 60) : ∀ (k j : Nat) (T : Nat → Nat), j + k = m → (∃ σ, NtA n T K σ) → ∃ T' c r, (∃ σ, NtA n T' K σ) ∧ c ≤ k ∧ (c = 0 → T' = T) ∧ (∀ σ, clN n T σ → (∀ i, i < z → σ.1 (35 + s) i = it i) → ∃ τ, X_TO_read_68 (d + 2) (nI s) (nI p) (nI m) (nI j) σ = some (some (.int r), τ) ∧ clN n T' τ ∧ (∀ q, q ≠ 3 → τ.1 1 q = σ.1 1 q) ∧ τ.1 1 3 = σ.1 1 3 + nI c ∧ (∀ q, q ≠ 1 → q ≠ 2 → τ.1 q = σ.1 q) ∧ τ.2 = σ.2) ∧ (∀ σ, mdN n T σ → σ.1 41 s = nI z → (∀ i, i < z → σ.1 42 (60 * s + i) = it i) → ∃ τ, X_Mod_read_38 (d' + 2) (nI s) (nI p) (nI j) 1 σ = some (some (.int r), τ) ∧ mdN n T' τ ∧ (∀ q, q ≠ 44 → τ.1 q = σ.1 q) ∧ τ.2 = σ.2)
  | 0, j, T, hj, ⟨σ0, h0⟩ => by
    have hn := h0.1
    have hmz : min z n ≤ z := Nat.min_le_left z n
    have hmn : min z n ≤ n := Nat.min_le_right z n
    refine ⟨T, 0, nI m, ⟨σ0, h0⟩, by omega, fun _ => rfl, fun σ hc hi => ⟨σ, ?_, hc, fun _ _ => rfl, ?_, fun _ _ _ => rfl, rfl⟩, fun σ hc hz1 hi => ⟨σ, ?_, hc, fun _ _ => rfl, rfl⟩⟩
    · rw [X_TO_read_68_e, xm_br_t (nI_le (by omega) (by omega))]
    · rw [nI_0]; simp
    · rw [X_Mod_read_38_e, xm_br_f i10, xm_ix_n hs (by omega), hz1, hc.1]
      by_cases q : z ≤ n
      · rw [xm_br_t (nI_le (by omega) (by omega)), show j = m by omega]
      · rw [xm_br_f (nI_ge (by omega) (by omega)), xm_br_t (nI_le (by omega) (by omega)), show j = m by omega]
  | k + 1, j, T, hj, ⟨σ0, h0⟩ => by
    have hn := h0.1
    have hmz : min z n ≤ z := Nat.min_le_left z n
    have hmn : min z n ≤ n := Nat.min_le_right z n
    by_cases hjp : j = p
    · subst hjp
      obtain ⟨T', c, r, a1, a2, a3, a4, a5⟩ := C_rd d d' (it := it) hs hp hm hz k (j + 1) T (by omega) ⟨σ0, h0⟩
      refine ⟨T', c, r, a1, by omega, a3, fun σ hc hi => ?_, fun σ hc hz1 hi => ?_⟩
      · obtain ⟨τ, t1, t2⟩ := a4 σ hc hi
        refine ⟨τ, ?_, t2⟩
        rw [X_TO_read_68_e, xm_br_f (nI_ge (by omega) (by omega)), C_item _ _ hs (by omega), xm_cI_s, xm_br_t rfl, xm_br_t rfl, nI_1, t1]
      · obtain ⟨τ, t1, t2⟩ := a5 σ hc hz1 hi
        refine ⟨τ, ?_, t2⟩
        rw [X_Mod_read_38_e, xm_br_f i10, xm_ix_n hs (by omega), hz1, hc.1, xm_br_f (nI_ge (by omega) (by omega)), xm_br_f (nI_ge (by omega) (by omega)), nI_row, xm_ix_n (by omega) (by omega), xm_br_t rfl, xm_br_t rfl, nI_1, t1]
    have hjp' : ¬ nI j = nI p := fun e => hjp ((nI_eq (by omega) (by omega)).mp e)
    by_cases hb : inR (it j) 2
    · have hb0 := hb
      obtain ⟨v, hv, ev⟩ := hb
      obtain ⟨T', c, r, a1, a2, a3, a4, a5⟩ := C_rd d d' (it := it) hs hp hm hz k (j + 1) (Tj T p j v) (by omega) (h0.tj hp (by omega) (Ne.symm hjp) hv)
      refine ⟨T', c + 1, r, a1, by omega, fun e => by omega, fun σ hc hi => ?_, fun σ hc hz1 hi => ?_⟩
      · have hj2 := Jn_2 (T := T) (a := p) (b := j) (v := v) (σ := σ) (Ne.symm hjp) hc.2
        have jc : ∀ q, q ≠ 1 → q ≠ 2 → (Jn T p j v σ).1 q = σ.1 q := fun q q1 q2 => by unfold Jn; rw [sI_cell _ _ _ q1, sI_cell _ _ _ q2, sI_cell _ _ _ q2]
        have j1 : ∀ q, q ≠ 3 → (Jn T p j v σ).1 1 q = σ.1 1 q := fun q hq => by unfold Jn; rw [sI_row _ _ hq, sI_cell _ _ _ (by decide), sI_cell _ _ _ (by decide)]
        obtain ⟨τ, t1, t2, t3, t4, t5, t6⟩ := a4 (Jn T p j v σ) ⟨by rw [j1 1 (by decide)]; exact hc.1, hj2⟩ (fun i hi' => by rw [jc _ (by omega) (by omega)]; exact hi i hi')
        have hjn := C_join (T := T) (σ := σ) d (a := p) (b := j) (v := v) hp (by omega) (Ne.symm hjp) hv hn.2 hc.1 (fun q hq => ⟨hc.2 q hq, h0.T hq⟩)
        refine ⟨τ, ?_, t2, fun q hq => by rw [t3 q hq, j1 q hq], ?_, fun q q1 q2 => by rw [t5 q q1 q2, jc q q1 q2], t6⟩
        · rw [X_TO_read_68_e, xm_br_f (nI_ge (by omega) (by omega)), C_item _ _ hs (by omega), xm_cI_s, xm_br_f hjp', C_isBit, xm_cI_s, hi j (by omega), xm_br_b hb0, xm_br_f hjp', ev]
          rcases (show v = 0 ∨ v = 1 by omega) with rfl | rfl
          · rw [xm_br_f (by decide), show (0 : Int32) = nI 0 from rfl, hjn, xm_cV_s, nI_1, t1]
          · rw [xm_br_t (by decide), show (1 : Int32) = nI 1 from rfl, hjn, xm_cV_s, nI_add, t1]
        · rw [t4]
          unfold Jn
          rw [sI_same, nI_succ, Int32.add_assoc, Int32.add_comm 1 (nI c)]
      · have hT : ∀ q, q < 9 → σ.1 44 q = nI (T q) ∧ T q < 512 := fun q hq => ⟨hc.2 q hq, h0.T hq⟩
        have hsy := h0.sym (show p < 9 by omega) (show j < 9 by omega)
        have hties := C_ties (T := T) (σ := σ) (d' + 1) (a := p) (b := j) (v := v) (by omega) (by omega) (Ne.symm hjp) hv hT hsy
        obtain ⟨τ, t1, t2, t3, t4⟩ := a5 (Mj T p j v σ) ⟨by rw [Mj_cell (by decide)]; exact hc.1, Mj_44 (Ne.symm hjp) hsy hc.2⟩ (by rw [Mj_cell (by decide)]; exact hz1) (fun i hi' => by rw [Mj_cell (by decide)]; exact hi i hi')
        have e2 : (Mj T p j v σ).2 = σ.2 := by
          unfold Mj
          by_cases q : T p / 2 ^ j % 2 = v
          · rw [if_pos q]
          · rw [if_neg q]; rfl
        refine ⟨τ, ?_, t2, fun q hq => by rw [t3 q hq, Mj_cell hq], t4.trans e2⟩
        rw [X_Mod_read_38_e, xm_br_f i10, xm_ix_n hs (by omega), hz1, hc.1, xm_br_f (nI_ge (by omega) (by omega)), xm_br_f (nI_ge (by omega) (by omega)), nI_row, xm_ix_n (by omega) (by omega), xm_br_f hjp', C_isTwo, xm_cI_s, hi j (by omega), xm_br_b hb0, xm_br_f hjp', ev]
        rcases (show v = 0 ∨ v = 1 by omega) with rfl | rfl
        · rw [xm_br_f (by decide), show (0 : Int32) = nI 0 from rfl, hties, xm_cI_s, nI_1, t1]
        · rw [xm_br_t (by decide), show (1 : Int32) = nI 1 from rfl, hties, xm_cI_s, nI_add]
          exact t1
    · refine ⟨T, 0, nI j, ⟨σ0, h0⟩, by omega, fun _ => rfl, fun σ hc hi => ⟨σ, ?_, hc, fun _ _ => rfl, ?_, fun _ _ _ => rfl, rfl⟩, fun σ hc hz1 hi => ⟨σ, ?_, hc, fun _ _ => rfl, rfl⟩⟩
      · rw [X_TO_read_68_e, xm_br_f (nI_ge (by omega) (by omega)), C_item _ _ hs (by omega), xm_cI_s, xm_br_f hjp', C_isBit, xm_cI_s, hi j (by omega), xm_br_n hb]
      · rw [nI_0]; simp
      · rw [X_Mod_read_38_e, xm_br_f i10, xm_ix_n hs (by omega), hz1, hc.1, xm_br_f (nI_ge (by omega) (by omega)), xm_br_f (nI_ge (by omega) (by omega)), nI_row, xm_ix_n (by omega) (by omega), xm_br_f hjp', C_isTwo, xm_cI_s, hi j (by omega), xm_br_n hb, X_Mod_read_38_e, xm_br_t rfl]
        simp
/-- behind read: the net is another one, and the count of changes is more; or it is as it was; or a finding -/
def RdP (n K : Nat) (T : Nat → Nat) (σ : Sg) : Sg → Prop := fun τ => ShP σ τ ∨ ∃ T' c, NtA n T' K τ ∧ c ≤ 9 ∧ (c = 0 → T' = T) ∧ Ex [1, 2, 44] [] σ τ ∧ τ.1 1 3 = σ.1 1 3 + nI c
theorem O_read {n K : Nat} {T : Nat → Nat} {σ : Sg} (h : NtA n T K σ) (hsh : ShA σ) (d : Nat) (x y : Int32) : OpI (X_TO_read (d + 4) x y) (X_Mod_read (d + 4) x y) (RdP n K T σ) σ := by
  unfold OpI
  have hn := h.1
  by_cases hx : inR x 4
  rotate_left
  · refine ⟨-2, σ, σ, ?_, ?_, Or.inl ⟨hsh, Ex.rf _ _ _⟩⟩
    · rw [X_TO_read_e, C_shHolds, xm_cI_s, xm_br_n hx]
    · rw [X_Mod_read_e, C_isSheet, xm_cI_s, xm_br_n hx]
  by_cases hy : inR y n
  rotate_left
  · refine ⟨-2, σ, σ, ?_, ?_, Or.inl ⟨hsh, Ex.rf _ _ _⟩⟩
    · rw [X_TO_read_e, C_shHolds, xm_cI_s, xm_br_b hx, C_holds _ _ σ (by omega) h.2.1, xm_cI_s, xm_br_n hy]
    · rw [X_Mod_read_e, C_isSheet, xm_cI_s, xm_br_b hx, C_isPerson _ _ σ (by omega) (by omega) h.2.2.1, xm_cI_s, xm_br_n hy]
  have hx0 := hx
  have hy0 := hy
  obtain ⟨s, hs, rfl⟩ := hx
  obtain ⟨p, hp, rfl⟩ := hy
  obtain ⟨h1, h2, h3, z, h4, h5, h6⟩ := hsh.2 s hs
  have hm : ∀ τ : Sg, τ.1 39 5 = nI n → X_Mod_read (d + 4) (nI s) (nI p) τ = xm_br (0 ≤ (τ.1 40 s)) (X_Mod_read_38 (d + 4) (nI s) (nI p) 0 1 τ) (xm_cI (X_Mod_met (d + 3) 1 τ) (fun r9 σ8 => some (some (.int r9), σ8))) := by
    intro τ e
    rw [X_Mod_read_e, C_isSheet, xm_cI_s, xm_br_b hx0, C_isPerson _ _ τ (by omega) (by omega) e, xm_cI_s, xm_br_b hy0, xm_ix_n hs (by omega)]
  rw [X_TO_read_e, C_shHolds, xm_cI_s, xm_br_b hx0, C_holds _ _ σ (by omega) h.2.1, xm_cI_s, xm_br_b hy0, C_isLost _ _ hs, xm_cI_s]
  by_cases hl : σ.1 32 s = -1
  · rw [xm_br_b hl, C_finding, xm_cI_s]
    refine ⟨_, _, xm_sI (xm_sI σ 31 3 1) 39 4 1, rfl, ?_, Or.inl (hsh.find 1)⟩
    rw [hm _ (by rw [sI_cell _ _ _ (by decide)]; exact h.2.2.1), xm_br_f, C_met, xm_cI_s]
    rw [sI_cell _ _ _ (by decide), ← h1, hl]
    exact m1_neg
  rw [xm_br_n hl, xm_ix_n hs (by omega), h5, h.2.1, imin_n (by omega) (by omega)]
  obtain ⟨T', c, r, a1, a2, a3, a4, a5⟩ := C_rd (d + 2) (d + 2) (n := n) (K := K) (s := s) (p := p) (m := min z n) (z := z) (it := σ.1 (35 + s)) hs hp rfl h4 (min z n) 0 T (by omega) ⟨σ, h⟩
  have hmn : min z n ≤ n := Nat.min_le_right z n
  obtain ⟨τ, t1, t2, t3, t4, t5, t6⟩ := a4 σ ⟨h.2.1, fun q hq => (h.2.2.2.1 q hq).1⟩ (fun _ _ => rfl)
  obtain ⟨υ, u1, u2, u3, u4⟩ := a5 τ ⟨by rw [t5 39 (by decide) (by decide)]; exact h.2.2.1, fun q hq => by rw [t5 44 (by decide) (by decide)]; exact (h.2.2.2.1 q hq).2.1⟩ (by rw [t5 41 (by decide) (by decide), ← h3]; exact h5) (fun i hi => by rw [t5 42 (by decide) (by decide)]; exact (h6 i hi).symm)
  refine ⟨r, τ, υ, t1, ?_, Or.inr ⟨T', c, ?_, by omega, a3, ⟨fun q hq h9 => ?_, fun j hj => ?_, u4.trans t6⟩, ?_⟩⟩
  · rw [hm τ (by rw [t5 39 (by decide) (by decide)]; exact h.2.2.1), t5 40 (by decide) (by decide), ← h1, xm_br_t (form_nn (h2.resolve_left hl)).1]
    exact u1
  · obtain ⟨σ0, h0⟩ := a1
    refine h0.swap ?_ u2.1 ?_ u2.2 ?_ ?_
    · rw [u3 1 (by decide)]; exact t2.1
    · intro q hq; rw [u3 2 (by decide)]; exact t2.2 q hq
    · rw [u3 1 (by decide), t3 2 (by decide)]; exact h.2.2.2.2.1
    · intro q hq; rw [u3 45 (by decide), t5 45 (by decide) (by decide)]; exact h.2.2.2.2.2.2 q hq
  · have hc' : ∀ k, k ∈ [1, 2, 44] → q ≠ k := fun k hk e => hq (e ▸ hk)
    rw [u3 q (hc' 44 (by decide)), t5 q (hc' 1 (by decide)) (hc' 2 (by decide))]
  · rw [u3 39 (by decide), t5 39 (by decide) (by decide)]
  · rw [u3 1 (by decide), t4]
