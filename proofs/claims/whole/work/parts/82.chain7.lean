/-! CHAINS: goesThrough; found, both, size, kinds, within -/
theorem zr {c N : Nat} {X : Nat → Sg → Oz} {Y : Sg → Oz} (st : ∀ i τ, i < N → X i τ = X (i + 1) (xm_sL τ c i 0)) (fin : ∀ τ, X N τ = Y τ) : ∀ (k i : Nat) (τ : Sg), i + k = N → (∀ j, j < i → τ.2 c j = 0) → ∃ υ, X i τ = Y υ ∧ υ.1 = τ.1 ∧ (∀ z, z ≠ c → υ.2 z = τ.2 z) ∧ ∀ j, j < N → υ.2 c j = 0
  | 0, i, τ, hi, hz => by
    have : i = N := by omega
    subst this
    exact ⟨τ, fin τ, rfl, fun _ _ => rfl, hz⟩
  | k + 1, i, τ, hi, hz => by
    obtain ⟨υ, u1, u2, u3, u4⟩ := zr (c := c) st fin k (i + 1) (xm_sL τ c i 0) (by omega) (fun j hj => by
      rw [sL_at]
      by_cases e : j = i
      · rw [if_pos e]
      · rw [if_neg e]; exact hz j (by omega))
    exact ⟨υ, (st i τ (by omega)).trans u1, u2, fun z hz => by rw [u3 z hz, sL_cell _ _ _ hz], u4⟩
section GT
variable {T : Nat → Nat} {n K L e : Nat} {s : Int32} {σ : Sg}
/-- 3841600 of the class's units are one of the reference's -/
theorem VV_ref (h : NtA n T K σ) (hL7 : L ≤ 7) (f : Nat → Nat) {p : Nat} (hp : p < n) : VV T n L f (2 ^ p) p 351298031616000000 = 3841600 * VV T n L f (2 ^ p) p 91445760000 := by
  have hn := h.1
  obtain ⟨p1, p2⟩ := pow_p (show p < 9 by omega)
  have := VF_lin (f := f) hn.2 hL7 (NtA_t h) 7 (2 ^ p) p 3841600 (Nat.pow_lt_pow_right (by omega) hp) (by omega) (by omega)
  rw [p2] at this
  exact this
/-- all that begin at one person -/
theorem C_one (h : NtA n T K σ) (hL : σ.1 39 9 = nI L) (hL7 : L ≤ 7) (he : e ≤ 100) (h23 : σ.1 39 23 = nI e) (d : Nat) {p : Nat} (hp : p < n) {τ : Sg} (hD : DfP σ τ) : ∃ υ, xm_cV (X_Mod_stands (d + 4) 0 (xm_sL (xm_sI (xm_sI τ 39 16 0) 46 0 (nI p)) 48 0 351298031616000000)) (fun σ1 => X_Mod_goesThrough_161 (d + 5) (nI p) 0 σ1) = X_Mod_goesThrough_109 (d + 5) (nI (p + 1)) υ ∧ DfP σ υ ∧ ∀ c j, dm c j → υ.2 c j = τ.2 c j + lN (VV T n L (phF T n K e c j) (2 ^ p) p 351298031616000000) := by
  have hn := h.1
  have S1 : DfP σ (xm_sL (xm_sI (xm_sI τ 39 16 0) 46 0 (nI p)) 48 0 351298031616000000) := by
    refine ⟨fun c hc => ?_, fun j hj => ?_, fun c hc => ?_, fun j hj => ?_⟩
    · have hc' : ∀ k, k ∈ [39, 46, 47] → c ≠ k := fun k hk e => hc (e ▸ hk)
      show (xm_sI (xm_sI τ 39 16 0) 46 0 (nI p)).1 c = _
      rw [sI_cell _ _ _ (hc' 46 (by decide)), sI_cell _ _ _ (hc' 39 (by decide))]
      exact hD.1 c hc
    · show (xm_sI (xm_sI τ 39 16 0) 46 0 (nI p)).1 39 j = _
      rw [sI_cell _ _ _ (by decide), sI_row _ _ hj]
      exact hD.2.1 j hj
    · rw [sL_cell _ _ _ (fun z => hc (by rw [z]; decide))]
      exact hD.2.2.1 c hc
    · rw [sL_cell _ _ _ (by decide)]
      exact hD.2.2.2 j hj
  have hr : rwP n (0 + 1) (fun _ => p) := by
    intro i hi
    have : i = 0 := by omega
    subst this
    exact ⟨hp, Nat.zero_testBit _⟩
  have sF1 : sF (fun _ => p) (0 + 1) = 2 ^ p := Nat.zero_or _
  obtain ⟨α, a1, a2, a3, a4, a5, a6, a7, a8, a9⟩ := C_stands (S1.nt h) (L := L) (e := e) (by rw [S1.2.1 9 (by decide)]; exact hL) hL7 he (by rw [S1.2.1 23 (by decide)]; exact h23) d (k := 0) (w := 351298031616000000) (pt := fun _ => p) (by omega) hr (fun i hi => by
      have : i = 0 := by omega
      subst this
      show (xm_sI (xm_sI τ 39 16 0) 46 0 (nI p)).1 46 0 = _
      rw [sI_same]) (by
      show (xm_sI (xm_sI τ 39 16 0) 46 0 (nI p)).1 39 16 = _
      rw [sI_cell _ _ _ (by decide), sI_same]
      rfl) (by rw [sL_same]; rfl) (by omega)
  obtain ⟨β, b1, b2, b3, b4, b5⟩ := C_dfs h hL hL7 he h23 d (nI p) 6 0 (by omega) (opF T L (fun _ => p) 0) (fun _ => p) (351298031616000000 / pop 14 (opF T L (fun _ => p) 0)) α (S1.tr a2) hr (fun i hi => by
      have : i = 0 := by omega
      subst this
      rw [a3]
      show (xm_sI (xm_sI τ 39 16 0) 46 0 (nI p)).1 46 0 = _
      rw [sI_same]) a5 a6 (op_lt h hp) (fun z hz => by
      unfold opF at hz
      split at hz
      · exact (an_f hz).2
      · simp at hz) (fun hne => by
      rcases a9 with ⟨z, -⟩ | ⟨-, z, -⟩
      · exact absurd z hne
      · refine ⟨?_, z⟩
        unfold opF at hne
        split at hne
        · assumption
        · exact absurd rfl hne) (Nat.lt_of_le_of_lt (Nat.div_le_self _ _) (by omega))
  refine ⟨β, ?_, b2, fun c j hd => ?_⟩
  · rw [show X_Mod_stands (d + 4) 0 _ = _ from a1, xm_cV_s, show X_Mod_goesThrough_161 (d + 5) (nI p) 0 α = _ from b1, show nI 0 + (-1) = (-1 : Int32) by decide, X_Mod_goesThrough_161_e, xm_br_t (by decide), nI_1]
  · have cne : c ≠ 48 := by rcases hd with z | z | z | z | z <;> omega
    have e1 : (xm_sL (xm_sI (xm_sI τ 39 16 0) 46 0 (nI p)) 48 0 351298031616000000).2 c j = τ.2 c j := by rw [sL_cell _ _ _ cne]; rfl
    obtain ⟨p1, p2⟩ := pow_p (show p < 9 by omega)
    have eo : opF T L (fun _ => p) 0 = if 0 + 1 < L then an (T p) (2 ^ p) else 0 := by
      unfold opF
      rw [sF1]
    rw [b5 c j hd, sF1]
    show _ = τ.2 c j + lN (if pop 14 (an (T p) (2 ^ p)) = 0 ∨ L ≤ pop 14 (2 ^ p) then _ else _)
    rcases a9 with ⟨z1, z2⟩ | ⟨z1, z2, z3⟩
    · rw [z2 c j hd, e1, z1, sF1]
      have hend : pop 14 (an (T p) (2 ^ p)) = 0 ∨ L ≤ pop 14 (2 ^ p) := by
        rw [p2]
        by_cases w : 0 + 1 < L
        · left
          rw [eo, if_pos w] at z1
          rw [z1, pop_0]
        · right; omega
      rw [if_pos hend, show sm (fun q => if Nat.testBit 0 q = true then _ else 0) n = 0 from sm_0 (fun q _ => if_neg (by simp)), lN_0]
      simp
    · rw [z3 c j hd, e1]
      have w : 0 + 1 < L := Decidable.byContradiction (fun w => z1 (by rw [eo, if_neg w]))
      rw [if_pos w] at eo
      have hend : ¬ (pop 14 (an (T p) (2 ^ p)) = 0 ∨ L ≤ pop 14 (2 ^ p)) := by
        rw [p2]
        rintro (u | u)
        · exact z1 (by rw [eo]; exact pop_pos 14 _ (by have := pow9 hn.2 (an_lt (b := 2 ^ p) (NtA_t h p (by omega))); omega) u)
        · omega
      rw [if_neg hend, eo]
theorem C_109 (h : NtA n T K σ) (hs : σ.1 39 8 = s) (hL : σ.1 39 9 = nI L) (hL7 : L ≤ 7) (he : e ≤ 100) (h23 : σ.1 39 23 = nI e) (d : Nat) : ∀ (k p : Nat) (τ : Sg), p + k = n → DfP σ τ → ∃ υ, X_Mod_goesThrough_109 (d + 5) (nI p) τ = some (none, υ) ∧ DfP σ υ ∧ ∀ c j, dm c j → υ.2 c j + lN (sm (fun p => stN n s p * VV T n L (phF T n K e c j) (2 ^ p) p 351298031616000000) p) = τ.2 c j + lN (sm (fun p => stN n s p * VV T n L (phF T n K e c j) (2 ^ p) p 351298031616000000) n) := by
  intro k
  induction k with
  | zero =>
    intro p τ hp hD
    have hn := h.1
    have : p = n := by omega
    subst this
    refine ⟨τ, ?_, hD, fun c j _ => rfl⟩
    rw [X_Mod_goesThrough_109_e, (hD.nt h).2.2.1, xm_br_t (nI_le (Nat.le_refl _) (by omega))]
  | succ k ih =>
    intro p τ hp hD
    have hn := h.1
    have hpn : p < n := by omega
    have e8 : τ.1 39 8 = s := by rw [hD.2.1 8 (by decide)]; exact hs
    have step : ∀ c j, sm (fun p => stN n s p * VV T n L (phF T n K e c j) (2 ^ p) p 351298031616000000) (p + 1) = sm (fun p => stN n s p * VV T n L (phF T n K e c j) (2 ^ p) p 351298031616000000) p + stN n s p * VV T n L (phF T n K e c j) (2 ^ p) p 351298031616000000 := fun _ _ => rfl
    obtain ⟨α, a1, a2, a3⟩ := C_one h hL hL7 he h23 d hpn hD
    have yes : stN n s p = 1 → ∃ υ, xm_cV (X_Mod_stands (d + 4) 0 (xm_sL (xm_sI (xm_sI τ 39 16 0) 46 0 (nI p)) 48 0 351298031616000000)) (fun σ1 => X_Mod_goesThrough_161 (d + 5) (nI p) 0 σ1) = some (none, υ) ∧ DfP σ υ ∧ ∀ c j, dm c j → υ.2 c j + lN (sm (fun p => stN n s p * VV T n L (phF T n K e c j) (2 ^ p) p 351298031616000000) p) = τ.2 c j + lN (sm (fun p => stN n s p * VV T n L (phF T n K e c j) (2 ^ p) p 351298031616000000) n) := by
      intro h1
      obtain ⟨υ, u1, u2, u3⟩ := ih (p + 1) α (by omega) a2
      refine ⟨υ, a1.trans u1, u2, fun c j hd => ?_⟩
      have w := u3 c j hd
      rw [step, h1, Nat.one_mul, a3 c j hd, ← lN_add, ← Int64.add_assoc] at w
      have w2 := congrArg (fun z => z - lN (VV T n L (phF T n K e c j) (2 ^ p) p 351298031616000000)) w
      simp only [Int64.add_sub_cancel] at w2
      rw [w2, Int64.add_assoc, Int64.add_comm (lN (VV T n L (phF T n K e c j) (2 ^ p) p 351298031616000000)), ← Int64.add_assoc, Int64.add_sub_cancel]
    rw [X_Mod_goesThrough_109_e, (hD.nt h).2.2.1, xm_br_f (nI_ge hpn (by omega)), e8]
    by_cases q1 : s = -1
    · rw [xm_br_t q1]
      exact yes (if_pos ⟨hpn, Or.inl q1⟩)
    rw [xm_br_f q1]
    by_cases q2 : s = nI p
    · rw [xm_br_t q2]
      exact yes (if_pos ⟨hpn, Or.inr q2⟩)
    rw [xm_br_f q2, nI_1]
    obtain ⟨υ, u1, u2, u3⟩ := ih (p + 1) τ (by omega) hD
    refine ⟨υ, u1, u2, fun c j hd => ?_⟩
    have w := u3 c j hd
    rw [step, show stN n s p = 0 from if_neg (fun z => z.2.elim q1 q2), Nat.zero_mul, Nat.add_zero] at w
    exact w
theorem C_gt (h : NtA n T K σ) (hs : StA n s L σ) (he : e ≤ 100) (d : Nat) : ∃ τ, X_Mod_goesThrough (d + 5) (nI e) σ = some (none, τ) ∧ Es σ τ ∧ (∀ c j, dm c j → τ.2 c j = lN (3841600 * CstF T n L s (phF T n K e c j))) ∧ τ.2 39 17 = lN (sm (stN n s) n * 351298031616000000) := by
  have hn := h.1
  have c50 : ∀ i τ, i < 9 → X_Mod_goesThrough_12 (d + 5) (nI i) τ = X_Mod_goesThrough_12 (d + 5) (nI (i + 1)) (xm_sL τ 50 i 0) := fun i τ hi => by
    rw [X_Mod_goesThrough_12_e, xm_br_f (show ¬ (9 : Int32) ≤ nI i from nI_ge (b := 9) hi (by omega)), xm_ix_n hi (by omega), nI_1]
  have c51 : ∀ i τ, i < 81 → X_Mod_goesThrough_33 (d + 5) (nI i) τ = X_Mod_goesThrough_33 (d + 5) (nI (i + 1)) (xm_sL τ 51 i 0) := fun i τ hi => by
    rw [X_Mod_goesThrough_33_e, xm_br_f (show ¬ (81 : Int32) ≤ nI i from nI_ge (b := 81) hi (by omega)), xm_ix_n hi (by omega), nI_1]
  obtain ⟨α, a1, a2, a3, a4⟩ := zr (c := 50) (N := 9) (X := fun i τ => X_Mod_goesThrough_12 (d + 5) (nI i) τ) (Y := fun τ => X_Mod_goesThrough_33 (d + 5) 0 τ) c50 (fun τ => by
    show X_Mod_goesThrough_12 (d + 5) (nI 9) τ = _
    rw [X_Mod_goesThrough_12_e, xm_br_t (by decide)]) 9 0 (xm_sL (xm_sI σ 39 23 (nI e)) 39 22 0) (by omega) (fun j hj => by omega)
  obtain ⟨β, b1, b2, b3, b4⟩ := zr (c := 51) (N := 81) (X := fun i τ => X_Mod_goesThrough_33 (d + 5) (nI i) τ) (Y := fun τ => X_Mod_goesThrough_54 (d + 5) 0 τ) c51 (fun τ => by
    show X_Mod_goesThrough_33 (d + 5) (nI 81) τ = _
    rw [X_Mod_goesThrough_33_e, xm_br_t (by decide)]) 81 0 α (by omega) (fun j hj => by omega)
  have l54 : ∀ (k i : Nat) (τ : Sg), i + k = 8 → (∀ j, j < i → τ.2 52 j = 0 ∧ τ.2 53 j = 0) → ∃ υ, X_Mod_goesThrough_54 (d + 5) (nI i) τ = xm_br ((υ.1 39 8) = (-1)) (X_Mod_goesThrough_109 (d + 5) 0 (xm_sL υ 39 17 (((υ.1 39 5).toInt64) * 351298031616000000))) (X_Mod_goesThrough_109 (d + 5) 0 (xm_sL υ 39 17 351298031616000000)) ∧ υ.1 = τ.1 ∧ (∀ z, z ≠ 52 → z ≠ 53 → υ.2 z = τ.2 z) ∧ ∀ j, j < 8 → υ.2 52 j = 0 ∧ υ.2 53 j = 0 := by
    intro k
    induction k with
    | zero =>
      intro i τ hi hz
      have : i = 8 := by omega
      subst this
      refine ⟨τ, ?_, rfl, fun _ _ _ => rfl, hz⟩
      rw [X_Mod_goesThrough_54_e, xm_br_t (by decide)]
    | succ k ih =>
      intro i τ hi hz
      obtain ⟨υ, u1, u2, u3, u4⟩ := ih (i + 1) (xm_sL (xm_sL τ 52 i 0) 53 i 0) (by omega) (fun j hj => by
        rw [sL_cell _ _ _ (by decide : (52 : Nat) ≠ 53), sL_at, sL_at, sL_cell _ _ _ (by decide : (53 : Nat) ≠ 52)]
        by_cases e : j = i
        · rw [if_pos e, if_pos e]; exact ⟨rfl, rfl⟩
        · rw [if_neg e, if_neg e]; exact hz j (by omega))
      refine ⟨υ, ?_, u2, fun z h1 h2 => by rw [u3 z h1 h2, sL_cell _ _ _ h2, sL_cell _ _ _ h1], u4⟩
      rw [X_Mod_goesThrough_54_e, xm_br_f (show ¬ (8 : Int32) ≤ nI i from nI_ge (b := 8) (by omega) (by omega)), xm_ix_n (show i < 8 by omega) (by omega), xm_ix_n (show i < 8 by omega) (by omega), nI_1]
      exact u1
  obtain ⟨γ, g1, g2, g3, g4⟩ := l54 8 0 β (by omega) (fun j hj => by omega)
  have G1 : γ.1 = (xm_sI σ 39 23 (nI e)).1 := g2.trans (b2.trans a2)
  have r39 : ∀ j, j ≠ 23 → γ.1 39 j = σ.1 39 j := fun j hj => by rw [G1, sI_row _ _ hj]
  have rc : ∀ c, c ≠ 39 → γ.1 c = σ.1 c := fun c hc => by rw [G1, sI_cell _ _ _ hc]
  have c2 : ∀ c, c ∉ [39, 50, 51, 52, 53] → γ.2 c = σ.2 c := by
    intro c hc
    have hc' : ∀ k, k ∈ [39, 50, 51, 52, 53] → c ≠ k := fun k hk e => hc (e ▸ hk)
    rw [g3 c (hc' 52 (by decide)) (hc' 53 (by decide)), b3 c (hc' 51 (by decide)), a3 c (hc' 50 (by decide)), sL_cell _ _ _ (hc' 39 (by decide))]
    rfl
  have e17 : ∀ W, xm_br ((γ.1 39 8) = (-1)) (X_Mod_goesThrough_109 (d + 5) 0 (xm_sL γ 39 17 (((γ.1 39 5).toInt64) * 351298031616000000))) (X_Mod_goesThrough_109 (d + 5) 0 (xm_sL γ 39 17 351298031616000000)) = W ↔ X_Mod_goesThrough_109 (d + 5) 0 (xm_sL γ 39 17 (lN (sm (stN n s) n * 351298031616000000))) = W := by
    intro W
    rw [r39 8 (by decide), r39 5 (by decide), hs.2.1, h.2.2.1, stN_s hn.2 hs.2.2.1]
    by_cases q : s = -1
    · rw [xm_br_t q, if_pos q, nI_l (by omega), ← lN_mul]; rfl
    · rw [xm_br_f q, if_neg q, Nat.one_mul]; rfl
  have hB : NtA n T K (xm_sL γ 39 17 (lN (sm (stN n s) n * 351298031616000000))) := h.cells (rc 1 (by decide)) (rc 2 (by decide)) (r39 5 (by decide)) (rc 44 (by decide)) (rc 45 (by decide))
  obtain ⟨ω, w1, w2, w3⟩ := C_109 (s := s) (L := L) (e := e) hB ((r39 8 (by decide)).trans hs.2.1) ((r39 9 (by decide)).trans hs.2.2.2.2.1) hs.2.2.2.2.2.2 he (by
    show γ.1 39 23 = _
    rw [G1, sI_same]) d n 0 (xm_sL γ 39 17 (lN (sm (stN n s) n * 351298031616000000))) (by omega) (DfP.rf _)
  refine ⟨ω, ?_, ⟨fun c hc => ?_, fun j hj => ?_, ?_, ?_⟩, fun c j hd => ?_, ?_⟩
  · rw [X_Mod_goesThrough_e, show X_Mod_goesThrough_12 (d + 5) 0 _ = _ from a1, show X_Mod_goesThrough_33 (d + 5) 0 α = _ from b1, show X_Mod_goesThrough_54 (d + 5) 0 β = _ from g1]
    exact (e17 _).mpr w1
  · rw [w2.1 c (by revert c; decide)]
    exact rc c (by rintro rfl; revert hc; decide)
  · rw [w2.2.1 j (by rintro rfl; revert hj; decide)]
    exact r39 j (by rintro rfl; revert hj; decide)
  · rw [w2.2.2.1 3 (by decide), sL_cell _ _ _ (by decide)]
    exact c2 3 (by decide)
  · rw [w2.2.2.1 5 (by decide), sL_cell _ _ _ (by decide)]
    exact c2 5 (by decide)
  · have := w3 c j hd
    rw [show ∀ F : Nat → Nat, sm F 0 = 0 from fun _ => rfl, lN_0] at this
    have z : (xm_sL γ 39 17 (lN (sm (stN n s) n * 351298031616000000))).2 c j = 0 := by
      rcases hd with ⟨rfl, hj⟩ | ⟨rfl, hj⟩ | ⟨rfl, hj⟩ | ⟨rfl, hj⟩ | ⟨rfl, rfl⟩
      · rw [sL_cell _ _ _ (by decide), g3 50 (by decide) (by decide), b3 50 (by decide)]; exact a4 j hj
      · rw [sL_cell _ _ _ (by decide), g3 51 (by decide) (by decide)]; exact b4 j hj
      · rw [sL_cell _ _ _ (by decide)]; exact (g4 j hj).1
      · rw [sL_cell _ _ _ (by decide)]; exact (g4 j hj).2
      · rw [sL_row _ _ (by decide), g3 39 (by decide) (by decide), b3 39 (by decide), a3 39 (by decide), sL_same]
    rw [z] at this
    have e0 : ω.2 c j = lN (sm (fun p => stN n s p * VV T n L (phF T n K e c j) (2 ^ p) p 351298031616000000) n) := by simpa using this
    rw [e0]
    congr 1
    unfold CstF
    rw [← sm_mul]
    refine sm_c (fun p hp => ?_)
    rw [VV_ref h hs.2.2.2.2.2.2 _ hp, Nat.mul_left_comm]
  · rw [w2.2.2.2 17 (by decide), sL_same]
end GT
