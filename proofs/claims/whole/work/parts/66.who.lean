/-! WHO COUNTS, by their order; alike -/
def whF (ct : Nat → Bool) : Nat → Nat → Nat
  | 0, _ => 0
  | n + 1, p => if ct n = true ∧ cnt ct n = p then n else whF ct n p
theorem cnt_l {ct : Nat → Bool} {i j : Nat} (h : i < j) (hc : ct i = true) : cnt ct i < cnt ct j := by
  have := cnt_m ct (i := i + 1) (j := j) h
  rw [cnt_s, hc] at this
  exact this
theorem whF_pos {ct : Nat → Bool} : ∀ {r i : Nat}, i < r → ct i = true → whF ct r (cnt ct i) = i
  | 0, _, h, _ => by omega
  | r + 1, i, h, hc => by
    unfold whF
    by_cases e : i = r
    · subst e
      rw [if_pos ⟨hc, rfl⟩]
    · have := cnt_l (ct := ct) (i := i) (j := r) (by omega) hc
      rw [if_neg (by rintro ⟨-, q⟩; omega)]
      exact whF_pos (by omega) hc
theorem whF_ok {ct : Nat → Bool} : ∀ {r p : Nat}, p < cnt ct r → whF ct r p < r ∧ ct (whF ct r p) = true ∧ cnt ct (whF ct r p) = p
  | 0, p, h => by
    have : p < 0 := h
    omega
  | r + 1, p, h => by
    unfold whF
    by_cases e : ct r = true ∧ cnt ct r = p
    · rw [if_pos e]
      exact ⟨by omega, e.1, e.2⟩
    · rw [if_neg e]
      rw [cnt_s] at h
      have hp : p < cnt ct r := by
        cases hc : ct r with
        | false => rw [hc] at h; exact h
        | true =>
          rw [hc] at h
          have h : p < cnt ct r + 1 := h
          have : cnt ct r ≠ p := fun q => e ⟨hc, q⟩
          omega
      obtain ⟨a, b, c⟩ := whF_ok hp
      exact ⟨by omega, b, c⟩
/-- a sum over those that count is one over their places -/
theorem cnt_wh {ct : Nat → Bool} (g : Nat → Bool) (r : Nat) : ∀ n, n ≤ r → cnt (fun i => ct i && g i) n = cnt (fun p => g (whF ct r p)) (cnt ct n)
  | 0, _ => rfl
  | n + 1, h => by
    rw [cnt_s, cnt_wh g r n (by omega), cnt_s]
    cases hc : ct n with
    | false => rfl
    | true =>
      show _ = cnt (fun p => g (whF ct r p)) (cnt ct n + 1)
      rw [cnt_s, whF_pos (by omega) hc]
      rfl
/-- the bringer's place (0: none, else one more), by a place -/
def obF (bo : Nat → Nat) (ct : Nat → Bool) (r p : Nat) : Nat := if bo (whF ct r p) = 0 then 0 else cnt ct (bo (whF ct r p) - 1) + 1
/-- how many are alike, if the kinds are the bits x -/
def alF (ob : Nat → Nat) (m x : Nat) : Nat := cnt (fun p => decide (ob p ≠ 0) && (x.testBit p == x.testBit (ob p - 1))) m
/-- the kinds as bits -/
def owF (kd w : Nat → Nat) : Nat → Nat
  | 0 => 0
  | p + 1 => 2 ^ p * kd (w p) + owF kd w p
theorem owF_lt {kd w : Nat → Nat} : ∀ {m : Nat}, (∀ p, p < m → kd (w p) < 2) → owF kd w m < 2 ^ m
  | 0, _ => by show 0 < 2 ^ 0; omega
  | m + 1, h => by
    show 2 ^ m * kd (w m) + owF kd w m < 2 ^ (m + 1)
    have h1 := owF_lt (kd := kd) (w := w) (m := m) (fun p hp => h p (by omega))
    have h2 := h m (by omega)
    rw [Nat.pow_succ]
    rcases two h2 with e | e <;> rw [e] <;> omega
theorem owF_bit {kd w : Nat → Nat} : ∀ {m : Nat}, (∀ p, p < m → kd (w p) < 2) → ∀ p, p < m → (owF kd w m).testBit p = decide (kd (w p) = 1)
  | 0, _, p, hp => by omega
  | m + 1, h, p, hp => by
    show (2 ^ m * kd (w m) + owF kd w m).testBit p = _
    rw [Nat.testBit_two_pow_mul_add _ (owF_lt (fun p hp => h p (by omega)))]
    by_cases e : p < m
    · rw [if_pos e]
      exact owF_bit (fun p hp => h p (by omega)) p e
    · have : p = m := by omega
      subst this
      rw [if_neg e, Nat.sub_self]
      rcases two (h p (by omega)) with q | q <;> rw [q] <;> rfl
theorem owF_st (kd w : Nat → Nat) {p : Nat} (hp : p < 30) (h : ∀ q, q ≤ p → kd (w q) < 2) : (nI (owF kd w p) ||| (nI (kd (w p)) <<< (nI p &&& 31))) = nI (owF kd w (p + 1)) := by
  have hk := h p (Nat.le_refl _)
  have hlt := owF_lt (kd := kd) (w := w) (m := p) (fun q hq => h q (by omega))
  have h30 : 2 ^ p ≤ 2 ^ 30 := Nat.pow_le_pow_right (by omega) (by omega)
  rw [pk_shlN (n := kd (w p)) (nI p &&& 31) p (s_l p (by omega)) (by rcases two hk with e | e <;> rw [e] <;> omega), fa_or, Nat.or_comm, Nat.mul_comm]
  show _ = nI (2 ^ p * kd (w p) + owF kd w p)
  rw [Nat.two_pow_add_eq_or_of_lt hlt]
theorem bt_eq {x p q : Nat} (hx : x < 2 ^ 31) (hp : p < 31) (hq : q < 31) : ((nI x >>> (nI p &&& 31)) &&& 1) = ((nI x >>> (nI q &&& 31)) &&& 1) ↔ x.testBit p = x.testBit q := by
  rw [bt_1 hx hp, bt_1 hx hq, bt_n, bt_n]
  cases x.testBit p <;> cases x.testBit q <;> decide
section AL
variable {r : Nat} {bo kd kn tr : Nat → Nat} {ct tk : Nat → Bool} {σ : Sg}
theorem ob_lt (h : VwA r bo kd kn tr ct tk σ) {p : Nat} (hp : p < cnt ct r) (h0 : obF bo ct r p ≠ 0) : bo (whF ct r p) ≠ 0 ∧ obF bo ct r p = cnt ct (bo (whF ct r p) - 1) + 1 ∧ cnt ct (bo (whF ct r p) - 1) < p ∧ ct (bo (whF ct r p) - 1) = true ∧ bo (whF ct r p) - 1 < r := by
  obtain ⟨a, b, c⟩ := whF_ok hp
  unfold obF at h0 ⊢
  by_cases e : bo (whF ct r p) = 0
  · rw [if_pos e] at h0; exact absurd rfl h0
  · rw [if_neg e]
    obtain ⟨hb, -, -, -, -, -, -, hcb⟩ := h.2 _ a
    have hcb := (hcb b).resolve_left e
    have := cnt_l (ct := ct) (i := bo (whF ct r p) - 1) (j := whF ct r p) (by omega) hcb
    exact ⟨e, rfl, by omega, hcb, by omega⟩
theorem kd2 (h : VwA r bo kd kn tr ct tk σ) : ∀ p, p < cnt ct r → kd (whF ct r p) < 2 := fun p hp => (h.2 _ (whF_ok hp).1).2.1.1
/-- the class's own count of those alike -/
theorem C_likes (h : VwA r bo kd kn tr ct tk σ) (d : Nat) : X_Records_likes d σ = some (some (.int (nI (alF (obF bo ct r) (cnt ct r) (owF kd (whF ct r) (cnt ct r))))), σ) := by
  have hr := h.1.1
  have st : ∀ i a, i < r → X_Records_likes_4 d a (nI i) σ = X_Records_likes_4 d (a + nI (ct i && (decide (bo i ≠ 0) && decide (kd i = kd (bo i - 1)))).toNat) (nI (i + 1)) σ := by
    intro i a hi
    obtain ⟨hb, hkd, -, -, ⟨h18, -⟩, -⟩ := h.2 i hi
    rw [X_Records_likes_4_e, h.1.2.1, xm_br_f (nI_ge (by omega) (by omega)), nI_1]
    simp only [xm_ix_n (show i < 24 by omega) (show 24 < 2 ^ 31 by omega), h18, hb.2.1, hkd.2.1]
    cases hc : ct i with
    | false => rw [xm_br_t (by decide)]; rfl
    | true =>
      rw [xm_br_f (by decide)]
      by_cases q : bo i = 0
      · rw [xm_br_t ((oI_m1 (by omega)).mpr q), decide_eq_false (fun e => e q)]; rfl
      · obtain ⟨-, hkb, -⟩ := h.2 (bo i - 1) (by omega)
        rw [xm_br_f (fun e => q ((oI_m1 (by omega)).mp e)), oI_s q, xm_ix_n (show bo i - 1 < 24 by omega) (by omega), hkb.2.1, decide_eq_true q]
        by_cases q2 : kd i = kd (bo i - 1)
        · rw [xm_br_t (by rw [q2]), decide_eq_true q2]; rfl
        · rw [xm_br_f (fun e => q2 ((nI_eq (by omega) (by omega)).mp e)), decide_eq_false q2]; rfl
  rw [X_Records_likes_e, show X_Records_likes_4 d 0 0 σ = _ from lpI (X := fun a i => X_Records_likes_4 d a (nI i) σ) st 0 r (Nat.le_refl _), X_Records_likes_4_e, h.1.2.1, xm_br_t (nI_le (by omega) (by omega))]
  have e : sm (fun i => (ct i && (decide (bo i ≠ 0) && decide (kd i = kd (bo i - 1)))).toNat) r = alF (obF bo ct r) (cnt ct r) (owF kd (whF ct r) (cnt ct r)) := by
    show cnt (fun i => ct i && (decide (bo i ≠ 0) && decide (kd i = kd (bo i - 1)))) r = _
    rw [cnt_wh (fun i => decide (bo i ≠ 0) && decide (kd i = kd (bo i - 1))) r r (Nat.le_refl _)]
    refine cnt_c (fun p hp => ?_)
    show (decide (bo (whF ct r p) ≠ 0) && decide (kd (whF ct r p) = kd (bo (whF ct r p) - 1))) = (decide (obF bo ct r p ≠ 0) && _)
    by_cases q : bo (whF ct r p) = 0
    · have : obF bo ct r p = 0 := if_pos q
      rw [this, q]; rfl
    · have q2 : obF bo ct r p ≠ 0 := by unfold obF; rw [if_neg q]; omega
      obtain ⟨-, a2, a3, a4, a5⟩ := ob_lt h hp q2
      rw [decide_eq_true q, decide_eq_true q2, a2, Nat.add_sub_cancel, owF_bit (kd2 h) p hp, owF_bit (kd2 h) _ (by omega), whF_pos a5 a4]
      have k1 := (h.2 _ (whF_ok hp).1).2.1.1
      have k2 := (h.2 _ a5).2.1.1
      rcases two k1 with e | e <;> rcases two k2 with e' | e' <;> rw [e, e'] <;> rfl
  rw [e]
  simp
/-- behind Deals.gather -/
def GaP (r : Nat) (bo : Nat → Nat) (ct : Nat → Bool) (σ τ : Sg) : Prop := (∀ c, c ∉ [21, 22, 23] → τ.1 c = σ.1 c) ∧ τ.2 = σ.2 ∧ τ.1 21 3 = nI (cnt ct r) ∧ ∀ p, p < cnt ct r → τ.1 23 p = oI (obF bo ct r p)
theorem GaP.es {τ : Sg} (h : GaP r bo ct σ τ) : Es σ τ :=
  ⟨fun c hc => h.1 c (by revert c; decide), fun j _ => by rw [h.1 39 (by decide)], by rw [h.2.1], by rw [h.2.1]⟩
theorem C_gat (h : VwA r bo kd kn tr ct tk σ) (hm : cnt ct r ≤ 14) (d : Nat) : ∃ τ, X_Deals_gather d σ = some (some (.int (nI (owF kd (whF ct r) (cnt ct r)))), τ) ∧ GaP r bo ct σ τ := by
  have hr := h.1.1
  have loop : ∀ (k i : Nat) (τ : Sg), i + k = r → (∀ c, c ∉ [21, 22, 23] → τ.1 c = σ.1 c) → τ.2 = σ.2 → τ.1 21 3 = nI (cnt ct i) → (∀ j, j < i → ct j = true → τ.1 22 j = nI (cnt ct j)) → (∀ p, p < cnt ct i → τ.1 23 p = oI (obF bo ct r p)) → ∃ υ, X_Deals_gather_9 d (nI (owF kd (whF ct r) (cnt ct i))) (nI i) τ = some (some (.int (nI (owF kd (whF ct r) (cnt ct r)))), υ) ∧ GaP r bo ct σ υ := by
    intro k
    induction k with
    | zero =>
      intro i τ hi a1 a2 a3 a4 a5
      have : i = r := by omega
      subst this
      refine ⟨τ, ?_, a1, a2, a3, a5⟩
      rw [X_Deals_gather_9_e, a1 9 (by decide), h.1.2.1, xm_br_t (nI_le (by omega) (by omega))]
    | succ k ih =>
      intro i τ hi a1 a2 a3 a4 a5
      obtain ⟨hb, hkd, -, -, ⟨h18, -⟩, -, -, hcb⟩ := h.2 i (by omega)
      have hle := cnt_m ct (i := i) (j := r) (by omega)
      have e9 : τ.1 9 9 = nI r := by rw [a1 9 (by decide)]; exact h.1.2.1
      have e18 : τ.1 18 i = nI (ct i).toNat := by rw [a1 18 (by decide)]; exact h18
      have e10 : τ.1 10 i = oI (bo i) := by rw [a1 10 (by decide)]; exact hb.2.1
      have e11 : τ.1 11 i = nI (kd i) := by rw [a1 11 (by decide)]; exact hkd.2.1
      rw [X_Deals_gather_9_e, e9, xm_br_f (nI_ge (by omega) (by omega)), a3]
      by_cases hf : cnt ct i = 14
      · -- all that count are there
        have e : cnt ct r = cnt ct i := by omega
        refine ⟨τ, ?_, a1, a2, by rw [e]; exact a3, by rw [e]; exact a5⟩
        rw [xm_br_t (show (14 : Int32) ≤ nI (cnt ct i) from nI_le (a := 14) (by omega) (by omega)), e]
      rw [xm_br_f (show ¬ (14 : Int32) ≤ nI (cnt ct i) from nI_ge (b := 14) (by omega) (by omega))]
      simp only [xm_ix_n (show i < 24 by omega) (show 24 < 2 ^ 31 by omega), xm_ix_n (show cnt ct i < 14 by omega) (show 14 < 2 ^ 31 by omega), e18, e10, e11, nI_1]
      cases hc : ct i with
      | false =>
        rw [xm_br_t (by decide)]
        have := ih (i + 1) τ (by omega) a1 a2 (by rw [cnt_s, hc]; exact a3) (fun j hj cj => by
          by_cases e : j = i
          · rw [e, hc] at cj; cases cj
          · exact a4 j (by omega) cj) (fun p hp => a5 p (by rw [cnt_s, hc] at hp; exact hp))
        rw [show cnt ct (i + 1) = cnt ct i by rw [cnt_s, hc]; rfl] at this
        exact this
      | true =>
        have hlt := cnt_l (ct := ct) (i := i) (j := r) (by omega) hc
        have hw : whF ct r (cnt ct i) = i := whF_pos (by omega) hc
        rw [xm_br_f (by decide)]
        have es : cnt ct (i + 1) = cnt ct i + 1 := by rw [cnt_s, hc]; rfl
        have eow : (nI (owF kd (whF ct r) (cnt ct i)) ||| (nI (kd i) <<< (nI (cnt ct i) &&& 31))) = nI (owF kd (whF ct r) (cnt ct i + 1)) := by
          have := owF_st kd (whF ct r) (p := cnt ct i) (by omega) (fun q hq => kd2 h q (by omega))
          rw [hw] at this
          exact this
        rw [eow]
        -- what comes to the bringer's place
        have fin : ∀ v : Int32, v = oI (obF bo ct r (cnt ct i)) → ∃ υ, X_Deals_gather_9 d (nI (owF kd (whF ct r) (cnt ct i + 1))) (nI (i + 1)) (xm_sI (xm_sI (xm_sI τ 22 i (nI (cnt ct i))) 23 (cnt ct i) v) 21 3 (nI (cnt ct i + 1))) = some (some (.int (nI (owF kd (whF ct r) (cnt ct r)))), υ) ∧ GaP r bo ct σ υ := by
          intro v hv
          have := ih (i + 1) (xm_sI (xm_sI (xm_sI τ 22 i (nI (cnt ct i))) 23 (cnt ct i) v) 21 3 (nI (cnt ct i + 1))) (by omega) (fun c hc => ?_) a2 ?_ (fun j hj cj => ?_) (fun p hp => ?_)
          · rw [es] at this
            exact this
          · have hc' : ∀ k, k ∈ [21, 22, 23] → c ≠ k := fun k hk e => hc (e ▸ hk)
            rw [sI_cell _ _ _ (hc' 21 (by decide)), sI_cell _ _ _ (hc' 23 (by decide)), sI_cell _ _ _ (hc' 22 (by decide))]
            exact a1 c hc
          · rw [sI_same, es]
          · rw [sI_cell _ _ _ (by decide), sI_cell _ _ _ (by decide), sI_at]
            by_cases e : j = i
            · rw [if_pos e, e]
            · rw [if_neg e]; exact a4 j (by omega) cj
          · rw [sI_cell _ _ _ (by decide), sI_at]
            by_cases e : p = cnt ct i
            · rw [if_pos e, hv, e]
            · rw [if_neg e, sI_cell _ _ _ (by decide)]
              exact a5 p (by rw [es] at hp; omega)
        by_cases q : bo i = 0
        · rw [xm_br_t ((oI_m1 (by omega)).mpr q)]
          exact fin (-1) (by unfold obF; rw [hw, if_pos q]; rfl)
        · have cb := (hcb hc).resolve_left q
          rw [xm_br_f (fun e => q ((oI_m1 (by omega)).mp e)), oI_s q, xm_ix_n (show bo i - 1 < 24 by omega) (by omega), sI_row _ _ (show bo i - 1 ≠ i by omega), a4 (bo i - 1) (by omega) cb]
          exact fin _ (by unfold obF; rw [hw, if_neg q]; rfl)
  obtain ⟨υ, u1, u2⟩ := loop r 0 (xm_sI σ 21 3 0) (by omega) (fun c hc => sI_cell _ _ _ (by rintro rfl; exact hc (by decide))) rfl (sI_same _ _ _ _) (fun j hj => by omega) (fun p hp => absurd hp (Nat.not_lt_zero p))
  refine ⟨υ, ?_, u2⟩
  rw [X_Deals_gather_e]
  exact u1
theorem C_alIn {τ : Sg} (h : VwA r bo kd kn tr ct tk σ) (hg : GaP r bo ct σ τ) (hm : cnt ct r ≤ 14) (d : Nat) {x : Nat} (hx : x < 2 ^ 31) : X_Deals_alikeIn d (nI x) τ = some (some (.int (nI (alF (obF bo ct r) (cnt ct r) x))), τ) := by
  have st : ∀ p a, p < cnt ct r → X_Deals_alikeIn_4 d (nI x) a (nI p) τ = X_Deals_alikeIn_4 d (nI x) (a + nI (decide (obF bo ct r p ≠ 0) && (x.testBit p == x.testBit (obF bo ct r p - 1))).toNat) (nI (p + 1)) τ := by
    intro p a hp
    rw [X_Deals_alikeIn_4_e, hg.2.2.1, xm_br_f (nI_ge (by omega) (by omega)), xm_ix_n (by omega) (by omega), hg.2.2.2 p hp, nI_1]
    by_cases q : obF bo ct r p = 0
    · rw [q, xm_br_t (show oI 0 = -1 from rfl)]; rfl
    · obtain ⟨-, a2, a3, -⟩ := ob_lt h hp q
      rw [xm_br_f (fun e => q ((oI_m1 (by omega)).mp e)), oI_s q, decide_eq_true q]
      by_cases q2 : x.testBit p = x.testBit (obF bo ct r p - 1)
      · rw [xm_br_t ((bt_eq hx (by omega) (by omega)).mpr q2), q2, beq_self_eq_true]; rfl
      · rw [xm_br_f (fun e => q2 ((bt_eq hx (by omega) (by omega)).mp e)), beq_false_of_ne q2]; rfl
  rw [X_Deals_alikeIn_e, show X_Deals_alikeIn_4 d (nI x) 0 0 τ = _ from lpI (X := fun a i => X_Deals_alikeIn_4 d (nI x) a (nI i) τ) st 0 _ (Nat.le_refl _), X_Deals_alikeIn_4_e, hg.2.2.1, xm_br_t (nI_le (by omega) (by omega))]
  simp [alF, cnt]
/-- the reference's -/
theorem WhP.w {τ : Sg} (hw : WhP r ct σ τ) {p : Nat} (hp : p < cnt ct r) : τ.1 65 p = nI (whF ct r p) := by
  obtain ⟨a, b, c⟩ := whF_ok hp
  have := (hw.2.2.2.2.2 _ a b).1
  rw [c] at this
  exact this
theorem C_mlikes {τ : Sg} (h : VwA r bo kd kn tr ct tk σ) (hw : WhP r ct σ τ) (d : Nat) {x : Nat} (hx : x < 2 ^ 31) : X_Mod_likes d (nI x) τ = some (some (.int (nI (alF (obF bo ct r) (cnt ct r) x))), τ) := by
  have hr := h.1.1
  have hle := cnt_le ct r
  have st : ∀ p a, p < cnt ct r → X_Mod_likes_4 d (nI x) a (nI p) τ = X_Mod_likes_4 d (nI x) (a + nI (decide (obF bo ct r p ≠ 0) && (x.testBit p == x.testBit (obF bo ct r p - 1))).toNat) (nI (p + 1)) τ := by
    intro p a hp
    obtain ⟨a1, b1, c1⟩ := whF_ok hp
    have hb := (h.2 _ a1).1
    rw [X_Mod_likes_4_e, hw.2.2.2.2.1, xm_br_f (nI_ge (by omega) (by omega)), xm_ix_n (by omega) (by omega), hw.w hp, xm_ix_n (by omega) (by omega), hw.1 56 (by decide), hb.2.2, nI_1]
    by_cases q : obF bo ct r p = 0
    · have q0 : bo (whF ct r p) = 0 := by
        unfold obF at q
        by_cases e : bo (whF ct r p) = 0
        · exact e
        · rw [if_neg e] at q; omega
      rw [q, q0, xm_br_t (show oI 0 = -1 from rfl)]; rfl
    · obtain ⟨a0, a2, a3, a4, a5⟩ := ob_lt h hp q
      rw [xm_br_f (fun e => a0 ((oI_m1 (by omega)).mp e)), oI_s a0, xm_ix_n (show bo (whF ct r p) - 1 < 24 by omega) (by omega), (hw.2.2.2.2.2 _ a5 a4).2, decide_eq_true q, a2, Nat.add_sub_cancel]
      by_cases q2 : x.testBit p = x.testBit (cnt ct (bo (whF ct r p) - 1))
      · rw [xm_br_t ((bt_eq hx (by omega) (by omega)).mpr q2), q2, beq_self_eq_true]; rfl
      · rw [xm_br_f (fun e => q2 ((bt_eq hx (by omega) (by omega)).mp e)), beq_false_of_ne q2]; rfl
  rw [X_Mod_likes_e, show X_Mod_likes_4 d (nI x) 0 0 τ = _ from lpI (X := fun a i => X_Mod_likes_4 d (nI x) a (nI i) τ) st 0 _ (Nat.le_refl _), X_Mod_likes_4_e, hw.2.2.2.2.1, xm_br_t (nI_le (by omega) (by omega))]
  simp [alF, cnt]
theorem C_mkb {τ : Sg} (h : VwA r bo kd kn tr ct tk σ) (hw : WhP r ct σ τ) (d : Nat) : X_Mod_kindBits d τ = some (some (.int (nI (owF kd (whF ct r) (cnt ct r)))), τ) := by
  have hr := h.1.1
  have hle := cnt_le ct r
  have loop : ∀ (k p : Nat), p + k = cnt ct r → X_Mod_kindBits_4 d (nI (owF kd (whF ct r) p)) (nI p) τ = some (some (.int (nI (owF kd (whF ct r) (cnt ct r)))), τ) := by
    intro k
    induction k with
    | zero =>
      intro p hp
      rw [X_Mod_kindBits_4_e, hw.2.2.2.2.1, xm_br_t (nI_le (by omega) (by omega)), show p = cnt ct r by omega]
    | succ k ih =>
      intro p hp
      have hp' : p < cnt ct r := by omega
      obtain ⟨a1, b1, c1⟩ := whF_ok hp'
      rw [X_Mod_kindBits_4_e, hw.2.2.2.2.1, xm_br_f (nI_ge (by omega) (by omega)), xm_ix_n (by omega) (by omega), hw.w hp', xm_ix_n (by omega) (by omega), hw.1 57 (by decide), (h.2 _ a1).2.1.2.2, nI_1, owF_st kd (whF ct r) (by omega) (fun q hq => kd2 h q (by omega))]
      exact ih (p + 1) (by omega)
  rw [X_Mod_kindBits_e]
  exact loop (cnt ct r) 0 (by omega)
end AL
