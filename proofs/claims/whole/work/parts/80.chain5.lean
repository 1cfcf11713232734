/-! CHAINS: the reference takes one that stands -/
/-- what a set brings to a sum of the reference -/
noncomputable def phF (T : Nat → Nat) (n K e c j S : Nat) : Nat := if c = 50 then (S.testBit j).toNat else if c = 51 then (S.testBit (j / 9) && S.testBit (j % 9)).toNat else if c = 52 then (if pop 14 S = j then 1 else 0) else if c = 53 then (if pop 14 (S &&& K) = j then 1 else 0) else @ite Nat (nrP T n K e S) (Classical.propDecidable _) 1 0
theorem phF_1 (T : Nat → Nat) (n K e c j S : Nat) : phF T n K e c j S ≤ 1 := by
  unfold phF
  split
  · cases S.testBit j <;> decide
  · split
    · cases (S.testBit (j / 9) && S.testBit (j % 9)) <;> decide
    · split
      · split <;> omega
      · split
        · split <;> omega
        · split <;> omega
theorem phF_50 (T : Nat → Nat) (n K e j S : Nat) : phF T n K e 50 j S = (S.testBit j).toNat := if_pos rfl
theorem phF_51 (T : Nat → Nat) (n K e j S : Nat) : phF T n K e 51 j S = (S.testBit (j / 9) && S.testBit (j % 9)).toNat := by
  unfold phF
  rw [if_neg (by decide), if_pos rfl]
theorem phF_52 (T : Nat → Nat) (n K e j S : Nat) : phF T n K e 52 j S = if pop 14 S = j then 1 else 0 := by
  unfold phF
  rw [if_neg (show ¬ (52 : Nat) = 50 by decide), if_neg (show ¬ (52 : Nat) = 51 by decide), if_pos (show (52 : Nat) = 52 from rfl)]
theorem phF_53 (T : Nat → Nat) (n K e j S : Nat) : phF T n K e 53 j S = if pop 14 (S &&& K) = j then 1 else 0 := by
  unfold phF
  rw [if_neg (show ¬ (53 : Nat) = 50 by decide), if_neg (show ¬ (53 : Nat) = 51 by decide), if_neg (show ¬ (53 : Nat) = 52 by decide), if_pos (show (53 : Nat) = 53 from rfl)]
theorem phF_39 (T : Nat → Nat) (n K e j S : Nat) : phF T n K e 39 j S = @ite Nat (nrP T n K e S) (Classical.propDecidable _) 1 0 := by
  unfold phF
  rw [if_neg (show ¬ (39 : Nat) = 50 by decide), if_neg (show ¬ (39 : Nat) = 51 by decide), if_neg (show ¬ (39 : Nat) = 52 by decide), if_neg (show ¬ (39 : Nat) = 53 by decide)]
/-- the places of the sums -/
def dm (c j : Nat) : Prop := (c = 50 ∧ j < 9) ∨ (c = 51 ∧ j < 81) ∨ (c = 52 ∧ j < 8) ∨ (c = 53 ∧ j < 8) ∨ (c = 39 ∧ j = 22)
/-- the set of the first i of a row -/
def sF (pt : Nat → Nat) : Nat → Nat
  | 0 => 0
  | i + 1 => sF pt i ||| 2 ^ pt i
/-- a row of m persons, no one twice -/
def rwP (n m : Nat) (pt : Nat → Nat) : Prop := ∀ i, i < m → pt i < n ∧ (sF pt i).testBit (pt i) = false
theorem sF_lt {n : Nat} {pt : Nat → Nat} : ∀ {m : Nat}, rwP n m pt → sF pt m < 2 ^ n
  | 0, _ => Nat.two_pow_pos n
  | m + 1, h => Nat.or_lt_two_pow (sF_lt (fun i hi => h i (by omega))) (Nat.pow_lt_pow_right (by omega) (h m (by omega)).1)
theorem sF_pop {n : Nat} (hn : n ≤ 9) {pt : Nat → Nat} : ∀ {m : Nat}, rwP n m pt → pop 14 (sF pt m) = m
  | 0, _ => pop_0 14
  | m + 1, h => by
    have h1 := h m (by omega)
    show pop 14 (sF pt m ||| 2 ^ pt m) = m + 1
    rw [pop_ins (by omega) h1.2, sF_pop hn (fun i hi => h i (by omega))]
theorem or_bit (S p q : Nat) : (S ||| 2 ^ p).testBit q = (S.testBit q || decide (p = q)) := by rw [Nat.testBit_or, Nat.testBit_two_pow]
theorem wg_ins {T : Nat → Nat} {n S p : Nat} (hp : p < n) (hb : S.testBit p = false) : wg T n (S ||| 2 ^ p) = wg T n S + cby T p := by
  unfold wg
  refine sm_u1 (t := p) hp ?_ (fun q hq => ?_)
  · show (S ||| 2 ^ p) / 2 ^ p % 2 * cby T p = S / 2 ^ p % 2 * cby T p + cby T p
    rw [bt_n, bt_n, or_bit, hb, decide_eq_true rfl]
    show 1 * cby T p = 0 * cby T p + cby T p
    omega
  · show (S ||| 2 ^ p) / 2 ^ q % 2 * cby T q = S / 2 ^ q % 2 * cby T q
    rw [bt_n, bt_n, or_bit, decide_eq_false (Ne.symm hq), Bool.or_false]
theorem and_ins {S p K : Nat} (hK : K.testBit p = true) : (S ||| 2 ^ p) &&& K = (S &&& K) ||| 2 ^ p := by
  apply Nat.eq_of_testBit_eq
  intro i
  rw [Nat.testBit_and, or_bit, or_bit, Nat.testBit_and]
  by_cases e : p = i
  · subst e; rw [hK, decide_eq_true rfl]; simp
  · rw [decide_eq_false e]; simp
theorem and_out {S p K : Nat} (hK : K.testBit p = false) : (S ||| 2 ^ p) &&& K = S &&& K := by
  apply Nat.eq_of_testBit_eq
  intro i
  rw [Nat.testBit_and, or_bit, Nat.testBit_and]
  by_cases e : p = i
  · subst e; rw [hK]; simp
  · rw [decide_eq_false e]; simp
section TK
variable {T : Nat → Nat} {n K L : Nat} {σ : Sg}
theorem C_cby (h : NtA n T K σ) (d : Nat) {p : Nat} (hp : p < 9) : X_Mod_countsBy (d + 2) (nI p) σ = some (some (.long (lN (cby T p))), σ) := by
  have h8 := h.pop hp
  rw [X_Mod_countsBy_e, C_mdegree h d hp, xm_cI_s]
  unfold cby
  by_cases e : pop 14 (T p) = 0
  · rw [e, xm_br_t nI_0]; rfl
  · rw [xm_br_f (nI_ne0 (by omega) (by omega)), C_mdegree h d hp, xm_cI_s, nI_l (by omega), xm_dvL_n (l_ne0 (by omega) e), show (840 : Int64) = lN 840 from rfl, pk_lDiv (by omega) (by omega) (by omega), Nat.max_eq_right (by omega)]
theorem C_mko (h : NtA n T K σ) (d : Nat) : X_Mod_kindOnes d σ = some (some (.int (nI (pop 14 K))), σ) := by
  have hn := h.1
  have st : ∀ p a, p < n → X_Mod_kindOnes_4 d a (nI p) σ = X_Mod_kindOnes_4 d (a + nI (K.testBit p).toNat) (nI (p + 1)) σ := by
    intro p a hp
    rw [X_Mod_kindOnes_4_e, h.2.2.1, xm_br_f (nI_ge hp (by omega)), xm_ix_n (show p < 9 by omega) (by omega), h.2.2.2.2.2.2 p (by omega), bt_n, nI_1]
  rw [X_Mod_kindOnes_e, show X_Mod_kindOnes_4 d 0 0 σ = _ from lpI (X := fun a i => X_Mod_kindOnes_4 d a (nI i) σ) st 0 n (Nat.le_refl _), X_Mod_kindOnes_4_e, h.2.2.1, xm_br_t (nI_le (Nat.le_refl _) (by omega))]
  have e : sm (fun p => (K.testBit p).toNat) n = pop 14 K := pop_bits (by omega) h.2.2.2.2.2.1
  rw [e]
  simp
/-- the inner loop: those found together with p -/
theorem C_t90 (d : Nat) {m p : Nat} {pt : Nat → Nat} {w : Int64} (hn : n ≤ 9) (hm : m ≤ 7) (hp : p < n) (hr : rwP n m pt) (x4 : Int32) (x5 x7 : Int64) (x9 : Int32) : ∀ (k j : Nat) (τ : Sg), j + k = m → (∀ i, i < m → τ.1 46 i = nI (pt i)) → ∃ υ, X_Mod_takes_90 d (nI m) w x4 x5 x7 x9 (nI p) (nI j) τ = X_Mod_takes_12 d (nI m) w x4 x5 x7 (x9 + 1) υ ∧ υ.1 = τ.1 ∧ (∀ c, c ≠ 51 → υ.2 c = τ.2 c) ∧ ∀ q, q < 81 → υ.2 51 q = if q / 9 = p ∧ (sF pt m).testBit (q % 9) = true ∧ (sF pt j).testBit (q % 9) = false then τ.2 51 q + w else τ.2 51 q
  | 0, j, τ, hj, h46 => by
    have : j = m := by omega
    subst this
    refine ⟨τ, ?_, rfl, fun _ _ => rfl, fun q _ => by rw [if_neg (by rintro ⟨-, a, b⟩; rw [a] at b; cases b)]⟩
    rw [X_Mod_takes_90_e, xm_br_t (nI_le (by omega) (by omega))]
  | k + 1, j, τ, hj, h46 => by
    have hj' := hr j (by omega)
    have hidx : 9 * p + pt j < 81 := by omega
    obtain ⟨υ, u1, u2, u3, u4⟩ := C_t90 d hn hm hp hr x4 x5 x7 x9 k (j + 1) (xm_sL τ 51 (9 * p + pt j) (τ.2 51 (9 * p + pt j) + w)) (by omega) h46
    have e9 : 9 * nI p + nI (pt j) = nI (9 * p + pt j) := by rw [← nI_add, ← pk_mul]; rfl
    -- once in the row, then for good
    have mono : ∀ z q, j ≤ z → (sF pt j).testBit q = true → (sF pt z).testBit q = true := by
      intro z
      induction z with
      | zero => intro q hz hb; rw [show j = 0 by omega] at hb; exact hb
      | succ z ih =>
        intro q hz hb
        by_cases e : j = z + 1
        · rw [← e]; exact hb
        · show (sF pt z ||| 2 ^ pt z).testBit q = true
          rw [or_bit, ih q (by omega) hb, Bool.true_or]
    have mono1 : ∀ z q, j + 1 ≤ z → (sF pt (j + 1)).testBit q = true → (sF pt z).testBit q = true := by
      intro z
      induction z with
      | zero => intro q hz hb; omega
      | succ z ih =>
        intro q hz hb
        by_cases e : j + 1 = z + 1
        · rw [← e]; exact hb
        · show (sF pt z ||| 2 ^ pt z).testBit q = true
          rw [or_bit, ih q (by omega) hb, Bool.true_or]
    refine ⟨υ, ?_, u2, fun c hc => by rw [u3 c hc, sL_cell _ _ _ hc], fun q hq => ?_⟩
    · rw [X_Mod_takes_90_e, xm_br_f (nI_ge (by omega) (by omega)), xm_ix_n (show j < 7 by omega) (by omega), h46 j (by omega), e9, xm_ix_n hidx (by omega), xm_ix_n hidx (by omega), nI_1]
      exact u1
    · rw [u4 q hq, sL_at]
      have eb : (sF pt (j + 1)).testBit (q % 9) = ((sF pt j).testBit (q % 9) || decide (pt j = q % 9)) := or_bit _ _ _
      by_cases e : q = 9 * p + pt j
      · have e1 : q / 9 = p := by omega
        have e2 : q % 9 = pt j := by omega
        have hm1 : (sF pt m).testBit (pt j) = true := mono1 m _ (by omega) (by
          show (sF pt j ||| 2 ^ pt j).testBit (pt j) = true
          rw [or_bit, decide_eq_true rfl, Bool.or_true])
        rw [eb, e2, decide_eq_true rfl, Bool.or_true, if_neg (by rintro ⟨-, -, z⟩; cases z), if_pos e, ← e, if_pos ⟨e1, hm1, hj'.2⟩]
      · rw [if_neg e, eb]
        by_cases e1 : q / 9 = p
        · rw [decide_eq_false (show ¬ pt j = q % 9 by omega), Bool.or_false]
        · rw [if_neg (fun z => e1 z.1), if_neg (fun z => e1 z.1)]
theorem C_takes (h : NtA n T K σ) (d : Nat) {m e : Nat} {pt : Nat → Nat} {w : Nat} (hm : m ≤ 7) (he : e ≤ 100) (h23 : σ.1 39 23 = nI e) (hr : rwP n m pt) (h46 : ∀ i, i < m → σ.1 46 i = nI (pt i)) : ∃ τ, X_Mod_takes (d + 3) (nI m) (lN w) σ = some (none, τ) ∧ τ.1 = σ.1 ∧ (∀ c, c ∉ [39, 50, 51, 52, 53] → τ.2 c = σ.2 c) ∧ (∀ j, j ≠ 22 → τ.2 39 j = σ.2 39 j) ∧ ∀ c j, dm c j → τ.2 c j = σ.2 c j + lN (w * phF T n K e c j (sF pt m)) := by
  have hn := h.1
  have hK := pow9 hn.2 h.2.2.2.2.2.1
  have hS := sF_lt hr
  have hS9 := pow9 hn.2 hS
  -- the loop over the row
  have loop : ∀ (k i : Nat) (τ : Sg), i + k = m → τ.1 = σ.1 → (∀ c, c ≠ 50 → c ≠ 51 → τ.2 c = σ.2 c) → (∀ j, j < 9 → τ.2 50 j = σ.2 50 j + lN (w * ((sF pt i).testBit j).toNat)) → (∀ j, j < 81 → τ.2 51 j = σ.2 51 j + lN (w * ((sF pt i).testBit (j / 9) && (sF pt m).testBit (j % 9)).toNat)) → ∃ υ, X_Mod_takes_12 (d + 3) (nI m) (lN w) (nI (pop 14 (sF pt i &&& K))) (lN (wg T n (sF pt i))) (lN (wg T n (sF pt i &&& K))) (nI i) τ = X_Mod_takes_12 (d + 3) (nI m) (lN w) (nI (pop 14 (sF pt m &&& K))) (lN (wg T n (sF pt m))) (lN (wg T n (sF pt m &&& K))) (nI m) υ ∧ υ.1 = σ.1 ∧ (∀ c, c ≠ 50 → c ≠ 51 → υ.2 c = σ.2 c) ∧ (∀ j, j < 9 → υ.2 50 j = σ.2 50 j + lN (w * ((sF pt m).testBit j).toNat)) ∧ (∀ j, j < 81 → υ.2 51 j = σ.2 51 j + lN (w * ((sF pt m).testBit (j / 9) && (sF pt m).testBit (j % 9)).toNat)) := by
    intro k
    induction k with
    | zero =>
      intro i τ hi a1 a2 a3 a4
      have : i = m := by omega
      subst this
      exact ⟨τ, rfl, a1, a2, a3, a4⟩
    | succ k ih =>
      intro i τ hi a1 a2 a3 a4
      have hN := NtA_1 h a1
      obtain ⟨p1, p2⟩ := hr i (by omega)
      have hp9 : pt i < 9 := by omega
      have e46 : τ.1 46 i = nI (pt i) := by rw [a1]; exact h46 i (by omega)
      have e45 : τ.1 45 (pt i) = nI (K / 2 ^ pt i % 2) := hN.2.2.2.2.2.2 _ hp9
      have ew : wg T n (sF pt (i + 1)) = wg T n (sF pt i) + cby T (pt i) := wg_ins p1 p2
      -- behind this one
      have nx : ∀ (x7 : Nat), x7 = wg T n (sF pt (i + 1) &&& K) → ∃ υ, X_Mod_takes_90 (d + 3) (nI m) (lN w) (nI (pop 14 (sF pt (i + 1) &&& K))) (lN (wg T n (sF pt (i + 1)))) (lN x7) (nI i) (nI (pt i)) 0 (xm_sL τ 50 (pt i) (τ.2 50 (pt i) + lN w)) = X_Mod_takes_12 (d + 3) (nI m) (lN w) (nI (pop 14 (sF pt m &&& K))) (lN (wg T n (sF pt m))) (lN (wg T n (sF pt m &&& K))) (nI m) υ ∧ υ.1 = σ.1 ∧ (∀ c, c ≠ 50 → c ≠ 51 → υ.2 c = σ.2 c) ∧ (∀ j, j < 9 → υ.2 50 j = σ.2 50 j + lN (w * ((sF pt m).testBit j).toNat)) ∧ (∀ j, j < 81 → υ.2 51 j = σ.2 51 j + lN (w * ((sF pt m).testBit (j / 9) && (sF pt m).testBit (j % 9)).toNat)) := by
        intro x7 hx7
        obtain ⟨υ, u1, u2, u3, u4⟩ := C_t90 (d + 3) (w := lN w) hn.2 hm p1 hr (nI (pop 14 (sF pt (i + 1) &&& K))) (lN (wg T n (sF pt (i + 1)))) (lN x7) (nI i) m 0 (xm_sL τ 50 (pt i) (τ.2 50 (pt i) + lN w)) (by omega) (fun i hi => by
          show τ.1 46 i = _
          rw [a1]; exact h46 i hi)
        obtain ⟨ρ, r1, r2⟩ := ih (i + 1) υ (by omega) (u2.trans a1) (fun c h1 h2 => by rw [u3 c h2, sL_cell _ _ _ h1, a2 c h1 h2]) (fun j hj => by
          rw [u3 50 (by decide), sL_at, show (sF pt (i + 1)).testBit j = ((sF pt i).testBit j || decide (pt i = j)) from or_bit _ _ _]
          by_cases ej : j = pt i
          · subst ej
            rw [if_pos rfl, a3 _ hj, p2, decide_eq_true rfl]
            show σ.2 50 (pt i) + lN (w * 0) + lN w = σ.2 50 (pt i) + lN (w * 1)
            rw [Nat.mul_zero, Nat.mul_one, lN_0]; simp
          · rw [if_neg ej, a3 j hj, decide_eq_false (Ne.symm ej), Bool.or_false]) (fun j hj => by
          rw [u4 j hj, sL_cell _ _ _ (by decide), a4 j hj, show (sF pt (i + 1)).testBit (j / 9) = ((sF pt i).testBit (j / 9) || decide (pt i = j / 9)) from or_bit _ _ _]
          by_cases ej : j / 9 = pt i
          · rw [ej, p2, decide_eq_true rfl]
            cases hb : (sF pt m).testBit (j % 9) with
            | false =>
              rw [if_neg (by rintro ⟨-, z, -⟩; cases z), Bool.and_false, Bool.and_false]
            | true =>
              rw [if_pos ⟨rfl, rfl, by show Nat.testBit 0 _ = false; simp⟩]
              show σ.2 51 j + lN (w * 0) + lN w = σ.2 51 j + lN (w * 1)
              rw [Nat.mul_zero, Nat.mul_one, lN_0]; simp
          · rw [if_neg (fun z => ej z.1), decide_eq_false (Ne.symm ej), Bool.or_false])
        refine ⟨ρ, ?_, r2⟩
        rw [show X_Mod_takes_90 (d + 3) (nI m) (lN w) (nI (pop 14 (sF pt (i + 1) &&& K))) (lN (wg T n (sF pt (i + 1)))) (lN x7) (nI i) (nI (pt i)) 0 (xm_sL τ 50 (pt i) (τ.2 50 (pt i) + lN w)) = _ from u1, hx7, nI_1]
        exact r1
      rw [X_Mod_takes_12_e, xm_br_f (nI_ge (by omega) (by omega)), xm_ix_n (show i < 7 by omega) (by omega), e46]
      simp only [xm_ix_n hp9 (show 9 < 2 ^ 31 by omega), C_cby hN d hp9, xm_cL_s, e45, nI_add, lN_add]
      rw [← ew, bt_n]
      cases hb : K.testBit (pt i) with
      | false =>
        have ek : sF pt (i + 1) &&& K = sF pt i &&& K := and_out hb
        rw [xm_br_f (by decide)]
        have := nx (wg T n (sF pt i &&& K)) (by rw [ek])
        rw [show pop 14 (sF pt (i + 1) &&& K) = pop 14 (sF pt i &&& K) + false.toNat by rw [ek]; rfl] at this
        have z : lN (wg T n (sF pt i &&& K)) + 0 = lN (wg T n (sF pt i &&& K)) := by simp
        rw [z]
        exact this
      | true =>
        have ek : sF pt (i + 1) &&& K = (sF pt i &&& K) ||| 2 ^ pt i := and_ins hb
        have pb : (sF pt i &&& K).testBit (pt i) = false := by rw [Nat.testBit_and, p2]; rfl
        rw [xm_br_t (by decide)]
        have := nx (wg T n (sF pt i &&& K) + cby T (pt i)) (by rw [ek, wg_ins p1 pb])
        rw [show pop 14 (sF pt (i + 1) &&& K) = pop 14 (sF pt i &&& K) + true.toNat by rw [ek, pop_ins (by omega) pb]; rfl] at this
        exact this
  obtain ⟨υ, u1, u2, u3, u4, u5⟩ := loop m 0 σ (by omega) rfl (fun _ _ _ => rfl) (fun j _ => by
    show _ = σ.2 50 j + lN (w * (Nat.testBit 0 j).toNat)
    rw [Nat.zero_testBit]
    show _ = σ.2 50 j + lN (w * 0)
    rw [Nat.mul_zero, lN_0]; simp) (fun j _ => by
    show _ = σ.2 51 j + lN (w * (Nat.testBit 0 (j / 9) && _).toNat)
    rw [Nat.zero_testBit]
    show _ = σ.2 51 j + lN (w * 0)
    rw [Nat.mul_zero, lN_0]; simp)
  have z0 : sF pt 0 &&& K = 0 := Nat.zero_and K
  have z1 : wg T n 0 = 0 := sm_0 (fun p _ => by rw [Nat.zero_div]; simp)
  have start : X_Mod_takes (d + 3) (nI m) (lN w) σ = X_Mod_takes_12 (d + 3) (nI m) (lN w) (nI (pop 14 (sF pt m &&& K))) (lN (wg T n (sF pt m))) (lN (wg T n (sF pt m &&& K))) (nI m) υ := by
    rw [X_Mod_takes_e, ← u1, z0, show sF pt 0 = 0 from rfl, z1]
    rfl
  have hN := NtA_1 h u2
  have hpm := sF_pop hn.2 hr
  have hle : sF pt m &&& K ≤ sF pt m := Nat.and_le_left
  have hpk : pop 14 (sF pt m &&& K) ≤ 7 := by
    have h1 : pop 14 (sF pt m &&& K) ≤ pop 14 (sF pt m) := by
      rw [pop_cnt, pop_cnt]
      refine sm_mn (fun i _ => ?_)
      show ((sF pt m &&& K).testBit i).toNat ≤ ((sF pt m).testBit i).toNat
      rw [Nat.testBit_and]
      cases (sF pt m).testBit i <;> cases K.testBit i <;> decide
    omega
  have w1 := wg_le (T := T) (n := n) (S := sF pt m &&& K) hn.2
  have w2 := wg_le (T := T) (n := n) (S := sF pt m) hn.2
  have hp := pop_9 hK
  have m1 : wg T n (sF pt m &&& K) * n ≤ 9 * 840 * 9 := Nat.mul_le_mul w1 hn.2
  have m2 : pop 14 K * wg T n (sF pt m) ≤ 9 * (9 * 840) := Nat.mul_le_mul hp w2
  have m3 : e * wg T n (sF pt m) * n ≤ 100 * (9 * 840) * 9 := Nat.mul_le_mul (Nat.mul_le_mul he w2) hn.2
  -- the end: size, kinds, near
  have fin : ∀ v : Nat, v = w * phF T n K e 39 22 (sF pt m) → ∃ τ, (some (none, xm_sL (xm_sL (xm_sL υ 52 m (υ.2 52 m + lN w)) 53 (pop 14 (sF pt m &&& K)) (υ.2 53 (pop 14 (sF pt m &&& K)) + lN w)) 39 22 (υ.2 39 22 + lN v)) : Oz) = some (none, τ) ∧ τ.1 = σ.1 ∧ (∀ c, c ∉ [39, 50, 51, 52, 53] → τ.2 c = σ.2 c) ∧ (∀ j, j ≠ 22 → τ.2 39 j = σ.2 39 j) ∧ ∀ c j, dm c j → τ.2 c j = σ.2 c j + lN (w * phF T n K e c j (sF pt m)) := by
    intro v hv
    refine ⟨_, rfl, u2, fun c hc => ?_, fun j hj => ?_, fun c j hd => ?_⟩
    · have hc' : ∀ k, k ∈ [39, 50, 51, 52, 53] → c ≠ k := fun k hk e => hc (e ▸ hk)
      rw [sL_cell _ _ _ (hc' 39 (by decide)), sL_cell _ _ _ (hc' 53 (by decide)), sL_cell _ _ _ (hc' 52 (by decide)), u3 c (hc' 50 (by decide)) (hc' 51 (by decide))]
    · rw [sL_row _ _ hj, sL_cell _ _ _ (by decide), sL_cell _ _ _ (by decide), u3 39 (by decide) (by decide)]
    · rcases hd with ⟨rfl, hj⟩ | ⟨rfl, hj⟩ | ⟨rfl, hj⟩ | ⟨rfl, hj⟩ | ⟨rfl, rfl⟩
      · rw [sL_cell _ _ _ (by decide), sL_cell _ _ _ (by decide), sL_cell _ _ _ (by decide), u4 j hj, phF_50]
      · rw [sL_cell _ _ _ (by decide), sL_cell _ _ _ (by decide), sL_cell _ _ _ (by decide), u5 j hj, phF_51]
      · rw [sL_cell _ _ _ (by decide), sL_cell _ _ _ (by decide), sL_at, u3 52 (by decide) (by decide)]
        rw [phF_52, hpm]
        by_cases ej : j = m
        · rw [if_pos ej, if_pos ej.symm, ej, Nat.mul_one]
        · rw [if_neg ej, if_neg (Ne.symm ej), Nat.mul_zero, lN_0]; simp
      · rw [sL_cell _ _ _ (by decide), sL_at, sL_cell _ _ _ (by decide), u3 53 (by decide) (by decide)]
        rw [phF_53]
        by_cases ej : j = pop 14 (sF pt m &&& K)
        · rw [if_pos ej, if_pos ej.symm, ej, Nat.mul_one]
        · rw [if_neg ej, if_neg (Ne.symm ej), Nat.mul_zero, lN_0]; simp
      · rw [sL_same, hv, u3 39 (by decide) (by decide)]
  have e23 : υ.1 39 23 = nI e := by rw [u2]; exact h23
  rw [start, X_Mod_takes_12_e, xm_br_t (nI_le (Nat.le_refl _) (by omega)), xm_ix_n (show m < 8 by omega) (by omega), xm_ix_n (show m < 8 by omega) (by omega), xm_ix_n (show pop 14 (sF pt m &&& K) < 8 by omega) (by omega), xm_ix_n (show pop 14 (sF pt m &&& K) < 8 by omega) (by omega), C_mko (NtA_1 hN (τ := xm_sL (xm_sL υ 52 m (υ.2 52 m + lN w)) 53 (pop 14 (sF pt m &&& K)) (υ.2 53 (pop 14 (sF pt m &&& K)) + lN w)) rfl), xm_cI_s, hN.2.2.1]
  have r39 : (xm_sL (xm_sL υ 52 m (υ.2 52 m + lN w)) 53 (pop 14 (sF pt m &&& K)) (υ.2 53 (pop 14 (sF pt m &&& K)) + lN w)).2 39 22 = υ.2 39 22 := by rw [sL_cell _ _ _ (by decide), sL_cell _ _ _ (by decide)]
  have r23 : (xm_sL (xm_sL υ 52 m (υ.2 52 m + lN w)) 53 (pop 14 (sF pt m &&& K)) (υ.2 53 (pop 14 (sF pt m &&& K)) + lN w)).1 39 23 = nI e := e23
  have r5 : (xm_sL (xm_sL υ 52 m (υ.2 52 m + lN w)) 53 (pop 14 (sF pt m &&& K)) (υ.2 53 (pop 14 (sF pt m &&& K)) + lN w)).1 39 5 = nI n := hN.2.2.1
  rw [r39, r23, r5, nI_l (by omega), nI_l (by omega), nI_l (by omega), lN_mul, lN_mul, lN_mul, lN_mul, show (100 : Int64) = lN 100 from rfl]
  have e22 : phF T n K e 39 22 (sF pt m) = @ite Nat (nrP T n K e (sF pt m)) (Classical.propDecidable _) 1 0 := phF_39 T n K e 22 _
  have nr : ∀ a : Nat, a = adf (wg T n (sF pt m &&& K) * n) (pop 14 K * wg T n (sF pt m)) → (0 < lg_cmp (lN (100 * a)) (lN (e * wg T n (sF pt m) * n)) ↔ ¬ nrP T n K e (sF pt m)) := by
    intro a ha
    have hal : a ≤ 9 * 840 * 9 := by rw [ha]; unfold adf; split <;> omega
    rw [lg_cmp_gt, pk_lLT (by omega) (by omega)]
    unfold nrP
    rw [Nat.mul_comm (wg T n (sF pt m)) (pop 14 K), ← ha, show wg T n (sF pt m) * n * e = e * wg T n (sF pt m) * n by rw [Nat.mul_comm, ← Nat.mul_assoc]]
    omega
  have close : ∀ a : Nat, a = adf (wg T n (sF pt m &&& K) * n) (pop 14 K * wg T n (sF pt m)) → ∃ τ, xm_br (0 < lg_cmp (lN (100 * a)) (lN (e * wg T n (sF pt m) * n))) (some (none, xm_sL (xm_sL (xm_sL υ 52 m (υ.2 52 m + lN w)) 53 (pop 14 (sF pt m &&& K)) (υ.2 53 (pop 14 (sF pt m &&& K)) + lN w)) 39 22 (υ.2 39 22 + 0))) (some (none, xm_sL (xm_sL (xm_sL υ 52 m (υ.2 52 m + lN w)) 53 (pop 14 (sF pt m &&& K)) (υ.2 53 (pop 14 (sF pt m &&& K)) + lN w)) 39 22 (υ.2 39 22 + lN w))) = some (none, τ) ∧ τ.1 = σ.1 ∧ (∀ c, c ∉ [39, 50, 51, 52, 53] → τ.2 c = σ.2 c) ∧ (∀ j, j ≠ 22 → τ.2 39 j = σ.2 39 j) ∧ ∀ c j, dm c j → τ.2 c j = σ.2 c j + lN (w * phF T n K e c j (sF pt m)) := by
    intro a ha
    by_cases q : nrP T n K e (sF pt m)
    · rw [xm_br_f (fun z => (nr a ha).mp z q)]
      exact fin w (by rw [e22, if_pos q, Nat.mul_one])
    · rw [xm_br_t ((nr a ha).mpr q)]
      exact fin 0 (by rw [e22, if_neg q, Nat.mul_zero])
  by_cases q : pop 14 K * wg T n (sF pt m) ≤ wg T n (sF pt m &&& K) * n
  · rw [xm_br_t ((lsub_ge (by omega) (by omega)).mpr q), lN_sub q, lN_mul]
    refine close _ ?_
    unfold adf
    split <;> omega
  · rw [xm_br_f (fun z => q ((lsub_ge (by omega) (by omega)).mp z)), lN_neg (by omega), lN_mul]
    refine close _ ?_
    unfold adf
    rw [if_pos (by omega)]
end TK
