/-! WALKS: at, strayed -/
theorem NtA_1 {n K : Nat} {T : Nat → Nat} {σ τ : Sg} (h : NtA n T K σ) (e : τ.1 = σ.1) : NtA n T K τ := by
  unfold NtA
  rw [e]
  exact h
/-- where a walk begins -/
def stN (n : Nat) (s : Int32) (p : Nat) : Nat := if p < n ∧ (s = -1 ∨ s = nI p) then 1 else 0
theorem stN_s {n : Nat} {s : Int32} (hn : n ≤ 9) (hs : s = -1 ∨ inR s n) : sm (stN n s) n = if s = -1 then n else 1 := by
  rcases hs with e | ⟨q, hq, e⟩
  · rw [if_pos e, sm_c (f := stN n s) (g := fun _ => 1) (fun i hi => if_pos ⟨hi, Or.inl e⟩)]
    have : ∀ k, sm (fun _ => 1) k = k := by
      intro k
      induction k with
      | zero => rfl
      | succ k ih => show sm (fun _ => 1) k + 1 = k + 1; rw [ih]
    exact this n
  · have ne : ¬ s = -1 := by rw [e]; exact nI_nm1 (by omega)
    rw [if_neg ne, sm_one (f := stN n s) (q := q) hq (fun i hi hne => if_neg (by
      rintro ⟨-, z | z⟩
      · exact ne z
      · rw [e] at z
        exact hne ((nI_eq (by omega) (by omega)).mp z).symm))]
    exact if_pos ⟨hq, Or.inr e⟩
theorem wk_out {T : Nat → Nat} {n : Nat} {A0 : Nat → Nat} (hT : ∀ p, p < n → T p < 2 ^ n) (h0 : ∀ p, n ≤ p → A0 p = 0) {q : Nat} (hq : n ≤ q) : ∀ i, wkF T n A0 i q = 0
  | 0 => h0 q hq
  | i + 1 => by
    refine sm_0 (fun p hp => ?_)
    unfold yF
    have e : (T p).testBit q = false := Nat.testBit_lt_two_pow (Nat.lt_of_lt_of_le (hT p hp) (Nat.pow_le_pow_right (by omega) hq))
    rw [e, if_neg (show ¬ p = q by omega)]
    split <;> rfl
section WK
variable {n K : Nat} {T : Nat → Nat} {σ : Sg}
theorem C_w54 (h : NtA n T K σ) (d : Nat) {p : Nat} {N : Nat → Nat} (hp : p < n) (h0 : pop 14 (T p) ≠ 0) (hN : N p < 2 ^ 63) : ∀ (k q : Nat) (τ : Sg), q + k = n → τ.1 = σ.1 → τ.2 8 p = lN (N p) → ∃ υ, X_Walk_step_54 (d + 2) (nI p) (nI (pop 14 (T p))) (nI q) τ = X_Walk_step_10 (d + 2) (nI (p + 1)) υ ∧ υ.1 = σ.1 ∧ (∀ c, c ≠ 7 → υ.2 c = τ.2 c) ∧ ∀ j, υ.2 7 j = if q ≤ j ∧ j < n then τ.2 7 j + lN (if (T p).testBit j = true then N p / pop 14 (T p) else 0) else τ.2 7 j
  | 0, q, τ, hq, e1, e8 => by
    have hn := h.1
    have ht := NtA_1 h e1
    refine ⟨τ, ?_, e1, fun _ _ => rfl, fun j => by rw [if_neg (show ¬ (q ≤ j ∧ j < n) by omega)]⟩
    rw [X_Walk_step_54_e, ht.2.1, xm_br_t (nI_le (by omega) (by omega)), nI_1]
  | k + 1, q, τ, hq, e1, e8 => by
    have hn := h.1
    have ht := NtA_1 h e1
    have h8 := h.pop (show p < 9 by omega)
    have step : X_Walk_step_54 (d + 2) (nI p) (nI (pop 14 (T p))) (nI q) τ = X_Walk_step_54 (d + 2) (nI p) (nI (pop 14 (T p))) (nI (q + 1)) (xm_sL τ 7 q (τ.2 7 q + lN (if (T p).testBit q = true then N p / pop 14 (T p) else 0))) := by
      rw [X_Walk_step_54_e, ht.2.1, xm_br_f (nI_ge (by omega) (by omega)), C_tied ht d hp (by omega), nI_1]
      simp only [xm_cI_s, xm_ix_n (show q < 9 by omega) (show 9 < 2 ^ 31 by omega), xm_ix_n (show p < 9 by omega) (show 9 < 2 ^ 31 by omega), e8, nI_l (show pop 14 (T p) < 2 ^ 31 by omega), xm_dvL_n (l_ne0 (show pop 14 (T p) < 2 ^ 63 by omega) h0), pk_lDiv hN (show 0 < pop 14 (T p) by omega) (show pop 14 (T p) < 2 ^ 63 by omega), bt_n]
      cases (T p).testBit q with
      | false => rw [xm_br_t (by decide)]; rfl
      | true => rw [xm_br_f (by decide)]; rfl
    obtain ⟨υ, u1, u2, u3, u4⟩ := C_w54 h d hp h0 hN k (q + 1) (xm_sL τ 7 q (τ.2 7 q + lN (if (T p).testBit q = true then N p / pop 14 (T p) else 0))) (by omega) e1 (by rw [sL_cell _ _ _ (by decide)]; exact e8)
    refine ⟨υ, step.trans u1, u2, fun c hc => by rw [u3 c hc, sL_cell _ _ _ hc], fun j => ?_⟩
    rw [u4 j, sL_at]
    by_cases e : j = q
    · subst e
      rw [if_neg (show ¬ (j + 1 ≤ j ∧ j < n) by omega), if_pos rfl, if_pos (show j ≤ j ∧ j < n by omega)]
    · rw [if_neg e]
      by_cases e2 : q + 1 ≤ j ∧ j < n
      · rw [if_pos e2, if_pos (show q ≤ j ∧ j < n by omega)]
      · rw [if_neg e2, if_neg (show ¬ (q ≤ j ∧ j < n) by omega)]
theorem C_w10 (h : NtA n T K σ) (d : Nat) {N : Nat → Nat} (hN : ∀ p, p < n → N p < 2 ^ 63) : ∀ (k p : Nat) (τ : Sg), p + k = n → τ.1 = σ.1 → (∀ j, j < n → τ.2 8 j = lN (N j)) → (∀ j, j < 9 → τ.2 7 j = lN (sm (fun p => xF T N p j) p)) → ∃ υ, X_Walk_step_10 (d + 2) (nI p) τ = some (none, xm_yL υ 7 8 0 0 9) ∧ υ.1 = σ.1 ∧ (∀ c, c ≠ 7 → υ.2 c = τ.2 c) ∧ ∀ j, j < 9 → υ.2 7 j = lN (sm (fun p => xF T N p j) n)
  | 0, p, τ, hp, e1, e8, e7 => by
    have hn := h.1
    have ht := NtA_1 h e1
    refine ⟨τ, ?_, e1, fun _ _ => rfl, fun j hj => by rw [e7 j hj, show p = n by omega]⟩
    rw [X_Walk_step_10_e, ht.2.1, xm_br_t (nI_le (by omega) (by omega))]
  | k + 1, p, τ, hp, e1, e8, e7 => by
    have hn := h.1
    have ht := NtA_1 h e1
    have hpn : p < n := by omega
    have hlt := (h.2.2.2.1 p (by omega)).2.2.1
    have ex : ∃ υ, X_Walk_step_10 (d + 2) (nI p) τ = X_Walk_step_10 (d + 2) (nI (p + 1)) υ ∧ υ.1 = σ.1 ∧ (∀ c, c ≠ 7 → υ.2 c = τ.2 c) ∧ ∀ j, j < 9 → υ.2 7 j = τ.2 7 j + lN (xF T N p j) := by
      rw [X_Walk_step_10_e, ht.2.1, xm_br_f (nI_ge hpn (by omega)), C_degree ht d hpn, xm_cI_s]
      have h8 := h.pop (show p < 9 by omega)
      by_cases h0 : pop 14 (T p) = 0
      · rw [h0, xm_br_t nI_0, xm_ix_n (show p < 9 by omega) (by omega), xm_ix_n (show p < 9 by omega) (by omega), xm_ix_n (show p < 9 by omega) (by omega), nI_1, e8 p hpn]
        refine ⟨_, rfl, e1, fun c hc => sL_cell _ _ _ hc, fun j hj => ?_⟩
        rw [sL_at]
        unfold xF
        rw [if_pos h0]
        by_cases e : j = p
        · subst e; rw [if_pos rfl, if_pos rfl]
        · rw [if_neg e, if_neg (Ne.symm e), lN_0]; simp
      · rw [xm_br_f (nI_ne0 (by omega) (by omega))]
        obtain ⟨υ, u1, u2, u3, u4⟩ := C_w54 h d hpn h0 (hN p hpn) n 0 τ (by omega) e1 (e8 p hpn)
        refine ⟨υ, u1, u2, u3, fun j hj => ?_⟩
        rw [u4 j]
        unfold xF
        rw [if_neg h0]
        by_cases e : j < n
        · rw [if_pos ⟨by omega, e⟩]
        · rw [if_neg (by omega)]
          have : (T p).testBit j = false := Nat.testBit_lt_two_pow (Nat.lt_of_lt_of_le hlt (Nat.pow_le_pow_right (by omega) (by omega)))
          rw [this, if_neg (by decide), lN_0]; simp
    obtain ⟨υ, u1, u2, u3, u4⟩ := ex
    obtain ⟨ρ, r1, r2, r3, r4⟩ := C_w10 h d hN k (p + 1) υ (by omega) u2 (fun j hj => by rw [u3 8 (by decide)]; exact e8 j hj) (fun j hj => by
      rw [u4 j hj, e7 j hj, lN_add]
      rfl)
    exact ⟨ρ, u1.trans r1, r2, fun c hc => by rw [r3 c hc, u3 c hc], r4⟩
/-- behind i steps -/
def WkP (T : Nat → Nat) (n : Nat) (s : Int32) (i : Nat) (σ τ : Sg) : Prop := τ.1 = σ.1 ∧ (∀ c, c ∉ [6, 7, 8] → τ.2 c = σ.2 c) ∧ τ.2 6 3 = lN (sm (stN n s) n * 840 ^ 5) ∧ ∀ j, j < 9 → τ.2 8 j = lN (wkF T n (stN n s) i j * 840 ^ (5 - i))
theorem st_le (n : Nat) (s : Int32) : sm (stN n s) n ≤ n := by
  have := sm_le (f := stN n s) (c := 1) (n := n) (fun i _ => by unfold stN; split <;> omega)
  omega
theorem wk_le (h : NtA n T K σ) (s : Int32) {i j : Nat} (hi : i ≤ 5) (hj : j < n) : wkF T n (stN n s) i j * 840 ^ (5 - i) ≤ 9 * 840 ^ 5 := by
  have hn := h.1
  have h1 := sm_ge (f := wkF T n (stN n s) i) (q := j) (n := n) hj
  rw [wk_tot hn.2 (NtA_tb h) (stN n s) i] at h1
  have h2 := st_le n s
  have h3 : sm (stN n s) n * 840 ^ i ≤ 9 * 840 ^ i := Nat.mul_le_mul_right _ (by omega)
  have h4 : wkF T n (stN n s) i j * 840 ^ (5 - i) ≤ 9 * 840 ^ i * 840 ^ (5 - i) := Nat.mul_le_mul_right _ (by omega)
  rw [Nat.mul_assoc, ← Nat.pow_add, show i + (5 - i) = 5 by omega] at h4
  exact h4
theorem C_stp (h : NtA n T K σ) {s : Int32} (d : Nat) {i : Nat} (hi : i < 5) {τ : Sg} (ht : WkP T n s i σ τ) : ∃ υ, X_Walk_step (d + 2) τ = some (none, υ) ∧ WkP T n s (i + 1) σ υ := by
  have hn := h.1
  have h840 : 840 ^ 5 = 418211942400000 := by decide
  obtain ⟨φ, f1, f2, f3, f4⟩ := fl_7 (d + 1) 0 τ
  obtain ⟨υ, u1, u2, u3, u4⟩ := C_w10 h d (N := fun j => wkF T n (stN n s) i j * 840 ^ (5 - i)) (fun p hp => by have := wk_le h s (show i ≤ 5 by omega) hp; omega) n 0 φ (by omega) (f4.trans ht.1) (fun j hj => by rw [f3 8 (by decide)]; exact ht.2.2.2 j (by omega)) (fun j hj => by rw [f2 j hj]; rfl)
  refine ⟨xm_yL υ 7 8 0 0 9, ?_, u2, fun c hc => ?_, ?_, fun j hj => ?_⟩
  · rw [X_Walk_step_e, f1, xm_cV_s]
    exact u1
  · have hc' : ∀ k, k ∈ [6, 7, 8] → c ≠ k := fun k hk e => hc (e ▸ hk)
    show (if c = 8 then _ else υ.2 c) = σ.2 c
    rw [if_neg (hc' 8 (by decide)), u3 c (hc' 7 (by decide)), f3 c (hc' 7 (by decide))]
    exact ht.2.1 c hc
  · show (if (6 : Nat) = 8 then va_cpy (υ.2 7) (υ.2 8) 0 0 9 else υ.2 6) 3 = _
    rw [if_neg (by decide), u3 6 (by decide), f3 6 (by decide)]
    exact ht.2.2.1
  · show (if (8 : Nat) = 8 then va_cpy (υ.2 7) (υ.2 8) 0 0 9 else υ.2 8) j = _
    rw [if_pos rfl, pk_cpy_in (Nat.zero_le j) (by omega), Nat.zero_add, Nat.sub_zero, u4 j hj]
    congr 1
    show sm (fun p => xF T (fun j => wkF T n (stN n s) i j * 840 ^ (5 - i)) p j) n = sm (fun p => yF T (wkF T n (stN n s) i) p j) n * 840 ^ (5 - (i + 1))
    rw [Nat.mul_comm, ← sm_mul]
    refine sm_c (fun p hp => ?_)
    show xF T (fun j => wkF T n (stN n s) i j * 840 ^ (5 - i)) p j = 840 ^ (5 - (i + 1)) * yF T (wkF T n (stN n s) i) p j
    rw [Nat.mul_comm]
    refine xF_y j (h.pop (by omega)) ?_
    show wkF T n (stN n s) i p * 840 ^ (5 - i) = _
    rw [show 5 - i = (5 - (i + 1)) + 1 by omega, Nat.pow_succ, Nat.mul_comm (840 ^ _) 840]
theorem C_go (h : NtA n T K σ) {s : Int32} (d : Nat) {k : Nat} (hk : k ≤ 5) : ∃ τ, X_Walk_go (d + 3) s (nI k) σ = some (none, τ) ∧ WkP T n s k σ τ := by
  have hn := h.1
  have init : ∀ (m p : Nat) (τ : Sg), p + m = 9 → τ.1 = σ.1 → (∀ c, c ∉ [6, 7, 8] → τ.2 c = σ.2 c) → τ.2 6 3 = lN (sm (stN n s) p * 840 ^ 5) → (∀ j, j < p → τ.2 8 j = lN (stN n s j * 840 ^ 5)) → ∃ υ, X_Walk_go_7 (d + 3) s (nI k) (nI p) τ = X_Walk_go_82 (d + 3) (nI k) 0 υ ∧ WkP T n s 0 σ υ := by
    intro m
    induction m with
    | zero =>
      intro p τ hp e1 e2 e3 e4
      refine ⟨τ, ?_, e1, e2, ?_, fun j hj => e4 j (by omega)⟩
      · rw [X_Walk_go_7_e, xm_br_t (show (9 : Int32) ≤ nI p from nI_le (a := 9) (by omega) (by omega))]
      · rw [e3]
        congr 2
        have g : ∀ z, n ≤ z → sm (stN n s) z = sm (stN n s) n := by
          intro z
          induction z with
          | zero => intro hz; rw [show n = 0 by omega]
          | succ z ih =>
            intro hz
            by_cases e : n = z + 1
            · rw [e]
            · show sm (stN n s) z + stN n s z = _
              rw [ih (by omega), show stN n s z = 0 from if_neg (by omega)]
              rfl
        exact g p (by omega)
    | succ m ih =>
      intro p τ hp e1 e2 e3 e4
      have ht := NtA_1 h e1
      have step : X_Walk_go_7 (d + 3) s (nI k) (nI p) τ = X_Walk_go_7 (d + 3) s (nI k) (nI (p + 1)) (xm_sL (xm_sL τ 8 p (lN (stN n s p * 840 ^ 5))) 6 3 (lN (sm (stN n s) (p + 1) * 840 ^ 5))) := by
        rw [X_Walk_go_7_e, xm_br_f (show ¬ (9 : Int32) ≤ nI p from nI_ge (b := 9) (by omega) (by omega)), C_holds _ _ τ (by omega) ht.2.1, xm_cI_s]
        simp only [xm_ix_n (show p < 9 by omega) (show 9 < 2 ^ 31 by omega), sL_same, nI_1, e3]
        have ez : sm (stN n s) (p + 1) * 840 ^ 5 = sm (stN n s) p * 840 ^ 5 + stN n s p * 840 ^ 5 := Nat.add_mul _ _ _
        have u5 : (418211942400000 : Int64) = lN (840 ^ 5) := by decide
        rw [ez]
        by_cases q1 : p < n
        · rw [xm_br_b ⟨p, q1, rfl⟩]
          by_cases q2 : s = -1
          · have e : stN n s p = 1 := if_pos ⟨q1, Or.inl q2⟩
            rw [xm_br_t q2, e, Nat.one_mul, ← lN_add, u5]
          · rw [xm_br_f q2]
            by_cases q3 : s = nI p
            · have e : stN n s p = 1 := if_pos ⟨q1, Or.inr q3⟩
              rw [xm_br_t q3, e, Nat.one_mul, ← lN_add, u5]
            · have e : stN n s p = 0 := if_neg (fun z => z.2.elim q2 q3)
              rw [xm_br_f q3, e, Nat.zero_mul, ← lN_add, lN_0]
        · have e : stN n s p = 0 := if_neg (fun z => q1 z.1)
          rw [xm_br_n (by
            rintro ⟨j, hj, ej⟩
            have := (nI_eq (by omega) (by omega)).mp ej
            omega), e, Nat.zero_mul, ← lN_add, lN_0]
      obtain ⟨υ, u1, u2⟩ := ih (p + 1) (xm_sL (xm_sL τ 8 p (lN (stN n s p * 840 ^ 5))) 6 3 (lN (sm (stN n s) (p + 1) * 840 ^ 5))) (by omega) e1 (fun c hc => by
        have hc' : ∀ k, k ∈ [6, 7, 8] → c ≠ k := fun k hk e => hc (e ▸ hk)
        rw [sL_cell _ _ _ (hc' 6 (by decide)), sL_cell _ _ _ (hc' 8 (by decide))]
        exact e2 c hc) (sL_same _ _ _ _) (fun j hj => by
        rw [sL_cell _ _ _ (by decide), sL_at]
        by_cases e : j = p
        · rw [if_pos e, e]
        · rw [if_neg e]; exact e4 j (by omega))
      exact ⟨υ, step.trans u1, u2⟩
  have steps : ∀ (m i : Nat) (τ : Sg), i + m = k → WkP T n s i σ τ → ∃ υ, X_Walk_go_82 (d + 3) (nI k) (nI i) τ = some (none, υ) ∧ WkP T n s k σ υ := by
    intro m
    induction m with
    | zero =>
      intro i τ hi ht
      have : i = k := by omega
      subst this
      refine ⟨τ, ?_, ht⟩
      rw [X_Walk_go_82_e, xm_br_t (nI_le (by omega) (by omega))]
    | succ m ih =>
      intro i τ hi ht
      obtain ⟨υ, u1, u2⟩ := C_stp h d (show i < 5 by omega) ht
      obtain ⟨ρ, r1, r2⟩ := ih (i + 1) υ (by omega) u2
      refine ⟨ρ, ?_, r2⟩
      rw [X_Walk_go_82_e, xm_br_f (nI_ge (by omega) (by omega)), u1, xm_cV_s, nI_1]
      exact r1
  obtain ⟨υ, u1, u2⟩ := init 9 0 (xm_sL σ 6 3 0) (by omega) rfl (fun c hc => sL_cell _ _ _ (by rintro rfl; exact hc (by decide))) (by rw [sL_same, show sm (stN n s) 0 = 0 from rfl, Nat.zero_mul, lN_0]) (fun j hj => by omega)
  obtain ⟨ρ, r1, r2⟩ := steps k 0 υ (by omega) u2
  refine ⟨ρ, ?_, r2⟩
  rw [X_Walk_go_e]
  exact u1.trans r1
theorem WkP.es {T : Nat → Nat} {n : Nat} {s : Int32} {i : Nat} {σ τ : Sg} (h : WkP T n s i σ τ) : Es σ τ := ⟨fun c _ => by rw [h.1], fun j _ => by rw [h.1], h.2.1 3 (by decide), h.2.1 5 (by decide)⟩
-- the reference
def MwP (σ τ : Sg) : Prop := τ.1 = σ.1 ∧ ∀ c, c ∉ [54, 55] → τ.2 c = σ.2 c
theorem MwP.rf (σ : Sg) : MwP σ σ := ⟨rfl, fun _ _ => rfl⟩
theorem MwP.sL {σ τ : Sg} (h : MwP σ τ) {c j : Nat} {x : Int64} (hc : c ∈ [54, 55]) : MwP σ (xm_sL τ c j x) := ⟨h.1, fun k hk => by rw [sL_cell τ j x (show k ≠ c from fun e => hk (e ▸ hc))]; exact h.2 k hk⟩
theorem MwP.es {σ τ : Sg} (h : MwP σ τ) : Es σ τ := ⟨fun c _ => by rw [h.1], fun j _ => by rw [h.1], h.2 3 (by decide), h.2 5 (by decide)⟩
theorem C_m77 (h : NtA n T K σ) (d : Nat) (x1 : Int32) (x2 : Int64) (x4 : Int32) {A : Nat → Nat} : ∀ (k p : Nat) (τ : Sg), p + k = n → MwP σ τ → (∀ j, j < n → τ.2 54 j = lN (A j)) → (∀ j, j < p → τ.2 55 j = lN (if pop 14 (T j) = 0 then A j * 840 else 0)) → ∃ υ, X_Mod_walks_77 (d + 2) x1 x2 x4 (nI p) τ = X_Mod_walks_126 (d + 2) x1 x2 x4 0 υ ∧ MwP σ υ ∧ (∀ j, j < n → υ.2 54 j = lN (A j)) ∧ ∀ j, j < n → υ.2 55 j = lN (if pop 14 (T j) = 0 then A j * 840 else 0)
  | 0, p, τ, hp, e1, e2, e3 => by
    have hn := h.1
    have ht := NtA_1 h e1.1
    refine ⟨τ, ?_, e1, e2, fun j hj => e3 j (by omega)⟩
    rw [X_Mod_walks_77_e, ht.2.2.1, xm_br_t (nI_le (by omega) (by omega))]
  | k + 1, p, τ, hp, e1, e2, e3 => by
    have hn := h.1
    have ht := NtA_1 h e1.1
    have h8 := h.pop (show p < 9 by omega)
    have step : X_Mod_walks_77 (d + 2) x1 x2 x4 (nI p) τ = X_Mod_walks_77 (d + 2) x1 x2 x4 (nI (p + 1)) (xm_sL τ 55 p (lN (if pop 14 (T p) = 0 then A p * 840 else 0))) := by
      rw [X_Mod_walks_77_e, ht.2.2.1, xm_br_f (nI_ge (by omega) (by omega)), C_mdegree ht d (by omega), xm_cI_s]
      simp only [xm_ix_n (show p < 9 by omega) (show 9 < 2 ^ 31 by omega), nI_1, e2 p (by omega)]
      by_cases e : pop 14 (T p) = 0
      · rw [e, xm_br_t nI_0, if_pos rfl, ← lN_mul]; rfl
      · rw [xm_br_f (nI_ne0 (by omega) (by omega)), if_neg e]; rfl
    obtain ⟨υ, u1, u2, u3, u4⟩ := C_m77 h d x1 x2 x4 k (p + 1) _ (by omega) (e1.sL (c := 55) (j := p) (x := lN (if pop 14 (T p) = 0 then A p * 840 else 0)) (by decide)) (fun j hj => by rw [sL_cell _ _ _ (by decide)]; exact e2 j hj) (fun j hj => by
      rw [sL_at]
      by_cases e : j = p
      · rw [if_pos e, e]
      · rw [if_neg e]; exact e3 j (by omega))
    exact ⟨υ, step.trans u1, u2, u3, u4⟩
theorem C_m138 (h : NtA n T K σ) (d : Nat) (x1 : Int32) (x2 : Int64) (x4 : Int32) {A : Nat → Nat} {p : Nat} (hp : p < n) : ∀ (k q : Nat) (τ : Sg), q + k = n → MwP σ τ → (∀ j, j < n → τ.2 54 j = lN (A j)) → ∃ υ, X_Mod_walks_138 (d + 2) x1 x2 x4 (nI p) (nI q) τ = X_Mod_walks_126 (d + 2) x1 x2 x4 (nI (p + 1)) υ ∧ MwP σ υ ∧ (∀ j, j < n → υ.2 54 j = lN (A j)) ∧ ∀ j, υ.2 55 j = if q ≤ j ∧ j < n then τ.2 55 j + lN (if (T p).testBit j = true then A p * (840 / pop 14 (T p)) else 0) else τ.2 55 j
  | 0, q, τ, hq, e1, e2 => by
    have hn := h.1
    have ht := NtA_1 h e1.1
    refine ⟨τ, ?_, e1, e2, fun j => by rw [if_neg (show ¬ (q ≤ j ∧ j < n) by omega)]⟩
    rw [X_Mod_walks_138_e, ht.2.2.1, xm_br_t (nI_le (by omega) (by omega)), nI_1]
  | k + 1, q, τ, hq, e1, e2 => by
    have hn := h.1
    have ht := NtA_1 h e1.1
    have h8 := h.pop (show p < 9 by omega)
    have h9 := h.T (show p < 9 by omega)
    have step : X_Mod_walks_138 (d + 2) x1 x2 x4 (nI p) (nI q) τ = X_Mod_walks_138 (d + 2) x1 x2 x4 (nI p) (nI (q + 1)) (xm_sL τ 55 q (τ.2 55 q + lN (if (T p).testBit q = true then A p * (840 / pop 14 (T p)) else 0))) := by
      rw [X_Mod_walks_138_e, ht.2.2.1, xm_br_f (nI_ge (by omega) (by omega))]
      simp only [xm_ix_n (show q < 9 by omega) (show 9 < 2 ^ 31 by omega), xm_ix_n (show p < 9 by omega) (show 9 < 2 ^ 31 by omega), nI_1, e2 p hp, C_mdegree ht d (show p < 9 by omega), xm_cI_s, (ht.2.2.2.1 p (show p < 9 by omega)).2.1]
      by_cases e : (T p).testBit q = true
      · have h0 : pop 14 (T p) ≠ 0 := fun z => by rw [NtA_nz h (by omega) z] at e; simp at e
        rw [xm_br_t ((bt_t (by omega) (by omega)).mpr e), if_pos e, nI_l (by omega), xm_dvL_n (l_ne0 (by omega) h0), show (840 : Int64) = lN 840 from rfl, pk_lDiv (by omega) (by omega) (by omega), lN_mul]
      · rw [xm_br_f (fun z => e ((bt_t (by omega) (by omega)).mp z)), if_neg e]; rfl
    obtain ⟨υ, u1, u2, u3, u4⟩ := C_m138 h d x1 x2 x4 hp k (q + 1) _ (by omega) (e1.sL (c := 55) (j := q) (x := τ.2 55 q + lN (if (T p).testBit q = true then A p * (840 / pop 14 (T p)) else 0)) (by decide)) (fun j hj => by rw [sL_cell _ _ _ (by decide)]; exact e2 j hj)
    refine ⟨υ, step.trans u1, u2, u3, fun j => ?_⟩
    rw [u4 j, sL_at]
    by_cases e : j = q
    · subst e
      rw [if_neg (show ¬ (j + 1 ≤ j ∧ j < n) by omega), if_pos rfl, if_pos (show j ≤ j ∧ j < n by omega)]
    · rw [if_neg e]
      by_cases e2 : q + 1 ≤ j ∧ j < n
      · rw [if_pos e2, if_pos (show q ≤ j ∧ j < n by omega)]
      · rw [if_neg e2, if_neg (show ¬ (q ≤ j ∧ j < n) by omega)]
theorem C_m126 (h : NtA n T K σ) (d : Nat) (x1 : Int32) (x2 : Int64) (x4 : Int32) {A z : Nat → Nat} : ∀ (k p : Nat) (τ : Sg), p + k = n → MwP σ τ → (∀ j, j < n → τ.2 54 j = lN (A j)) → (∀ j, j < n → τ.2 55 j = lN (z j + sm (fun p => if (T p).testBit j = true then A p * (840 / pop 14 (T p)) else 0) p)) → ∃ υ, X_Mod_walks_126 (d + 2) x1 x2 x4 (nI p) τ = X_Mod_walks_211 (d + 2) x1 x2 x4 0 υ ∧ MwP σ υ ∧ ∀ j, j < n → υ.2 55 j = lN (z j + sm (fun p => if (T p).testBit j = true then A p * (840 / pop 14 (T p)) else 0) n)
  | 0, p, τ, hp, e1, e2, e3 => by
    have hn := h.1
    have ht := NtA_1 h e1.1
    refine ⟨τ, ?_, e1, fun j hj => by rw [e3 j hj, show p = n by omega]⟩
    rw [X_Mod_walks_126_e, ht.2.2.1, xm_br_t (nI_le (by omega) (by omega))]
  | k + 1, p, τ, hp, e1, e2, e3 => by
    have hn := h.1
    have ht := NtA_1 h e1.1
    obtain ⟨υ, u1, u2, u3, u4⟩ := C_m138 h d x1 x2 x4 (show p < n by omega) n 0 τ (by omega) e1 e2
    obtain ⟨ρ, r1, r2⟩ := C_m126 h d x1 x2 x4 k (p + 1) υ (by omega) u2 u3 (fun j hj => by
      rw [u4 j, if_pos ⟨by omega, hj⟩, e3 j hj, lN_add, Nat.add_assoc]
      rfl)
    refine ⟨ρ, ?_, r2⟩
    rw [X_Mod_walks_126_e, ht.2.2.1, xm_br_f (nI_ge (by omega) (by omega))]
    exact u1.trans r1
theorem C_m211 (h : NtA n T K σ) (d : Nat) (x1 : Int32) (x2 : Int64) (x4 : Int32) {B : Nat → Nat} : ∀ (k p : Nat) (τ : Sg), p + k = n → MwP σ τ → (∀ j, j < n → τ.2 55 j = lN (B j)) → (∀ j, j < p → τ.2 54 j = lN (B j)) → ∃ υ, X_Mod_walks_211 d x1 x2 x4 (nI p) τ = X_Mod_walks_68 d x1 (x2 * 840) (x4 + 1) υ ∧ MwP σ υ ∧ ∀ j, j < n → υ.2 54 j = lN (B j)
  | 0, p, τ, hp, e1, e2, e3 => by
    have hn := h.1
    have ht := NtA_1 h e1.1
    refine ⟨τ, ?_, e1, fun j hj => e3 j (by omega)⟩
    rw [X_Mod_walks_211_e, ht.2.2.1, xm_br_t (nI_le (by omega) (by omega))]
  | k + 1, p, τ, hp, e1, e2, e3 => by
    have hn := h.1
    have ht := NtA_1 h e1.1
    obtain ⟨υ, u1, u2⟩ := C_m211 h d x1 x2 x4 k (p + 1) _ (by omega) (e1.sL (c := 54) (j := p) (x := lN (B p)) (by decide)) (fun j hj => by rw [sL_cell _ _ _ (by decide)]; exact e2 j hj) (fun j hj => by
      rw [sL_at]
      by_cases e : j = p
      · rw [if_pos e, e]
      · rw [if_neg e]; exact e3 j (by omega))
    refine ⟨υ, ?_, u2⟩
    rw [X_Mod_walks_211_e, ht.2.2.1, xm_br_f (nI_ge (by omega) (by omega)), xm_ix_n (show p < 9 by omega) (by omega), xm_ix_n (show p < 9 by omega) (by omega), nI_1, e2 p (by omega)]
    exact u1
theorem C_mwk (h : NtA n T K σ) {s : Int32} (hs39 : σ.1 39 8 = s) (hs : s = -1 ∨ inR s n) (d : Nat) {k : Nat} (hk : k ≤ 5) : ∃ τ, X_Mod_walks (d + 2) (nI k) σ = some (some (.long (lN (sm (stN n s) n * 840 ^ k))), τ) ∧ MwP σ τ ∧ ∀ j, j < n → τ.2 54 j = lN (wkF T n (stN n s) k j) := by
  have hn := h.1
  have init : ∀ (m p : Nat) (x2 : Int64) (τ : Sg), p + m = n → MwP σ τ → (∀ j, j < p → τ.2 54 j = lN (stN n s j)) → ∃ υ, X_Mod_walks_21 (d + 2) (nI k) x2 (nI p) τ = X_Mod_walks_68 (d + 2) (nI k) x2 0 υ ∧ MwP σ υ ∧ ∀ j, j < n → υ.2 54 j = lN (stN n s j) := by
    intro m
    induction m with
    | zero =>
      intro p x2 τ hp e1 e2
      have ht := NtA_1 h e1.1
      refine ⟨τ, ?_, e1, fun j hj => e2 j (by omega)⟩
      rw [X_Mod_walks_21_e, ht.2.2.1, xm_br_t (nI_le (by omega) (by omega))]
    | succ m ih =>
      intro p x2 τ hp e1 e2
      have ht := NtA_1 h e1.1
      have step : X_Mod_walks_21 (d + 2) (nI k) x2 (nI p) τ = X_Mod_walks_21 (d + 2) (nI k) x2 (nI (p + 1)) (xm_sL τ 54 p (lN (stN n s p))) := by
        rw [X_Mod_walks_21_e, ht.2.2.1, xm_br_f (nI_ge (by omega) (by omega)), show τ.1 39 8 = s by rw [e1.1]; exact hs39]
        simp only [xm_ix_n (show p < 9 by omega) (show 9 < 2 ^ 31 by omega), nI_1]
        by_cases q2 : s = -1
        · rw [xm_br_t q2, show stN n s p = 1 from if_pos ⟨by omega, Or.inl q2⟩]; rfl
        · rw [xm_br_f q2]
          by_cases q3 : s = nI p
          · rw [xm_br_t q3, show stN n s p = 1 from if_pos ⟨by omega, Or.inr q3⟩]; rfl
          · rw [xm_br_f q3, show stN n s p = 0 from if_neg (fun z => z.2.elim q2 q3)]; rfl
      obtain ⟨υ, u1, u2⟩ := ih (p + 1) x2 _ (by omega) (e1.sL (c := 54) (j := p) (x := lN (stN n s p)) (by decide)) (fun j hj => by
        rw [sL_at]
        by_cases e : j = p
        · rw [if_pos e, e]
        · rw [if_neg e]; exact e2 j (by omega))
      exact ⟨υ, step.trans u1, u2⟩
  have steps : ∀ (m i : Nat) (τ : Sg), i + m = k → MwP σ τ → (∀ j, j < n → τ.2 54 j = lN (wkF T n (stN n s) i j)) → ∃ υ, X_Mod_walks_68 (d + 2) (nI k) (lN (sm (stN n s) n * 840 ^ i)) (nI i) τ = some (some (.long (lN (sm (stN n s) n * 840 ^ k))), υ) ∧ MwP σ υ ∧ ∀ j, j < n → υ.2 54 j = lN (wkF T n (stN n s) k j) := by
    intro m
    induction m with
    | zero =>
      intro i τ hi e1 e2
      have : i = k := by omega
      subst this
      refine ⟨τ, ?_, e1, e2⟩
      rw [X_Mod_walks_68_e, xm_br_t (nI_le (by omega) (by omega))]
    | succ m ih =>
      intro i τ hi e1 e2
      obtain ⟨υ1, a1, a2, a3, a4⟩ := C_m77 h d (nI k) (lN (sm (stN n s) n * 840 ^ i)) (nI i) n 0 τ (by omega) e1 e2 (fun j hj => by omega)
      obtain ⟨υ2, b1, b2, b3⟩ := C_m126 h d (nI k) (lN (sm (stN n s) n * 840 ^ i)) (nI i) (A := wkF T n (stN n s) i) (z := fun j => if pop 14 (T j) = 0 then wkF T n (stN n s) i j * 840 else 0) n 0 υ1 (by omega) a2 a3 (fun j hj => by rw [a4 j hj]; rfl)
      obtain ⟨υ3, c1, c2, c3⟩ := C_m211 h (d + 2) (nI k) (lN (sm (stN n s) n * 840 ^ i)) (nI i) (B := wkF T n (stN n s) (i + 1)) n 0 υ2 (by omega) b2 (fun j hj => by
        rw [b3 j hj]
        have := yF_z (T := T) (n := n) (wkF T n (stN n s) i) hj (fun p hp e => NtA_nz h (show p < 9 by omega) e)
        exact congrArg lN this.symm) (fun j hj => by omega)
      obtain ⟨ρ, r1, r2⟩ := ih (i + 1) υ3 (by omega) c2 c3
      refine ⟨ρ, ?_, r2⟩
      rw [X_Mod_walks_68_e, xm_br_f (nI_ge (by omega) (by omega)), show X_Mod_walks_77 (d + 2) (nI k) (lN (sm (stN n s) n * 840 ^ i)) (nI i) 0 τ = _ from a1, show X_Mod_walks_126 (d + 2) (nI k) (lN (sm (stN n s) n * 840 ^ i)) (nI i) 0 υ1 = _ from b1, show X_Mod_walks_211 (d + 2) (nI k) (lN (sm (stN n s) n * 840 ^ i)) (nI i) 0 υ2 = _ from c1, show (840 : Int64) = lN 840 from rfl, lN_mul, nI_1, Nat.mul_assoc, ← Nat.pow_succ]
      exact r1
  obtain ⟨υ, u1, u2, u3⟩ := init n 0 (lN (sm (stN n s) n)) σ (by omega) (MwP.rf σ) (fun j hj => by omega)
  obtain ⟨ρ, r1, r2⟩ := steps k 0 υ (by omega) u2 u3
  refine ⟨ρ, ?_, r2⟩
  have e := stN_s hn.2 hs
  rw [Nat.pow_zero, Nat.mul_one] at r1
  rw [X_Mod_walks_e, hs39, h.2.2.1]
  by_cases q : s = -1
  · rw [if_pos q] at e
    have e' : (nI n).toInt64 = lN (sm (stN n s) n) := by rw [nI_l (by omega), e]
    rw [xm_br_t q, e']
    exact u1.trans r1
  · rw [if_neg q] at e
    rw [xm_br_f q]
    rw [e] at u1 r1 ⊢
    exact u1.trans r1
end WK
