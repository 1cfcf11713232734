/-! SHARES: share -/
theorem sm_mul (c : Nat) (f : Nat → Nat) : ∀ n, sm (fun i => c * f i) n = c * sm f n
  | 0 => rfl
  | n + 1 => by
    show sm (fun i => c * f i) n + c * f n = c * (sm f n + f n)
    rw [sm_mul c f n, Nat.mul_add]
theorem C_fin (d : Nat) (S : Sg) {a b : Nat} (w : Int32) (ha : a < 2 ^ 63) (hb : b < 2 ^ 63) : xm_br ((lg_cmp ((AB S (lN a) (lN b)).2 39 38) 0) = 0) (xm_cL (X_Mod_no (d + 1) (-3) (AB S (lN a) (lN b))) (fun r6 σ5 => some (some (.long r6), σ5))) (xm_cL (X_Mod_part (d + 1) ((AB S (lN a) (lN b)).2 39 37) ((AB S (lN a) (lN b)).2 39 38) w (AB S (lN a) (lN b))) (fun r4 σ3 => some (some (.long r4), σ3))) = some (some (.long (frN a b w)), AB S (lN a) (lN b)) := by
  rw [AB_37, AB_38]
  by_cases h0 : b = 0
  · subst h0
    rw [xm_br_t ((l_eq0 (by omega)).mpr rfl), C_no, xm_cL_s]
    unfold frN
    rw [if_pos rfl]
    rfl
  · rw [xm_br_f (fun q => h0 ((l_eq0 hb).mp q)), F_part d _ w ha hb h0, xm_cL_s]
theorem k115 : ∀ k, k < 21 → 26771144400 / k = 115 * (232792560 / k) := by decide +kernel
theorem zI_n {k : Nat} (h : 1 ≤ k) (h2 : k < 2 ^ 31) : zI (nI k) = k := by
  obtain ⟨-, -, z3, z4, -⟩ := zI_ok (nI k)
  exact ((nI_eq h2 z3).mp (z4 (nI_le (a := 1) h h2))).symm
theorem bT_le {kd kn tr : Nat → Nat} {tk : Nat → Bool} {k but : Nat} (i : Nat) : bT kd kn tr tk k but i ≤ 232792560 := by
  unfold bT
  split
  · exact Nat.div_le_self _ _
  · omega
theorem bTs_le {kd kn tr : Nat → Nat} {tk : Nat → Bool} {k but r : Nat} (hr : r ≤ 24) : sm (bT kd kn tr tk k but) r ≤ 24 * 232792560 := by
  have := sm_le (f := bT kd kn tr tk k but) (c := 232792560) (n := r) (fun i _ => bT_le i)
  exact Nat.le_trans this (Nat.mul_le_mul_right _ hr)
section SH
variable {r : Nat} {bo kd kn tr : Nat → Nat} {ct tk : Nat → Bool} {σ : Sg}
theorem rf_0 (h : VwA r bo kd kn tr ct tk σ) (but : Nat) {i : Nat} (hi : i < r) : rf kd kn tr tk 0 but i = 115 * (bT kd kn tr tk 1 but i + bT kd kn tr tk 0 but i) ∧ ra kd kn tr tk 0 but i = 115 * bT kd kn tr tk 1 but i := by
  obtain ⟨-, hkd, hkn, -⟩ := h.2 i hi
  unfold ra rf bT tl
  by_cases q0 : tr i ≠ but
  rotate_left
  · rw [if_neg (fun e => q0 e.2), if_neg (fun e => q0 e.1), if_neg (fun e => q0 e.1)]
    simp
  by_cases q1 : tk i = true ∧ kn i ≠ 0
  rotate_left
  · have e : ∀ k, ¬ (tr i ≠ but ∧ (tk i && decide (kn i ≠ 0) && decide (kd i = k)) = true) := by
      rintro k ⟨-, e⟩
      simp only [Bool.and_eq_true, decide_eq_true_eq] at e
      exact q1 e.1
    rw [if_neg (fun e => q1 e.1), if_neg (e 1), if_neg (e 0)]
    simp
  have e2 : oK (kn i) + (if kd i = 1 then (0 : Int32) else -0) = nI (kn i) := by
    rw [oK_s q1.2, show (-0 : Int32) = 0 by decide]
    simp
  rw [if_pos ⟨q1, q0⟩, e2, zI_n (by omega) (by omega), k115 _ (by omega)]
  have b1 : (tk i && decide (kn i ≠ 0)) = true := by rw [q1.1, decide_eq_true q1.2]; rfl
  have A : ∀ k, (tr i ≠ but ∧ (tk i && decide (kn i ≠ 0) && decide (kd i = k)) = true) ↔ kd i = k := by
    intro k
    rw [b1]
    simp [q0]
  rcases two hkd.1 with e | e
  · rw [if_neg (fun q => by rw [(A 1).mp q] at e; cases e), if_pos ((A 0).mpr e), if_neg (fun q => by rw [q] at e; cases e)]
    simp
  · rw [if_pos ((A 1).mpr e), if_neg (fun q => by rw [(A 0).mp q] at e; cases e), if_pos e]
    simp
theorem sm_rf (h : VwA r bo kd kn tr ct tk σ) (but : Nat) : sm (rf kd kn tr tk 0 but) r = (sm (bT kd kn tr tk 1 but) r + sm (bT kd kn tr tk 0 but) r) * 115 ∧ sm (ra kd kn tr tk 0 but) r = sm (bT kd kn tr tk 1 but) r * 115 := by
  constructor
  · rw [sm_c (fun i hi => (rf_0 h but hi).1), sm_mul 115 (fun i => bT kd kn tr tk 1 but i + bT kd kn tr tk 0 but i), sm_add, Nat.mul_comm]
  · rw [sm_c (fun i hi => (rf_0 h but hi).2), sm_mul 115 (fun i => bT kd kn tr tk 1 but i), Nat.mul_comm]
theorem but_n (h : VwA r bo kd kn tr ct tk σ) : ∀ i, i < r → (nI (tr i) = -1 ↔ tr i = 99) := by
  intro i hi
  have hr := h.1.1
  have := (h.2 i hi).2.2.2.1.1
  exact ⟨fun q => absurd q (nI_nm1 (by omega)), fun q => by omega⟩
theorem but_t (h : VwA r bo kd kn tr ct tk σ) {t : Nat} (ht : t < 24) : ∀ i, i < r → (nI (tr i) = nI t ↔ tr i = t) := by
  intro i hi
  have hr := h.1.1
  have := (h.2 i hi).2.2.2.1.1
  exact nI_eq (by omega) (by omega)
theorem cT_s (h : VwA r bo kd kn tr ct tk σ) : cnt tk r = sm (cT kd tk 1) r + sm (cT kd tk 0) r := by
  rw [← sm_add]
  refine sm_c (fun i hi => ?_)
  obtain ⟨-, hkd, -⟩ := h.2 i hi
  show (tk i).toNat = (tk i && decide (kd i = 1)).toNat + (tk i && decide (kd i = 0)).toNat
  cases tk i with
  | false => rfl
  | true => rcases two hkd.1 with e | e <;> rw [e] <;> rfl
theorem cT_le (k : Nat) : sm (cT kd tk k) r ≤ r := cnt_le (fun i => tk i && decide (kd i = k)) r
theorem ps_le : ps bo kd tk r 0 0 + ps bo kd tk r 0 1 + (ps bo kd tk r 1 0 + ps bo kd tk r 1 1) ≤ r := by
  unfold ps
  rw [← sm_add, ← sm_add, ← sm_add]
  have := sm_le (f := fun i => pr bo kd tk 0 0 i + pr bo kd tk 0 1 i + (pr bo kd tk 1 0 i + pr bo kd tk 1 1 i)) (c := 1) (n := r) (fun i _ => by
    show pr bo kd tk 0 0 i + pr bo kd tk 0 1 i + (pr bo kd tk 1 0 i + pr bo kd tk 1 1 i) ≤ 1
    unfold pr
    cases (tk i && decide (bo i ≠ 0)) with
    | false => simp
    | true =>
      by_cases a0 : kd (bo i - 1) = 0
      · by_cases b0 : kd i = 0 <;> by_cases b1 : kd i = 1 <;> simp [a0, b0, b1]
      · by_cases a1 : kd (bo i - 1) = 1
        · by_cases b0 : kd i = 0 <;> by_cases b1 : kd i = 1 <;> simp [a1, b0, b1]
        · simp [a0, a1])
  omega
/-- the class's pull, as a number -/
def pl (bo kd : Nat → Nat) (tk : Nat → Bool) (r k : Nat) : Nat := if k = 1 then ps bo kd tk r 0 1 * (ps bo kd tk r 1 0 + ps bo kd tk r 1 1) else ps bo kd tk r 1 0 * (ps bo kd tk r 0 0 + ps bo kd tk r 0 1)
theorem C_pull (hr : r ≤ 24) {τ : Sg} (h : CbP bo kd tk r σ τ) (d : Nat) {k : Nat} (hk : k < 2) : X_Shares_pull d (nI k) τ = some (some (.long (lN (pl bo kd tk r k))), τ) := by
  have hp := ps_le (r := r) (bo := bo) (kd := kd) (tk := tk)
  rw [X_Shares_pull_e, show τ.1 20 0 = _ from h.2.2 0 0 (by omega) (by omega), show τ.1 20 1 = _ from h.2.2 0 1 (by omega) (by omega), show τ.1 20 2 = _ from h.2.2 1 0 (by omega) (by omega), show τ.1 20 3 = _ from h.2.2 1 1 (by omega) (by omega), nI_add, nI_add, nI_l (by omega), nI_l (by omega), nI_l (by omega), nI_l (by omega), lN_mul, lN_mul]
  unfold pl
  rcases two hk with rfl | rfl
  · rw [xm_br_f (by decide), if_neg (by decide)]
  · rw [xm_br_t (by decide), if_pos rfl]
theorem pl_le (hr : r ≤ 24) (k : Nat) : pl bo kd tk r k ≤ 576 := by
  have hp := ps_le (r := r) (bo := bo) (kd := kd) (tk := tk)
  unfold pl
  rw [show 576 = 24 * 24 from rfl]
  split
  · exact Nat.mul_le_mul (by omega) (by omega)
  · exact Nat.mul_le_mul (by omega) (by omega)
/-- what byBringing answers for a kind -/
def bb (bo kd kn tr : Nat → Nat) (tk : Nat → Bool) (r k : Nat) : Nat := pl bo kd tk r k * cnt (tl kd kn tk (1 - k)) r * sm (bT kd kn tr tk k 99) r
theorem bb_le (hr : r ≤ 24) (k : Nat) : bb bo kd kn tr tk r k ≤ 576 * 24 * (24 * 232792560) := by
  have h1 := pl_le (bo := bo) (kd := kd) (tk := tk) hr k
  have h2 := cnt_le (tl kd kn tk (1 - k)) r
  have h3 := bTs_le (kd := kd) (kn := kn) (tr := tr) (tk := tk) (k := k) (but := 99) hr
  exact Nat.mul_le_mul (Nat.mul_le_mul h1 (by omega)) h3
theorem C_bb (h : VwA r bo kd kn tr ct tk σ) (d : Nat) {k : Nat} (hk : k < 2) : ∃ τ, X_Shares_byBringing (d + 3) (nI k) σ = some (some (.long (lN (bb bo kd kn tr tk r k))), τ) ∧ Es σ τ := by
  have hr := h.1.1
  obtain ⟨τ, t1, t2⟩ := C_cb h (d + 1)
  have hv := h.es t2.es
  refine ⟨τ, ?_, t2.es⟩
  rw [X_Shares_byBringing_e, t1, xm_cV_s, C_pull hr t2 _ hk, xm_cL_s, show (1 : Int32) - nI k = nI (1 - k) from pk_sub (a := 1) (b := k) (by omega), C_telling hv d (by omega), xm_cL_s, C_byT hv d hk (but_n hv), xm_cL_s, lN_mul, lN_mul]
  rfl
end SH
/-- what one that told brings, of kind k -/
def o1 (kd kn : Nat → Nat) (tk : Nat → Bool) (k : Nat) : Nat → Nat := fun i => if tl kd kn tk k i = true then 26771144400 / kn i else 0
theorem lq4 {X : Int64 → Int64 → Int32 → Int32 → Nat → Oz} {f g u v : Nat → Nat} {r : Nat} (st : ∀ i a b c e, i < r → X a b c e i = X (a + lN (f i)) (b + lN (g i)) (c + nI (u i)) (e + nI (v i)) (i + 1)) (a b : Int64) (c e : Int32) : ∀ m, m ≤ r → X a b c e 0 = X (a + lN (sm f m)) (b + lN (sm g m)) (c + nI (sm u m)) (e + nI (sm v m)) m
  | 0, _ => by rw [show sm f 0 = 0 from rfl, show sm g 0 = 0 from rfl, show sm u 0 = 0 from rfl, show sm v 0 = 0 from rfl, nI_0, lN_0]; simp
  | m + 1, h => by
    rw [lq4 st a b c e m (by omega), st m _ _ _ _ (by omega)]
    simp only [Int32.add_assoc, nI_add, Int64.add_assoc, lN_add]
    rfl
theorem o1_bT {r : Nat} {bo kd kn tr : Nat → Nat} {ct tk : Nat → Bool} {σ : Sg} (h : VwA r bo kd kn tr ct tk σ) (k : Nat) : sm (o1 kd kn tk k) r = 115 * sm (bT kd kn tr tk k 99) r := by
  rw [← sm_mul]
  refine sm_c (fun i hi => ?_)
  obtain ⟨-, -, hkn, htr, -⟩ := h.2 i hi
  have hr := h.1.1
  unfold o1 bT
  by_cases q : tl kd kn tk k i = true
  · rw [if_pos q, if_pos ⟨by omega, q⟩, k115 _ (by omega)]
  · rw [if_neg q, if_neg (fun e => q e.2)]
theorem C_mbb {r : Nat} {bo kd kn tr : Nat → Nat} {ct tk : Nat → Bool} {σ : Sg} (h : VwA r bo kd kn tr ct tk σ) (h64 : CtA r σ) (d : Nat) : ∃ a b, a < 2 ^ 63 ∧ b < 2 ^ 63 ∧ X_Mod_byBringing (d + 2) σ = some (none, AB (FB σ (nI (ps bo kd tk r 0 0 + ps bo kd tk r 0 1)) (nI (ps bo kd tk r 1 0 + ps bo kd tk r 1 1)) (nI (ps bo kd tk r 0 1)) (nI (ps bo kd tk r 1 0))) (lN a) (lN b)) ∧ ∀ w, frN (bb bo kd kn tr tk r 1) (bb bo kd kn tr tk r 1 + bb bo kd kn tr tk r 0) w = frN a b w := by
  have hr := h.1.1
  have hp := ps_le (r := r) (bo := bo) (kd := kd) (tk := tk)
  have c1 := cnt_le (tl kd kn tk 1) r
  have c0 := cnt_le (tl kd kn tk 0) r
  have s1 := o1_bT h 1
  have s0 := o1_bT h 0
  have l1 := bTs_le (kd := kd) (kn := kn) (tr := tr) (tk := tk) (k := 1) (but := 99) hr
  have l0 := bTs_le (kd := kd) (kn := kn) (tr := tr) (tk := tk) (k := 0) (but := 99) hr
  rw [X_Mod_byBringing_e, C_fb h h64 d, xm_cV_s]
  generalize hS : FB σ (nI (ps bo kd tk r 0 0 + ps bo kd tk r 0 1)) (nI (ps bo kd tk r 1 0 + ps bo kd tk r 1 1)) (nI (ps bo kd tk r 0 1)) (nI (ps bo kd tk r 1 0)) = S
  have hA : VwA r bo kd kn tr ct tk S := by rw [← hS]; exact h.es (FB_es (Es.rf σ) _ _ _ _)
  have h64' : CtA r S := by rw [← hS]; exact fun j hj => by rw [FB_c _ _ _ _ _ (by decide), FB_c _ _ _ _ _ (by decide)]; exact h64 j hj
  obtain ⟨v1, v2, v3, v4⟩ := FB_v σ (nI (ps bo kd tk r 0 0 + ps bo kd tk r 0 1)) (nI (ps bo kd tk r 1 0 + ps bo kd tk r 1 1)) (nI (ps bo kd tk r 0 1)) (nI (ps bo kd tk r 1 0))
  rw [hS] at v1 v2 v3 v4
  have st : ∀ i a b c e, i < r → X_Mod_byBringing_17 (d + 2) a b c e (nI i) S = X_Mod_byBringing_17 (d + 2) (a + lN (o1 kd kn tk 1 i)) (b + lN (o1 kd kn tk 0 i)) (c + nI (tl kd kn tk 1 i).toNat) (e + nI (tl kd kn tk 0 i).toNat) (nI (i + 1)) S := by
    intro i a b c e hi
    obtain ⟨-, hkd, hkn, -⟩ := hA.2 i hi
    rw [X_Mod_byBringing_17_e, hA.1.2.2.1, xm_br_f (nI_ge (by omega) (by omega)), C_mT hA h64' _ hi, xm_cI_s]
    simp only [xm_ix_n (show i < 24 by omega) (show 24 < 2 ^ 31 by omega), hkd.2.2, hkn.2.2, nI_1]
    have z : (∀ k, tl kd kn tk k i = false) → X_Mod_byBringing_17 (d + 2) a b c e (nI (i + 1)) S = X_Mod_byBringing_17 (d + 2) (a + lN (o1 kd kn tk 1 i)) (b + lN (o1 kd kn tk 0 i)) (c + nI (tl kd kn tk 1 i).toNat) (e + nI (tl kd kn tk 0 i).toNat) (nI (i + 1)) S := by
      intro hz
      have ho : ∀ k, o1 kd kn tk k i = 0 := fun k => if_neg (by rw [hz k]; decide)
      rw [ho, ho, hz, hz, show nI false.toNat = 0 from rfl, lN_0]
      simp
    cases ht : tk i with
    | false =>
      rw [xm_br_t (by decide)]
      exact z (fun k => by unfold tl; rw [ht]; rfl)
    | true =>
      rw [xm_br_f (by decide)]
      by_cases q : kn i = 0
      · rw [xm_br_t ((oK_m1 (by omega)).mpr q)]
        exact z (fun k => by unfold tl; rw [ht, decide_eq_false (fun e => e q)]; rfl)
      · rw [xm_br_f (fun e => q ((oK_m1 (by omega)).mp e)), oK_s q, nI_l (by omega), xm_dvL_n (l_ne0 (by omega) q), show (26771144400 : Int64) = lN 26771144400 from rfl, pk_lDiv (by omega) (by omega) (by omega)]
        have et : ∀ k, tl kd kn tk k i = decide (kd i = k) := fun k => by unfold tl; rw [ht, decide_eq_true q]; rfl
        unfold o1
        rw [et, et]
        rcases two hkd.1 with e1 | e1 <;> rw [e1]
        · rw [xm_br_f (by decide), xm_dvL_n (l_ne0 (by omega) q)]; rfl
        · rw [xm_br_t (by decide)]; rfl
  rw [show X_Mod_byBringing_17 (d + 1 + 1) 0 0 0 0 0 S = _ from lq4 (X := fun a b c e i => X_Mod_byBringing_17 (d + 2) a b c e (nI i) S) st 0 0 0 0 r (Nat.le_refl _), X_Mod_byBringing_17_e, hA.1.2.2.1, xm_br_t (nI_le (by omega) (by omega)), v1, v2]
  have z0 : ∀ x : Int64, 0 + x = x := fun x => by simp
  have z1 : ∀ x : Int32, 0 + x = x := fun x => by simp
  rw [z0, z0, z1, z1, show sm (fun i => (tl kd kn tk 1 i).toNat) r = cnt (tl kd kn tk 1) r from rfl, show sm (fun i => (tl kd kn tk 0 i).toNat) r = cnt (tl kd kn tk 0) r from rfl, AB_0]
  have tl0 : ∀ k, cnt (tl kd kn tk k) r = 0 → sm (bT kd kn tr tk k 99) r = 0 := by
    intro k hz
    have hpos : ∀ n, n ≤ r → sm (bT kd kn tr tk k 99) n = 0 := by
      intro n
      induction n with
      | zero => intro _; rfl
      | succ n ih =>
        intro hn
        have h1 := cnt_m (tl kd kn tk k) (i := n + 1) (j := r) hn
        rw [cnt_s] at h1
        have h2 : tl kd kn tk k n = false := by
          cases e : tl kd kn tk k n with
          | false => rfl
          | true => rw [e] at h1; have h1 : _ + 1 ≤ _ := h1; omega
        show sm (bT kd kn tr tk k 99) n + bT kd kn tr tk k 99 n = 0
        rw [ih (by omega)]
        unfold bT
        rw [h2, if_neg (fun e => by cases e.2)]
    exact hpos r (Nat.le_refl _)
  have nt : (ps bo kd tk r 0 0 + ps bo kd tk r 0 1 = 0 ∨ ps bo kd tk r 1 0 + ps bo kd tk r 1 1 = 0 ∨ cnt (tl kd kn tk 1) r = 0 ∨ cnt (tl kd kn tk 0) r = 0) → bb bo kd kn tr tk r 1 = 0 ∧ bb bo kd kn tr tk r 0 = 0 := by
    intro q
    unfold bb pl
    rw [if_pos rfl, if_neg (by decide), show 1 - 1 = 0 from rfl, show 1 - 0 = 1 from rfl]
    rcases q with q | q | q | q
    · rw [show ps bo kd tk r 0 1 = 0 by omega, show ps bo kd tk r 0 0 = 0 by omega]; simp
    · rw [show ps bo kd tk r 1 0 = 0 by omega, show ps bo kd tk r 1 1 = 0 by omega]; simp
    · rw [tl0 1 q, q]; simp
    · rw [tl0 0 q, q]; simp
  by_cases q1 : ps bo kd tk r 0 0 + ps bo kd tk r 0 1 = 0
  · refine ⟨0, 0, by omega, by omega, ?_, fun w => by rw [(nt (Or.inl q1)).1, (nt (Or.inl q1)).2]⟩
    rw [q1, xm_br_t (by decide)]; rfl
  rw [xm_br_f (nI_nle (by omega) (by omega))]
  by_cases q2 : ps bo kd tk r 1 0 + ps bo kd tk r 1 1 = 0
  · refine ⟨0, 0, by omega, by omega, ?_, fun w => by rw [(nt (Or.inr (Or.inl q2))).1, (nt (Or.inr (Or.inl q2))).2]⟩
    rw [q2, xm_br_t (by decide)]; rfl
  rw [xm_br_f (nI_nle (by omega) (by omega))]
  by_cases q3 : cnt (tl kd kn tk 1) r = 0
  · refine ⟨0, 0, by omega, by omega, ?_, fun w => by rw [(nt (Or.inr (Or.inr (Or.inl q3)))).1, (nt (Or.inr (Or.inr (Or.inl q3)))).2]⟩
    rw [q3, xm_br_t (by decide)]; rfl
  rw [xm_br_f (nI_nle (by omega) (by omega))]
  by_cases q4 : cnt (tl kd kn tk 0) r = 0
  · refine ⟨0, 0, by omega, by omega, ?_, fun w => by rw [(nt (Or.inr (Or.inr (Or.inr q4)))).1, (nt (Or.inr (Or.inr (Or.inr q4)))).2]⟩
    rw [q4, xm_br_t (by decide)]; rfl
  rw [xm_br_f (nI_nle (by omega) (by omega))]
  -- there are such: the common divisor
  have pos : 0 < sm (o1 kd kn tk 0) r := by
    refine Nat.pos_of_ne_zero (fun e => q4 ?_)
    have hz : ∀ n, n ≤ r → sm (o1 kd kn tk 0) n = 0 → cnt (tl kd kn tk 0) n = 0 := by
      intro n
      induction n with
      | zero => intro _ _; rfl
      | succ n ih =>
        intro hn e
        have e : sm (o1 kd kn tk 0) n + o1 kd kn tk 0 n = 0 := e
        rw [cnt_s, ih (by omega) (by omega)]
        cases et : tl kd kn tk 0 n with
        | false => rfl
        | true =>
          exfalso
          obtain ⟨-, k0, -⟩ := tl_kn et
          have hk := (h.2 n (by omega)).2.2.1.1
          have e2 : o1 kd kn tk 0 n = 26771144400 / kn n := if_pos et
          have e3 := k115 (kn n) (by omega)
          have e4 : 232792560 / 20 ≤ 232792560 / kn n := Nat.div_le_div_left hk (by omega)
          omega
    exact hz r (Nat.le_refl _) e
  have g0 := gcd_lt (a := sm (o1 kd kn tk 1) r) (b := sm (o1 kd kn tk 0) r) (by omega) (by omega)
  rw [F_div _ _ (by omega) (by omega), xm_cL_s, xm_dvL_n (l_ne0 g0.1 (by omega)), xm_dvL_n (l_ne0 g0.1 (by omega)), v1, v2, v3, v4]
  generalize hg : Nat.gcd (sm (o1 kd kn tk 1) r) (sm (o1 kd kn tk 0) r) = g at g0 ⊢
  have d1 : g * (sm (o1 kd kn tk 1) r / g) = 115 * sm (bT kd kn tr tk 1 99) r := by rw [← s1]; exact Nat.mul_div_cancel' (by rw [← hg]; exact Nat.gcd_dvd_left _ _)
  have d0 : g * (sm (o1 kd kn tk 0) r / g) = 115 * sm (bT kd kn tr tk 0 99) r := by rw [← s0]; exact Nat.mul_div_cancel' (by rw [← hg]; exact Nat.gcd_dvd_right _ _)
  have u1 : sm (o1 kd kn tk 1) r / g ≤ 115 * (24 * 232792560) := Nat.le_trans (Nat.div_le_self _ _) (by omega)
  have u0 : sm (o1 kd kn tk 0) r / g ≤ 115 * (24 * 232792560) := Nat.le_trans (Nat.div_le_self _ _) (by omega)
  rw [pk_lDiv (by omega) g0.2 g0.1, pk_lDiv (by omega) g0.2 g0.1, nI_l (by omega), nI_l (by omega), nI_l (by omega), nI_l (by omega), nI_l (by omega), nI_l (by omega), lN_mul, lN_mul, lN_mul, lN_mul, lN_mul, lN_mul, lN_add, AB_0]
  generalize hx : sm (o1 kd kn tk 1) r / g = X1 at d1 u1 ⊢
  generalize hy : sm (o1 kd kn tk 0) r / g = X0 at d0 u0 ⊢
  have m1 : ps bo kd tk r 0 1 * cnt (tl kd kn tk 0) r * (ps bo kd tk r 1 0 + ps bo kd tk r 1 1) * X1 ≤ 24 * 24 * 24 * (115 * (24 * 232792560)) := Nat.mul_le_mul (Nat.mul_le_mul (Nat.mul_le_mul (by omega) (by omega)) (by omega)) u1
  have m0 : ps bo kd tk r 1 0 * cnt (tl kd kn tk 1) r * (ps bo kd tk r 0 0 + ps bo kd tk r 0 1) * X0 ≤ 24 * 24 * 24 * (115 * (24 * 232792560)) := Nat.mul_le_mul (Nat.mul_le_mul (Nat.mul_le_mul (by omega) (by omega)) (by omega)) u0
  refine ⟨_, _, ?_, ?_, rfl, fun w => ?_⟩
  · omega
  · omega
  · rw [← frN_scale (a := bb bo kd kn tr tk r 1) (c := 115) (by omega), ← frN_scale (a := ps bo kd tk r 0 1 * cnt (tl kd kn tk 0) r * (ps bo kd tk r 1 0 + ps bo kd tk r 1 1) * X1) (c := g) g0.2]
    have e1 : bb bo kd kn tr tk r 1 * 115 = ps bo kd tk r 0 1 * cnt (tl kd kn tk 0) r * (ps bo kd tk r 1 0 + ps bo kd tk r 1 1) * X1 * g := by
      unfold bb pl
      rw [if_pos rfl, show 1 - 1 = 0 from rfl, Nat.mul_assoc _ _ 115, Nat.mul_comm _ 115, ← d1]
      simp only [Nat.mul_assoc, Nat.mul_comm, Nat.mul_left_comm]
    have e0 : bb bo kd kn tr tk r 0 * 115 = ps bo kd tk r 1 0 * cnt (tl kd kn tk 1) r * (ps bo kd tk r 0 0 + ps bo kd tk r 0 1) * X0 * g := by
      unfold bb pl
      rw [if_neg (by decide), show 1 - 0 = 1 from rfl, Nat.mul_assoc _ _ 115, Nat.mul_comm _ 115, ← d0]
      simp only [Nat.mul_assoc, Nat.mul_comm, Nat.mul_left_comm]
    rw [Nat.add_mul, Nat.add_mul, e1, e0]
