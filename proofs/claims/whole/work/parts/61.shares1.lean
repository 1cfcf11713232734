/-! SHARES: sums over records -/
theorem lpL {X : Int64 → Nat → Oz} {f : Nat → Nat} {r : Nat} (st : ∀ i a, i < r → X a i = X (a + lN (f i)) (i + 1)) (a : Int64) : ∀ m, m ≤ r → X a 0 = X (a + lN (sm f m)) m
  | 0, _ => by rw [show sm f 0 = 0 from rfl, lN_0]; simp
  | m + 1, h => by
    rw [lpL st a m (by omega), st m _ (by omega), Int64.add_assoc, lN_add]
    rfl
theorem lpI {X : Int32 → Nat → Oz} {f : Nat → Nat} {r : Nat} (st : ∀ i a, i < r → X a i = X (a + nI (f i)) (i + 1)) (a : Int32) : ∀ m, m ≤ r → X a 0 = X (a + nI (sm f m)) m
  | 0, _ => by rw [show sm f 0 = 0 from rfl, nI_0]; simp
  | m + 1, h => by
    rw [lpI st a m (by omega), st m _ (by omega), Int32.add_assoc, nI_add]
    rfl
/-- told what it knows, taken, of kind k -/
def tl (kd kn : Nat → Nat) (tk : Nat → Bool) (k i : Nat) : Bool := tk i && decide (kn i ≠ 0) && decide (kd i = k)
def cT (kd : Nat → Nat) (tk : Nat → Bool) (k : Nat) : Nat → Nat := fun i => (tk i && decide (kd i = k)).toNat
def bT (kd kn tr : Nat → Nat) (tk : Nat → Bool) (k but : Nat) : Nat → Nat := fun i => if tr i ≠ but ∧ tl kd kn tk k i = true then 232792560 / kn i else 0
/-- 1 at least -/
def zI (e : Int32) : Nat := (xm_imax 1 e).toNatClampNeg
theorem zI_ok (e : Int32) : xm_imax 1 e = nI (zI e) ∧ 1 ≤ zI e ∧ zI e < 2 ^ 31 ∧ (1 ≤ e → e = nI (zI e)) ∧ (¬ 1 ≤ e → zI e = 1) := by
  unfold zI xm_imax
  by_cases h : (1 : Int32) < e
  · rw [if_pos h]
    obtain ⟨j, hj, rfl⟩ := nI_of (x := e) (by rw [fa_lt] at h ⊢; have h : (1 : Int) < e.toInt := h; show ¬ e.toInt < 0; omega)
    rw [nI_clamp hj]
    have h : nI 1 < nI j := h
    rw [nI_ltI (by omega) hj] at h
    refine ⟨rfl, by omega, hj, fun _ => rfl, fun q => ?_⟩
    exact absurd (nI_le (a := 1) (b := j) (by omega) hj) q
  · rw [if_neg h]
    refine ⟨rfl, by decide, by decide, fun q => ?_, fun _ => by decide⟩
    have h : ¬ (1 : Int) < e.toInt := by rw [fa_lt] at h; exact h
    have q : (1 : Int) ≤ e.toInt := by rw [fa_le] at q; exact q
    apply Int32.toInt_inj.mp
    show e.toInt = 1
    omega
def rT (kd kn : Nat → Nat) (tk : Nat → Bool) (k : Nat) (sh : Int32) : Nat → Nat := fun i => if tl kd kn tk k i = true then 26771144400 / zI (oK (kn i) + sh) else 0
theorem two {k : Nat} (h : k < 2) : k = 0 ∨ k = 1 := by omega
section SH
variable {r : Nat} {bo kd kn tr : Nat → Nat} {ct tk : Nat → Bool} {σ : Sg} (h : VwA r bo kd kn tr ct tk σ)
theorem C_taken (h : VwA r bo kd kn tr ct tk σ) (d : Nat) {k : Nat} (hk : k < 2) : X_Shares_taken (d + 1) (nI k) σ = some (some (.long (lN (sm (cT kd tk k) r))), σ) := by
  have hr := h.1.1
  have st : ∀ i a, i < r → X_Shares_taken_5 (d + 1) (nI k) a (nI i) σ = X_Shares_taken_5 (d + 1) (nI k) (a + lN (cT kd tk k i)) (nI (i + 1)) σ := by
    intro i a hi
    have hkd := (h.2 i hi).2.1
    rw [X_Shares_taken_5_e, h.1.2.1, xm_br_f (nI_ge (by omega) (by omega)), C_isT h d hi, xm_cI_s, xm_ix_n (by omega) (by omega), hkd.2.1, nI_1]
    unfold cT
    cases ht : tk i with
    | false => rw [xm_br_t (by decide)]; rfl
    | true =>
      rw [xm_br_f (by decide)]
      by_cases q : kd i = k
      · rw [xm_br_t (by rw [q]), decide_eq_true q]; rfl
      · rw [xm_br_f (fun e => q ((nI_eq (by omega) (by omega)).mp e)), decide_eq_false q]; rfl
  rw [X_Shares_taken_e, show X_Shares_taken_5 (d + 1) (nI k) 0 0 σ = _ from lpL (X := fun a i => X_Shares_taken_5 (d + 1) (nI k) a (nI i) σ) st 0 r (Nat.le_refl _), X_Shares_taken_5_e, h.1.2.1, xm_br_t (nI_le (by omega) (by omega))]
  simp
theorem C_tells' (h : VwA r bo kd kn tr ct tk σ) (d : Nat) {i k : Nat} (hi : i < r) (hk : k < 2) : X_Shares_tells (d + 1) (nI i) (nI k) σ = some (some (.int (nI (tl kd kn tk k i).toNat)), σ) := by
  have hr := h.1.1
  obtain ⟨-, hkd, hkn, -⟩ := h.2 i hi
  rw [X_Shares_tells_e]
  simp only [xm_ix_n (show i < 24 by omega) (show 24 < 2 ^ 31 by omega), hkn.2.1, hkd.2.1, C_isT h d hi, xm_cI_s]
  unfold tl
  by_cases q : kn i = 0
  · rw [xm_br_t ((oK_m1 (by omega)).mpr q), decide_eq_false (fun e => e q)]
    cases tk i <;> rfl
  · rw [xm_br_f (fun e => q ((oK_m1 (by omega)).mp e)), decide_eq_true q]
    cases ht : tk i with
    | false => rw [xm_br_t (by decide)]; rfl
    | true =>
      rw [xm_br_f (by decide)]
      by_cases q2 : kd i = k
      · rw [xm_br_t (by rw [q2]), decide_eq_true q2]; rfl
      · rw [xm_br_f (fun e => q2 ((nI_eq (by omega) (by omega)).mp e)), decide_eq_false q2]; rfl
theorem tl_kn {kd kn : Nat → Nat} {tk : Nat → Bool} {k i : Nat} (h : tl kd kn tk k i = true) : tk i = true ∧ kn i ≠ 0 ∧ kd i = k := by
  unfold tl at h
  simp only [Bool.and_eq_true, decide_eq_true_eq] at h
  exact ⟨h.1.1, h.1.2, h.2⟩
theorem C_telling (h : VwA r bo kd kn tr ct tk σ) (d : Nat) {k : Nat} (hk : k < 2) : X_Shares_telling (d + 2) (nI k) σ = some (some (.long (lN (cnt (tl kd kn tk k) r))), σ) := by
  have hr := h.1.1
  have st : ∀ i a, i < r → X_Shares_telling_5 (d + 2) (nI k) a (nI i) σ = X_Shares_telling_5 (d + 2) (nI k) (a + lN (tl kd kn tk k i).toNat) (nI (i + 1)) σ := by
    intro i a hi
    rw [X_Shares_telling_5_e, h.1.2.1, xm_br_f (nI_ge (by omega) (by omega)), C_tells' h d hi hk, xm_cI_s, nI_1]
    cases tl kd kn tk k i with
    | false => rw [xm_br_t (by decide)]; rfl
    | true => rw [xm_br_f (by decide)]; rfl
  rw [X_Shares_telling_e, show X_Shares_telling_5 (d + 2) (nI k) 0 0 σ = _ from lpL (X := fun a i => X_Shares_telling_5 (d + 2) (nI k) a (nI i) σ) st 0 r (Nat.le_refl _), X_Shares_telling_5_e, h.1.2.1, xm_br_t (nI_le (by omega) (by omega))]
  simp [cnt]
theorem C_byT (h : VwA r bo kd kn tr ct tk σ) (d : Nat) {k but : Nat} {y : Int32} (hk : k < 2) (hy : ∀ i, i < r → (nI (tr i) = y ↔ tr i = but)) : X_Shares_byTies (d + 2) (nI k) y σ = some (some (.long (lN (sm (bT kd kn tr tk k but) r))), σ) := by
  have hr := h.1.1
  have st : ∀ i a, i < r → X_Shares_byTies_5 (d + 2) (nI k) y a (nI i) σ = X_Shares_byTies_5 (d + 2) (nI k) y (a + lN (bT kd kn tr tk k but i)) (nI (i + 1)) σ := by
    intro i a hi
    obtain ⟨-, hkd, hkn, htr, -⟩ := h.2 i hi
    rw [X_Shares_byTies_5_e, h.1.2.1, xm_br_f (nI_ge (by omega) (by omega)), C_tells' h d hi hk, xm_cI_s, nI_1]
    simp only [xm_ix_n (show i < 24 by omega) (show 24 < 2 ^ 31 by omega), hkn.2.1, htr.2.1]
    unfold bT
    by_cases q : tr i = but
    · rw [xm_br_t ((hy i hi).mpr q), if_neg (fun e => e.1 q)]; rfl
    · rw [xm_br_f (fun e => q ((hy i hi).mp e))]
      by_cases q2 : tl kd kn tk k i = true
      · obtain ⟨-, k0, -⟩ := tl_kn q2
        rw [if_pos ⟨q, q2⟩, q2, xm_br_f (by decide), oK_s k0]
        have e1 : xm_imax 1 (nI (kn i)) = nI (kn i) := by
          have := imax_n (a := 1) (b := kn i) (by omega) (by omega)
          rw [Nat.max_eq_right (by omega)] at this
          exact this
        rw [e1, nI_l (by omega), xm_dvL_n (l_ne0 (by omega) k0), show (232792560 : Int64) = lN 232792560 from rfl, pk_lDiv (by omega) (by omega) (by omega)]
      · rw [if_neg (fun e => q2 e.2)]
        rw [Bool.not_eq_true] at q2
        rw [q2, xm_br_t (by decide)]; rfl
  rw [X_Shares_byTies_e, show X_Shares_byTies_5 (d + 2) (nI k) y 0 0 σ = _ from lpL (X := fun a i => X_Shares_byTies_5 (d + 2) (nI k) y a (nI i) σ) st 0 r (Nat.le_refl _), X_Shares_byTies_5_e, h.1.2.1, xm_br_t (nI_le (by omega) (by omega))]
  simp
theorem C_rnd (h : VwA r bo kd kn tr ct tk σ) (d : Nat) {k : Nat} (sh : Int32) (hk : k < 2) : X_Shares_rounded (d + 2) (nI k) sh σ = some (some (.long (lN (sm (rT kd kn tk k sh) r))), σ) := by
  have hr := h.1.1
  have st : ∀ i a, i < r → X_Shares_rounded_5 (d + 2) (nI k) sh a (nI i) σ = X_Shares_rounded_5 (d + 2) (nI k) sh (a + lN (rT kd kn tk k sh i)) (nI (i + 1)) σ := by
    intro i a hi
    obtain ⟨-, hkd, hkn, htr, -⟩ := h.2 i hi
    rw [X_Shares_rounded_5_e, h.1.2.1, xm_br_f (nI_ge (by omega) (by omega)), C_tells' h d hi hk, xm_cI_s, nI_1]
    simp only [xm_ix_n (show i < 24 by omega) (show 24 < 2 ^ 31 by omega), hkn.2.1]
    unfold rT
    by_cases q2 : tl kd kn tk k i = true
    · obtain ⟨z1, z2, z3, -⟩ := zI_ok (oK (kn i) + sh)
      rw [if_pos q2, q2, xm_br_f (by decide), z1, nI_l z3, xm_dvL_n (l_ne0 (by omega) (by omega)), show (26771144400 : Int64) = lN 26771144400 from rfl, pk_lDiv (by omega) (by omega) (by omega)]
    · rw [if_neg q2]
      rw [Bool.not_eq_true] at q2
      rw [q2, xm_br_t (by decide)]; rfl
  rw [X_Shares_rounded_e, show X_Shares_rounded_5 (d + 2) (nI k) sh 0 0 σ = _ from lpL (X := fun a i => X_Shares_rounded_5 (d + 2) (nI k) sh a (nI i) σ) st 0 r (Nat.le_refl _), X_Shares_rounded_5_e, h.1.2.1, xm_br_t (nI_le (by omega) (by omega))]
  simp
end SH
-- the reference's above and below
def AB (σ : Sg) (a b : Int64) : Sg := (σ.1, fun c j => if c = 39 ∧ j = 37 then a else if c = 39 ∧ j = 38 then b else σ.2 c j)
theorem AB_0 (σ : Sg) (a b : Int64) : xm_sL (xm_sL σ 39 37 a) 39 38 b = AB σ a b := by
  unfold AB xm_sL vp_updL
  refine Prod.ext rfl ?_
  funext c j
  by_cases hc : c = 39
  · subst hc
    by_cases h1 : j = 37
    · subst h1; simp
    · by_cases h2 : j = 38 <;> simp [h1, h2]
  · simp [hc]
theorem AB_b (σ : Sg) (a b c : Int64) : xm_sL (AB σ a b) 39 38 c = AB σ a c := by
  rw [← AB_0, ← AB_0]
  unfold xm_sL vp_updL
  refine Prod.ext rfl ?_
  funext c j
  by_cases hc : c = 39
  · subst hc
    by_cases h2 : j = 38 <;> simp [h2]
  · simp [hc]
theorem AB_a (σ : Sg) (a b c : Int64) : xm_sL (AB σ a b) 39 37 c = AB σ c b := by
  unfold AB xm_sL vp_updL
  refine Prod.ext rfl ?_
  funext e j
  by_cases hc : e = 39
  · subst hc
    by_cases h1 : j = 37
    · subst h1; simp
    · by_cases h2 : j = 38 <;> simp [h1, h2]
  · simp [hc]
theorem AB_AB (σ : Sg) (a b c e : Int64) : AB (AB σ a b) c e = AB σ c e := by
  rw [← AB_0 (AB σ a b), AB_a, AB_b]
theorem AB_37 (σ : Sg) (a b : Int64) : (AB σ a b).2 39 37 = a := by simp [AB]
theorem AB_38 (σ : Sg) (a b : Int64) : (AB σ a b).2 39 38 = b := by simp [AB]
theorem AB_1 (σ : Sg) (a b : Int64) : (AB σ a b).1 = σ.1 := rfl
theorem AB_es {σ τ : Sg} (h : Es σ τ) (a b : Int64) : Es σ (AB τ a b) := by
  refine ⟨h.1, h.2.1, ?_, ?_⟩
  · rw [← h.2.2.1]; funext j; simp [AB]
  · rw [← h.2.2.2]; funext j; simp [AB]
theorem AB_0' (σ : Sg) (a b : Int64) (c e : Int64) : xm_sL (xm_sL (AB σ a b) 39 37 c) 39 38 e = AB σ c e := by rw [AB_a, AB_b]
theorem lpAB {X : Nat → Sg → Oz} {σ : Sg} {f g : Nat → Nat} {r : Nat} (st : ∀ i a b, i < r → X i (AB σ a b) = X (i + 1) (AB σ (a + lN (f i)) (b + lN (g i)))) (a b : Int64) : ∀ m, m ≤ r → X 0 (AB σ a b) = X m (AB σ (a + lN (sm f m)) (b + lN (sm g m)))
  | 0, _ => by rw [show sm f 0 = 0 from rfl, show sm g 0 = 0 from rfl, lN_0]; simp
  | m + 1, h => by
    rw [lpAB st a b m (by omega), st m _ _ (by omega), Int64.add_assoc, lN_add, Int64.add_assoc, lN_add]
    rfl
