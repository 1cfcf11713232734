/-! SHARES: the reference's sums; bringing -/
def rf (kd kn tr : Nat → Nat) (tk : Nat → Bool) (more : Int32) (but : Nat) : Nat → Nat := fun i => if (tk i = true ∧ kn i ≠ 0) ∧ tr i ≠ but then 26771144400 / zI (oK (kn i) + (if kd i = 1 then more else -more)) else 0
def ra (kd kn tr : Nat → Nat) (tk : Nat → Bool) (more : Int32) (but : Nat) : Nat → Nat := fun i => if kd i = 1 then rf kd kn tr tk more but i else 0
/-- one brought: by kind x, of kind y -/
def pr (bo kd : Nat → Nat) (tk : Nat → Bool) (x y : Nat) : Nat → Nat := fun i => (tk i && decide (bo i ≠ 0) && decide (kd (bo i - 1) = x) && decide (kd i = y)).toNat
def ps (bo kd : Nat → Nat) (tk : Nat → Bool) (r x y : Nat) : Nat := sm (pr bo kd tk x y) r
section SH
variable {r : Nat} {bo kd kn tr : Nat → Nat} {ct tk : Nat → Bool} {σ : Sg}
theorem C_mbyT (h : VwA r bo kd kn tr ct tk σ) (h64 : CtA r σ) (d : Nat) {but : Nat} {y more : Int32} (hy : ∀ i, i < r → (nI (tr i) = y ↔ tr i = but)) : X_Mod_byTies (d + 1) more y σ = some (none, AB σ (lN (sm (ra kd kn tr tk more but) r)) (lN (sm (rf kd kn tr tk more but) r))) := by
  have hr := h.1.1
  have st : ∀ i a b, i < r → X_Mod_byTies_12 (d + 1) more y (nI i) (AB σ a b) = X_Mod_byTies_12 (d + 1) more y (nI (i + 1)) (AB σ (a + lN (ra kd kn tr tk more but i)) (b + lN (rf kd kn tr tk more but i))) := by
    intro i a b hi
    obtain ⟨-, hkd, hkn, htr, -⟩ := h.2 i hi
    have hA : VwA r bo kd kn tr ct tk (AB σ a b) := h
    rw [X_Mod_byTies_12_e, show (AB σ a b).1 39 26 = nI r from h.1.2.2.1, xm_br_f (nI_ge (by omega) (by omega)), C_mT hA h64 d hi, xm_cI_s]
    simp only [xm_ix_n (show i < 24 by omega) (show 24 < 2 ^ 31 by omega), AB_1, hkd.2.2, hkn.2.2, htr.2.2, X_Mod_byTies_128_e, nI_1]
    have z : ∀ a b : Int64, (a + lN 0 = a) ∧ (b + lN 0 = b) := fun a b => by rw [lN_0]; simp
    by_cases q1 : tk i = true ∧ kn i ≠ 0
    rotate_left
    · have e0 : rf kd kn tr tk more but i = 0 := if_neg (fun e => q1 e.1)
      have e1 : ra kd kn tr tk more but i = 0 := by unfold ra; rw [e0]; split <;> rfl
      rw [e0, e1, (z a b).1, (z a b).2]
      cases ht : tk i with
      | false => rw [xm_br_t (by decide)]
      | true =>
        have : kn i = 0 := Decidable.byContradiction (fun e => q1 ⟨ht, e⟩)
        rw [xm_br_f (by decide), xm_br_t ((oK_m1 (by omega)).mpr this)]
    rw [q1.1, xm_br_f (by decide), xm_br_f (fun e => q1.2 ((oK_m1 (by omega)).mp e))]
    by_cases q2 : tr i = but
    · have e0 : rf kd kn tr tk more but i = 0 := if_neg (fun e => e.2 q2)
      have e1 : ra kd kn tr tk more but i = 0 := by unfold ra; rw [e0]; split <;> rfl
      rw [e0, e1, (z a b).1, (z a b).2, xm_br_t ((hy i hi).mpr q2)]
    rw [xm_br_f (fun e => q2 ((hy i hi).mp e))]
    have b88 : ∀ (v : Nat), 1 ≤ v → v < 2 ^ 31 → X_Mod_byTies_88 (d + 1) more y (nI i) (nI v) 26771144400 (AB σ a b) = X_Mod_byTies_12 (d + 1) more y (nI (i + 1)) (AB σ (a + lN (if kd i = 1 then 26771144400 / v else 0)) (b + lN (26771144400 / v))) := by
      intro v v1 v2
      rw [X_Mod_byTies_88_e, nI_l v2, xm_dvL_n (l_ne0 (by omega) (by omega)), xm_ix_n (show i < 24 by omega) (by omega), show (AB σ a b).1 57 i = nI (kd i) from hkd.2.2, show (26771144400 : Int64) = lN 26771144400 from rfl, pk_lDiv (by omega) (by omega) (by omega), AB_37, AB_38, AB_b]
      by_cases q : kd i = 1
      · rw [xm_br_t (by rw [q]; rfl), if_pos q, X_Mod_byTies_124_e, X_Mod_byTies_128_e, AB_a, nI_1]
      · rw [xm_br_f (show ¬ nI (kd i) = 1 from fun e => q ((nI_eq (a := kd i) (b := 1) (by omega) (by omega)).mp e)), if_neg q, X_Mod_byTies_124_e, X_Mod_byTies_128_e, AB_a, nI_1]
        rfl
    have c88 : ∀ e : Int32, xm_br (1 ≤ e) (X_Mod_byTies_88 (d + 1) more y (nI i) e 26771144400 (AB σ a b)) (X_Mod_byTies_88 (d + 1) more y (nI i) 1 26771144400 (AB σ a b)) = X_Mod_byTies_12 (d + 1) more y (nI (i + 1)) (AB σ (a + lN (if kd i = 1 then 26771144400 / zI e else 0)) (b + lN (26771144400 / zI e))) := by
      intro e
      obtain ⟨-, z2, z3, z4, z5⟩ := zI_ok e
      rw [← b88 (zI e) z2 z3]
      by_cases q : 1 ≤ e
      · rw [xm_br_t q, ← z4 q]
      · rw [xm_br_f q, z5 q]; rfl
    rw [c88, c88]
    have e0 : rf kd kn tr tk more but i = 26771144400 / zI (oK (kn i) + (if kd i = 1 then more else -more)) := if_pos ⟨q1, q2⟩
    unfold ra
    rw [e0]
    by_cases q : kd i = 1
    · rw [xm_br_t (by rw [q]; rfl), if_pos q, if_pos q, if_pos q]
    · rw [xm_br_f (show ¬ nI (kd i) = 1 from fun e => q ((nI_eq (a := kd i) (b := 1) (by omega) (by omega)).mp e)), if_neg q, if_neg q, if_neg q]
  rw [X_Mod_byTies_e, AB_0, show X_Mod_byTies_12 (d + 1) more y 0 (AB σ 0 0) = _ from lpAB (X := fun i σ => X_Mod_byTies_12 (d + 1) more y (nI i) σ) st 0 0 r (Nat.le_refl _), X_Mod_byTies_12_e, show (AB σ (0 + lN (sm (ra kd kn tr tk more but) r)) (0 + lN (sm (rf kd kn tr tk more but) r))).1 39 26 = nI r from h.1.2.2.1, xm_br_t (nI_le (by omega) (by omega))]
  simp
theorem C_plain (h : VwA r bo kd kn tr ct tk σ) (h64 : CtA r σ) (d : Nat) : X_Mod_plainly (d + 1) σ = some (none, AB σ (lN (sm (cT kd tk 1) r)) (lN (cnt tk r))) := by
  have hr := h.1.1
  have st : ∀ i a b, i < r → X_Mod_plainly_12 (d + 1) (nI i) (AB σ a b) = X_Mod_plainly_12 (d + 1) (nI (i + 1)) (AB σ (a + lN (cT kd tk 1 i)) (b + lN (tk i).toNat)) := by
    intro i a b hi
    obtain ⟨-, hkd, -⟩ := h.2 i hi
    have hA : ∀ a b, VwA r bo kd kn tr ct tk (AB σ a b) := fun _ _ => h
    rw [X_Mod_plainly_12_e, show (AB σ a b).1 39 26 = nI r from h.1.2.2.1, xm_br_f (nI_ge (by omega) (by omega)), C_mT (hA a b) h64 d hi, xm_cI_s, xm_ix_n (show i < 24 by omega) (by omega), AB_37, AB_a, AB_a, C_mT (hA _ _) h64 d hi, xm_cI_s, C_mT (hA _ _) h64 d hi, xm_cI_s, AB_38, AB_b, AB_b, AB_b, AB_b, nI_1, show (AB σ a b).1 57 i = nI (kd i) from hkd.2.2]
    unfold cT
    cases ht : tk i with
    | false => rw [xm_br_t (by decide), xm_br_t (by decide)]; rfl
    | true =>
      rw [xm_br_f (by decide), xm_br_f (by decide), nI_l (by omega)]
      have e : (true && decide (kd i = 1)).toNat = kd i := by
        rcases two hkd.1 with e | e <;> rw [e] <;> rfl
      rw [e]; rfl
  rw [X_Mod_plainly_e, AB_0, show X_Mod_plainly_12 (d + 1) 0 (AB σ 0 0) = _ from lpAB (X := fun i σ => X_Mod_plainly_12 (d + 1) (nI i) σ) st 0 0 r (Nat.le_refl _), X_Mod_plainly_12_e, show (AB σ (0 + lN (sm (cT kd tk 1) r)) (0 + lN (sm (fun i => (tk i).toNat) r))).1 39 26 = nI r from h.1.2.2.1, xm_br_t (nI_le (by omega) (by omega))]
  simp [cnt]
end SH
-- who brings whom: the class
def CbP (bo kd : Nat → Nat) (tk : Nat → Bool) (r : Nat) (σ τ : Sg) : Prop := (∀ c, c ≠ 20 → τ.1 c = σ.1 c) ∧ τ.2 = σ.2 ∧ ∀ x y, x < 2 → y < 2 → τ.1 20 (2 * x + y) = nI (ps bo kd tk r x y)
theorem CbP.es {bo kd : Nat → Nat} {tk : Nat → Bool} {r : Nat} {σ τ : Sg} (h : CbP bo kd tk r σ τ) : Es σ τ :=
  ⟨fun c hc => h.1 c (by rintro rfl; revert hc; decide), fun j _ => by rw [h.1 39 (by decide)], by rw [h.2.1], by rw [h.2.1]⟩
theorem C_cb {r : Nat} {bo kd kn tr : Nat → Nat} {ct tk : Nat → Bool} {σ : Sg} (h : VwA r bo kd kn tr ct tk σ) (d : Nat) : ∃ τ, X_Shares_countBringing (d + 1) σ = some (none, τ) ∧ CbP bo kd tk r σ τ := by
  have hr := h.1.1
  obtain ⟨υ, u1, u2, u3, u4⟩ := fl_20 d 0 σ
  have loop : ∀ (m i : Nat) (τ : Sg), i + m = r → CbP bo kd tk i σ τ → ∃ ρ, X_Shares_countBringing_10 (d + 1) (nI i) τ = some (none, ρ) ∧ CbP bo kd tk r σ ρ := by
    intro m
    induction m with
    | zero =>
      intro i τ hi ht
      have : i = r := by omega
      subst this
      refine ⟨τ, ?_, ht⟩
      rw [X_Shares_countBringing_10_e, ht.1 9 (by decide), h.1.2.1, xm_br_t (nI_le (by omega) (by omega))]
    | succ m ih =>
      intro i τ hi ht
      obtain ⟨hb, hkd, -⟩ := h.2 i (by omega)
      have hv : VwA r bo kd kn tr ct tk τ := h.es ht.es
      rw [X_Shares_countBringing_10_e, hv.1.2.1, xm_br_f (nI_ge (by omega) (by omega)), xm_ix_n (show i < 24 by omega) (by omega), C_isT hv d (by omega), xm_cI_s, nI_1, (hv.2 i (by omega)).1.2.1]
      have same : (∀ x y, x < 2 → y < 2 → pr bo kd tk x y i = 0) → ∃ ρ, X_Shares_countBringing_10 (d + 1) (nI (i + 1)) τ = some (none, ρ) ∧ CbP bo kd tk r σ ρ := by
        intro hz
        refine ih (i + 1) τ (by omega) ⟨ht.1, ht.2.1, fun x y hx hy => ?_⟩
        rw [ht.2.2 x y hx hy]
        show nI (sm (pr bo kd tk x y) i) = nI (sm (pr bo kd tk x y) i + pr bo kd tk x y i)
        rw [hz x y hx hy]
        rfl
      cases hk : tk i with
      | false =>
        rw [xm_br_t (by decide)]
        exact same (fun x y _ _ => by unfold pr; rw [hk]; rfl)
      | true =>
        rw [xm_br_f (by decide)]
        by_cases q : bo i = 0
        · rw [xm_br_t ((oI_m1 (by omega)).mpr q)]
          exact same (fun x y _ _ => by unfold pr; rw [hk, decide_eq_false (fun e => e q)]; rfl)
        · obtain ⟨-, hkb, -⟩ := h.2 (bo i - 1) (by omega)
          have e1 : τ.1 11 (bo i - 1) = nI (kd (bo i - 1)) := by rw [ht.1 11 (by decide)]; exact hkb.2.1
          have e2 : τ.1 11 i = nI (kd i) := by rw [ht.1 11 (by decide)]; exact hkd.2.1
          have e3 : 2 * nI (kd (bo i - 1)) + nI (kd i) = nI (2 * kd (bo i - 1) + kd i) := by
            rw [← nI_add, ← pk_mul]; rfl
          rw [xm_br_f (fun e => q ((oI_m1 (by omega)).mp e)), oI_s q, xm_ix_n (show bo i - 1 < 24 by omega) (by omega), xm_ix_n (show i < 24 by omega) (by omega), e1, e2, e3, xm_ix_n (by omega) (by omega), xm_ix_n (by omega) (by omega), ht.2.2 _ _ hkb.1 hkd.1, nI_1]
          refine ih (i + 1) _ (by omega) ⟨fun c hc => by rw [sI_cell _ _ _ hc]; exact ht.1 c hc, ht.2.1, fun x y hx hy => ?_⟩
          rw [sI_at]
          show _ = nI (sm (pr bo kd tk x y) i + pr bo kd tk x y i)
          have ep : pr bo kd tk x y i = (decide (kd (bo i - 1) = x) && decide (kd i = y)).toNat := by
            unfold pr
            rw [hk, decide_eq_true q]
            rfl
          rw [ep]
          by_cases q1 : kd (bo i - 1) = x
          · by_cases q2 : kd i = y
            · rw [if_pos (by omega), decide_eq_true q1, decide_eq_true q2, q1, q2]; rfl
            · rw [if_neg (by omega), decide_eq_false q2, ht.2.2 x y hx hy, Bool.and_false]; rfl
          · rw [if_neg (by omega), decide_eq_false q1, ht.2.2 x y hx hy]; rfl
  obtain ⟨ρ, r1, r2⟩ := loop r 0 υ (by omega) ⟨u3, u4, fun x y hx hy => by rw [u2 _ (by omega)]; rfl⟩
  refine ⟨ρ, ?_, r2⟩
  rw [X_Shares_countBringing_e, u1, xm_cV_s]
  exact r1
-- the reference
def FB (σ : Sg) (a b c e : Int32) : Sg := (fun k => if k = 39 then (fun j => if j = 39 then a else if j = 40 then b else if j = 41 then c else if j = 42 then e else σ.1 39 j) else σ.1 k, σ.2)
theorem FB_0 (σ : Sg) (a b c e : Int32) : xm_sI (xm_sI (xm_sI (xm_sI σ 39 39 a) 39 40 b) 39 41 c) 39 42 e = FB σ a b c e := by
  unfold FB xm_sI upd
  refine Prod.ext ?_ rfl
  funext k
  by_cases hk : k = 39
  · subst hk
    funext j
    by_cases h1 : j = 39
    · subst h1; simp
    · by_cases h2 : j = 40
      · subst h2; simp
      · by_cases h3 : j = 41
        · subst h3; simp
        · by_cases h4 : j = 42 <;> simp [h1, h2, h3, h4]
  · simp [hk]
theorem FB_s (σ : Sg) (a b c e a' b' c' e' : Int32) : xm_sI (xm_sI (xm_sI (xm_sI (FB σ a b c e) 39 40 b') 39 39 a') 39 42 e') 39 41 c' = FB σ a' b' c' e' := by
  unfold FB xm_sI upd
  refine Prod.ext ?_ rfl
  funext k
  by_cases hk : k = 39
  · subst hk
    funext j
    by_cases h1 : j = 39
    · subst h1; simp
    · by_cases h2 : j = 40
      · subst h2; simp
      · by_cases h3 : j = 41
        · subst h3; simp
        · by_cases h4 : j = 42 <;> simp [h1, h2, h3, h4]
  · simp [hk]
theorem FB_c (σ : Sg) (a b c e : Int32) {k : Nat} (h : k ≠ 39) : (FB σ a b c e).1 k = σ.1 k := if_neg h
theorem FB_m (σ : Sg) (a b c e : Int32) {j : Nat} (h : j < 39 ∨ 42 < j) : (FB σ a b c e).1 39 j = σ.1 39 j := by
  unfold FB
  simp only [if_true]
  rw [if_neg (by omega), if_neg (by omega), if_neg (by omega), if_neg (by omega)]
theorem FB_v (σ : Sg) (a b c e : Int32) : (FB σ a b c e).1 39 39 = a ∧ (FB σ a b c e).1 39 40 = b ∧ (FB σ a b c e).1 39 41 = c ∧ (FB σ a b c e).1 39 42 = e := by
  unfold FB
  simp
theorem FB_es {σ τ : Sg} (h : Es σ τ) (a b c e : Int32) : Es σ (FB τ a b c e) := by
  refine ⟨fun k hk => ?_, fun j hj => ?_, h.2.2.1, h.2.2.2⟩
  · rw [FB_c _ _ _ _ _ (by rintro rfl; revert hk; decide)]; exact h.1 k hk
  · rw [FB_m _ _ _ _ _ (Or.inl (by revert j; decide))]; exact h.2.1 j hj
theorem lpFB {X : Nat → Sg → Oz} {σ : Sg} {f g u v : Nat → Nat} {r : Nat} (st : ∀ i a b c e, i < r → X i (FB σ a b c e) = X (i + 1) (FB σ (a + nI (f i)) (b + nI (g i)) (c + nI (u i)) (e + nI (v i)))) (a b c e : Int32) : ∀ m, m ≤ r → X 0 (FB σ a b c e) = X m (FB σ (a + nI (sm f m)) (b + nI (sm g m)) (c + nI (sm u m)) (e + nI (sm v m)))
  | 0, _ => by rw [show sm f 0 = 0 from rfl, show sm g 0 = 0 from rfl, show sm u 0 = 0 from rfl, show sm v 0 = 0 from rfl, nI_0]; simp
  | m + 1, h => by
    rw [lpFB st a b c e m (by omega), st m _ _ _ _ (by omega)]
    simp only [Int32.add_assoc, nI_add]
    rfl
theorem sm_add (f g : Nat → Nat) : ∀ n, sm (fun i => f i + g i) n = sm f n + sm g n
  | 0 => rfl
  | n + 1 => by
    show sm (fun i => f i + g i) n + (f n + g n) = sm f n + f n + (sm g n + g n)
    rw [sm_add f g n]
    omega
theorem C_fb {r : Nat} {bo kd kn tr : Nat → Nat} {ct tk : Nat → Bool} {σ : Sg} (h : VwA r bo kd kn tr ct tk σ) (h64 : CtA r σ) (d : Nat) : X_Mod_findBrought (d + 1) σ = some (none, FB σ (nI (ps bo kd tk r 0 0 + ps bo kd tk r 0 1)) (nI (ps bo kd tk r 1 0 + ps bo kd tk r 1 1)) (nI (ps bo kd tk r 0 1)) (nI (ps bo kd tk r 1 0))) := by
  have hr := h.1.1
  have st : ∀ i a b c e, i < r → X_Mod_findBrought_22 (d + 1) (nI i) (FB σ a b c e) = X_Mod_findBrought_22 (d + 1) (nI (i + 1)) (FB σ (a + nI (pr bo kd tk 0 0 i + pr bo kd tk 0 1 i)) (b + nI (pr bo kd tk 1 0 i + pr bo kd tk 1 1 i)) (c + nI (pr bo kd tk 0 1 i)) (e + nI (pr bo kd tk 1 0 i))) := by
    intro i a b c e hi
    obtain ⟨hb, hkd, -⟩ := h.2 i hi
    have hA : VwA r bo kd kn tr ct tk (FB σ a b c e) := h.es (FB_es (Es.rf σ) a b c e)
    have h64' : CtA r (FB σ a b c e) := fun j hj => by rw [FB_c _ _ _ _ _ (by decide), FB_c _ _ _ _ _ (by decide)]; exact h64 j hj
    obtain ⟨v1, v2, v3, v4⟩ := FB_v σ a b c e
    rw [X_Mod_findBrought_22_e, hA.1.2.2.1, xm_br_f (nI_ge (by omega) (by omega)), C_mT hA h64' d hi, xm_cI_s]
    simp only [xm_ix_n (show i < 24 by omega) (show 24 < 2 ^ 31 by omega), FB_c _ _ _ _ _ (by decide : (56 : Nat) ≠ 39), FB_c _ _ _ _ _ (by decide : (57 : Nat) ≠ 39), hb.2.2, hkd.2.2, nI_1, v1, v2, v3, v4, FB_s]
    have z : (∀ x y, x < 2 → y < 2 → pr bo kd tk x y i = 0) → X_Mod_findBrought_22 (d + 1) (nI (i + 1)) (FB σ a b c e) = X_Mod_findBrought_22 (d + 1) (nI (i + 1)) (FB σ (a + nI (pr bo kd tk 0 0 i + pr bo kd tk 0 1 i)) (b + nI (pr bo kd tk 1 0 i + pr bo kd tk 1 1 i)) (c + nI (pr bo kd tk 0 1 i)) (e + nI (pr bo kd tk 1 0 i))) := by
      intro hz
      rw [hz 0 0 (by omega) (by omega), hz 0 1 (by omega) (by omega), hz 1 0 (by omega) (by omega), hz 1 1 (by omega) (by omega), show nI (0 + 0) = 0 from rfl]
      simp
    cases hk : tk i with
    | false =>
      rw [xm_br_t (by decide)]
      exact z (fun x y _ _ => by unfold pr; rw [hk]; rfl)
    | true =>
      rw [xm_br_f (by decide)]
      by_cases q : bo i = 0
      · rw [xm_br_t ((oI_m1 (by omega)).mpr q)]
        exact z (fun x y _ _ => by unfold pr; rw [hk, decide_eq_false (fun e => e q)]; rfl)
      · obtain ⟨-, hkb, -⟩ := h.2 (bo i - 1) (by omega)
        rw [xm_br_f (fun e => q ((oI_m1 (by omega)).mp e)), oI_s q, xm_ix_n (show bo i - 1 < 24 by omega) (by omega), hkb.2.2]
        have ep : ∀ x y, pr bo kd tk x y i = (decide (kd (bo i - 1) = x) && decide (kd i = y)).toNat := by
          intro x y
          unfold pr
          rw [hk, decide_eq_true q]
          rfl
        rw [ep, ep, ep, ep]
        rcases two hkb.1 with e1 | e1 <;> rcases two hkd.1 with e2 | e2 <;> rw [e1, e2]
        · rw [xm_br_f (by decide), xm_br_f (by decide)]; rfl
        · rw [xm_br_f (by decide), xm_br_t (by decide)]; rfl
        · rw [xm_br_t (by decide), xm_br_t (by decide)]; rfl
        · rw [xm_br_t (by decide), xm_br_f (by decide)]; rfl
  rw [X_Mod_findBrought_e, FB_0, show X_Mod_findBrought_22 (d + 1) 0 (FB σ 0 0 0 0) = _ from lpFB (X := fun i σ => X_Mod_findBrought_22 (d + 1) (nI i) σ) st 0 0 0 0 r (Nat.le_refl _), X_Mod_findBrought_22_e, FB_m _ _ _ _ _ (by omega), h.1.2.2.1, xm_br_t (nI_le (by omega) (by omega)), sm_add, sm_add]
  simp [ps]
