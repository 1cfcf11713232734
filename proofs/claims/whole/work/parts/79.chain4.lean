/-! CHAINS: the class's sums over ended ones -/
theorem lq1 {X : Int64 → Nat → Oz} {F : Nat → Nat} {N : Nat} (st : ∀ i a, 1 ≤ i → i < N → X a i = X (a + lN (F i)) (i + 1)) (h0 : F 0 = 0) (a : Int64) : ∀ m, 1 ≤ m → m ≤ N → X a 1 = X (a + lN (sm F m)) m
  | 0, h, _ => by omega
  | m + 1, _, h => by
    by_cases e : m = 0
    · subst e
      show X a 1 = X (a + lN (0 + F 0)) 1
      rw [h0, lN_0]
      simp
    · rw [lq1 st h0 a m (by omega) (by omega), st m _ (by omega) (by omega), Int64.add_assoc, lN_add]
      rfl
/-- a property of sets of the net, as 1 or 0 -/
noncomputable def iF (n : Nat) (P : Nat → Prop) (S : Nat) : Nat := @ite Nat ((1 ≤ S ∧ S < 2 ^ n) ∧ P S) (Classical.propDecidable _) 1 0
theorem iF_t {n : Nat} {P : Nat → Prop} {S : Nat} (h : 1 ≤ S ∧ S < 2 ^ n) (hp : P S) : iF n P S = 1 := if_pos ⟨h, hp⟩
theorem iF_f {n : Nat} {P : Nat → Prop} {S : Nat} (h : ¬ ((1 ≤ S ∧ S < 2 ^ n) ∧ P S)) : iF n P S = 0 := if_neg h
theorem iF_1 (n : Nat) (P : Nat → Prop) (S : Nat) : iF n P S ≤ 1 := by
  by_cases h : (1 ≤ S ∧ S < 2 ^ n) ∧ P S
  · rw [iF_t h.1 h.2]; exact Nat.le_refl _
  · rw [iF_f h]; omega
section CQ
variable {T : Nat → Nat} {n K L : Nat} {s : Int32} {τ : Sg}
/-- any of the four loops -/
theorem C_sum (h : NtA n T K τ) (hG : ChG T n s L τ) {P : Nat → Prop} {X : Int64 → Nat → Oz} (st : ∀ (e : Nat → Nat), (∀ S, S < 512 → τ.2 5 S = lN (e S)) → ∀ S a, 1 ≤ S → S < 2 ^ n → X a S = X (a + lN (e S * iF n P S)) (S + 1)) (fin : ∀ a, X a (2 ^ n) = some (some (.long a), τ)) : X 0 1 = some (some (.long (lN (CstF T n L s (iF n P)))), τ) := by
  obtain ⟨e, e1, e2, -⟩ := hG
  have hn := h.1
  have h9 : 2 ^ n ≤ 2 ^ 9 := Nat.pow_le_pow_right (by omega) hn.2
  rw [lq1 (X := X) (F := fun S => e S * iF n P S) (N := 2 ^ n) (fun S a h1 h2 => st e e1 S a h1 h2) (by
    show e 0 * iF n P 0 = 0
    rw [iF_f (by omega), Nat.mul_zero]) 0 (2 ^ n) (two_pos n) (Nat.le_refl _), fin]
  have : sm (fun S => e S * iF n P S) (2 ^ n) = CstF T n L s (iF n P) := by
    rw [← e2 (iF n P)]
    refine (sm_ex (f := fun S => e S * iF n P S) (m := 2 ^ n) (n := 512) (by omega) (fun i h1 _ => ?_)).symm
    show e i * iF n P i = 0
    rw [iF_f (by omega), Nat.mul_zero]
  rw [this]
  simp
theorem C_ev (h : NtA n T K τ) (d : Nat) {S : Nat} (hS : S < 2 ^ n) (a b : Oz) : xm_cI (X_Net_everyone d τ) (fun r2 σ1 => xm_br (r2 < nI S) a b) = b := by
  have hn := h.1
  have h9 : 2 ^ n ≤ 2 ^ 9 := Nat.pow_le_pow_right (by omega) hn.2
  rw [C_everyone _ _ hn.2 h.2.1, xm_cI_s, xm_br_f (nI_nlt (by omega) (by omega))]
theorem C_holding (h : NtA n T K τ) (hG : ChG T n s L τ) (d : Nat) {bits : Nat} (hb : bits < 2 ^ 31) : X_Chains_holding (d + 1) (nI bits) τ = some (some (.long (lN (CstF T n L s (iF n (fun S => S &&& bits = bits))))), τ) := by
  have hn := h.1
  have h9 : 2 ^ n ≤ 2 ^ 9 := Nat.pow_le_pow_right (by omega) hn.2
  have h1 := two_pos n
  rw [X_Chains_holding_e]
  refine C_sum h hG (X := fun a S => X_Chains_holding_5 (d + 1) (nI bits) a (nI S) τ) (fun e he S a h1 h2 => ?_) (fun a => ?_)
  · show X_Chains_holding_5 (d + 1) (nI bits) a (nI S) τ = X_Chains_holding_5 (d + 1) (nI bits) _ (nI (S + 1)) τ
    rw [X_Chains_holding_5_e, C_everyone _ _ hn.2 h.2.1, xm_cI_s, xm_br_f (nI_nlt (by omega) (by omega)), xm_ix_n (show S < 512 by omega) (by omega), he S (by omega), fa_and, nI_1]
    have hle : S &&& bits ≤ S := Nat.and_le_left
    by_cases q : S &&& bits = bits
    · rw [xm_br_t (by rw [q]), iF_t ⟨h1, h2⟩ q, Nat.mul_one]
    · rw [xm_br_f (fun z => q ((nI_eq (by omega) hb).mp z)), iF_f (P := (fun S => S &&& bits = bits)) (fun z => q z.2), Nat.mul_zero]; rfl
  · show X_Chains_holding_5 (d + 1) (nI bits) a (nI (2 ^ n)) τ = _
    rw [X_Chains_holding_5_e, C_everyone _ _ hn.2 h.2.1, xm_cI_s, xm_br_t (nI_lt (by omega) (by omega))]
theorem C_ofSize (h : NtA n T K τ) (hG : ChG T n s L τ) (d : Nat) {k : Nat} (hk : k < 2 ^ 31) : X_Chains_ofSize (d + 1) (nI k) τ = some (some (.long (lN (CstF T n L s (iF n (fun S => pop 14 S = k))))), τ) := by
  have hn := h.1
  have h9 : 2 ^ n ≤ 2 ^ 9 := Nat.pow_le_pow_right (by omega) hn.2
  have h1 := two_pos n
  rw [X_Chains_ofSize_e]
  refine C_sum h hG (X := fun a S => X_Chains_ofSize_5 (d + 1) (nI k) a (nI S) τ) (fun e he S a h1 h2 => ?_) (fun a => ?_)
  · show X_Chains_ofSize_5 (d + 1) (nI k) a (nI S) τ = X_Chains_ofSize_5 (d + 1) (nI k) _ (nI (S + 1)) τ
    have := pop_9 (show S < 512 by omega)
    rw [X_Chains_ofSize_5_e, C_everyone _ _ hn.2 h.2.1, xm_cI_s, xm_br_f (nI_nlt (by omega) (by omega)), C_bitCount _ _ (by omega), xm_cI_s, xm_ix_n (show S < 512 by omega) (by omega), he S (by omega), nI_1]
    by_cases q : pop 14 S = k
    · rw [xm_br_t (by rw [q]), iF_t ⟨h1, h2⟩ q, Nat.mul_one]
    · rw [xm_br_f (fun z => q ((nI_eq (by omega) hk).mp z)), iF_f (P := (fun S => pop 14 S = k)) (fun z => q z.2), Nat.mul_zero]; rfl
  · show X_Chains_ofSize_5 (d + 1) (nI k) a (nI (2 ^ n)) τ = _
    rw [X_Chains_ofSize_5_e, C_everyone _ _ hn.2 h.2.1, xm_cI_s, xm_br_t (nI_lt (by omega) (by omega))]
theorem C_ofKind (h : NtA n T K τ) (hG : ChG T n s L τ) (d : Nat) {k : Nat} (hk : k < 2 ^ 31) : X_Chains_ofKind (d + 1) (nI k) τ = some (some (.long (lN (CstF T n L s (iF n (fun S => pop 14 (S &&& K) = k))))), τ) := by
  have hn := h.1
  have h9 : 2 ^ n ≤ 2 ^ 9 := Nat.pow_le_pow_right (by omega) hn.2
  have h1 := two_pos n
  rw [X_Chains_ofKind_e]
  refine C_sum h hG (X := fun a S => X_Chains_ofKind_5 (d + 1) (nI k) a (nI S) τ) (fun e he S a h1 h2 => ?_) (fun a => ?_)
  · show X_Chains_ofKind_5 (d + 1) (nI k) a (nI S) τ = X_Chains_ofKind_5 (d + 1) (nI k) _ (nI (S + 1)) τ
    have hle : S &&& K ≤ S := Nat.and_le_left
    have := pop_9 (show S &&& K < 512 by omega)
    rw [X_Chains_ofKind_5_e, C_everyone _ _ hn.2 h.2.1, xm_cI_s, xm_br_f (nI_nlt (by omega) (by omega)), h.2.2.2.2.1, fa_and, C_bitCount _ _ (by omega), xm_cI_s, xm_ix_n (show S < 512 by omega) (by omega), he S (by omega), nI_1]
    by_cases q : pop 14 (S &&& K) = k
    · rw [xm_br_t (by rw [q]), iF_t ⟨h1, h2⟩ q, Nat.mul_one]
    · rw [xm_br_f (fun z => q ((nI_eq (by omega) hk).mp z)), iF_f (P := (fun S => pop 14 (S &&& K) = k)) (fun z => q z.2), Nat.mul_zero]; rfl
  · show X_Chains_ofKind_5 (d + 1) (nI k) a (nI (2 ^ n)) τ = _
    rw [X_Chains_ofKind_5_e, C_everyone _ _ hn.2 h.2.1, xm_cI_s, xm_br_t (nI_lt (by omega) (by omega))]
/-- each counted by 1 by its degree, in units of 1 by 840 -/
def cby (T : Nat → Nat) (p : Nat) : Nat := 840 / max 1 (pop 14 (T p))
def wg (T : Nat → Nat) (n S : Nat) : Nat := sm (fun p => S / 2 ^ p % 2 * cby T p) n
theorem cby_le (T : Nat → Nat) (p : Nat) : cby T p ≤ 840 := Nat.div_le_self _ _
theorem wg_le {T : Nat → Nat} {n S : Nat} (hn : n ≤ 9) : wg T n S ≤ 9 * 840 := by
  have := sm_le (f := fun p => S / 2 ^ p % 2 * cby T p) (c := 840) (n := n) (fun i _ => Nat.le_trans (bit_le S i _) (cby_le T i))
  exact Nat.le_trans this (Nat.mul_le_mul_right _ hn)
theorem C_weight (h : NtA n T K τ) (d : Nat) {S : Nat} (hS : S < 512) : X_Chains_weight (d + 1) (nI S) τ = some (some (.long (lN (wg T n S))), τ) := by
  have hn := h.1
  have st : ∀ p a, p < n → X_Chains_weight_5 (d + 1) (nI S) a (nI p) τ = X_Chains_weight_5 (d + 1) (nI S) (a + lN (S / 2 ^ p % 2 * cby T p)) (nI (p + 1)) τ := by
    intro p a hp
    have h8 := h.pop (show p < 9 by omega)
    have h9 := h.T (show p < 9 by omega)
    have e1 : xm_imax 1 (nI (pop 14 (T p))) = nI (max 1 (pop 14 (T p))) := imax_n (a := 1) (by omega) (by omega)
    have hb := bit_le S p (cby T p)
    have hc := cby_le T p
    rw [X_Chains_weight_5_e, h.2.1, xm_br_f (nI_ge hp (by omega)), xm_ix_n (show p < 9 by omega) (by omega), (h.c p (by omega)).1, C_bitCount _ _ (by omega), xm_cI_s, e1, xm_dv_n (nI_ne0 (by omega) (by omega)), bt_1 (by omega) (by omega), show (840 : Int32) = nI 840 from rfl, pk_div (by omega) (by omega) (by omega), pk_mul, nI_1]
    show X_Chains_weight_5 (d + 1) (nI S) (a + (nI (S / 2 ^ p % 2 * cby T p)).toInt64) (nI (p + 1)) τ = _
    rw [nI_l (by omega)]
  rw [X_Chains_weight_e, show X_Chains_weight_5 (d + 1) (nI S) 0 0 τ = _ from lpL (X := fun a i => X_Chains_weight_5 (d + 1) (nI S) a (nI i) τ) st 0 n (Nat.le_refl _), X_Chains_weight_5_e, h.2.1, xm_br_t (nI_le (Nat.le_refl _) (by omega))]
  simp [wg]
/-- near: within so many hundredths -/
def nrP (T : Nat → Nat) (n K e S : Nat) : Prop := adf (wg T n (S &&& K) * n) (wg T n S * pop 14 K) * 100 ≤ wg T n S * n * e
theorem C_isNear (h : NtA n T K τ) (d : Nat) {S e : Nat} (hS : S < 512) (he : e ≤ 100) : X_Chains_isNear (d + 2) (nI S) (nI e) τ = some (some (.int (bI (nrP T n K e S))), τ) := by
  have hn := h.1
  have hK := pow9 hn.2 h.2.2.2.2.2.1
  have hle : S &&& K ≤ S := Nat.and_le_left
  have w1 := wg_le (T := T) (n := n) (S := S &&& K) hn.2
  have w2 := wg_le (T := T) (n := n) (S := S) hn.2
  have hp := pop_9 hK
  have m1 : wg T n (S &&& K) * n ≤ 9 * 840 * 9 := Nat.mul_le_mul w1 hn.2
  have m2 : wg T n S * pop 14 K ≤ 9 * 840 * 9 := Nat.mul_le_mul w2 hp
  have m3 : wg T n S * n * e ≤ 9 * 840 * 9 * 100 := Nat.mul_le_mul (Nat.mul_le_mul w2 hn.2) he
  have m4 : adf (wg T n (S &&& K) * n) (wg T n S * pop 14 K) ≤ 9 * 840 * 9 := by unfold adf; split <;> omega
  rw [X_Chains_isNear_e, h.2.2.2.2.1, fa_and, C_weight h d (by omega), xm_cL_s, C_weight h d hS, xm_cL_s, X_Net_kindOnes_e, h.2.2.2.2.1, C_bitCount _ _ (by omega), xm_cI_s, xm_cI_s, h.2.1, nI_l (by omega), nI_l (by omega), nI_l (by omega), lN_mul, lN_mul, lN_mul, labs_n (by omega) (by omega), show (100 : Int64) = lN 100 from rfl, lN_mul, lN_mul, X_Chains_isNear_69_e]
  by_cases q : nrP T n K e S
  · have q' : adf (wg T n (S &&& K) * n) (wg T n S * pop 14 K) * 100 ≤ wg T n S * n * e := q
    rw [xm_br_f (by rw [lg_cmp_gt, pk_lLT (by omega) (by omega)]; omega), bI_t q]
  · have q' : ¬ adf (wg T n (S &&& K) * n) (wg T n S * pop 14 K) * 100 ≤ wg T n S * n * e := q
    rw [xm_br_t (by rw [lg_cmp_gt, pk_lLT (by omega) (by omega)]; omega), bI_f q]
theorem Cst_le (h : NtA n T K τ) {f : Nat → Nat} (hf : ∀ S, f S ≤ 1) (s : Int32) (L : Nat) : CstF T n L s f ≤ sm (stN n s) n * 91445760000 := by
  have hn := h.1
  unfold CstF
  rw [← sm_mulr]
  refine sm_mn (fun p hp => Nat.mul_le_mul_left _ ?_)
  exact VF_le hn.2 (NtA_t h) hf 7 _ _ _ (by omega)
theorem e_le (h : NtA n T K τ) {e : Nat → Nat} (h2 : ∀ f, sm (fun S => e S * f S) 512 = CstF T n L s f) {S : Nat} (hS : S < 512) : e S ≤ 9 * 91445760000 := by
  have hn := h.1
  have h3 := sm_ge (f := fun S => e S * (fun _ => 1) S) (q := S) (n := 512) hS
  rw [h2 (fun _ => 1)] at h3
  have h3 : e S * 1 ≤ _ := h3
  have h4 := Cst_le h (f := fun _ => 1) (fun _ => Nat.le_refl _) s L
  have h5 : sm (stN n s) n * 91445760000 ≤ 9 * 91445760000 := Nat.mul_le_mul_right _ (by have := st_le n s; omega)
  omega
theorem C_near (h : NtA n T K τ) (hG : ChG T n s L τ) (d : Nat) {k : Nat} (hk : k ≤ 100) : X_Chains_near (d + 3) (nI k) τ = some (some (.long (lN (CstF T n L s (iF n (nrP T n K k))))), τ) := by
  have hn := h.1
  have h9 : 2 ^ n ≤ 2 ^ 9 := Nat.pow_le_pow_right (by omega) hn.2
  have h1 := two_pos n
  obtain ⟨e0, g1, g2, g3⟩ := hG
  have hG : ChG T n s L τ := ⟨e0, g1, g2, g3⟩
  rw [X_Chains_near_e]
  refine C_sum h hG (X := fun a S => X_Chains_near_5 (d + 3) (nI k) a (nI S) τ) (fun e he S a h1 h2 => ?_) (fun a => ?_)
  · show X_Chains_near_5 (d + 3) (nI k) a (nI S) τ = X_Chains_near_5 (d + 3) (nI k) _ (nI (S + 1)) τ
    rw [X_Chains_near_5_e, C_everyone _ _ hn.2 h.2.1, xm_cI_s, xm_br_f (nI_nlt (by omega) (by omega)), xm_ix_n (show S < 512 by omega) (by omega), C_isNear h d (by omega) hk, xm_cI_s, xm_ix_n (show S < 512 by omega) (by omega), nI_1]
    have ee : lN (e S) = lN (e0 S) := (he S (by omega)).symm.trans (g1 S (by omega))
    have hle := e_le h g2 (show S < 512 by omega)
    have em : lN (e S * iF n (nrP T n K k) S) = lN (e0 S * iF n (nrP T n K k) S) := by rw [← lN_mul, ee, lN_mul]
    rw [em, g1 S (by omega)]
    by_cases q0 : e0 S = 0
    · rw [q0, xm_br_t (by rw [lg_cmp_le, ← lN_0, pk_lLE (by omega) (by omega)]; omega), Nat.zero_mul]; rfl
    · rw [xm_br_f (by rw [lg_cmp_le, ← lN_0, pk_lLE (by omega) (by omega)]; omega)]
      by_cases q : nrP T n K k S
      · rw [xm_br_b q, iF_t ⟨h1, h2⟩ q, Nat.mul_one]
      · rw [xm_br_n q, iF_f (P := (nrP T n K k)) (fun z => q z.2), Nat.mul_zero]; rfl
  · show X_Chains_near_5 (d + 3) (nI k) a (nI (2 ^ n)) τ = _
    rw [X_Chains_near_5_e, C_everyone _ _ hn.2 h.2.1, xm_cI_s, xm_br_t (nI_lt (by omega) (by omega))]
end CQ
