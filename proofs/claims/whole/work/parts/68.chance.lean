/-! ALIKE, CHANCE -/
theorem C_ntz (d : Nat) {j : Nat} (hj : j < 14) (σ : Sg) : X_Int_numberOfTrailingZeros d (nI (2 ^ j)) σ = some (some (.int (nI j)), σ) := by
  rw [X_Int_numberOfTrailingZeros_e]
  rcases (show j = 0 ∨ j = 1 ∨ j = 2 ∨ j = 3 ∨ j = 4 ∨ j = 5 ∨ j = 6 ∨ j = 7 ∨ j = 8 ∨ j = 9 ∨ j = 10 ∨ j = 11 ∨ j = 12 ∨ j = 13 by omega) with rfl | rfl | rfl | rfl | rfl | rfl | rfl | rfl | rfl | rfl | rfl | rfl | rfl | rfl
  · rw [xm_br_f (by decide +kernel)]; rfl
  · rw [xm_br_t (by decide +kernel), xm_br_t (by decide +kernel), xm_br_t (by decide +kernel), xm_br_t (by decide +kernel), X_Int_numberOfTrailingZeros_62_e, xm_br_t (by decide +kernel), X_Int_numberOfTrailingZeros_74_e]; rfl
  · rw [xm_br_t (by decide +kernel), xm_br_t (by decide +kernel), xm_br_t (by decide +kernel), xm_br_t (by decide +kernel), X_Int_numberOfTrailingZeros_62_e, xm_br_t (by decide +kernel), X_Int_numberOfTrailingZeros_74_e]; rfl
  · rw [xm_br_t (by decide +kernel), xm_br_t (by decide +kernel), xm_br_t (by decide +kernel), xm_br_t (by decide +kernel), X_Int_numberOfTrailingZeros_62_e, xm_br_f (by decide +kernel), X_Int_numberOfTrailingZeros_74_e]; rfl
  · rw [xm_br_t (by decide +kernel), xm_br_t (by decide +kernel), xm_br_t (by decide +kernel), xm_br_t (by decide +kernel), X_Int_numberOfTrailingZeros_62_e, xm_br_f (by decide +kernel), X_Int_numberOfTrailingZeros_74_e]; rfl
  · rw [xm_br_t (by decide +kernel), xm_br_t (by decide +kernel), xm_br_t (by decide +kernel), xm_br_f (by decide +kernel), X_Int_numberOfTrailingZeros_62_e, xm_br_t (by decide +kernel), X_Int_numberOfTrailingZeros_74_e]; rfl
  · rw [xm_br_t (by decide +kernel), xm_br_t (by decide +kernel), xm_br_t (by decide +kernel), xm_br_f (by decide +kernel), X_Int_numberOfTrailingZeros_62_e, xm_br_t (by decide +kernel), X_Int_numberOfTrailingZeros_74_e]; rfl
  · rw [xm_br_t (by decide +kernel), xm_br_t (by decide +kernel), xm_br_t (by decide +kernel), xm_br_f (by decide +kernel), X_Int_numberOfTrailingZeros_62_e, xm_br_f (by decide +kernel), X_Int_numberOfTrailingZeros_74_e]; rfl
  · rw [xm_br_t (by decide +kernel), xm_br_t (by decide +kernel), xm_br_t (by decide +kernel), xm_br_f (by decide +kernel), X_Int_numberOfTrailingZeros_62_e, xm_br_f (by decide +kernel), X_Int_numberOfTrailingZeros_74_e]; rfl
  · rw [xm_br_t (by decide +kernel), xm_br_t (by decide +kernel), xm_br_f (by decide +kernel), xm_br_t (by decide +kernel), X_Int_numberOfTrailingZeros_62_e, xm_br_t (by decide +kernel), X_Int_numberOfTrailingZeros_74_e]; rfl
  · rw [xm_br_t (by decide +kernel), xm_br_t (by decide +kernel), xm_br_f (by decide +kernel), xm_br_t (by decide +kernel), X_Int_numberOfTrailingZeros_62_e, xm_br_t (by decide +kernel), X_Int_numberOfTrailingZeros_74_e]; rfl
  · rw [xm_br_t (by decide +kernel), xm_br_t (by decide +kernel), xm_br_f (by decide +kernel), xm_br_t (by decide +kernel), X_Int_numberOfTrailingZeros_62_e, xm_br_f (by decide +kernel), X_Int_numberOfTrailingZeros_74_e]; rfl
  · rw [xm_br_t (by decide +kernel), xm_br_t (by decide +kernel), xm_br_f (by decide +kernel), xm_br_t (by decide +kernel), X_Int_numberOfTrailingZeros_62_e, xm_br_f (by decide +kernel), X_Int_numberOfTrailingZeros_74_e]; rfl
  · rw [xm_br_t (by decide +kernel), xm_br_t (by decide +kernel), xm_br_f (by decide +kernel), xm_br_f (by decide +kernel), X_Int_numberOfTrailingZeros_62_e, xm_br_t (by decide +kernel), X_Int_numberOfTrailingZeros_74_e]; rfl
def nx' (x : Nat) : Nat := if x = 0 then 2147483647 else nx x
theorem C_follow (d : Nat) {x : Nat} (hx : x < 16384) (σ : Sg) : X_Deals_following (d + 1) (nI x) σ = some (some (.int (nI (nx' x))), σ) := by
  rw [X_Deals_following_e]
  unfold nx'
  by_cases h0 : x = 0
  · rw [if_pos h0, h0, xm_br_t nI_0]; rfl
  · obtain ⟨a1, a2, a3, a4⟩ := nx_ok hx h0
    rw [if_neg h0, xm_br_f (nI_ne0 (by omega) (by omega)), X_Int_lowestOneBit_e, xm_cI_s, a3]
    rw [a1] at a4 ⊢
    rw [C_ntz d a2 σ, xm_cI_s]
    exact congrArg (fun v => some (some (Value.int v), σ)) a4
theorem pop_pos : ∀ (f z : Nat), z < 2 ^ f → pop f z = 0 → z = 0
  | 0, z, h, _ => by omega
  | f + 1, z, h, e => by
    have e : z % 2 + pop f (z / 2) = 0 := e
    have := pop_pos f (z / 2) (by rw [Nat.pow_succ] at h; omega) (by omega)
    omega
theorem pop_ge : ∀ (f z : Nat), 2 ^ pop f z ≤ z + 1
  | 0, z => by show 2 ^ 0 ≤ z + 1; omega
  | f + 1, z => by
    show 2 ^ (z % 2 + pop f (z / 2)) ≤ z + 1
    have ih := pop_ge f (z / 2)
    rcases Nat.mod_two_eq_zero_or_one z with e | e
    · rw [e, Nat.zero_add]; omega
    · rw [e, Nat.pow_add]; omega
theorem nx'_lt {x : Nat} (h : x < 16384) : nx' x < 2 ^ 31 := by
  unfold nx'
  split
  · omega
  · unfold nx
    have h1 : lb x ≤ x := Nat.sub_le _ _
    have h2 : x ^^^ (x + lb x) < 2 ^ 15 := Nat.xor_lt_two_pow (by omega) (by omega)
    have h3 : (x ^^^ (x + lb x)) / (4 * lb x) < 2 ^ 15 := Nat.lt_of_le_of_lt (Nat.div_le_self _ _) h2
    have h4 : (x + lb x) ||| ((x ^^^ (x + lb x)) / (4 * lb x)) < 2 ^ 15 := Nat.or_lt_two_pow (by omega) h3
    omega
theorem nxt' {x : Nat} (h : x < 16384) : x < nx' x ∧ (nx' x < 16384 → pop 14 (nx' x) = pop 14 x) ∧ ∀ y, x < y → y < nx' x → y < 16384 → pop 14 y ≠ pop 14 x := by
  unfold nx'
  by_cases h0 : x = 0
  · subst h0
    rw [if_pos rfl]
    exact ⟨by omega, fun q => by omega, fun y h1 _ h2 q => by have := pop_pos 14 y h2 (by rw [q]; rfl); omega⟩
  · rw [if_neg h0]
    exact nxt (by omega) h
theorem cnt_gap {p : Nat → Bool} {a : Nat} : ∀ {b : Nat}, a ≤ b → (∀ z, a ≤ z → z < b → p z = false) → cnt p b = cnt p a
  | 0, h, _ => by rw [show a = 0 by omega]
  | b + 1, h, hz => by
    by_cases e : a = b + 1
    · rw [e]
    · rw [cnt_s, hz b (by omega) (by omega), cnt_gap (a := a) (b := b) (by omega) (fun z h1 h2 => hz z h1 (by omega))]
      rfl
/-- how many with k bits; of these how many with A alike or more -/
def ckF (k : Nat) (z : Nat) : Bool := decide (pop 14 z = k)
def crF (k A : Nat) (al : Nat → Nat) (z : Nat) : Bool := decide (pop 14 z = k) && decide (A ≤ al z)
section CH
variable {r : Nat} {bo kd kn tr : Nat → Nat} {ct tk : Nat → Bool} {σ τ : Sg}
theorem C_ch (h : VwA r bo kd kn tr ct tk σ) (hg : GaP r bo ct σ τ) (hm : cnt ct r ≤ 14) (d : Nat) {k A R W : Nat} (hW : W = cnt (ckF k) (2 ^ cnt ct r)) (hR : R = cnt (crF k A (alF (obF bo ct r) (cnt ct r))) (2 ^ cnt ct r)) (hA : A < 2 ^ 31) (h0 : W ≠ 0) : ∀ (n D : Nat), 2 ^ cnt ct r - D ≤ n → D < 2 ^ 31 → (D < 2 ^ cnt ct r → pop 14 D = k) → X_Deals_chance_29 (d + 2) (nI A) (nI D) (lN (cnt (ckF k) (min D (2 ^ cnt ct r)))) (lN (cnt (crF k A (alF (obF bo ct r) (cnt ct r))) (min D (2 ^ cnt ct r)))) (nI (cnt (ckF k) (min D (2 ^ cnt ct r)))) τ = some (some (.int (nI (R * 1000000 / W))), τ) := by
  have h2m : 2 ^ cnt ct r ≤ 2 ^ 14 := Nat.pow_le_pow_right (by omega) hm
  have hWle := cnt_le (ckF k) (2 ^ cnt ct r)
  have hRle := cnt_le (crF k A (alF (obF bo ct r) (cnt ct r))) (2 ^ cnt ct r)
  intro n
  induction n with
  | zero =>
    intro D hD hD2 hp
    have hge : 2 ^ cnt ct r ≤ D := by omega
    rw [Nat.min_eq_right hge, ← hW, ← hR]
    have fin : xm_br ((lg_cmp (lN W) 0) = 0) (some (some (.int 1000000), τ)) (xm_dvL (lN W) (some (some (.int (((lN R * 1000000) / lN W).toInt32)), τ))) = some (some (.int (nI (R * 1000000 / W))), τ) := by
      rw [xm_br_f (fun q => h0 ((l_eq0 (by omega)).mp q)), xm_dvL_n (l_ne0 (by omega) h0), show (1000000 : Int64) = lN 1000000 from rfl, lN_mul, pk_lDiv (by omega) (by omega) (by omega), lN_i]
    rw [X_Deals_chance_29_e, hg.2.2.1, sh_1 _ (by omega), fin]
    by_cases q : (16384 : Int32) ≤ nI W
    · rw [xm_br_t q]
    · rw [xm_br_f q, xm_br_t (nI_le hge hD2)]
  | succ n ih =>
    intro D hD hD2 hp
    by_cases hge : 2 ^ cnt ct r ≤ D
    · exact ih D (by omega) hD2 hp
    have hlt : D < 2 ^ cnt ct r := by omega
    have hk := hp hlt
    have hcl := cnt_le (ckF k) D
    obtain ⟨n1, n2, n3⟩ := nxt' (x := D) (by omega)
    have e1 : cnt (ckF k) (min (nx' D) (2 ^ cnt ct r)) = cnt (ckF k) D + 1 := by
      rw [cnt_gap (p := ckF k) (a := D + 1) (b := min (nx' D) (2 ^ cnt ct r)) (by omega) (fun z h1 h2 => decide_eq_false (by rw [← hk]; exact n3 z (by omega) (by omega) (by omega))), cnt_s]
      rw [show ckF k D = true from decide_eq_true hk]
      rfl
    have e2 : cnt (crF k A (alF (obF bo ct r) (cnt ct r))) (min (nx' D) (2 ^ cnt ct r)) = cnt (crF k A (alF (obF bo ct r) (cnt ct r))) D + (decide (A ≤ alF (obF bo ct r) (cnt ct r) D)).toNat := by
      rw [cnt_gap (p := crF k A (alF (obF bo ct r) (cnt ct r))) (a := D + 1) (b := min (nx' D) (2 ^ cnt ct r)) (by omega) (fun z h1 h2 => by unfold crF; rw [decide_eq_false (show ¬ pop 14 z = k by rw [← hk]; exact n3 z (by omega) (by omega) (by omega))]; rfl), cnt_s]
      unfold crF
      rw [decide_eq_true hk]
      rfl
    have ih' := ih (nx' D) (by omega) (nx'_lt (by omega)) (fun q => by rw [n2 (by omega), hk])
    rw [e1, e2] at ih'
    have hal := cnt_le (fun p => decide (obF bo ct r p ≠ 0) && (D.testBit p == D.testBit (obF bo ct r p - 1))) (cnt ct r)
    rw [Nat.min_eq_left (by omega), X_Deals_chance_29_e, hg.2.2.1, sh_1 _ (by omega), xm_br_f (show ¬ (16384 : Int32) ≤ nI (cnt (ckF k) D) from nI_ge (b := 16384) (by omega) (by omega)), xm_br_f (nI_ge hlt (by omega)), C_alIn h hg hm _ (by omega), xm_cI_s, C_follow d (by omega), xm_cI_s, xm_cI_s, lN_1, nI_1]
    by_cases q : A ≤ alF (obF bo ct r) (cnt ct r) D
    · rw [xm_br_f (nI_nlt q (by unfold alF; omega)), lN_1]
      rw [decide_eq_true q] at ih'
      exact ih'
    · rw [xm_br_t (nI_lt (by omega) hA), show (0 : Int64) = lN 0 from rfl, lN_add]
      rw [decide_eq_false q] at ih'
      exact ih'
theorem lq2 {X : Int32 → Int32 → Nat → Oz} {f g : Nat → Nat} {r : Nat} (st : ∀ i a b, i < r → X a b i = X (a + nI (f i)) (b + nI (g i)) (i + 1)) (a b : Int32) : ∀ m, m ≤ r → X a b 0 = X (a + nI (sm f m)) (b + nI (sm g m)) m
  | 0, _ => by rw [show sm f 0 = 0 from rfl, show sm g 0 = 0 from rfl, nI_0]; simp
  | m + 1, h => by
    rw [lq2 st a b m (by omega), st m _ _ (by omega)]
    simp only [Int32.add_assoc, nI_add]
    rfl
theorem C_mch (h : VwA r bo kd kn tr ct tk σ) (hw : WhP r ct σ τ) (hm : cnt ct r ≤ 14) (d : Nat) {own A : Nat} (ho : own < 2 ^ cnt ct r) (hA : A < 2 ^ 31) (h0 : cnt (ckF (pop 14 own)) (2 ^ cnt ct r) ≠ 0) : X_Mod_alikeOf_42 (d + 1) (nI own) (nI A) 0 0 0 τ = some (some (.int (nI (cnt (crF (pop 14 own) A (alF (obF bo ct r) (cnt ct r))) (2 ^ cnt ct r) * 1000000 / cnt (ckF (pop 14 own)) (2 ^ cnt ct r)))), τ) := by
  have h2m : 2 ^ cnt ct r ≤ 2 ^ 14 := Nat.pow_le_pow_right (by omega) hm
  have hWle := cnt_le (ckF (pop 14 own)) (2 ^ cnt ct r)
  have hRle := cnt_le (crF (pop 14 own) A (alF (obF bo ct r) (cnt ct r))) (2 ^ cnt ct r)
  have st : ∀ z a b, z < 2 ^ cnt ct r → X_Mod_alikeOf_42 (d + 1) (nI own) (nI A) a b (nI z) τ = X_Mod_alikeOf_42 (d + 1) (nI own) (nI A) (a + nI (ckF (pop 14 own) z).toNat) (b + nI (crF (pop 14 own) A (alF (obF bo ct r) (cnt ct r)) z).toNat) (nI (z + 1)) τ := by
    intro z a b hz
    have p1 := pop_le 14 14 z (by omega)
    have p2 := pop_le 14 14 own (by omega)
    have hal := cnt_le (fun p => decide (obF bo ct r p ≠ 0) && (z.testBit p == z.testBit (obF bo ct r p - 1))) (cnt ct r)
    rw [X_Mod_alikeOf_42_e, hw.2.2.2.2.1, sh_1 _ (by omega), xm_br_f (nI_ge hz (by omega)), C_bitsOf _ _ (by omega), xm_cI_s, C_bitsOf _ _ (by omega), xm_cI_s, C_mlikes h hw _ (by omega), xm_cI_s, nI_1]
    unfold ckF crF
    by_cases q : pop 14 z = pop 14 own
    · rw [xm_br_t (by rw [q]), decide_eq_true q]
      by_cases q2 : A ≤ alF (obF bo ct r) (cnt ct r) z
      · rw [xm_br_f (nI_nlt q2 (by unfold alF; omega)), decide_eq_true q2]; rfl
      · rw [xm_br_t (nI_lt (by omega) hA), decide_eq_false q2]; rfl
    · rw [xm_br_f (fun e => q ((nI_eq (by omega) (by omega)).mp e)), decide_eq_false q]
      show X_Mod_alikeOf_42 (d + 1) (nI own) (nI A) a b (nI (z + 1)) τ = X_Mod_alikeOf_42 (d + 1) (nI own) (nI A) (a + 0) (b + 0) (nI (z + 1)) τ
      simp
  rw [show X_Mod_alikeOf_42 (d + 1) (nI own) (nI A) 0 0 0 τ = _ from lq2 (X := fun a b i => X_Mod_alikeOf_42 (d + 1) (nI own) (nI A) a b (nI i) τ) st 0 0 _ (Nat.le_refl _), X_Mod_alikeOf_42_e, hw.2.2.2.2.1, sh_1 _ (by omega), xm_br_t (nI_le (by omega) (by omega)), X_Mod_millionths_e]
  have z1 : ∀ x : Int32, 0 + x = x := fun x => by simp
  rw [z1, z1, show sm (fun z => (ckF (pop 14 own) z).toNat) (2 ^ cnt ct r) = cnt (ckF (pop 14 own)) (2 ^ cnt ct r) from rfl, show sm (fun z => (crF (pop 14 own) A (alF (obF bo ct r) (cnt ct r)) z).toNat) (2 ^ cnt ct r) = cnt (crF (pop 14 own) A (alF (obF bo ct r) (cnt ct r))) (2 ^ cnt ct r) from rfl, nI_l (by omega), nI_l (by omega), xm_dvL_n (l_ne0 (by omega) h0), show (1000000 : Int64) = lN 1000000 from rfl, lN_mul, pk_lDiv (by omega) (by omega) (by omega), lN_i, Nat.mul_comm 1000000, xm_cI_s]
theorem pop_1s : ∀ k, k < 15 → pop 14 (2 ^ k - 1) = k := by decide +kernel
/-- both answers of alike 0 -/
theorem C_al0 (h : RcA r σ) (hv : VwA r bo kd kn tr ct tk σ) (d d' : Nat) : X_TO_alike (d + 2) 0 σ = some (some (.int (nI (alF (obF bo ct r) (cnt ct r) (owF kd (whF ct r) (cnt ct r))))), σ) ∧ ∃ τ, X_Mod_alikeOf (d' + 2) 0 σ = some (some (.int (nI (alF (obF bo ct r) (cnt ct r) (owF kd (whF ct r) (cnt ct r))))), τ) ∧ Es σ τ := by
  have hr := h.1
  have hle := cnt_le ct r
  have how := owF_lt (kd := kd) (w := whF ct r) (m := cnt ct r) (kd2 hv)
  have h24 : 2 ^ cnt ct r ≤ 2 ^ 24 := Nat.pow_le_pow_right (by omega) (by omega)
  constructor
  · rw [X_TO_alike_e, C_isBit, xm_cI_s, xm_br_b ⟨0, by omega, rfl⟩, xm_br_t rfl, C_likes hv, xm_cI_s]
  · obtain ⟨τ, t1, t2⟩ := C_fw h hv d'
    refine ⟨τ, ?_, t2.es⟩
    rw [X_Mod_alikeOf_e, t1, xm_cV_s, C_mkb hv t2, xm_cI_s, C_mlikes hv t2 _ (by omega), xm_cI_s, xm_br_t rfl]
theorem O_alike (h : RcA r σ) (d : Nat) (w : Int32) : OpI (X_TO_alike (d + 4) w) (X_Mod_alike (d + 4) w) (Es σ) σ := by
  unfold OpI
  have hr := h.1
  by_cases hw : inR w 2
  rotate_left
  · refine ⟨-2, σ, σ, ?_, ?_, Es.rf σ⟩
    · rw [X_TO_alike_e, C_isBit, xm_cI_s, xm_br_n hw]
    · rw [X_Mod_alike_e, C_isTwo, xm_cI_s, xm_br_n hw]
  obtain ⟨bo, kd, kn, tr, ct, tk, hv⟩ := h.view
  have hle := cnt_le ct r
  by_cases h0 : w = 0
  · subst h0
    obtain ⟨a, τ, b, c⟩ := C_al0 h hv (d + 2) (d + 1)
    refine ⟨_, σ, τ, a, ?_, c⟩
    rw [X_Mod_alike_e, C_isTwo, xm_cI_s, xm_br_b hw, b, xm_cI_s]
  have how := owF_lt (kd := kd) (w := whF ct r) (m := cnt ct r) (kd2 hv)
  have h24 : 2 ^ cnt ct r ≤ 2 ^ 24 := Nat.pow_le_pow_right (by omega) (by omega)
  have mod : ∀ τ, Es σ τ → ∃ υ, WhP r ct τ υ ∧ X_Mod_alike (d + 4) w τ = xm_cI (xm_br (nI (cnt ct r) ≤ 14) (X_Mod_alikeOf_42 (d + 3) (nI (owF kd (whF ct r) (cnt ct r))) (nI (alF (obF bo ct r) (cnt ct r) (owF kd (whF ct r) (cnt ct r)))) 0 0 0 υ) (some (some (.int (-4)), υ))) (fun r4 σ3 => some (some (.int r4), σ3)) := by
    intro τ ht
    obtain ⟨υ, u1, u2⟩ := C_fw (h.es ht) (hv.es ht) (d + 1)
    refine ⟨υ, u2, ?_⟩
    rw [X_Mod_alike_e, C_isTwo, xm_cI_s, xm_br_b hw, X_Mod_alikeOf_e, u1, xm_cV_s, C_mkb (hv.es ht) u2, xm_cI_s, C_mlikes (hv.es ht) u2 _ (by omega), xm_cI_s, xm_br_f h0, u2.2.2.2.2.1]
  rw [X_TO_alike_e, C_isBit, xm_cI_s, xm_br_b hw, xm_br_f h0, C_counting hv, xm_cI_s]
  by_cases hm : cnt ct r ≤ 14
  rotate_left
  · obtain ⟨υ, u1, u2⟩ := mod σ (Es.rf σ)
    have e : ¬ nI (cnt ct r) ≤ 14 := nI_ge (a := 14) (by omega) (by omega)
    refine ⟨-4, σ, υ, ?_, ?_, u1.es⟩
    · rw [xm_br_f e]
    · rw [u2, xm_br_f e, xm_cI_s]
  have e : nI (cnt ct r) ≤ 14 := nI_le (b := 14) hm (by omega)
  rw [xm_br_t e]
  have h2m : 2 ^ cnt ct r ≤ 2 ^ 14 := Nat.pow_le_pow_right (by omega) hm
  generalize hod : owF kd (whF ct r) (cnt ct r) = own at how mod
  have hA := cnt_le (fun p => decide (obF bo ct r p ≠ 0) && (own.testBit p == own.testBit (obF bo ct r p - 1))) (cnt ct r)
  have hA : alF (obF bo ct r) (cnt ct r) own ≤ cnt ct r := hA
  generalize hAd : alF (obF bo ct r) (cnt ct r) own = A at hA mod
  have p1 : pop 14 own ≤ cnt ct r := pop_le 14 (cnt ct r) own how
  have hpos : cnt (ckF (pop 14 own)) (2 ^ cnt ct r) ≠ 0 := by
    have := cnt_l (ct := ckF (pop 14 own)) (i := own) (j := 2 ^ cnt ct r) how (decide_eq_true rfl)
    omega
  obtain ⟨τ, t1, t2⟩ := C_gat hv hm (d + 2)
  obtain ⟨υ, u1, u2⟩ := mod τ t2.es
  refine ⟨nI (cnt (crF (pop 14 own) A (alF (obF bo ct r) (cnt ct r))) (2 ^ cnt ct r) * 1000000 / cnt (ckF (pop 14 own)) (2 ^ cnt ct r)), τ, υ, ?_, ?_, t2.es.tr u1.es⟩
  · have h2k : 2 ^ pop 14 own ≤ 2 ^ cnt ct r := Nat.pow_le_pow_right (by omega) p1
    have hk0 := two_pos (pop 14 own)
    rw [X_Deals_chance_e, t1, xm_cI_s, hod, C_alIn hv t2 hm _ (by omega), xm_cI_s, hAd, C_bitCount _ _ (by omega), xm_cI_s, sh_1 _ (by omega), nI_m1 (by omega)]
    have key := C_ch hv t2 hm (d + 1) (k := pop 14 own) (A := A) rfl rfl (by omega) hpos (2 ^ cnt ct r) (2 ^ pop 14 own - 1) (by omega) (by omega) (fun _ => pop_1s _ (by omega))
    have z1 : ∀ z, z < min (2 ^ pop 14 own - 1) (2 ^ cnt ct r) → pop 14 z ≠ pop 14 own := by
      intro z hz q
      have := pop_ge 14 z
      rw [q] at this
      omega
    have z2 : cnt (ckF (pop 14 own)) (min (2 ^ pop 14 own - 1) (2 ^ cnt ct r)) = 0 := cnt_gap (p := ckF (pop 14 own)) (a := 0) (Nat.zero_le _) (fun z _ h2 => decide_eq_false (z1 z h2))
    have z3 : cnt (crF (pop 14 own) A (alF (obF bo ct r) (cnt ct r))) (min (2 ^ pop 14 own - 1) (2 ^ cnt ct r)) = 0 := cnt_gap (p := crF (pop 14 own) A (alF (obF bo ct r) (cnt ct r))) (a := 0) (Nat.zero_le _) (fun z _ h2 => by unfold crF; rw [decide_eq_false (z1 z h2)]; rfl)
    rw [z2, z3] at key
    rw [show X_Deals_chance_29 (d + 2 + 1) (nI A) (nI (2 ^ pop 14 own - 1)) 0 0 0 τ = _ from key, xm_cI_s]
  · rw [u2, xm_br_t e, C_mch (hv.es t2.es) u1 hm (d + 2) how (by omega) hpos, xm_cI_s]
end CH
