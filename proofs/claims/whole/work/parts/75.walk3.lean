/-! WALKS: the ops -/
theorem sm_mulr (f : Nat → Nat) (c n : Nat) : sm (fun i => f i * c) n = sm f n * c := by
  rw [Nat.mul_comm (sm f n) c, ← sm_mul]
  exact sm_c (fun i _ => Nat.mul_comm _ _)
section WO
variable {n K L : Nat} {T : Nat → Nat} {s : Int32} {σ : Sg}
theorem st_pos (hn : 1 ≤ n ∧ n ≤ 9) (hs : s = -1 ∨ inR s n) : 1 ≤ sm (stN n s) n := by
  rw [stN_s hn.2 hs]
  split <;> omega
theorem scale5 (a b : Nat) {k : Nat} (hk : k ≤ 5) (w : Int32) : frN (a * 840 ^ (5 - k)) (b * 840 ^ 5) w = frN a (b * 840 ^ k) w := by
  rw [show b * 840 ^ 5 = b * 840 ^ k * 840 ^ (5 - k) by rw [Nat.mul_assoc, ← Nat.pow_add, show k + (5 - k) = 5 by omega], frN_scale (Nat.pow_pos (by omega))]
theorem p840 {k : Nat} (hk : k ≤ 5) : 840 ^ k ≤ 840 ^ 5 := Nat.pow_le_pow_right (by omega) hk
theorem wk_le' (h : NtA n T K σ) (s : Int32) {k j : Nat} (hk : k ≤ 5) (hj : j < n) : wkF T n (stN n s) k j ≤ 9 * 840 ^ k := by
  have hn := h.1
  have h1 := sm_ge (f := wkF T n (stN n s) k) (q := j) (n := n) hj
  rw [wk_tot hn.2 (NtA_tb h) (stN n s) k] at h1
  have h2 := st_le n s
  have h3 : sm (stN n s) n * 840 ^ k ≤ 9 * 840 ^ k := Nat.mul_le_mul_right _ (by omega)
  omega
theorem O_at (h : NtA n T K σ) (hs : StA n s L σ) (d : Nat) (x y w : Int32) : OpL (X_TO_at (d + 4) x y w) (X_Mod_at (d + 4) x y w) (Es σ) σ := by
  unfold OpL
  have hn := h.1
  have h840 : 840 ^ 5 = 418211942400000 := by decide
  by_cases hx : 0 ≤ x ∧ x ≤ 5
  rotate_left
  · refine ⟨BADL, σ, σ, ?_, ?_, Es.rf σ⟩
    · rw [X_TO_at_e, C_isUpTo, xm_cI_s, xm_br_n hx, C_refusal, xm_cL_s]; rfl
    · rw [X_Mod_at_e, C_in05, xm_cI_s, xm_br_n hx, C_no, xm_cL_s]; rfl
  by_cases hy : inR y n
  rotate_left
  · refine ⟨BADL, σ, σ, ?_, ?_, Es.rf σ⟩
    · rw [X_TO_at_e, C_isUpTo, xm_cI_s, xm_br_b hx, C_holds _ _ σ (by omega) h.2.1, xm_cI_s, xm_br_n hy, C_refusal, xm_cL_s]; rfl
    · rw [X_Mod_at_e, C_in05, xm_cI_s, xm_br_b hx, C_isPerson _ _ σ (by omega) (by omega) h.2.2.1, xm_cI_s, xm_br_n hy, C_no, xm_cL_s]; rfl
  by_cases hw : inR w 2
  rotate_left
  · refine ⟨BADL, σ, σ, ?_, ?_, Es.rf σ⟩
    · rw [X_TO_at_e, C_isUpTo, xm_cI_s, xm_br_b hx, C_holds _ _ σ (by omega) h.2.1, xm_cI_s, xm_br_b hy, C_isBit, xm_cI_s, xm_br_n hw, C_refusal, xm_cL_s]; rfl
    · rw [X_Mod_at_e, C_in05, xm_cI_s, xm_br_b hx, C_isPerson _ _ σ (by omega) (by omega) h.2.2.1, xm_cI_s, xm_br_b hy, C_isTwo, xm_cI_s, xm_br_n hw, C_no, xm_cL_s]; rfl
  have hy0 := hy
  obtain ⟨p, hp, rfl⟩ := hy
  obtain ⟨k, -, hk, rfl⟩ := up_n (a := 0) (b := 5) (by omega) hx (by omega)
  obtain ⟨τ, t1, t2⟩ := C_go h (s := s) d hk
  have ht := h.es t2.es
  obtain ⟨υ, u1, u2, u3⟩ := C_mwk ht (s := s) (by rw [t2.1]; exact hs.2.1) hs.2.2.1 (d + 1) hk
  have l1 := wk_le h s hk hp
  have l2 := wk_le' h s hk hp
  have l3 := st_le n s
  have l4 := p840 hk
  have l5 := st_pos hn hs.2.2.1
  have m5 : sm (stN n s) n * 840 ^ 5 ≤ 9 * 840 ^ 5 := Nat.mul_le_mul_right _ (by omega)
  have mk : sm (stN n s) n * 840 ^ k ≤ 9 * 840 ^ 5 := Nat.mul_le_mul (by omega) l4
  have p0 : 0 < sm (stN n s) n * 840 ^ k := Nat.mul_pos (by omega) (Nat.pow_pos (by omega))
  refine ⟨frN (wkF T n (stN n s) k p) (sm (stN n s) n * 840 ^ k) w, τ, υ, ?_, ?_, t2.es.tr u2.es⟩
  · rw [X_TO_at_e, C_isUpTo, xm_cI_s, xm_br_b hx, C_holds _ _ σ (by omega) h.2.1, xm_cI_s, xm_br_b hy0, C_isBit, xm_cI_s, xm_br_b hw, hs.1, t1, xm_cV_s, xm_ix_n (show p < 9 by omega) (by omega), t2.2.2.2 p (by omega), t2.2.2.1, F_frac (d + 2) _ w (by omega) (by omega), xm_cL_s, scale5 _ _ hk]
  · rw [X_Mod_at_e, C_in05, xm_cI_s, xm_br_b hx, C_isPerson _ _ τ (by omega) (by omega) ht.2.2.1, xm_cI_s, xm_br_b hy0, C_isTwo, xm_cI_s, xm_br_b hw, u1, xm_cL_s, xm_ix_n (show p < 9 by omega) (by omega), u3 p hp, F_part (d + 2) _ w (by omega) (by omega) (by omega), xm_cL_s]
theorem O_strayed (h : NtA n T K σ) (hs : StA n s L σ) (d : Nat) (x w : Int32) : OpL (X_TO_strayed (d + 4) x w) (X_Mod_strayed (d + 4) x w) (Es σ) σ := by
  unfold OpL
  have hn := h.1
  have h840 : 840 ^ 5 = 418211942400000 := by decide
  by_cases hx : 0 ≤ x ∧ x ≤ 5
  rotate_left
  · refine ⟨BADL, σ, σ, ?_, ?_, Es.rf σ⟩
    · rw [X_TO_strayed_e, C_isUpTo, xm_cI_s, xm_br_n hx, C_refusal, xm_cL_s]; rfl
    · rw [X_Mod_strayed_e, C_in05, xm_cI_s, xm_br_n hx, C_no, xm_cL_s]; rfl
  by_cases hw : inR w 2
  rotate_left
  · refine ⟨BADL, σ, σ, ?_, ?_, Es.rf σ⟩
    · rw [X_TO_strayed_e, C_isUpTo, xm_cI_s, xm_br_b hx, C_isBit, xm_cI_s, xm_br_n hw, C_refusal, xm_cL_s]; rfl
    · rw [X_Mod_strayed_e, C_in05, xm_cI_s, xm_br_b hx, C_isTwo, xm_cI_s, xm_br_n hw, C_no, xm_cL_s]; rfl
  obtain ⟨k, -, hk, rfl⟩ := up_n (a := 0) (b := 5) (by omega) hx (by omega)
  obtain ⟨τ, t1, t2⟩ := C_go h (s := s) d hk
  have ht := h.es t2.es
  have l3 := st_le n s
  have l4 := p840 hk
  have l5 := st_pos hn hs.2.2.1
  have hdg := dgs_le h
  generalize hS : sm (stN n s) n = S at *
  have m5 : S * 840 ^ 5 ≤ 9 * 840 ^ 5 := Nat.mul_le_mul_right _ (by omega)
  have mk : S * 840 ^ k ≤ 9 * 840 ^ 5 := Nat.mul_le_mul (by omega) l4
  have p0 : 0 < S * 840 ^ k := Nat.mul_pos (by omega) (Nat.pow_pos (by omega))
  -- what a person adds
  have f1 : ∀ p, p < n → wkF T n (stN n s) k p * 840 ^ (5 - k) * dgs T n ≤ 9 * 840 ^ 5 * 72 := fun p hp => Nat.mul_le_mul (wk_le h s hk hp) hdg
  have f2 : ∀ p, p < n → pop 14 (T p) * (S * 840 ^ 5) ≤ 8 * (9 * 840 ^ 5) := fun p hp => Nat.mul_le_mul (h.pop (by omega)) m5
  have f3 : ∀ p, p < n → wkF T n (stN n s) k p * dgs T n ≤ 9 * 840 ^ 5 * 72 := fun p hp => Nat.mul_le_mul (Nat.le_trans (wk_le' h s hk hp) (Nat.mul_le_mul_left _ l4)) hdg
  have f4 : ∀ p, p < n → pop 14 (T p) * (S * 840 ^ k) ≤ 8 * (9 * 840 ^ 5) := fun p hp => Nat.mul_le_mul (h.pop (by omega)) mk
  have e5 : S * 840 ^ 5 = S * 840 ^ k * 840 ^ (5 - k) := by rw [Nat.mul_assoc, ← Nat.pow_add, show k + (5 - k) = 5 by omega]
  have cls : ∀ (m p : Nat) (a : Nat), p + m = n → X_Walk_apart_21 (d + 3) (lN (dgs T n)) (lN a) (nI p) τ = some (some (.long (lN (a + (sm (fun p => adf (wkF T n (stN n s) k p * dgs T n) (pop 14 (T p) * (S * 840 ^ k)) * 840 ^ (5 - k)) n - sm (fun p => adf (wkF T n (stN n s) k p * dgs T n) (pop 14 (T p) * (S * 840 ^ k)) * 840 ^ (5 - k)) p)))), τ) := by
    intro m
    induction m with
    | zero =>
      intro p a hp
      rw [X_Walk_apart_21_e, ht.2.1, xm_br_t (nI_le (by omega) (by omega)), show p = n by omega, Nat.sub_self, Nat.add_zero]
    | succ m ih =>
      intro p a hp
      have hpn : p < n := by omega
      have g1 := f1 p hpn
      have g2 := f2 p hpn
      rw [X_Walk_apart_21_e, ht.2.1, xm_br_f (nI_ge (by omega) (by omega)), xm_ix_n (show p < 9 by omega) (by omega), C_degree ht _ hpn, xm_cI_s, t2.2.2.2 p (by omega), t2.2.2.1, nI_l (by have := h.pop (show p < 9 by omega); omega), lN_mul, lN_mul, hS, labs_n (by omega) (by omega), lN_add, nI_1, ih (p + 1) _ (by omega)]
      have e : adf (wkF T n (stN n s) k p * 840 ^ (5 - k) * dgs T n) (pop 14 (T p) * (S * 840 ^ 5)) = adf (wkF T n (stN n s) k p * dgs T n) (pop 14 (T p) * (S * 840 ^ k)) * 840 ^ (5 - k) := by
        rw [← adf_mul, e5]
        congr 1
        · simp only [Nat.mul_assoc, Nat.mul_comm, Nat.mul_left_comm]
        · simp only [Nat.mul_assoc]
      have hmono : ∀ z, p < z → z ≤ n → sm (fun p => adf (wkF T n (stN n s) k p * dgs T n) (pop 14 (T p) * (S * 840 ^ k)) * 840 ^ (5 - k)) (p + 1) ≤ sm (fun p => adf (wkF T n (stN n s) k p * dgs T n) (pop 14 (T p) * (S * 840 ^ k)) * 840 ^ (5 - k)) z := by
        intro z
        induction z with
        | zero => intro hz _; omega
        | succ z ihz =>
          intro hz hz2
          by_cases e : p = z
          · subst e; exact Nat.le_refl _
          · exact Nat.le_trans (ihz (by omega) (by omega)) (Nat.le_add_right _ _)
      have hm := hmono n hpn (Nat.le_refl _)
      have hs1 : sm (fun p => adf (wkF T n (stN n s) k p * dgs T n) (pop 14 (T p) * (S * 840 ^ k)) * 840 ^ (5 - k)) (p + 1) = sm (fun p => adf (wkF T n (stN n s) k p * dgs T n) (pop 14 (T p) * (S * 840 ^ k)) * 840 ^ (5 - k)) p + adf (wkF T n (stN n s) k p * dgs T n) (pop 14 (T p) * (S * 840 ^ k)) * 840 ^ (5 - k) := rfl
      rw [e, Nat.add_assoc]
      congr 5
      omega
  have cls0 := cls n 0 0 (by omega)
  rw [show sm (fun p => adf (wkF T n (stN n s) k p * dgs T n) (pop 14 (T p) * (S * 840 ^ k)) * 840 ^ (5 - k)) 0 = 0 from rfl, Nat.sub_zero, Nat.zero_add] at cls0
  have tot : sm (fun p => adf (wkF T n (stN n s) k p * dgs T n) (pop 14 (T p) * (S * 840 ^ k)) * 840 ^ (5 - k)) n = sm (fun p => adf (wkF T n (stN n s) k p * dgs T n) (pop 14 (T p) * (S * 840 ^ k))) n * 840 ^ (5 - k) := by
    exact sm_mulr (fun p => adf (wkF T n (stN n s) k p * dgs T n) (pop 14 (T p) * (S * 840 ^ k))) (840 ^ (5 - k)) n
  have ad_le : ∀ a b c, a ≤ c → b ≤ c → adf a b ≤ c := by
    intro a b c ha hb
    unfold adf
    split <;> omega
  have bnd : sm (fun p => adf (wkF T n (stN n s) k p * dgs T n) (pop 14 (T p) * (S * 840 ^ k)) * 840 ^ (5 - k)) n ≤ 9 * (9 * 840 ^ 5 * 72) := by
    have := sm_le (f := fun p => adf (wkF T n (stN n s) k p * dgs T n) (pop 14 (T p) * (S * 840 ^ k)) * 840 ^ (5 - k)) (c := 9 * 840 ^ 5 * 72) (n := n) (fun p hp => by
      show adf (wkF T n (stN n s) k p * dgs T n) (pop 14 (T p) * (S * 840 ^ k)) * 840 ^ (5 - k) ≤ _
      rw [← adf_mul]
      refine ad_le _ _ _ ?_ ?_
      · have := f1 p hp
        rw [Nat.mul_assoc, Nat.mul_comm (dgs T n), ← Nat.mul_assoc]
        exact this
      · have := f2 p hp
        rw [Nat.mul_assoc, ← e5]
        omega)
    exact Nat.le_trans this (Nat.mul_le_mul_right _ (by omega))
  have bnd2 : sm (fun p => adf (wkF T n (stN n s) k p * dgs T n) (pop 14 (T p) * (S * 840 ^ k))) n ≤ 9 * (9 * 840 ^ 5 * 72) := by
    have := sm_le (f := fun p => adf (wkF T n (stN n s) k p * dgs T n) (pop 14 (T p) * (S * 840 ^ k))) (c := 9 * 840 ^ 5 * 72) (n := n) (fun p hp => by
      refine ad_le _ _ _ (f3 p hp) ?_
      have := f4 p hp
      omega)
    exact Nat.le_trans this (Nat.mul_le_mul_right _ (by omega))
  have w5 : 2 * (S * 840 ^ 5) * dgs T n ≤ 2 * (9 * 840 ^ 5) * 72 := Nat.mul_le_mul (Nat.mul_le_mul_left _ m5) hdg
  have wk : 2 * (S * 840 ^ k) * dgs T n ≤ 2 * (9 * 840 ^ 5) * 72 := Nat.mul_le_mul (Nat.mul_le_mul_left _ mk) hdg
  have fin : X_TO_strayed (d + 4) (nI k) w σ = some (some (.long (frN (sm (fun p => adf (wkF T n (stN n s) k p * dgs T n) (pop 14 (T p) * (S * 840 ^ k))) n) (2 * (S * 840 ^ k) * dgs T n) w)), τ) := by
    rw [X_TO_strayed_e, C_isUpTo, xm_cI_s, xm_br_b hx, C_isBit, xm_cI_s, xm_br_b hw, hs.1, t1, xm_cV_s, X_Walk_apart_e, C_everyone _ _ hn.2 ht.2.1, xm_cI_s, C_degall ht _, xm_cI_s, nI_l (by omega), show X_Walk_apart_21 (d + 2 + 1) (lN (dgs T n)) 0 0 τ = _ from cls0, xm_cL_s, X_Walk_mostApart_e, C_everyone _ _ hn.2 ht.2.1, xm_cI_s, C_degall ht _, xm_cI_s, nI_l (by omega), t2.2.2.1, hS, show (2 : Int64) = lN 2 from rfl, lN_mul, lN_mul, xm_cL_s, F_frac (d + 2) _ w (by omega) (by omega), xm_cL_s, tot, e5]
    rw [show 2 * (S * 840 ^ k * 840 ^ (5 - k)) * dgs T n = 2 * (S * 840 ^ k) * dgs T n * 840 ^ (5 - k) by
      simp only [Nat.mul_assoc, Nat.mul_comm, Nat.mul_left_comm], frN_scale (Nat.pow_pos (by omega))]
  have mod : ∀ r, xm_cI (X_Mod_degrees (d + 3) τ) r = r (nI (dgs T n)) τ := fun r => by rw [C_mdegs ht _, xm_cI_s]
  by_cases hd0 : dgs T n = 0
  · refine ⟨_, τ, τ, fin, ?_, t2.es⟩
    rw [X_Mod_strayed_e, C_in05, xm_cI_s, xm_br_b hx, C_isTwo, xm_cI_s, xm_br_b hw, mod, hd0, xm_br_t nI_0, C_no, xm_cL_s, Nat.mul_zero]
    unfold frN
    rw [if_pos rfl]
    rfl
  · obtain ⟨υ, u1, u2, u3⟩ := C_mwk ht (s := s) (by rw [t2.1]; exact hs.2.1) hs.2.2.1 (d + 1) hk
    rw [hS] at u1
    have hu := NtA_1 ht u2.1
    refine ⟨_, τ, υ, fin, ?_, t2.es.tr u2.es⟩
    rw [X_Mod_strayed_e, C_in05, xm_cI_s, xm_br_b hx, C_isTwo, xm_cI_s, xm_br_b hw, mod, xm_br_f (nI_ne0 (by omega) (by omega)), u1, xm_cL_s]
    have loop : ∀ (m p : Nat), p + m = n → X_Mod_strayed_50 (d + 4) w (lN (S * 840 ^ k)) (lN (sm (fun p => adf (wkF T n (stN n s) k p * dgs T n) (pop 14 (T p) * (S * 840 ^ k))) p)) (nI p) υ = some (some (.long (frN (sm (fun p => adf (wkF T n (stN n s) k p * dgs T n) (pop 14 (T p) * (S * 840 ^ k))) n) (2 * (S * 840 ^ k) * dgs T n) w)), υ) := by
      intro m
      induction m with
      | zero =>
        intro p hp
        have hne : 2 * (S * 840 ^ k) * dgs T n ≠ 0 := Nat.mul_ne_zero (by omega) hd0
        rw [X_Mod_strayed_50_e, hu.2.2.1, xm_br_t (nI_le (by omega) (by omega)), C_mdegs hu _, xm_cI_s, nI_l (by omega), show (2 : Int64) = lN 2 from rfl, lN_mul, lN_mul, show p = n by omega, F_part (d + 2) _ w (by omega) (by omega) hne, xm_cL_s]
      | succ m ih =>
        intro p hp
        have hpn : p < n := by omega
        have g1 := f3 p hpn
        have g2 := f4 p hpn
        have := ih (p + 1) (by omega)
        rw [show sm (fun p => adf (wkF T n (stN n s) k p * dgs T n) (pop 14 (T p) * (S * 840 ^ k))) (p + 1) = sm (fun p => adf (wkF T n (stN n s) k p * dgs T n) (pop 14 (T p) * (S * 840 ^ k))) p + adf (wkF T n (stN n s) k p * dgs T n) (pop 14 (T p) * (S * 840 ^ k)) from rfl] at this
        rw [X_Mod_strayed_50_e, hu.2.2.1, xm_br_f (nI_ge (by omega) (by omega)), xm_ix_n (show p < 9 by omega) (by omega), C_mdegs hu _, xm_cI_s, C_mdegree hu _ (by omega), xm_cI_s, u3 p hpn, nI_l (by omega), nI_l (by have := h.pop (show p < 9 by omega); omega), lN_mul, lN_mul, nI_1]
        by_cases q : pop 14 (T p) * (S * 840 ^ k) ≤ wkF T n (stN n s) k p * dgs T n
        · rw [xm_br_t ((lsub_ge (by omega) (by omega)).mpr q), lN_sub q, lN_add]
          have e : adf (wkF T n (stN n s) k p * dgs T n) (pop 14 (T p) * (S * 840 ^ k)) = wkF T n (stN n s) k p * dgs T n - pop 14 (T p) * (S * 840 ^ k) := by
            unfold adf
            split <;> omega
          rw [e] at this
          exact this
        · rw [xm_br_f (fun z => q ((lsub_ge (by omega) (by omega)).mp z)), lN_neg (by omega), lN_add]
          have e : adf (wkF T n (stN n s) k p * dgs T n) (pop 14 (T p) * (S * 840 ^ k)) = pop 14 (T p) * (S * 840 ^ k) - wkF T n (stN n s) k p * dgs T n := by
            unfold adf
            split <;> omega
          rw [e] at this
          exact this
    exact loop n 0 (by omega)
end WO
