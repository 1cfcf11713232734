/-! CHAINS: begin, follow; what is kept of it -/
section CH
variable {T : Nat → Nat} {n K L : Nat} {s : Int32} {σ : Sg}
theorem VV_0 (T : Nat → Nat) (n L : Nat) (f : Nat → Nat) (S l : Nat) : VV T n L f S l 0 = 0 := VF_0 _ _ _
theorem pow_in {p q : Nat} (h : p < q) : 2 ^ p < 2 ^ q := Nat.pow_lt_pow_right (by omega) h
theorem C_beg (h : NtA n T K σ) (d : Nat) : ∀ (k p : Nat) (τ : Sg) (g : Nat → Nat), p + k = n → τ.1 = σ.1 → (∀ c, c ∉ [3, 4, 5] → τ.2 c = σ.2 c) → (∀ i, i < 4608 → τ.2 4 i = lN (g i)) → (∀ S, S < 512 → τ.2 5 S = lN 0) → τ.2 3 6 = lN (sm (stN n s) p * 91445760000) → (∀ i, g i ≠ 0 → ∃ q, q < p ∧ i = 9 * 2 ^ q + q ∧ g i = 91445760000) → (∀ f, P2 T n L f g 9 = sm (fun p => stN n s p * VV T n L f (2 ^ p) p 91445760000) p) → ∃ υ g', X_Chains_begin_23 (d + 1) s (nI p) τ = some (none, υ) ∧ υ.1 = σ.1 ∧ (∀ c, c ∉ [3, 4, 5] → υ.2 c = σ.2 c) ∧ (∀ i, i < 4608 → υ.2 4 i = lN (g' i)) ∧ (∀ S, S < 512 → υ.2 5 S = lN 0) ∧ υ.2 3 6 = lN (sm (stN n s) n * 91445760000) ∧ (∀ i, g' i ≠ 0 → ∃ q, q < n ∧ i = 9 * 2 ^ q + q ∧ g' i = 91445760000) ∧ ∀ f, P2 T n L f g' 9 = CstF T n L s f := by
  intro k
  induction k with
  | zero =>
    intro p τ g hp e1 e2 e3 e4 e5 e6 e7
    have hn := h.1
    have : p = n := by omega
    subst this
    refine ⟨τ, g, ?_, e1, e2, e3, e4, e5, e6, e7⟩
    rw [X_Chains_begin_23_e, (NtA_1 h e1).2.1, xm_br_t (nI_le (by omega) (by omega))]
  | succ k ih =>
    intro p τ g hp e1 e2 e3 e4 e5 e6 e7
    have hn := h.1
    have hpn : p < n := by omega
    have h2p := p2_512 (show p < 9 by omega)
    have htl : 9 * 2 ^ p + p < 4608 := by omega
    obtain ⟨i1, i2⟩ := ix9 (S := 2 ^ p) (l := p) (by omega)
    have hz : g (9 * 2 ^ p + p) = 0 := by
      refine Decidable.byContradiction (fun z => ?_)
      obtain ⟨q, hq, eq, -⟩ := e6 _ z
      have := pow_in hq
      omega
    rw [X_Chains_begin_23_e, (NtA_1 h e1).2.1, xm_br_f (nI_ge hpn (by omega)), sh_1 p (by omega), C_place, xm_cI_s, xm_ix_n htl (by omega), nI_1, e5]
    have yes : stN n s p = 1 → ∃ υ g', X_Chains_begin_23 (d + 1) s (nI (p + 1)) (xm_sL (xm_sL τ 4 (9 * 2 ^ p + p) 91445760000) 3 6 (lN (sm (stN n s) p * 91445760000) + 91445760000)) = some (none, υ) ∧ υ.1 = σ.1 ∧ (∀ c, c ∉ [3, 4, 5] → υ.2 c = σ.2 c) ∧ (∀ i, i < 4608 → υ.2 4 i = lN (g' i)) ∧ (∀ S, S < 512 → υ.2 5 S = lN 0) ∧ υ.2 3 6 = lN (sm (stN n s) n * 91445760000) ∧ (∀ i, g' i ≠ 0 → ∃ q, q < n ∧ i = 9 * 2 ^ q + q ∧ g' i = 91445760000) ∧ ∀ f, P2 T n L f g' 9 = CstF T n L s f := by
      intro h1
      refine ih (p + 1) _ (sv g (9 * 2 ^ p + p) 91445760000) (by omega) e1 (fun c hc => ?_) (fun i hi => ?_) (fun S hS => ?_) ?_ (fun i hi => ?_) (fun f => ?_)
      · have hc' : ∀ k, k ∈ [3, 4, 5] → c ≠ k := fun k hk e => hc (e ▸ hk)
        rw [sL_cell _ _ _ (hc' 3 (by decide)), sL_cell _ _ _ (hc' 4 (by decide))]
        exact e2 c hc
      · rw [sL_cell _ _ _ (by decide), sL_at]
        by_cases z : i = 9 * 2 ^ p + p
        · rw [if_pos z, z, sv_s]; rfl
        · rw [if_neg z, sv_o _ _ z]; exact e3 i hi
      · rw [sL_cell _ _ _ (by decide), sL_cell _ _ _ (by decide)]
        exact e4 S hS
      · rw [sL_same, show (91445760000 : Int64) = lN 91445760000 from rfl, lN_add]
        show _ = lN ((sm (stN n s) p + stN n s p) * 91445760000)
        rw [h1, Nat.add_mul, Nat.one_mul]
      · by_cases z : i = 9 * 2 ^ p + p
        · rw [z, sv_s]
          exact ⟨p, by omega, rfl, rfl⟩
        · rw [sv_o _ _ z] at hi ⊢
          obtain ⟨q, a, b, c⟩ := e6 i hi
          exact ⟨q, by omega, b, c⟩
      · rw [P2_up T n L f g (sv g (9 * 2 ^ p + p) 91445760000) (cur := 9) (t := 9 * 2 ^ p + p) (δ := VV T n L f (2 ^ p) p 91445760000) htl (by have := two_pos p; omega) (by rw [sv_s, hz, i1, i2, VV_0, Nat.zero_add]) (fun i hi => sv_o _ _ hi), e7 f]
        show _ = sm (fun p => stN n s p * VV T n L f (2 ^ p) p 91445760000) p + stN n s p * VV T n L f (2 ^ p) p 91445760000
        rw [h1, Nat.one_mul]
    by_cases q1 : s = -1
    · rw [xm_br_t q1]
      exact yes (if_pos ⟨hpn, Or.inl q1⟩)
    rw [xm_br_f q1]
    by_cases q2 : s = nI p
    · rw [xm_br_t q2]
      exact yes (if_pos ⟨hpn, Or.inr q2⟩)
    rw [xm_br_f q2]
    have h0 : stN n s p = 0 := if_neg (fun z => z.2.elim q1 q2)
    refine ih (p + 1) τ g (by omega) e1 e2 e3 e4 ?_ (fun i hi => ?_) (fun f => ?_)
    · show _ = lN ((sm (stN n s) p + stN n s p) * 91445760000)
      rw [h0]; exact e5
    · obtain ⟨q, a, b, c⟩ := e6 i hi
      exact ⟨q, by omega, b, c⟩
    · rw [e7 f]
      show _ = sm (fun p => stN n s p * VV T n L f (2 ^ p) p 91445760000) p + stN n s p * VV T n L f (2 ^ p) p 91445760000
      rw [h0, Nat.zero_mul, Nat.add_zero]
/-- what is kept: ended chains, by their sets -/
def ChG (T : Nat → Nat) (n : Nat) (s : Int32) (L : Nat) (τ : Sg) : Prop := ∃ e : Nat → Nat, (∀ S, S < 512 → τ.2 5 S = lN (e S)) ∧ (∀ f, sm (fun S => e S * f S) 512 = CstF T n L s f) ∧ τ.2 3 6 = lN (sm (stN n s) n * 91445760000)
theorem sum0 (f : Nat → Nat) : sm (fun S => (fun _ => 0) S * f S) 512 = 0 := sm_0 (fun S _ => Nat.zero_mul _)
theorem P2_0 (T : Nat → Nat) (n L : Nat) (f : Nat → Nat) (cur : Nat) : P2 T n L f (fun _ => 0) cur = 0 := by
  unfold P2
  refine sm_0 (fun i _ => ?_)
  split
  · exact VV_0 _ _ _ _ _ _
  · rfl
theorem C_begin (h : NtA n T K σ) (d : Nat) : ∃ τ g, X_Chains_begin (d + 2) s σ = some (none, τ) ∧ τ.1 = σ.1 ∧ (∀ c, c ∉ [3, 4, 5] → τ.2 c = σ.2 c) ∧ τ.2 3 6 = lN (sm (stN n s) n * 91445760000) ∧ CsP τ τ g (fun _ => 0) ∧ CnI T n L s 9 g (fun _ => 0) := by
  have hn := h.1
  obtain ⟨φ, f1, f2, f3, f4⟩ := fl_4 (d + 1) 0 σ
  obtain ⟨ψ, p1, p2, p3, p4⟩ := fl_5 (d + 1) 0 φ
  obtain ⟨τ, g, t1, t2, t3, t4, t5, t6, t7, t8⟩ := C_beg (L := L) (s := s) h (d + 1) n 0 (xm_sL ψ 3 6 0) (fun _ => 0) (by omega) (p4.trans f4) (fun c hc => by
      have hc' : ∀ k, k ∈ [3, 4, 5] → c ≠ k := fun k hk e => hc (e ▸ hk)
      rw [sL_cell _ _ _ (hc' 3 (by decide)), p3 c (hc' 5 (by decide)), f3 c (hc' 4 (by decide))]) (fun i hi => by rw [sL_cell _ _ _ (by decide), p3 4 (by decide), f2 i hi]; rfl) (fun S hS => by rw [sL_cell _ _ _ (by decide), p2 S hS]; rfl) (by rw [sL_same, show sm (stN n s) 0 = 0 from rfl, Nat.zero_mul, lN_0]) (fun i hi => absurd rfl hi) (fun f => P2_0 T n L f 9)
  refine ⟨τ, g, ?_, t2, t3, t6, ⟨rfl, fun _ _ => rfl, t4, t5⟩, fun i _ _ hi => ?_, fun f => ?_⟩
  · rw [X_Chains_begin_e, f1, xm_cV_s, p1, xm_cV_s]
    exact t1
  · obtain ⟨q, a, b, c⟩ := t7 i hi
    obtain ⟨i1, i2⟩ := ix9 (S := 2 ^ q) (l := q) (by omega)
    obtain ⟨w1, w2⟩ := pow_p (show q < 9 by omega)
    rw [c, b, i1, i2]
    exact ⟨w1, pow_in a, a, 1, by rw [w2]; rfl⟩
  · rw [sum0, Nat.zero_add]
    exact t8 f
/-- places where nothing can stand are passed -/
theorem CnI_sk {cur : Nat} {g e : Nat → Nat} (hc : cur < 4608) (hI : CnI T n L s cur g e) (h0 : n ≤ cur % 9) : CnI T n L s (cur + 1) g e := by
  have z : g cur = 0 := Decidable.byContradiction (fun q => by have := (hI.1 cur (Nat.le_refl _) hc q).2.2.1; omega)
  refine ⟨fun i h1 h2 => hI.1 i (by omega) h2, fun f => ?_⟩
  have := hI.2 f
  rw [P2_st T n L f g hc, z, VV_0, Nat.add_zero] at this
  exact this
theorem CnI_row {S : Nat} {g e : Nat → Nat} (hn : n ≤ 9) (hS : S < 512) : ∀ (k l : Nat), l + k = 9 → n ≤ l → CnI T n L s (9 * S + l) g e → CnI T n L s (9 * (S + 1)) g e
  | 0, l, hl, _, hI => by
    rw [show 9 * (S + 1) = 9 * S + l by omega]
    exact hI
  | k + 1, l, hl, hnl, hI => CnI_row hn hS k (l + 1) (by omega) (by omega) (CnI_sk (show 9 * S + l < 4608 by omega) hI (show n ≤ (9 * S + l) % 9 by omega))
theorem C_f64 (h : NtA n T K σ) (hL : 1 ≤ L ∧ L ≤ 7) (d : Nat) {S : Nat} (hS : 1 ≤ S) (hS2 : S < 2 ^ n) : ∀ (k l : Nat) (τ : Sg) (g e : Nat → Nat), l + k = n → CsP σ τ g e → CnI T n L s (9 * S + l) g e → ∃ υ g' e', X_Chains_follow_64 (d + 2) s (nI L) (nI S) (nI l) τ = X_Chains_follow_49 (d + 2) s (nI L) (nI (S + 1)) υ ∧ CsP σ υ g' e' ∧ CnI T n L s (9 * (S + 1)) g' e'
  | 0, l, τ, g, e, hl, ht, hI => by
    have hn := h.1
    refine ⟨τ, g, e, ?_, ht, CnI_row hn.2 (pow9 hn.2 hS2) (9 - l) l (by omega) (by omega) hI⟩
    rw [X_Chains_follow_64_e, (NtA_1 h ht.1).2.1, xm_br_t (nI_le (by omega) (by omega)), nI_1]
  | k + 1, l, τ, g, e, hl, ht, hI => by
    have hn := h.1
    obtain ⟨υ, g', e', u1, u2, u3⟩ := C_goOn h hL d hS hS2 (show l < n by omega) ht hI
    obtain ⟨ρ, g2, e2, r1, r2⟩ := C_f64 h hL d hS hS2 k (l + 1) υ g' e' (by omega) u2 u3
    refine ⟨ρ, g2, e2, ?_, r2⟩
    rw [X_Chains_follow_64_e, (NtA_1 h ht.1).2.1, xm_br_f (nI_ge (by omega) (by omega)), u1, xm_cV_s, nI_1]
    exact r1
theorem C_f49 (h : NtA n T K σ) (hL : 1 ≤ L ∧ L ≤ 7) (d : Nat) : ∀ (k S : Nat) (τ : Sg) (g e : Nat → Nat), S + k = 2 ^ n → 1 ≤ S → CsP σ τ g e → CnI T n L s (9 * S) g e → ∃ υ g' e', X_Chains_follow_49 (d + 2) s (nI L) (nI S) τ = some (none, xm_sI (xm_sI (xm_sI υ 3 4 s) 3 5 (nI L)) 3 3 (υ.1 1 3)) ∧ CsP σ υ g' e' ∧ ∀ f, sm (fun S => e' S * f S) 512 = CstF T n L s f
  | 0, S, τ, g, e, hS, h1, ht, hI => by
    have hn := h.1
    have h9 : 2 ^ n ≤ 2 ^ 9 := Nat.pow_le_pow_right (by omega) hn.2
    refine ⟨τ, g, e, ?_, ht, fun f => ?_⟩
    · rw [X_Chains_follow_49_e, C_everyone _ _ hn.2 (NtA_1 h ht.1).2.1, xm_cI_s, xm_br_t (nI_lt (by omega) (by omega))]
    · have := hI.2 f
      have z : P2 T n L f g (9 * S) = 0 := by
        unfold P2
        refine sm_0 (fun i hi => ?_)
        by_cases q : 9 * S ≤ i
        · rw [if_pos q]
          have : g i = 0 := Decidable.byContradiction (fun w => by have := (hI.1 i q hi w).2.1; omega)
          rw [this, VV_0]
        · rw [if_neg q]
      rw [z, Nat.add_zero] at this
      exact this
  | k + 1, S, τ, g, e, hS, h1, ht, hI => by
    have hn := h.1
    have h9 : 2 ^ n ≤ 2 ^ 9 := Nat.pow_le_pow_right (by omega) hn.2
    obtain ⟨υ, g', e', u1, u2, u3⟩ := C_f64 h hL d h1 (show S < 2 ^ n by omega) n 0 τ g e (by omega) ht hI
    obtain ⟨ρ, g2, e2, r1, r2⟩ := C_f49 h hL d k (S + 1) υ g' e' (by omega) (by omega) u2 u3
    refine ⟨ρ, g2, e2, ?_, r2⟩
    rw [X_Chains_follow_49_e, C_everyone _ _ hn.2 (NtA_1 h ht.1).2.1, xm_cI_s, xm_br_f (nI_nlt (by omega) (by omega))]
    exact u1.trans r1
/-- what is kept of chains is right, if nothing of the net has changed since -/
def CcA (n : Nat) (T : Nat → Nat) (c : Nat) (τ : Sg) : Prop := τ.1 1 3 = nI c ∧ c < 2 ^ 31 ∧ (τ.1 3 3 = -1 ∨ ∃ f, f ≤ c ∧ τ.1 3 3 = nI f) ∧ (τ.1 3 3 = nI c → ∀ s L, τ.1 3 4 = s → τ.1 3 5 = nI L → 1 ≤ L → L ≤ 7 → ChG T n s L τ)
theorem C_foll (h : NtA n T K σ) (hL : 1 ≤ L ∧ L ≤ 7) {c : Nat} (hc : CcA n T c σ) (s : Int32) (d : Nat) : ∃ τ, X_Chains_follow (d + 3) s (nI L) σ = some (none, τ) ∧ ChG T n s L τ ∧ CcA n T c τ ∧ (∀ k, k ≠ 3 → τ.1 k = σ.1 k) ∧ ∀ k, k ∉ [3, 4, 5] → τ.2 k = σ.2 k := by
  have hn := h.1
  have two1 : 2 ^ n = 1 + (2 ^ n - 1) := by have := two_pos n; omega
  -- anew
  obtain ⟨τ, g, t1, t2, t3, t4, t5, t6⟩ := C_begin (L := L) (s := s) h d
  have hN := NtA_1 h t2
  obtain ⟨υ, g', e', u1, u2, u3⟩ := C_f49 hN hL (d + 1) (2 ^ n - 1) 1 τ g (fun _ => 0) (by omega) (by omega) t5 t6
  have e13 : υ.1 1 3 = nI c := by rw [u2.1, t2]; exact hc.1
  have anew : ∃ ρ, xm_cV (X_Chains_begin (d + 2) s σ) (fun σ1 => X_Chains_follow_49 (d + 3) s (nI L) 1 σ1) = some (none, ρ) ∧ ChG T n s L ρ ∧ CcA n T c ρ ∧ (∀ k, k ≠ 3 → ρ.1 k = σ.1 k) ∧ ∀ k, k ∉ [3, 4, 5] → ρ.2 k = σ.2 k := by
    have hG : ChG T n s L (xm_sI (xm_sI (xm_sI υ 3 4 s) 3 5 (nI L)) 3 3 (υ.1 1 3)) := ⟨e', u2.2.2.2, u3, (congrFun (u2.2.1 3 (by decide)) 6).trans t4⟩
    refine ⟨_, ?_, hG, ⟨?_, hc.2.1, Or.inr ⟨c, Nat.le_refl _, ?_⟩, fun _ s' L' e1 e2 h1 h7 => ?_⟩, fun k hk => ?_, fun k hk => ?_⟩
    · rw [t1, xm_cV_s]
      exact u1
    · rw [sI_cell _ _ _ (by decide), sI_cell _ _ _ (by decide), sI_cell _ _ _ (by decide)]
      exact e13
    · rw [sI_same]
      exact e13
    · rw [sI_row _ _ (by decide), sI_row _ _ (by decide), sI_same] at e1
      rw [sI_row _ _ (by decide), sI_same] at e2
      have := (nI_eq (by omega) (by omega)).mp e2
      subst e1
      subst this
      exact hG
    · rw [sI_cell _ _ _ hk, sI_cell _ _ _ hk, sI_cell _ _ _ hk, u2.1, t2]
    · show υ.2 k = σ.2 k
      rw [u2.2.1 k (fun q => hk (by simp only [List.mem_cons, List.not_mem_nil, or_false] at q ⊢; omega)), t3 k hk]
  rw [X_Chains_follow_e]
  by_cases q1 : σ.1 3 4 = s
  rotate_left
  · rw [xm_br_f q1]; exact anew
  rw [xm_br_t q1]
  by_cases q2 : σ.1 3 5 = nI L
  rotate_left
  · rw [xm_br_f q2]; exact anew
  rw [xm_br_t q2]
  by_cases q3 : σ.1 3 3 = σ.1 1 3
  rotate_left
  · rw [xm_br_f q3]; exact anew
  rw [xm_br_t q3]
  exact ⟨σ, rfl, hc.2.2.2 (q3.trans hc.1) s L q1 q2 hL.1 hL.2, hc, fun _ _ => rfl, fun _ _ => rfl⟩
end CH
