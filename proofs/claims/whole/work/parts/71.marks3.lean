/-! MARKS: the class: who is dealt, who clashes, how few -/
noncomputable def fC (C : Nat → Nat → Prop) (i q : Nat) : Nat := @ite Nat (C i q) (Classical.propDecidable _) 1 0
theorem fC_1 {C : Nat → Nat → Prop} {i q : Nat} : fC C i q = 1 ↔ C i q := by
  unfold fC
  by_cases h : C i q
  · rw [if_pos h]; exact ⟨fun _ => h, fun _ => rfl⟩
  · rw [if_neg h]; exact ⟨fun e => by omega, fun e => absurd e h⟩
/-- who clash, by their places -/
def clC (σ : Sg) (w : Nat → Nat) (p q : Nat) : Prop := clP σ (w p) (w q) 0
def MgP (m : Nat) (w : Nat → Nat) (σ τ : Sg) : Prop := (∀ c, c ∉ [24, 27, 28] → τ.1 c = σ.1 c) ∧ τ.2 = σ.2 ∧ τ.1 24 7 = nI m ∧ ∀ p, p < m → τ.1 27 p = nI (w p)
theorem clP_c {σ τ : Sg} (e25 : τ.1 25 = σ.1 25) (e26 : τ.1 26 = σ.1 26) (a b i : Nat) : clP τ a b i ↔ clP σ a b i := by
  unfold clP lnF
  rw [e25, e26]
theorem MkA.c {σ τ : Sg} (h : MkA σ) (e : ∀ c, c ∈ [25, 26, 67, 68] → τ.1 c = σ.1 c) : MkA τ := by
  unfold MkA
  rw [e 25 (by decide), e 26 (by decide), e 67 (by decide), e 68 (by decide)]
  exact h
section MG
variable {r : Nat} {bo kd kn tr : Nat → Nat} {ct tk : Nat → Bool} {σ : Sg}
theorem C_g84 (hk : MkA σ) (d : Nat) {m i : Nat} {w : Nat → Nat} (hm : m ≤ 12) (hi : i < m) (hw : ∀ p, p < m → w p < 24) : ∀ (k j : Nat) (τ : Sg), j + k = m → MgP m w σ τ → τ.1 28 i = nI (mbF (fC (clC σ w) i) 1 j) → ∃ υ, X_Marks_gather_84 (d + 1) (nI i) (nI j) τ = X_Marks_gather_67 (d + 1) (nI (i + 1)) υ ∧ MgP m w σ υ ∧ υ.1 28 i = nI (mbF (fC (clC σ w) i) 1 m) ∧ ∀ q, q ≠ i → υ.1 28 q = τ.1 28 q
  | 0, j, τ, hj, ht, h28 => by
    refine ⟨τ, ?_, ht, by rw [show m = j by omega]; exact h28, fun _ _ => rfl⟩
    rw [X_Marks_gather_84_e, ht.2.2.1, xm_br_t (nI_le (by omega) (by omega)), nI_1]
  | k + 1, j, τ, hj, ht, h28 => by
    have hk' : MkA τ := hk.c (fun c hc => ht.1 c (by revert c; decide))
    have hlt := mbF_lt (fC (clC σ w) i) 1 j
    have e1 : clP τ (w i) (w j) 0 ↔ clC σ w i j := clP_c (ht.1 25 (by decide)) (ht.1 26 (by decide)) _ _ _
    have st : ∀ v : Nat, v = mbF (fC (clC σ w) i) 1 (j + 1) → ∃ υ, X_Marks_gather_84 (d + 1) (nI i) (nI (j + 1)) (xm_sI τ 28 i (nI v)) = X_Marks_gather_67 (d + 1) (nI (i + 1)) υ ∧ MgP m w σ υ ∧ υ.1 28 i = nI (mbF (fC (clC σ w) i) 1 m) ∧ ∀ q, q ≠ i → υ.1 28 q = τ.1 28 q := by
      intro v hv
      obtain ⟨υ, u1, u2, u3, u4⟩ := C_g84 hk d hm hi hw k (j + 1) (xm_sI τ 28 i (nI v)) (by omega) ⟨fun c hc => by rw [sI_cell _ _ _ (by rintro rfl; exact hc (by decide))]; exact ht.1 c hc, ht.2.1, by rw [sI_cell _ _ _ (by decide)]; exact ht.2.2.1, fun p hp => by rw [sI_cell _ _ _ (by decide)]; exact ht.2.2.2 p hp⟩ (by rw [sI_same, hv])
      exact ⟨υ, u1, u2, u3, fun q hq => by rw [u4 q hq, sI_row _ _ hq]⟩
    rw [X_Marks_gather_84_e, ht.2.2.1, xm_br_f (nI_ge (by omega) (by omega))]
    simp only [xm_ix_n (show i < 12 by omega) (show 12 < 2 ^ 31 by omega), xm_ix_n (show j < 12 by omega) (show 12 < 2 ^ 31 by omega), ht.2.2.2 i hi, ht.2.2.2 j (by omega), C_differ hk' d (hw i hi) (hw j (by omega)), xm_cI_s, h28, nI_1, sh_1 j (by omega), or0, or_add hlt, bI_c e1]
    have em : mbF (fC (clC σ w) i) 1 (j + 1) = 2 ^ j * (if fC (clC σ w) i j = 1 then 1 else 0) + mbF (fC (clC σ w) i) 1 j := rfl
    by_cases q : clC σ w i j
    · rw [xm_br_b q]
      exact st _ (by rw [em, if_pos (fC_1.mpr q)])
    · rw [xm_br_n q]
      exact st _ (by rw [em, if_neg (fun e => q (fC_1.mp e))]; omega)
theorem C_g67 (hk : MkA σ) (d : Nat) {m : Nat} {w : Nat → Nat} (hm : m ≤ 12) (hw : ∀ p, p < m → w p < 24) : ∀ (k i : Nat) (τ : Sg), i + k = m → MgP m w σ τ → (∀ q, q < i → τ.1 28 q = nI (mbF (fC (clC σ w) q) 1 m)) → ∃ υ, X_Marks_gather_67 (d + 1) (nI i) τ = some (none, υ) ∧ MgP m w σ υ ∧ ∀ q, q < m → υ.1 28 q = nI (mbF (fC (clC σ w) q) 1 m)
  | 0, i, τ, hi, ht, h28 => by
    refine ⟨τ, ?_, ht, fun q hq => h28 q (by omega)⟩
    rw [X_Marks_gather_67_e, ht.2.2.1, xm_br_t (nI_le (by omega) (by omega))]
  | k + 1, i, τ, hi, ht, h28 => by
    obtain ⟨υ, u1, u2, u3, u4⟩ := C_g84 hk d hm (show i < m by omega) hw m 0 (xm_sI τ 28 i 0) (by omega) ⟨fun c hc => by rw [sI_cell _ _ _ (by rintro rfl; exact hc (by decide))]; exact ht.1 c hc, ht.2.1, by rw [sI_cell _ _ _ (by decide)]; exact ht.2.2.1, fun p hp => by rw [sI_cell _ _ _ (by decide)]; exact ht.2.2.2 p hp⟩ (by rw [sI_same]; rfl)
    obtain ⟨ρ, r1, r2, r3⟩ := C_g67 hk d hm hw k (i + 1) υ (by omega) u2 (fun q hq => by
      by_cases e : q = i
      · rw [e]; exact u3
      · rw [u4 q e, sI_row _ _ e]; exact h28 q (by omega))
    refine ⟨ρ, ?_, r2, r3⟩
    rw [X_Marks_gather_67_e, ht.2.2.1, xm_br_f (nI_ge (by omega) (by omega)), xm_ix_n (by omega) (by omega), ← r1, ← u1]
    rfl
theorem C_mg (h : VwA r bo kd kn tr ct tk σ) (hk : MkA σ) (hm : cnt ct r ≤ 12) (d : Nat) : ∃ τ, X_Marks_gather (d + 1) σ = some (none, τ) ∧ MgP (cnt ct r) (whF ct r) σ τ ∧ DlA (cnt ct r) (clC σ (whF ct r)) τ := by
  have hr := h.1.1
  have hw : ∀ p, p < cnt ct r → whF ct r p < 24 := fun p hp => by have := (whF_ok hp).1; omega
  have loop : ∀ (k i : Nat) (τ : Sg), i + k = r → (∀ c, c ∉ [24, 27, 28] → τ.1 c = σ.1 c) → τ.2 = σ.2 → τ.1 24 7 = nI (cnt ct i) → (∀ p, p < cnt ct i → τ.1 27 p = nI (whF ct r p)) → ∃ υ, X_Marks_gather_7 (d + 1) (nI i) τ = X_Marks_gather_67 (d + 1) 0 υ ∧ MgP (cnt ct r) (whF ct r) σ υ := by
    intro k
    induction k with
    | zero =>
      intro i τ hi a1 a2 a3 a4
      have : i = r := by omega
      subst this
      refine ⟨τ, ?_, a1, a2, a3, a4⟩
      rw [X_Marks_gather_7_e, a1 9 (by decide), h.1.2.1, xm_br_t (nI_le (by omega) (by omega))]
    | succ k ih =>
      intro i τ hi a1 a2 a3 a4
      obtain ⟨-, -, -, -, ⟨h18, -⟩, -⟩ := h.2 i (by omega)
      have hle := cnt_m ct (i := i) (j := r) (by omega)
      have e9 : τ.1 9 9 = nI r := by rw [a1 9 (by decide)]; exact h.1.2.1
      have e18 : τ.1 18 i = nI (ct i).toNat := by rw [a1 18 (by decide)]; exact h18
      rw [X_Marks_gather_7_e, e9, xm_br_f (nI_ge (by omega) (by omega)), a3]
      by_cases hf : cnt ct i = 12
      · have e : cnt ct r = cnt ct i := by omega
        refine ⟨τ, ?_, a1, a2, by rw [e]; exact a3, by rw [e]; exact a4⟩
        rw [xm_br_t (show (12 : Int32) ≤ nI (cnt ct i) from nI_le (a := 12) (by omega) (by omega))]
      rw [xm_br_f (show ¬ (12 : Int32) ≤ nI (cnt ct i) from nI_ge (b := 12) (by omega) (by omega)), xm_ix_n (show i < 24 by omega) (by omega), e18, xm_ix_n (show cnt ct i < 12 by omega) (by omega), nI_1, nI_1]
      cases hc : ct i with
      | false =>
        rw [xm_br_t (by decide)]
        exact ih (i + 1) τ (by omega) a1 a2 (by rw [cnt_s, hc]; exact a3) (fun p hp => a4 p (by rw [cnt_s, hc] at hp; exact hp))
      | true =>
        have es : cnt ct (i + 1) = cnt ct i + 1 := by rw [cnt_s, hc]; rfl
        rw [xm_br_f (by decide)]
        refine ih (i + 1) _ (by omega) (fun c hc => ?_) a2 (by rw [sI_same, es]) (fun p hp => ?_)
        · have hc' : ∀ k, k ∈ [24, 27, 28] → c ≠ k := fun k hk e => hc (e ▸ hk)
          rw [sI_cell _ _ _ (hc' 24 (by decide)), sI_cell _ _ _ (hc' 27 (by decide))]
          exact a1 c hc
        · rw [sI_cell _ _ _ (by decide), sI_at]
          by_cases e : p = cnt ct i
          · rw [if_pos e, e, whF_pos (by omega) hc]
          · rw [if_neg e]
            exact a4 p (by rw [es] at hp; omega)
  obtain ⟨υ, u1, u2⟩ := loop r 0 (xm_sI σ 24 7 0) (by omega) (fun c hc => sI_cell _ _ _ (by rintro rfl; exact hc (by decide))) rfl (sI_same _ _ _ _) (fun p hp => absurd hp (Nat.not_lt_zero p))
  obtain ⟨ρ, r1, r2, r3⟩ := C_g67 hk d hm hw (cnt ct r) 0 υ (by omega) u2 (fun q hq => by omega)
  refine ⟨ρ, ?_, r2, hm, r2.2.2.1, fun p q => clP_sy, fun p hp => ⟨_, ?_, r3 p hp, fun j hj => ?_⟩⟩
  · rw [X_Marks_gather_e]
    exact u1.trans r1
  · have h1 := mbF_lt (fC (clC σ (whF ct r)) p) 1 (cnt ct r)
    have h2 : 2 ^ cnt ct r ≤ 2 ^ 12 := Nat.pow_le_pow_right (by omega) hm
    omega
  · rw [mbF_bit, decide_eq_true hj, Bool.true_and, decide_eq_true_eq]
    exact fC_1
end MG
-- those that all clash with one another
theorem cnt_ins {U : Nat → Bool} {x : Nat} : ∀ {n : Nat}, x < n → U x = false → cnt (fun c => U c || (c == x)) n = cnt U n + 1
  | 0, h, _ => by omega
  | n + 1, h, hu => by
    rw [cnt_s, cnt_s]
    by_cases e : x = n
    · subst e
      rw [cnt_c (p := fun c => U c || (c == x)) (q := U) (fun i hi => by
        show (U i || (i == x)) = U i
        rw [beq_false_of_ne (by omega), Bool.or_false]), hu, beq_self_eq_true]
      rfl
    · rw [cnt_ins (n := n) (by omega) hu, beq_false_of_ne (show n ≠ x by omega), Bool.or_false]
      omega
theorem prp_id (C : Nat → Nat → Prop) (m : Nat) : prp C m m (fun i => i) := ⟨fun i hi => hi, fun i j _ hj _ => by show j ≠ i; omega⟩
def goodL (C : Nat → Nat → Prop) (m L : Nat) : Prop := ∀ n g, prp C n m g → L ≤ n
def clQ (C : Nat → Nat → Prop) (m t l : Nat) : Prop := ∀ n g, prp C n m g → ∃ U : Nat → Bool, cnt U n = t ∧ ∀ j, j < m → l.testBit j = true → U (g j) = false
theorem clQ_good {C : Nat → Nat → Prop} {m t l : Nat} (h : clQ C m t l) : goodL C m t := fun n g hg => by
  obtain ⟨U, h1, -⟩ := h n g hg
  rw [← h1]
  exact cnt_le U n
theorem prp_ne {C : Nat → Nat → Prop} {n m : Nat} {g : Nat → Nat} (hg : prp C n m g) (sy : ∀ i j, C i j → C j i) (ir : ∀ i, ¬ C i i) {a b : Nat} (ha : a < m) (hb : b < m) (h : C a b) : g a ≠ g b := by
  rcases (show a < b ∨ a = b ∨ b < a by omega) with q | q | q
  · exact hg.2 b a hb q h
  · subst q; exact absurd h (ir a)
  · exact Ne.symm (hg.2 a b ha q (sy _ _ h))
theorem C_apart {m : Nat} {C : Nat → Nat → Prop} {σ : Sg} (h : DlA m C σ) (ir : ∀ i, ¬ C i i) (d : Nat) : ∃ L, X_Marks_apartForSure d σ = some (some (.int (nI L)), σ) ∧ goodL C m L := by
  have hm := h.1
  have le : ∀ {L}, goodL C m L → L ≤ m := fun hL => hL m _ (prp_id C m)
  have inner : ∀ (k i t l M first : Nat), i + k = m → clQ C m t l → l < 2 ^ 31 → goodL C m M → ∃ M', X_Marks_apartForSure_25 d (nI M) (nI first) (nI t) (nI l) (nI i) σ = X_Marks_apartForSure_4 d (nI M') (nI first + 1) σ ∧ goodL C m M' := by
    intro k
    induction k with
    | zero =>
      intro i t l M first hi hq hl hM
      have h1 := le hM
      have h2 := le (clQ_good hq)
      refine ⟨max M t, ?_, fun n g hg => by have := hM n g hg; have := clQ_good hq n g hg; omega⟩
      rw [X_Marks_apartForSure_25_e, h.2.1, xm_br_t (nI_le (by omega) (by omega)), imax_n (by omega) (by omega)]
    | succ k ih =>
      intro i t l M first hi hq hl hM
      obtain ⟨c, c1, c2, c3⟩ := h.2.2.2 i (by omega)
      rw [X_Marks_apartForSure_25_e, h.2.1, xm_br_f (nI_ge (by omega) (by omega)), xm_ix_n (show i < 12 by omega) (by omega), c2, fa_and, nI_1, nI_1]
      by_cases q : l.testBit i = true
      · rw [xm_br_t ((bt_t hl (by omega)).mpr q)]
        refine ih (i + 1) (t + 1) (l &&& c) M first (by omega) (fun n g hg => ?_) (Nat.lt_of_le_of_lt Nat.and_le_left hl) hM
        obtain ⟨U, u1, u2⟩ := hq n g hg
        refine ⟨fun x => U x || (x == g i), ?_, fun j hj hb => ?_⟩
        · rw [cnt_ins (hg.1 i (by omega)) (u2 i (by omega) q), u1]
        · rw [Nat.testBit_and, Bool.and_eq_true] at hb
          have hne := prp_ne hg h.2.2.1 ir (show i < m by omega) hj ((c3 j hj).mp hb.2)
          show (U (g j) || (g j == g i)) = false
          rw [u2 j hj hb.1, beq_false_of_ne (Ne.symm hne)]
          rfl
      · rw [xm_br_f (fun e => q ((bt_t hl (by omega)).mp e))]
        exact ih (i + 1) t l M first (by omega) hq hl hM
  have outer : ∀ (k i M : Nat), i + k = m → goodL C m M → ∃ L, X_Marks_apartForSure_4 d (nI M) (nI i) σ = some (some (.int (nI L)), σ) ∧ goodL C m L := by
    intro k
    induction k with
    | zero =>
      intro i M hi hM
      refine ⟨M, ?_, hM⟩
      rw [X_Marks_apartForSure_4_e, h.2.1, xm_br_t (nI_le (by omega) (by omega))]
    | succ k ih =>
      intro i M hi hM
      obtain ⟨c, c1, c2, c3⟩ := h.2.2.2 i (by omega)
      rw [X_Marks_apartForSure_4_e, h.2.1, xm_br_f (nI_ge (by omega) (by omega)), xm_ix_n (show i < 12 by omega) (by omega), c2]
      obtain ⟨M', m1, m2⟩ := inner m 0 1 c M i (by omega) (fun n g hg => by
        refine ⟨fun x => x == g i, ?_, fun j hj hb => beq_false_of_ne (Ne.symm (prp_ne hg h.2.2.1 ir (show i < m by omega) hj ((c3 j hj).mp hb)))⟩
        have := cnt_ins (U := fun _ => false) (x := g i) (n := n) (hg.1 i (by omega)) rfl
        have z : cnt (fun _ => false) n = 0 := sm_0 (fun _ _ => rfl)
        rw [z] at this
        simpa using this) c1 hM
      rw [show X_Marks_apartForSure_25 d (nI M) (nI i) 1 (nI c) 0 σ = _ from m1, nI_1]
      exact ih (i + 1) M' (by omega) m2
  rw [X_Marks_apartForSure_e]
  exact outer m 0 0 (by omega) (fun n g _ => Nat.zero_le n)
/-- what telling apart gives: the fewest, and the least row -/
def TaP (C : Nat → Nat → Prop) (m n : Nat) (g : Nat → Nat) : Prop := prp C n m g ∧ lxl C n m g 0 ∧ ∀ n', n' < n → ∀ g', ¬ prp C n' m g'
theorem C_ta9 {m : Nat} {C : Nat → Nat → Prop} {σ : Sg} (d : Nat) : ∀ (t L : Nat) (τ : Sg), L + t = m → DlA m C τ → (∀ c, c ≠ 29 → c ≠ 30 → τ.1 c = σ.1 c) → τ.2 = σ.2 → (∀ n', n' < L → ∀ g', ¬ prp C n' m g') → ∃ n g υ, X_Marks_tellApart_9 (d + m + 1) (nI L) τ = some (some (.int (nI n)), υ) ∧ TaP C m n g ∧ n ≤ m ∧ (∀ c, c ≠ 29 → c ≠ 30 → υ.1 c = σ.1 c) ∧ υ.2 = σ.2 ∧ ∀ j, j < m → υ.1 29 j = nI (g j)
  | t, L, τ, hL, h, a1, a2, hno => by
    have hm := h.1
    obtain ⟨υ, u1, u2, u3, u4⟩ := fl_30 (d + m) 0 τ
    have hu : DlA m C υ := h.c (fun c _ h2 => u3 c h2)
    have start : ∀ p, p < 12 → υ.1 30 p = nI (mbF (fun _ => 0) p 0) := fun p hp => by rw [u2 p hp]; rfl
    have key := C_deal (m := m) (n := L) (C := C) (by omega) d m 0 0 (fun _ => 0) υ (by omega) hu (fun j hj => by omega) (by omega) (by omega) (fun a b ha => by omega) start
    cases t with
    | zero =>
      have : L = m := by omega
      subst this
      rcases key with ⟨g, ρ, r1, r2, r3, r4, r5, r6, r7, r8⟩ | ⟨ρ, r1, r2, -⟩
      · refine ⟨L, g, ρ, ?_, ⟨r2, r4, hno⟩, Nat.le_refl _, fun c h1 h2 => by rw [r5 c h1 h2, u3 c h2, a1 c h1 h2], r6.trans (u4.trans a2), fun j hj => r8 j (by omega) hj⟩
        rw [X_Marks_tellApart_9_e, h.2.1, xm_br_t (nI_le (Nat.le_refl _) (by omega)), u1, xm_cV_s, u3 24 (by decide), h.2.1, show X_Marks_deal (d + L) 0 0 (nI L) υ = _ from r1, xm_cI_s, r5 24 (by decide) (by decide), u3 24 (by decide), h.2.1]
      · exact absurd ⟨fun i => i, prp_id C L, fun j hj => by omega⟩ r2
    | succ t =>
      have e0 : X_Marks_tellApart_9 (d + m + 1) (nI L) τ = xm_cI (X_Marks_deal (d + m) 0 0 (nI L) υ) (fun r6 σ5 => xm_br (r6 = 0) (X_Marks_tellApart_9 (d + m + 1) (nI L + 1) σ5) (some (some (.int (nI L)), σ5))) := by
        rw [X_Marks_tellApart_9_e, h.2.1, xm_br_f (nI_ge (by omega) (by omega)), u1, xm_cV_s]
      rcases key with ⟨g, ρ, r1, r2, r3, r4, r5, r6, r7, r8⟩ | ⟨ρ, r1, r2, r3, r4, r5, r6⟩
      · refine ⟨L, g, ρ, ?_, ⟨r2, r4, hno⟩, by omega, fun c h1 h2 => by rw [r5 c h1 h2, u3 c h2, a1 c h1 h2], r6.trans (u4.trans a2), fun j hj => r8 j (by omega) hj⟩
        rw [e0, show X_Marks_deal (d + m) 0 0 (nI L) υ = _ from r1, xm_cI_s, xm_br_f i10]
      · have hno' : ∀ n', n' < L + 1 → ∀ g', ¬ prp C n' m g' := by
          intro n' hn' g' hg'
          by_cases e : n' = L
          · subst e
            exact r2 ⟨g', hg', fun j hj => by omega⟩
          · exact hno n' (by omega) g' hg'
        obtain ⟨n, g, ω, w1, w2⟩ := C_ta9 (σ := σ) d t (L + 1) ρ (by omega) (hu.c r3) (fun c h1 h2 => by rw [r3 c h1 h2, u3 c h2, a1 c h1 h2]) (r4.trans (u4.trans a2)) hno'
        refine ⟨n, g, ω, ?_, w2⟩
        rw [e0, show X_Marks_deal (d + m) 0 0 (nI L) υ = _ from r1, xm_cI_s, xm_br_t rfl, nI_1]
        exact w1
/-- telling apart, the class -/
theorem C_ta {r : Nat} {bo kd kn tr : Nat → Nat} {ct tk : Nat → Bool} {σ : Sg} (h : VwA r bo kd kn tr ct tk σ) (hk : MkA σ) (hm : cnt ct r ≤ 12) (d : Nat) : ∃ n g τ, X_Marks_tellApart (d + 13) σ = some (some (.int (nI n)), τ) ∧ TaP (clC σ (whF ct r)) (cnt ct r) n g ∧ n ≤ cnt ct r ∧ (∀ c, c ∉ [24, 27, 28, 29, 30] → τ.1 c = σ.1 c) ∧ τ.2 = σ.2 ∧ τ.1 24 7 = nI (cnt ct r) ∧ (∀ p, p < cnt ct r → τ.1 27 p = nI (whF ct r p)) ∧ ∀ p, p < cnt ct r → τ.1 29 p = nI (g p) := by
  obtain ⟨υ, u1, u2, u3⟩ := C_mg h hk hm (d + 11)
  obtain ⟨L, l1, l2⟩ := C_apart u3 (fun i => clP_ir) (d + 12)
  have hL : L ≤ cnt ct r := l2 _ _ (prp_id _ _)
  obtain ⟨n, g, τ, t1, t2, t3, t4, t5, t6⟩ := C_ta9 (σ := υ) (d + 12 - cnt ct r) (cnt ct r - L) L υ (by omega) u3 (fun _ _ _ => rfl) rfl (fun n' hn' g' hg' => by have := l2 n' g' hg'; omega)
  rw [show d + 12 - cnt ct r + cnt ct r + 1 = d + 13 by omega] at t1
  refine ⟨n, g, τ, ?_, t2, t3, fun c hc => ?_, t5.trans u2.2.1, by rw [t4 24 (by decide) (by decide)]; exact u2.2.2.1, fun p hp => by rw [t4 27 (by decide) (by decide)]; exact u2.2.2.2 p hp, t6⟩
  · rw [X_Marks_tellApart_e, u1, xm_cV_s, l1, xm_cI_s]
    exact t1
  · have hc' : ∀ k, k ∈ [24, 27, 28, 29, 30] → c ≠ k := fun k hk e => hc (e ▸ hk)
    rw [t4 c (hc' 29 (by decide)) (hc' 30 (by decide)), u2.1 c (fun q => hc (by simp only [List.mem_cons, List.not_mem_nil, or_false] at q ⊢; omega))]
