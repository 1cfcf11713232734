/-! MARKS: numbers for those that may not share one; the least row -/
def prp (C : Nat → Nat → Prop) (n m : Nat) (g : Nat → Nat) : Prop := (∀ i, i < m → g i < n) ∧ ∀ i j, i < m → j < i → C j i → g j ≠ g i
def xt (C : Nat → Nat → Prop) (n m i : Nat) (f : Nat → Nat) : Prop := ∃ g, prp C n m g ∧ ∀ j, j < i → g j = f j
def sv (f : Nat → Nat) (i p : Nat) : Nat → Nat := fun k => if k = i then p else f k
def lxl (C : Nat → Nat → Prop) (n m : Nat) (g : Nat → Nat) (i : Nat) : Prop := ∀ j, i ≤ j → j < m → ∀ p, p < g j → ¬ xt C n m (j + 1) (sv g j p)
theorem sv_s (f : Nat → Nat) (i p : Nat) : sv f i p i = p := if_pos rfl
theorem sv_o (f : Nat → Nat) {i k : Nat} (p : Nat) (h : k ≠ i) : sv f i p k = f k := if_neg h
theorem xt_c {C : Nat → Nat → Prop} {n m i : Nat} {f f' : Nat → Nat} (h : ∀ j, j < i → f j = f' j) (hx : xt C n m i f) : xt C n m i f' := by
  obtain ⟨g, h1, h2⟩ := hx
  exact ⟨g, h1, fun j hj => (h2 j hj).trans (h j hj)⟩
theorem xt_of {C : Nat → Nat → Prop} {n m i : Nat} {f g : Nat → Nat} (hg : prp C n m g) (h : ∀ j, j < i → g j = f j) : xt C n m (i + 1) (sv f i (g i)) := by
  refine ⟨g, hg, fun j hj => ?_⟩
  by_cases e : j = i
  · rw [e, sv_s]
  · rw [sv_o _ _ e]; exact h j (by omega)
theorem lx_un {C : Nat → Nat → Prop} {n m : Nat} {g g' : Nat → Nat} (h : prp C n m g) (h' : prp C n m g') (l : lxl C n m g 0) (l' : lxl C n m g' 0) : ∀ j, j < m → g j = g' j := by
  intro j
  induction j using Nat.strongRecOn with
  | ind j ih =>
    intro hj
    have eq : ∀ k, k < j → g k = g' k := fun k hk => ih k hk (by omega)
    rcases (show g j < g' j ∨ g j = g' j ∨ g' j < g j by omega) with q | q | q
    · exact absurd (xt_of h eq) (l' j (by omega) hj (g j) q)
    · exact q
    · exact absurd (xt_of h' (fun k hk => (eq k hk).symm)) (l j (by omega) hj (g' j) q)
/-- a number that is not used yet serves as well as any other such -/
theorem xt_sw {C : Nat → Nat → Prop} {n m i u p : Nat} {f : Nat → Nat} (hi : i < m) (hf : ∀ j, j < i → f j < u) (hup : u ≤ p) (h : xt C n m (i + 1) (sv f i p)) : xt C n m (i + 1) (sv f i u) := by
  obtain ⟨g, ⟨g1, g2⟩, g3⟩ := h
  have gi : g i = p := by rw [g3 i (by omega), sv_s]
  have hp : p < n := by rw [← gi]; exact g1 i hi
  have gj : ∀ j, j < i → g j = f j := fun j hj => by rw [g3 j (by omega), sv_o _ _ (by omega)]
  refine ⟨fun k => if g k = p then u else if g k = u then p else g k, ⟨fun k hk => ?_, fun a b ha hb hc => ?_⟩, fun j hj => ?_⟩
  · have := g1 k hk
    show (if g k = p then u else if g k = u then p else g k) < n
    split
    · omega
    · split <;> omega
  · have := g2 a b ha hb hc
    show (if g b = p then u else if g b = u then p else g b) ≠ (if g a = p then u else if g a = u then p else g a)
    split <;> split <;> (try split) <;> (try split) <;> omega
  · show (if g j = p then u else if g j = u then p else g j) = _
    by_cases e : j = i
    · subst e
      rw [sv_s, if_pos gi]
    · rw [sv_o _ _ e, gj j (by omega)]
      have := hf j (by omega)
      rw [if_neg (by omega), if_neg (by omega)]
/-- the members of number p among the first i -/
def mbF (f : Nat → Nat) (p : Nat) : Nat → Nat
  | 0 => 0
  | i + 1 => 2 ^ i * (if f i = p then 1 else 0) + mbF f p i
theorem mbF_lt (f : Nat → Nat) (p : Nat) : ∀ i, mbF f p i < 2 ^ i
  | 0 => by show 0 < 2 ^ 0; omega
  | i + 1 => by
    show 2 ^ i * (if f i = p then 1 else 0) + mbF f p i < 2 ^ (i + 1)
    have := mbF_lt f p i
    rw [Nat.pow_succ]
    split <;> omega
theorem mbF_bit (f : Nat → Nat) (p : Nat) : ∀ i j, (mbF f p i).testBit j = (decide (j < i) && decide (f j = p))
  | 0, j => by
    show Nat.testBit 0 j = _
    simp
  | i + 1, j => by
    show (2 ^ i * (if f i = p then 1 else 0) + mbF f p i).testBit j = _
    rw [Nat.testBit_two_pow_mul_add _ (mbF_lt f p i), mbF_bit f p i j]
    by_cases e : j < i
    · rw [if_pos e, decide_eq_true e, decide_eq_true (show j < i + 1 by omega)]
    · rw [if_neg e]
      by_cases e2 : j = i
      · subst e2
        rw [Nat.sub_self, decide_eq_true (show j < j + 1 by omega)]
        by_cases q : f j = p
        · rw [if_pos q, decide_eq_true q]; rfl
        · rw [if_neg q, decide_eq_false q]; rfl
      · rw [decide_eq_false (show ¬ j < i + 1 by omega)]
        have hb : ∀ z : Nat, z < 2 → z.testBit (j - i) = false := fun z hz => Nat.testBit_lt_two_pow (Nat.lt_of_lt_of_le hz (by
          have : 2 ^ 1 ≤ 2 ^ (j - i) := Nat.pow_le_pow_right (by omega) (by omega)
          omega))
        rw [hb _ (by split <;> omega)]
        rfl
theorem mbF_c {f f' : Nat → Nat} (p : Nat) : ∀ i, (∀ j, j < i → f j = f' j) → mbF f p i = mbF f' p i
  | 0, _ => rfl
  | i + 1, h => by
    show 2 ^ i * (if f i = p then 1 else 0) + mbF f p i = 2 ^ i * (if f' i = p then 1 else 0) + mbF f' p i
    rw [mbF_c p i (fun j hj => h j (by omega)), h i (by omega)]
theorem or_add {a i : Nat} (h : a < 2 ^ i) : (nI a ||| nI (2 ^ i)) = nI (2 ^ i * 1 + a) := by
  rw [fa_or, Nat.or_comm, Nat.two_pow_add_eq_or_of_lt h, Nat.mul_one]
theorem and_del {a i : Nat} (h : a < 2 ^ i) (hi : i < 20) : (nI (2 ^ i * 1 + a) &&& (nI (2 ^ i) ^^^ (-1))) = nI a := by
  have h20 : 2 ^ i ≤ 2 ^ 19 := Nat.pow_le_pow_right (by omega) (by omega)
  rw [an_nI _ (by omega)]
  congr 1
  apply Nat.eq_of_testBit_eq
  intro j
  rw [an_bit, Nat.testBit_two_pow_mul_add _ h, Nat.testBit_two_pow]
  by_cases e : j < i
  · rw [if_pos e, decide_eq_false (show ¬ i = j by omega)]
    simp
  · rw [if_neg e, Nat.testBit_lt_two_pow (Nat.lt_of_lt_of_le h (Nat.pow_le_pow_right (by omega) (by omega)))]
    by_cases e2 : i = j
    · rw [decide_eq_true e2]; simp
    · rw [decide_eq_false e2]
      have : Nat.testBit 1 (j - i) = false := Nat.testBit_lt_two_pow (by
        have : 2 ^ 1 ≤ 2 ^ (j - i) := Nat.pow_le_pow_right (by omega) (by omega)
        omega)
      rw [this]; rfl
theorem and_0 {a b : Nat} (ha : a < 2 ^ 31) : (nI a &&& nI b) = 0 ↔ ∀ j, ¬ (a.testBit j = true ∧ b.testBit j = true) := by
  rw [fa_and]
  have hle : a &&& b ≤ a := Nat.and_le_left
  rw [show (0 : Int32) = nI 0 from rfl, nI_eq (by omega) (by omega)]
  constructor
  · intro h j q
    have : (a &&& b).testBit j = true := by rw [Nat.testBit_and, q.1, q.2]; rfl
    rw [h] at this
    simp at this
  · intro h
    apply Nat.eq_of_testBit_eq
    intro j
    rw [Nat.testBit_and]
    have := h j
    cases e1 : a.testBit j <;> cases e2 : b.testBit j
    · simp
    · simp
    · simp
    · exact absurd ⟨e1, e2⟩ this
/-- the class's store: m of them, who clashes with whom as bits -/
def DlA (m : Nat) (C : Nat → Nat → Prop) (σ : Sg) : Prop := m ≤ 12 ∧ σ.1 24 7 = nI m ∧ (∀ i j, C i j → C j i) ∧ ∀ i, i < m → ∃ c, c < 2 ^ 31 ∧ σ.1 28 i = nI c ∧ ∀ j, j < m → (c.testBit j = true ↔ C i j)
theorem DlA.c {m : Nat} {C : Nat → Nat → Prop} {σ τ : Sg} (h : DlA m C σ) (e : ∀ c, c ≠ 29 → c ≠ 30 → τ.1 c = σ.1 c) : DlA m C τ := by
  refine ⟨h.1, by rw [e 24 (by decide) (by decide)]; exact h.2.1, h.2.2.1, fun i hi => ?_⟩
  rw [e 28 (by decide) (by decide)]
  exact h.2.2.2 i hi
theorem C_deal {m n : Nat} {C : Nat → Nat → Prop} (hn : n ≤ 12) (d : Nat) : ∀ (k i u : Nat) (f : Nat → Nat) (σ : Sg), i + k = m → DlA m C σ → (∀ j, j < i → f j < u) → u ≤ n → u ≤ i → (∀ a b, a < i → b < a → C b a → f b ≠ f a) → (∀ p, p < 12 → σ.1 30 p = nI (mbF f p i)) →
    (∃ g τ, X_Marks_deal (d + k) (nI i) (nI u) (nI n) σ = some (some (.int 1), τ) ∧ prp C n m g ∧ (∀ j, j < i → g j = f j) ∧ lxl C n m g i ∧ (∀ c, c ≠ 29 → c ≠ 30 → τ.1 c = σ.1 c) ∧ τ.2 = σ.2 ∧ (∀ j, j < i → τ.1 29 j = σ.1 29 j) ∧ ∀ j, i ≤ j → j < m → τ.1 29 j = nI (g j)) ∨
    (∃ τ, X_Marks_deal (d + k) (nI i) (nI u) (nI n) σ = some (some (.int 0), τ) ∧ ¬ xt C n m i f ∧ (∀ c, c ≠ 29 → c ≠ 30 → τ.1 c = σ.1 c) ∧ τ.2 = σ.2 ∧ (∀ j, j < i → τ.1 29 j = σ.1 29 j) ∧ ∀ p, p < 12 → τ.1 30 p = σ.1 30 p)
  | 0, i, u, f, σ, hi, h, hf, hun, hui, hpr, hmb => by
    left
    have : i = m := by omega
    subst this
    have hm := h.1
    refine ⟨f, σ, ?_, ⟨fun j hj => Nat.lt_of_lt_of_le (hf j hj) hun, fun a b ha hb hc => hpr a b ha hb hc⟩, fun _ _ => rfl, fun j h1 h2 => by omega, fun _ _ _ => rfl, rfl, fun _ _ => rfl, fun j h1 h2 => by omega⟩
    rw [X_Marks_deal_e, h.2.1, xm_br_f (nI_nlt (Nat.le_refl _) (by omega))]
  | k + 1, i, u, f, σ, hi, h, hf, hun, hui, hpr, hmb => by
    have hm := h.1
    have him : i < m := by omega
    have e0 : X_Marks_deal (d + (k + 1)) (nI i) (nI u) (nI n) σ = X_Marks_deal_22 (d + k + 1) (nI i) (nI u) (nI n) (nI (min (u + 1) n)) (nI 0) σ := by
      rw [X_Marks_deal_e, h.2.1, xm_br_t (nI_lt him (by omega)), nI_1, imin_n (by omega) (by omega)]
      rfl
    rw [e0]
    -- the loop over the numbers
    have loop : ∀ (t p : Nat) (σ' : Sg), p + t = min (u + 1) n → (∀ q, q < p → ¬ xt C n m (i + 1) (sv f i q)) → (∀ c, c ≠ 29 → c ≠ 30 → σ'.1 c = σ.1 c) → σ'.2 = σ.2 → (∀ j, j < i → σ'.1 29 j = σ.1 29 j) → (∀ p, p < 12 → σ'.1 30 p = σ.1 30 p) →
        (∃ g τ, X_Marks_deal_22 (d + k + 1) (nI i) (nI u) (nI n) (nI (min (u + 1) n)) (nI p) σ' = some (some (.int 1), τ) ∧ prp C n m g ∧ (∀ j, j < i → g j = f j) ∧ lxl C n m g i ∧ (∀ c, c ≠ 29 → c ≠ 30 → τ.1 c = σ.1 c) ∧ τ.2 = σ.2 ∧ (∀ j, j < i → τ.1 29 j = σ.1 29 j) ∧ ∀ j, i ≤ j → j < m → τ.1 29 j = nI (g j)) ∨
        (∃ τ, X_Marks_deal_22 (d + k + 1) (nI i) (nI u) (nI n) (nI (min (u + 1) n)) (nI p) σ' = some (some (.int 0), τ) ∧ ¬ xt C n m i f ∧ (∀ c, c ≠ 29 → c ≠ 30 → τ.1 c = σ.1 c) ∧ τ.2 = σ.2 ∧ (∀ j, j < i → τ.1 29 j = σ.1 29 j) ∧ ∀ p, p < 12 → τ.1 30 p = σ.1 30 p) := by
      intro t
      induction t with
      | zero =>
        intro p σ' hp hno a1 a2 a3 a4
        right
        refine ⟨σ', ?_, ?_, a1, a2, a3, a4⟩
        · rw [X_Marks_deal_22_e, xm_br_t (nI_le (by omega) (by omega))]
        · rintro ⟨g, g1, g2⟩
          have hx := xt_of g1 g2
          have hgi := g1.1 i him
          by_cases q : g i < p
          · exact hno _ q hx
          · exact hno u (by omega) (xt_sw him hf (by omega) hx)
      | succ t ih =>
        intro p σ' hp hno a1 a2 a3 a4
        have hpn : p < n := by omega
        have hpu : p ≤ u := by omega
        have h' : DlA m C σ' := h.c a1
        obtain ⟨cm, c1, c2, c3⟩ := h'.2.2.2 i him
        have hml := mbF_lt f p i
        have h2i : 2 ^ i ≤ 2 ^ 12 := Nat.pow_le_pow_right (by omega) (by omega)
        have e30 : σ'.1 30 p = nI (mbF f p i) := by rw [a4 p (by omega)]; exact hmb p (by omega)
        rw [X_Marks_deal_22_e, xm_br_f (nI_ge (by omega) (by omega))]
        simp only [xm_ix_n (show p < 12 by omega) (show 12 < 2 ^ 31 by omega), xm_ix_n (show i < 12 by omega) (show 12 < 2 ^ 31 by omega), e30, c2, sh_1 i (by omega), nI_1, or_add hml, imax_n (show u < 2 ^ 31 by omega) (show p + 1 < 2 ^ 31 by omega)]
        by_cases hc : (nI (mbF f p i) &&& nI cm) = 0
        rotate_left
        · -- it clashes with one of them
          rw [xm_br_f hc]
          refine ih (p + 1) σ' (by omega) (fun q hq => ?_) a1 a2 a3 a4
          by_cases e : q = p
          · subst e
            rintro ⟨g, g1, g2⟩
            apply hc
            rw [and_0 (by omega)]
            rintro j ⟨b1, b2⟩
            rw [mbF_bit, Bool.and_eq_true, decide_eq_true_eq, decide_eq_true_eq] at b1
            have hC := (c3 j (by omega)).mp b2
            have := g1.2 i j him b1.1 (h.2.2.1 _ _ hC)
            rw [g2 j (by omega), g2 i (by omega), sv_s, sv_o _ _ (by omega)] at this
            exact this b1.2
          · exact hno q (by omega)
        · rw [xm_br_t hc]
          rw [and_0 (by omega)] at hc
          have hcomp : ∀ j, j < i → f j = p → ¬ C j i := by
            intro j hj e hC
            exact hc j ⟨by rw [mbF_bit, decide_eq_true hj, decide_eq_true e]; rfl, (c3 j (by omega)).mpr (h.2.2.1 _ _ hC)⟩
          have S1 : ∀ c, c ≠ 29 → c ≠ 30 → (xm_sI (xm_sI σ' 30 p (nI (2 ^ i * 1 + mbF f p i))) 29 i (nI p)).1 c = σ.1 c := fun c h1 h2 => by rw [sI_cell _ _ _ h1, sI_cell _ _ _ h2]; exact a1 c h1 h2
          have hmax : ∀ j, j < i + 1 → sv f i p j < max u (p + 1) := by
            intro j hj
            by_cases e : j = i
            · rw [e, sv_s]; omega
            · rw [sv_o _ _ e]; have := hf j (by omega); omega
          have mb' : ∀ q, q < 12 → (xm_sI (xm_sI σ' 30 p (nI (2 ^ i * 1 + mbF f p i))) 29 i (nI p)).1 30 q = nI (mbF (sv f i p) q (i + 1)) := by
            intro q hq
            rw [sI_cell _ _ _ (by decide), sI_at]
            show _ = nI (2 ^ i * (if sv f i p i = q then 1 else 0) + mbF (sv f i p) q i)
            rw [sv_s, mbF_c q i (f := sv f i p) (f' := f) (fun j hj => sv_o _ _ (by omega))]
            by_cases e : q = p
            · subst e; rw [if_pos rfl, if_pos rfl]
            · rw [if_neg e, if_neg (Ne.symm e), a4 q hq, hmb q hq, Nat.mul_zero, Nat.zero_add]
          rcases C_deal hn d k (i + 1) (max u (p + 1)) (sv f i p) (xm_sI (xm_sI σ' 30 p (nI (2 ^ i * 1 + mbF f p i))) 29 i (nI p)) (by omega) (h.c S1) hmax (by omega) (by omega) (fun a b ha hb hC => by
              by_cases ea : a = i
              · subst ea
                rw [sv_s, sv_o _ _ (by omega)]
                intro q
                exact hcomp b hb q hC
              · rw [sv_o _ _ ea, sv_o _ _ (by omega)]
                exact hpr a b (by omega) hb hC) mb' with ⟨g, τ, t1, t2, t3, t4, t5, t6, t7, t8⟩ | ⟨τ, t1, t2, t3, t4, t5, t6⟩
          · left
            refine ⟨g, τ, ?_, t2, fun j hj => by rw [t3 j (by omega), sv_o _ _ (by omega)], fun j h1 h2 q hq => ?_, fun c h1 h2 => by rw [t5 c h1 h2, S1 c h1 h2], t6.trans a2, fun j hj => ?_, fun j h1 h2 => ?_⟩
            · rw [t1, xm_cI_s, xm_br_f i10]
            · by_cases e : j = i
              · subst e
                have gj : g j = p := by rw [t3 j (by omega), sv_s]
                intro hx
                refine hno q (by omega) (xt_c (fun y hy => ?_) hx)
                by_cases ey : y = j
                · rw [ey, sv_s, sv_s]
                · rw [sv_o _ _ ey, sv_o _ _ ey, t3 y (by omega), sv_o _ _ ey]
              · exact t4 j (by omega) h2 q hq
            · rw [t7 j (by omega), sI_row _ _ (by omega), sI_cell _ _ _ (by decide), a3 j hj]
            · by_cases e : j = i
              · subst e
                rw [t7 j (by omega), sI_same, t3 j (by omega), sv_s]
              · exact t8 j (by omega) h2
          · rw [t1, xm_cI_s, xm_br_t rfl, t6 p (by omega), mb' p (by omega)]
            have em : mbF (sv f i p) p (i + 1) = 2 ^ i * 1 + mbF f p i := by
              show 2 ^ i * (if sv f i p i = p then 1 else 0) + mbF (sv f i p) p i = _
              rw [sv_s, if_pos rfl, mbF_c p i (f := sv f i p) (f' := f) (fun j hj => sv_o _ _ (by omega))]
            rw [em, and_del hml (by omega)]
            refine ih (p + 1) (xm_sI τ 30 p (nI (mbF f p i))) (by omega) (fun q hq => ?_) (fun c h1 h2 => by rw [sI_cell _ _ _ h2, t3 c h1 h2, S1 c h1 h2]) (t4.trans a2) (fun j hj => ?_) (fun q hq => ?_)
            · by_cases e : q = p
              · rw [e]; exact t2
              · exact hno q (by omega)
            · rw [sI_cell _ _ _ (by decide), t5 j (by omega), sI_row _ _ (by omega), sI_cell _ _ _ (by decide), a3 j hj]
            · rw [sI_at]
              by_cases e : q = p
              · rw [if_pos e, e, hmb p (by omega)]
              · rw [if_neg e, t6 q hq, sI_cell _ _ _ (by decide), sI_row _ _ e, a4 q hq]
    exact loop (min (u + 1) n) 0 σ (by omega) (fun q hq => by omega) (fun _ _ _ => rfl) rfl (fun _ _ => rfl) (fun _ _ => rfl)
