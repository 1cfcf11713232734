/-! MARKS: the reference; least, ones -/
def EnA (m : Nat) (w : Nat → Nat) (σ : Sg) : Prop := m ≤ 12 ∧ σ.1 39 45 = nI m ∧ (∀ p, p < m → σ.1 65 p = nI (w p) ∧ w p < 24) ∧ MkA σ
theorem EnA.c {m : Nat} {w : Nat → Nat} {σ τ : Sg} (h : EnA m w σ) (e : ∀ c, c ≠ 69 → τ.1 c = σ.1 c) : EnA m w τ := by
  refine ⟨h.1, by rw [e 39 (by decide)]; exact h.2.1, fun p hp => by rw [e 65 (by decide)]; exact h.2.2.1 p hp, h.2.2.2.c (fun c hc => e c (by rintro rfl; revert hc; decide))⟩
theorem C_canBe {m i q : Nat} {w f : Nat → Nat} {σ : Sg} (h : EnA m w σ) (hi : i < m) (hq : q < 2 ^ 31) (hf : ∀ j, j < i → σ.1 69 j = nI (f j) ∧ f j < 2 ^ 31) (d : Nat) : X_Mod_canBe (d + 1) (nI i) (nI q) σ = some (some (.int (bI (∀ j, j < i → f j = q → ¬ clC σ w j i))), σ) := by
  have hm := h.1
  have loop : ∀ (t k : Nat) (P : Prop), k + t = i → X_Mod_canBe_5 (d + 1) (nI i) (nI q) (bI P) (nI k) σ = some (some (.int (bI (P ∧ ∀ j, k ≤ j → j < i → f j = q → ¬ clC σ w j i))), σ) := by
    intro t
    induction t with
    | zero =>
      intro k P hk
      rw [X_Mod_canBe_5_e, xm_br_t (nI_le (by omega) (by omega)), xm_bo_b, bI_c]
      exact ⟨fun p => ⟨p, fun j h1 h2 => by omega⟩, fun p => p.1⟩
    | succ t ih =>
      intro k P hk
      obtain ⟨f1, f2⟩ := hf k (by omega)
      have e0 : X_Mod_canBe_5 (d + 1) (nI i) (nI q) 0 (nI (k + 1)) σ = some (some (.int (bI (False ∧ ∀ j, k + 1 ≤ j → j < i → f j = q → ¬ clC σ w j i))), σ) := by
        rw [← ih (k + 1) False (by omega), bI_f (fun z => z)]
      have e1 : X_Mod_canBe_5 (d + 1) (nI i) (nI q) 1 (nI (k + 1)) σ = some (some (.int (bI (True ∧ ∀ j, k + 1 ≤ j → j < i → f j = q → ¬ clC σ w j i))), σ) := by
        rw [← ih (k + 1) True (by omega), bI_t trivial]
      have split : (∀ j, k ≤ j → j < i → f j = q → ¬ clC σ w j i) ↔ ((f k = q → ¬ clC σ w k i) ∧ ∀ j, k + 1 ≤ j → j < i → f j = q → ¬ clC σ w j i) := by
        constructor
        · intro z
          exact ⟨z k (Nat.le_refl _) (by omega), fun j h1 h2 => z j (by omega) h2⟩
        · rintro ⟨z1, z2⟩ j h1 h2
          by_cases e : j = k
          · subst e; exact z1
          · exact z2 j (by omega) h2
      rw [X_Mod_canBe_5_e, xm_br_f (nI_ge (by omega) (by omega)), nI_1, e0, e1, xm_ix_n (show k < 12 by omega) (by omega), f1, xm_ix_n (show k < 24 by omega) (by omega), xm_ix_n (show i < 24 by omega) (by omega), (h.2.2.1 k (by omega)).1, (h.2.2.1 i hi).1, C_clashes h.2.2.2 d (h.2.2.1 k (by omega)).2 (h.2.2.1 i hi).2, xm_cI_s, e0, e1]
      by_cases hP : P
      rotate_left
      · rw [xm_br_n hP, bI_f (fun z => z.1), bI_f (fun z => hP z.1)]
      rw [xm_br_b hP]
      by_cases hk2 : f k = q
      · rw [xm_br_t (by rw [hk2])]
        by_cases hc : clC σ w k i
        · rw [xm_br_b (p := clP σ (w k) (w i) 0) hc, bI_f (fun z => z.1), bI_f]
          rintro ⟨-, z⟩
          exact (split.mp z).1 hk2 hc
        · rw [xm_br_n (p := clP σ (w k) (w i) 0) hc, bI_c]
          exact ⟨fun z => ⟨hP, split.mpr ⟨fun _ => hc, z.2⟩⟩, fun z => ⟨trivial, (split.mp z.2).2⟩⟩
      · rw [xm_br_f (fun z => hk2 ((nI_eq f2 hq).mp z)), bI_c]
        exact ⟨fun z => ⟨hP, split.mpr ⟨fun e => absurd e hk2, z.2⟩⟩, fun z => ⟨trivial, (split.mp z.2).2⟩⟩
  have := loop i 0 True (by omega)
  rw [bI_t trivial] at this
  rw [X_Mod_canBe_e, show X_Mod_canBe_5 (d + 1) (nI i) (nI q) 1 0 σ = _ from this, bI_c]
  exact ⟨fun z j hj => z.2 j (by omega) hj, fun z => ⟨trivial, fun j _ hj => z j hj⟩⟩
theorem clC_c {σ τ : Sg} (e : ∀ c, c ≠ 69 → τ.1 c = σ.1 c) (w : Nat → Nat) (p q : Nat) : clC τ w p q ↔ clC σ w p q := clP_c (e 25 (by decide)) (e 26 (by decide)) _ _ _
theorem C_en {m n : Nat} {w : Nat → Nat} {σ0 : Sg} (h0 : EnA m w σ0) (hn : n ≤ 12) (d : Nat) : ∀ (k i : Nat) (f : Nat → Nat) (σ : Sg), i + k = m → (∀ c, c ≠ 69 → σ.1 c = σ0.1 c) → σ.2 = σ0.2 → (∀ j, j < i → σ.1 69 j = nI (f j) ∧ f j < n) → (∀ a b, a < i → b < a → clC σ0 w b a → f b ≠ f a) →
    (∃ g τ, X_Mod_isEnough_4 (d + 2) (nI n) (nI i) 0 σ = some (some (.int 1), τ) ∧ prp (clC σ0 w) n m g ∧ (∀ j, j < i → g j = f j) ∧ lxl (clC σ0 w) n m g i ∧ (∀ c, c ≠ 69 → τ.1 c = σ0.1 c) ∧ τ.2 = σ0.2 ∧ ∀ j, j < m → τ.1 69 j = nI (g j)) ∨
    (¬ xt (clC σ0 w) n m i f ∧ ∃ τ, X_Mod_isEnough_4 (d + 2) (nI n) (nI i) 0 σ = X_Mod_isEnough_59 (d + 2) (nI n) (nI i + (-1)) τ ∧ (∀ c, c ≠ 69 → τ.1 c = σ0.1 c) ∧ τ.2 = σ0.2 ∧ ∀ j, j < i → τ.1 69 j = σ.1 69 j)
  | 0, i, f, σ, hi, a1, a2, a3, a4 => by
    left
    have hm := h0.1
    have : i = m := by omega
    subst this
    refine ⟨f, σ, ?_, ⟨fun j hj => (a3 j hj).2, fun a b ha hb hc => a4 a b ha hb hc⟩, fun _ _ => rfl, fun j h1 h2 => by omega, a1, a2, fun j hj => (a3 j hj).1⟩
    rw [X_Mod_isEnough_4_e, xm_br_f (nI_pos (by omega)), (h0.c a1).2.1, xm_br_t (nI_le (Nat.le_refl _) (by omega)), xm_br_t rfl]
  | k + 1, i, f, σ, hi, a1, a2, a3, a4 => by
    have hm := h0.1
    have him : i < m := by omega
    have to16 : ∀ (q : Nat) (τ : Sg), (∀ c, c ≠ 69 → τ.1 c = σ0.1 c) → X_Mod_isEnough_4 (d + 2) (nI n) (nI i) (nI q) τ = X_Mod_isEnough_16 (d + 2) (nI n) (nI i) (nI q) τ := by
      intro q τ e
      rw [X_Mod_isEnough_4_e, xm_br_f (nI_pos (by omega)), (h0.c e).2.1, xm_br_f (nI_ge him (by omega))]
    have inner : ∀ (t q : Nat) (τ : Sg), q + t = n → (∀ p, p < q → ¬ xt (clC σ0 w) n m (i + 1) (sv f i p)) → (∀ c, c ≠ 69 → τ.1 c = σ0.1 c) → τ.2 = σ0.2 → (∀ j, j < i → τ.1 69 j = σ.1 69 j) →
        (∃ g υ, X_Mod_isEnough_16 (d + 2) (nI n) (nI i) (nI q) τ = some (some (.int 1), υ) ∧ prp (clC σ0 w) n m g ∧ (∀ j, j < i → g j = f j) ∧ lxl (clC σ0 w) n m g i ∧ (∀ c, c ≠ 69 → υ.1 c = σ0.1 c) ∧ υ.2 = σ0.2 ∧ ∀ j, j < m → υ.1 69 j = nI (g j)) ∨
        (¬ xt (clC σ0 w) n m i f ∧ ∃ υ, X_Mod_isEnough_16 (d + 2) (nI n) (nI i) (nI q) τ = X_Mod_isEnough_59 (d + 2) (nI n) (nI i + (-1)) υ ∧ (∀ c, c ≠ 69 → υ.1 c = σ0.1 c) ∧ υ.2 = σ0.2 ∧ ∀ j, j < i → υ.1 69 j = σ.1 69 j) := by
      intro t
      induction t with
      | zero =>
        intro q τ hq hno b1 b2 b3
        right
        refine ⟨?_, τ, ?_, b1, b2, b3⟩
        · rintro ⟨g, g1, g2⟩
          exact hno (g i) (by have := g1.1 i him; omega) (xt_of g1 g2)
        · rw [X_Mod_isEnough_16_e, xm_br_t (nI_le (by omega) (by omega)), X_Mod_isEnough_36_e, xm_br_t (nI_le (by omega) (by omega))]
      | succ t ih =>
        intro q τ hq hno b1 b2 b3
        have hE := h0.c b1
        rw [X_Mod_isEnough_16_e, xm_br_f (nI_ge (by omega) (by omega)), C_canBe hE him (by omega) (fun j hj => ⟨(b3 j hj).trans (a3 j hj).1, by have := (a3 j hj).2; omega⟩) d, xm_cI_s, nI_1]
        by_cases hc : ∀ j, j < i → f j = q → ¬ clC τ w j i
        rotate_left
        · rw [xm_br_n hc]
          refine ih (q + 1) τ (by omega) (fun p hp => ?_) b1 b2 b3
          by_cases e : p = q
          · subst e
            rintro ⟨g, g1, g2⟩
            apply hc
            intro j hj e2 hC
            have := g1.2 i j him hj ((clC_c b1 w j i).mp hC)
            rw [g2 j (by omega), g2 i (by omega), sv_s, sv_o _ _ (by omega)] at this
            exact this e2
          · exact hno p (by omega)
        · rw [xm_br_b hc, X_Mod_isEnough_36_e, xm_br_f (nI_ge (by omega) (by omega)), xm_ix_n (show i < 12 by omega) (by omega), nI_1]
          have S1 : ∀ c, c ≠ 69 → (xm_sI τ 69 i (nI q)).1 c = σ0.1 c := fun c h1 => by rw [sI_cell _ _ _ h1]; exact b1 c h1
          rcases C_en h0 hn d k (i + 1) (sv f i q) (xm_sI τ 69 i (nI q)) (by omega) S1 b2 (fun j hj => by
              rw [sI_at]
              by_cases e : j = i
              · rw [if_pos e, e, sv_s]; exact ⟨rfl, by omega⟩
              · rw [if_neg e, sv_o _ _ e, b3 j (by omega)]; exact a3 j (by omega)) (fun a b ha hb hC => by
              by_cases ea : a = i
              · subst ea
                rw [sv_s, sv_o _ _ (by omega)]
                intro e
                exact hc b hb e ((clC_c b1 w b a).mpr hC)
              · rw [sv_o _ _ ea, sv_o _ _ (by omega)]
                exact a4 a b (by omega) hb hC) with ⟨g, υ, u1, u2, u3, u4, u5, u6, u7⟩ | ⟨u1, υ, u2, u3, u4, u5⟩
          · left
            refine ⟨g, υ, u1, u2, fun j hj => by rw [u3 j (by omega), sv_o _ _ (by omega)], fun j h1 h2 p hp => ?_, u5, u6, u7⟩
            by_cases e : j = i
            · subst e
              have gj : g j = q := by rw [u3 j (by omega), sv_s]
              intro hx
              refine hno p (by omega) (xt_c (fun y hy => ?_) hx)
              by_cases ey : y = j
              · rw [ey, sv_s, sv_s]
              · rw [sv_o _ _ ey, sv_o _ _ ey, u3 y (by omega), sv_o _ _ ey]
            · exact u4 j (by omega) h2 p hp
          · rw [u2, pk_m1, X_Mod_isEnough_59_e, xm_br_f (nI_pos (by omega)), xm_ix_n (show i < 12 by omega) (by omega), u5 i (by omega), sI_same, nI_1, to16 (q + 1) υ u3]
            refine ih (q + 1) υ (by omega) (fun p hp => ?_) u3 u4 (fun j hj => by rw [u5 j (by omega), sI_row _ _ (by omega), b3 j hj])
            by_cases e : p = q
            · rw [e]; exact u1
            · exact hno p (by omega)
    rw [show X_Mod_isEnough_4 (d + 2) (nI n) (nI i) 0 σ = _ from to16 0 σ a1]
    exact inner n 0 σ (by omega) (fun p hp => by omega) a1 a2 (fun _ _ => rfl)
theorem C_lst {m : Nat} {w : Nat → Nat} {σ0 : Sg} (h0 : EnA m w σ0) (d : Nat) : ∀ (t n : Nat) (σ : Sg), n + t = m → (∀ c, c ≠ 69 → σ.1 c = σ0.1 c) → σ.2 = σ0.2 → (∀ n', n' < n → ∀ g', ¬ prp (clC σ0 w) n' m g') → ∃ n1 g τ, X_Mod_leastNow_18 (d + 3) (nI n) σ = some (some (.int (nI n1)), τ) ∧ TaP (clC σ0 w) m n1 g ∧ n1 ≤ m ∧ (∀ c, c ≠ 69 → τ.1 c = σ0.1 c) ∧ τ.2 = σ0.2 ∧ ∀ j, j < m → τ.1 69 j = nI (g j)
  | t, n, σ, hn, a1, a2, hno => by
    have hm := h0.1
    have key := C_en h0 (n := n) (by omega) d m 0 (fun _ => 0) σ (by omega) a1 a2 (fun j hj => by omega) (fun a b ha => by omega)
    rcases key with ⟨g, τ, t1, t2, t3, t4, t5, t6, t7⟩ | ⟨t1, τ, t2, t3, t4, t5⟩
    · refine ⟨n, g, τ, ?_, ⟨t2, t4, hno⟩, by omega, t5, t6, t7⟩
      rw [X_Mod_leastNow_18_e, X_Mod_isEnough_e, show X_Mod_isEnough_4 (d + 2) (nI n) 0 0 σ = _ from t1, xm_cI_s, xm_br_f i10]
    · have hno' : ∀ n', n' < n + 1 → ∀ g', ¬ prp (clC σ0 w) n' m g' := by
        intro n' hn' g' hg'
        by_cases e : n' = n
        · subst e
          exact t1 ⟨g', hg', fun j hj => by omega⟩
        · exact hno n' (by omega) g' hg'
      cases t with
      | zero =>
        have : n = m := by omega
        subst this
        exact absurd (prp_id _ n) (hno' n (by omega) _)
      | succ t =>
        obtain ⟨n1, g, υ, u1, u2⟩ := C_lst h0 d t (n + 1) τ (by omega) t3 t4 hno'
        refine ⟨n1, g, υ, ?_, u2⟩
        have e : X_Mod_isEnough_59 (d + 2) (nI n) (nI 0 + (-1)) τ = some (some (.int 0), τ) := by
          rw [show nI 0 + (-1) = (-1 : Int32) from by decide, X_Mod_isEnough_59_e, xm_br_t (by decide), X_Mod_isEnough_4_e, xm_br_t (by decide), (h0.c t3).2.1, xm_br_f (fun q => nI_nm1 (show m < 2 ^ 31 by omega) q.symm)]
        rw [X_Mod_leastNow_18_e, X_Mod_isEnough_e, show X_Mod_isEnough_4 (d + 2) (nI n) 0 0 σ = _ from t2, e, xm_cI_s, xm_br_t rfl, nI_1]
        exact u1
theorem TaP_un {C : Nat → Nat → Prop} {m n n' : Nat} {g g' : Nat → Nat} (h : TaP C m n g) (h' : TaP C m n' g') : n = n' ∧ ∀ j, j < m → g j = g' j := by
  have e : n = n' := by
    rcases (show n < n' ∨ n = n' ∨ n' < n by omega) with q | q | q
    · exact absurd h.1 (h'.2.2 n q g)
    · exact q
    · exact absurd h'.1 (h.2.2 n' q g')
  subst e
  exact ⟨rfl, lx_un h.1 h'.1 h.2.1 h'.2.1⟩
theorem TaP_c {C C' : Nat → Nat → Prop} {m n : Nat} {g : Nat → Nat} (h : ∀ p q, C p q ↔ C' p q) (ht : TaP C m n g) : TaP C' m n g := by
  have e : C = C' := by
    funext p q
    exact propext (h p q)
  rw [← e]
  exact ht
section ML
variable {r : Nat} {bo kd kn tr : Nat → Nat} {ct tk : Nat → Bool} {σ : Sg}
/-- the reference's least, behind the class's -/
theorem C_mln (h : RcA r σ) (hv : VwA r bo kd kn tr ct tk σ) (hk : MkA σ) (hm : cnt ct r ≤ 12) (d : Nat) : ∃ n g τ, X_Mod_leastNow (d + 3) σ = some (some (.int (nI n)), τ) ∧ TaP (clC σ (whF ct r)) (cnt ct r) n g ∧ n ≤ cnt ct r ∧ Es σ τ ∧ (∀ j, j < cnt ct r → τ.1 69 j = nI (g j)) ∧ CtA r τ ∧ ∀ i, i < r → ct i = true → τ.1 66 i = nI (cnt ct i) := by
  have hr := h.1
  obtain ⟨υ, u1, u2⟩ := C_fw h hv (d + 1)
  have hE : EnA (cnt ct r) (whF ct r) υ := ⟨hm, u2.2.2.2.2.1, fun p hp => ⟨u2.w hp, by have := (whF_ok hp).1; omega⟩, hk.c (fun c hc => u2.1 c (by revert c; decide))⟩
  obtain ⟨n, g, τ, t1, t2, t3, t4, t5, t6⟩ := C_lst hE d (cnt ct r) 0 υ (by omega) (fun _ _ => rfl) rfl (fun n' hn' => by omega)
  refine ⟨n, g, τ, ?_, TaP_c (fun p q => clP_c (u2.1 25 (by decide)) (u2.1 26 (by decide)) _ _ _) t2, t3, u2.es.tr ⟨fun c hc => t4 c (by rintro rfl; revert hc; decide), fun j _ => by rw [t4 39 (by decide)], by rw [t5], by rw [t5]⟩, t6, fun i hi => by rw [t4 64 (by decide), t4 18 (by decide)]; exact u2.2.2.2.1 i hi, fun i hi hc => by rw [t4 66 (by decide)]; exact (u2.2.2.2.2.2 i hi hc).2⟩
  rw [X_Mod_leastNow_e, u1, xm_cV_s, u2.2.2.2.2.1, xm_br_t (show nI (cnt ct r) ≤ 12 from nI_le (b := 12) hm (by omega))]
  exact t1
theorem C_mlF (h : RcA r σ) (hv : VwA r bo kd kn tr ct tk σ) (hm : ¬ cnt ct r ≤ 12) (d : Nat) : ∃ τ, X_Mod_leastNow (d + 3) σ = some (some (.int (-4)), τ) ∧ Es σ τ := by
  have hr := h.1
  have hle := cnt_le ct r
  obtain ⟨υ, u1, u2⟩ := C_fw h hv (d + 1)
  refine ⟨υ, ?_, u2.es⟩
  rw [X_Mod_leastNow_e, u1, xm_cV_s, u2.2.2.2.2.1, xm_br_f (show ¬ nI (cnt ct r) ≤ 12 from nI_ge (a := 12) (by omega) (by omega))]
theorem es5 {τ : Sg} (h1 : ∀ c, c ∉ [24, 27, 28, 29, 30] → τ.1 c = σ.1 c) (h2 : τ.2 = σ.2) : Es σ τ :=
  ⟨fun c hc => h1 c (by revert c; decide), fun j _ => by rw [h1 39 (by decide)], by rw [h2], by rw [h2]⟩
theorem O_least (h : RcA r σ) (hk : MkA σ) (d : Nat) : OpI (X_TO_least (d + 14)) (X_Mod_least (d + 14)) (Es σ) σ := by
  unfold OpI
  have hr := h.1
  obtain ⟨bo, kd, kn, tr, ct, tk, hv⟩ := h.view
  have hle := cnt_le ct r
  by_cases hm : cnt ct r ≤ 12
  · obtain ⟨n, g, τ, t1, t2, t3, t4, t5, -⟩ := C_ta hv hk hm d
    have hE := es5 t4 t5
    obtain ⟨n', g', υ, u1, u2, u3, u4, -⟩ := C_mln (h.es hE) (hv.es hE) (hk.es hE) hm (d + 10)
    have := (TaP_un t2 (TaP_c (fun p q => clP_c (t4 25 (by decide)) (t4 26 (by decide)) _ _ _) u2)).1
    subst this
    refine ⟨nI n, τ, υ, ?_, ?_, hE.tr u4⟩
    · rw [X_TO_least_e, C_counting hv, xm_cI_s, xm_br_t (show nI (cnt ct r) ≤ 12 from nI_le (b := 12) hm (by omega)), t1, xm_cI_s]
    · rw [X_Mod_least_e, u1, xm_cI_s]
  · obtain ⟨υ, u1, u2⟩ := C_mlF h hv hm (d + 10)
    refine ⟨-4, σ, υ, ?_, ?_, u2⟩
    · rw [X_TO_least_e, C_counting hv, xm_cI_s, xm_br_f (show ¬ nI (cnt ct r) ≤ 12 from nI_ge (a := 12) (by omega) (by omega))]
    · rw [X_Mod_least_e, u1, xm_cI_s]
theorem C_pof {τ : Sg} {m a p : Nat} {w : Nat → Nat} (hm : m ≤ 12) (h24 : τ.1 24 7 = nI m) (h27 : ∀ p, p < m → τ.1 27 p = nI (w p) ∧ w p < 24) (hp : p < m) (hw : w p = a) (hne : ∀ q, q < p → w q ≠ a) (d : Nat) : X_Marks_personOf d (nI a) τ = some (some (.int (τ.1 29 p)), τ) := by
  have ha : a < 24 := by rw [← hw]; exact (h27 p hp).2
  have loop : ∀ (k i : Nat), i + k = p → X_Marks_personOf_2 d (nI a) (nI i) τ = some (some (.int (τ.1 29 p)), τ) := by
    intro k
    induction k with
    | zero =>
      intro i hi
      have : i = p := by omega
      subst this
      rw [X_Marks_personOf_2_e, h24, xm_br_f (nI_ge hp (by omega)), xm_ix_n (show i < 12 by omega) (by omega), (h27 i hp).1, hw, xm_br_t rfl, xm_ix_n (show i < 12 by omega) (by omega)]
    | succ k ih =>
      intro i hi
      have h1 := h27 i (by omega)
      rw [X_Marks_personOf_2_e, h24, xm_br_f (nI_ge (by omega) (by omega)), xm_ix_n (show i < 12 by omega) (by omega), h1.1, xm_br_f (fun z => hne i (by omega) ((nI_eq (by omega) (by omega)).mp z)), nI_1]
      exact ih (i + 1) (by omega)
  rw [X_Marks_personOf_e]
  exact loop p 0 (by omega)
theorem O_ones (h : RcA r σ) (hk : MkA σ) (d : Nat) (x : Int32) : OpI (X_TO_ones (d + 14) x) (X_Mod_ones (d + 14) x) (Es σ) σ := by
  unfold OpI
  have hr := h.1
  obtain ⟨bo, kd, kn, tr, ct, tk, hv⟩ := h.view
  have hle := cnt_le ct r
  by_cases hx : inR x r
  rotate_left
  · refine ⟨-2, σ, σ, ?_, ?_, Es.rf σ⟩
    · rw [X_TO_ones_e, C_rHolds _ _ σ (by omega) h.2.1, xm_cI_s, xm_br_n hx]
    · rw [X_Mod_ones_e, C_isRecord _ _ σ (by omega) h.2.2.1, xm_cI_s, xm_br_n hx]
  have hx0 := hx
  obtain ⟨a, ha, rfl⟩ := hx
  have h18 := (hv.2 a ha).2.2.2.2.1.1
  by_cases hm : cnt ct r ≤ 12
  rotate_left
  · obtain ⟨υ, u1, u2⟩ := C_mlF h hv hm (d + 10)
    refine ⟨-4, σ, υ, ?_, ?_, u2⟩
    · rw [X_TO_ones_e, C_rHolds _ _ σ (by omega) h.2.1, xm_cI_s, xm_br_b hx0, C_counting hv, xm_cI_s, xm_br_f (show ¬ nI (cnt ct r) ≤ 12 from nI_ge (a := 12) (by omega) (by omega))]
    · rw [X_Mod_ones_e, C_isRecord _ _ σ (by omega) h.2.2.1, xm_cI_s, xm_br_b hx0, u1, xm_cI_s, xm_br_t rfl]
  have cls : X_TO_ones (d + 14) (nI a) σ = xm_br (nI (ct a).toNat = 0) (some (some (.int (-1)), σ)) (xm_cI (X_Marks_tellApart (d + 13) σ) (fun r7 σ6 => xm_cI (X_Marks_personOf (d + 13) (nI a) σ6) (fun r9 σ8 => some (some (.int r9), σ8)))) := by
    rw [X_TO_ones_e, C_rHolds _ _ σ (by omega) h.2.1, xm_cI_s, xm_br_b hx0, C_counting hv, xm_cI_s, xm_br_t (show nI (cnt ct r) ≤ 12 from nI_le (b := 12) hm (by omega)), xm_ix_n (show a < 24 by omega) (by omega), h18]
  have n4 : ∀ n, n ≤ cnt ct r → ¬ nI n = -4 := by
    intro n hn q
    have q2 := congrArg Int32.toInt q
    rw [nI_toInt (by omega)] at q2
    have : (-4 : Int32).toInt = -4 := by decide
    omega
  have mod : ∀ τ, Es σ τ → ∃ n g υ, X_Mod_ones (d + 14) (nI a) τ = xm_br (nI (ct a).toNat = 0) (some (some (.int (-1)), υ)) (xm_ix (υ.1 66 a) 12 (fun j7 => some (some (.int (υ.1 69 j7)), υ))) ∧ TaP (clC τ (whF ct r)) (cnt ct r) n g ∧ Es σ υ ∧ (∀ j, j < cnt ct r → υ.1 69 j = nI (g j)) ∧ (ct a = true → υ.1 66 a = nI (cnt ct a)) := by
    intro τ ht
    obtain ⟨n, g, υ, u1, u2, u3, u4, u5, u6, u7⟩ := C_mln (h.es ht) (hv.es ht) (hk.es ht) hm (d + 10)
    refine ⟨n, g, υ, ?_, u2, ht.tr u4, u5, u7 a ha⟩
    rw [X_Mod_ones_e, C_isRecord _ _ τ (by omega) (h.es ht).2.2.1, xm_cI_s, xm_br_b hx0, u1, xm_cI_s, xm_br_f (n4 n u3), xm_ix_n (show a < 24 by omega) (by omega), u6 a ha, u4.1 18 (by decide), ht.1 18 (by decide), h18, xm_ix_n (show a < 24 by omega) (by omega)]
  cases hc : ct a with
  | false =>
    obtain ⟨n, g, υ, u1, -, u3, -⟩ := mod σ (Es.rf σ)
    rw [hc] at cls u1
    refine ⟨-1, σ, υ, ?_, ?_, u3⟩
    · rw [cls, xm_br_t (by decide)]
    · rw [u1, xm_br_t (by decide)]
  | true =>
    obtain ⟨n, g, τ, t1, t2, t3, t4, t5, t6, t7, t8⟩ := C_ta hv hk hm d
    have hE := es5 t4 t5
    obtain ⟨n', g', υ, u1, u2, u3, u4, u5⟩ := mod τ hE
    have hp : cnt ct a < cnt ct r := cnt_l ha hc
    have eg := (TaP_un t2 (TaP_c (fun p q => clP_c (t4 25 (by decide)) (t4 26 (by decide)) _ _ _) u2)).2
    rw [hc] at cls u1
    refine ⟨nI (g (cnt ct a)), τ, υ, ?_, ?_, u3⟩
    · rw [cls, xm_br_f (by decide), t1, xm_cI_s, C_pof hm t6 (fun p hp => ⟨t7 p hp, by have := (whF_ok hp).1; omega⟩) hp (whF_pos ha hc) (fun q hq e => by
        have := (whF_ok (ct := ct) (r := r) (p := q) (by omega)).2.2
        rw [e] at this
        omega) _, xm_cI_s, t8 _ hp]
    · rw [u1, xm_br_f (by decide), u5 hc, xm_ix_n (by omega) (by omega), u4 _ hp, eg _ hp]
end ML
