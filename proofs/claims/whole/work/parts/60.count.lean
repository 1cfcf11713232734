/-! COUNT, wave -/
theorem C_counting {r : Nat} {bo kd kn tr : Nat → Nat} {ct tk : Nat → Bool} {σ : Sg} (h : VwA r bo kd kn tr ct tk σ) (d : Nat) : X_Records_counting d σ = some (some (.int (nI (cnt ct r))), σ) := by
  have hr := h.1.1
  rw [X_Records_counting_e]
  have loop : ∀ (m i : Nat), i + m = r → X_Records_counting_4 d (nI (cnt ct i)) (nI i) σ = some (some (.int (nI (cnt ct r))), σ) := by
    intro m
    induction m with
    | zero =>
      intro i hi
      rw [X_Records_counting_4_e, h.1.2.1, xm_br_t (nI_le (by omega) (by omega)), show i = r by omega]
    | succ m ih =>
      intro i hi
      have := ih (i + 1) (by omega)
      rw [show cnt ct (i + 1) = cnt ct i + (ct i).toNat from rfl] at this
      rw [X_Records_counting_4_e, h.1.2.1, xm_br_f (nI_ge (by omega) (by omega)), xm_ix_n (by omega) (by omega), (h.2 i (by omega)).2.2.2.2.1.1, nI_1]
      cases hc : ct i with
      | false =>
        rw [hc] at this
        rw [xm_br_t (by decide), show (0 : Int32) = nI 0 from rfl, nI_add]
        exact this
      | true =>
        rw [hc] at this
        rw [xm_br_f (by decide), nI_1]
        exact this
  exact loop r 0 (by omega)
/-- how many that count have p -/
def cnW (ct p : Nat → Bool) (r : Nat) : Nat := cnt (fun i => ct i && p i) r
theorem C_inWave {r : Nat} {bo kd kn tr : Nat → Nat} {ct tk : Nat → Bool} {σ : Sg} (h : VwA r bo kd kn tr ct tk σ) (d : Nat) (w : Int32) : X_Records_inWave d w σ = some (some (.int (nI (cnW ct (fun i => decide (σ.1 15 i = w)) r))), σ) := by
  have hr := h.1.1
  rw [X_Records_inWave_e]
  have loop : ∀ (m i : Nat), i + m = r → X_Records_inWave_4 d w (nI (cnW ct (fun i => decide (σ.1 15 i = w)) i)) (nI i) σ = some (some (.int (nI (cnW ct (fun i => decide (σ.1 15 i = w)) r))), σ) := by
    intro m
    induction m with
    | zero =>
      intro i hi
      rw [X_Records_inWave_4_e, h.1.2.1, xm_br_t (nI_le (by omega) (by omega)), show i = r by omega]
    | succ m ih =>
      intro i hi
      have := ih (i + 1) (by omega)
      rw [show cnW ct (fun i => decide (σ.1 15 i = w)) (i + 1) = cnW ct (fun i => decide (σ.1 15 i = w)) i + (ct i && decide (σ.1 15 i = w)).toNat from rfl] at this
      rw [X_Records_inWave_4_e, h.1.2.1, xm_br_f (nI_ge (by omega) (by omega)), xm_ix_n (by omega) (by omega), xm_ix_n (by omega) (by omega), (h.2 i (by omega)).2.2.2.2.1.1, nI_1, show (0 : Int32) = nI 0 from rfl, nI_add, nI_1]
      cases hc : ct i with
      | false =>
        rw [hc] at this
        rw [xm_br_t (by decide)]
        exact this
      | true =>
        rw [hc] at this
        rw [xm_br_f (by decide)]
        by_cases q : σ.1 15 i = w
        · rw [xm_br_t q]
          rw [decide_eq_true q] at this
          exact this
        · rw [xm_br_f q]
          rw [decide_eq_false q] at this
          exact this
  exact loop r 0 (by omega)
theorem C_mwave {r : Nat} {bo kd kn tr : Nat → Nat} {ct tk : Nat → Bool} {σ : Sg} (h : VwA r bo kd kn tr ct tk σ) (h64 : CtA r σ) (d : Nat) (w : Int32) : X_Mod_wave_23 d w 0 0 σ = some (some (.int (nI (cnW ct (fun i => decide (σ.1 15 i = w)) r))), σ) := by
  have hr := h.1.1
  have loop : ∀ (m i : Nat), i + m = r → X_Mod_wave_23 d w (nI (cnW ct (fun i => decide (σ.1 15 i = w)) i)) (nI i) σ = some (some (.int (nI (cnW ct (fun i => decide (σ.1 15 i = w)) r))), σ) := by
    intro m
    induction m with
    | zero =>
      intro i hi
      rw [X_Mod_wave_23_e, h.1.2.2.1, xm_br_t (nI_le (by omega) (by omega)), show i = r by omega]
    | succ m ih =>
      intro i hi
      have := ih (i + 1) (by omega)
      rw [show cnW ct (fun i => decide (σ.1 15 i = w)) (i + 1) = cnW ct (fun i => decide (σ.1 15 i = w)) i + (ct i && decide (σ.1 15 i = w)).toNat from rfl] at this
      rw [X_Mod_wave_23_e, h.1.2.2.1, xm_br_f (nI_ge (by omega) (by omega)), xm_ix_n (by omega) (by omega), xm_ix_n (by omega) (by omega), h64 i (by omega), (h.2 i (by omega)).2.2.2.2.1.1, (h.2 i (by omega)).2.2.2.2.1.2.1, nI_1, show (0 : Int32) = nI 0 from rfl, nI_add, nI_1]
      cases hc : ct i with
      | false =>
        rw [hc] at this
        rw [xm_br_t (by decide)]
        exact this
      | true =>
        rw [hc] at this
        rw [xm_br_f (by decide)]
        by_cases q : σ.1 15 i = w
        · rw [xm_br_t q]
          rw [decide_eq_true q] at this
          exact this
        · rw [xm_br_f q]
          rw [decide_eq_false q] at this
          exact this
  exact loop r 0 (by omega)
theorem C_trees {r : Nat} {bo kd kn tr : Nat → Nat} {ct tk : Nat → Bool} {σ : Sg} (h : VwA r bo kd kn tr ct tk σ) (h64 : CtA r σ) (d : Nat) : X_Mod_trees d σ = some (some (.int (nI (cnW ct (fun i => decide (bo i = 0)) r))), σ) := by
  have hr := h.1.1
  rw [X_Mod_trees_e]
  have loop : ∀ (m i : Nat), i + m = r → X_Mod_trees_4 d (nI (cnW ct (fun i => decide (bo i = 0)) i)) (nI i) σ = some (some (.int (nI (cnW ct (fun i => decide (bo i = 0)) r))), σ) := by
    intro m
    induction m with
    | zero =>
      intro i hi
      rw [X_Mod_trees_4_e, h.1.2.2.1, xm_br_t (nI_le (by omega) (by omega)), show i = r by omega]
    | succ m ih =>
      intro i hi
      have hb := (h.2 i (by omega)).1
      have := ih (i + 1) (by omega)
      rw [show cnW ct (fun i => decide (bo i = 0)) (i + 1) = cnW ct (fun i => decide (bo i = 0)) i + (ct i && decide (bo i = 0)).toNat from rfl] at this
      rw [X_Mod_trees_4_e, h.1.2.2.1, xm_br_f (nI_ge (by omega) (by omega)), xm_ix_n (by omega) (by omega), xm_ix_n (by omega) (by omega), h64 i (by omega), (h.2 i (by omega)).2.2.2.2.1.1, hb.2.2, nI_1, show (0 : Int32) = nI 0 from rfl, nI_add, nI_1]
      cases hc : ct i with
      | false =>
        rw [hc] at this
        rw [xm_br_t (by decide)]
        exact this
      | true =>
        rw [hc] at this
        rw [xm_br_f (by decide)]
        by_cases q : bo i = 0
        · rw [xm_br_t ((oI_m1 (by omega)).mpr q)]
          rw [decide_eq_true q] at this
          exact this
        · rw [xm_br_f (fun e => q ((oI_m1 (by omega)).mp e))]
          rw [decide_eq_false q] at this
          exact this
  exact loop r 0 (by omega)
theorem cnt_c {p q : Nat → Bool} {r : Nat} (h : ∀ i, i < r → p i = q i) : cnt p r = cnt q r := sm_c (fun i hi => by show (p i).toNat = (q i).toNat; rw [h i hi])
theorem O_wave {r : Nat} {σ : Sg} (h : RcA r σ) (d : Nat) (x : Int32) : OpI (X_TO_wave (d + 4) x) (X_Mod_wave (d + 4) x) (Es σ) σ := by
  unfold OpI
  have h9 := C_in32 (d + 3) x 0 23 σ
  rw [show ((0 : Int32).toInt64) = 0 from rfl, show ((23 : Int32).toInt64) = 23 from rfl] at h9
  by_cases hx : 0 ≤ x ∧ x ≤ 23
  rotate_left
  · refine ⟨-2, σ, σ, ?_, ?_, Es.rf σ⟩
    · rw [X_TO_wave_e, C_isUpTo, xm_cI_s, xm_br_n hx]
    · rw [X_Mod_wave_e, h9, xm_cI_s, xm_br_n hx]
  obtain ⟨τ, t1, t2⟩ := C_fc (d + 3) h
  obtain ⟨bo, kd, kn, tr, ct, tk, hv⟩ := h.view
  refine ⟨nI (cnW ct (fun i => decide (σ.1 15 i = x)) r), σ, τ, ?_, ?_, t2.es⟩
  · rw [X_TO_wave_e, C_isUpTo, xm_cI_s, xm_br_b hx, C_inWave hv, xm_cI_s]
  · rw [X_Mod_wave_e, h9, xm_cI_s, xm_br_b hx, t1, xm_cV_s, C_mwave (hv.es t2.es) t2.ct, t2.1 15 (by decide)]
/-- behind findWho: many, who, place -/
def WhP (r : Nat) (ct : Nat → Bool) (σ τ : Sg) : Prop := (∀ c, c ∉ [39, 64, 65, 66] → τ.1 c = σ.1 c) ∧ (∀ j, j ≠ 45 → τ.1 39 j = σ.1 39 j) ∧ τ.2 = σ.2 ∧ CtA r τ ∧ τ.1 39 45 = nI (cnt ct r) ∧ ∀ i, i < r → ct i = true → τ.1 65 (cnt ct i) = nI i ∧ τ.1 66 i = nI (cnt ct i)
theorem cnt_s (p : Nat → Bool) (i : Nat) : cnt p (i + 1) = cnt p i + (p i).toNat := rfl
theorem cnt_m (p : Nat → Bool) {i : Nat} : ∀ {j : Nat}, i ≤ j → cnt p i ≤ cnt p j
  | 0, h => by rw [show i = 0 by omega]; exact Nat.le_refl _
  | j + 1, h => by
    by_cases e : i = j + 1
    · rw [e]; exact Nat.le_refl _
    · have := cnt_m p (i := i) (j := j) (by omega)
      rw [cnt_s]
      omega
theorem C_fw {r : Nat} {bo kd kn tr : Nat → Nat} {ct tk : Nat → Bool} {σ : Sg} (h : RcA r σ) (hv : VwA r bo kd kn tr ct tk σ) (d : Nat) : ∃ τ, X_Mod_findWho (d + 1) σ = some (none, τ) ∧ WhP r ct σ τ := by
  have hr := h.1
  obtain ⟨υ, u1, u2⟩ := C_fc d h
  have loop : ∀ (m i : Nat) (σ' : Sg), i + m = r → (∀ c, c ∉ [39, 65, 66] → σ'.1 c = υ.1 c) → (∀ j, j ≠ 45 → σ'.1 39 j = υ.1 39 j) → σ'.2 = υ.2 → σ'.1 39 45 = nI (cnt ct i) → (∀ k, k < i → ct k = true → σ'.1 65 (cnt ct k) = nI k ∧ σ'.1 66 k = nI (cnt ct k)) → ∃ τ, X_Mod_findWho_11 (d + 1) (nI i) σ' = some (none, τ) ∧ (∀ c, c ∉ [39, 65, 66] → τ.1 c = υ.1 c) ∧ (∀ j, j ≠ 45 → τ.1 39 j = υ.1 39 j) ∧ τ.2 = υ.2 ∧ τ.1 39 45 = nI (cnt ct r) ∧ (∀ k, k < r → ct k = true → τ.1 65 (cnt ct k) = nI k ∧ τ.1 66 k = nI (cnt ct k)) := by
    intro m
    induction m with
    | zero =>
      intro i σ' hi a1 a2 a3 a4 a5
      have : i = r := by omega
      subst this
      refine ⟨σ', ?_, a1, a2, a3, a4, a5⟩
      rw [X_Mod_findWho_11_e, a2 26 (by decide), u2.1 39 (by decide), h.2.2.1, xm_br_t (nI_le (by omega) (by omega))]
    | succ m ih =>
      intro i σ' hi a1 a2 a3 a4 a5
      have hle := cnt_le ct i
      have e26 : σ'.1 39 26 = nI r := by rw [a2 26 (by decide), u2.1 39 (by decide), h.2.2.1]
      rw [X_Mod_findWho_11_e, e26, xm_br_f (nI_ge (by omega) (by omega)), xm_ix_n (by omega) (by omega), a1 64 (by decide), u2.2.2 i (by omega), (hv.2 i (by omega)).2.2.2.2.1.1, nI_1, a4, xm_ix_n (by omega) (by omega), xm_ix_n (by omega) (by omega), nI_1]
      cases hc : ct i with
      | false =>
        rw [xm_br_t (by decide)]
        refine ih (i + 1) σ' (by omega) a1 a2 a3 ?_ (fun k hk ck => ?_)
        · rw [cnt_s, hc]; exact a4
        · by_cases e : k = i
          · rw [e, hc] at ck; cases ck
          · exact a5 k (by omega) ck
      | true =>
        rw [xm_br_f (by decide)]
        refine ih (i + 1) _ (by omega) (fun c hc => ?_) (fun j hj => ?_) a3 ?_ (fun k hk ck => ?_)
        · have hc' : ∀ k, k ∈ [39, 65, 66] → c ≠ k := fun k hk e => hc (e ▸ hk)
          rw [sI_cell _ _ _ (hc' 39 (by decide)), sI_cell _ _ _ (hc' 66 (by decide)), sI_cell _ _ _ (hc' 65 (by decide))]
          exact a1 c hc
        · rw [sI_row _ _ hj, sI_cell _ _ _ (by decide), sI_cell _ _ _ (by decide)]
          exact a2 j hj
        · rw [sI_same, cnt_s, hc]; rfl
        · rw [sI_cell _ _ _ (by decide : (65 : Nat) ≠ 39), sI_cell _ _ _ (by decide : (65 : Nat) ≠ 66), sI_cell _ _ _ (by decide : (66 : Nat) ≠ 39), sI_at, sI_at, sI_cell _ _ _ (by decide : (66 : Nat) ≠ 65)]
          by_cases e : k = i
          · subst e
            rw [if_pos rfl, if_pos rfl]
            exact ⟨rfl, rfl⟩
          · have hm := cnt_m ct (i := k + 1) (j := i) (by omega)
            rw [cnt_s, ck] at hm
            have hm : cnt ct k + 1 ≤ cnt ct i := hm
            rw [if_neg (by omega), if_neg e]
            exact a5 k (by omega) ck
  obtain ⟨τ, t1, t2, t3, t4, t5, t6⟩ := loop r 0 (xm_sI υ 39 45 0) (by omega) (fun c hc => sI_cell _ _ _ (fun e => hc (by rw [e]; decide))) (fun j hj => sI_row _ _ hj) rfl (sI_same _ _ _ _) (fun k hk => by omega)
  refine ⟨τ, ?_, fun c hc => ?_, fun j hj => ?_, t4.trans u2.2.1, fun i hi => ?_, t5, t6⟩
  · rw [X_Mod_findWho_e, u1, xm_cV_s]
    exact t1
  · have hc' : ∀ k, k ∈ [39, 64, 65, 66] → c ≠ k := fun k hk e => hc (e ▸ hk)
    rw [t2 c (fun q => hc (by simp only [List.mem_cons, List.not_mem_nil, or_false] at q ⊢; omega)), u2.1 c (hc' 64 (by decide))]
  · rw [t3 j hj, u2.1 39 (by decide)]
  · rw [t2 64 (by decide), t2 18 (by decide), u2.2.2 i hi, u2.1 18 (by decide)]
theorem WhP.es {r : Nat} {ct : Nat → Bool} {σ τ : Sg} (h : WhP r ct σ τ) : Es σ τ :=
  ⟨fun c hc => h.1 c (by revert c; decide), fun j hj => h.2.1 j (by rintro rfl; revert hj; decide), by rw [h.2.2.1], by rw [h.2.2.1]⟩
-- count
theorem C_kb {n K : Nat} {T : Nat → Nat} {σ : Sg} (h : NtA n T K σ) (d : Nat) : ∀ (m i : Nat), i + m = n → X_Mod_count_70 d (nI (K % 2 ^ i)) (nI i) σ = some (some (.int (nI K)), σ)
  | 0, i, hi => by
    have hn := h.1
    rw [X_Mod_count_70_e, h.2.2.1, xm_br_t (nI_le (by omega) (by omega)), show i = n by omega, Nat.mod_eq_of_lt h.2.2.2.2.2.1]
  | m + 1, i, hi => by
    have hn := h.1
    have hk := pow9 hn.2 h.2.2.2.2.2.1
    have ih := C_kb h d m (i + 1) (by omega)
    rw [X_Mod_count_70_e, h.2.2.1, xm_br_f (nI_ge (by omega) (by omega)), xm_ix_n (by omega) (by omega), h.2.2.2.2.2.2 i (by omega), nI_1]
    have key : ∀ K, K < 512 → ∀ i, i < 9 → (nI (K % 2 ^ i) ||| (nI (K / 2 ^ i % 2) <<< (nI i &&& 31))) = nI (K % 2 ^ (i + 1)) := by decide +kernel
    rw [key K hk i (by omega)]
    exact ih
theorem C_signs {r : Nat} {σ : Sg} (hm : MkA σ) (h9 : σ.1 9 9 = nI r) (h26 : σ.1 39 26 = nI r) (hr : r ≤ 24) (d d' : Nat) : ∀ (m i : Nat) (x : Int32), i + m = r → ∃ v, X_Marks_signsOfAll_4 d x (nI i) σ = some (some (.int v), σ) ∧ X_Mod_count_137 d' x (nI i) σ = some (some (.int v), σ)
  | 0, i, x, hi => by
    refine ⟨x, ?_, ?_⟩
    · rw [X_Marks_signsOfAll_4_e, h9, xm_br_t (nI_le (by omega) (by omega))]
    · rw [X_Mod_count_137_e, h26, xm_br_t (nI_le (by omega) (by omega))]
  | m + 1, i, x, hi => by
    obtain ⟨v, v1, v2⟩ := C_signs hm h9 h26 hr d d' m (i + 1) (x + σ.1 26 i) (by omega)
    refine ⟨v, ?_, ?_⟩
    · rw [X_Marks_signsOfAll_4_e, h9, xm_br_f (nI_ge (by omega) (by omega)), xm_ix_n (by omega) (by omega), nI_1, v1]
    · rw [X_Mod_count_137_e, h26, xm_br_f (nI_ge (by omega) (by omega)), xm_ix_n (by omega) (by omega), nI_1, ← (hm.1 i (by omega)).1, v2]
theorem C_count {n K r L : Nat} {T : Nat → Nat} {s : Int32} {σ : Sg} (h : NtA n T K σ) (hs : StA n s L σ) (hc : RcA r σ) (hm : MkA σ) (hsh : ShA σ) (d : Nat) (w : Int32) : ∃ v, X_TO_count (d + 4) w σ = some (some (.int v), σ) ∧ ∀ τ, Ec σ τ → ∃ υ, X_Mod_count (d + 4) w τ = some (some (.int v), υ) ∧ Es τ υ := by
  have hn := h.1
  have hr := hc.1
  obtain ⟨bo, kd, kn, tr, ct, tk, hv⟩ := hc.view
  by_cases h0 : w = 0
  · refine ⟨nI n, ?_, fun τ ht => ⟨τ, ?_, Es.rf τ⟩⟩
    · rw [X_TO_count_e, xm_br_t h0, h.2.1]
    · rw [X_Mod_count_e, xm_br_t h0, (h.ec ht).2.2.1]
  by_cases h1 : w = 1
  · refine ⟨nI (dgs T n) / 2, ?_, fun τ ht => ⟨τ, ?_, Es.rf τ⟩⟩
    · rw [X_TO_count_e, xm_br_f h0, xm_br_t h1, C_everyone _ _ hn.2 h.2.1, xm_cI_s, C_degall h _, xm_cI_s]
    · rw [X_Mod_count_e, xm_br_f h0, xm_br_t h1, C_mdegs (h.ec ht) _, xm_cI_s]
  by_cases h2 : w = 2
  · refine ⟨nI K, ?_, fun τ ht => ⟨τ, ?_, Es.rf τ⟩⟩
    · rw [X_TO_count_e, xm_br_f h0, xm_br_f h1, xm_br_t h2, h.2.2.2.2.1]
    · rw [X_Mod_count_e, xm_br_f h0, xm_br_f h1, xm_br_t h2]
      have := C_kb (h.ec ht) (d + 4) n 0 (by omega)
      rw [show K % 2 ^ 0 = 0 by omega] at this
      exact this
  by_cases h3 : w = 3
  · refine ⟨nI r, ?_, fun τ ht => ⟨τ, ?_, Es.rf τ⟩⟩
    · rw [X_TO_count_e, xm_br_f h0, xm_br_f h1, xm_br_f h2, xm_br_t h3, hc.2.1]
    · rw [X_Mod_count_e, xm_br_f h0, xm_br_f h1, xm_br_f h2, xm_br_t h3, (hc.ec ht).2.2.1]
  by_cases h4 : w = 4
  · refine ⟨nI (cnt ct r), ?_, fun τ ht => ?_⟩
    · rw [X_TO_count_e, xm_br_f h0, xm_br_f h1, xm_br_f h2, xm_br_f h3, xm_br_t h4, C_counting hv, xm_cI_s]
    · obtain ⟨υ, u1, u2⟩ := C_fw (hc.ec ht) (hv.ec ht) (d + 2)
      refine ⟨υ, ?_, u2.es⟩
      rw [X_Mod_count_e, xm_br_f h0, xm_br_f h1, xm_br_f h2, xm_br_f h3, xm_br_t h4, u1, xm_cV_s, u2.2.2.2.2.1]
  by_cases h5 : w = 5
  · refine ⟨nI (cnW ct (fun i => decide (bo i = 0)) r), ?_, fun τ ht => ?_⟩
    · rw [X_TO_count_e, xm_br_f h0, xm_br_f h1, xm_br_f h2, xm_br_f h3, xm_br_f h4, xm_br_t h5, C_inWave hv, xm_cI_s]
      have : cnW ct (fun i => decide (σ.1 15 i = 0)) r = cnW ct (fun i => decide (bo i = 0)) r := cnt_c (fun i hi => by
        show (ct i && decide (σ.1 15 i = 0)) = (ct i && decide (bo i = 0))
        rw [decide_eq_decide.mpr (hv.2 i hi).2.2.2.2.1.2.2])
      rw [this]
    · obtain ⟨υ, u1, u2⟩ := C_fc (d + 3) (hc.ec ht)
      refine ⟨υ, ?_, u2.es⟩
      rw [X_Mod_count_e, xm_br_f h0, xm_br_f h1, xm_br_f h2, xm_br_f h3, xm_br_f h4, xm_br_t h5, u1, xm_cV_s, C_trees ((hv.ec ht).es u2.es) u2.ct, xm_cI_s]
  by_cases h6 : w = 6
  · refine ⟨s, ?_, fun τ ht => ⟨τ, ?_, Es.rf τ⟩⟩
    · rw [X_TO_count_e, xm_br_f h0, xm_br_f h1, xm_br_f h2, xm_br_f h3, xm_br_f h4, xm_br_f h5, xm_br_t h6, hs.1]
    · rw [X_Mod_count_e, xm_br_f h0, xm_br_f h1, xm_br_f h2, xm_br_f h3, xm_br_f h4, xm_br_f h5, xm_br_t h6, (hs.ec ht).2.1]
  by_cases h7 : w = 7
  · refine ⟨nI L, ?_, fun τ ht => ⟨τ, ?_, Es.rf τ⟩⟩
    · rw [X_TO_count_e, xm_br_f h0, xm_br_f h1, xm_br_f h2, xm_br_f h3, xm_br_f h4, xm_br_f h5, xm_br_f h6, xm_br_t h7, hs.2.2.2.1]
    · rw [X_Mod_count_e, xm_br_f h0, xm_br_f h1, xm_br_f h2, xm_br_f h3, xm_br_f h4, xm_br_f h5, xm_br_f h6, xm_br_t h7, (hs.ec ht).2.2.2.2.1]
  by_cases h8 : w = 8
  · refine ⟨σ.1 31 3, ?_, fun τ ht => ⟨τ, ?_, Es.rf τ⟩⟩
    · rw [X_TO_count_e, xm_br_f h0, xm_br_f h1, xm_br_f h2, xm_br_f h3, xm_br_f h4, xm_br_f h5, xm_br_f h6, xm_br_f h7, xm_br_t h8]
    · rw [X_Mod_count_e, xm_br_f h0, xm_br_f h1, xm_br_f h2, xm_br_f h3, xm_br_f h4, xm_br_f h5, xm_br_f h6, xm_br_f h7, xm_br_t h8, ← (hsh.ec ht).1, ht.1 31 (by decide) (by decide)]
  by_cases h9 : w = 9
  · obtain ⟨v, v1, v2⟩ := C_signs hm hc.2.1 hc.2.2.1 hr (d + 3) (d + 4) r 0 0 (by omega)
    refine ⟨v, ?_, fun τ ht => ⟨τ, ?_, Es.rf τ⟩⟩
    · rw [X_TO_count_e, xm_br_f h0, xm_br_f h1, xm_br_f h2, xm_br_f h3, xm_br_f h4, xm_br_f h5, xm_br_f h6, xm_br_f h7, xm_br_f h8, xm_br_t h9, X_Marks_signsOfAll_e, show X_Marks_signsOfAll_4 (d + 3) 0 0 σ = _ from v1, xm_cI_s]
    · obtain ⟨v', v1', v2'⟩ := C_signs (hm.ec ht) (hc.ec ht).2.1 (hc.ec ht).2.2.1 hr (d + 3) (d + 4) r 0 0 (by omega)
      have e : ∀ (m i : Nat) (x : Int32), i + m = r → ∀ v v', X_Marks_signsOfAll_4 (d + 3) x (nI i) σ = some (some (.int v), σ) → X_Marks_signsOfAll_4 (d + 3) x (nI i) τ = some (some (.int v'), τ) → v = v' := by
        intro m
        induction m with
        | zero =>
          intro i x hi v v' a b
          rw [X_Marks_signsOfAll_4_e, hc.2.1, xm_br_t (nI_le (by omega) (by omega))] at a
          rw [X_Marks_signsOfAll_4_e, (hc.ec ht).2.1, xm_br_t (nI_le (by omega) (by omega))] at b
          injection a with a; injection a with a1 a2; injection a1 with a1; injection a1 with a1
          injection b with b; injection b with b1 b2; injection b1 with b1; injection b1 with b1
          rw [← a1, ← b1]
        | succ m ih =>
          intro i x hi v v' a b
          rw [X_Marks_signsOfAll_4_e, hc.2.1, xm_br_f (nI_ge (by omega) (by omega)), xm_ix_n (by omega) (by omega), nI_1] at a
          rw [X_Marks_signsOfAll_4_e, (hc.ec ht).2.1, xm_br_f (nI_ge (by omega) (by omega)), xm_ix_n (by omega) (by omega), nI_1, ht.1 26 (by decide) (by decide)] at b
          exact ih (i + 1) _ (by omega) v v' a b
      rw [X_Mod_count_e, xm_br_f h0, xm_br_f h1, xm_br_f h2, xm_br_f h3, xm_br_f h4, xm_br_f h5, xm_br_f h6, xm_br_f h7, xm_br_f h8, xm_br_t h9, e r 0 0 (by omega) v v' v1 v1']
      exact v2'
  · refine ⟨-2, ?_, fun τ ht => ⟨τ, ?_, Es.rf τ⟩⟩
    · rw [X_TO_count_e, xm_br_f h0, xm_br_f h1, xm_br_f h2, xm_br_f h3, xm_br_f h4, xm_br_f h5, xm_br_f h6, xm_br_f h7, xm_br_f h8, xm_br_f h9]
    · rw [X_Mod_count_e, xm_br_f h0, xm_br_f h1, xm_br_f h2, xm_br_f h3, xm_br_f h4, xm_br_f h5, xm_br_f h6, xm_br_f h7, xm_br_f h8, xm_br_f h9]
theorem O_count {n K r L : Nat} {T : Nat → Nat} {s : Int32} {σ : Sg} (h : NtA n T K σ) (hs : StA n s L σ) (hc : RcA r σ) (hm : MkA σ) (hsh : ShA σ) (d : Nat) (w : Int32) : OpI (X_TO_count (d + 4) w) (X_Mod_count (d + 4) w) (Es σ) σ := by
  obtain ⟨v, v1, v2⟩ := C_count h hs hc hm hsh d w
  obtain ⟨υ, u1, u2⟩ := v2 σ (Ec.rf σ)
  exact ⟨v, σ, υ, v1, u1, u2⟩
