/-! SHARES: share, bounds, forgot, the ops -/
theorem C_in02 (d : Nat) (x : Int32) (σ : Sg) : X_Mod_in d x.toInt64 0 2 σ = some (some (.int (bI (0 ≤ x ∧ x ≤ 2))), σ) := C_in32 d x 0 2 σ
theorem C_in05 (d : Nat) (x : Int32) (σ : Sg) : X_Mod_in d x.toInt64 0 5 σ = some (some (.int (bI (0 ≤ x ∧ x ≤ 5))), σ) := C_in32 d x 0 5 σ
/-- both answers of share -/
theorem C_sh {r : Nat} {σ : Sg} (h : RcA r σ) (d d' : Nat) {how w : Int32} (h2 : 0 ≤ how ∧ how ≤ 2) (hw : inR w 2) : ∃ V, (∀ τ, Es σ τ → ∃ υ, X_TO_share (d + 4) how w τ = some (some (.long V), υ) ∧ Es σ υ) ∧ (∀ τ, Es σ τ → ∃ υ, X_Mod_shareOf (d' + 3) how w τ = some (some (.long V), υ) ∧ Es σ υ) := by
  have hr := h.1
  obtain ⟨bo, kd, kn, tr, ct, tk, hv⟩ := h.view
  by_cases h0 : how = 0
  · subst h0
    have l1 := cT_le (r := r) (kd := kd) (tk := tk) 1
    have l0 := cT_le (r := r) (kd := kd) (tk := tk) 0
    refine ⟨frN (sm (cT kd tk 1) r) (sm (cT kd tk 1) r + sm (cT kd tk 0) r) w, fun τ ht => ⟨τ, ?_, ht⟩, fun τ ht => ?_⟩
    · have hv' := hv.es ht
      rw [X_TO_share_e, C_isUpTo, xm_cI_s, xm_br_b h2, C_isBit, xm_cI_s, xm_br_b hw, xm_br_t rfl, show X_Shares_taken (d + 3) 1 τ = _ from C_taken hv' (d + 2) (k := 1) (by omega), xm_cL_s, show X_Shares_taken (d + 3) 0 τ = _ from C_taken hv' (d + 2) (k := 0) (by omega), xm_cL_s, F_tpart (d + 1) _ w (by omega), xm_cL_s]
    · obtain ⟨υ, u1, u2⟩ := C_fc (d' + 2) (h.es ht)
      have hv' := (hv.es ht).es u2.es
      refine ⟨_, ?_, AB_es (ht.tr u2.es) (lN (sm (cT kd tk 1) r)) (lN (cnt tk r))⟩
      rw [X_Mod_shareOf_e, u1, xm_cV_s, xm_br_t rfl, C_plain hv' u2.ct (d' + 1), xm_cV_s, C_fin (d' + 1) _ w (by omega) (by have := cnt_le tk r; omega), cT_s hv]
  by_cases h1 : how = 1
  · subst h1
    have l1 := bTs_le (kd := kd) (kn := kn) (tr := tr) (tk := tk) (k := 1) (but := 99) hr
    have l0 := bTs_le (kd := kd) (kn := kn) (tr := tr) (tk := tk) (k := 0) (but := 99) hr
    refine ⟨frN (sm (bT kd kn tr tk 1 99) r) (sm (bT kd kn tr tk 1 99) r + sm (bT kd kn tr tk 0 99) r) w, fun τ ht => ⟨τ, ?_, ht⟩, fun τ ht => ?_⟩
    · have hv' := hv.es ht
      rw [X_TO_share_e, C_isUpTo, xm_cI_s, xm_br_b h2, C_isBit, xm_cI_s, xm_br_b hw, xm_br_f h0, xm_br_t rfl, show X_Shares_byTies (d + 3) 1 (-1) τ = _ from C_byT hv' (d + 1) (k := 1) (by omega) (but_n hv'), xm_cL_s, show X_Shares_byTies (d + 3) 0 (-1) τ = _ from C_byT hv' (d + 1) (k := 0) (by omega) (but_n hv'), xm_cL_s, F_tpart (d + 1) _ w (by omega), xm_cL_s]
    · obtain ⟨υ, u1, u2⟩ := C_fc (d' + 2) (h.es ht)
      have hv' := (hv.es ht).es u2.es
      obtain ⟨s1, s2⟩ := sm_rf hv 99
      refine ⟨_, ?_, AB_es (ht.tr u2.es) (lN (sm (ra kd kn tr tk 0 99) r)) (lN (sm (rf kd kn tr tk 0 99) r))⟩
      rw [X_Mod_shareOf_e, u1, xm_cV_s, xm_br_f h0, xm_br_t rfl, C_mbyT hv' u2.ct (d' + 1) (but_n hv'), xm_cV_s, C_fin (d' + 1) _ w (by omega) (by omega), s1, s2, frN_scale (by omega)]
  · have l1 := bb_le (bo := bo) (kd := kd) (kn := kn) (tr := tr) (tk := tk) hr 1
    have l0 := bb_le (bo := bo) (kd := kd) (kn := kn) (tr := tr) (tk := tk) hr 0
    refine ⟨frN (bb bo kd kn tr tk r 1) (bb bo kd kn tr tk r 1 + bb bo kd kn tr tk r 0) w, fun τ ht => ?_, fun τ ht => ?_⟩
    · have hv' := hv.es ht
      obtain ⟨υ, u1, u2⟩ := C_bb hv' d (k := 1) (by omega)
      obtain ⟨ρ, r1, r2⟩ := C_bb (hv'.es u2) d (k := 0) (by omega)
      refine ⟨ρ, ?_, (ht.tr u2).tr r2⟩
      rw [X_TO_share_e, C_isUpTo, xm_cI_s, xm_br_b h2, C_isBit, xm_cI_s, xm_br_b hw, xm_br_f h0, xm_br_f h1, show X_Shares_byBringing (d + 3) 1 τ = _ from u1, xm_cL_s, show X_Shares_byBringing (d + 3) 0 υ = _ from r1, xm_cL_s, F_tpart (d + 1) _ w (by omega), xm_cL_s]
    · obtain ⟨υ, u1, u2⟩ := C_fc (d' + 2) (h.es ht)
      have hv' := (hv.es ht).es u2.es
      obtain ⟨a, b, ha, hb, e1, e2⟩ := C_mbb hv' u2.ct d'
      have key : ∃ S0, X_Mod_byBringing (d' + 2) υ = some (none, AB S0 (lN a) (lN b)) ∧ Es σ S0 := ⟨_, e1, FB_es (ht.tr u2.es) _ _ _ _⟩
      obtain ⟨S0, f1, f2⟩ := key
      refine ⟨AB S0 (lN a) (lN b), ?_, AB_es f2 _ _⟩
      rw [X_Mod_shareOf_e, u1, xm_cV_s, xm_br_f h0, xm_br_f h1, f1, xm_cV_s, C_fin (d' + 1) _ w ha hb, e2 w]
theorem O_share {r : Nat} {σ : Sg} (h : RcA r σ) (d : Nat) (how w : Int32) : OpL (X_TO_share (d + 4) how w) (X_Mod_share (d + 4) how w) (Es σ) σ := by
  unfold OpL
  by_cases h2 : 0 ≤ how ∧ how ≤ 2
  rotate_left
  · refine ⟨BADL, σ, σ, ?_, ?_, Es.rf σ⟩
    · rw [X_TO_share_e, C_isUpTo, xm_cI_s, xm_br_n h2, C_refusal, xm_cL_s]; rfl
    · rw [X_Mod_share_e, C_in02, xm_cI_s, xm_br_n h2, C_no, xm_cL_s]; rfl
  by_cases hw : inR w 2
  rotate_left
  · refine ⟨BADL, σ, σ, ?_, ?_, Es.rf σ⟩
    · rw [X_TO_share_e, C_isUpTo, xm_cI_s, xm_br_b h2, C_isBit, xm_cI_s, xm_br_n hw, C_refusal, xm_cL_s]; rfl
    · rw [X_Mod_share_e, C_in02, xm_cI_s, xm_br_b h2, C_isTwo, xm_cI_s, xm_br_n hw, C_no, xm_cL_s]; rfl
  obtain ⟨V, a, b⟩ := C_sh h d d h2 hw
  obtain ⟨τ, t1, t2⟩ := a σ (Es.rf σ)
  obtain ⟨υ, u1, u2⟩ := b τ t2
  refine ⟨V, τ, υ, t1, ?_, u2⟩
  rw [X_Mod_share_e, C_in02, xm_cI_s, xm_br_b h2, C_isTwo, xm_cI_s, xm_br_b hw, u1, xm_cL_s]
-- bounds
theorem rT_le {kd kn : Nat → Nat} {tk : Nat → Bool} {k : Nat} {sh : Int32} {r : Nat} (hr : r ≤ 24) : sm (rT kd kn tk k sh) r ≤ 24 * 26771144400 := by
  have := sm_le (f := rT kd kn tk k sh) (c := 26771144400) (n := r) (fun i _ => by
    unfold rT
    split
    · exact Nat.div_le_self _ _
    · omega)
  exact Nat.le_trans this (Nat.mul_le_mul_right _ hr)
theorem rf_r {r : Nat} {bo kd kn tr : Nat → Nat} {ct tk : Nat → Bool} {σ : Sg} (h : VwA r bo kd kn tr ct tk σ) (more : Int32) : sm (rf kd kn tr tk more 99) r = sm (rT kd kn tk 1 more) r + sm (rT kd kn tk 0 (-more)) r ∧ sm (ra kd kn tr tk more 99) r = sm (rT kd kn tk 1 more) r := by
  have hr := h.1.1
  have key : ∀ i, i < r → rf kd kn tr tk more 99 i = rT kd kn tk 1 more i + rT kd kn tk 0 (-more) i ∧ ra kd kn tr tk more 99 i = rT kd kn tk 1 more i := by
    intro i hi
    obtain ⟨-, hkd, hkn, htr, -⟩ := h.2 i hi
    have q0 : tr i ≠ 99 := by omega
    unfold ra rf rT tl
    by_cases q1 : tk i = true ∧ kn i ≠ 0
    rotate_left
    · have e : ∀ k, ¬ (tk i && decide (kn i ≠ 0) && decide (kd i = k)) = true := by
        rintro k e
        simp only [Bool.and_eq_true, decide_eq_true_eq] at e
        exact q1 e.1
      rw [if_neg (fun e => q1 e.1), if_neg (e 1), if_neg (e 0)]
      simp
    have b1 : (tk i && decide (kn i ≠ 0)) = true := by rw [q1.1, decide_eq_true q1.2]; rfl
    have A : ∀ k, (tk i && decide (kn i ≠ 0) && decide (kd i = k)) = true ↔ kd i = k := by
      intro k
      rw [b1]
      simp
    rw [if_pos ⟨q1, q0⟩]
    rcases two hkd.1 with e | e
    · have e1 : ¬ kd i = 1 := by omega
      rw [if_neg (fun q => e1 ((A 1).mp q)), if_pos ((A 0).mpr e), if_neg e1, if_neg e1]
      simp
    · have e1 : ¬ kd i = 0 := by omega
      rw [if_pos ((A 1).mpr e), if_neg (fun q => e1 ((A 0).mp q)), if_pos e, if_pos e]
      simp
  constructor
  · rw [sm_c (fun i hi => (key i hi).1), sm_add]
  · rw [sm_c (fun i hi => (key i hi).2)]
theorem O_bounds {r : Nat} {σ : Sg} (h : RcA r σ) (d : Nat) (x e w : Int32) : OpL (X_TO_bounds (d + 4) x e w) (X_Mod_bounds (d + 4) x e w) (Es σ) σ := by
  unfold OpL
  have hr := h.1
  by_cases hx : 0 ≤ x ∧ x ≤ 5
  rotate_left
  · refine ⟨BADL, σ, σ, ?_, ?_, Es.rf σ⟩
    · rw [X_TO_bounds_e, C_isUpTo, xm_cI_s, xm_br_n hx, C_refusal, xm_cL_s]; rfl
    · rw [X_Mod_bounds_e, C_in05, xm_cI_s, xm_br_n hx, C_no, xm_cL_s]; rfl
  by_cases he : inR e 2
  rotate_left
  · refine ⟨BADL, σ, σ, ?_, ?_, Es.rf σ⟩
    · rw [X_TO_bounds_e, C_isUpTo, xm_cI_s, xm_br_b hx, C_isBit, xm_cI_s, xm_br_n he, C_refusal, xm_cL_s]; rfl
    · rw [X_Mod_bounds_e, C_in05, xm_cI_s, xm_br_b hx, C_isTwo, xm_cI_s, xm_br_n he, C_no, xm_cL_s]; rfl
  by_cases hw : inR w 2
  rotate_left
  · refine ⟨BADL, σ, σ, ?_, ?_, Es.rf σ⟩
    · rw [X_TO_bounds_e, C_isUpTo, xm_cI_s, xm_br_b hx, C_isBit, xm_cI_s, xm_br_b he, C_isBit, xm_cI_s, xm_br_n hw, C_refusal, xm_cL_s]; rfl
    · rw [X_Mod_bounds_e, C_in05, xm_cI_s, xm_br_b hx, C_isTwo, xm_cI_s, xm_br_b he, C_isTwo, xm_cI_s, xm_br_n hw, C_no, xm_cL_s]; rfl
  obtain ⟨bo, kd, kn, tr, ct, tk, hv⟩ := h.view
  obtain ⟨υ, u1, u2⟩ := C_fc (d + 3) h
  have hv' := hv.es u2.es
  have fin : ∀ more : Int32, ∃ V, xm_cL (X_Shares_rounded (d + 3) 1 more σ) (fun r18 σ17 => xm_cL (X_Shares_rounded (d + 3) 0 (-more) σ17) (fun r20 σ19 => xm_cL (X_TO_part (d + 3) r18 r20 w σ19) (fun r22 σ21 => some (some (.long r22), σ21)))) = some (some (.long V), σ) ∧ ∃ ρ, xm_cV (X_Mod_byTies (d + 3) more (-1) υ) (fun σ17 => xm_br ((lg_cmp (σ17.2 39 38) 0) = 0) (xm_cL (X_Mod_no (d + 3) (-3) σ17) (fun r21 σ20 => some (some (.long r21), σ20))) (xm_cL (X_Mod_part (d + 3) (σ17.2 39 37) (σ17.2 39 38) w σ17) (fun r19 σ18 => some (some (.long r19), σ18)))) = some (some (.long V), ρ) ∧ Es σ ρ := by
    intro more
    have l1 := rT_le (kd := kd) (kn := kn) (tk := tk) (k := 1) (sh := more) hr
    have l0 := rT_le (kd := kd) (kn := kn) (tk := tk) (k := 0) (sh := -more) hr
    obtain ⟨s1, s2⟩ := rf_r hv more
    refine ⟨frN (sm (rT kd kn tk 1 more) r) (sm (rT kd kn tk 1 more) r + sm (rT kd kn tk 0 (-more)) r) w, ?_, _, ?_, AB_es u2.es (lN (sm (ra kd kn tr tk more 99) r)) (lN (sm (rf kd kn tr tk more 99) r))⟩
    · rw [show X_Shares_rounded (d + 3) 1 more σ = _ from C_rnd hv (d + 1) (k := 1) more (by omega), xm_cL_s, show X_Shares_rounded (d + 3) 0 (-more) σ = _ from C_rnd hv (d + 1) (k := 0) (-more) (by omega), xm_cL_s, F_tpart (d + 1) _ w (by omega), xm_cL_s]
    · rw [C_mbyT hv' u2.ct (d + 2) (but_n hv'), xm_cV_s, C_fin (d + 2) _ w (by omega) (by omega), s1, s2]
  rw [X_TO_bounds_e, C_isUpTo, xm_cI_s, xm_br_b hx, C_isBit, xm_cI_s, xm_br_b he, C_isBit, xm_cI_s, xm_br_b hw]
  by_cases q : e = 0
  · obtain ⟨V, a, ρ, b, c⟩ := fin x
    refine ⟨V, σ, ρ, ?_, ?_, c⟩
    · rw [xm_br_t q]; exact a
    · rw [X_Mod_bounds_e, C_in05, xm_cI_s, xm_br_b hx, C_isTwo, xm_cI_s, xm_br_b he, C_isTwo, xm_cI_s, xm_br_b hw, u1, xm_cV_s, xm_br_t q]; exact b
  · obtain ⟨V, a, ρ, b, c⟩ := fin (-x)
    refine ⟨V, σ, ρ, ?_, ?_, c⟩
    · rw [xm_br_f q]; exact a
    · rw [X_Mod_bounds_e, C_in05, xm_cI_s, xm_br_b hx, C_isTwo, xm_cI_s, xm_br_b he, C_isTwo, xm_cI_s, xm_br_b hw, u1, xm_cV_s, xm_br_f q]; exact b
-- forgot
def wv (P S W : Nat) : Nat → Nat
  | 0 => 0
  | k + 1 => (W ^ k - wv P S W k) * P + wv P S W k * S
theorem wv_le {P S W : Nat} (hP : P ≤ W) (hS : S ≤ W) : ∀ k, wv P S W k ≤ W ^ k
  | 0 => Nat.zero_le _
  | k + 1 => by
    have ih := wv_le hP hS k
    show (W ^ k - wv P S W k) * P + wv P S W k * S ≤ W ^ (k + 1)
    have h1 : (W ^ k - wv P S W k) * P ≤ (W ^ k - wv P S W k) * W := Nat.mul_le_mul_left _ hP
    have h2 : wv P S W k * S ≤ wv P S W k * W := Nat.mul_le_mul_left _ hS
    have h3 : (W ^ k - wv P S W k) * W + wv P S W k * W = W ^ k * W := by rw [← Nat.add_mul, Nat.sub_add_cancel ih]
    rw [Nat.pow_succ]
    omega
theorem wv_0 {S W : Nat} : ∀ k, wv 0 S W k = 0
  | 0 => rfl
  | k + 1 => by
    show (W ^ k - wv 0 S W k) * 0 + wv 0 S W k * S = 0
    rw [wv_0 k]
    simp
theorem C_ww (d : Nat) {W k : Nat} {σ : Sg} {z : Nat} (hk : k < 100) : ∀ (m i : Nat), i + m = k → X_Shares_wholeWave_39 d (nI k) (lN W) (lN (z * W ^ i)) (nI i) σ = some (some (.long (lN (z * W ^ k))), σ)
  | 0, i, hi => by
    rw [X_Shares_wholeWave_39_e, xm_br_t (nI_le (by omega) (by omega)), show i = k by omega]
  | m + 1, i, hi => by
    rw [X_Shares_wholeWave_39_e, xm_br_f (nI_ge (by omega) (by omega)), lN_mul, nI_1, Nat.mul_assoc, ← Nat.pow_succ]
    exact C_ww d hk m (i + 1) (by omega)
theorem O_forgot {r : Nat} {σ : Sg} (h : RcA r σ) (d : Nat) (x w : Int32) : OpL (X_TO_forgot (d + 4) x w) (X_Mod_forgot (d + 4) x w) (Es σ) σ := by
  unfold OpL
  have hr := h.1
  obtain ⟨bo, kd, kn, tr, ct, tk, hv⟩ := h.view
  have h9 := C_in32 (d + 3) x (-1) 6 σ
  rw [show ((-1 : Int32).toInt64) = -1 from rfl, show ((6 : Int32).toInt64) = 6 from rfl] at h9
  have hk : (-1 ≤ x ∧ x ≤ 6) ↔ (x = -1 ∨ (0 ≤ x ∧ x ≤ 6)) := by
    rw [fa_le, fa_le, fa_le, fa_eq]
    show (-1 : Int) ≤ x.toInt ∧ x.toInt ≤ 6 ↔ x.toInt = -1 ∨ ((0 : Int) ≤ x.toInt ∧ x.toInt ≤ 6)
    omega
  rw [bI_c hk] at h9
  by_cases hx : x = -1 ∨ (0 ≤ x ∧ x ≤ 6)
  rotate_left
  · refine ⟨BADL, σ, σ, ?_, ?_, Es.rf σ⟩
    · rw [X_TO_forgot_e, xm_br_f (fun q => hx (Or.inl q)), C_isUpTo, xm_cI_s, xm_br_n (fun q => hx (Or.inr q)), C_refusal, xm_cL_s]; rfl
    · rw [X_Mod_forgot_e, h9, xm_cI_s, xm_br_n hx, C_no, xm_cL_s]; rfl
  have cls : X_TO_forgot (d + 4) x w σ = xm_br (bI (inR w 2) = 0) (some (some (.long BADL), σ)) (xm_cV (X_Shares_countBringing (d + 3) σ) (fun σ24 => xm_br (x = (-1)) (xm_cL (X_Shares_pull (d + 3) 1 σ24) (fun r32 σ31 => xm_cL (X_Shares_pull (d + 3) 0 σ31) (fun r34 σ33 => xm_cL (X_TO_part (d + 3) r32 r34 w σ33) (fun r36 σ35 => some (some (.long r36), σ35))))) (xm_cL (X_Shares_ofWave (d + 3) x σ24) (fun r26 σ25 => xm_cL (X_Shares_wholeWave (d + 3) x σ25) (fun r28 σ27 => xm_cL (X_TO_fraction (d + 3) r26 r28 w σ27) (fun r30 σ29 => some (some (.long r30), σ29))))))) := by
    rw [X_TO_forgot_e, C_isBit, xm_cI_s, C_refusal, xm_cL_s]
    by_cases q : x = -1
    · rw [xm_br_t q]; rfl
    · rw [xm_br_f q, C_isUpTo, xm_cI_s, xm_br_b (hx.resolve_left q), C_isBit, xm_cI_s, C_refusal, xm_cL_s]; rfl
  by_cases hw : inR w 2
  rotate_left
  · refine ⟨BADL, σ, σ, ?_, ?_, Es.rf σ⟩
    · rw [cls, xm_br_n hw]
    · rw [X_Mod_forgot_e, h9, xm_cI_s, xm_br_b hx, C_isTwo, xm_cI_s, xm_br_n hw, C_no, xm_cL_s]; rfl
  obtain ⟨τ, t1, t2⟩ := C_cb hv (d + 2)
  have hv1 := hv.es t2.es
  obtain ⟨υ, u1, u2⟩ := C_fc (d + 3) (h.es t2.es)
  have hv2 := hv1.es u2.es
  have hp := ps_le (r := r) (bo := bo) (kd := kd) (tk := tk)
  have hN : (ps bo kd tk r 0 0 + ps bo kd tk r 0 1) * (ps bo kd tk r 1 0 + ps bo kd tk r 1 1) ≤ 144 := by
    generalize ps bo kd tk r 0 0 + ps bo kd tk r 0 1 = A at hp ⊢
    generalize ps bo kd tk r 1 0 + ps bo kd tk r 1 1 = B at hp ⊢
    have key : ∀ A, A < 25 → ∀ B, B < 25 → A + B ≤ 24 → A * B ≤ 144 := by decide +kernel
    exact key A (by omega) B (by omega) (by omega)
  have p1 : pl bo kd tk r 1 = ps bo kd tk r 0 1 * (ps bo kd tk r 1 0 + ps bo kd tk r 1 1) := if_pos rfl
  have p0 : pl bo kd tk r 0 = ps bo kd tk r 1 0 * (ps bo kd tk r 0 0 + ps bo kd tk r 0 1) := if_neg (by decide)
  have hP : pl bo kd tk r 1 ≤ (ps bo kd tk r 0 0 + ps bo kd tk r 0 1) * (ps bo kd tk r 1 0 + ps bo kd tk r 1 1) := by rw [p1]; exact Nat.mul_le_mul_right _ (by omega)
  have hQ : pl bo kd tk r 0 ≤ (ps bo kd tk r 0 0 + ps bo kd tk r 0 1) * (ps bo kd tk r 1 0 + ps bo kd tk r 1 1) := by rw [p0, Nat.mul_comm]; exact Nat.mul_le_mul_left _ (by omega)
  have hS : ps bo kd tk r 1 1 * (ps bo kd tk r 0 0 + ps bo kd tk r 0 1) ≤ (ps bo kd tk r 0 0 + ps bo kd tk r 0 1) * (ps bo kd tk r 1 0 + ps bo kd tk r 1 1) := by rw [Nat.mul_comm]; exact Nat.mul_le_mul_left _ (by omega)
  have hSS : (ps bo kd tk r 0 0 + ps bo kd tk r 0 1) * (ps bo kd tk r 1 0 + ps bo kd tk r 1 1) - pl bo kd tk r 0 = ps bo kd tk r 1 1 * (ps bo kd tk r 0 0 + ps bo kd tk r 0 1) := by
    rw [p0, Nat.mul_add, Nat.mul_comm _ (ps bo kd tk r 1 0), Nat.add_sub_cancel_left, Nat.mul_comm]
  generalize hSt : FB υ (nI (ps bo kd tk r 0 0 + ps bo kd tk r 0 1)) (nI (ps bo kd tk r 1 0 + ps bo kd tk r 1 1)) (nI (ps bo kd tk r 0 1)) (nI (ps bo kd tk r 1 0)) = S
  obtain ⟨v1, v2, v3, v4⟩ := FB_v υ (nI (ps bo kd tk r 0 0 + ps bo kd tk r 0 1)) (nI (ps bo kd tk r 1 0 + ps bo kd tk r 1 1)) (nI (ps bo kd tk r 0 1)) (nI (ps bo kd tk r 1 0))
  have fb := C_fb hv2 u2.ct (d + 2)
  rw [hSt] at v1 v2 v3 v4 fb
  have hES : Es σ S := by rw [← hSt]; exact FB_es (t2.es.tr u2.es) _ _ _ _
  have mod : X_Mod_forgot (d + 4) x w τ = xm_br (nI (ps bo kd tk r 0 0 + ps bo kd tk r 0 1) = 0) (some (some (.long NOTL), S)) (xm_br (nI (ps bo kd tk r 1 0 + ps bo kd tk r 1 1) = 0) (some (some (.long NOTL), S)) (xm_br (x = -1) (xm_br ((lg_cmp (lN (pl bo kd tk r 1 + pl bo kd tk r 0)) 0) = 0) (some (some (.long NOTL), S)) (xm_cL (X_Mod_part (d + 3) (lN (pl bo kd tk r 1)) (lN (pl bo kd tk r 1 + pl bo kd tk r 0)) w S) (fun r12 σ11 => some (some (.long r12), σ11)))) (X_Mod_forgot_134 (d + 4) x w (lN (pl bo kd tk r 1)) (lN (pl bo kd tk r 0)) 1 0 (lN ((ps bo kd tk r 0 0 + ps bo kd tk r 0 1) * (ps bo kd tk r 1 0 + ps bo kd tk r 1 1))) 0 S))) := by
    have h9' := C_in32 (d + 3) x (-1) 6 τ
    rw [show ((-1 : Int32).toInt64) = -1 from rfl, show ((6 : Int32).toInt64) = 6 from rfl, bI_c hk] at h9'
    rw [X_Mod_forgot_e, h9', xm_cI_s, xm_br_b hx, C_isTwo, xm_cI_s, xm_br_b hw, u1, xm_cV_s, fb, xm_cV_s, C_no, xm_cL_s, v1, v2, v3, v4, nI_l (by omega), nI_l (by omega), nI_l (by omega), nI_l (by omega), lN_mul, lN_mul, lN_mul, lN_add, p1, p0]
    rfl
  rw [cls, xm_br_b hw, t1, xm_cV_s]
  have l1 := pl_le (bo := bo) (kd := kd) (tk := tk) hr 1
  have l0 := pl_le (bo := bo) (kd := kd) (tk := tk) hr 0
  by_cases q : x = -1
  · refine ⟨frN (pl bo kd tk r 1) (pl bo kd tk r 1 + pl bo kd tk r 0) w, τ, S, ?_, ?_, hES⟩
    · rw [xm_br_t q, show X_Shares_pull (d + 3) 1 τ = _ from C_pull hr t2 (d + 3) (k := 1) (by omega), xm_cL_s, show X_Shares_pull (d + 3) 0 τ = _ from C_pull hr t2 (d + 3) (k := 0) (by omega), xm_cL_s, F_tpart (d + 1) _ w (by omega), xm_cL_s]
    · rw [mod]
      have z : pl bo kd tk r 1 + pl bo kd tk r 0 = 0 → frN (pl bo kd tk r 1) (pl bo kd tk r 1 + pl bo kd tk r 0) w = NOTL := fun e => by rw [e]; unfold frN; rw [if_pos rfl]
      by_cases a0 : ps bo kd tk r 0 0 + ps bo kd tk r 0 1 = 0
      · rw [a0, xm_br_t nI_0, z (by rw [p1, p0, a0, show ps bo kd tk r 0 1 = 0 by omega]; simp)]
      rw [xm_br_f (nI_ne0 (by omega) (by omega))]
      by_cases b0 : ps bo kd tk r 1 0 + ps bo kd tk r 1 1 = 0
      · rw [b0, xm_br_t nI_0, z (by rw [p1, p0, b0, show ps bo kd tk r 1 0 = 0 by omega]; simp)]
      rw [xm_br_f (nI_ne0 (by omega) (by omega)), xm_br_t q]
      by_cases c0 : pl bo kd tk r 1 + pl bo kd tk r 0 = 0
      · rw [xm_br_t ((l_eq0 (by omega)).mpr c0), z c0]
      · rw [xm_br_f (fun e => c0 ((l_eq0 (by omega)).mp e)), F_part (d + 2) _ w (by omega) (by omega) c0, xm_cL_s]
  · obtain ⟨k, -, k6, rfl⟩ := up_n (a := 0) (b := 6) (by omega) (hx.resolve_left q) (by omega)
    generalize hWd : (ps bo kd tk r 0 0 + ps bo kd tk r 0 1) * (ps bo kd tk r 1 0 + ps bo kd tk r 1 1) = W at hN hP hQ hS hSS mod
    generalize hPd : pl bo kd tk r 1 = P at *
    generalize hQd : pl bo kd tk r 0 = Q at *
    generalize hSd : ps bo kd tk r 1 1 * (ps bo kd tk r 0 0 + ps bo kd tk r 0 1) = St at *
    have hpow : ∀ i, i ≤ 6 → W ^ i ≤ 144 ^ 6 := fun i hi => Nat.le_trans (Nat.pow_le_pow_left hN i) (Nat.pow_le_pow_right (by omega) hi)
    have h144 : 144 ^ 6 = 8916100448256 := by decide
    have hwv : ∀ i, i ≤ 6 → wv P St W i ≤ 144 ^ 6 := fun i hi => Nat.le_trans (wv_le hP hS i) (hpow i hi)
    -- z is 1, or 0 where the whole is 0
    have hz : ∃ z, z ≤ 1 ∧ (W = 0 → z = 0) ∧ (W ≠ 0 → z = 1) ∧ xm_lmin 1 (lN W) = lN z := by
      unfold xm_lmin
      by_cases w0 : W = 0
      · refine ⟨0, by omega, fun _ => rfl, fun e => absurd w0 e, ?_⟩
        rw [w0]; decide
      · refine ⟨1, by omega, fun e => absurd e w0, fun _ => rfl, ?_⟩
        rw [if_neg]
        · rfl
        · show ¬ lN W < lN 1
          rw [pk_lLT (by omega) (by omega)]; omega
    obtain ⟨z, z1, z2, z3, z4⟩ := hz
    have w39 : ∀ dd i, i < 100 → X_Shares_wholeWave dd (nI i) τ = some (some (.long (lN (z * W ^ i))), τ) := by
      intro dd i hi
      rw [X_Shares_wholeWave_e, show τ.1 20 0 = _ from t2.2.2 0 0 (by omega) (by omega), show τ.1 20 1 = _ from t2.2.2 0 1 (by omega) (by omega), show τ.1 20 2 = _ from t2.2.2 1 0 (by omega) (by omega), show τ.1 20 3 = _ from t2.2.2 1 1 (by omega) (by omega), nI_add, nI_add, pk_mul, hWd, nI_l (by omega), z4]
      have := C_ww dd (W := W) (k := i) (σ := τ) (z := z) hi i 0 (by omega)
      rw [Nat.pow_zero, Nat.mul_one] at this
      exact this
    have ow : ∀ (m i : Nat), i + m = k → X_Shares_ofWave_29 (d + 3) (nI k) (lN St) (lN (wv P St W i)) (nI i) τ = some (some (.long (lN (wv P St W k))), τ) := by
      intro m
      induction m with
      | zero =>
        intro i hi
        rw [X_Shares_ofWave_29_e, xm_br_t (nI_le (by omega) (by omega)), show i = k by omega]
      | succ m ih =>
        intro i hi
        rw [X_Shares_ofWave_29_e, xm_br_f (nI_ge (by omega) (by omega)), w39 _ i (by omega), xm_cL_s, show X_Shares_pull (d + 2) 1 τ = _ from C_pull hr t2 (d + 2) (k := 1) (by omega), xm_cL_s, hPd]
        have e : (lN (z * W ^ i) - lN (wv P St W i)) * lN P + lN (wv P St W i) * lN St = lN (wv P St W (i + 1)) := by
          by_cases w0 : W = 0
          · have p00 : P = 0 := by omega
            rw [p00, wv_0, wv_0, lN_0]; simp
          · rw [z3 w0, Nat.one_mul, lN_sub (wv_le hP hS i), lN_mul, lN_mul, lN_add]
            rfl
        rw [e, nI_1]
        exact ih (i + 1) (by omega)
    have of0 : X_Shares_ofWave (d + 3) (nI k) τ = some (some (.long (lN (wv P St W k))), τ) := by
      rw [X_Shares_ofWave_e, show τ.1 20 0 = _ from t2.2.2 0 0 (by omega) (by omega), show τ.1 20 1 = _ from t2.2.2 0 1 (by omega) (by omega), show τ.1 20 3 = _ from t2.2.2 1 1 (by omega) (by omega), nI_add, nI_l (by omega), nI_l (by omega), lN_mul, hSd]
      exact ow k 0 (by omega)
    have hzw : z * W ^ k ≤ 144 ^ 6 := Nat.le_trans (Nat.mul_le_mul z1 (hpow k k6)) (by omega)
    refine ⟨frN (wv P St W k) (z * W ^ k) w, τ, S, ?_, ?_, hES⟩
    · rw [xm_br_f q, of0, xm_cL_s, w39 _ k (by omega), xm_cL_s, F_frac (d + 2) _ w (by have := hwv k k6; omega) (by omega), xm_cL_s]
    · rw [mod]
      have zn : W = 0 → frN (wv P St W k) (z * W ^ k) w = NOTL := fun e => by rw [z2 e, Nat.zero_mul]; unfold frN; rw [if_pos rfl]
      by_cases a0 : ps bo kd tk r 0 0 + ps bo kd tk r 0 1 = 0
      · rw [a0, xm_br_t nI_0, zn (by rw [← hWd, a0]; simp)]
      rw [xm_br_f (nI_ne0 (by omega) (by omega))]
      by_cases b0 : ps bo kd tk r 1 0 + ps bo kd tk r 1 1 = 0
      · rw [b0, xm_br_t nI_0, zn (by rw [← hWd, b0]; simp)]
      rw [xm_br_f (nI_ne0 (by omega) (by omega)), xm_br_f q]
      have w0 : W ≠ 0 := by rw [← hWd]; exact Nat.mul_ne_zero a0 b0
      have f134 : ∀ (m i : Nat), i + m = k → X_Mod_forgot_134 (d + 4) (nI k) w (lN P) (lN Q) (lN (W ^ i)) (lN (wv P St W i)) (lN W) (nI i) S = some (some (.long (frN (wv P St W k) (z * W ^ k) w)), S) := by
        intro m
        induction m with
        | zero =>
          intro i hi
          have e : i = k := by omega
          subst e
          have hp1 := hpow i k6
          have hp2 := hwv i k6
          rw [X_Mod_forgot_134_e, xm_br_t (nI_le (by omega) (by omega)), F_part (d + 2) _ w (by omega) (by omega) (Nat.ne_of_gt (Nat.pow_pos (by omega))), xm_cL_s, z3 w0, Nat.one_mul]
        | succ m ih =>
          intro i hi
          rw [X_Mod_forgot_134_e, xm_br_f (nI_ge (by omega) (by omega)), lN_sub (wv_le hP hS i), lN_sub hQ, hSS, lN_mul, lN_mul, lN_mul, lN_add, nI_1]
          exact ih (i + 1) (by omega)
      exact f134 k 0 (by omega)
