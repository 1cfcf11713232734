/-! RECORDS: set, record, wave -/
def stG (n : Nat) (w x : Int32) : Prop := (w = 0 ∧ (x = -1 ∨ inR x n)) ∨ (w = 1 ∧ 1 ≤ x ∧ x ≤ 7) ∨ (w = 2 ∧ 0 ≤ x ∧ x ≤ 99) ∨ (w = 3 ∧ 0 ≤ x ∧ x ≤ 9)
theorem stG_0 {n : Nat} {x : Int32} : stG n 0 x ↔ (x = -1 ∨ inR x n) := by
  unfold stG
  constructor
  · rintro (q | q | q | q)
    · exact q.2
    · exact absurd q.1 (by decide)
    · exact absurd q.1 (by decide)
    · exact absurd q.1 (by decide)
  · intro q; exact Or.inl ⟨rfl, q⟩
theorem stG_1 {n : Nat} {x : Int32} : stG n 1 x ↔ (1 ≤ x ∧ x ≤ 7) := by
  unfold stG
  constructor
  · rintro (q | q | q | q)
    · exact absurd q.1 (by decide)
    · exact q.2
    · exact absurd q.1 (by decide)
    · exact absurd q.1 (by decide)
  · intro q; exact Or.inr (Or.inl ⟨rfl, q⟩)
theorem stG_2 {n : Nat} {x : Int32} : stG n 2 x ↔ (0 ≤ x ∧ x ≤ 99) := by
  unfold stG
  constructor
  · rintro (q | q | q | q)
    · exact absurd q.1 (by decide)
    · exact absurd q.1 (by decide)
    · exact q.2
    · exact absurd q.1 (by decide)
  · intro q; exact Or.inr (Or.inr (Or.inl ⟨rfl, q⟩))
theorem stG_3 {n : Nat} {x : Int32} : stG n 3 x ↔ (0 ≤ x ∧ x ≤ 9) := by
  unfold stG
  constructor
  · rintro (q | q | q | q)
    · exact absurd q.1 (by decide)
    · exact absurd q.1 (by decide)
    · exact absurd q.1 (by decide)
    · exact q.2
  · intro q; exact Or.inr (Or.inr (Or.inr ⟨rfl, q⟩))
theorem C_mset (d : Nat) {n : Nat} (w x : Int32) {σ : Sg} (h : σ.1 39 5 = nI n) (hn : 1 ≤ n ∧ n ≤ 9) : X_Mod_set (d + 1) w x σ = X_Mod_set_78 (d + 1) w x (bI (stG n w x)) σ := by
  rw [X_Mod_set_e, h]
  by_cases h0 : w = 0
  · subst h0
    have h9 := C_in32 d x (-1) (nI n - 1) σ
    rw [show ((-1 : Int32).toInt64) = -1 from rfl] at h9
    rw [xm_br_t rfl, h9, xm_cI_s, bI_c]
    rw [stG_0, inR_iff (by omega), nI_m1 (by omega), fa_le, fa_le, fa_eq, nI_toInt (by omega)]
    show (-1 : Int) ≤ x.toInt ∧ _ ↔ x.toInt = -1 ∨ _
    omega
  rw [xm_br_f h0]
  by_cases h1 : w = 1
  · subst h1
    have h9 := C_in32 d x 1 7 σ
    rw [show ((1 : Int32).toInt64) = 1 from rfl, show ((7 : Int32).toInt64) = 7 from rfl] at h9
    rw [xm_br_t rfl, h9, xm_cI_s, bI_c stG_1.symm]
  rw [xm_br_f h1]
  by_cases h2 : w = 2
  · subst h2
    have h9 := C_in32 d x 0 99 σ
    rw [show ((0 : Int32).toInt64) = 0 from rfl, show ((99 : Int32).toInt64) = 99 from rfl] at h9
    rw [xm_br_t rfl, h9, xm_cI_s, bI_c stG_2.symm]
  rw [xm_br_f h2]
  by_cases h3 : w = 3
  · subst h3
    have h9 := C_in32 d x 0 9 σ
    rw [show ((0 : Int32).toInt64) = 0 from rfl, show ((9 : Int32).toInt64) = 9 from rfl] at h9
    rw [xm_br_t rfl, h9, xm_cI_s]
    by_cases q : 0 ≤ x ∧ x ≤ 9
    · rw [xm_br_b q, bI_t (stG_3.mpr q)]
    · rw [xm_br_n q, bI_f (fun a => q (stG_3.mp a))]
  rw [xm_br_f h3, bI_f]
  rintro (q | q | q | q)
  · exact h0 q.1
  · exact h1 q.1
  · exact h2 q.1
  · exact h3 q.1
def SeP (n : Nat) (σ : Sg) : Sg → Prop := fun τ => (∃ s L, StA n s L τ) ∧ (∃ r, RcA r τ) ∧ Ex (0 :: WRc) (8 :: 9 :: WRm) σ τ
theorem up_n {x : Int32} {a b : Nat} (hb : b < 2 ^ 31) (h : nI a ≤ x ∧ x ≤ nI b) (ha : a < 2 ^ 31) : ∃ k, a ≤ k ∧ k ≤ b ∧ x = nI k := by
  rw [fa_le, fa_le, nI_toInt ha, nI_toInt hb] at h
  refine ⟨x.toInt.toNat, by omega, by omega, ?_⟩
  apply Int32.toInt_inj.mp
  rw [nI_toInt (by omega)]
  omega
theorem O_set {n K r L : Nat} {T : Nat → Nat} {s : Int32} {σ : Sg} (h : NtA n T K σ) (hs : StA n s L σ) (hc : RcA r σ) (d : Nat) (w x : Int32) : OpI (X_TO_set (d + 4) w x) (X_Mod_set (d + 4) w x) (SeP n σ) σ := by
  unfold OpI
  have hn := h.1
  have hr := hc.1
  have hm : ∀ τ : Sg, τ.1 39 5 = nI n → stG n w x → X_Mod_set (d + 4) w x τ = xm_br (w = 0) (some (some (.int (τ.1 39 8)), xm_sI τ 39 8 x)) (xm_br (w = 1) (some (some (.int (τ.1 39 9)), xm_sI τ 39 9 x)) (xm_br (w = 2) (some (some (.int (τ.1 39 10)), xm_sI τ 39 10 x)) (some (some (.int (τ.1 39 11)), xm_sI τ 39 11 x)))) := by
    intro τ e hg
    rw [C_mset _ _ _ e hn, X_Mod_set_78_e, xm_br_b hg]
    simp only [X_Mod_set_125_e, X_Mod_set_170_e]
    by_cases h0 : w = 0
    · simp only [xm_br_t h0]
    simp only [xm_br_f h0]
    by_cases h1 : w = 1
    · simp only [xm_br_t h1]
    simp only [xm_br_f h1]
    by_cases h2 : w = 2
    · simp only [xm_br_t h2]
    simp only [xm_br_f h2]
  have e1 : X_TO_set (d + 4) w x σ = xm_br (bI (stG n w x) = 0) (some (some (.int (-5)), σ)) (xm_cI (X_TO_setting (d + 3) w σ) (fun r4 σ3 => xm_br (w = 0) (some (some (.int r4), (xm_sI σ3 0 8 x))) (xm_br (w = 1) (some (some (.int r4), (xm_sI σ3 0 9 x))) (xm_br (w = 2) (xm_cV (X_Records_look (d + 3) x σ3) (fun σ5 => some (some (.int r4), σ5))) (some (some (.int r4), (xm_sI σ3 9 12 x))))))) := by
    rw [X_TO_set_e, C_isSet _ _ _ h.2.1 hn.2, xm_cI_s]
    rfl
  rw [e1]
  by_cases hg : stG n w x
  rotate_left
  · refine ⟨-5, σ, σ, ?_, ?_, ⟨s, L, hs⟩, ⟨r, hc⟩, Ex.rf _ _ _⟩
    · rw [xm_br_n hg]
    · rw [C_mset _ _ _ h.2.2.1 hn, X_Mod_set_78_e, xm_br_n hg]
  rw [xm_br_b hg, X_TO_setting_e]
  by_cases h0 : w = 0
  · subst h0
    rw [xm_br_t rfl, xm_cI_s, xm_br_t rfl]
    refine ⟨_, _, xm_sI (xm_sI σ 0 8 x) 39 8 x, rfl, ?_, ⟨x, L, ?_⟩, ⟨r, ?_⟩, ((Ex.rf _ _ _).sI (by decide) (by decide)).sM (by decide)⟩
    · rw [hm _ (by simp [xm_sI, h.2.2.1]) hg, xm_br_t rfl]
      simp [xm_sI, hs.1, hs.2.1]
    · refine ⟨by simp [xm_sI, upd], by simp [xm_sI, upd], stG_0.mp hg, ?_, ?_, hs.2.2.2.2.2⟩
      · simp [xm_sI, upd, hs.2.2.2.1]
      · simp [xm_sI, upd, hs.2.2.2.2.1]
    · exact hc.ex (W := [0]) (WM := [8]) (((Ex.rf _ _ _).sI (by decide) (by decide)).sM (by decide)) (by decide) (by decide)
  rw [xm_br_f h0]
  by_cases h1 : w = 1
  · subst h1
    rw [xm_br_t rfl, xm_cI_s, xm_br_f h0, xm_br_t rfl]
    obtain ⟨k, k1, k2, rfl⟩ := up_n (a := 1) (b := 7) (by omega) (stG_1.mp hg) (by omega)
    refine ⟨_, _, xm_sI (xm_sI σ 0 9 (nI k)) 39 9 (nI k), rfl, ?_, ⟨s, k, ?_⟩, ⟨r, ?_⟩, ((Ex.rf _ _ _).sI (by decide) (by decide)).sM (by decide)⟩
    · rw [hm _ (by simp [xm_sI, h.2.2.1]) hg, xm_br_f h0, xm_br_t rfl]
      simp [xm_sI, hs.2.2.2.1, hs.2.2.2.2.1]
    · refine ⟨by simp [xm_sI, upd, hs.1], by simp [xm_sI, upd, hs.2.1], hs.2.2.1, ?_, ?_, k1, k2⟩
      · simp [xm_sI, upd]
      · simp [xm_sI, upd]
    · exact hc.ex (W := [0]) (WM := [9]) (((Ex.rf _ _ _).sI (by decide) (by decide)).sM (by decide)) (by decide) (by decide)
  rw [xm_br_f h1]
  by_cases h2 : w = 2
  · subst h2
    rw [xm_br_t rfl, xm_cI_s, xm_br_f h0, xm_br_f h1, xm_br_t rfl]
    obtain ⟨k, k1, k2, rfl⟩ := up_n (a := 0) (b := 99) (by omega) (stG_2.mp hg) (by omega)
    obtain ⟨τ, t1, t2, t3, t4, t5, t6⟩ := C_look (d + 3) (r := r) (nI k) hr σ hc.2.1 hc.br
    rw [t1, xm_cV_s]
    have m39 : τ.1 39 = σ.1 39 := t2 39 (by decide) (by decide)
    refine ⟨_, τ, xm_sI τ 39 10 (nI k), rfl, ?_, ⟨s, L, ?_⟩, ⟨r, ?_⟩, ?_⟩
    · rw [hm _ (by rw [m39]; exact h.2.2.1) hg, xm_br_f h0, xm_br_f h1, xm_br_t rfl, m39, hc.2.2.2.2.1.1]
    · refine ⟨?_, ?_, hs.2.2.1, ?_, ?_, hs.2.2.2.2.2⟩
      · simp [xm_sI, t2, hs.1]
      · simp [xm_sI, upd, m39, hs.2.1]
      · simp [xm_sI, t2, hs.2.2.2.1]
      · simp [xm_sI, upd, m39, hs.2.2.2.2.1]
    · refine hc.look ?_ ?_ ?_ ?_ ?_ ?_ ?_ ?_ ?_ ?_ ?_
      · intro c hc
        simp only [List.mem_cons, List.not_mem_nil, or_false] at hc
        rcases hc with rfl | rfl | rfl | rfl | rfl | rfl | rfl | rfl | rfl | rfl | rfl | rfl | rfl | rfl <;> simp [xm_sI, t2]
      · intro j hj
        have := (hc.2.2.2.2.2.2.1 j hj).2.2.2.2.1
        simpa [xm_sI, upd, t2] using this
      · intro j hj
        have := t6 j hj
        simp [xm_sI, upd, t2, t4] at this ⊢
        exact this
      · simp [xm_sI, t3, hc.2.1]
      · simp [xm_sI, upd, m39, hc.2.2.1]
      · simp [xm_sI, upd, t3, m39, hc.2.2.2.1.1]
      · simp [xm_sI, upd, t3]; exact hc.2.2.2.1.2
      · simp [xm_sI, upd, t4]
      · simp [xm_sI, upd, t4]; exact ⟨k, by omega, rfl⟩
      · simp [xm_sI, upd, t3]
      · simp [xm_sI, upd, m39]
    · refine ⟨fun c hc h9 => ?_, fun j hj => ?_, ?_⟩
      · have hc' : ∀ k, k ∈ 0 :: WRc → c ≠ k := fun k hk e => hc (e ▸ hk)
        simp [xm_sI, t2 c (hc' 18 (by decide)) (hc' 9 (by decide)), h9]
      · have hj' : ∀ k, k ∈ 8 :: 9 :: WRm → j ≠ k := fun k hk e => hj (e ▸ hk)
        simp [xm_sI, upd, m39, hj' 10 (by decide)]
      · show τ.2 = σ.2
        exact t5
  rw [xm_br_f h2, xm_cI_s, xm_br_f h0, xm_br_f h1, xm_br_f h2]
  have h3 : w = 3 := by
    rcases hg with q | q | q | q
    · exact absurd q.1 h0
    · exact absurd q.1 h1
    · exact absurd q.1 h2
    · exact q.1
  subst h3
  obtain ⟨k, k1, k2, rfl⟩ := up_n (a := 0) (b := 9) (by omega) (stG_3.mp hg) (by omega)
  refine ⟨_, _, xm_sI (xm_sI σ 9 12 (nI k)) 39 11 (nI k), rfl, ?_, ⟨s, L, ?_⟩, ⟨r, ?_⟩, ((Ex.rf _ _ _).sI (by decide) (by decide)).sM (by decide)⟩
  · rw [hm _ (by simp [xm_sI, h.2.2.1]) hg, xm_br_f h0, xm_br_f h1, xm_br_f h2]
    simp [xm_sI, hc.2.2.2.2.2.1.1]
  · exact hs.ex (W := [9]) (WM := [11]) (((Ex.rf _ _ _).sI (by decide) (by decide)).sM (by decide)) (by decide) (by decide)
  · refine ⟨hr, ?_, ?_, ?_, ?_, ?_, fun i hi => ?_, ?_⟩
    · simp [xm_sI, upd, hc.2.1]
    · simp [xm_sI, upd, hc.2.2.1]
    · simpa [xm_sI, upd] using hc.2.2.2.1
    · simpa [xm_sI, upd] using hc.2.2.2.2.1
    · simp [xm_sI, upd]; exact ⟨k, by omega, rfl⟩
    · have := hc.2.2.2.2.2.2.1 i hi
      simpa [RcI, xm_sI, upd] using this
    · simpa [xm_sI, upd] using hc.2.2.2.2.2.2.2
-- record, wave
theorem C_detail (d d' : Nat) {r i : Nat} {σ τ : Sg} (h : RcA r σ) (hf : FcP r σ τ) (hi : i < r) (w : Int32) : ∃ v, X_Records_detail d (nI i) w σ = some (some (.int v), σ) ∧ X_Mod_recordOf d' (nI i) w τ = some (some (.int v), τ) := by
  have hr := h.1
  obtain ⟨⟨a1, -⟩, ⟨a2, -⟩, ⟨a3, -⟩, ⟨a4, -⟩, -, ⟨a6, -⟩, ⟨a7, -⟩, ⟨a8, -⟩, a9⟩ := h.2.2.2.2.2.2.1 i hi
  rw [X_Records_detail_e, X_Mod_recordOf_e]
  simp only [xm_ix_n (show i < 24 by omega) (show 24 < 2 ^ 31 by omega), hf.2.2 i hi, hf.1 56 (by decide), hf.1 57 (by decide), hf.1 58 (by decide), hf.1 59 (by decide), hf.1 61 (by decide), hf.1 62 (by decide), hf.1 63 (by decide), ← a1, ← a2, ← a3, ← a4, ← a6, ← a7, ← a8]
  by_cases h0 : w = 0
  · simp only [xm_br_t h0]; exact ⟨_, rfl, rfl⟩
  simp only [xm_br_f h0]
  by_cases h1 : w = 1
  · simp only [xm_br_t h1]; exact ⟨_, rfl, rfl⟩
  simp only [xm_br_f h1]
  by_cases h2 : w = 2
  · simp only [xm_br_t h2]; exact ⟨_, rfl, rfl⟩
  simp only [xm_br_f h2]
  by_cases h3 : w = 3
  · simp only [xm_br_t h3]; exact ⟨_, rfl, rfl⟩
  simp only [xm_br_f h3]
  by_cases h4 : w = 4
  · simp only [xm_br_t h4]
    by_cases q : σ.1 18 i = 0
    · simp only [xm_br_t q]; exact ⟨_, rfl, rfl⟩
    · simp only [xm_br_f q]; exact ⟨_, rfl, rfl⟩
  simp only [xm_br_f h4]
  by_cases h5 : w = 5
  · simp only [xm_br_t h5]; exact ⟨_, rfl, rfl⟩
  simp only [xm_br_f h5]
  by_cases h6 : w = 6
  · simp only [xm_br_t h6]; exact ⟨_, rfl, rfl⟩
  simp only [xm_br_f h6]
  exact ⟨_, rfl, rfl⟩
theorem O_record {r : Nat} {σ : Sg} (h : RcA r σ) (d : Nat) (x w : Int32) : OpI (X_TO_record (d + 4) x w) (X_Mod_record (d + 4) x w) (Es σ) σ := by
  unfold OpI
  have hr := h.1
  have h9 := C_in32 (d + 3) w 0 7 σ
  rw [show ((0 : Int32).toInt64) = 0 from rfl, show ((7 : Int32).toInt64) = 7 from rfl] at h9
  by_cases hx : inR x r
  rotate_left
  · refine ⟨-5, σ, σ, ?_, ?_, Es.rf σ⟩
    · rw [X_TO_record_e, C_rHolds _ _ σ (by omega) h.2.1, xm_cI_s, xm_br_n hx]
    · rw [X_Mod_record_e, C_isRecord _ _ σ (by omega) h.2.2.1, xm_cI_s, xm_br_n hx]
  by_cases hw : 0 ≤ w ∧ w ≤ 7
  rotate_left
  · refine ⟨-5, σ, σ, ?_, ?_, Es.rf σ⟩
    · rw [X_TO_record_e, C_rHolds _ _ σ (by omega) h.2.1, xm_cI_s, xm_br_b hx, C_isUpTo, xm_cI_s, xm_br_n hw]
    · rw [X_Mod_record_e, C_isRecord _ _ σ (by omega) h.2.2.1, xm_cI_s, xm_br_b hx, h9, xm_cI_s, xm_br_n hw]
  have hx0 := hx
  obtain ⟨i, hi, rfl⟩ := hx
  obtain ⟨τ, t1, t2⟩ := C_fc (d + 3) h
  obtain ⟨v, v1, v2⟩ := C_detail (d + 3) (d + 3) h t2 hi w
  refine ⟨v, σ, τ, ?_, ?_, t2.es⟩
  · rw [X_TO_record_e, C_rHolds _ _ σ (by omega) h.2.1, xm_cI_s, xm_br_b hx0, C_isUpTo, xm_cI_s, xm_br_b hw, v1, xm_cI_s]
  · rw [X_Mod_record_e, C_isRecord _ _ σ (by omega) h.2.2.1, xm_cI_s, xm_br_b hx0, h9, xm_cI_s, xm_br_b hw, t1, xm_cV_s, v2, xm_cI_s]
