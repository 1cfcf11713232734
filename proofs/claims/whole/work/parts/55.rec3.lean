/-! RECORDS: came, the op -/
def Ts (r : Nat) (x2 x3 x4 : Int32) (σ : Sg) : Sg := xm_sI (xm_sI (xm_sI (xm_sI (xm_sI (xm_sI (xm_sI (xm_sI (xm_sI (xm_sI σ 10 r (-1)) 11 r x2) 12 r x3) 13 r x4) 14 r 100) 15 r 0) 16 r (nI r)) 17 r 0) 9 9 (nI r + 1)) 9 10 x4
def Tb0 (r b : Nat) (x2 x3 x4 : Int32) (σ : Sg) : Sg := xm_sI (xm_sI (xm_sI (xm_sI (xm_sI (xm_sI (xm_sI (xm_sI σ 10 r (nI b)) 11 r x2) 12 r x3) 13 r x4) 14 r 100) 15 r ((σ.1 15 b) + 1)) 16 r (σ.1 16 b)) 17 r 0
def Tb (r b : Nat) (x2 x3 x4 : Int32) (σ : Sg) : Sg := xm_sI (xm_sI (xm_sI (Tb0 r b x2 x3 x4 σ) 17 b (((Tb0 r b x2 x3 x4 σ).1 17 b) + 1)) 9 9 (nI r + 1)) 9 10 x4
def Ms (r : Nat) (x2 x3 x4 : Int32) (σ : Sg) : Sg := xm_sI (xm_sI (xm_sI (xm_sI (xm_sI (xm_sI (xm_sI (xm_sI (xm_sI σ 56 r (-1)) 57 r x2) 58 r x3) 59 r x4) 60 r (-1)) 62 r 0) 63 r (nI r)) 39 35 x4) 39 26 (nI r + 1)
def Mb (r b : Nat) (x2 x3 x4 : Int32) (σ : Sg) : Sg := xm_sI (xm_sI (xm_sI (xm_sI (xm_sI (xm_sI (xm_sI (xm_sI (xm_sI (xm_sI σ 56 r (nI b)) 57 r x2) 58 r x3) 59 r x4) 60 r (-1)) 62 r ((σ.1 62 b) + 1)) 63 r (σ.1 63 b)) 61 b ((σ.1 61 b) + 1)) 39 35 x4) 39 26 (nI r + 1)
theorem C_tells (d : Nat) {r : Nat} (x2 x3 x4 : Int32) {σ : Sg} (h : RcA r σ) (hr : r < 24) : X_Records_tell (d + 1) (-1) x2 x3 x4 σ = xm_cV (X_Records_look d (σ.1 9 11) (Ts r x2 x3 x4 σ)) (fun σ24 => some (some (.int (nI r)), σ24)) := by
  rw [X_Records_tell_e, C_rHolds d _ σ (by omega) h.2.1, xm_cI_s, xm_br_n (m1_inR (by omega)), h.2.1, xm_br_t (show nI r < 24 from nI_lt (b := 24) hr (by omega))]
  simp only [xm_ix_n hr (show 24 < 2 ^ 31 by omega)]
  rfl
theorem C_tellb (d : Nat) {r b : Nat} (x2 x3 x4 : Int32) {σ : Sg} (h : RcA r σ) (hr : r < 24) (hb : b < r) : X_Records_tell (d + 1) (nI b) x2 x3 x4 σ = xm_cV (X_Records_look d (σ.1 9 11) (Tb r b x2 x3 x4 σ)) (fun σ24 => some (some (.int (nI r)), σ24)) := by
  rw [X_Records_tell_e, C_rHolds d _ σ (by omega) h.2.1, xm_cI_s, xm_br_b ⟨b, hb, rfl⟩, h.2.1, xm_br_t (show nI r < 24 from nI_lt (b := 24) hr (by omega))]
  simp only [xm_ix_n hr (show 24 < 2 ^ 31 by omega), xm_ix_n (show b < 24 by omega) (show 24 < 2 ^ 31 by omega)]
  rfl
theorem C_m87s (d : Nat) {r : Nat} (x2 x3 x4 : Int32) {σ : Sg} (h : σ.1 39 26 = nI r) (hr : r < 24) : X_Mod_came_87 d (-1) x2 x3 x4 σ = some (some (.int (nI r)), Ms r x2 x3 x4 σ) := by
  rw [X_Mod_came_87_e, h]
  simp only [xm_ix_n hr (show 24 < 2 ^ 31 by omega)]
  rw [xm_br_t trivial, X_Mod_came_163_e, xm_ix_n hr (by omega), xm_br_t rfl, X_Mod_came_190_e]
  simp only [sI_cell _ _ _ (by decide : (39 : Nat) ≠ 56), sI_cell _ _ _ (by decide : (39 : Nat) ≠ 57), sI_cell _ _ _ (by decide : (39 : Nat) ≠ 58), sI_cell _ _ _ (by decide : (39 : Nat) ≠ 59), sI_cell _ _ _ (by decide : (39 : Nat) ≠ 60), h, xm_ix_n hr (show 24 < 2 ^ 31 by omega)]
  rw [xm_br_t trivial, X_Mod_came_206_e]
  simp only [sI_cell _ _ _ (by decide : (39 : Nat) ≠ 56), sI_cell _ _ _ (by decide : (39 : Nat) ≠ 57), sI_cell _ _ _ (by decide : (39 : Nat) ≠ 58), sI_cell _ _ _ (by decide : (39 : Nat) ≠ 59), sI_cell _ _ _ (by decide : (39 : Nat) ≠ 60), sI_cell _ _ _ (by decide : (39 : Nat) ≠ 62), sI_cell _ _ _ (by decide : (39 : Nat) ≠ 63), h]
  rw [nI_1, nI_pred, ← nI_1]
  rfl
theorem C_m87b (d : Nat) {r b : Nat} (x2 x3 x4 : Int32) {σ : Sg} (h : σ.1 39 26 = nI r) (hr : r < 24) (hb : b < r) : X_Mod_came_87 d (nI b) x2 x3 x4 σ = some (some (.int (nI r)), Mb r b x2 x3 x4 σ) := by
  have hf : ¬ nI b = -1 := nI_nm1 (by omega)
  rw [X_Mod_came_87_e, h]
  simp only [xm_ix_n hr (show 24 < 2 ^ 31 by omega), xm_ix_n (show b < 24 by omega) (show 24 < 2 ^ 31 by omega)]
  rw [xm_br_f hf, X_Mod_came_163_e, xm_ix_n hr (by omega), xm_br_f hf, xm_ix_n (show b < 24 by omega) (by omega), X_Mod_came_190_e]
  simp only [sI_cell _ _ _ (by decide : (39 : Nat) ≠ 56), sI_cell _ _ _ (by decide : (39 : Nat) ≠ 57), sI_cell _ _ _ (by decide : (39 : Nat) ≠ 58), sI_cell _ _ _ (by decide : (39 : Nat) ≠ 59), sI_cell _ _ _ (by decide : (39 : Nat) ≠ 60), sI_cell _ _ _ (by decide : (63 : Nat) ≠ 56), sI_cell _ _ _ (by decide : (63 : Nat) ≠ 57), sI_cell _ _ _ (by decide : (63 : Nat) ≠ 58), sI_cell _ _ _ (by decide : (63 : Nat) ≠ 59), sI_cell _ _ _ (by decide : (63 : Nat) ≠ 60), h, xm_ix_n hr (show 24 < 2 ^ 31 by omega), xm_ix_n (show b < 24 by omega) (show 24 < 2 ^ 31 by omega)]
  rw [xm_br_f hf, X_Mod_came_206_e]
  simp only [sI_cell _ _ _ (by decide : (39 : Nat) ≠ 56), sI_cell _ _ _ (by decide : (39 : Nat) ≠ 57), sI_cell _ _ _ (by decide : (39 : Nat) ≠ 58), sI_cell _ _ _ (by decide : (39 : Nat) ≠ 59), sI_cell _ _ _ (by decide : (39 : Nat) ≠ 60), sI_cell _ _ _ (by decide : (39 : Nat) ≠ 61), sI_cell _ _ _ (by decide : (39 : Nat) ≠ 62), sI_cell _ _ _ (by decide : (39 : Nat) ≠ 63), sI_cell _ _ _ (by decide : (61 : Nat) ≠ 56), sI_cell _ _ _ (by decide : (61 : Nat) ≠ 57), sI_cell _ _ _ (by decide : (61 : Nat) ≠ 58), sI_cell _ _ _ (by decide : (61 : Nat) ≠ 59), sI_cell _ _ _ (by decide : (61 : Nat) ≠ 60), sI_cell _ _ _ (by decide : (61 : Nat) ≠ 62), h]
  rw [nI_1, nI_pred, ← nI_1]
  rfl
theorem kn_n {x : Int32} (h : x = -1 ∨ (1 ≤ x ∧ x ≤ 20)) : x = -1 ∨ ∃ k, 1 ≤ k ∧ k ≤ 20 ∧ x = nI k := by
  rcases h with h | ⟨h1, h2⟩
  · exact Or.inl h
  · right
    rw [fa_le] at h1 h2
    have h1 : (1 : Int) ≤ x.toInt := h1
    have h2 : x.toInt ≤ 20 := h2
    refine ⟨x.toInt.toNat, by omega, by omega, ?_⟩
    apply Int32.toInt_inj.mp
    rw [nI_toInt (by omega)]
    omega
theorem day_n {x y : Int32} (h : inR x 100) (h1 : x ≤ y ∧ y ≤ 99) : inR y 100 := by
  rw [inR_iff (by omega)] at h ⊢
  rw [fa_le, fa_le] at h1
  have := h1.2
  have : y.toInt ≤ 99 := this
  omega
theorem O_came {r : Nat} {σ : Sg} (h : RcA r σ) (d : Nat) (x1 x2 x3 x4 : Int32) : OpI (X_TO_came (d + 4) x1 x2 x3 x4) (X_Mod_came (d + 4) x1 x2 x3 x4) (RcP σ) σ := by
  unfold OpI
  have hr := h.1
  by_cases hg : cmG r x1 x2 x3 x4 σ
  rotate_left
  · exact ⟨-2, σ, σ, C_tc0 _ _ _ _ _ h.2.1 hr hg, C_mc0 _ _ _ _ _ h hg, ⟨r, h⟩, Ex.rf _ _ _⟩
  have hd := day_n h.2.2.2.1.2 hg.2.2.2
  rw [C_tc1 _ _ _ _ _ h.2.1 hr hg, h.2.1]
  by_cases hf : r = 24
  · subst hf
    refine ⟨-4, σ, σ, ?_, ?_, ⟨24, h⟩, Ex.rf _ _ _⟩
    · rw [xm_br_f (by decide)]
    · rw [C_mc1 _ _ _ _ _ h.2.2.1 hr hg.1 hg.2.1 hg.2.2.1 (by rw [← h.2.2.2.1.1]; exact hg.2.2.2), h.2.2.1, xm_br_t (by decide)]
  have hr' : r < 24 := by omega
  rw [xm_br_t (show nI r < 24 from nI_lt (b := 24) hr' (by omega))]
  have h24 : ¬ nI r = 24 := fun q => hf ((nI_eq (a := r) (b := 24) (by omega) (by omega)).mp q)
  have hbr : ∀ j, j < r → σ.1 10 j = -1 ∨ ∃ b, b < j ∧ σ.1 10 j = nI b := by
    intro j hj
    rcases (h.2.2.2.2.2.2.1 j hj).1.2 with q | ⟨b, hb, e, -⟩
    · exact Or.inl q.1
    · exact Or.inr ⟨b, hb, e⟩
  by_cases hs : x1 = -1
  · subst hs
    rw [xm_br_t rfl, C_tells (d + 2) x2 x3 x4 h hr']
    obtain ⟨τ, t1, t2, t3, t4, t5, t6⟩ := C_look (d + 2) (r := r + 1) (σ.1 9 11) (by omega) (Ts r x2 x3 x4 σ) (by simp [Ts, xm_sI, upd, nI_succ]) (fun j hj => by
      by_cases e : j = r
      · left; subst e; simp [Ts, xm_sI, upd]
      · have := hbr j (by omega)
        simpa [Ts, xm_sI, upd, e] using this)
    rw [t1, xm_cV_s, xm_cI_s]
    have m26 : τ.1 39 26 = nI r := by rw [t2 39 (by decide) (by decide)]; simp [Ts, xm_sI, upd, h.2.2.1]
    have m35 : τ.1 39 35 = σ.1 39 35 := by rw [t2 39 (by decide) (by decide)]; simp [Ts, xm_sI, upd]
    refine ⟨nI r, τ, Ms r x2 x3 x4 τ, rfl, ?_, ⟨r + 1, ?_⟩, ?_⟩
    · rw [C_mc1 _ _ _ _ _ m26 hr hg.1 hg.2.1 hg.2.2.1 (by rw [m35, ← h.2.2.2.1.1]; exact hg.2.2.2), m26, xm_br_f h24, xm_br_t rfl, C_m87s _ _ _ _ m26 hr']
    · have b61 := h.2.2.2.2.2.2.2
      refine h.add hr' hg.2.1 (kn_n hg.2.2.1) hd ?_ (x1 := -1) ?_ ?_ ?_ ?_ ?_ ?_ ?_ ?_ ?_ ?_ ?_ ?_ ?_ ?_ ?_ ?_ ?_ ?_ ?_ ?_ ?_ ?_ ?_ ?_
      · intro c hc j hj
        have hj' : j ≠ r := by omega
        simp only [List.mem_cons, List.not_mem_nil, or_false] at hc
        rcases hc with rfl | rfl | rfl | rfl | rfl | rfl | rfl | rfl | rfl | rfl | rfl | rfl | rfl | rfl <;> simp [Ms, xm_sI, upd, t2, Ts, hj']
      · simp [Ms, xm_sI, upd, t2, Ts]
      · simp [Ms, xm_sI, upd]
      · simp [Ms, xm_sI, upd, t2, Ts]
      · simp [Ms, xm_sI, upd]
      · simp [Ms, xm_sI, upd, t2, Ts]
      · simp [Ms, xm_sI, upd]
      · simp [Ms, xm_sI, upd, t2, Ts]
      · simp [Ms, xm_sI, upd]
      · simp [Ms, xm_sI, upd, t2, Ts]; rfl
      · simp [Ms, xm_sI, upd]
      · left; simp [Ms, xm_sI, upd, t2, Ts]
      · simp [Ms, xm_sI, upd, t2, Ts]
      · simp [Ms, xm_sI, upd, t2, Ts]
      · intro j hj
        by_cases e : j = r
        · subst e
          have := b61 j (Nat.le_refl _) hr'
          simp [Ms, xm_sI, upd, t2, Ts, this]
          exact ⟨0, by omega, rfl⟩
        · have := (h.2.2.2.2.2.2.1 j (by omega)).2.2.2.2.2.2.2.1
          simpa [Ms, xm_sI, upd, t2, Ts, e] using this
      · intro j h1 h2
        have := b61 j (by omega) h2
        simp [Ms, xm_sI, upd, t2, Ts, this]
      · intro j hj
        have := t6 j (by omega)
        simp [Ms, xm_sI, upd, t2, t4] at this ⊢
        exact this
      · simp [Ms, xm_sI, upd, t3, Ts, nI_succ]
      · simp [Ms, xm_sI, upd, nI_succ]
      · simp [Ms, xm_sI, upd, t3, Ts]
      · simp [Ms, xm_sI, upd]
      · simp [Ms, xm_sI, upd, t4]
      · simp [Ms, xm_sI, upd, t2, Ts]
      · simp [Ms, xm_sI, upd, t3, Ts]
      · simp [Ms, xm_sI, upd, t2, Ts]
    · refine ⟨fun c hc h9 => ?_, fun j hj => ?_, ?_⟩
      · have hc' : ∀ k, k ∈ WRc → c ≠ k := fun k hk e => hc (e ▸ hk)
        simp [Ms, xm_sI, t2 c (hc' 18 (by decide)) (hc' 9 (by decide)), Ts, h9, hc' 9 (by decide), hc' 10 (by decide), hc' 11 (by decide), hc' 12 (by decide), hc' 13 (by decide), hc' 14 (by decide), hc' 15 (by decide), hc' 16 (by decide), hc' 17 (by decide), hc' 56 (by decide), hc' 57 (by decide), hc' 58 (by decide), hc' 59 (by decide), hc' 60 (by decide), hc' 62 (by decide), hc' 63 (by decide)]
      · have hj' : ∀ k, k ∈ WRm → j ≠ k := fun k hk e => hj (e ▸ hk)
        simp [Ms, xm_sI, upd, t2, Ts, hj' 26 (by decide), hj' 35 (by decide)]
      · show τ.2 = σ.2
        rw [t5]
        rfl
  · obtain ⟨b, hb, rfl⟩ := hg.1.resolve_left hs
    obtain ⟨a17, v, hv, ev⟩ := (h.2.2.2.2.2.2.1 b hb).2.2.2.2.2.2.2.1
    rw [xm_br_f hs, xm_ix_n (show b < 24 by omega) (by omega), ev]
    by_cases hv3 : v = 3
    · subst hv3
      refine ⟨-3, σ, σ, ?_, ?_, ⟨r, h⟩, Ex.rf _ _ _⟩
      · rw [xm_br_f (by decide)]
      · rw [C_mc1 _ _ _ _ _ h.2.2.1 hr hg.1 hg.2.1 hg.2.2.1 (by rw [← h.2.2.2.1.1]; exact hg.2.2.2), h.2.2.1, xm_br_f h24, xm_br_f hs, xm_ix_n (show b < 24 by omega) (by omega), ← a17, ev, xm_br_t (by decide)]
    rw [xm_br_t (show nI v < 3 from nI_lt (b := 3) (by omega) (by omega)), C_tellb (d + 2) x2 x3 x4 h hr' hb]
    have hbr' : b ≠ r := by omega
    obtain ⟨τ, t1, t2, t3, t4, t5, t6⟩ := C_look (d + 2) (r := r + 1) (σ.1 9 11) (by omega) (Tb r b x2 x3 x4 σ) (by simp [Tb, xm_sI, upd, nI_succ]) (fun j hj => by
      by_cases e : j = r
      · right; subst e; exact ⟨b, hb, by simp [Tb, Tb0, xm_sI, upd]⟩
      · have := hbr j (by omega)
        simpa [Tb, Tb0, xm_sI, upd, e] using this)
    rw [t1, xm_cV_s, xm_cI_s]
    have m26 : τ.1 39 26 = nI r := by rw [t2 39 (by decide) (by decide)]; simp [Tb, Tb0, xm_sI, upd, h.2.2.1]
    have m35 : τ.1 39 35 = σ.1 39 35 := by rw [t2 39 (by decide) (by decide)]; simp [Tb, Tb0, xm_sI, upd]
    have m61 : τ.1 61 b = nI v := by rw [t2 61 (by decide) (by decide), ← ev, a17]; simp [Tb, Tb0, xm_sI, upd]
    refine ⟨nI r, τ, Mb r b x2 x3 x4 τ, rfl, ?_, ⟨r + 1, ?_⟩, ?_⟩
    · rw [C_mc1 _ _ _ _ _ m26 hr hg.1 hg.2.1 hg.2.2.1 (by rw [m35, ← h.2.2.2.1.1]; exact hg.2.2.2), m26, xm_br_f h24, xm_br_f hs, xm_ix_n (show b < 24 by omega) (by omega), m61, xm_br_f (show ¬ nI v = 3 from fun q => hv3 ((nI_eq (a := v) (b := 3) (by omega) (by omega)).mp q)), C_m87b _ _ _ _ m26 hr' hb]
    · have b61 := h.2.2.2.2.2.2.2
      have a62 := (h.2.2.2.2.2.2.1 b hb).2.2.2.2.2.1.1
      have a63 := (h.2.2.2.2.2.2.1 b hb).2.2.2.2.2.2.1.1
      refine h.add hr' hg.2.1 (kn_n hg.2.2.1) hd ?_ (x1 := nI b) ?_ ?_ ?_ ?_ ?_ ?_ ?_ ?_ ?_ ?_ ?_ ?_ ?_ ?_ ?_ ?_ ?_ ?_ ?_ ?_ ?_ ?_ ?_ ?_
      · intro c hc j hj
        have hj' : j ≠ r := by omega
        simp only [List.mem_cons, List.not_mem_nil, or_false] at hc
        rcases hc with rfl | rfl | rfl | rfl | rfl | rfl | rfl | rfl | rfl | rfl | rfl | rfl | rfl | rfl <;> simp [Mb, xm_sI, upd, t2, Tb, Tb0, hj']
      · simp [Mb, xm_sI, upd, t2, Tb, Tb0]
      · simp [Mb, xm_sI, upd]
      · simp [Mb, xm_sI, upd, t2, Tb, Tb0]
      · simp [Mb, xm_sI, upd]
      · simp [Mb, xm_sI, upd, t2, Tb, Tb0]
      · simp [Mb, xm_sI, upd]
      · simp [Mb, xm_sI, upd, t2, Tb, Tb0]
      · simp [Mb, xm_sI, upd]
      · simp [Mb, xm_sI, upd, t2, Tb, Tb0]; rfl
      · simp [Mb, xm_sI, upd]
      · right; exact ⟨b, hb, rfl, by simp [Mb, xm_sI, upd, t2, Tb, Tb0], by simp [Mb, xm_sI, upd, t2, Tb, Tb0]⟩
      · simp [Mb, xm_sI, upd, t2, Tb, Tb0, a62]
      · simp [Mb, xm_sI, upd, t2, Tb, Tb0, a63]
      · intro j hj
        by_cases e : j = r
        · subst e
          have := b61 j (Nat.le_refl _) hr'
          simp [Mb, xm_sI, upd, t2, Tb, Tb0, this, Ne.symm hbr']
          exact ⟨0, by omega, rfl⟩
        · by_cases e2 : j = b
          · subst e2
            simp [Mb, xm_sI, upd, t2, Tb, Tb0, e, ev, ← a17]
            exact ⟨v + 1, by omega, nI_1 v⟩
          · have := (h.2.2.2.2.2.2.1 j (by omega)).2.2.2.2.2.2.2.1
            simpa [Mb, xm_sI, upd, t2, Tb, Tb0, e, e2] using this
      · intro j h1 h2
        have := b61 j (by omega) h2
        simp [Mb, xm_sI, upd, t2, Tb, Tb0, this, show j ≠ b by omega]
      · intro j hj
        have := t6 j (by omega)
        simp [Mb, xm_sI, upd, t2, t4] at this ⊢
        exact this
      · simp [Mb, xm_sI, upd, t3, Tb, nI_succ]
      · simp [Mb, xm_sI, upd, nI_succ]
      · simp [Mb, xm_sI, upd, t3, Tb]
      · simp [Mb, xm_sI, upd]
      · simp [Mb, xm_sI, upd, t4]
      · simp [Mb, xm_sI, upd, t2, Tb, Tb0]
      · simp [Mb, xm_sI, upd, t3, Tb, Tb0]
      · simp [Mb, xm_sI, upd, t2, Tb, Tb0]
    · refine ⟨fun c hc h9 => ?_, fun j hj => ?_, ?_⟩
      · have hc' : ∀ k, k ∈ WRc → c ≠ k := fun k hk e => hc (e ▸ hk)
        simp [Mb, xm_sI, t2 c (hc' 18 (by decide)) (hc' 9 (by decide)), Tb, Tb0, h9, hc' 9 (by decide), hc' 10 (by decide), hc' 11 (by decide), hc' 12 (by decide), hc' 13 (by decide), hc' 14 (by decide), hc' 15 (by decide), hc' 16 (by decide), hc' 17 (by decide), hc' 56 (by decide), hc' 57 (by decide), hc' 58 (by decide), hc' 59 (by decide), hc' 60 (by decide), hc' 61 (by decide), hc' 62 (by decide), hc' 63 (by decide)]
      · have hj' : ∀ k, k ∈ WRm → j ≠ k := fun k hk e => hj (e ▸ hk)
        simp [Mb, xm_sI, upd, t2, Tb, Tb0, hj' 26 (by decide), hj' 35 (by decide)]
      · show τ.2 = σ.2
        rw [t5]
        rfl
