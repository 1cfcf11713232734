/-! CHAINS: the reference goes through them -/
def DfP (σ τ : Sg) : Prop := (∀ c, c ∉ [39, 46, 47] → τ.1 c = σ.1 c) ∧ (∀ j, j ≠ 16 → τ.1 39 j = σ.1 39 j) ∧ (∀ c, c ∉ [39, 48, 49, 50, 51, 52, 53] → τ.2 c = σ.2 c) ∧ ∀ j, j ≠ 22 → τ.2 39 j = σ.2 39 j
theorem DfP.rf (σ : Sg) : DfP σ σ := ⟨fun _ _ => rfl, fun _ _ => rfl, fun _ _ => rfl, fun _ _ => rfl⟩
theorem DfP.tr {σ τ υ : Sg} (h : DfP σ τ) (g : DfP τ υ) : DfP σ υ := ⟨fun c hc => (g.1 c hc).trans (h.1 c hc), fun j hj => (g.2.1 j hj).trans (h.2.1 j hj), fun c hc => (g.2.2.1 c hc).trans (h.2.2.1 c hc), fun j hj => (g.2.2.2 j hj).trans (h.2.2.2 j hj)⟩
theorem DfP.nt {n K : Nat} {T : Nat → Nat} {σ τ : Sg} (h : DfP σ τ) (hn : NtA n T K σ) : NtA n T K τ := hn.cells (h.1 1 (by decide)) (h.1 2 (by decide)) (h.2.1 5 (by decide)) (h.1 44 (by decide)) (h.1 45 (by decide))
/-- what may come behind the k-th -/
def opF (T : Nat → Nat) (L : Nat) (pt : Nat → Nat) (k : Nat) : Nat := if k + 1 < L then an (T (pt k)) (sF pt (k + 1)) else 0
section ST
variable {T : Nat → Nat} {n K L e : Nat} {σ : Sg}
theorem op_lt (h : NtA n T K σ) {pt : Nat → Nat} {k : Nat} (hp : pt k < n) : opF T L pt k < 2 ^ n := by
  have hn := h.1
  unfold opF
  split
  · exact an_lt (NtA_t h _ (by omega))
  · exact Nat.two_pow_pos n
theorem C_stands (h : NtA n T K σ) (hL : σ.1 39 9 = nI L) (hL7 : L ≤ 7) (he : e ≤ 100) (h23 : σ.1 39 23 = nI e) (d : Nat) {k w : Nat} {pt : Nat → Nat} (hk : k < 7) (hr : rwP n (k + 1) pt) (h46 : ∀ i, i ≤ k → σ.1 46 i = nI (pt i)) (hu : σ.1 39 16 = nI (sF pt k)) (h48 : σ.2 48 k = lN w) (hw : w < 2 ^ 63) : ∃ τ, X_Mod_stands (d + 4) (nI k) σ = some (none, τ) ∧ DfP σ τ ∧ τ.1 46 = σ.1 46 ∧ (∀ i, i ≠ k → τ.1 47 i = σ.1 47 i) ∧ τ.1 39 16 = nI (sF pt (k + 1)) ∧ τ.1 47 k = nI (opF T L pt k) ∧ τ.2 48 = σ.2 48 ∧ (∀ i, i ≠ k → τ.2 49 i = σ.2 49 i) ∧ ((opF T L pt k = 0 ∧ ∀ c j, dm c j → τ.2 c j = σ.2 c j + lN (w * phF T n K e c j (sF pt (k + 1)))) ∨ (opF T L pt k ≠ 0 ∧ τ.2 49 k = lN (w / pop 14 (opF T L pt k)) ∧ ∀ c j, dm c j → τ.2 c j = σ.2 c j)) := by
  have hn := h.1
  obtain ⟨p1, p2⟩ := hr k (by omega)
  have hS := pow9 hn.2 (sF_lt hr)
  have hT9 := h.T (show pt k < 9 by omega)
  -- the store with the last one in it
  have e46 : σ.1 46 k = nI (pt k) := h46 k (Nat.le_refl _)
  have eor : ((σ.1 39 16) ||| ((1 : Int32) <<< (nI (pt k) &&& 31))) = nI (sF pt (k + 1)) := by rw [hu, sh_1 _ (by omega), fa_or]; rfl
  have body : ∀ O : Nat, O < 2 ^ n → (opF T L pt k = O) → ∃ τ, xm_cI (X_Mod_bitsOf (d + 3) ((xm_sI (xm_sI σ 39 16 (nI (sF pt (k + 1)))) 47 k (nI O)).1 47 k) (xm_sI (xm_sI σ 39 16 (nI (sF pt (k + 1)))) 47 k (nI O))) (fun r5 σ4 => xm_br (r5 = 0) (xm_ix (nI k) 7 (fun j8 => xm_cV (X_Mod_takes (d + 3) (nI k + 1) (σ4.2 48 j8) σ4) (fun σ9 => some (none, σ9)))) (xm_ix (nI k) 7 (fun j6 => xm_dvL r5.toInt64 (xm_ix (nI k) 7 (fun j7 => some (none, (xm_sL σ4 49 j7 ((σ4.2 48 j6) / r5.toInt64)))))))) = some (none, τ) ∧ DfP σ τ ∧ τ.1 46 = σ.1 46 ∧ (∀ i, i ≠ k → τ.1 47 i = σ.1 47 i) ∧ τ.1 39 16 = nI (sF pt (k + 1)) ∧ τ.1 47 k = nI (opF T L pt k) ∧ τ.2 48 = σ.2 48 ∧ (∀ i, i ≠ k → τ.2 49 i = σ.2 49 i) ∧ ((opF T L pt k = 0 ∧ ∀ c j, dm c j → τ.2 c j = σ.2 c j + lN (w * phF T n K e c j (sF pt (k + 1)))) ∨ (opF T L pt k ≠ 0 ∧ τ.2 49 k = lN (w / pop 14 (opF T L pt k)) ∧ ∀ c j, dm c j → τ.2 c j = σ.2 c j)) := by
    intro O hO hop
    have hO9 := pow9 hn.2 hO
    have hp9 := pop_9 hO9
    rw [hop]
    have F1 : DfP σ (xm_sI (xm_sI σ 39 16 (nI (sF pt (k + 1)))) 47 k (nI O)) := by
      refine ⟨fun c hc => ?_, fun j hj => ?_, fun _ _ => rfl, fun _ _ => rfl⟩
      · have hc' : ∀ k, k ∈ [39, 46, 47] → c ≠ k := fun k hk e => hc (e ▸ hk)
        rw [sI_cell _ _ _ (hc' 47 (by decide)), sI_cell _ _ _ (hc' 39 (by decide))]
      · rw [sI_cell _ _ _ (by decide), sI_row _ _ hj]
    have G46 : (xm_sI (xm_sI σ 39 16 (nI (sF pt (k + 1)))) 47 k (nI O)).1 46 = σ.1 46 := by rw [sI_cell _ _ _ (by decide), sI_cell _ _ _ (by decide)]
    have G47 : ∀ i, i ≠ k → (xm_sI (xm_sI σ 39 16 (nI (sF pt (k + 1)))) 47 k (nI O)).1 47 i = σ.1 47 i := fun i hi => by rw [sI_row _ _ hi, sI_cell _ _ _ (by decide)]
    have G16 : (xm_sI (xm_sI σ 39 16 (nI (sF pt (k + 1)))) 47 k (nI O)).1 39 16 = nI (sF pt (k + 1)) := by rw [sI_cell _ _ _ (by decide), sI_same]
    have G47k : (xm_sI (xm_sI σ 39 16 (nI (sF pt (k + 1)))) 47 k (nI O)).1 47 k = nI O := sI_same _ _ _ _
    rw [G47k, C_bitsOf _ _ (by omega), xm_cI_s]
    by_cases h0 : O = 0
    · obtain ⟨τ, t1, t2, t3, t4, t5⟩ := C_takes (F1.nt h) d (m := k + 1) (e := e) (w := w) (by omega) he (by rw [F1.2.1 23 (by decide)]; exact h23) hr (fun i hi => by rw [G46]; exact h46 i (by omega))
      refine ⟨τ, ?_, F1.tr ⟨fun c _ => by rw [t2], fun j _ => by rw [t2], fun c hc => t3 c (fun q => hc (by simp only [List.mem_cons, List.not_mem_nil, or_false] at q ⊢; omega)), t4⟩, by rw [t2]; exact G46, fun i hi => by rw [t2]; exact G47 i hi, by rw [t2]; exact G16, by rw [t2]; exact G47k, (t3 48 (by decide)), fun i _ => congrFun (t3 49 (by decide)) i, Or.inl ⟨h0, t5⟩⟩
      rw [h0, pop_0, xm_br_t nI_0, xm_ix_n hk (by omega), nI_1, show (xm_sI (xm_sI σ 39 16 (nI (sF pt (k + 1)))) 47 k (nI 0)).2 48 k = lN w from h48]
      rw [h0] at t1
      rw [t1, xm_cV_s]
    · have hpp : pop 14 O ≠ 0 := fun z => h0 (pop_pos 14 O (by omega) z)
      refine ⟨xm_sL (xm_sI (xm_sI σ 39 16 (nI (sF pt (k + 1)))) 47 k (nI O)) 49 k (lN (w / pop 14 O)), ?_, ⟨F1.1, F1.2.1, fun c hc => by
        show (xm_sL (xm_sI (xm_sI σ 39 16 (nI (sF pt (k + 1)))) 47 k (nI O)) 49 k (lN (w / pop 14 O))).2 c = σ.2 c
        rw [sL_cell _ _ _ (fun q => hc (by rw [q]; decide))]
        rfl, fun j _ => by
        show (xm_sL (xm_sI (xm_sI σ 39 16 (nI (sF pt (k + 1)))) 47 k (nI O)) 49 k (lN (w / pop 14 O))).2 39 j = σ.2 39 j
        rw [sL_cell _ _ _ (by decide)]
        rfl⟩, G46, G47, G16, G47k, ?_, fun i hi => ?_, Or.inr ⟨h0, sL_same _ _ _ _, fun c j hd => ?_⟩⟩
      · rw [xm_br_f (nI_ne0 (by omega) (by omega)), xm_ix_n hk (by omega), xm_ix_n hk (by omega), nI_l (by omega), xm_dvL_n (l_ne0 (by omega) hpp), show (xm_sI (xm_sI σ 39 16 (nI (sF pt (k + 1)))) 47 k (nI O)).2 48 k = lN w from h48, pk_lDiv hw (by omega) (by omega)]
      · rw [sL_cell _ _ _ (by decide)]; rfl
      · rw [sL_row _ _ hi]; rfl
      · have : c ≠ 49 := by
          rcases hd with q | q | q | q | q <;> omega
        rw [sL_cell _ _ _ this]; rfl
  rw [X_Mod_stands_e, xm_ix_n hk (by omega), hL, nI_1]
  simp only [xm_ix_n hk (show 7 < 2 ^ 31 by omega), eor, e46]
  by_cases hlt : k + 1 < L
  · have eo : opF T L pt k = an (T (pt k)) (sF pt (k + 1)) := if_pos hlt
    have ea : ((σ.1 44 (pt k)) &&& (nI (sF pt (k + 1)) ^^^ (-1))) = nI (an (T (pt k)) (sF pt (k + 1))) := by rw [(h.m _ (by omega)).1, an_nI _ (by omega)]
    rw [xm_br_f (nI_ge hlt (by omega)), xm_ix_n (show pt k < 9 by omega) (by omega), ea]
    have := body (an (T (pt k)) (sF pt (k + 1))) (an_lt (NtA_t h _ (by omega))) eo
    simp only [xm_ix_n hk (show 7 < 2 ^ 31 by omega), nI_1] at this
    exact this
  · have eo : opF T L pt k = 0 := if_neg hlt
    rw [xm_br_t (nI_le (by omega) (by omega))]
    have := body 0 (Nat.two_pow_pos n) eo
    simp only [xm_ix_n hk (show 7 < 2 ^ 31 by omega), nI_1] at this
    exact this
-- bits of what is left
def lw_c (a : Nat) : Bool := a == 0 || ((List.range 9).all fun p => (a &&& (a - 1)).testBit p == (a.testBit p && !(p == low a)))
theorem lw_t : ((List.range 512).all fun a => lw_c a) = true := by decide +kernel
theorem lw_ok {a p : Nat} (h : a < 512) (h0 : a ≠ 0) (hp : p < 9) : (a &&& (a - 1)).testBit p = (a.testBit p && !(p == low a)) := by
  have q := List.all_eq_true.mp lw_t a (List.mem_range.mpr h)
  unfold lw_c at q
  rw [Bool.or_eq_true] at q
  rcases q with q | q
  · exact absurd (eq_of_beq q) h0
  · exact eq_of_beq (List.all_eq_true.mp q p (List.mem_range.mpr hp))
theorem sm_low {a n : Nat} (F : Nat → Nat) (h : a < 2 ^ n) (hn : n ≤ 9) (h0 : a ≠ 0) : sm (fun q => if a.testBit q = true then F q else 0) n = F (low a) + sm (fun q => if (a &&& (a - 1)).testBit q = true then F q else 0) n := by
  have h9 := pow9 hn h
  obtain ⟨-, l2, l3, -⟩ := low_ok h9 h0
  have ln : low a < n := by
    rcases Nat.lt_or_ge (low a) n with q | q
    · exact q
    · rw [Nat.testBit_lt_two_pow (Nat.lt_of_lt_of_le h (Nat.pow_le_pow_right (by omega) q))] at l2
      cases l2
  have e : sm (fun q => if a.testBit q = true then F q else 0) n = sm (fun q => (if q = low a then F (low a) else 0) + (if (a &&& (a - 1)).testBit q = true then F q else 0)) n := by
    refine sm_c (fun q hq => ?_)
    rw [lw_ok h9 h0 (show q < 9 by omega)]
    by_cases z : q = low a
    · subst z
      rw [l2, if_pos rfl, if_pos rfl, beq_self_eq_true]
      simp
    · rw [if_neg z, beq_false_of_ne z]
      simp
  rw [e, sm_add, sm_one (f := fun q => if q = low a then F (low a) else 0) (q := low a) ln (fun i _ hi => if_neg hi), if_pos rfl]
theorem an_two {S p : Nat} (h : S.testBit p = false) : an (S ||| 2 ^ p) (2 ^ p) = S := by
  apply Nat.eq_of_testBit_eq
  intro i
  rw [an_bit, or_bit, Nat.testBit_two_pow]
  by_cases e : p = i
  · subst e; rw [h, decide_eq_true rfl]; rfl
  · rw [decide_eq_false e]; simp
/-- a row with another one at place k -/
theorem sF_c {pt pt' : Nat → Nat} : ∀ {m : Nat}, (∀ i, i < m → pt' i = pt i) → sF pt' m = sF pt m
  | 0, _ => rfl
  | m + 1, h => by
    show sF pt' m ||| 2 ^ pt' m = sF pt m ||| 2 ^ pt m
    rw [sF_c (fun i hi => h i (by omega)), h m (by omega)]
theorem rwP_c {pt pt' : Nat → Nat} {m : Nat} (h : rwP n m pt) (e : ∀ i, i < m → pt' i = pt i) : rwP n m pt' := fun i hi => by
  rw [e i hi, sF_c (fun j hj => e j (by omega))]
  exact h i hi
/-- from a chain that stands: all that come behind it -/
theorem C_dfs (h : NtA n T K σ) (hL : σ.1 39 9 = nI L) (hL7 : L ≤ 7) (he : e ≤ 100) (h23 : σ.1 39 23 = nI e) (d : Nat) (x2 : Int32) : ∀ (fu dep : Nat), dep + fu = 6 → ∀ (O : Nat) (pt : Nat → Nat) (sh : Nat) (τ : Sg), DfP σ τ → rwP n (dep + 1) pt → (∀ i, i ≤ dep → τ.1 46 i = nI (pt i)) → τ.1 39 16 = nI (sF pt (dep + 1)) → τ.1 47 dep = nI O → O < 2 ^ n → (∀ q, O.testBit q = true → (sF pt (dep + 1)).testBit q = false) → (O ≠ 0 → dep + 1 < L ∧ τ.2 49 dep = lN sh) → sh < 2 ^ 63 →
    ∃ υ, X_Mod_goesThrough_161 (d + 5) x2 (nI dep) τ = X_Mod_goesThrough_161 (d + 5) x2 (nI dep + (-1)) υ ∧ DfP σ υ ∧ (∀ i, i < dep → υ.1 46 i = τ.1 46 i ∧ υ.1 47 i = τ.1 47 i ∧ υ.2 48 i = τ.2 48 i ∧ υ.2 49 i = τ.2 49 i) ∧ υ.1 39 16 = nI (sF pt dep) ∧ ∀ c j, dm c j → υ.2 c j = τ.2 c j + lN (sm (fun q => if O.testBit q = true then VF T n L (phF T n K e c j) fu (sF pt (dep + 1) ||| 2 ^ q) q sh else 0) n) := by
  intro fu
  induction fu with
  | zero =>
    intro dep hdep O pt sh τ hD hr h46 h16 h47 hO hdj hsh hs
    have h0 : O = 0 := Decidable.byContradiction (fun q => by have := (hsh q).1; omega)
    subst h0
    obtain ⟨p1, p2⟩ := hr dep (by omega)
    have hn := h.1
    refine ⟨xm_sI τ 39 16 (nI (sF pt dep)), ?_, ⟨fun c hc => by rw [sI_cell _ _ _ (fun q => hc (by rw [q]; decide))]; exact hD.1 c hc, fun j hj => by rw [sI_row _ _ hj]; exact hD.2.1 j hj, hD.2.2.1, hD.2.2.2⟩, fun i hi => ⟨by rw [sI_cell _ _ _ (by decide)], by rw [sI_cell _ _ _ (by decide)], rfl, rfl⟩, sI_same _ _ _ _, fun c j _ => ?_⟩
    · rw [X_Mod_goesThrough_161_e, xm_br_f (nI_pos (by omega)), xm_ix_n (show dep < 7 by omega) (by omega), h47, xm_br_t nI_0, xm_ix_n (show dep < 7 by omega) (by omega), h16, h46 dep (Nat.le_refl _), sh_1 _ (by omega), an_nI _ (by have := pow9 hn.2 (sF_lt hr); omega), show an (sF pt (dep + 1)) (2 ^ pt dep) = sF pt dep from an_two p2]
    · rw [show sm (fun q => if Nat.testBit 0 q = true then _ else 0) n = 0 from sm_0 (fun q _ => if_neg (by simp)), lN_0]
      show τ.2 c j = _
      simp
  | succ fu ihf =>
    intro dep hdep O
    induction O using Nat.strongRecOn with
    | ind O ihO =>
      intro pt sh τ hD hr h46 h16 h47 hO hdj hsh hs
      have hn := h.1
      obtain ⟨p1, p2⟩ := hr dep (by omega)
      have hS := sF_lt hr
      have hS9 := pow9 hn.2 hS
      by_cases h0 : O = 0
      · subst h0
        refine ⟨xm_sI τ 39 16 (nI (sF pt dep)), ?_, ⟨fun c hc => by rw [sI_cell _ _ _ (fun q => hc (by rw [q]; decide))]; exact hD.1 c hc, fun j hj => by rw [sI_row _ _ hj]; exact hD.2.1 j hj, hD.2.2.1, hD.2.2.2⟩, fun i hi => ⟨by rw [sI_cell _ _ _ (by decide)], by rw [sI_cell _ _ _ (by decide)], rfl, rfl⟩, sI_same _ _ _ _, fun c j _ => ?_⟩
        · rw [X_Mod_goesThrough_161_e, xm_br_f (nI_pos (by omega)), xm_ix_n (show dep < 7 by omega) (by omega), h47, xm_br_t nI_0, xm_ix_n (show dep < 7 by omega) (by omega), h16, h46 dep (Nat.le_refl _), sh_1 _ (by omega), an_nI _ (by omega), show an (sF pt (dep + 1)) (2 ^ pt dep) = sF pt dep from an_two p2]
        · rw [show sm (fun q => if Nat.testBit 0 q = true then _ else 0) n = 0 from sm_0 (fun q _ => if_neg (by simp)), lN_0]
          show τ.2 c j = _
          simp
      obtain ⟨hdl, h49⟩ := hsh h0
      have hO9 := pow9 hn.2 hO
      obtain ⟨-, l2, l3, -⟩ := low_ok hO9 h0
      have ln : low O < n := by
        rcases Nat.lt_or_ge (low O) n with q | q
        · exact q
        · rw [Nat.testBit_lt_two_pow (Nat.lt_of_lt_of_le hO (Nat.pow_le_pow_right (by omega) q))] at l2
          cases l2
      have hdis := hdj (low O) l2
      have hle : O &&& (O - 1) ≤ O - 1 := Nat.and_le_right
      -- the store as the next one stands
      generalize hq : low O = q at *
      have hN := hD.nt h
      have S1 : DfP σ (xm_sL (xm_sI (xm_sI τ 47 dep (nI (O &&& (O - 1)))) 46 (dep + 1) (nI q)) 48 (dep + 1) (lN sh)) := by
        refine ⟨fun c hc => ?_, fun j hj => ?_, fun c hc => ?_, fun j hj => ?_⟩
        · have hc' : ∀ k, k ∈ [39, 46, 47] → c ≠ k := fun k hk e => hc (e ▸ hk)
          show (xm_sI (xm_sI τ 47 dep (nI (O &&& (O - 1)))) 46 (dep + 1) (nI q)).1 c = _
          rw [sI_cell _ _ _ (hc' 46 (by decide)), sI_cell _ _ _ (hc' 47 (by decide))]
          exact hD.1 c hc
        · show (xm_sI (xm_sI τ 47 dep (nI (O &&& (O - 1)))) 46 (dep + 1) (nI q)).1 39 j = _
          rw [sI_cell _ _ _ (by decide), sI_cell _ _ _ (by decide)]
          exact hD.2.1 j hj
        · rw [sL_cell _ _ _ (fun z => hc (by rw [z]; decide))]
          exact hD.2.2.1 c hc
        · rw [sL_cell _ _ _ (by decide)]
          exact hD.2.2.2 j hj
      have ptc : ∀ i, i < dep + 1 → sv pt (dep + 1) q i = pt i := fun i hi => sv_o _ _ (by omega)
      have sFc : sF (sv pt (dep + 1) q) (dep + 1) = sF pt (dep + 1) := sF_c ptc
      have hr' : rwP n (dep + 1 + 1) (sv pt (dep + 1) q) := by
        intro i hi
        by_cases z : i = dep + 1
        · rw [z, sv_s, sFc]; exact ⟨ln, hdis⟩
        · exact rwP_c hr ptc i (by omega)
      have sF2 : sF (sv pt (dep + 1) q) (dep + 1 + 1) = sF pt (dep + 1) ||| 2 ^ q := by
        show sF (sv pt (dep + 1) q) (dep + 1) ||| 2 ^ sv pt (dep + 1) q (dep + 1) = _
        rw [sFc, sv_s]
      have R46 : ∀ i, i ≤ dep + 1 → (xm_sL (xm_sI (xm_sI τ 47 dep (nI (O &&& (O - 1)))) 46 (dep + 1) (nI q)) 48 (dep + 1) (lN sh)).1 46 i = nI (sv pt (dep + 1) q i) := by
        intro i hi
        show (xm_sI (xm_sI τ 47 dep (nI (O &&& (O - 1)))) 46 (dep + 1) (nI q)).1 46 i = _
        rw [sI_at]
        by_cases z : i = dep + 1
        · rw [if_pos z, z, sv_s]
        · rw [if_neg z, sI_cell _ _ _ (by decide), sv_o _ _ z, h46 i (by omega)]
      obtain ⟨α, a1, a2, a3, a4, a5, a6, a7, a8, a9⟩ := C_stands (S1.nt h) (L := L) (e := e) (by rw [S1.2.1 9 (by decide)]; exact hL) hL7 he (by rw [S1.2.1 23 (by decide)]; exact h23) d (k := dep + 1) (w := sh) (pt := sv pt (dep + 1) q) (by omega) hr' R46 (by
        show (xm_sI (xm_sI τ 47 dep (nI (O &&& (O - 1)))) 46 (dep + 1) (nI q)).1 39 16 = _
        rw [sI_cell _ _ _ (by decide), sI_cell _ _ _ (by decide), sFc]
        exact h16) (sL_same _ _ _ _) hs
      have hDa := S1.tr a2
      have hop : opF T L (sv pt (dep + 1) q) (dep + 1) < 2 ^ n := op_lt h (by rw [sv_s]; exact ln)
      -- go to it
      have go : X_Mod_goesThrough_161 (d + 5) x2 (nI dep) τ = X_Mod_goesThrough_161 (d + 5) x2 (nI (dep + 1)) α := by
        rw [X_Mod_goesThrough_161_e, xm_br_f (nI_pos (by omega)), xm_ix_n (show dep < 7 by omega) (by omega), h47, xm_br_f (nI_ne0 (by omega) (by omega))]
        simp only [xm_ix_n (show dep < 7 by omega) (show 7 < 2 ^ 31 by omega), h47, C_lowest (d + 4) τ hO9 h0, xm_cI_s, nI_1, nI_pred, xm_ix_n (show dep + 1 < 7 by omega) (show 7 < 2 ^ 31 by omega), nI_m1 (show 1 ≤ O by omega), fa_and, h49, hq]
        rw [a1, xm_cV_s]
      -- and back from it
      obtain ⟨β, b1, b2, b3, b4, b5⟩ := ihf (dep + 1) (by omega) (opF T L (sv pt (dep + 1) q) (dep + 1)) (sv pt (dep + 1) q) (sh / pop 14 (opF T L (sv pt (dep + 1) q) (dep + 1))) α hDa hr' (fun i hi => by rw [a3]; exact R46 i hi) a5 a6 hop (fun z hz => by
        unfold opF at hz
        split at hz
        · exact (an_f hz).2
        · simp at hz) (fun hne => by
        rcases a9 with ⟨z, -⟩ | ⟨-, z, -⟩
        · exact absurd z hne
        · refine ⟨?_, z⟩
          unfold opF at hne
          split at hne
          · assumption
          · exact absurd rfl hne) (Nat.lt_of_le_of_lt (Nat.div_le_self _ _) hs)
      rw [pk_m1] at b1
      obtain ⟨c46, c47, c48, c49⟩ := b3 dep (by omega)
      have h47b : β.1 47 dep = nI (O &&& (O - 1)) := by
        rw [c47, a4 dep (by omega)]
        show (xm_sI (xm_sI τ 47 dep (nI (O &&& (O - 1)))) 46 (dep + 1) (nI q)).1 47 dep = _
        rw [sI_cell _ _ _ (by decide), sI_same]
      have k46 : ∀ i, i ≤ dep → β.1 46 i = τ.1 46 i := by
        intro i hi
        rw [(b3 i (by omega)).1, a3]
        show (xm_sI (xm_sI τ 47 dep (nI (O &&& (O - 1)))) 46 (dep + 1) (nI q)).1 46 i = _
        rw [sI_row _ _ (by omega), sI_cell _ _ _ (by decide)]
      have k49 : ∀ i, i ≤ dep → β.2 49 i = τ.2 49 i := by
        intro i hi
        rw [(b3 i (by omega)).2.2.2, a8 i (by omega), sL_cell _ _ _ (by decide)]
        rfl
      obtain ⟨γ, g1, g2, g3, g4, g5⟩ := ihO (O &&& (O - 1)) (by omega) pt sh β b2 hr (fun i hi => by rw [k46 i hi]; exact h46 i hi) (by rw [b4, sFc]) h47b (Nat.lt_of_le_of_lt hle (by omega)) (fun z hz => hdj z (by
        rw [Nat.testBit_and, Bool.and_eq_true] at hz
        exact hz.1)) (fun _ => ⟨hdl, by rw [k49 dep (Nat.le_refl _)]; exact h49⟩) hs
      refine ⟨γ, (go.trans b1).trans g1, g2, fun i hi => ?_, g4, fun c j hd => ?_⟩
      · obtain ⟨v1, v2, v3, v4⟩ := g3 i hi
        refine ⟨v1.trans (k46 i (by omega)), ?_, ?_, v4.trans (k49 i (by omega))⟩
        · rw [v2, (b3 i (by omega)).2.1, a4 i (by omega)]
          show (xm_sI (xm_sI τ 47 dep (nI (O &&& (O - 1)))) 46 (dep + 1) (nI q)).1 47 i = _
          rw [sI_cell _ _ _ (by decide), sI_row _ _ (by omega)]
        · rw [v3, (b3 i (by omega)).2.2.1, a7, sL_row _ _ (by omega)]
          rfl
      · -- the sums
        have cne : c ≠ 48 := by rcases hd with z | z | z | z | z <;> omega
        have e1 : (xm_sL (xm_sI (xm_sI τ 47 dep (nI (O &&& (O - 1)))) 46 (dep + 1) (nI q)) 48 (dep + 1) (lN sh)).2 c j = τ.2 c j := by rw [sL_cell _ _ _ cne]; rfl
        have hpq : pop 14 (sF pt (dep + 1) ||| 2 ^ q) = dep + 1 + 1 := by rw [← sF2]; exact sF_pop hn.2 hr'
        have key : β.2 c j = τ.2 c j + lN (VF T n L (phF T n K e c j) (fu + 1) (sF pt (dep + 1) ||| 2 ^ q) q sh) := by
          rw [b5 c j hd, sF2]
          show _ = τ.2 c j + lN (if pop 14 (an (T q) (sF pt (dep + 1) ||| 2 ^ q)) = 0 ∨ L ≤ pop 14 (sF pt (dep + 1) ||| 2 ^ q) then _ else _)
          have eo : opF T L (sv pt (dep + 1) q) (dep + 1) = if dep + 1 + 1 < L then an (T q) (sF pt (dep + 1) ||| 2 ^ q) else 0 := by
            unfold opF
            rw [sv_s, sF2]
          rcases a9 with ⟨z1, z2⟩ | ⟨z1, z2, z3⟩
          · rw [z2 c j hd, e1, z1, sF2]
            have hend : pop 14 (an (T q) (sF pt (dep + 1) ||| 2 ^ q)) = 0 ∨ L ≤ pop 14 (sF pt (dep + 1) ||| 2 ^ q) := by
              rw [hpq]
              by_cases w : dep + 1 + 1 < L
              · left
                rw [eo, if_pos w] at z1
                rw [z1, pop_0]
              · right; omega
            rw [if_pos hend, show sm (fun q => if Nat.testBit 0 q = true then _ else 0) n = 0 from sm_0 (fun q _ => if_neg (by simp)), lN_0]
            simp
          · rw [z3 c j hd, e1]
            have w : dep + 1 + 1 < L := Decidable.byContradiction (fun w => z1 (by rw [eo, if_neg w]))
            rw [if_pos w] at eo
            have hend : ¬ (pop 14 (an (T q) (sF pt (dep + 1) ||| 2 ^ q)) = 0 ∨ L ≤ pop 14 (sF pt (dep + 1) ||| 2 ^ q)) := by
              rw [hpq]
              rintro (u | u)
              · exact z1 (by rw [eo]; exact pop_pos 14 _ (by have := pow9 hn.2 (an_lt (b := sF pt (dep + 1) ||| 2 ^ q) (NtA_t h q (by omega))); omega) u)
              · omega
            rw [if_neg hend, eo]
        rw [g5 c j hd, key, Int64.add_assoc, lN_add, sm_low (fun q => VF T n L (phF T n K e c j) (fu + 1) (sF pt (dep + 1) ||| 2 ^ q) q sh) hO hn.2 h0, hq]
end ST
