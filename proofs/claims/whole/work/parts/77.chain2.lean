/-! CHAINS: the class follows them -/
/-- what is still to be brought, from a place on -/
def P2 (T : Nat → Nat) (n L : Nat) (f g : Nat → Nat) (cur : Nat) : Nat := sm (fun i => if cur ≤ i then VV T n L f (i / 9) (i % 9) (g i) else 0) 4608
/-- what may stand from a place on -/
def CnJ (n cur : Nat) (g : Nat → Nat) : Prop := ∀ i, cur ≤ i → i < 4608 → g i ≠ 0 → 1 ≤ i / 9 ∧ i / 9 < 2 ^ n ∧ i % 9 < n ∧ ∃ a, g i = a * DD (pop 14 (i / 9))
def CsP (σ τ : Sg) (g e : Nat → Nat) : Prop := τ.1 = σ.1 ∧ (∀ c, c ∉ [4, 5] → τ.2 c = σ.2 c) ∧ (∀ i, i < 4608 → τ.2 4 i = lN (g i)) ∧ ∀ S, S < 512 → τ.2 5 S = lN (e S)
theorem P2_st (T : Nat → Nat) (n L : Nat) (f g : Nat → Nat) {cur : Nat} (h : cur < 4608) : P2 T n L f g cur = P2 T n L f g (cur + 1) + VV T n L f (cur / 9) (cur % 9) (g cur) := by
  unfold P2
  refine sm_u1 (t := cur) h ?_ (fun i hi => ?_)
  · show (if cur ≤ cur then VV T n L f (cur / 9) (cur % 9) (g cur) else 0) = (if cur + 1 ≤ cur then _ else 0) + _
    rw [if_pos (Nat.le_refl _), if_neg (by omega), Nat.zero_add]
  · show (if cur ≤ i then _ else 0) = (if cur + 1 ≤ i then _ else 0)
    by_cases e : cur ≤ i
    · rw [if_pos e, if_pos (by omega)]
    · rw [if_neg e, if_neg (by omega)]
theorem P2_up (T : Nat → Nat) (n L : Nat) (f g g' : Nat → Nat) {cur t δ : Nat} (ht : t < 4608) (hc : cur ≤ t) (h1 : VV T n L f (t / 9) (t % 9) (g' t) = VV T n L f (t / 9) (t % 9) (g t) + δ) (h2 : ∀ i, i ≠ t → g' i = g i) : P2 T n L f g' cur = P2 T n L f g cur + δ := by
  unfold P2
  refine sm_u1 (t := t) ht ?_ (fun i hi => ?_)
  · show (if cur ≤ t then VV T n L f (t / 9) (t % 9) (g' t) else 0) = (if cur ≤ t then VV T n L f (t / 9) (t % 9) (g t) else 0) + δ
    rw [if_pos hc, if_pos hc, h1]
  · show (if cur ≤ i then VV T n L f (i / 9) (i % 9) (g' i) else 0) = (if cur ≤ i then VV T n L f (i / 9) (i % 9) (g i) else 0)
    rw [h2 i hi]
theorem pop_1 {S : Nat} (h : 1 ≤ S) (h2 : S < 512) : 1 ≤ pop 14 S := by
  rcases Nat.eq_zero_or_pos (pop 14 S) with e | e
  · have := pop_pos 14 S (by omega) e
    omega
  · exact e
section CH
variable {T : Nat → Nat} {n K L : Nat} {σ : Sg}
theorem NtA_t (h : NtA n T K σ) : ∀ p, p < 9 → T p < 2 ^ n := fun p hp => (h.2.2.2.1 p hp).2.2.1
/-- one more share at a place -/
theorem VV_add (h : NtA n T K σ) (hL : L ≤ 7) (f : Nat → Nat) {S l : Nat} (hS : 1 ≤ S) (hS2 : S < 2 ^ n) (hl : l < 9) (a b : Nat) : VV T n L f S l (a * DD (pop 14 S) + b * DD (pop 14 S)) = VV T n L f S l (a * DD (pop 14 S)) + VV T n L f S l (b * DD (pop 14 S)) := by
  have hn := h.1
  have hp := pop_1 hS (pow9 hn.2 hS2)
  unfold VV
  rw [← Nat.add_mul, VF_lin hn.2 hL (NtA_t h) 7 S l (a + b) hS2 hl hp, VF_lin hn.2 hL (NtA_t h) 7 S l a hS2 hl hp, VF_lin hn.2 hL (NtA_t h) 7 S l b hS2 hl hp, Nat.add_mul]
theorem ix9 {S l : Nat} (hl : l < 9) : (9 * S + l) / 9 = S ∧ (9 * S + l) % 9 = l := by omega
theorem C_place (d : Nat) (S l : Nat) (σ : Sg) : X_Chains_place d (nI S) (nI l) σ = some (some (.int (nI (9 * S + l))), σ) := by
  rw [X_Chains_place_e, show nI S * 9 = nI (9 * S) by rw [Nat.mul_comm, ← pk_mul]; rfl, nI_add]
theorem or_nI {S q : Nat} : (nI S ||| nI (2 ^ q)) = nI (S ||| 2 ^ q) := fa_or _ _
/-- a chain goes on to each that is free -/
theorem C_on70 (h : NtA n T K σ) (hL : L ≤ 7) (d : Nat) {S l a y : Nat} (hS : 1 ≤ S) (hS2 : S < 2 ^ n) (hl : l < n) (hc0 : pop 14 (an (T l) S) ≠ 0) (hy : a * DD (pop 14 S) / pop 14 (an (T l) S) = y * DD (pop 14 S + 1)) (hG : a * DD (pop 14 S) < 2 ^ 63) : ∀ (k q : Nat) (τ : Sg) (g e : Nat → Nat), q + k = n → CsP σ τ g e → CnJ n (9 * S + l + 1) g → ∃ υ g', X_Chains_goOn_70 (d + 1) (nI S) (lN (a * DD (pop 14 S))) (nI (an (T l) S)) (nI (pop 14 (an (T l) S))) (nI q) τ = some (none, υ) ∧ CsP σ υ g' e ∧ CnJ n (9 * S + l + 1) g' ∧ ∀ f, P2 T n L f g' (9 * S + l + 1) + sm (fun q => if (an (T l) S).testBit q = true then VV T n L f (S ||| 2 ^ q) q (y * DD (pop 14 S + 1)) else 0) q = P2 T n L f g (9 * S + l + 1) + sm (fun q => if (an (T l) S).testBit q = true then VV T n L f (S ||| 2 ^ q) q (y * DD (pop 14 S + 1)) else 0) n
  | 0, q, τ, g, e, hq, ht, hj => by
    have hn := h.1
    have : q = n := by omega
    subst this
    refine ⟨τ, g, ?_, ht, hj, fun f => rfl⟩
    rw [X_Chains_goOn_70_e, (NtA_1 h ht.1).2.1, xm_br_t (nI_le (by omega) (by omega))]
  | k + 1, q, τ, g, e, hq, ht, hj => by
    have hn := h.1
    have h9 := pow9 hn.2 hS2
    have ha9 : an (T l) S < 512 := Nat.lt_of_le_of_lt (an_le _ _) (h.T (by omega))
    have hp9 := pop_9 ha9
    rw [X_Chains_goOn_70_e, (NtA_1 h ht.1).2.1, xm_br_f (nI_ge (by omega) (by omega))]
    by_cases b : (an (T l) S).testBit q = true
    rotate_left
    · obtain ⟨υ, g', u1, u2, u3, u4⟩ := C_on70 h hL d hS hS2 hl hc0 hy hG k (q + 1) τ g e (by omega) ht hj
      refine ⟨υ, g', ?_, u2, u3, fun f => ?_⟩
      · rw [xm_br_f (fun z => b ((bt_t (by omega) (by omega)).mp z)), nI_1]; exact u1
      · have := u4 f
        rw [show ∀ F : Nat → Nat, sm F (q + 1) = sm F q + F q from fun _ => rfl, if_neg b, Nat.add_zero] at this
        exact this
    · have hS' : S ||| 2 ^ q < 2 ^ n := Nat.or_lt_two_pow hS2 (Nat.pow_lt_pow_right (by omega) (by omega))
      have hS9 := pow9 hn.2 hS'
      have hgt := or_gt (an_f b).2
      have hpi := pop_ins (S := S) (q := q) (by omega) (an_f b).2
      obtain ⟨i1, i2⟩ := ix9 (S := S ||| 2 ^ q) (l := q) (by omega)
      have htl : 9 * (S ||| 2 ^ q) + q < 4608 := by omega
      rw [xm_br_t ((bt_t (by omega) (by omega)).mpr b), sh_1 q (by omega), or_nI, C_place, xm_cI_s, xm_ix_n htl (by omega), nI_l (by omega), xm_dvL_n (l_ne0 (by omega) hc0), xm_ix_n htl (by omega), pk_lDiv hG (by omega) (by omega), hy, ht.2.2.1 _ htl, lN_add, nI_1]
      -- what stood there
      obtain ⟨b0, eb⟩ : ∃ b0, g (9 * (S ||| 2 ^ q) + q) = b0 * DD (pop 14 (S ||| 2 ^ q)) := by
        by_cases z : g (9 * (S ||| 2 ^ q) + q) = 0
        · exact ⟨0, by rw [z, Nat.zero_mul]⟩
        · obtain ⟨-, -, -, w, hw⟩ := hj _ (by omega) htl z
          rw [i1] at hw
          exact ⟨w, hw⟩
      obtain ⟨υ, g', u1, u2, u3, u4⟩ := C_on70 h hL d hS hS2 hl hc0 hy hG k (q + 1) (xm_sL τ 4 (9 * (S ||| 2 ^ q) + q) (lN (g (9 * (S ||| 2 ^ q) + q) + y * DD (pop 14 S + 1)))) (sv g (9 * (S ||| 2 ^ q) + q) (g (9 * (S ||| 2 ^ q) + q) + y * DD (pop 14 S + 1))) e (by omega) ⟨ht.1, fun c hc => by rw [sL_cell _ _ _ (fun z => hc (by rw [z]; decide))]; exact ht.2.1 c hc, fun i hi => by
          rw [sL_at]
          by_cases z : i = 9 * (S ||| 2 ^ q) + q
          · rw [if_pos z, z, sv_s]
          · rw [if_neg z, sv_o _ _ z]; exact ht.2.2.1 i hi, fun s hs => by rw [sL_cell _ _ _ (by decide)]; exact ht.2.2.2 s hs⟩ (fun i hi1 hi2 hne => by
          by_cases z : i = 9 * (S ||| 2 ^ q) + q
          · rw [z, sv_s, i1, i2]
            exact ⟨by omega, hS', by omega, b0 + y, by rw [eb, hpi, Nat.add_mul]⟩
          · rw [sv_o _ _ z] at hne ⊢
            exact hj i hi1 hi2 hne)
      refine ⟨υ, g', u1, u2, u3, fun f => ?_⟩
      have hup := P2_up T n L f g (sv g (9 * (S ||| 2 ^ q) + q) (g (9 * (S ||| 2 ^ q) + q) + y * DD (pop 14 S + 1))) (cur := 9 * S + l + 1) (t := 9 * (S ||| 2 ^ q) + q) (δ := VV T n L f (S ||| 2 ^ q) q (y * DD (pop 14 S + 1))) htl (by omega) (by
        rw [sv_s, i1, i2, eb, ← hpi]
        exact VV_add h hL f (by omega) hS' (by omega) b0 y) (fun i hi => sv_o _ _ hi)
      have := u4 f
      rw [hup, show ∀ F : Nat → Nat, sm F (q + 1) = sm F q + F q from fun _ => rfl, if_pos b] at this
      omega
/-- the whole: what all begin with -/
def CstF (T : Nat → Nat) (n L : Nat) (s : Int32) (f : Nat → Nat) : Nat := sm (fun p => stN n s p * VV T n L f (2 ^ p) p 91445760000) n
def CnI (T : Nat → Nat) (n L : Nat) (s : Int32) (cur : Nat) (g e : Nat → Nat) : Prop := CnJ n cur g ∧ ∀ f, sm (fun S => e S * f S) 512 + P2 T n L f g cur = CstF T n L s f
theorem pow_p {p : Nat} (hp : p < 9) : 1 ≤ 2 ^ p ∧ pop 14 (2 ^ p) = 1 := by
  have key : ∀ p, p < 9 → 1 ≤ 2 ^ p ∧ pop 14 (2 ^ p) = 1 := by decide
  exact key p hp
theorem Cst_1 (h : NtA n T K σ) (hL : L ≤ 7) (s : Int32) : CstF T n L s (fun _ => 1) = sm (stN n s) n * 91445760000 := by
  have hn := h.1
  unfold CstF
  rw [← sm_mulr]
  refine sm_c (fun p hp => ?_)
  have hp2 : 2 ^ p < 2 ^ n := Nat.pow_lt_pow_right (by omega) hp
  obtain ⟨p1, p2⟩ := pow_p (show p < 9 by omega)
  show stN n s p * VV T n L (fun _ => 1) (2 ^ p) p 91445760000 = stN n s p * 91445760000
  have := VF_1 (f := fun _ => 1) hn.2 hL (NtA_t h) (fun _ => rfl) 7 (2 ^ p) p 1 hp2 (by omega) (by omega)
  rw [p2, Nat.one_mul] at this
  exact congrArg (stN n s p * ·) this
theorem g_le (h : NtA n T K σ) (hL : L ≤ 7) {s : Int32} {cur : Nat} {g e : Nat → Nat} (hI : CnI T n L s cur g e) (hc : cur < 4608) : g cur ≤ 9 * 91445760000 := by
  have hn := h.1
  have h1 := hI.2 (fun _ => 1)
  rw [Cst_1 h hL s, P2_st T n L _ g hc] at h1
  have h2 := st_le n s
  have h3 : sm (stN n s) n * 91445760000 ≤ 9 * 91445760000 := Nat.mul_le_mul_right _ (by omega)
  by_cases z : g cur = 0
  · omega
  · obtain ⟨a1, a2, a3, a, ha⟩ := hI.1 cur (Nat.le_refl _) hc z
    have := VF_1 (f := fun _ => 1) hn.2 hL (NtA_t h) (fun _ => rfl) 7 (cur / 9) (cur % 9) a a2 (by omega) (pop_1 a1 (pow9 hn.2 a2))
    rw [← ha] at this
    have e : VV T n L (fun _ => 1) (cur / 9) (cur % 9) (g cur) = g cur := this
    omega
theorem C_goOn (h : NtA n T K σ) (hL : 1 ≤ L ∧ L ≤ 7) (d : Nat) {s : Int32} {S l : Nat} (hS : 1 ≤ S) (hS2 : S < 2 ^ n) (hl : l < n) {τ : Sg} {g e : Nat → Nat} (ht : CsP σ τ g e) (hI : CnI T n L s (9 * S + l) g e) : ∃ υ g' e', X_Chains_goOn (d + 1) (nI S) (nI l) (nI L) τ = some (none, υ) ∧ CsP σ υ g' e' ∧ CnI T n L s (9 * S + l + 1) g' e' := by
  have hn := h.1
  have h9 := pow9 hn.2 hS2
  have htl : 9 * S + l < 4608 := by omega
  have hN := NtA_1 h ht.1
  obtain ⟨i1, i2⟩ := ix9 (S := S) (l := l) (by omega)
  have hgl := g_le h hL.2 hI htl
  have hpS := pop_1 hS h9
  have hpS9 := pop_9 h9
  have ha9 : an (T l) S < 512 := Nat.lt_of_le_of_lt (an_le _ _) (h.T (by omega))
  have hp9 := pop_9 ha9
  rw [X_Chains_goOn_e, C_place, xm_cI_s, xm_ix_n htl (by omega), ht.2.2.1 _ htl]
  by_cases z : g (9 * S + l) = 0
  · refine ⟨τ, g, e, ?_, ht, fun i hi1 hi2 => hI.1 i (by omega) hi2, fun f => ?_⟩
    · rw [xm_br_t ((l_eq0 (by omega)).mpr z)]
    · have := hI.2 f
      rw [P2_st T n L f g htl, z, show VV T n L f ((9 * S + l) / 9) ((9 * S + l) % 9) 0 = 0 from VF_0 _ _ _, Nat.add_zero] at this
      exact this
  rw [xm_br_f (fun q => z ((l_eq0 (by omega)).mp q)), xm_ix_n (show l < 9 by omega) (by omega), (hN.c l (by omega)).1, an_nI _ (by have := h.T (show l < 9 by omega); omega), C_bitCount _ _ (by omega), xm_cI_s, C_bitCount _ _ (by omega), xm_cI_s]
  obtain ⟨-, -, -, a, ha⟩ := hI.1 _ (Nat.le_refl _) htl z
  rw [i1] at ha
  -- it ends here
  have fin : (pop 14 (an (T l) S) = 0 ∨ L ≤ pop 14 S) → ∃ υ g' e', (some (none, xm_sL τ 5 S (τ.2 5 S + lN (g (9 * S + l)))) : Oz) = some (none, υ) ∧ CsP σ υ g' e' ∧ CnI T n L s (9 * S + l + 1) g' e' := by
    intro hend
    refine ⟨_, g, sv e S (e S + g (9 * S + l)), rfl, ⟨ht.1, fun c hc => by rw [sL_cell _ _ _ (fun z => hc (by rw [z]; decide))]; exact ht.2.1 c hc, fun i hi => by rw [sL_cell _ _ _ (by decide)]; exact ht.2.2.1 i hi, fun R hR => ?_⟩, fun i hi1 hi2 => hI.1 i (by omega) hi2, fun f => ?_⟩
    · rw [sL_at]
      by_cases q : R = S
      · rw [if_pos q, q, sv_s, ht.2.2.2 S h9, lN_add]
      · rw [if_neg q, sv_o _ _ q]; exact ht.2.2.2 R hR
    · have := hI.2 f
      rw [P2_st T n L f g htl, i1, i2, VV_un hn.2 hL.2 hpS, if_pos hend] at this
      rw [sm_u1 (f := fun S => e S * f S) (g := fun R => sv e S (e S + g (9 * S + l)) R * f R) (t := S) (δ := g (9 * S + l) * f S) h9 (by
        show sv e S (e S + g (9 * S + l)) S * f S = e S * f S + _
        rw [sv_s, Nat.add_mul]) (fun i hi => by
        show sv e S (e S + g (9 * S + l)) i * f i = e i * f i
        rw [sv_o _ _ hi])]
      omega
  by_cases hc0 : pop 14 (an (T l) S) = 0
  · rw [hc0, xm_br_t nI_0, xm_ix_n (show S < 512 by omega) (by omega), xm_ix_n (show S < 512 by omega) (by omega)]
    exact fin (Or.inl hc0)
  rw [xm_br_f (nI_ne0 (by omega) (by omega))]
  by_cases hLs : L ≤ pop 14 S
  · rw [xm_br_f (nI_nlt hLs (by omega)), xm_ix_n (show S < 512 by omega) (by omega), xm_ix_n (show S < 512 by omega) (by omega)]
    exact fin (Or.inr hLs)
  rw [xm_br_t (nI_lt (by omega) (by omega)), ha]
  have hfr := fr_le hn.2 (NtA_t h l (by omega)) hS2
  have hD := DD_st (pop 14 S) (by omega) (pop 14 (an (T l) S)) (by omega) hpS (by omega) (by omega)
  have hy : a * DD (pop 14 S) / pop 14 (an (T l) S) = (a * (ff (pop 14 S) / pop 14 (an (T l) S))) * DD (pop 14 S + 1) := by
    have hc : 0 < pop 14 (an (T l) S) := by omega
    generalize pop 14 (an (T l) S) = c at *
    generalize ff (pop 14 S) / c = x at *
    rw [hD, show a * (c * (x * DD (pop 14 S + 1))) = c * (a * x * DD (pop 14 S + 1)) by
      simp only [Nat.mul_assoc, Nat.mul_comm, Nat.mul_left_comm], Nat.mul_div_cancel_left _ hc]
  obtain ⟨υ, g', u1, u2, u3, u4⟩ := C_on70 h hL.2 d hS hS2 hl hc0 hy (by rw [← ha]; omega) n 0 τ g e (by omega) ht (fun i hi1 hi2 => hI.1 i (by omega) hi2)
  refine ⟨υ, g', e, u1, u2, u3, fun f => ?_⟩
  have h1 := hI.2 f
  have h2 := u4 f
  rw [P2_st T n L f g htl, i1, i2, VV_un hn.2 hL.2 hpS, if_neg (fun q => q.elim hc0 hLs), ha, hy] at h1
  rw [show ∀ F : Nat → Nat, sm F 0 = 0 from fun _ => rfl] at h2
  omega
end CH
