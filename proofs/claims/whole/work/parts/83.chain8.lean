/-! CHAINS: the ops -/
def ChP (n : Nat) (T : Nat → Nat) (c : Nat) (σ : Sg) : Sg → Prop := fun τ => Ec σ τ ∧ CcA n T c τ
theorem CcA.es {n c : Nat} {T : Nat → Nat} {σ τ : Sg} (h : CcA n T c σ) (g : Es σ τ) : CcA n T c τ := by
  have e1 : τ.1 1 = σ.1 1 := g.1 1 (by decide)
  have e3 : τ.1 3 = σ.1 3 := g.1 3 (by decide)
  unfold CcA ChG
  rw [e1, e3, g.2.2.1, g.2.2.2]
  exact h
theorem ChG.es {n L : Nat} {T : Nat → Nat} {s : Int32} {σ τ : Sg} (h : ChG T n s L σ) (g : Es σ τ) : ChG T n s L τ := by
  unfold ChG
  rw [g.2.2.1, g.2.2.2]
  exact h
section CO
variable {T : Nat → Nat} {n K L c : Nat} {s : Int32} {σ : Sg}
theorem cst_c (hn : n ≤ 9) {f g : Nat → Nat} (h : ∀ S, 1 ≤ S → S < 2 ^ n → f S = g S) : CstF T n L s f = CstF T n L s g := by
  unfold CstF
  refine sm_c (fun p hp => ?_)
  show stN n s p * VF T n L f 7 (2 ^ p) p 91445760000 = stN n s p * VF T n L g 7 (2 ^ p) p 91445760000
  rw [VF_c hn h 7 _ _ _ (two_pos p) (Nat.pow_lt_pow_right (by omega) hp)]
/-- the answer of both -/
noncomputable def chA (T : Nat → Nat) (n L : Nat) (s : Int32) (f : Nat → Nat) (w : Int32) : Int64 := frN (CstF T n L s f) (sm (stN n s) n * 91445760000) w
theorem chA_r (T : Nat → Nat) (n L : Nat) (s : Int32) (f : Nat → Nat) (w : Int32) : frN (3841600 * CstF T n L s f) (sm (stN n s) n * 351298031616000000) w = chA T n L s f w := by
  unfold chA
  rw [Nat.mul_comm 3841600, show (351298031616000000 : Nat) = 91445760000 * 3841600 from rfl, ← Nat.mul_assoc, frN_scale (by omega)]
theorem foll_ec {τ : Sg} (h1 : ∀ k, k ≠ 3 → τ.1 k = σ.1 k) : Ec σ τ := ⟨fun k _ h3 => h1 k h3, fun j _ => by rw [h1 39 (by decide)]⟩
/-- the class's fraction behind a sum -/
theorem C_chf (h : NtA n T K σ) (hG : ChG T n s L σ) (d : Nat) {f : Nat → Nat} (hf : ∀ S, f S ≤ 1) (w : Int32) : X_TO_fraction (d + 1) (lN (CstF T n L s f)) (σ.2 3 6) w σ = some (some (.long (chA T n L s f w)), σ) := by
  have hn := h.1
  obtain ⟨e, -, -, g3⟩ := hG
  have l1 := Cst_le h hf s L
  have l2 : sm (stN n s) n * 91445760000 ≤ 9 * 91445760000 := Nat.mul_le_mul_right _ (by have := st_le n s; omega)
  rw [g3, F_frac d _ w (by omega) (by omega)]
  rfl
/-- the reference's -/
theorem C_chr (h : NtA n T K σ) (hs : s = -1 ∨ inR s n) (d : Nat) {f : Nat → Nat} (hf : ∀ S, f S ≤ 1) (w : Int32) (τ : Sg) : X_Mod_part (d + 1) (lN (3841600 * CstF T n L s f)) (lN (sm (stN n s) n * 351298031616000000)) w τ = some (some (.long (chA T n L s f w)), τ) := by
  have hn := h.1
  have l1 := Cst_le h hf s L
  have l2 := st_le n s
  have l3 := st_pos hn hs
  have l4 : sm (stN n s) n * 351298031616000000 ≤ 9 * 351298031616000000 := Nat.mul_le_mul_right _ (by omega)
  have l5 : 3841600 * CstF T n L s f ≤ 3841600 * (9 * 91445760000) := Nat.mul_le_mul_left _ (Nat.le_trans l1 (Nat.mul_le_mul_right _ (by omega)))
  have l6 : 0 < sm (stN n s) n * 351298031616000000 := Nat.mul_pos (by omega) (by omega)
  rw [F_part d _ w (by omega) (by omega) (by omega), chA_r]
theorem and_1 {S p : Nat} : S &&& 2 ^ p = 2 ^ p ↔ S.testBit p = true := by
  constructor
  · intro q
    have := congrArg (fun z => z.testBit p) q
    simp only [Nat.testBit_and, Nat.testBit_two_pow_self, Bool.and_true] at this
    exact this
  · intro q
    apply Nat.eq_of_testBit_eq
    intro i
    rw [Nat.testBit_and, Nat.testBit_two_pow]
    by_cases e : p = i
    · subst e; rw [q]; simp
    · rw [decide_eq_false e]; simp
theorem and_2 {S a b : Nat} : S &&& (2 ^ a ||| 2 ^ b) = 2 ^ a ||| 2 ^ b ↔ S.testBit a = true ∧ S.testBit b = true := by
  constructor
  · intro q
    have h1 := congrArg (fun z => z.testBit a) q
    have h2 := congrArg (fun z => z.testBit b) q
    simp only [Nat.testBit_and, Nat.testBit_or, Nat.testBit_two_pow_self, Bool.and_true, Bool.true_or, Bool.or_true] at h1 h2
    exact ⟨h1, h2⟩
  · rintro ⟨q1, q2⟩
    apply Nat.eq_of_testBit_eq
    intro i
    rw [Nat.testBit_and, Nat.testBit_or, Nat.testBit_two_pow, Nat.testBit_two_pow]
    by_cases e : a = i
    · subst e; rw [q1]; simp
    · by_cases e2 : b = i
      · subst e2; rw [q2]; simp
      · rw [decide_eq_false e, decide_eq_false e2]; simp
theorem iF_eq {P : Nat → Prop} {g : Nat → Nat} (h1 : ∀ S, P S → g S = 1) (h0 : ∀ S, ¬ P S → g S = 0) : ∀ S, 1 ≤ S → S < 2 ^ n → iF n P S = g S := by
  intro S a b
  by_cases q : P S
  · rw [iF_t ⟨a, b⟩ q, h1 S q]
  · rw [iF_f (fun z => q z.2), h0 S q]
/-- found, the class -/
theorem C_found (h : NtA n T K σ) (hs : StA n s L σ) (hc : CcA n T c σ) (d e : Nat) {p : Nat} {w : Int32} (hp : p < n) (hw : inR w 2) : ∃ τ, X_TO_found (d + 4) (nI p) w σ = some (some (.long (chA T n L s (phF T n K e 50 p) w)), τ) ∧ ChP n T c σ τ := by
  have hn := h.1
  obtain ⟨τ, t1, t2, t3, t4, t5⟩ := C_foll h hs.2.2.2.2.2 hc s d
  have hE := foll_ec t4
  have ht := h.ec hE
  refine ⟨τ, ?_, hE, t3⟩
  have e1 : CstF T n L s (iF n (fun S => S &&& 2 ^ p = 2 ^ p)) = CstF T n L s (phF T n K e 50 p) := cst_c hn.2 (iF_eq (fun S q => by rw [phF_50, and_1.mp q]; rfl) (fun S q => by
    rw [phF_50]
    cases z : S.testBit p
    · rfl
    · exact absurd (and_1.mpr z) q))
  rw [X_TO_found_e, C_holds _ _ σ (by omega) h.2.1, xm_cI_s, xm_br_b ⟨p, hp, rfl⟩, C_isBit, xm_cI_s, xm_br_b hw, hs.1, hs.2.2.2.1, t1, xm_cV_s, sh_1 p (by omega), C_holding ht t2 (d + 2) (by have := p2_512 (show p < 9 by omega); omega), xm_cL_s, e1, C_chf ht t2 (d + 2) (phF_1 T n K e 50 p), xm_cL_s]
/-- within, the class -/
theorem C_within (h : NtA n T K σ) (hs : StA n s L σ) (hc : CcA n T c σ) (d : Nat) {e : Nat} {w : Int32} (he : e ≤ 100) (hw : inR w 2) : ∃ τ, X_TO_within (d + 4) (nI e) w σ = some (some (.long (chA T n L s (phF T n K e 39 22) w)), τ) ∧ ChP n T c σ τ := by
  have hn := h.1
  obtain ⟨τ, t1, t2, t3, t4, t5⟩ := C_foll h hs.2.2.2.2.2 hc s d
  have hE := foll_ec t4
  have ht := h.ec hE
  refine ⟨τ, ?_, hE, t3⟩
  have e1 : CstF T n L s (iF n (nrP T n K e)) = CstF T n L s (phF T n K e 39 22) := cst_c hn.2 (iF_eq (fun S q => by rw [phF_39, if_pos q]) (fun S q => by rw [phF_39, if_neg q]))
  have hu : 0 ≤ nI e ∧ nI e ≤ 100 := ⟨nI_pos' (by omega), nI_le (b := 100) he (by omega)⟩
  rw [X_TO_within_e, C_isUpTo, xm_cI_s, xm_br_b hu, C_isBit, xm_cI_s, xm_br_b hw, hs.1, hs.2.2.2.1, t1, xm_cV_s, C_near ht t2 d he, xm_cL_s, e1, C_chf ht t2 (d + 2) (phF_1 T n K e 39 22), xm_cL_s]
theorem O_found (h : NtA n T K σ) (hs : StA n s L σ) (hc : CcA n T c σ) (d : Nat) (x w : Int32) : OpL (X_TO_found (d + 6) x w) (X_Mod_found (d + 6) x w) (ChP n T c σ) σ := by
  unfold OpL
  have hn := h.1
  by_cases hx : inR x n
  rotate_left
  · refine ⟨BADL, σ, σ, ?_, ?_, Ec.rf σ, hc⟩
    · rw [X_TO_found_e, C_holds _ _ σ (by omega) h.2.1, xm_cI_s, xm_br_n hx, C_refusal, xm_cL_s]; rfl
    · rw [X_Mod_found_e, C_isPerson _ _ σ (by omega) (by omega) h.2.2.1, xm_cI_s, xm_br_n hx, C_no, xm_cL_s]; rfl
  by_cases hw : inR w 2
  rotate_left
  · refine ⟨BADL, σ, σ, ?_, ?_, Ec.rf σ, hc⟩
    · rw [X_TO_found_e, C_holds _ _ σ (by omega) h.2.1, xm_cI_s, xm_br_b hx, C_isBit, xm_cI_s, xm_br_n hw, C_refusal, xm_cL_s]; rfl
    · rw [X_Mod_found_e, C_isPerson _ _ σ (by omega) (by omega) h.2.2.1, xm_cI_s, xm_br_b hx, C_isTwo, xm_cI_s, xm_br_n hw, C_no, xm_cL_s]; rfl
  have hx0 := hx
  obtain ⟨p, hp, rfl⟩ := hx
  obtain ⟨τ, t1, t2, t3⟩ := C_found h hs hc (d + 2) 0 hp hw
  have ht := h.ec t2
  obtain ⟨υ, u1, u2, u3, u4⟩ := C_gt ht (hs.ec t2) (e := 0) (by omega) d
  refine ⟨_, τ, υ, t1, ?_, t2.tr u2.ec, t3.es u2⟩
  rw [X_Mod_found_e, C_isPerson _ _ τ (by omega) (by omega) ht.2.2.1, xm_cI_s, xm_br_b hx0, C_isTwo, xm_cI_s, xm_br_b hw, show X_Mod_goesThrough (d + 5) 0 τ = _ from u1, xm_cV_s, xm_ix_n (show p < 9 by omega) (by omega), u3 50 p (Or.inl ⟨rfl, by omega⟩), u4, C_chr h hs.2.2.1 (d + 4) (phF_1 T n K 0 50 p) w υ, xm_cL_s]
theorem O_within (h : NtA n T K σ) (hs : StA n s L σ) (hc : CcA n T c σ) (d : Nat) (x w : Int32) : OpL (X_TO_within (d + 6) x w) (X_Mod_within (d + 6) x w) (ChP n T c σ) σ := by
  unfold OpL
  have h9 : ∀ τ, X_Mod_in (d + 5) x.toInt64 0 100 τ = some (some (.int (bI (0 ≤ x ∧ x ≤ 100))), τ) := fun τ => C_in32 (d + 5) x 0 100 τ
  by_cases hx : 0 ≤ x ∧ x ≤ 100
  rotate_left
  · refine ⟨BADL, σ, σ, ?_, ?_, Ec.rf σ, hc⟩
    · rw [X_TO_within_e, C_isUpTo, xm_cI_s, xm_br_n hx, C_refusal, xm_cL_s]; rfl
    · rw [X_Mod_within_e, h9, xm_cI_s, xm_br_n hx, C_no, xm_cL_s]; rfl
  by_cases hw : inR w 2
  rotate_left
  · refine ⟨BADL, σ, σ, ?_, ?_, Ec.rf σ, hc⟩
    · rw [X_TO_within_e, C_isUpTo, xm_cI_s, xm_br_b hx, C_isBit, xm_cI_s, xm_br_n hw, C_refusal, xm_cL_s]; rfl
    · rw [X_Mod_within_e, h9, xm_cI_s, xm_br_b hx, C_isTwo, xm_cI_s, xm_br_n hw, C_no, xm_cL_s]; rfl
  obtain ⟨e, -, he, rfl⟩ := up_n (a := 0) (b := 100) (by omega) hx (by omega)
  obtain ⟨τ, t1, t2, t3⟩ := C_within h hs hc (d + 2) he hw
  have ht := h.ec t2
  obtain ⟨υ, u1, u2, u3, u4⟩ := C_gt ht (hs.ec t2) (e := e) he d
  refine ⟨_, τ, υ, t1, ?_, t2.tr u2.ec, t3.es u2⟩
  rw [X_Mod_within_e, h9, xm_cI_s, xm_br_b hx, C_isTwo, xm_cI_s, xm_br_b hw, u1, xm_cV_s, u3 39 22 (Or.inr (Or.inr (Or.inr (Or.inr ⟨rfl, rfl⟩)))), u4, C_chr h hs.2.2.1 (d + 4) (phF_1 T n K e 39 22) w υ, xm_cL_s]
theorem O_both (h : NtA n T K σ) (hs : StA n s L σ) (hc : CcA n T c σ) (d : Nat) (x y w : Int32) : OpL (X_TO_both (d + 6) x y w) (X_Mod_both (d + 6) x y w) (ChP n T c σ) σ := by
  unfold OpL
  have hn := h.1
  by_cases hx : inR x n
  rotate_left
  · refine ⟨BADL, σ, σ, ?_, ?_, Ec.rf σ, hc⟩
    · rw [X_TO_both_e, C_holds _ _ σ (by omega) h.2.1, xm_cI_s, xm_br_n hx, C_refusal, xm_cL_s]; rfl
    · rw [X_Mod_both_e, C_isPerson _ _ σ (by omega) (by omega) h.2.2.1, xm_cI_s, xm_br_n hx, C_no, xm_cL_s]; rfl
  by_cases hy : inR y n
  rotate_left
  · refine ⟨BADL, σ, σ, ?_, ?_, Ec.rf σ, hc⟩
    · rw [X_TO_both_e, C_holds _ _ σ (by omega) h.2.1, xm_cI_s, xm_br_b hx, C_holds _ _ σ (by omega) h.2.1, xm_cI_s, xm_br_n hy, C_refusal, xm_cL_s]; rfl
    · rw [X_Mod_both_e, C_isPerson _ _ σ (by omega) (by omega) h.2.2.1, xm_cI_s, xm_br_b hx, C_isPerson _ _ σ (by omega) (by omega) h.2.2.1, xm_cI_s, xm_br_n hy, C_no, xm_cL_s]; rfl
  by_cases hw : inR w 2
  rotate_left
  · refine ⟨BADL, σ, σ, ?_, ?_, Ec.rf σ, hc⟩
    · rw [X_TO_both_e, C_holds _ _ σ (by omega) h.2.1, xm_cI_s, xm_br_b hx, C_holds _ _ σ (by omega) h.2.1, xm_cI_s, xm_br_b hy, C_isBit, xm_cI_s, xm_br_n hw, C_refusal, xm_cL_s]; rfl
    · rw [X_Mod_both_e, C_isPerson _ _ σ (by omega) (by omega) h.2.2.1, xm_cI_s, xm_br_b hx, C_isPerson _ _ σ (by omega) (by omega) h.2.2.1, xm_cI_s, xm_br_b hy, C_isTwo, xm_cI_s, xm_br_n hw, C_no, xm_cL_s]; rfl
  have hx0 := hx
  have hy0 := hy
  obtain ⟨a, ha, rfl⟩ := hx
  obtain ⟨b, hb, rfl⟩ := hy
  obtain ⟨τ, t1, t2, t3, t4, t5⟩ := C_foll h hs.2.2.2.2.2 hc s (d + 2)
  have hE := foll_ec t4
  have ht := h.ec hE
  have pa := p2_512 (show a < 9 by omega)
  have pb := p2_512 (show b < 9 by omega)
  have pab := or_512 pa pb
  have e1 : CstF T n L s (iF n (fun S => S &&& (2 ^ a ||| 2 ^ b) = 2 ^ a ||| 2 ^ b)) = CstF T n L s (phF T n K 0 51 (9 * a + b)) := by
    obtain ⟨i1, i2⟩ := ix9 (S := a) (l := b) (by omega)
    refine cst_c hn.2 (iF_eq (fun S q => ?_) (fun S q => ?_))
    · rw [phF_51, i1, i2, (and_2.mp q).1, (and_2.mp q).2]; rfl
    · rw [phF_51, i1, i2]
      cases z1 : S.testBit a
      · rfl
      · cases z2 : S.testBit b
        · rfl
        · exact absurd (and_2.mpr ⟨z1, z2⟩) q
  obtain ⟨υ, u1, u2, u3, u4⟩ := C_gt ht (hs.ec hE) (e := 0) (by omega) d
  refine ⟨chA T n L s (phF T n K 0 51 (9 * a + b)) w, τ, υ, ?_, ?_, hE.tr u2.ec, t3.es u2⟩
  · rw [X_TO_both_e, C_holds _ _ σ (by omega) h.2.1, xm_cI_s, xm_br_b hx0, C_holds _ _ σ (by omega) h.2.1, xm_cI_s, xm_br_b hy0, C_isBit, xm_cI_s, xm_br_b hw, hs.1, hs.2.2.2.1, t1, xm_cV_s, sh_1 a (by omega), sh_1 b (by omega), fa_or, C_holding ht t2 (d + 4) (by omega), xm_cL_s, e1, C_chf ht t2 (d + 4) (phF_1 T n K 0 51 (9 * a + b)), xm_cL_s]
  · have e9 : 9 * nI a + nI b = nI (9 * a + b) := by rw [← nI_add, ← pk_mul]; rfl
    rw [X_Mod_both_e, C_isPerson _ _ τ (by omega) (by omega) ht.2.2.1, xm_cI_s, xm_br_b hx0, C_isPerson _ _ τ (by omega) (by omega) ht.2.2.1, xm_cI_s, xm_br_b hy0, C_isTwo, xm_cI_s, xm_br_b hw, show X_Mod_goesThrough (d + 5) 0 τ = _ from u1, xm_cV_s, e9, xm_ix_n (show 9 * a + b < 81 by omega) (by omega), u3 51 _ (Or.inr (Or.inl ⟨rfl, by omega⟩)), u4, C_chr h hs.2.2.1 (d + 4) (phF_1 T n K 0 51 (9 * a + b)) w υ, xm_cL_s]
theorem O_size (h : NtA n T K σ) (hs : StA n s L σ) (hc : CcA n T c σ) (d : Nat) (x w : Int32) : OpL (X_TO_size (d + 6) x w) (X_Mod_size (d + 6) x w) (ChP n T c σ) σ := by
  unfold OpL
  have hn := h.1
  have h9 : ∀ τ, X_Mod_in (d + 5) x.toInt64 1 7 τ = some (some (.int (bI (1 ≤ x ∧ x ≤ 7))), τ) := fun τ => C_in32 (d + 5) x 1 7 τ
  by_cases hx : 1 ≤ x ∧ x ≤ 7
  rotate_left
  · refine ⟨BADL, σ, σ, ?_, ?_, Ec.rf σ, hc⟩
    · rw [X_TO_size_e, C_isUpTo, xm_cI_s, xm_br_n hx, C_refusal, xm_cL_s]; rfl
    · rw [X_Mod_size_e, h9, xm_cI_s, xm_br_n hx, C_no, xm_cL_s]; rfl
  by_cases hw : inR w 2
  rotate_left
  · refine ⟨BADL, σ, σ, ?_, ?_, Ec.rf σ, hc⟩
    · rw [X_TO_size_e, C_isUpTo, xm_cI_s, xm_br_b hx, C_isBit, xm_cI_s, xm_br_n hw, C_refusal, xm_cL_s]; rfl
    · rw [X_Mod_size_e, h9, xm_cI_s, xm_br_b hx, C_isTwo, xm_cI_s, xm_br_n hw, C_no, xm_cL_s]; rfl
  obtain ⟨k, -, hk, rfl⟩ := up_n (a := 1) (b := 7) (by omega) hx (by omega)
  obtain ⟨τ, t1, t2, t3, t4, t5⟩ := C_foll h hs.2.2.2.2.2 hc s (d + 2)
  have hE := foll_ec t4
  have ht := h.ec hE
  have e1 : CstF T n L s (iF n (fun S => pop 14 S = k)) = CstF T n L s (phF T n K 0 52 k) := cst_c hn.2 (iF_eq (fun S q => by rw [phF_52, if_pos q]) (fun S q => by rw [phF_52, if_neg q]))
  obtain ⟨υ, u1, u2, u3, u4⟩ := C_gt ht (hs.ec hE) (e := 0) (by omega) d
  refine ⟨chA T n L s (phF T n K 0 52 k) w, τ, υ, ?_, ?_, hE.tr u2.ec, t3.es u2⟩
  · rw [X_TO_size_e, C_isUpTo, xm_cI_s, xm_br_b hx, C_isBit, xm_cI_s, xm_br_b hw, hs.1, hs.2.2.2.1, t1, xm_cV_s, C_ofSize ht t2 (d + 4) (by omega), xm_cL_s, e1, C_chf ht t2 (d + 4) (phF_1 T n K 0 52 k), xm_cL_s]
  · rw [X_Mod_size_e, h9, xm_cI_s, xm_br_b hx, C_isTwo, xm_cI_s, xm_br_b hw, show X_Mod_goesThrough (d + 5) 0 τ = _ from u1, xm_cV_s, xm_ix_n (show k < 8 by omega) (by omega), u3 52 k (Or.inr (Or.inr (Or.inl ⟨rfl, by omega⟩))), u4, C_chr h hs.2.2.1 (d + 4) (phF_1 T n K 0 52 k) w υ, xm_cL_s]
theorem O_kinds (h : NtA n T K σ) (hs : StA n s L σ) (hc : CcA n T c σ) (d : Nat) (x w : Int32) : OpL (X_TO_kinds (d + 6) x w) (X_Mod_kinds (d + 6) x w) (ChP n T c σ) σ := by
  unfold OpL
  have hn := h.1
  have h9 : ∀ τ, X_Mod_in (d + 5) x.toInt64 0 7 τ = some (some (.int (bI (0 ≤ x ∧ x ≤ 7))), τ) := fun τ => C_in32 (d + 5) x 0 7 τ
  by_cases hx : 0 ≤ x ∧ x ≤ 7
  rotate_left
  · refine ⟨BADL, σ, σ, ?_, ?_, Ec.rf σ, hc⟩
    · rw [X_TO_kinds_e, C_isUpTo, xm_cI_s, xm_br_n hx, C_refusal, xm_cL_s]; rfl
    · rw [X_Mod_kinds_e, h9, xm_cI_s, xm_br_n hx, C_no, xm_cL_s]; rfl
  by_cases hw : inR w 2
  rotate_left
  · refine ⟨BADL, σ, σ, ?_, ?_, Ec.rf σ, hc⟩
    · rw [X_TO_kinds_e, C_isUpTo, xm_cI_s, xm_br_b hx, C_isBit, xm_cI_s, xm_br_n hw, C_refusal, xm_cL_s]; rfl
    · rw [X_Mod_kinds_e, h9, xm_cI_s, xm_br_b hx, C_isTwo, xm_cI_s, xm_br_n hw, C_no, xm_cL_s]; rfl
  obtain ⟨k, -, hk, rfl⟩ := up_n (a := 0) (b := 7) (by omega) hx (by omega)
  obtain ⟨τ, t1, t2, t3, t4, t5⟩ := C_foll h hs.2.2.2.2.2 hc s (d + 2)
  have hE := foll_ec t4
  have ht := h.ec hE
  have e1 : CstF T n L s (iF n (fun S => pop 14 (S &&& K) = k)) = CstF T n L s (phF T n K 0 53 k) := cst_c hn.2 (iF_eq (fun S q => by rw [phF_53, if_pos q]) (fun S q => by rw [phF_53, if_neg q]))
  obtain ⟨υ, u1, u2, u3, u4⟩ := C_gt ht (hs.ec hE) (e := 0) (by omega) d
  refine ⟨chA T n L s (phF T n K 0 53 k) w, τ, υ, ?_, ?_, hE.tr u2.ec, t3.es u2⟩
  · rw [X_TO_kinds_e, C_isUpTo, xm_cI_s, xm_br_b hx, C_isBit, xm_cI_s, xm_br_b hw, hs.1, hs.2.2.2.1, t1, xm_cV_s, C_ofKind ht t2 (d + 4) (by omega), xm_cL_s, e1, C_chf ht t2 (d + 4) (phF_1 T n K 0 53 k), xm_cL_s]
  · rw [X_Mod_kinds_e, h9, xm_cI_s, xm_br_b hx, C_isTwo, xm_cI_s, xm_br_b hw, show X_Mod_goesThrough (d + 5) 0 τ = _ from u1, xm_cV_s, xm_ix_n (show k < 8 by omega) (by omega), u3 53 k (Or.inr (Or.inr (Or.inr (Or.inl ⟨rfl, by omega⟩)))), u4, C_chr h hs.2.2.1 (d + 4) (phF_1 T n K 0 53 k) w υ, xm_cL_s]
end CO
