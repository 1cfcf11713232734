/-! SUMS; DEGREES; the narrowest set; lasting -/
def sm (f : Nat → Nat) : Nat → Nat
  | 0 => 0
  | i + 1 => sm f i + f i
theorem sm_c {f g : Nat → Nat} : ∀ {n : Nat}, (∀ i, i < n → f i = g i) → sm f n = sm g n
  | 0, _ => rfl
  | n + 1, h => by
    show sm f n + f n = sm g n + g n
    rw [sm_c (fun i hi => h i (by omega)), h n (by omega)]
theorem sm_le {f : Nat → Nat} {c : Nat} : ∀ {n : Nat}, (∀ i, i < n → f i ≤ c) → sm f n ≤ n * c
  | 0, _ => by show 0 ≤ _; omega
  | n + 1, h => by
    show sm f n + f n ≤ (n + 1) * c
    have := sm_le (f := f) (c := c) (n := n) (fun i hi => h i (by omega))
    have := h n (by omega)
    rw [Nat.succ_mul]
    omega
theorem C_no (d : Nat) (x : Int32) (σ : Sg) : X_Mod_no d x σ = some (some (.long ((-9223372036854775808) - x.toInt64)), σ) := X_Mod_no_e d x σ
def dgF (T : Nat → Nat) (s p : Nat) : Nat := s / 2 ^ p % 2 * pop 14 (T p)
def loF (T : Nat → Nat) (s p : Nat) : Nat := s / 2 ^ p % 2 * pop 14 (an (T p) s)
def dg (T : Nat → Nat) (n s : Nat) : Nat := sm (dgF T s) n
def lo (T : Nat → Nat) (n s : Nat) : Nat := sm (loF T s) n
theorem bit_le (a b : Nat) (x : Nat) : a / 2 ^ b % 2 * x ≤ x := by
  rcases Nat.mod_two_eq_zero_or_one (a / 2 ^ b) with h | h <;> rw [h] <;> omega
theorem NtA.pop {n K : Nat} {T : Nat → Nat} {σ : Sg} (h : NtA n T K σ) {p : Nat} (hp : p < 9) : pop 14 (T p) ≤ 8 := by
  have h1 := h.2.2.2.1 p hp
  have h9 := h.T hp
  by_cases e : n ≤ p
  · rw [h1.2.2.2.2.1 e]; exact Nat.zero_le _
  · have hn := h.1
    have := pop_lt 14 (T p) (2 ^ n - 1) p (by omega) (fun j hj => by
      rw [Nat.testBit_two_pow_sub_one, decide_eq_true_eq]
      rcases Nat.lt_or_ge j n with q | q
      · exact q
      · rw [Nat.testBit_lt_two_pow (Nat.lt_of_lt_of_le h1.2.2.1 (Nat.pow_le_pow_right (by omega) q))] at hj
        cases hj) h1.2.2.2.1 (by rw [Nat.testBit_two_pow_sub_one, decide_eq_true_eq]; omega)
    have := pop_le 14 n (2 ^ n - 1) (by have := two_pos n; omega)
    omega
theorem dg_le {n K : Nat} {T : Nat → Nat} {σ : Sg} (h : NtA n T K σ) (s : Nat) : dg T n s ≤ 72 := by
  have hn := h.1
  have : dg T n s ≤ n * 8 := sm_le (fun i hi => Nat.le_trans (bit_le s i _) (h.pop (by omega)))
  omega
theorem lo_le {n K : Nat} {T : Nat → Nat} {σ : Sg} (h : NtA n T K σ) (s : Nat) : lo T n s ≤ 81 := by
  have hn := h.1
  have : lo T n s ≤ n * 9 := sm_le (fun i hi => Nat.le_trans (bit_le s i _) (pop_9 (Nat.lt_of_le_of_lt (an_le _ _) (h.T (by omega)))))
  omega
theorem C_degs {n K : Nat} {T : Nat → Nat} {σ : Sg} (h : NtA n T K σ) (d : Nat) {s : Nat} (hs : s < 512) : X_Net_degrees (d + 2) (nI s) σ = some (some (.int (nI (dg T n s))), σ) := by
  have hn := h.1
  rw [X_Net_degrees_e]
  have loop : ∀ (m i : Nat), i + m = n → X_Net_degrees_4 (d + 2) (nI s) (nI (sm (dgF T s) i)) (nI i) σ = some (some (.int (nI (dg T n s))), σ) := by
    intro m
    induction m with
    | zero =>
      intro i hi
      rw [X_Net_degrees_4_e, h.2.1, xm_br_t (nI_le (by omega) (by omega)), show i = n by omega]
      rfl
    | succ m ih =>
      intro i hi
      rw [X_Net_degrees_4_e, h.2.1, xm_br_f (nI_ge (by omega) (by omega)), C_degree h d (by omega), xm_cI_s, bt_1 (by omega) (by omega), pk_mul, nI_add, nI_1]
      exact ih (i + 1) (by omega)
  exact loop n 0 (by omega)
theorem C_lead {n K : Nat} {T : Nat → Nat} {σ : Sg} (h : NtA n T K σ) (d : Nat) {s : Nat} (hs : s < 512) : X_Net_leadingOut (d + 2) (nI s) σ = some (some (.int (nI (lo T n s))), σ) := by
  have hn := h.1
  rw [X_Net_leadingOut_e]
  have loop : ∀ (m i : Nat), i + m = n → X_Net_leadingOut_4 (d + 2) (nI s) (nI (sm (loF T s) i)) (nI i) σ = some (some (.int (nI (lo T n s))), σ) := by
    intro m
    induction m with
    | zero =>
      intro i hi
      rw [X_Net_leadingOut_4_e, h.2.1, xm_br_t (nI_le (by omega) (by omega)), show i = n by omega]
      rfl
    | succ m ih =>
      intro i hi
      have h9 := h.T (show i < 9 by omega)
      rw [X_Net_leadingOut_4_e, h.2.1, xm_br_f (nI_ge (by omega) (by omega)), xm_ix_n (by omega) (by omega), (h.c i (by omega)).1, an_nI _ (by omega), C_bitCount _ _ (Nat.lt_of_le_of_lt (an_le _ _) (by omega)), xm_cI_s, bt_1 (by omega) (by omega), pk_mul, nI_add, nI_1]
      exact ih (i + 1) (by omega)
  exact loop n 0 (by omega)
/-- all degrees together -/
def dgs (T : Nat → Nat) (n : Nat) : Nat := sm (fun p => pop 14 (T p)) n
theorem dg_all (T : Nat → Nat) (n : Nat) : dg T n (2 ^ n - 1) = dgs T n := by
  refine sm_c (fun i hi => ?_)
  show (2 ^ n - 1) / 2 ^ i % 2 * _ = _
  rw [bt_n, Nat.testBit_two_pow_sub_one, decide_eq_true hi]
  exact Nat.one_mul _
theorem dgs_le {n K : Nat} {T : Nat → Nat} {σ : Sg} (h : NtA n T K σ) : dgs T n ≤ 72 := by
  rw [← dg_all]; exact dg_le h _
theorem C_degall {n K : Nat} {T : Nat → Nat} {σ : Sg} (h : NtA n T K σ) (d : Nat) : X_Net_degrees (d + 2) (nI (2 ^ n - 1)) σ = some (some (.int (nI (dgs T n))), σ) := by
  rw [C_degs h d (e_512 h.1.2), dg_all]
theorem C_mdegs {n K : Nat} {T : Nat → Nat} {σ : Sg} (h : NtA n T K σ) (d : Nat) : X_Mod_degrees (d + 2) σ = some (some (.int (nI (dgs T n))), σ) := by
  have hn := h.1
  rw [X_Mod_degrees_e]
  have loop : ∀ (m i : Nat), i + m = n → X_Mod_degrees_4 (d + 2) (nI (sm (fun p => pop 14 (T p)) i)) (nI i) σ = some (some (.int (nI (dgs T n))), σ) := by
    intro m
    induction m with
    | zero =>
      intro i hi
      rw [X_Mod_degrees_4_e, h.2.2.1, xm_br_t (nI_le (by omega) (by omega)), show i = n by omega]
      rfl
    | succ m ih =>
      intro i hi
      rw [X_Mod_degrees_4_e, h.2.2.1, xm_br_f (nI_ge (by omega) (by omega)), C_mdegree h d (by omega), xm_cI_s, nI_add, nI_1]
      exact ih (i + 1) (by omega)
  exact loop n 0 (by omega)
theorem C_nar34 {n K : Nat} {T : Nat → Nat} {σ : Sg} (h : NtA n T K σ) (d : Nat) {w y a b c : Int32} {s : Nat} (hs : s < 512) : ∀ (m i : Nat), i + m = n → X_Mod_narrowOf_34 (d + 2) w y a b c (nI s) (nI (sm (dgF T s) i)) (nI (sm (loF T s) i)) (nI i) σ = X_Mod_narrowOf_34 (d + 2) w y a b c (nI s) (nI (dg T n s)) (nI (lo T n s)) (nI n) σ
  | 0, i, hi => by
    rw [show i = n by omega]
    rfl
  | m + 1, i, hi => by
    have hn := h.1
    have h9 := h.T (show i < 9 by omega)
    have ih := C_nar34 h d (w := w) (y := y) (a := a) (b := b) (c := c) hs m (i + 1) (by omega)
    rw [X_Mod_narrowOf_34_e, h.2.2.1, xm_br_f (nI_ge (by omega) (by omega))]
    have e1 : sm (dgF T s) (i + 1) = sm (dgF T s) i + (s.testBit i).toNat * pop 14 (T i) := by
      show _ + s / 2 ^ i % 2 * _ = _
      rw [bt_n]
    have e2 : sm (loF T s) (i + 1) = sm (loF T s) i + (s.testBit i).toNat * pop 14 (an (T i) s) := by
      show _ + s / 2 ^ i % 2 * _ = _
      rw [bt_n]
    rw [e1, e2] at ih
    by_cases hbit : s.testBit i = true
    · rw [xm_br_t ((bt_t (by omega) (by omega)).mpr hbit), C_mdegree h _ (by omega), xm_cI_s, xm_ix_n (by omega) (by omega), (h.m i (by omega)).1, an_nI _ (by omega), C_bitsOf _ _ (Nat.lt_of_le_of_lt (an_le _ _) (by omega)), xm_cI_s, nI_add, nI_add, nI_1]
      rw [hbit, show true.toNat = 1 from rfl, Nat.one_mul, Nat.one_mul] at ih
      exact ih
    · rw [xm_br_f (fun q => hbit ((bt_t (by omega) (by omega)).mp q)), nI_1]
      rw [Bool.not_eq_true] at hbit
      rw [hbit, show false.toNat = 0 from rfl, Nat.zero_mul, Nat.zero_mul] at ih
      exact ih
/-- what narrow answers for the set b -/
noncomputable def nw (T : Nat → Nat) (n : Nat) (w : Int32) (b : Nat) : Int64 := @ite Int64 (w = 2) (Classical.propDecidable _) (if b = 0 then -1 else (nI b).toInt64) (frN (lo T n b) (dg T n b) w)
theorem nI_nm1 {b : Nat} (h : b < 2 ^ 31) : ¬ nI b = -1 := by
  intro q
  have q2 := congrArg Int32.toInt q
  rw [nI_toInt h] at q2
  have : (-1 : Int32).toInt = -1 := by decide
  omega
theorem dg_0 (T : Nat → Nat) (n : Nat) : dg T n 0 = 0 := by
  have h : ∀ i, sm (dgF T 0) i = 0 := by
    intro i
    induction i with
    | zero => rfl
    | succ i ih =>
      show sm (dgF T 0) i + 0 / 2 ^ i % 2 * _ = 0
      rw [ih, Nat.zero_div]
      omega
  exact h n
theorem C_narrow {n K : Nat} {T : Nat → Nat} {σ : Sg} (h : NtA n T K σ) (d d' : Nat) (w : Int32) : ∀ (m i b : Nat) (y : Int32) (a c : Nat), i + m = 2 ^ n → b < i → ((b = 0 ∧ y = -1) ∨ (b ≠ 0 ∧ y = nI b ∧ a = lo T n b ∧ c = dg T n b ∧ c ≠ 0)) → ∃ r, r < 512 ∧ X_Net_narrowest_19 (d + 3) (nI b) (nI (if b = 0 then 0 else a)) (nI (if b = 0 then 0 else c)) (nI (dgs T n)) (nI i) σ = some (some (.int (nI r)), σ) ∧ X_Mod_narrowOf_16 (d' + 3) w y (nI a) (nI c) (nI (dgs T n)) (nI i) σ = some (some (.long (nw T n w r)), σ)
  | 0, i, b, y, a, c, hi, hb, hy => by
    have hn := h.1
    have he := e_512 hn.2
    have hp := two_pos n
    refine ⟨b, by omega, ?_, ?_⟩
    · rw [X_Net_narrowest_19_e, C_everyone _ _ hn.2 h.2.1, xm_cI_s, xm_br_t (nI_lt (by omega) (by omega))]
    · rw [X_Mod_narrowOf_16_e, C_everybody _ _ hn.2 h.2.2.1, xm_cI_s, xm_br_t (nI_lt (by omega) (by omega))]
      unfold nw
      by_cases hw : w = 2
      · rw [xm_br_t hw, if_pos hw]
        rcases hy with ⟨e, rfl⟩ | ⟨e, rfl, -⟩
        · rw [if_pos e]; rfl
        · rw [if_neg e]
      · rw [xm_br_f hw, if_neg hw]
        rcases hy with ⟨e, rfl⟩ | ⟨e, rfl, e1, e2, e3⟩
        · rw [xm_br_t rfl, C_no, xm_cL_s, e, dg_0]
          unfold frN
          rw [if_pos rfl]
          rfl
        · have l1 := lo_le h b
          have l2 := dg_le h b
          rw [xm_br_f (nI_nm1 (by omega)), nI_l (by omega), nI_l (by omega), F_part _ _ _ (by omega) (by omega) e3, xm_cL_s, e1, e2]
  | m + 1, i, b, y, a, c, hi, hb, hy => by
    have hn := h.1
    have he := e_512 hn.2
    have hp := two_pos n
    have l1 := lo_le h i
    have l2 := dg_le h i
    have l3 := dgs_le h
    have h1 : ∀ x1 x2 x3, X_Net_narrowest_19 (d + 3) x1 x2 x3 (nI (dgs T n)) (nI i) σ = xm_br (nI (dg T n i) = 0) (X_Net_narrowest_19 (d + 3) x1 x2 x3 (nI (dgs T n)) (nI (i + 1)) σ) (xm_br ((2 * nI (dg T n i)) ≤ nI (dgs T n)) (xm_br (x1 = 0) (X_Net_narrowest_19 (d + 3) (nI i) (nI (lo T n i)) (nI (dg T n i)) (nI (dgs T n)) (nI (i + 1)) σ) (xm_br ((x2 * nI (dg T n i)) ≤ (nI (lo T n i) * x3)) (X_Net_narrowest_19 (d + 3) x1 x2 x3 (nI (dgs T n)) (nI (i + 1)) σ) (X_Net_narrowest_19 (d + 3) (nI i) (nI (lo T n i)) (nI (dg T n i)) (nI (dgs T n)) (nI (i + 1)) σ))) (X_Net_narrowest_19 (d + 3) x1 x2 x3 (nI (dgs T n)) (nI (i + 1)) σ)) := by
      intro x1 x2 x3
      rw [X_Net_narrowest_19_e, C_everyone _ _ hn.2 h.2.1, xm_cI_s, xm_br_f (nI_nlt (by omega) (by omega)), C_degs h _ (by omega), xm_cI_s, C_lead h _ (by omega), xm_cI_s, nI_1]
    have h2 : X_Mod_narrowOf_16 (d' + 3) w y (nI a) (nI c) (nI (dgs T n)) (nI i) σ = xm_br (nI (dg T n i) ≤ 0) (X_Mod_narrowOf_16 (d' + 3) w y (nI a) (nI c) (nI (dgs T n)) (nI (i + 1)) σ) (xm_br (nI (dgs T n) < 2 * nI (dg T n i)) (X_Mod_narrowOf_16 (d' + 3) w y (nI a) (nI c) (nI (dgs T n)) (nI (i + 1)) σ) (xm_br (y = -1) (X_Mod_narrowOf_16 (d' + 3) w (nI i) (nI (lo T n i)) (nI (dg T n i)) (nI (dgs T n)) (nI (i + 1)) σ) (xm_br ((nI a * nI (dg T n i)) ≤ (nI (lo T n i) * nI c)) (X_Mod_narrowOf_16 (d' + 3) w y (nI a) (nI c) (nI (dgs T n)) (nI (i + 1)) σ) (X_Mod_narrowOf_16 (d' + 3) w (nI i) (nI (lo T n i)) (nI (dg T n i)) (nI (dgs T n)) (nI (i + 1)) σ)))) := by
      rw [X_Mod_narrowOf_16_e, C_everybody _ _ hn.2 h.2.2.1, xm_cI_s, xm_br_f (nI_nlt (by omega) (by omega)), show X_Mod_narrowOf_34 (d' + 3) w y (nI a) (nI c) (nI (dgs T n)) (nI i) 0 0 0 σ = _ from C_nar34 h (d' + 1) (s := i) (by omega) n 0 (by omega), X_Mod_narrowOf_34_e, h.2.2.1, xm_br_t (nI_le (Nat.le_refl _) (by omega)), nI_1]
    obtain ⟨ra, a0, a1, a2⟩ := C_narrow h d d' w m (i + 1) b y a c (by omega) (by omega) hy
    rw [h1, h2]
    by_cases q0 : dg T n i = 0
    · rw [q0, xm_br_t nI_0, xm_br_t (by decide)]
      exact ⟨ra, a0, a1, a2⟩
    rw [xm_br_f (nI_ne0 (by omega) (by omega)), xm_br_f (nI_nle (by omega) (by omega)), show (2 : Int32) = nI 2 from rfl, pk_mul]
    by_cases q1 : 2 * dg T n i ≤ dgs T n
    rotate_left
    · rw [xm_br_f (nI_ge (by omega) (by omega)), xm_br_t (nI_lt (by omega) (by omega))]
      exact ⟨ra, a0, a1, a2⟩
    rw [xm_br_t (nI_le q1 (by omega)), xm_br_f (nI_nlt q1 (by omega))]
    obtain ⟨rb, b0, b1, b2⟩ := C_narrow h d d' w m (i + 1) i (nI i) (lo T n i) (dg T n i) (by omega) (by omega) (Or.inr ⟨by omega, rfl, rfl, rfl, q0⟩)
    rw [if_neg (by omega), if_neg (by omega)] at b1
    rcases hy with ⟨e, rfl⟩ | ⟨e, rfl, e1, e2, e3⟩
    · rw [e, xm_br_t nI_0, xm_br_t rfl]
      exact ⟨rb, b0, b1, b2⟩
    · rw [xm_br_f (nI_ne0 (by omega) (by omega)), xm_br_f (nI_nm1 (by omega)), if_neg e, if_neg e]
      rw [if_neg e, if_neg e] at a1
      by_cases q : (nI a * nI (dg T n i)) ≤ (nI (lo T n i) * nI c)
      · rw [xm_br_t q, xm_br_t q]; exact ⟨ra, a0, a1, a2⟩
      · rw [xm_br_f q, xm_br_f q]; exact ⟨rb, b0, b1, b2⟩
/-- both answers of narrow -/
theorem C_narrow2 {n K : Nat} {T : Nat → Nat} {σ : Sg} (h : NtA n T K σ) (d d' : Nat) {w : Int32} (hw : 0 ≤ w ∧ w ≤ 2) : ∃ r, X_TO_narrow (d + 4) w σ = some (some (.long r), σ) ∧ X_Mod_narrowOf (d' + 3) w σ = some (some (.long r), σ) := by
  have hn := h.1
  have hp := two_pos n
  have h2 : 2 ≤ 2 ^ n := Nat.pow_le_pow_right (n := 2) (by omega) hn.1
  obtain ⟨b, b0, b1, b2⟩ := C_narrow h d d' w (2 ^ n - 1) 1 0 (-1) 0 1 (by omega) (by omega) (Or.inl ⟨rfl, rfl⟩)
  rw [if_pos rfl, if_pos rfl] at b1
  refine ⟨nw T n w b, ?_, ?_⟩
  · rw [X_TO_narrow_e, C_isUpTo, xm_cI_s, xm_br_b hw, X_Net_narrowest_e, C_everyone _ _ hn.2 h.2.1, xm_cI_s, C_degall h _, xm_cI_s, show X_Net_narrowest_19 (d + 3) 0 0 0 (nI (dgs T n)) 1 σ = _ from b1, xm_cI_s]
    unfold nw
    by_cases hw2 : w = 2
    · rw [xm_br_t hw2, if_pos hw2]
      by_cases e : b = 0
      · rw [e, xm_br_t nI_0, if_pos rfl]
      · rw [xm_br_f (nI_ne0 (by omega) (by omega)), if_neg e]
    · have l1 := lo_le h b
      have l2 := dg_le h b
      rw [xm_br_f hw2, if_neg hw2, C_lead h _ b0, xm_cI_s, C_degs h _ b0, xm_cI_s, nI_l (by omega), nI_l (by omega), F_frac _ _ _ (by omega) (by omega), xm_cL_s]
  · rw [X_Mod_narrowOf_e, C_mdegs h _, xm_cI_s]
    exact b2
theorem O_narrow {n K : Nat} {T : Nat → Nat} {σ : Sg} (h : NtA n T K σ) (d : Nat) (w : Int32) : OpL (X_TO_narrow (d + 4) w) (X_Mod_narrow (d + 4) w) (fun τ => τ = σ) σ := by
  unfold OpL
  have h9 := C_in32 (d + 3) w 0 2 σ
  rw [show ((0 : Int32).toInt64) = 0 from rfl, show ((2 : Int32).toInt64) = 2 from rfl] at h9
  by_cases hw : 0 ≤ w ∧ w ≤ 2
  · obtain ⟨r, r1, r2⟩ := C_narrow2 h d d hw
    refine ⟨_, _, σ, r1, ?_, rfl⟩
    rw [X_Mod_narrow_e, h9, xm_cI_s, xm_br_b hw, r2, xm_cL_s]
  · refine ⟨BADL, σ, σ, ?_, ?_, rfl⟩
    · rw [X_TO_narrow_e, C_isUpTo, xm_cI_s, xm_br_n hw, C_refusal, xm_cL_s]
      rfl
    · rw [X_Mod_narrow_e, h9, xm_cI_s, xm_br_n hw, C_no, xm_cL_s]
      rfl
theorem O_lasting {n K : Nat} {T : Nat → Nat} {σ : Sg} (h : NtA n T K σ) (d : Nat) (x w : Int32) : OpL (X_TO_lasting (d + 4) x w) (X_Mod_lasting (d + 4) x w) (fun τ => τ = σ) σ := by
  unfold OpL
  have hn := h.1
  by_cases hx : inR x n
  rotate_left
  · refine ⟨BADL, σ, σ, ?_, ?_, rfl⟩
    · rw [X_TO_lasting_e, C_holds _ _ σ (by omega) h.2.1, xm_cI_s, xm_br_n hx, C_refusal, xm_cL_s]
      rfl
    · rw [X_Mod_lasting_e, C_isPerson _ _ σ (by omega) (by omega) h.2.2.1, xm_cI_s, xm_br_n hx, C_no, xm_cL_s]
      rfl
  by_cases hw : inR w 2
  rotate_left
  · refine ⟨BADL, σ, σ, ?_, ?_, rfl⟩
    · rw [X_TO_lasting_e, C_holds _ _ σ (by omega) h.2.1, xm_cI_s, xm_br_b hx, C_isBit, xm_cI_s, xm_br_n hw, C_refusal, xm_cL_s]
      rfl
    · rw [X_Mod_lasting_e, C_isPerson _ _ σ (by omega) (by omega) h.2.2.1, xm_cI_s, xm_br_b hx, C_isTwo, xm_cI_s, xm_br_n hw, C_no, xm_cL_s]
      rfl
  have hx0 := hx
  obtain ⟨p, hp, rfl⟩ := hx
  have l1 := h.pop (show p < 9 by omega)
  have l2 := dgs_le h
  refine ⟨frN (pop 14 (T p)) (dgs T n) w, σ, σ, ?_, ?_, rfl⟩
  · rw [X_TO_lasting_e, C_holds _ _ σ (by omega) h.2.1, xm_cI_s, xm_br_b hx0, C_isBit, xm_cI_s, xm_br_b hw, C_degree h _ hp, xm_cI_s, C_everyone _ _ hn.2 h.2.1, xm_cI_s, C_degall h _, xm_cI_s, nI_l (by omega), nI_l (by omega), F_frac _ _ _ (by omega) (by omega), xm_cL_s]
  · rw [X_Mod_lasting_e, C_isPerson _ _ σ (by omega) (by omega) h.2.2.1, xm_cI_s, xm_br_b hx0, C_isTwo, xm_cI_s, xm_br_b hw, C_mdegs h _, xm_cI_s]
    by_cases q : dgs T n = 0
    · rw [q, xm_br_t nI_0, C_no, xm_cL_s]
      unfold frN
      rw [if_pos rfl]
      rfl
    · rw [xm_br_f (nI_ne0 (by omega) (by omega)), C_mdegree h _ (by omega), xm_cI_s, C_mdegs h _, xm_cI_s, nI_l (by omega), nI_l (by omega), F_part _ _ _ (by omega) (by omega) q, xm_cL_s]
