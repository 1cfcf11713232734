/-! PARTS, BRIDGES -/
/-- a without b -/
def an (a b : Nat) : Nat := a ^^^ (a &&& b)
theorem an_bit (a b j : Nat) : (an a b).testBit j = (a.testBit j && !b.testBit j) := by
  unfold an
  rw [Nat.testBit_xor, Nat.testBit_and]
  cases a.testBit j <;> cases b.testBit j <;> rfl
theorem m1_nI : (-1 : Int32) = nI (2 ^ 32 - 1) := by decide +kernel
theorem fa_xor (a b : Nat) : nI a ^^^ nI b = nI (a ^^^ b) := by
  apply Int32.toBitVec_inj.1
  show BitVec.ofNat 32 a ^^^ BitVec.ofNat 32 b = BitVec.ofNat 32 (a ^^^ b)
  apply BitVec.eq_of_getLsbD_eq
  intro i hi
  simp [hi]
theorem an_nI {a : Nat} (b : Nat) (ha : a < 2 ^ 32) : (nI a &&& (nI b ^^^ (-1))) = nI (an a b) := by
  rw [m1_nI, fa_xor, fa_and]
  congr 1
  apply Nat.eq_of_testBit_eq
  intro j
  rw [an_bit, Nat.testBit_and, Nat.testBit_xor, Nat.testBit_two_pow_sub_one]
  by_cases hj : j < 32
  · simp [hj]
  · rw [Nat.testBit_lt_two_pow (Nat.lt_of_lt_of_le ha (Nat.pow_le_pow_right (by omega) (by omega)))]
    simp
theorem an_le (a b : Nat) : an a b ≤ a := by
  have h : an a b = a &&& an a b := by
    apply Nat.eq_of_testBit_eq
    intro j
    rw [Nat.testBit_and, an_bit]
    cases a.testBit j <;> cases b.testBit j <;> rfl
  rw [h]
  exact Nat.and_le_left
theorem pop_mono : ∀ (f x y : Nat), (∀ j, x.testBit j = true → y.testBit j = true) → pop f x ≤ pop f y
  | 0, _, _, _ => Nat.le_refl _
  | f + 1, x, y, h => by
    show x % 2 + pop f (x / 2) ≤ y % 2 + pop f (y / 2)
    have h1 := pop_mono f (x / 2) (y / 2) (fun j hj => by rw [Nat.testBit_div_two] at hj ⊢; exact h _ hj)
    have h0 := h 0
    rw [Nat.testBit_zero, Nat.testBit_zero, decide_eq_true_eq, decide_eq_true_eq] at h0
    omega
theorem pop_lt : ∀ (f x y k : Nat), k < f → (∀ j, x.testBit j = true → y.testBit j = true) → x.testBit k = false → y.testBit k = true → pop f x < pop f y
  | 0, _, _, _, h, _, _, _ => by omega
  | f + 1, x, y, 0, _, h, hx, hy => by
    show x % 2 + pop f (x / 2) < y % 2 + pop f (y / 2)
    have h1 := pop_mono f (x / 2) (y / 2) (fun j hj => by rw [Nat.testBit_div_two] at hj ⊢; exact h _ hj)
    rw [Nat.testBit_zero, decide_eq_false_iff_not] at hx
    rw [Nat.testBit_zero, decide_eq_true_eq] at hy
    omega
  | f + 1, x, y, k + 1, hk, h, hx, hy => by
    show x % 2 + pop f (x / 2) < y % 2 + pop f (y / 2)
    have h1 := pop_lt f (x / 2) (y / 2) k (by omega) (fun j hj => by rw [Nat.testBit_div_two] at hj ⊢; exact h _ hj) (by rw [Nat.testBit_div_two]; exact hx) (by rw [Nat.testBit_div_two]; exact hy)
    have h0 := h 0
    rw [Nat.testBit_zero, Nat.testBit_zero, decide_eq_true_eq, decide_eq_true_eq] at h0
    omega
/-- the lowest bit -/
def lowF : Nat → Nat → Nat
  | 0, _ => 0
  | f + 1, a => if a % 2 = 1 then 0 else lowF f (a / 2) + 1
def low (a : Nat) : Nat := lowF 9 a
def low_c (a : Nat) : Bool := a == 0 || ((nI a &&& (-(nI a))) == nI (2 ^ low a) && a.testBit (low a) && Nat.blt (low a) 9 && (List.range 9).all fun p => Nat.ble (low a) p || !a.testBit p)
theorem low_t : ((List.range 512).all fun a => low_c a) = true := by decide +kernel
theorem low_ok {a : Nat} (h : a < 512) (h0 : a ≠ 0) : (nI a &&& (-(nI a))) = nI (2 ^ low a) ∧ a.testBit (low a) = true ∧ low a < 9 ∧ ∀ p, p < low a → a.testBit p = false := by
  have q := List.all_eq_true.mp low_t a (List.mem_range.mpr h)
  unfold low_c at q
  rw [Bool.or_eq_true] at q
  rcases q with q | q
  · exact absurd (eq_of_beq q) h0
  · simp only [Bool.and_eq_true, beq_iff_eq] at q
    have h9 : low a < 9 := Nat.le_of_ble_eq_true q.1.2
    refine ⟨q.1.1.1, q.1.1.2, h9, fun p hp => ?_⟩
    have := List.all_eq_true.mp q.2 p (List.mem_range.mpr (by omega))
    rw [Bool.or_eq_true] at this
    rcases this with u | u
    · have := Nat.le_of_ble_eq_true u
      omega
    · simpa using u
theorem C_lowest (d : Nat) {a : Nat} (σ : Sg) (h : a < 512) (h0 : a ≠ 0) : X_Mod_lowest d (nI a) σ = some (some (.int (nI (low a))), σ) := by
  rw [X_Mod_lowest_e]
  obtain ⟨-, l2, l3, l4⟩ := low_ok h h0
  have loop : ∀ (m p : Nat), p + m = low a → X_Mod_lowest_2 d (nI a) (nI p) σ = some (some (.int (nI (low a))), σ) := by
    intro m
    induction m with
    | zero =>
      intro p hp
      rw [X_Mod_lowest_2_e, xm_br_f]
      · rw [show p = low a by omega]
      · rw [bt_1 (by omega) (by omega), bt_n, show p = low a by omega, l2]
        decide
    | succ m ih =>
      intro p hp
      rw [X_Mod_lowest_2_e, xm_br_t, nI_1]
      · exact ih (p + 1) (by omega)
      · rw [bt_1 (by omega) (by omega), bt_n, l4 p (by omega)]
        rfl
  exact loop (low a) 0 (by omega)
theorem it_sub {T : Nat → Nat} {n g : Nat} : ∀ k s j, s.testBit j = true → (it T n g k s).testBit j = true
  | 0, s, j, h => h
  | k + 1, s, j, h => by
    refine it_sub k _ j ?_
    have : ∀ i, (og T g s i).testBit j = true := by
      intro i
      induction i with
      | zero => exact h
      | succ i ih =>
        show (og T g s i ||| (if s.testBit i then T i &&& g else 0)).testBit j = true
        rw [Nat.testBit_or, ih]
        rfl
    exact this n
/-- how many parts -/
def pcs (T : Nat → Nat) (n g : Nat) : Nat → Nat → Nat
  | 0, _ => 0
  | f + 1, a => if a = 0 then 0 else pcs T n g f (an a (it T n g 9 (2 ^ low a))) + 1
theorem an_pop {T : Nat → Nat} {n g a : Nat} (h : a < 512) (h0 : a ≠ 0) : pop 14 (an a (it T n g 9 (2 ^ low a))) < pop 14 a := by
  obtain ⟨-, l2, l3, -⟩ := low_ok h h0
  refine pop_lt 14 _ _ (low a) (by omega) (fun j hj => ?_) ?_ l2
  · rw [an_bit, Bool.and_eq_true] at hj
    exact hj.1
  · rw [an_bit, it_sub 9 (2 ^ low a) (low a) (Nat.testBit_two_pow_self), l2]
    rfl
theorem pop_0' {a : Nat} (h : a < 512) (h0 : a ≠ 0) : 0 < pop 14 a := by
  have := pop_low (a := a) (by omega) h0
  omega
theorem C_pieces7 {n K : Nat} {T : Nat → Nat} {σ : Sg} (h : NtA n T K σ) (d : Nat) {g : Nat} : ∀ (f a c i : Nat), a < 512 → pop 14 a ≤ f → i + f ≤ 9 → X_Net_pieces_7 (d + 1) (nI g) (nI c) (nI a) (nI i) σ = some (some (.int (nI (c + pcs T n g f a))), σ) := by
  have hn := h.1
  intro f
  induction f with
  | zero =>
    intro a c i ha hf hi
    have a0 : a = 0 := by
      by_cases e : a = 0
      · exact e
      · have := pop_0' ha e; omega
    subst a0
    rw [X_Net_pieces_7_e]
    by_cases q : (9 : Int32) ≤ nI i
    · rw [xm_br_t q]; rfl
    · rw [xm_br_f q, xm_br_t nI_0]; rfl
  | succ f ih =>
    intro a c i ha hf hi
    have q : ¬ (9 : Int32) ≤ nI i := nI_ge (a := i) (b := 9) (by omega) (by omega)
    rw [X_Net_pieces_7_e, xm_br_f q]
    by_cases e : a = 0
    · subst e
      rw [xm_br_t nI_0]
      show _ = some (some (Value.int (nI (c + (if (0 : Nat) = 0 then 0 else _)))), σ)
      rw [if_pos rfl]
      rfl
    · obtain ⟨l1, l2, l3, -⟩ := low_ok ha e
      have hp := an_pop (T := T) (n := n) (g := g) ha e
      rw [xm_br_f (nI_ne0 (by omega) (by omega)), X_Int_lowestOneBit_e, xm_cI_s, l1, show X_Net_spread d (nI (2 ^ low a)) 9 (nI g) σ = _ from C_spread d (k := 9) hn.2 h.2.1 h.c (by omega) (p2_512 l3), xm_cI_s, an_nI _ (by omega), nI_1, nI_1, ih _ (c + 1) (i + 1) (Nat.lt_of_le_of_lt (an_le _ _) ha) (by omega) (by omega)]
      show _ = some (some (Value.int (nI (c + (if a = 0 then 0 else pcs T n g f (an a (it T n g 9 (2 ^ low a))) + 1)))), σ)
      rw [if_neg e, show c + 1 + pcs T n g f (an a (it T n g 9 (2 ^ low a))) = c + (pcs T n g f (an a (it T n g 9 (2 ^ low a))) + 1) by omega]
theorem C_partsOf4 {n K : Nat} {T : Nat → Nat} {σ : Sg} (h : NtA n T K σ) (d : Nat) {g : Nat} : ∀ (f a c : Nat), a < 512 → pop 14 a ≤ f → X_Mod_partsOf_4 (d + 1) (nI g) (nI a) (nI c) σ = some (some (.int (nI (c + pcs T n g f a))), σ) := by
  have hn := h.1
  intro f
  induction f with
  | zero =>
    intro a c ha hf
    have a0 : a = 0 := by
      by_cases e : a = 0
      · exact e
      · have := pop_0' ha e; omega
    subst a0
    rw [X_Mod_partsOf_4_e, xm_br_t nI_0]
    rfl
  | succ f ih =>
    intro a c ha hf
    rw [X_Mod_partsOf_4_e]
    by_cases e : a = 0
    · subst e
      rw [xm_br_t nI_0]
      show _ = some (some (Value.int (nI (c + (if (0 : Nat) = 0 then 0 else _)))), σ)
      rw [if_pos rfl]
      rfl
    · obtain ⟨l1, l2, l3, -⟩ := low_ok ha e
      have hp := an_pop (T := T) (n := n) (g := g) ha e
      rw [xm_br_f (nI_ne0 (by omega) (by omega)), C_lowest d σ ha e, xm_cI_s, sh_1 _ (by omega), show X_Mod_around d (nI (2 ^ low a)) 9 (nI g) σ = _ from C_around d (k := 9) hn.2 h.2.2.1 h.m (by omega) (p2_512 l3), xm_cI_s, an_nI _ (by omega), nI_1, ih _ (c + 1) (Nat.lt_of_le_of_lt (an_le _ _) ha) (by omega)]
      show _ = some (some (Value.int (nI (c + (if a = 0 then 0 else pcs T n g f (an a (it T n g 9 (2 ^ low a))) + 1)))), σ)
      rw [if_neg e, show c + 1 + pcs T n g f (an a (it T n g 9 (2 ^ low a))) = c + (pcs T n g f (an a (it T n g 9 (2 ^ low a))) + 1) by omega]
theorem pop_9 {a : Nat} (h : a < 512) : pop 14 a ≤ 9 := pop_le 14 9 a h
theorem C_pieces {n K : Nat} {T : Nat → Nat} {σ : Sg} (h : NtA n T K σ) (d : Nat) {g : Nat} (hg : g < 512) : X_Net_pieces (d + 1) (nI g) σ = some (some (.int (nI (pcs T n g 9 g))), σ) := by
  rw [X_Net_pieces_e]
  have := C_pieces7 h d (g := g) 9 g 0 0 hg (pop_9 hg) (by omega)
  rw [Nat.zero_add] at this
  exact this
theorem C_partsOf {n K : Nat} {T : Nat → Nat} {σ : Sg} (h : NtA n T K σ) (d : Nat) {g : Nat} (hg : g < 512) : X_Mod_partsOf (d + 1) (nI g) σ = some (some (.int (nI (pcs T n g 9 g))), σ) := by
  rw [X_Mod_partsOf_e]
  have := C_partsOf4 h d (g := g) 9 g 0 hg (pop_9 hg)
  rw [Nat.zero_add] at this
  exact this
