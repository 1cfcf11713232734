/-! CHAINS: what a chain brings in the end -/
theorem pop_ins {S q : Nat} (hq : q < 14) (h : S.testBit q = false) : pop 14 (S ||| 2 ^ q) = pop 14 S + 1 := by
  rw [pop_cnt, pop_cnt, ← cnt_ins (U := fun i => S.testBit i) hq h]
  refine cnt_c (fun i _ => ?_)
  show (S ||| 2 ^ q).testBit i = (S.testBit i || (i == q))
  rw [Nat.testBit_or, Nat.testBit_two_pow]
  by_cases e : i = q
  · subst e; simp
  · rw [decide_eq_false (Ne.symm e), beq_false_of_ne e]
theorem or_gt {S q : Nat} (h : S.testBit q = false) : S < S ||| 2 ^ q := by
  have h1 : S ≤ S ||| 2 ^ q := Nat.left_le_or
  rcases Nat.lt_or_eq_of_le h1 with e | e
  · exact e
  · exfalso
    have : (S ||| 2 ^ q).testBit q = true := by rw [Nat.testBit_or, Nat.testBit_two_pow_self, Bool.or_true]
    rw [← e, h] at this
    cases this
theorem cnt_dj {p q : Nat → Bool} : ∀ {n : Nat}, (∀ i, i < n → ¬ (p i = true ∧ q i = true)) → cnt p n + cnt q n ≤ n
  | 0, _ => Nat.le_refl _
  | n + 1, h => by
    have ih := cnt_dj (p := p) (q := q) (n := n) (fun i hi => h i (by omega))
    rw [cnt_s, cnt_s]
    have := h n (by omega)
    cases e1 : p n <;> cases e2 : q n
    · show _ + 0 + (_ + 0) ≤ _; omega
    · show _ + 0 + (_ + 1) ≤ _; omega
    · show _ + 1 + (_ + 0) ≤ _; omega
    · exact absurd ⟨e1, e2⟩ this
theorem an_lt {a b n : Nat} (h : a < 2 ^ n) : an a b < 2 ^ n := Nat.lt_of_le_of_lt (an_le a b) h
/-- those free behind a set: fewer than are left -/
theorem fr_le {n t S : Nat} (hn : n ≤ 9) (ht : t < 2 ^ n) (hS : S < 2 ^ n) : pop 14 (an t S) + pop 14 S ≤ n := by
  rw [← pop_bits (n := n) (by omega) (an_lt ht), ← pop_bits (n := n) (by omega) hS]
  refine cnt_dj (fun i _ => ?_)
  rintro ⟨a, b⟩
  rw [an_bit, b] at a
  simp at a
/-- what a chain that stands at S, last l, brings to f, with weight w -/
def VF (T : Nat → Nat) (n L : Nat) (f : Nat → Nat) : Nat → Nat → Nat → Nat → Nat
  | 0, S, _, w => w * f S
  | k + 1, S, l, w => if pop 14 (an (T l) S) = 0 ∨ L ≤ pop 14 S then w * f S else sm (fun q => if (an (T l) S).testBit q = true then VF T n L f k (S ||| 2 ^ q) q (w / pop 14 (an (T l) S)) else 0) n
section CH
variable {T : Nat → Nat} {n L : Nat} {f : Nat → Nat}
theorem an_f {t S q : Nat} (h : (an t S).testBit q = true) : t.testBit q = true ∧ S.testBit q = false := by
  rw [an_bit, Bool.and_eq_true] at h
  exact ⟨h.1, by simpa using h.2⟩
theorem VF_fu (hn : n ≤ 9) : ∀ (k S l w : Nat), L ≤ pop 14 S + k → VF T n L f k S l w = VF T n L f (k + 1) S l w
  | 0, S, l, w, h => by
    show w * f S = if pop 14 (an (T l) S) = 0 ∨ L ≤ pop 14 S then w * f S else _
    rw [if_pos (Or.inr (by omega))]
  | k + 1, S, l, w, h => by
    show (if pop 14 (an (T l) S) = 0 ∨ L ≤ pop 14 S then w * f S else _) = (if pop 14 (an (T l) S) = 0 ∨ L ≤ pop 14 S then w * f S else _)
    by_cases e : pop 14 (an (T l) S) = 0 ∨ L ≤ pop 14 S
    · rw [if_pos e, if_pos e]
    · rw [if_neg e, if_neg e]
      refine sm_c (fun q hq => ?_)
      by_cases b : (an (T l) S).testBit q = true
      · rw [if_pos b, if_pos b]
        exact VF_fu hn k _ _ _ (by rw [pop_ins (by omega) (an_f b).2]; omega)
      · rw [if_neg b, if_neg b]
/-- with as many steps as there can be -/
def VV (T : Nat → Nat) (n L : Nat) (f : Nat → Nat) (S l w : Nat) : Nat := VF T n L f 7 S l w
theorem VV_un (hn : n ≤ 9) (hL : L ≤ 7) {S : Nat} (hS : 1 ≤ pop 14 S) (l w : Nat) : VV T n L f S l w = if pop 14 (an (T l) S) = 0 ∨ L ≤ pop 14 S then w * f S else sm (fun q => if (an (T l) S).testBit q = true then VV T n L f (S ||| 2 ^ q) q (w / pop 14 (an (T l) S)) else 0) n := by
  show (if pop 14 (an (T l) S) = 0 ∨ L ≤ pop 14 S then w * f S else _) = _
  by_cases e : pop 14 (an (T l) S) = 0 ∨ L ≤ pop 14 S
  · rw [if_pos e, if_pos e]
  · rw [if_neg e, if_neg e]
    refine sm_c (fun q hq => ?_)
    by_cases b : (an (T l) S).testBit q = true
    · rw [if_pos b, if_pos b]
      exact VF_fu hn 6 _ _ _ (by rw [pop_ins (by omega) (an_f b).2]; omega)
    · rw [if_neg b, if_neg b]
theorem VF_0 : ∀ (k S l : Nat), VF T n L f k S l 0 = 0
  | 0, S, l => Nat.zero_mul _
  | k + 1, S, l => by
    show (if pop 14 (an (T l) S) = 0 ∨ L ≤ pop 14 S then 0 * f S else _) = 0
    split
    · exact Nat.zero_mul _
    · refine sm_0 (fun q _ => ?_)
      rw [Nat.zero_div]
      split
      · exact VF_0 k _ _
      · rfl
theorem sm_bits (a c : Nat) (n : Nat) : sm (fun q => if a.testBit q = true then c else 0) n = cnt (fun q => a.testBit q) n * c := by
  unfold cnt
  rw [← sm_mulr]
  refine sm_c (fun q _ => ?_)
  show (if a.testBit q = true then c else 0) = (a.testBit q).toNat * c
  cases a.testBit q <;> simp
theorem VF_le (hn : n ≤ 9) (hT : ∀ p, p < 9 → T p < 2 ^ n) (hf : ∀ S, f S ≤ 1) : ∀ (k S l w : Nat), l < 9 → VF T n L f k S l w ≤ w
  | 0, S, l, w, _ => by
    have := Nat.mul_le_mul_left w (hf S)
    show w * f S ≤ w
    omega
  | k + 1, S, l, w, hl => by
    show (if pop 14 (an (T l) S) = 0 ∨ L ≤ pop 14 S then w * f S else _) ≤ w
    split
    · have := Nat.mul_le_mul_left w (hf S)
      omega
    · have h1 : sm (fun q => if (an (T l) S).testBit q = true then VF T n L f k (S ||| 2 ^ q) q (w / pop 14 (an (T l) S)) else 0) n ≤ sm (fun q => if (an (T l) S).testBit q = true then w / pop 14 (an (T l) S) else 0) n := by
        refine sm_mn (fun q hq => ?_)
        split
        · exact VF_le hn hT hf k _ _ _ (by omega)
        · exact Nat.le_refl _
      rw [sm_bits, pop_bits (by omega) (an_lt (hT l hl))] at h1
      have := Nat.mul_div_le w (pop 14 (an (T l) S))
      omega
/-- the units -/
def DD : Nat → Nat
  | 1 => 91445760000
  | 2 => 108864000
  | 3 => 259200
  | 4 => 4320
  | 5 => 72
  | 6 => 6
  | _ => 1
def ff : Nat → Nat
  | 1 => 840
  | 2 => 420
  | 3 => 60
  | 4 => 60
  | 5 => 12
  | _ => 6
theorem DD_st : ∀ k, k < 7 → ∀ c, c < 9 → 1 ≤ k → 1 ≤ c → c + k ≤ 9 → DD k = c * ((ff k / c) * DD (k + 1)) := by decide
theorem DD_pos (k : Nat) : 1 ≤ DD k := by
  unfold DD
  split <;> omega
theorem VF_lin (hn : n ≤ 9) (hL : L ≤ 7) (hT : ∀ p, p < 9 → T p < 2 ^ n) : ∀ (k S l a : Nat), S < 2 ^ n → l < 9 → 1 ≤ pop 14 S → VF T n L f k S l (a * DD (pop 14 S)) = a * VF T n L f k S l (DD (pop 14 S))
  | 0, S, l, a, _, _, _ => Nat.mul_assoc _ _ _
  | k + 1, S, l, a, hS, hl, h1 => by
    show (if pop 14 (an (T l) S) = 0 ∨ L ≤ pop 14 S then a * DD (pop 14 S) * f S else _) = a * (if pop 14 (an (T l) S) = 0 ∨ L ≤ pop 14 S then DD (pop 14 S) * f S else _)
    by_cases e : pop 14 (an (T l) S) = 0 ∨ L ≤ pop 14 S
    · rw [if_pos e, if_pos e, Nat.mul_assoc]
    · rw [if_neg e, if_neg e, ← sm_mul]
      have hfr := fr_le hn (hT l hl) hS
      have hD := DD_st (pop 14 S) (by omega) (pop 14 (an (T l) S)) (by omega) h1 (by omega) (by omega)
      have hc : 0 < pop 14 (an (T l) S) := by omega
      generalize pop 14 (an (T l) S) = c at *
      generalize he : ff (pop 14 S) / c = x at *
      refine sm_c (fun q hq => ?_)
      by_cases b : (an (T l) S).testBit q = true
      · rw [if_pos b, if_pos b]
        have hp := pop_ins (S := S) (q := q) (by omega) (an_f b).2
        have hS' : S ||| 2 ^ q < 2 ^ n := Nat.or_lt_two_pow hS (Nat.pow_lt_pow_right (by omega) hq)
        have e1 : a * DD (pop 14 S) / c = a * x * DD (pop 14 (S ||| 2 ^ q)) := by
          rw [hp, hD, show a * (c * (x * DD (pop 14 S + 1))) = c * (a * x * DD (pop 14 S + 1)) by
            simp only [Nat.mul_assoc, Nat.mul_comm, Nat.mul_left_comm], Nat.mul_div_cancel_left _ hc]
        have e2 : DD (pop 14 S) / c = x * DD (pop 14 (S ||| 2 ^ q)) := by
          rw [hp, hD, Nat.mul_div_cancel_left _ hc]
        rw [e1, e2, VF_lin hn hL hT k _ _ (a * x) hS' (by omega) (by omega), VF_lin hn hL hT k _ _ x hS' (by omega) (by omega), Nat.mul_assoc]
      · rw [if_neg b, if_neg b, Nat.mul_zero]
/-- all of it, if each set counts 1 -/
theorem VF_1 (hn : n ≤ 9) (hL : L ≤ 7) (hT : ∀ p, p < 9 → T p < 2 ^ n) (hf : ∀ S, f S = 1) : ∀ (k S l a : Nat), S < 2 ^ n → l < 9 → 1 ≤ pop 14 S → VF T n L f k S l (a * DD (pop 14 S)) = a * DD (pop 14 S)
  | 0, S, l, a, _, _, _ => by show a * DD (pop 14 S) * f S = _; rw [hf, Nat.mul_one]
  | k + 1, S, l, a, hS, hl, h1 => by
    show (if pop 14 (an (T l) S) = 0 ∨ L ≤ pop 14 S then a * DD (pop 14 S) * f S else _) = _
    by_cases e : pop 14 (an (T l) S) = 0 ∨ L ≤ pop 14 S
    · rw [if_pos e, hf, Nat.mul_one]
    · rw [if_neg e]
      have hfr := fr_le hn (hT l hl) hS
      have hD := DD_st (pop 14 S) (by omega) (pop 14 (an (T l) S)) (by omega) h1 (by omega) (by omega)
      have hc : 0 < pop 14 (an (T l) S) := by omega
      have key : sm (fun q => if (an (T l) S).testBit q = true then VF T n L f k (S ||| 2 ^ q) q (a * DD (pop 14 S) / pop 14 (an (T l) S)) else 0) n = sm (fun q => if (an (T l) S).testBit q = true then a * DD (pop 14 S) / pop 14 (an (T l) S) else 0) n := by
        refine sm_c (fun q hq => ?_)
        by_cases b : (an (T l) S).testBit q = true
        · rw [if_pos b, if_pos b]
          have hp := pop_ins (S := S) (q := q) (by omega) (an_f b).2
          have hS' : S ||| 2 ^ q < 2 ^ n := Nat.or_lt_two_pow hS (Nat.pow_lt_pow_right (by omega) hq)
          have e1 : a * DD (pop 14 S) / pop 14 (an (T l) S) = a * (ff (pop 14 S) / pop 14 (an (T l) S)) * DD (pop 14 (S ||| 2 ^ q)) := by
            generalize pop 14 (an (T l) S) = c at *
            generalize ff (pop 14 S) / c = x at *
            rw [hp, hD, show a * (c * (x * DD (pop 14 S + 1))) = c * (a * x * DD (pop 14 S + 1)) by
              simp only [Nat.mul_assoc, Nat.mul_comm, Nat.mul_left_comm], Nat.mul_div_cancel_left _ hc]
          rw [e1, VF_1 hn hL hT hf k _ _ _ hS' (by omega) (by omega)]
        · rw [if_neg b, if_neg b]
      rw [key, sm_bits, pop_bits (by omega) (an_lt (hT l hl))]
      refine Nat.mul_div_cancel' ?_
      rw [hD]
      exact Nat.dvd_trans (Nat.dvd_mul_right _ _) (Nat.dvd_mul_left _ _)
theorem VF_c (hn : n ≤ 9) {g : Nat → Nat} (h : ∀ S, 1 ≤ S → S < 2 ^ n → f S = g S) : ∀ (k S l w : Nat), 1 ≤ S → S < 2 ^ n → VF T n L f k S l w = VF T n L g k S l w
  | 0, S, l, w, h1, h2 => by show w * f S = w * g S; rw [h S h1 h2]
  | k + 1, S, l, w, h1, h2 => by
    show (if pop 14 (an (T l) S) = 0 ∨ L ≤ pop 14 S then w * f S else _) = (if pop 14 (an (T l) S) = 0 ∨ L ≤ pop 14 S then w * g S else _)
    by_cases e : pop 14 (an (T l) S) = 0 ∨ L ≤ pop 14 S
    · rw [if_pos e, if_pos e, h S h1 h2]
    · rw [if_neg e, if_neg e]
      refine sm_c (fun q hq => ?_)
      by_cases b : (an (T l) S).testBit q = true
      · rw [if_pos b, if_pos b]
        exact VF_c hn h k _ _ _ (Nat.le_trans h1 Nat.left_le_or) (Nat.or_lt_two_pow h2 (Nat.pow_lt_pow_right (by omega) hq))
      · rw [if_neg b, if_neg b]
end CH
-- sums with one place changed
theorem sm_u1 {f g : Nat → Nat} {t δ : Nat} : ∀ {n : Nat}, t < n → g t = f t + δ → (∀ i, i ≠ t → g i = f i) → sm g n = sm f n + δ
  | 0, h, _, _ => by omega
  | n + 1, h, h1, h2 => by
    show sm g n + g n = sm f n + f n + δ
    by_cases e : t = n
    · subst e
      rw [sm_c (f := g) (g := f) (fun i hi => h2 i (by omega)), h1]
      omega
    · rw [sm_u1 (n := n) (by omega) h1 h2, h2 n (Ne.symm e)]
      omega
theorem sm_ex {f : Nat → Nat} {m : Nat} : ∀ {n : Nat}, m ≤ n → (∀ i, m ≤ i → i < n → f i = 0) → sm f n = sm f m
  | 0, h, _ => by rw [show m = 0 by omega]
  | n + 1, h, hz => by
    by_cases e : m = n + 1
    · rw [e]
    · show sm f n + f n = _
      rw [sm_ex (n := n) (by omega) (fun i h1 h2 => hz i h1 (by omega)), hz n (by omega) (by omega)]
      rfl
