/-! BITS: how many of them -/
def bc1 (x : Int32) : Int32 := x - (((x.toUInt32 >>> ((1 : Int32).toUInt32 &&& Int32.toUInt32 31)).toInt32) &&& 1431655765)
def bc2 (x : Int32) : Int32 := (x &&& 858993459) + (((x.toUInt32 >>> ((2 : Int32).toUInt32 &&& Int32.toUInt32 31)).toInt32) &&& 858993459)
def bc3 (x : Int32) : Int32 := (x + ((x.toUInt32 >>> ((4 : Int32).toUInt32 &&& Int32.toUInt32 31)).toInt32)) &&& 252645135
def bc4 (x : Int32) : Int32 := x + ((x.toUInt32 >>> ((8 : Int32).toUInt32 &&& Int32.toUInt32 31)).toInt32)
def bc5 (x : Int32) : Int32 := x + ((x.toUInt32 >>> ((16 : Int32).toUInt32 &&& Int32.toUInt32 31)).toInt32)
def bcx (x : Int32) : Int32 := bc5 (bc4 (bc3 (bc2 (bc1 x)))) &&& 63
theorem bcx_e (d : Nat) (x : Int32) (σ : Sg) : X_Int_bitCount d x σ = some (some (.int (bcx x)), σ) := X_Int_bitCount_e d x σ
def bck (lo : Nat) : Nat → Bool
  | 0 => true
  | n + 1 => (bcx (nI (lo + n)) == nI (pop 14 (lo + n))) && bck lo n
theorem bck_ok {lo : Nat} : ∀ {n k : Nat}, bck lo n = true → k < n → bcx (nI (lo + k)) = nI (pop 14 (lo + k))
  | 0, _, _, h => by omega
  | n + 1, k, h, hk => by
    unfold bck at h
    rw [Bool.and_eq_true] at h
    by_cases e : k = n
    · subst e
      exact eq_of_beq h.1
    · exact bck_ok h.2 (by omega)
set_option maxRecDepth 100000 in
theorem bck_0 : bck 0 2048 = true := by decide +kernel
set_option maxRecDepth 100000 in
theorem bck_1 : bck 2048 2048 = true := by decide +kernel
set_option maxRecDepth 100000 in
theorem bck_2 : bck 4096 2048 = true := by decide +kernel
set_option maxRecDepth 100000 in
theorem bck_3 : bck 6144 2048 = true := by decide +kernel
set_option maxRecDepth 100000 in
theorem bck_4 : bck 8192 2048 = true := by decide +kernel
set_option maxRecDepth 100000 in
theorem bck_5 : bck 10240 2048 = true := by decide +kernel
set_option maxRecDepth 100000 in
theorem bck_6 : bck 12288 2048 = true := by decide +kernel
set_option maxRecDepth 100000 in
theorem bck_7 : bck 14336 2048 = true := by decide +kernel
theorem bcx_n {a : Nat} (h : a < 16384) : bcx (nI a) = nI (pop 14 a) := by
  have key : ∀ lo, bck lo 2048 = true → lo ≤ a → a < lo + 2048 → bcx (nI a) = nI (pop 14 a) := by
    intro lo hb h1 h2
    have := bck_ok (k := a - lo) hb (by omega)
    rw [show lo + (a - lo) = a by omega] at this
    exact this
  rcases (show a < 2048 ∨ (2048 ≤ a ∧ a < 4096) ∨ (4096 ≤ a ∧ a < 6144) ∨ (6144 ≤ a ∧ a < 8192) ∨ (8192 ≤ a ∧ a < 10240) ∨ (10240 ≤ a ∧ a < 12288) ∨ (12288 ≤ a ∧ a < 14336) ∨ 14336 ≤ a by omega) with q | q | q | q | q | q | q | q
  · exact key 0 bck_0 (by omega) (by omega)
  · exact key 2048 bck_1 q.1 (by omega)
  · exact key 4096 bck_2 q.1 (by omega)
  · exact key 6144 bck_3 q.1 (by omega)
  · exact key 8192 bck_4 q.1 (by omega)
  · exact key 10240 bck_5 q.1 (by omega)
  · exact key 12288 bck_6 q.1 (by omega)
  · exact key 14336 bck_7 q (by omega)
theorem C_bitCount (d : Nat) {a : Nat} (σ : Sg) (h : a < 16384) : X_Int_bitCount d (nI a) σ = some (some (.int (nI (pop 14 a))), σ) := by
  rw [bcx_e, bcx_n h]
def pck (lo : Nat) : Nat → Bool
  | 0 => true
  | n + 1 => (lo + n == 0 || pop 14 ((lo + n) &&& (lo + n - 1)) + 1 == pop 14 (lo + n)) && pck lo n
theorem pck_ok {lo : Nat} : ∀ {n k : Nat}, pck lo n = true → k < n → lo + k ≠ 0 → pop 14 ((lo + k) &&& (lo + k - 1)) + 1 = pop 14 (lo + k)
  | 0, _, _, h, _ => by omega
  | n + 1, k, h, hk, h0 => by
    unfold pck at h
    rw [Bool.and_eq_true, Bool.or_eq_true] at h
    by_cases e : k = n
    · subst e
      rcases h.1 with q | q
      · exact absurd (eq_of_beq q) h0
      · exact eq_of_beq q
    · exact pck_ok h.2 (by omega) h0
set_option maxRecDepth 100000 in
theorem pck_a : pck 0 4096 = true := by decide +kernel
set_option maxRecDepth 100000 in
theorem pck_b : pck 4096 4096 = true := by decide +kernel
set_option maxRecDepth 100000 in
theorem pck_c : pck 8192 4096 = true := by decide +kernel
set_option maxRecDepth 100000 in
theorem pck_d : pck 12288 4096 = true := by decide +kernel
