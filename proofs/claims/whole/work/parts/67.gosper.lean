/-! THE NEXT NUMBER with as many bits -/
def lb (x : Nat) : Nat := x - (x &&& (x - 1))
/-- bits below the lowest one -/
def tz (x : Nat) : Nat := pop 14 (lb x - 1)
def nx (x : Nat) : Nat := (x + lb x) ||| ((x ^^^ (x + lb x)) / (4 * lb x))
def flw (x : Int32) (l j : Int32) : Int32 := (x + l) ||| (((x ^^^ (x + l)).toUInt32 >>> ((2 + j).toUInt32 &&& Int32.toUInt32 31)).toInt32)
def fck (lo : Nat) : Nat → Bool
  | 0 => true
  | n + 1 => (lo + n == 0 || (lb (lo + n) == 2 ^ tz (lo + n) && tz (lo + n) < 14 && (nI (lo + n) &&& (-nI (lo + n))) == nI (lb (lo + n)) && flw (nI (lo + n)) (nI (lb (lo + n))) (nI (tz (lo + n))) == nI (nx (lo + n)))) && fck lo n
theorem fck_ok {lo : Nat} : ∀ {n k : Nat}, fck lo n = true → k < n → lo + k ≠ 0 → lb (lo + k) = 2 ^ tz (lo + k) ∧ tz (lo + k) < 14 ∧ (nI (lo + k) &&& (-nI (lo + k))) = nI (lb (lo + k)) ∧ flw (nI (lo + k)) (nI (lb (lo + k))) (nI (tz (lo + k))) = nI (nx (lo + k))
  | 0, _, _, h, _ => by omega
  | n + 1, k, h, hk, h0 => by
    unfold fck at h
    rw [Bool.and_eq_true, Bool.or_eq_true] at h
    by_cases e : k = n
    · subst e
      rcases h.1 with q | q
      · exact absurd (eq_of_beq q) h0
      · simp only [Bool.and_eq_true, beq_iff_eq, decide_eq_true_eq] at q
        exact ⟨q.1.1.1, q.1.1.2, q.1.2, q.2⟩
    · exact fck_ok h.2 (by omega) h0
set_option maxRecDepth 100000 in
theorem fck_0 : fck 0 2048 = true := by decide +kernel
set_option maxRecDepth 100000 in
theorem fck_1 : fck 2048 2048 = true := by decide +kernel
set_option maxRecDepth 100000 in
theorem fck_2 : fck 4096 2048 = true := by decide +kernel
set_option maxRecDepth 100000 in
theorem fck_3 : fck 6144 2048 = true := by decide +kernel
set_option maxRecDepth 100000 in
theorem fck_4 : fck 8192 2048 = true := by decide +kernel
set_option maxRecDepth 100000 in
theorem fck_5 : fck 10240 2048 = true := by decide +kernel
set_option maxRecDepth 100000 in
theorem fck_6 : fck 12288 2048 = true := by decide +kernel
set_option maxRecDepth 100000 in
theorem fck_7 : fck 14336 2048 = true := by decide +kernel
theorem nx_ok {a : Nat} (h : a < 16384) (h0 : a ≠ 0) : lb a = 2 ^ tz a ∧ tz a < 14 ∧ (nI a &&& (-nI a)) = nI (lb a) ∧ flw (nI a) (nI (lb a)) (nI (tz a)) = nI (nx a) := by
  have key : ∀ lo, fck lo 2048 = true → lo ≤ a → a < lo + 2048 → lb a = 2 ^ tz a ∧ tz a < 14 ∧ (nI a &&& (-nI a)) = nI (lb a) ∧ flw (nI a) (nI (lb a)) (nI (tz a)) = nI (nx a) := by
    intro lo hb h1 h2
    have := fck_ok (k := a - lo) hb (by omega) (by omega)
    rw [show lo + (a - lo) = a by omega] at this
    exact this
  rcases (show a < 2048 ∨ (2048 ≤ a ∧ a < 4096) ∨ (4096 ≤ a ∧ a < 6144) ∨ (6144 ≤ a ∧ a < 8192) ∨ (8192 ≤ a ∧ a < 10240) ∨ (10240 ≤ a ∧ a < 12288) ∨ (12288 ≤ a ∧ a < 14336) ∨ 14336 ≤ a by omega) with q | q | q | q | q | q | q | q
  · exact key 0 fck_0 (by omega) (by omega)
  · exact key 2048 fck_1 q.1 (by omega)
  · exact key 4096 fck_2 q.1 (by omega)
  · exact key 6144 fck_3 q.1 (by omega)
  · exact key 8192 fck_4 q.1 (by omega)
  · exact key 10240 fck_5 q.1 (by omega)
  · exact key 12288 fck_6 q.1 (by omega)
  · exact key 14336 fck_7 q (by omega)
-- no number between has as many
/-- downwards: for each number of bits the least greater number that has it (0: none below 2^14) -/
def scn : Nat → Nat → List Nat → Option (List Nat)
  | 0, _, t => some t
  | n + 1, z, t => if (t.getD (pop 14 z) 0 == 0 && decide (16384 ≤ nx z)) || (t.getD (pop 14 z) 0 == nx z && t.getD (pop 14 z) 0 != 0) then scn n (z - 1) (t.set (pop 14 z) z) else none
/-- what the table says of the numbers above z -/
def Tab (z : Nat) (t : List Nat) : Prop := t.length = 15 ∧ ∀ k, k < 15 → (t.getD k 0 = 0 ∧ ∀ y, z < y → y < 16384 → pop 14 y ≠ k) ∨ (z < t.getD k 0 ∧ pop 14 (t.getD k 0) = k ∧ ∀ y, z < y → y < t.getD k 0 → pop 14 y ≠ k)
def Nxt (z : Nat) : Prop := z < nx z ∧ (nx z < 16384 → pop 14 (nx z) = pop 14 z) ∧ ∀ y, z < y → y < nx z → y < 16384 → pop 14 y ≠ pop 14 z
theorem getD_set (t : List Nat) (i k v : Nat) (h : i < t.length) : (t.set i v).getD k 0 = if k = i then v else t.getD k 0 := by
  rw [List.getD_eq_getElem?_getD, List.getD_eq_getElem?_getD, List.getElem?_set]
  by_cases e : i = k
  · subst e
    simp [h]
  · rw [if_neg e, if_neg (Ne.symm e)]
theorem scn_ok : ∀ (n z : Nat) (t t' : List Nat), z < 16384 → n ≤ z → scn n z t = some t' → Tab z t → Tab (z - n) t' ∧ ∀ y, z - n < y → y ≤ z → Nxt y
  | 0, z, t, t', hz, hn, h, ht => by
    injection h with h
    subst h
    exact ⟨ht, fun y h1 h2 => by omega⟩
  | n + 1, z, t, t', hz, hn, h, ht => by
    unfold scn at h
    have hp : pop 14 z < 15 := by have := pop_le 14 14 z hz; omega
    split at h
    · rename_i hc
      have hT : Tab (z - 1) (t.set (pop 14 z) z) := by
        refine ⟨by rw [List.length_set]; exact ht.1, fun k hk => ?_⟩
        rw [getD_set _ _ _ _ (by rw [ht.1]; exact hp)]
        by_cases e : k = pop 14 z
        · right
          rw [if_pos e]
          exact ⟨by omega, e.symm, fun y h1 h2 => by omega⟩
        · rw [if_neg e]
          rcases ht.2 k hk with ⟨a, b⟩ | ⟨a, b, c⟩
          · left
            refine ⟨a, fun y h1 h2 => ?_⟩
            by_cases q : y = z
            · rw [q]; exact fun w => e w.symm
            · exact b y (by omega) h2
          · right
            refine ⟨by omega, b, fun y h1 h2 => ?_⟩
            by_cases q : y = z
            · rw [q]; exact fun w => e w.symm
            · exact c y (by omega) h2
      obtain ⟨r1, r2⟩ := scn_ok n (z - 1) (t.set (pop 14 z) z) t' (by omega) (by omega) h hT
      rw [show z - 1 - n = z - (n + 1) by omega] at r1 r2
      refine ⟨r1, fun y h1 h2 => ?_⟩
      by_cases q : y = z
      · subst q
        simp only [Bool.or_eq_true, Bool.and_eq_true, beq_iff_eq, bne_iff_ne, decide_eq_true_eq] at hc
        rcases ht.2 _ hp with ⟨a, b⟩ | ⟨a, b, c⟩
        · have h9 : 16384 ≤ nx y := by
            rcases hc with hc | hc
            · exact hc.2
            · exact absurd a hc.2
          exact ⟨by omega, fun w => by omega, fun u h3 h4 h5 => b u h3 h5⟩
        · have h9 : t.getD (pop 14 y) 0 = nx y := by
            rcases hc with hc | hc
            · omega
            · exact hc.1
          rw [h9] at a b c
          exact ⟨a, fun _ => b, fun u h3 h4 _ => c u h3 h4⟩
      · exact r2 y h1 (by omega)
    · cases h
set_option maxRecDepth 100000 in
theorem scn_0 : scn 1024 16383 [0, 0, 0, 0, 0, 0, 0, 0, 0, 0, 0, 0, 0, 0, 0] = some [0, 0, 0, 0, 15360, 15361, 15363, 15367, 15375, 15391, 15423, 15487, 15615, 15871, 16383] := by decide +kernel
set_option maxRecDepth 100000 in
theorem scn_1 : scn 1024 15359 [0, 0, 0, 0, 15360, 15361, 15363, 15367, 15375, 15391, 15423, 15487, 15615, 15871, 16383] = some [0, 0, 0, 14336, 14337, 14339, 14343, 14351, 14367, 14399, 14463, 14591, 14847, 15359, 16383] := by decide +kernel
set_option maxRecDepth 100000 in
theorem scn_2 : scn 1024 14335 [0, 0, 0, 14336, 14337, 14339, 14343, 14351, 14367, 14399, 14463, 14591, 14847, 15359, 16383] = some [0, 0, 0, 13312, 13313, 13315, 13319, 13327, 13343, 13375, 13439, 13567, 13823, 14335, 16383] := by decide +kernel
set_option maxRecDepth 100000 in
theorem scn_3 : scn 1024 13311 [0, 0, 0, 13312, 13313, 13315, 13319, 13327, 13343, 13375, 13439, 13567, 13823, 14335, 16383] = some [0, 0, 12288, 12289, 12291, 12295, 12303, 12319, 12351, 12415, 12543, 12799, 13311, 14335, 16383] := by decide +kernel
set_option maxRecDepth 100000 in
theorem scn_4 : scn 1024 12287 [0, 0, 12288, 12289, 12291, 12295, 12303, 12319, 12351, 12415, 12543, 12799, 13311, 14335, 16383] = some [0, 0, 12288, 11264, 11265, 11267, 11271, 11279, 11295, 11327, 11391, 11519, 11775, 12287, 16383] := by decide +kernel
set_option maxRecDepth 100000 in
theorem scn_5 : scn 1024 11263 [0, 0, 12288, 11264, 11265, 11267, 11271, 11279, 11295, 11327, 11391, 11519, 11775, 12287, 16383] = some [0, 0, 10240, 10241, 10243, 10247, 10255, 10271, 10303, 10367, 10495, 10751, 11263, 12287, 16383] := by decide +kernel
set_option maxRecDepth 100000 in
theorem scn_6 : scn 1024 10239 [0, 0, 10240, 10241, 10243, 10247, 10255, 10271, 10303, 10367, 10495, 10751, 11263, 12287, 16383] = some [0, 0, 9216, 9217, 9219, 9223, 9231, 9247, 9279, 9343, 9471, 9727, 10239, 12287, 16383] := by decide +kernel
set_option maxRecDepth 100000 in
theorem scn_7 : scn 1024 9215 [0, 0, 9216, 9217, 9219, 9223, 9231, 9247, 9279, 9343, 9471, 9727, 10239, 12287, 16383] = some [0, 8192, 8193, 8195, 8199, 8207, 8223, 8255, 8319, 8447, 8703, 9215, 10239, 12287, 16383] := by decide +kernel
set_option maxRecDepth 100000 in
theorem scn_8 : scn 1024 8191 [0, 8192, 8193, 8195, 8199, 8207, 8223, 8255, 8319, 8447, 8703, 9215, 10239, 12287, 16383] = some [0, 8192, 8193, 7168, 7169, 7171, 7175, 7183, 7199, 7231, 7295, 7423, 7679, 8191, 16383] := by decide +kernel
set_option maxRecDepth 100000 in
theorem scn_9 : scn 1024 7167 [0, 8192, 8193, 7168, 7169, 7171, 7175, 7183, 7199, 7231, 7295, 7423, 7679, 8191, 16383] = some [0, 8192, 6144, 6145, 6147, 6151, 6159, 6175, 6207, 6271, 6399, 6655, 7167, 8191, 16383] := by decide +kernel
set_option maxRecDepth 100000 in
theorem scn_10 : scn 1024 6143 [0, 8192, 6144, 6145, 6147, 6151, 6159, 6175, 6207, 6271, 6399, 6655, 7167, 8191, 16383] = some [0, 8192, 5120, 5121, 5123, 5127, 5135, 5151, 5183, 5247, 5375, 5631, 6143, 8191, 16383] := by decide +kernel
set_option maxRecDepth 100000 in
theorem scn_11 : scn 1024 5119 [0, 8192, 5120, 5121, 5123, 5127, 5135, 5151, 5183, 5247, 5375, 5631, 6143, 8191, 16383] = some [0, 4096, 4097, 4099, 4103, 4111, 4127, 4159, 4223, 4351, 4607, 5119, 6143, 8191, 16383] := by decide +kernel
set_option maxRecDepth 100000 in
theorem scn_12 : scn 1024 4095 [0, 4096, 4097, 4099, 4103, 4111, 4127, 4159, 4223, 4351, 4607, 5119, 6143, 8191, 16383] = some [0, 4096, 3072, 3073, 3075, 3079, 3087, 3103, 3135, 3199, 3327, 3583, 4095, 8191, 16383] := by decide +kernel
set_option maxRecDepth 100000 in
theorem scn_13 : scn 1024 3071 [0, 4096, 3072, 3073, 3075, 3079, 3087, 3103, 3135, 3199, 3327, 3583, 4095, 8191, 16383] = some [0, 2048, 2049, 2051, 2055, 2063, 2079, 2111, 2175, 2303, 2559, 3071, 4095, 8191, 16383] := by decide +kernel
set_option maxRecDepth 100000 in
theorem scn_14 : scn 1024 2047 [0, 2048, 2049, 2051, 2055, 2063, 2079, 2111, 2175, 2303, 2559, 3071, 4095, 8191, 16383] = some [0, 1024, 1025, 1027, 1031, 1039, 1055, 1087, 1151, 1279, 1535, 2047, 4095, 8191, 16383] := by decide +kernel
set_option maxRecDepth 100000 in
theorem scn_15 : scn 1023 1023 [0, 1024, 1025, 1027, 1031, 1039, 1055, 1087, 1151, 1279, 1535, 2047, 4095, 8191, 16383] = some [0, 1, 3, 7, 15, 31, 63, 127, 255, 511, 1023, 2047, 4095, 8191, 16383] := by decide +kernel
theorem nxt_0 : Tab 16383 [0, 0, 0, 0, 0, 0, 0, 0, 0, 0, 0, 0, 0, 0, 0] := by
  refine ⟨rfl, fun k hk => Or.inl ⟨?_, fun y h1 h2 => by omega⟩⟩
  revert k
  decide
theorem nxt_1 : Tab 15359 [0, 0, 0, 0, 15360, 15361, 15363, 15367, 15375, 15391, 15423, 15487, 15615, 15871, 16383] ∧ ∀ y, 15359 < y → y ≤ 16383 → Nxt y := scn_ok 1024 16383 _ _ (by omega) (by omega) scn_0 nxt_0
theorem nxt_2 : Tab 14335 [0, 0, 0, 14336, 14337, 14339, 14343, 14351, 14367, 14399, 14463, 14591, 14847, 15359, 16383] ∧ ∀ y, 14335 < y → y ≤ 15359 → Nxt y := scn_ok 1024 15359 _ _ (by omega) (by omega) scn_1 nxt_1.1
theorem nxt_3 : Tab 13311 [0, 0, 0, 13312, 13313, 13315, 13319, 13327, 13343, 13375, 13439, 13567, 13823, 14335, 16383] ∧ ∀ y, 13311 < y → y ≤ 14335 → Nxt y := scn_ok 1024 14335 _ _ (by omega) (by omega) scn_2 nxt_2.1
theorem nxt_4 : Tab 12287 [0, 0, 12288, 12289, 12291, 12295, 12303, 12319, 12351, 12415, 12543, 12799, 13311, 14335, 16383] ∧ ∀ y, 12287 < y → y ≤ 13311 → Nxt y := scn_ok 1024 13311 _ _ (by omega) (by omega) scn_3 nxt_3.1
theorem nxt_5 : Tab 11263 [0, 0, 12288, 11264, 11265, 11267, 11271, 11279, 11295, 11327, 11391, 11519, 11775, 12287, 16383] ∧ ∀ y, 11263 < y → y ≤ 12287 → Nxt y := scn_ok 1024 12287 _ _ (by omega) (by omega) scn_4 nxt_4.1
theorem nxt_6 : Tab 10239 [0, 0, 10240, 10241, 10243, 10247, 10255, 10271, 10303, 10367, 10495, 10751, 11263, 12287, 16383] ∧ ∀ y, 10239 < y → y ≤ 11263 → Nxt y := scn_ok 1024 11263 _ _ (by omega) (by omega) scn_5 nxt_5.1
theorem nxt_7 : Tab 9215 [0, 0, 9216, 9217, 9219, 9223, 9231, 9247, 9279, 9343, 9471, 9727, 10239, 12287, 16383] ∧ ∀ y, 9215 < y → y ≤ 10239 → Nxt y := scn_ok 1024 10239 _ _ (by omega) (by omega) scn_6 nxt_6.1
theorem nxt_8 : Tab 8191 [0, 8192, 8193, 8195, 8199, 8207, 8223, 8255, 8319, 8447, 8703, 9215, 10239, 12287, 16383] ∧ ∀ y, 8191 < y → y ≤ 9215 → Nxt y := scn_ok 1024 9215 _ _ (by omega) (by omega) scn_7 nxt_7.1
theorem nxt_9 : Tab 7167 [0, 8192, 8193, 7168, 7169, 7171, 7175, 7183, 7199, 7231, 7295, 7423, 7679, 8191, 16383] ∧ ∀ y, 7167 < y → y ≤ 8191 → Nxt y := scn_ok 1024 8191 _ _ (by omega) (by omega) scn_8 nxt_8.1
theorem nxt_10 : Tab 6143 [0, 8192, 6144, 6145, 6147, 6151, 6159, 6175, 6207, 6271, 6399, 6655, 7167, 8191, 16383] ∧ ∀ y, 6143 < y → y ≤ 7167 → Nxt y := scn_ok 1024 7167 _ _ (by omega) (by omega) scn_9 nxt_9.1
theorem nxt_11 : Tab 5119 [0, 8192, 5120, 5121, 5123, 5127, 5135, 5151, 5183, 5247, 5375, 5631, 6143, 8191, 16383] ∧ ∀ y, 5119 < y → y ≤ 6143 → Nxt y := scn_ok 1024 6143 _ _ (by omega) (by omega) scn_10 nxt_10.1
theorem nxt_12 : Tab 4095 [0, 4096, 4097, 4099, 4103, 4111, 4127, 4159, 4223, 4351, 4607, 5119, 6143, 8191, 16383] ∧ ∀ y, 4095 < y → y ≤ 5119 → Nxt y := scn_ok 1024 5119 _ _ (by omega) (by omega) scn_11 nxt_11.1
theorem nxt_13 : Tab 3071 [0, 4096, 3072, 3073, 3075, 3079, 3087, 3103, 3135, 3199, 3327, 3583, 4095, 8191, 16383] ∧ ∀ y, 3071 < y → y ≤ 4095 → Nxt y := scn_ok 1024 4095 _ _ (by omega) (by omega) scn_12 nxt_12.1
theorem nxt_14 : Tab 2047 [0, 2048, 2049, 2051, 2055, 2063, 2079, 2111, 2175, 2303, 2559, 3071, 4095, 8191, 16383] ∧ ∀ y, 2047 < y → y ≤ 3071 → Nxt y := scn_ok 1024 3071 _ _ (by omega) (by omega) scn_13 nxt_13.1
theorem nxt_15 : Tab 1023 [0, 1024, 1025, 1027, 1031, 1039, 1055, 1087, 1151, 1279, 1535, 2047, 4095, 8191, 16383] ∧ ∀ y, 1023 < y → y ≤ 2047 → Nxt y := scn_ok 1024 2047 _ _ (by omega) (by omega) scn_14 nxt_14.1
theorem nxt_16 : Tab 0 [0, 1, 3, 7, 15, 31, 63, 127, 255, 511, 1023, 2047, 4095, 8191, 16383] ∧ ∀ y, 0 < y → y ≤ 1023 → Nxt y := scn_ok 1023 1023 _ _ (by omega) (by omega) scn_15 nxt_15.1
theorem nxt {y : Nat} (h0 : 0 < y) (h : y < 16384) : Nxt y := by
  by_cases q0 : 15359 < y
  · exact nxt_1.2 y q0 (by omega)
  by_cases q1 : 14335 < y
  · exact nxt_2.2 y q1 (by omega)
  by_cases q2 : 13311 < y
  · exact nxt_3.2 y q2 (by omega)
  by_cases q3 : 12287 < y
  · exact nxt_4.2 y q3 (by omega)
  by_cases q4 : 11263 < y
  · exact nxt_5.2 y q4 (by omega)
  by_cases q5 : 10239 < y
  · exact nxt_6.2 y q5 (by omega)
  by_cases q6 : 9215 < y
  · exact nxt_7.2 y q6 (by omega)
  by_cases q7 : 8191 < y
  · exact nxt_8.2 y q7 (by omega)
  by_cases q8 : 7167 < y
  · exact nxt_9.2 y q8 (by omega)
  by_cases q9 : 6143 < y
  · exact nxt_10.2 y q9 (by omega)
  by_cases q10 : 5119 < y
  · exact nxt_11.2 y q10 (by omega)
  by_cases q11 : 4095 < y
  · exact nxt_12.2 y q11 (by omega)
  by_cases q12 : 3071 < y
  · exact nxt_13.2 y q12 (by omega)
  by_cases q13 : 2047 < y
  · exact nxt_14.2 y q13 (by omega)
  by_cases q14 : 1023 < y
  · exact nxt_15.2 y q14 (by omega)
  exact nxt_16.2 y (by omega) (by omega)
