/-! the store behind the constructors keeps the invariant -/
def cn_o0 : Nat → Int32
  | 8 => -1
  | 9 => 4
  | _ => 0
def cn_o1 : Nat → Int32
  | 1 => 6
  | _ => 0
def cn_o3 : Nat → Int32
  | 3 => -1
  | _ => 0
def cn_o9 : Nat → Int32
  | 11 => 99
  | _ => 0
def cn_o39 : Nat → Int32
  | 5 => 6
  | 8 => -1
  | 9 => 4
  | 10 => 99
  | _ => 0
def cn_s1 : Nat → Nat → Int32
  | 0 => cn_o0
  | 1 => cn_o1
  | 3 => cn_o3
  | 9 => cn_o9
  | 32 => cn_f4
  | 39 => cn_o39
  | 40 => cn_f4
  | _ => fun _ => 0
def cn_s0 : Sg := (cn_s1, fun _ _ => 0)
theorem cn_f4v : ∀ s, s < 4 → cn_f4 s = -1
  | 0, _ => rfl
  | 1, _ => rfl
  | 2, _ => rfl
  | 3, _ => rfl
  | s + 4, h => absurd h (by omega)
theorem cn_inv : INV 0 cn_s0 := by
  refine ⟨6, fun _ => 0, 0, -1, 4, 0, 0, ?_, ?_, ?_, ?_, ?_, ?_, by decide⟩
  · refine ⟨by decide, rfl, rfl, fun p hp => ⟨rfl, rfl, (show 0 < 2 ^ 6 by decide), Nat.zero_testBit p, fun _ => rfl, fun q _ => ?_⟩, rfl, by decide, fun p hp => ?_⟩
    · rw [Nat.zero_testBit, Nat.zero_testBit]
    · rw [Nat.zero_div]
      rfl
  · exact ⟨rfl, rfl, Or.inl rfl, rfl, rfl, by decide, by decide⟩
  · exact ⟨by decide, rfl, rfl, ⟨rfl, 0, by decide, rfl⟩, ⟨rfl, 99, by decide, rfl⟩, ⟨rfl, 0, by decide, rfl⟩, fun i hi => absurd hi (Nat.not_lt_zero _), fun i _ _ => rfl⟩
  · exact ⟨fun i _ => ⟨rfl, 0, by decide, rfl⟩, fun j _ => rfl⟩
  · exact ⟨rfl, fun s hs => ⟨rfl, Or.inl (cn_f4v s hs), rfl, 0, by decide, rfl, fun i hi => absurd hi (Nat.not_lt_zero _)⟩⟩
  · exact ⟨rfl, by decide, Or.inl rfl, fun h => absurd h (by decide)⟩
/-- the cells lie apart -/
theorem cn_inj {A : Nat → Prop} {ad : Nat → Nat} {cA : Nat → ClassId} {σ : Sg} (hD : va_D A (sd_w ad cA σ)) : sd_inj ad ∧ ∀ k, k < xm_sh.length → A (ad k) := by
  have at' : ∀ k, k < xm_sh.length → ∃ e, (sd_w ad cA σ)[k]? = some (ad k, e) := fun k hk => by
    have h : xm_at xm_sh k = some xm_sh[k] := by rw [xm_at_eq]; exact List.getElem?_eq_getElem hk
    exact ⟨_, sd_w_at h⟩
  refine ⟨fun i j hi hj e => ?_, fun k hk => ?_⟩
  · obtain ⟨a, ha⟩ := at' i hi
    obtain ⟨b, hb⟩ := at' j hj
    exact hD.1 i j _ _ ha hb e
  · obtain ⟨a, ha⟩ := at' k hk
    exact hD.2 k _ ha
def cn_ad (l : List Nat) (k : Nat) : Nat := l.getD k 0
