/-! THE CONTRACTS OF ALL METHODS, out of what the small machine answers -/
theorem sd_nul : ∀ (n i : Nat), xm_nth (xm_nul n) i = .null
  | 0, _ => rfl
  | _ + 1, 0 => rfl
  | n + 1, i + 1 => sd_nul n i
theorem sd_lay (ad : Nat → Nat) : ∀ (as : List Value) (n i0 i : Nat) (v : Value), xm_nth (xm_lay n as) i = v → v ≠ .null → (i0 + i, sd_cv ad v) ∈ lv_args i0 (as.map (sd_cv ad))
  | [], n, i0, i, v, h, hv => absurd (h.symm.trans (sd_nul n i)) hv
  | a :: r, n, i0, i, v, h, hv => by
    have one : ∀ b : Value, xm_lay n (b :: r) = b :: xm_lay (n - 1) r → (sd_cv ad b).category = 1 → xm_nth (xm_lay n (b :: r)) i = v → (i0 + i, sd_cv ad v) ∈ lv_args i0 ((b :: r).map (sd_cv ad)) := by
      intro b e hc h
      rw [e] at h
      show _ ∈ (i0, sd_cv ad b) :: lv_args (if (sd_cv ad b).category = 2 then i0 + 2 else i0 + 1) (r.map (sd_cv ad))
      rw [if_neg (by omega)]
      cases i with
      | zero =>
        have h : b = v := h
        subst h
        exact List.mem_cons_self
      | succ i =>
        have := sd_lay ad r (n - 1) (i0 + 1) i v h hv
        rw [show i0 + 1 + i = i0 + (i + 1) by omega] at this
        exact List.mem_cons_of_mem _ this
    have two : ∀ b : Value, xm_lay n (b :: r) = b :: .null :: xm_lay (n - 2) r → (sd_cv ad b).category = 2 → xm_nth (xm_lay n (b :: r)) i = v → (i0 + i, sd_cv ad v) ∈ lv_args i0 ((b :: r).map (sd_cv ad)) := by
      intro b e hc h
      rw [e] at h
      show _ ∈ (i0, sd_cv ad b) :: lv_args (if (sd_cv ad b).category = 2 then i0 + 2 else i0 + 1) (r.map (sd_cv ad))
      rw [if_pos hc]
      cases i with
      | zero =>
        have h : b = v := h
        subst h
        exact List.mem_cons_self
      | succ i =>
        cases i with
        | zero => exact absurd h.symm hv
        | succ i =>
          have := sd_lay ad r (n - 2) (i0 + 2) i v h hv
          rw [show i0 + 2 + i = i0 + (i + 1 + 1) by omega] at this
          exact List.mem_cons_of_mem _ this
    cases a with
    | long x => exact two (.long x) rfl rfl h
    | double x => exact two (.double x) rfl rfl h
    | int x => exact one (.int x) rfl rfl h
    | float x => exact one (.float x) rfl rfl h
    | null => exact one .null rfl rfl h
    | ref x => exact one (.ref x) rfl rfl h
    | retAddr x => exact one (.retAddr x) rfl rfl h
theorem sd_sl : ∀ vs : List Value, (lg_sl vs).length = (vs.map fun v => v.category).sum
  | [] => rfl
  | v :: r => by
    have h := sd_sl r
    unfold lg_sl at h ⊢
    rw [List.flatMap_cons, List.length_append, h, List.map_cons, List.sum_cons]
    rcases lv_cat v with e | e <;> rw [e] <;> rfl
set_option maxHeartbeats 4000000 in
theorem sd_mets {l : Launch} {ad : Nat → Nat} {cA : Nat → ClassId} {D : va_G} (hi : sd_inj ad) : ∀ d, sd_met l ad cA D d
  | 0 => by
    intro M as σ r q h
    cases h
  | d + 1 => by
    have IH := sd_mets (l := l) (cA := cA) (D := D) hi d
    intro M as σ r q h hM
    unfold xm_call at h
    obtain ⟨⟨rt, mL, cd⟩, e1, h⟩ := iv_so h
    obtain ⟨e2, h⟩ := iv_tr h
    have e2 := Nat.le_of_ble_eq_true e2
    rw [sd_mt, xm_at_eq, List.getElem?_map, hM] at e1
    cases e1
    dsimp only at e2 h
    obtain ⟨n, h⟩ := xm_rn_ex h
    have hq := sd_all q (List.mem_of_getElem? hM)
    refine Met.ofW (cc := mi_b q) (maxL := mi_L q) (ret := mi_r q) hq.2.1 rfl ?_
    intro p e s m args below meth c s₁ B hml hv
    obtain ⟨rfl, hP, hK⟩ := hv
    have hts0 := atoms_spec (ws := sd_ws q) B.pre
    have hts : ∀ w ∈ sd_tb, w.before (as.map (sd_cv ad)).toArray s = true := fun w hw => hts0 w (List.mem_cons_of_mem _ hw)
    have hown : s.vm.findClass (mi_y q).cls = some m.cls := findClass_of_methodNamed B.named
    rw [hq.2.2.1] at hown
    rw [lg_entry_eq]
    have hle := lv_entry (as.map (sd_cv ad)) (n := mi_L q) (by rw [sd_sl, sd_cat]; exact e2)
    refine sd_run hi d IH q hq ⟨B.exec, B.bytes, B.returns, B.notSynchronized, hml, hown, hts, hK⟩ n 0 _ [] σ r h s.heap [] _ ⟨hle.1, hle.2.1, fun i v hiv hv => ?_⟩ hP va_S.rf
    have := sd_lay ad as (mi_L q) 0 i v hiv hv
    rw [Nat.zero_add] at this
    exact hle.2.2 _ this
