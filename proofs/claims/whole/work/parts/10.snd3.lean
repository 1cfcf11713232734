section SND
variable {p : Program} {l : Launch} {e : Env} {s : State} {m : MethodId} {args : Array Value} {below : List Frame} {meth : Method} {c : Code} {ad : Nat → Nat} {cA : Nat → ClassId} {D : va_G} {Qz : State → Prop} {R : Room}
/-- behind a call -/
theorem sd_after {H : Heap} {locs : List Loc} {pc : Nat} {ls : Array Slot} {st0 rest : List Value} {a : Array Value} {r : RV} (hr : va_Run p l e R s m args below meth c H locs 0 0 0 0 (F0 m pc ls st0) rest (sd_Q ad cA D r a) (sd_A ad)) (hS : va_S (sd_A ad) s.heap H locs)
    (kk : ∀ (H1 : Heap) (locs1 : List Loc), va_P D xm_cl (sd_w ad cA r.2) H1 → va_S (sd_A ad) s.heap H1 locs1 → W p l e R s m args below meth c H1 locs1 0 0 Qz (F0 m (pc + 3) ls ((r.1.map (sd_cv ad)).toList ++ rest))) : W p l e R s m args below meth c H locs 0 0 Qz (F0 m pc ls st0) := by
  intro T hT X
  obtain ⟨v, st₀, t, T', L, h0, X', hL, e1, e2, ⟨hv, hP, hz, hk⟩, st⟩ := hr T hT X
  cases hv
  rw [h0] at hz hk
  have hS' : va_S (sd_A ad) s.heap T'.heap (locs ++ L) := by
    refine ⟨by rw [e1]; exact Nat.le_trans hS.1 hz, fun q h1 h2 => ?_, fun q hq => ?_⟩
    · rw [e1, hk q (Nat.lt_of_lt_of_le h1 hS.1) h2]
      exact hS.2.1 q h1 h2
    · rcases List.mem_append.mp hq with h | h
      · exact hS.2.2 q h
      · exact hL q h
  obtain ⟨t2, a1, b1⟩ := kk T'.heap (locs ++ L) (by rw [e1]; exact hP) hS' T' rfl X'
  exact ⟨t2, st t2 a1, b1⟩
theorem sd_aald {cc : ByteArray} {H : Heap} {locs : List Loc} {pc : Nat} {ls : Array Slot} {rest : List Value} {σ : Sg} {b z j : Nat} (hx : p.tables.exec = Jvm.exec) (hb : c.code = cc) (hK : va_K D xm_cl (sd_ty cA) s) (hP : va_P D xm_cl (sd_w ad cA σ) H) (ha : xm_at xm_sh b = some (.inl (3, 4, z))) (hj : j < 4) (hdg : decode cc pc = .ok (.aaload, 1))
    (kk : W p l e R s m args below meth c H locs 0 0 Qz (F0 m (pc + 1) ls (.ref (ad (z + j)) :: rest))) : W p l e R s m args below meth c H locs 0 0 Qz (F0 m pc ls (.int (nI j) :: .ref (ad b) :: rest)) := by
  have hc : (nI j).toNatClampNeg = j := nI_clamp (by omega)
  have ht : (sd_ty cA)[3]? = some (cA 3, .array .int) := rfl
  have hcell := hP b _ (sd_w_at (ad := ad) (cA := cA) (σ := σ) ha)
  refine W.aald (v := va_rf ((fun j => if j < 4 then some (ad (z + j)) else none) j)) (ty := .array .int) hx hb hcell ((hK.2 3 _ ht).1 4 (fun j => va_rf ((fun j => if j < 4 then some (ad (z + j)) else none) j))) rfl (fun q => by cases q) (by show ¬ (nI j < 0 ∨ (arrV _ _ _).slots.size ≤ _); rw [arrV_size]; exact nI_in hj (Nat.lt_trans (show 4 < 5 by omega) (by decide))) (by show (arrV _ _ _).slots[_]? = _; rw [hc, arrV_read _ _ hj]) rfl rfl hdg ?_
  dsimp only
  rw [if_pos hj]
  exact kk
end SND
/-- what holds at each of a method's instructions -/
def sd_Ctx (p : Program) (s : State) (m : MethodId) (args : Array Value) (meth : Method) (c : Code) (cA : Nat → ClassId) (D : va_G) (q : MI) : Prop :=
  p.tables.exec = Jvm.exec ∧ c.code = mi_b q ∧ meth.sig.returnType = mi_r q ∧ meth.locks = false ∧ c.maxLocals = mi_L q ∧ s.vm.findClass (sd_on (mi_o q)) = some m.cls ∧ (∀ w ∈ sd_tb, w.before args s = true) ∧ va_K D xm_cl (sd_ty cA) s
set_option maxHeartbeats 4000000 in
set_option maxRecDepth 10000 in
theorem sd_run {l : Launch} {ad : Nat → Nat} {cA : Nat → ClassId} {D : va_G} (hi : sd_inj ad) (d : Nat) (IH : sd_met l ad cA D d) (q : MI) (hq : sd_good q) {p : Program} {e : Env} {s : State} {m : MethodId} {args : Array Value} {below : List Frame} {meth : Method} {c : Code} (C0 : sd_Ctx p s m args meth c cA D q) :
    ∀ (n pc : Nat) (xs st : List Value) (σ : Sg) (r : RV), xm_fr (xm_call d) (mi_t q) (mi_k q) n pc xs st σ = some r → ∀ (H : Heap) (locs : List Loc) (ls : Array Slot), sd_LR ad ls (mi_L q) xs → va_P D xm_cl (sd_w ad cA σ) H → va_S (sd_A ad) s.heap H locs →
      W p l e (sd_rm (d + 1)) s m args below meth c H locs 0 0 (MQ below (sd_Q ad cA D r) args s 0 0 (sd_A ad)) (F0 m pc ls (st.map (sd_cv ad)))
  | 0, _, _, _, _, _, h, _, _, _, _, _, _ => by cases h
  | n + 1, pc, xs0, st, σ, r, h, H, locs, ls, hL0, hP, hS => by
    obtain ⟨hx, hb, hr, hlocks, hml, hown, hts, hK⟩ := id C0
    have ih := sd_run (e := e) (below := below) hi d IH q hq C0 n
    unfold xm_fr at h
    cases hl : xm_lk (mi_k q) pc with
    | none => rw [hl] at h; cases h
    | some x =>
    obtain ⟨i, zk, t, nx⟩ := x
    rw [hl] at h
    dsimp only at h
    have hck := List.all_eq_true.mp hq.2.2.2.2.2.2.2.2 _ (sd_lk hl)
    simp only [sd_chk, Bool.and_eq_true, decide_eq_true_eq] at hck
    obtain ⟨⟨hd, hn⟩, hk⟩ := hck
    subst hn
    have hL := hL0.msk zk
    generalize xm_msk zk xs0 = xs at h hL
    have hD := sd_D hi cA σ
    cases i with
    | iconst z =>
      replace h := iv_so h
      obtain ⟨x, e1, h⟩ := h
      have hk := of_decide_eq_true hk
      rw [e1] at hk
      exact lv_iconst hx hb hd (Option.some.inj hk).symm (ih _ _ _ _ _ h _ _ _ hL hP hS)
    | bipush z =>
      replace h := iv_so h
      obtain ⟨x, e1, h⟩ := h
      have hk := of_decide_eq_true hk
      rw [e1] at hk
      exact lv_bipush hx hb hd (Option.some.inj hk).symm (ih _ _ _ _ _ h _ _ _ hL hP hS)
    | sipush z =>
      replace h := iv_so h
      obtain ⟨x, e1, h⟩ := h
      have hk := of_decide_eq_true hk
      rw [e1] at hk
      exact lv_sipush hx hb hd (Option.some.inj hk).symm (ih _ _ _ _ _ h _ _ _ hL hP hS)
    | lconst z =>
      replace h := iv_so h
      obtain ⟨x, e1, h⟩ := h
      have hk := of_decide_eq_true hk
      rw [e1] at hk
      exact lv_lconst hx hb hd (Option.some.inj hk).symm (ih _ _ _ _ _ h _ _ _ hL hP hS)
    | ldc z =>
      replace h := iv_so h
      obtain ⟨x, e1, h⟩ := h
      obtain ⟨y, e2, hw⟩ := sd_lI_ok hk
      cases e1.symm.trans e2
      exact lv_ldc hx hb hown (hts _ hw) hd (ih _ _ _ _ _ h _ _ _ hL hP hS)
    | ldc_w z =>
      replace h := iv_so h
      obtain ⟨x, e1, h⟩ := h
      obtain ⟨y, e2, hw⟩ := sd_lI_ok hk
      cases e1.symm.trans e2
      exact lv_ldcw hx hb hown (hts _ hw) hd (ih _ _ _ _ _ h _ _ _ hL hP hS)
    | ldc2_w z =>
      replace h := iv_so h
      obtain ⟨x, e1, h⟩ := h
      obtain ⟨y, e2, hw⟩ := sd_lL_ok hk
      cases e1.symm.trans e2
      exact lv_ldc2 hx hb hown (hts _ hw) hd (ih _ _ _ _ _ h _ _ _ hL hP hS)
    | iload_n z =>
      replace h := iv_vI h
      obtain ⟨x, e1, h⟩ := h
      exact lv_iload_n hx hb hd rfl (hL.2.2 _ _ e1 (by intro q; cases q)) (ih _ _ _ _ _ h _ _ _ hL hP hS)
    | iload z =>
      replace h := iv_vI h
      obtain ⟨x, e1, h⟩ := h
      exact lv_iload hx hb hd (hL.2.2 _ _ e1 (by intro q; cases q)) (ih _ _ _ _ _ h _ _ _ hL hP hS)
    | lload_n z =>
      replace h := iv_vL h
      obtain ⟨x, e1, h⟩ := h
      exact lv_lload_n hx hb hd rfl (hL.2.2 _ _ e1 (by intro q; cases q)) (ih _ _ _ _ _ h _ _ _ hL hP hS)
    | lload z =>
      replace h := iv_vL h
      obtain ⟨x, e1, h⟩ := h
      exact lv_lload hx hb hd (hL.2.2 _ _ e1 (by intro q; cases q)) (ih _ _ _ _ _ h _ _ _ hL hP hS)
    | aload_n z =>
      replace h := iv_vR h
      obtain ⟨x, e1, h⟩ := h
      exact lv_aload_n hx hb hd rfl (hL.2.2 _ _ e1 (by intro q; cases q)) (ih _ _ _ _ _ h _ _ _ hL hP hS)
    | aload z =>
      replace h := iv_vR h
      obtain ⟨x, e1, h⟩ := h
      exact lv_aload hx hb hd (hL.2.2 _ _ e1 (by intro q; cases q)) (ih _ _ _ _ _ h _ _ _ hL hP hS)
    | istore_n z =>
      replace h := iv_pI h
      obtain ⟨x, r1, rfl, h⟩ := h
      exact lv_istore_n hx hb hd rfl hL.lv (of_decide_eq_true hk) rfl (fun ls1 hl1 => ih _ _ _ _ _ h _ _ _ (sd_LR.st1 hl1) hP hS)
    | istore z =>
      replace h := iv_pI h
      obtain ⟨x, r1, rfl, h⟩ := h
      exact lv_istore hx hb hd hL.lv (of_decide_eq_true hk) rfl (fun ls1 hl1 => ih _ _ _ _ _ h _ _ _ (sd_LR.st1 hl1) hP hS)
    | lstore_n z =>
      replace h := iv_pL h
      obtain ⟨x, r1, rfl, h⟩ := h
      exact lv_lstore_n hx hb hd rfl hL.lv (of_decide_eq_true hk) rfl (fun ls1 hl1 => ih _ _ _ _ _ h _ _ _ (sd_LR.st2 hl1) hP hS)
    | lstore z =>
      replace h := iv_pL h
      obtain ⟨x, r1, rfl, h⟩ := h
      exact lv_lstore hx hb hd hL.lv (of_decide_eq_true hk) rfl (fun ls1 hl1 => ih _ _ _ _ _ h _ _ _ (sd_LR.st2 hl1) hP hS)
    | iinc z k =>
      replace h := iv_vI h
      obtain ⟨x, e1, h⟩ := h
      replace h := iv_so h
      obtain ⟨y, e2, h⟩ := h
      simp only [sd_ck, Bool.and_eq_true, decide_eq_true_eq] at hk
      cases e2.symm.trans hk.2
      obtain ⟨k9, hk9⟩ := List.getElem?_of_mem (sd_prs_mem (ad := ad) e1 (by intro q; cases q))
      exact lv_iinc hx hb hd hL.lv hk9 rfl hk.1 rfl (fun ls1 hl1 => ih _ _ _ _ _ h _ _ _ (sd_LR.st1 (v := .int _) hl1) hP hS)
    | iadd =>
      replace h := iv_pI h
      obtain ⟨y, r1, rfl, h⟩ := h
      replace h := iv_pI h
      obtain ⟨x, r2, rfl, h⟩ := h
      exact lv_iadd hx hb hd (ih _ _ _ _ _ h _ _ _ hL hP hS)
    | isub =>
      replace h := iv_pI h
      obtain ⟨y, r1, rfl, h⟩ := h
      replace h := iv_pI h
      obtain ⟨x, r2, rfl, h⟩ := h
      exact lv_isub hx hb hd (ih _ _ _ _ _ h _ _ _ hL hP hS)
    | imul =>
      replace h := iv_pI h
      obtain ⟨y, r1, rfl, h⟩ := h
      replace h := iv_pI h
      obtain ⟨x, r2, rfl, h⟩ := h
      exact lv_imul hx hb hd (ih _ _ _ _ _ h _ _ _ hL hP hS)
    | iand =>
      replace h := iv_pI h
      obtain ⟨y, r1, rfl, h⟩ := h
      replace h := iv_pI h
      obtain ⟨x, r2, rfl, h⟩ := h
      exact lv_iand hx hb hd (ih _ _ _ _ _ h _ _ _ hL hP hS)
    | ior =>
      replace h := iv_pI h
      obtain ⟨y, r1, rfl, h⟩ := h
      replace h := iv_pI h
      obtain ⟨x, r2, rfl, h⟩ := h
      exact lv_ior hx hb hd (ih _ _ _ _ _ h _ _ _ hL hP hS)
    | ixor =>
      replace h := iv_pI h
      obtain ⟨y, r1, rfl, h⟩ := h
      replace h := iv_pI h
      obtain ⟨x, r2, rfl, h⟩ := h
      exact lv_ixor hx hb hd (ih _ _ _ _ _ h _ _ _ hL hP hS)
    | ishl =>
      replace h := iv_pI h
      obtain ⟨y, r1, rfl, h⟩ := h
      replace h := iv_pI h
      obtain ⟨x, r2, rfl, h⟩ := h
      exact lv_ishl hx hb hd (ih _ _ _ _ _ h _ _ _ hL hP hS)
    | ishr =>
      replace h := iv_pI h
      obtain ⟨y, r1, rfl, h⟩ := h
      replace h := iv_pI h
      obtain ⟨x, r2, rfl, h⟩ := h
      exact lv_ishr hx hb hd (ih _ _ _ _ _ h _ _ _ hL hP hS)
    | iushr =>
      replace h := iv_pI h
      obtain ⟨y, r1, rfl, h⟩ := h
      replace h := iv_pI h
      obtain ⟨x, r2, rfl, h⟩ := h
      exact lv_iushr hx hb hd rfl (ih _ _ _ _ _ h _ _ _ hL hP hS)
    | idiv =>
      replace h := iv_pI h
      obtain ⟨y, r1, rfl, h⟩ := h
      replace h := iv_pI h
      obtain ⟨x, r2, rfl, h⟩ := h
      replace h := iv_dv h
      obtain ⟨hn, h⟩ := h
      exact lv_idiv hx hb hd hn (ih _ _ _ _ _ h _ _ _ hL hP hS)
    | irem =>
      replace h := iv_pI h
      obtain ⟨y, r1, rfl, h⟩ := h
      replace h := iv_pI h
      obtain ⟨x, r2, rfl, h⟩ := h
      replace h := iv_dv h
      obtain ⟨hn, h⟩ := h
      exact lv_irem hx hb hd hn (ih _ _ _ _ _ h _ _ _ hL hP hS)
    | ineg =>
      replace h := iv_pI h
      obtain ⟨x, r1, rfl, h⟩ := h
      exact lv_ineg hx hb hd (ih _ _ _ _ _ h _ _ _ hL hP hS)
    | ladd =>
      replace h := iv_pL h
      obtain ⟨y, r1, rfl, h⟩ := h
      replace h := iv_pL h
      obtain ⟨x, r2, rfl, h⟩ := h
      exact lv_ladd hx hb hd (ih _ _ _ _ _ h _ _ _ hL hP hS)
    | lsub =>
      replace h := iv_pL h
      obtain ⟨y, r1, rfl, h⟩ := h
      replace h := iv_pL h
      obtain ⟨x, r2, rfl, h⟩ := h
      exact lv_lsub hx hb hd (ih _ _ _ _ _ h _ _ _ hL hP hS)
    | lmul =>
      replace h := iv_pL h
      obtain ⟨y, r1, rfl, h⟩ := h
      replace h := iv_pL h
      obtain ⟨x, r2, rfl, h⟩ := h
      exact lv_lmul hx hb hd (ih _ _ _ _ _ h _ _ _ hL hP hS)
    | ldiv =>
      replace h := iv_pL h
      obtain ⟨y, r1, rfl, h⟩ := h
      replace h := iv_pL h
      obtain ⟨x, r2, rfl, h⟩ := h
      replace h := iv_dvL h
      obtain ⟨hn, h⟩ := h
      exact lv_ldiv hx hb hd hn (ih _ _ _ _ _ h _ _ _ hL hP hS)
    | lrem =>
      replace h := iv_pL h
      obtain ⟨y, r1, rfl, h⟩ := h
      replace h := iv_pL h
      obtain ⟨x, r2, rfl, h⟩ := h
      replace h := iv_dvL h
      obtain ⟨hn, h⟩ := h
      exact lv_lrem hx hb hd hn (ih _ _ _ _ _ h _ _ _ hL hP hS)
    | lneg =>
      replace h := iv_pL h
      obtain ⟨x, r1, rfl, h⟩ := h
      exact lv_lneg hx hb hd (ih _ _ _ _ _ h _ _ _ hL hP hS)
    | lcmp =>
      replace h := iv_pL h
      obtain ⟨y, r1, rfl, h⟩ := h
      replace h := iv_pL h
      obtain ⟨x, r2, rfl, h⟩ := h
      exact W.lcmp hx hb hd (ih _ _ _ _ _ h _ _ _ hL hP hS)
    | i2l =>
      replace h := iv_pI h
      obtain ⟨x, r1, rfl, h⟩ := h
      exact lv_i2l hx hb hd rfl (ih _ _ _ _ _ h _ _ _ hL hP hS)
    | l2i =>
      replace h := iv_pL h
      obtain ⟨x, r1, rfl, h⟩ := h
      exact lv_l2i hx hb hd rfl (ih _ _ _ _ _ h _ _ _ hL hP hS)
    | i2b =>
      replace h := iv_pI h
      obtain ⟨x, r1, rfl, h⟩ := h
      exact lv_i2b hx hb hd rfl (ih _ _ _ _ _ h _ _ _ hL hP hS)
    | i2s =>
      replace h := iv_pI h
      obtain ⟨x, r1, rfl, h⟩ := h
      exact lv_i2s hx hb hd rfl (ih _ _ _ _ _ h _ _ _ hL hP hS)
    | dup =>
      replace h := iv_pop h
      obtain ⟨v, r1, rfl, h⟩ := h
      replace h := iv_dup h
      obtain ⟨hc, h⟩ := h
      exact lv_dup hx hb hd ((sd_cv_cat ad v).trans hc) (ih _ _ _ _ _ h _ _ _ hL hP hS)
    | dup2 =>
      replace h := iv_pI h
      obtain ⟨y, r1, rfl, h⟩ := h
      replace h := iv_pR h
      obtain ⟨x, r2, rfl, h⟩ := h
      exact lv_dup2_11 (va := .int y) (vb := .ref (ad x)) hx hb hd rfl rfl (ih _ _ _ _ _ h _ _ _ hL hP hS)
    | pop =>
      replace h := iv_pI h
      obtain ⟨y, r1, rfl, h⟩ := h
      exact lv_pop (va := .int y) hx hb hd rfl (ih _ _ _ _ _ h _ _ _ hL hP hS)
    | goto z =>
      exact lv_goto hx hb hd (of_decide_eq_true hk) (ih _ _ _ _ _ h _ _ _ hL hP hS)
    | ifCond cz z =>
      cases cz
      case eq =>
        replace h := iv_pI h
        obtain ⟨x, r1, rfl, h⟩ := h
        exact lv_if_eq hx hb hd (of_decide_eq_true hk) (fun c1 => ih _ _ _ _ _ ((xm_br_t c1).symm.trans h) _ _ _ hL hP hS) (fun c1 => ih _ _ _ _ _ ((xm_br_f c1).symm.trans h) _ _ _ hL hP hS)
      case ne =>
        replace h := iv_pI h
        obtain ⟨x, r1, rfl, h⟩ := h
        exact lv_if_ne hx hb hd (of_decide_eq_true hk) (fun c1 => ih _ _ _ _ _ ((xm_br_f c1).symm.trans h) _ _ _ hL hP hS) (fun c1 => ih _ _ _ _ _ ((xm_br_t c1).symm.trans h) _ _ _ hL hP hS)
      case lt =>
        replace h := iv_pI h
        obtain ⟨x, r1, rfl, h⟩ := h
        exact lv_if_lt hx hb hd (of_decide_eq_true hk) (fun c1 => ih _ _ _ _ _ ((xm_br_t c1).symm.trans h) _ _ _ hL hP hS) (fun c1 => ih _ _ _ _ _ ((xm_br_f c1).symm.trans h) _ _ _ hL hP hS)
      case ge =>
        replace h := iv_pI h
        obtain ⟨x, r1, rfl, h⟩ := h
        exact lv_if_ge hx hb hd (of_decide_eq_true hk) (fun c1 => ih _ _ _ _ _ ((xm_br_t c1).symm.trans h) _ _ _ hL hP hS) (fun c1 => ih _ _ _ _ _ ((xm_br_f c1).symm.trans h) _ _ _ hL hP hS)
      case gt =>
        replace h := iv_pI h
        obtain ⟨x, r1, rfl, h⟩ := h
        exact lv_if_gt hx hb hd (of_decide_eq_true hk) (fun c1 => ih _ _ _ _ _ ((xm_br_t c1).symm.trans h) _ _ _ hL hP hS) (fun c1 => ih _ _ _ _ _ ((xm_br_f c1).symm.trans h) _ _ _ hL hP hS)
      case le =>
        replace h := iv_pI h
        obtain ⟨x, r1, rfl, h⟩ := h
        exact lv_if_le hx hb hd (of_decide_eq_true hk) (fun c1 => ih _ _ _ _ _ ((xm_br_t c1).symm.trans h) _ _ _ hL hP hS) (fun c1 => ih _ _ _ _ _ ((xm_br_f c1).symm.trans h) _ _ _ hL hP hS)
    | if_icmp cz z =>
      cases cz
      case eq =>
        replace h := iv_pI h
        obtain ⟨y, r1, rfl, h⟩ := h
        replace h := iv_pI h
        obtain ⟨x, r2, rfl, h⟩ := h
        exact lv_icmp_eq hx hb hd (of_decide_eq_true hk) (fun c1 => ih _ _ _ _ _ ((xm_br_t c1).symm.trans h) _ _ _ hL hP hS) (fun c1 => ih _ _ _ _ _ ((xm_br_f c1).symm.trans h) _ _ _ hL hP hS)
      case ne =>
        replace h := iv_pI h
        obtain ⟨y, r1, rfl, h⟩ := h
        replace h := iv_pI h
        obtain ⟨x, r2, rfl, h⟩ := h
        exact lv_icmp_ne hx hb hd (of_decide_eq_true hk) (fun c1 => ih _ _ _ _ _ ((xm_br_f c1).symm.trans h) _ _ _ hL hP hS) (fun c1 => ih _ _ _ _ _ ((xm_br_t c1).symm.trans h) _ _ _ hL hP hS)
      case lt =>
        replace h := iv_pI h
        obtain ⟨y, r1, rfl, h⟩ := h
        replace h := iv_pI h
        obtain ⟨x, r2, rfl, h⟩ := h
        exact lv_icmp_lt hx hb hd (of_decide_eq_true hk) (fun c1 => ih _ _ _ _ _ ((xm_br_t c1).symm.trans h) _ _ _ hL hP hS) (fun c1 => ih _ _ _ _ _ ((xm_br_f c1).symm.trans h) _ _ _ hL hP hS)
      case ge =>
        replace h := iv_pI h
        obtain ⟨y, r1, rfl, h⟩ := h
        replace h := iv_pI h
        obtain ⟨x, r2, rfl, h⟩ := h
        exact lv_icmp_ge hx hb hd (of_decide_eq_true hk) (fun c1 => ih _ _ _ _ _ ((xm_br_t c1).symm.trans h) _ _ _ hL hP hS) (fun c1 => ih _ _ _ _ _ ((xm_br_f c1).symm.trans h) _ _ _ hL hP hS)
      case gt =>
        replace h := iv_pI h
        obtain ⟨y, r1, rfl, h⟩ := h
        replace h := iv_pI h
        obtain ⟨x, r2, rfl, h⟩ := h
        exact lv_icmp_gt hx hb hd (of_decide_eq_true hk) (fun c1 => ih _ _ _ _ _ ((xm_br_t c1).symm.trans h) _ _ _ hL hP hS) (fun c1 => ih _ _ _ _ _ ((xm_br_f c1).symm.trans h) _ _ _ hL hP hS)
      case le =>
        replace h := iv_pI h
        obtain ⟨y, r1, rfl, h⟩ := h
        replace h := iv_pI h
        obtain ⟨x, r2, rfl, h⟩ := h
        exact lv_icmp_le hx hb hd (of_decide_eq_true hk) (fun c1 => ih _ _ _ _ _ ((xm_br_t c1).symm.trans h) _ _ _ hL hP hS) (fun c1 => ih _ _ _ _ _ ((xm_br_f c1).symm.trans h) _ _ _ hL hP hS)
    | tableswitch dd lo hi' offs =>
      replace h := iv_pI h
      obtain ⟨x, r1, rfl, h⟩ := h
      replace h := iv_so h
      obtain ⟨⟨dt, ts⟩, e1, h⟩ := h
      simp only [sd_ck, e1, sd_sw, Bool.and_eq_true, decide_eq_true_eq] at hk
      obtain ⟨⟨⟨k1, k2⟩, k3⟩, k4⟩ := hk
      have k5 : ∀ j, j < offs.size → ∃ (y : Int32) (g : Nat) (f : Int), xm_at ts j = some (y, g) ∧ offs[j]? = some f ∧ y.toInt = lo + (j : Int) ∧ (pc : Int) + f = (g : Int) := by
        intro j hj
        have h9 := List.all_eq_true.mp k4 j (List.mem_range.mpr hj)
        cases h1 : xm_at ts j with
        | none => rw [h1] at h9; cases h9
        | some yg =>
          obtain ⟨y, g⟩ := yg
          cases h2 : offs[j]? with
          | none => rw [h1, h2] at h9; cases h9
          | some f =>
            rw [h1, h2] at h9
            simp only [Bool.and_eq_true, decide_eq_true_eq] at h9
            exact ⟨y, g, f, rfl, rfl, h9.1, h9.2⟩
      rcases iv_swl h with ⟨j, g, e2, h⟩ | ⟨e2, h⟩
      · have hj : j < offs.size := by rw [← k2]; exact xm_at_lt e2
        obtain ⟨y, g', f, e3, e4, e5, e6⟩ := k5 j hj
        cases e2.symm.trans e3
        exact lv_tableIn hx hb hd (by omega) (by omega) (by rw [show (x.toInt - lo).toNat = j by omega]; exact e4) e6 (ih _ _ _ _ _ h _ _ _ hL hP hS)
      · refine lv_tableOut hx hb hd ?_ k1 (ih _ _ _ _ _ h _ _ _ hL hP hS)
        by_cases c1 : x.toInt < lo
        · exact Or.inl c1
        · by_cases c2 : hi' < x.toInt
          · exact Or.inr c2
          · obtain ⟨y, g', f, e3, e4, e5, e6⟩ := k5 (x.toInt - lo).toNat (by omega)
            exact absurd (Int32.toInt_inj.mp (show x.toInt = y.toInt by omega)) (e2 _ _ _ e3)
    | getfield z =>
      replace h := iv_pR h
      obtain ⟨b, r1, rfl, h⟩ := h
      replace h := iv_fl h
      obtain ⟨fs, f, e1, e2, h⟩ := h
      have hln := sd_lF_ok hk
      obtain ⟨f1, f2, ⟨ty0, f3⟩, f4, f5, f6⟩ := sd_shp e1
      have hkk : t % 64 < (sd_cl (t / 64)).2.2 := by rw [← f5]; exact xm_at_lt e2
      have hfe : (sd_fs ad σ b 0 fs)[t % 64]? = some (sd_cv ad (xm_fv σ b (t % 64) f)) := by rw [sd_fs_at, e2, Nat.zero_add]; rfl
      exact va_get (C := (sd_cl (t / 64)).1) (T := (sd_cl (t / 64)).2.1) (N := (sd_cl (t / 64)).2.2) hx hb hts f2 hown hK hP b (sd_w_at e1) f1 (t % 64) hkk (hts _ hln) (fun _ h9 => h9) hfe hd (ih _ _ _ _ _ h _ _ _ hL hP hS)
    | putfield z =>
      replace h := iv_pop h
      obtain ⟨v, r1, rfl, h⟩ := h
      replace h := iv_pR h
      obtain ⟨b, r2, rfl, h⟩ := h
      replace h := iv_fl h
      obtain ⟨fs, f, e1, e2, h⟩ := h
      have hln := sd_lF_ok hk
      obtain ⟨f1, f2, ⟨ty0, f3⟩, f4, f5, f6⟩ := sd_shp e1
      have hkk : t % 64 < (sd_cl (t / 64)).2.2 := by rw [← f5]; exact xm_at_lt e2
      have hll : t % 64 < (sd_fs ad σ b 0 fs).length := by rw [sd_fs_len]; exact xm_at_lt e2
      obtain ⟨g1, g2⟩ := f6 _ _ e2
      cases v with
      | int x =>
        replace h := iv_tr h
        obtain ⟨e3, h⟩ := h
        have e3 := Nat.eq_of_beq_eq_true e3
        subst e3
        obtain ⟨g1, g3⟩ := g1 rfl
        refine va_put (ty := .int) (v := .int x) (C := (sd_cl (t / 64)).1) (T := (sd_cl (t / 64)).2.1) (N := (sd_cl (t / 64)).2.2) hx hb hts f2 ty0 f3 f4 hown hK hP hD hS b (sd_w_at e1) f1 (t % 64) hkk (hts _ hln) (fun _ h9 => h9) g3 (by rw [g1]; rfl) rfl rfl hll hd (fun H1 locs1 hP1 _ hS1 => ?_)
        rw [sd_wFI e1 e2] at hP1
        exact ih _ _ _ _ _ h _ _ _ hL hP1 hS1
      | long x =>
        replace h := iv_tr h
        obtain ⟨e3, h⟩ := h
        have e3 := Nat.eq_of_beq_eq_true e3
        subst e3
        obtain ⟨g2, g3⟩ := g2 rfl
        refine va_put (ty := .long) (v := .long x) (C := (sd_cl (t / 64)).1) (T := (sd_cl (t / 64)).2.1) (N := (sd_cl (t / 64)).2.2) hx hb hts f2 ty0 f3 f4 hown hK hP hD hS b (sd_w_at e1) f1 (t % 64) hkk (hts _ hln) (fun _ h9 => h9) g3 (by rw [g2]; rfl) rfl rfl hll hd (fun H1 locs1 hP1 _ hS1 => ?_)
        rw [sd_wFL e1 e2] at hP1
        exact ih _ _ _ _ _ h _ _ _ hL hP1 hS1
      | _ => cases h
    | arraylength =>
      replace h := iv_pR h
      obtain ⟨b, r1, rfl, h⟩ := h
      replace h := iv_al h
      obtain ⟨y, n9, z9, e1, h⟩ := h
      match y, e1 with
      | 0, e1 => exact va_alen hx hb hK hP b 0 (ty := .int) (sd_w_at e1) rfl rfl hd (ih _ _ _ _ _ h _ _ _ hL hP hS)
      | 1, e1 => exact va_alen hx hb hK hP b 1 (ty := .long) (sd_w_at e1) rfl rfl hd (ih _ _ _ _ _ h _ _ _ hL hP hS)
      | 2, e1 => exact va_alen hx hb hK hP b 2 (ty := .boolean) (sd_w_at e1) rfl rfl hd (ih _ _ _ _ _ h _ _ _ hL hP hS)
      | _ + 3, e1 => exact va_alen hx hb hK hP b 3 (ty := .array .int) (sd_w_at e1) rfl rfl hd (ih _ _ _ _ _ h _ _ _ hL hP hS)
    | iaload =>
      replace h := iv_pI h
      obtain ⟨k, r1, rfl, h⟩ := h
      replace h := iv_pR h
      obtain ⟨b, r2, rfl, h⟩ := h
      replace h := iv_ar h
      obtain ⟨n9, z9, e1, h⟩ := h
      replace h := iv_ix h
      obtain ⟨hin, h⟩ := h
      exact va_iald hx hb hK hP b 0 (sd_w_at e1) rfl hin hd (ih _ _ _ _ _ h _ _ _ hL hP hS)
    | baload =>
      replace h := iv_pI h
      obtain ⟨k, r1, rfl, h⟩ := h
      replace h := iv_pR h
      obtain ⟨b, r2, rfl, h⟩ := h
      replace h := iv_ar h
      obtain ⟨n9, z9, e1, h⟩ := h
      replace h := iv_ix h
      obtain ⟨hin, h⟩ := h
      exact va_zald hx hb hK hP b 2 (sd_w_at e1) rfl hin hd (ih _ _ _ _ _ h _ _ _ hL hP hS)
    | laload =>
      replace h := iv_pI h
      obtain ⟨k, r1, rfl, h⟩ := h
      replace h := iv_pR h
      obtain ⟨b, r2, rfl, h⟩ := h
      replace h := iv_ar h
      obtain ⟨n9, z9, e1, h⟩ := h
      replace h := iv_ix h
      obtain ⟨hin, h⟩ := h
      exact va_lald hx hb hK hP b 1 (sd_w_at e1) rfl hin hd (ih _ _ _ _ _ h _ _ _ hL hP hS)
    | aaload =>
      replace h := iv_pI h
      obtain ⟨k, r1, rfl, h⟩ := h
      replace h := iv_pR h
      obtain ⟨b, r2, rfl, h⟩ := h
      replace h := iv_ar h
      obtain ⟨n9, z9, e1, h⟩ := h
      replace h := iv_tr h
      obtain ⟨e2, h⟩ := h
      have e2 := Nat.eq_of_beq_eq_true e2
      subst e2
      replace h := iv_row h
      obtain ⟨j, hj, rfl, h⟩ := h
      exact sd_aald hx hb hK hP e1 hj hd (ih _ _ _ _ _ h _ _ _ hL hP hS)
    | iastore =>
      replace h := iv_pI h
      obtain ⟨x, r0, rfl, h⟩ := h
      replace h := iv_pI h
      obtain ⟨k, r1, rfl, h⟩ := h
      replace h := iv_pR h
      obtain ⟨b, r2, rfl, h⟩ := h
      replace h := iv_ar h
      obtain ⟨n9, z9, e1, h⟩ := h
      replace h := iv_ix h
      obtain ⟨hin, h⟩ := h
      refine va_iast hx hb hK hP hD hS b 0 (sd_w_at e1) rfl hin hd (fun H1 locs1 hP1 _ hS1 => ?_)
      rw [sd_wI e1] at hP1
      exact ih _ _ _ _ _ h _ _ _ hL hP1 hS1
    | bastore =>
      replace h := iv_pI h
      obtain ⟨x, r0, rfl, h⟩ := h
      replace h := iv_pI h
      obtain ⟨k, r1, rfl, h⟩ := h
      replace h := iv_pR h
      obtain ⟨b, r2, rfl, h⟩ := h
      replace h := iv_ar h
      obtain ⟨n9, z9, e1, h⟩ := h
      replace h := iv_bo h
      obtain ⟨hbo, h⟩ := h
      replace h := iv_ix h
      obtain ⟨hin, h⟩ := h
      have hnar : vp_nar .boolean x = x := by rcases hbo with rfl | rfl <;> decide +kernel
      refine va_zast hx hb hK hP hD hS b 2 (sd_w_at e1) rfl hin hd (fun H1 locs1 hP1 _ hS1 => ?_)
      rw [hnar, sd_wZ e1] at hP1
      exact ih _ _ _ _ _ h _ _ _ hL hP1 hS1
    | lastore =>
      replace h := iv_pL h
      obtain ⟨x, r0, rfl, h⟩ := h
      replace h := iv_pI h
      obtain ⟨k, r1, rfl, h⟩ := h
      replace h := iv_pR h
      obtain ⟨b, r2, rfl, h⟩ := h
      replace h := iv_ar h
      obtain ⟨n9, z9, e1, h⟩ := h
      replace h := iv_ix h
      obtain ⟨hin, h⟩ := h
      refine va_last hx hb hK hP hD hS b 1 (sd_w_at e1) rfl hin hd (fun H1 locs1 hP1 _ hS1 => ?_)
      rw [sd_wL e1] at hP1
      exact ih _ _ _ _ _ h _ _ _ hL hP1 hS1
    | invokevirtual z =>
      replace h := iv_so h
      obtain ⟨⟨as, r0⟩, e1, h⟩ := h
      replace h := iv_pR h
      obtain ⟨b, r1, e2, h⟩ := h
      dsimp only at e2 h
      subst e2
      replace h := iv_tr h
      obtain ⟨e3, h⟩ := h
      replace h := iv_tr h
      obtain ⟨e4, h⟩ := h
      obtain ⟨fs, e3⟩ := iv_ob e3
      have e4 := Nat.le_of_ble_eq_true e4
      obtain ⟨bb, t1, t2, t3⟩ := iv_tk e1
      rw [List.append_nil] at t3
      have t4 : bb = as.reverse := by rw [t3, List.reverse_reverse]
      subst t4
      obtain ⟨q', u1, u2, u3, u4, u5⟩ := sd_lV_ok hk
      have hq' := sd_all q' (List.mem_of_getElem? u1)
      rcases hq'.2.2.2.2.2.2.1 with ⟨u6, -⟩ | ⟨u6, u7, cc', u8, u9⟩
      · exfalso; rw [u6] at u3; omega
      have hstk : st.map (sd_cv ad) = (as.map (sd_cv ad)).reverse ++ .ref (ad b) :: r1.map (sd_cv ad) := by rw [t2, List.map_append, List.map_reverse]; rfl
      have fin : ∀ r' : RV, xm_call d (t / 512) (.ref b :: as) σ = some r' → (∀ (H1 : Heap) (locs1 : List Loc), va_P D xm_cl (sd_w ad cA r'.2) H1 → va_S (sd_A ad) s.heap H1 locs1 → W p l e (sd_rm (d + 1)) s m args below meth c H1 locs1 0 0 (MQ below (sd_Q ad cA D r) args s 0 0 (sd_A ad)) (F0 m (pc + 3) ls ((r'.1.map (sd_cv ad)).toList ++ r1.map (sd_cv ad)))) → W p l e (sd_rm (d + 1)) s m args below meth c H locs 0 0 (MQ below (sd_Q ad cA D r) args s 0 0 (sd_A ad)) (F0 m pc ls (st.map (sd_cv ad))) := by
        intro r' hc kk
        have hM := IH (t / 512) (.ref b :: as) σ r' q' hc u1
        have hcb : CallB (sd_rm (d + 1)) s args (sd_on (mi_o q)) z (mi_y q') (mi_b q') (mi_L q') (mi_r q') (sd_ws q') (sd_rm d) 0 0 (mi_n q') := callB_of (mi_n q') hts (sd_goodIn hq') rfl rfl rfl (hts _ hq'.2.2.2.2.1) (hts _ u2) hq'.2.2.2.1 ⟨Nat.le_refl _, by have := hq'.2.2.2.2.2.2.2.1; show 8 + (mi_L q' + 11) + 64 * d ≤ 64 * (d + 1); omega⟩
        refine sd_after (va_runV (C := (mi_y q').cls) (As := as.map (sd_cv ad)) (rest := r1.map (sd_cv ad)) (b := ad b) ⟨hx, hb, hml, hown, hts⟩ hM ⟨hcb, hts _ u6, hts _ u7⟩ ⟨sd_blind, ?_, fun U hU hW => ⟨rfl, by rw [hU]; exact hP, va_K.moved hW.alike hK⟩⟩ rfl ?_ hL.1 hstk (lv_room (by rw [sd_cat]; exact e4)) hd ⟨Nat.le_refl _, Nat.le_refl _⟩) hS kk
        · rw [← u3] at e3
          have h9 := va_recv (ci := mi_c q') hK hP u8 (sd_w_at e3)
          rw [u9] at h9
          exact h9
        · rw [List.length_map, ← u4, ← t1, List.length_reverse]
      unfold xm_cll at h
      match hrk : t % 4, h with
      | 0, h =>
        replace h := iv_cV h
        obtain ⟨s', e5, h⟩ := h
        exact fin _ e5 (fun H1 locs1 hP1 hS1 => ih _ _ _ _ _ h _ _ _ hL hP1 hS1)
      | 1, h =>
        replace h := iv_cI h
        obtain ⟨x, s', e5, h⟩ := h
        exact fin _ e5 (fun H1 locs1 hP1 hS1 => ih _ _ _ _ _ h _ _ _ hL hP1 hS1)
      | 2, h =>
        replace h := iv_cL h
        obtain ⟨x, s', e5, h⟩ := h
        exact fin _ e5 (fun H1 locs1 hP1 hS1 => ih _ _ _ _ _ h _ _ _ hL hP1 hS1)
      | _ + 3, h => cases h
    | invokestatic z =>
      rcases t with _ | _ | _ | _ | _ | t
      · skip
        replace h := iv_pI h
        obtain ⟨n9, r1, rfl, h⟩ := h
        replace h := iv_pI h
        obtain ⟨dp, r2, rfl, h⟩ := h
        replace h := iv_pR h
        obtain ⟨b, r3, rfl, h⟩ := h
        replace h := iv_pI h
        obtain ⟨sp, r4, rfl, h⟩ := h
        replace h := iv_pR h
        obtain ⟨a9, r5, rfl, h⟩ := h
        replace h := iv_tr h
        obtain ⟨e4, h⟩ := h
        have e4 := Nat.le_of_ble_eq_true e4
        replace h := iv_ty h
        obtain ⟨y, na, za, e1, h⟩ := h
        replace h := iv_ty h
        obtain ⟨y', nb, zb, e2, h⟩ := h
        replace h := iv_tr h
        obtain ⟨e3, h⟩ := h
        have e3 := Nat.eq_of_beq_eq_true e3
        subst e3
        replace h := iv_cp h
        obtain ⟨⟨c1, c2, c3, c4, c5⟩, h⟩ := h
        obtain ⟨w1, w2, w3, w4⟩ := sd_lC_ok hk
        have hro : ((r5.map (sd_cv ad)).map fun v => v.category).sum + (nativeFrameWords "java/lang/System" "arraycopy" 5 + 11) ≤ (sd_rm (d + 1)).locals := by
          rw [sd_cat]
          have h9 : nativeFrameWords "java/lang/System" "arraycopy" 5 + 11 ≤ 50 := by decide +kernel
          show _ ≤ 64 * (d + 1)
          omega
        match y, e1, e2, h with
        | 0, e1, e2, h =>
          refine va_copyi hx hb (hml.trans hL.1.symm) hown (hts _ w1) (hts _ w2) (hts _ w3) (hts _ w4) hK hP hD hS a9 b 0 0 (ty := .int) (sd_w_at e1) (sd_w_at e2) rfl rfl rfl c1 c2 c3 c4 c5 (fun _ _ => rfl) (Nat.succ_le_succ (Nat.zero_le _)) hro hd (fun H1 locs1 hP1 _ hS1 => ?_)
          rw [sd_wyI e2] at hP1
          exact ih _ _ _ _ _ h _ _ _ hL hP1 hS1
        | 1, e1, e2, h =>
          refine va_copyl hx hb (hml.trans hL.1.symm) hown (hts _ w1) (hts _ w2) (hts _ w3) (hts _ w4) hK hP hD hS a9 b 1 1 (ty := .long) (sd_w_at e1) (sd_w_at e2) rfl rfl rfl c1 c2 c3 c4 c5 (fun _ _ => rfl) (Nat.succ_le_succ (Nat.zero_le _)) hro hd (fun H1 locs1 hP1 _ hS1 => ?_)
          rw [sd_wyL e2] at hP1
          exact ih _ _ _ _ _ h _ _ _ hL hP1 hS1
        | _ + 2, e1, e2, h => cases h
      · skip
        replace h := iv_pI h
        obtain ⟨y, r1, rfl, h⟩ := h
        replace h := iv_pI h
        obtain ⟨x, r2, rfl, h⟩ := h
        replace h := iv_tr h
        obtain ⟨e4, h⟩ := h
        have e4 := Nat.le_of_ble_eq_true e4
        obtain ⟨w1, w2, w3, w4⟩ := sd_lM_ok.1 hk
        exact va_mmax hx hb (hml.trans hL.1.symm) hown (hts _ w1) (hts _ w2) (hts _ w3) (hts _ w4) (Nat.succ_le_succ (Nat.zero_le _)) (by rw [sd_cat]; show _ ≤ 64 * (d + 1); omega) (Nat.le_refl _) (Nat.le_refl _) hd (ih _ _ _ _ _ h _ _ _ hL hP hS)
      · skip
        replace h := iv_pI h
        obtain ⟨y, r1, rfl, h⟩ := h
        replace h := iv_pI h
        obtain ⟨x, r2, rfl, h⟩ := h
        replace h := iv_tr h
        obtain ⟨e4, h⟩ := h
        have e4 := Nat.le_of_ble_eq_true e4
        obtain ⟨w1, w2, w3, w4⟩ := sd_lM_ok.2.1 hk
        exact va_mmin hx hb (hml.trans hL.1.symm) hown (hts _ w1) (hts _ w2) (hts _ w3) (hts _ w4) (Nat.succ_le_succ (Nat.zero_le _)) (by rw [sd_cat]; show _ ≤ 64 * (d + 1); omega) (Nat.le_refl _) (Nat.le_refl _) hd (ih _ _ _ _ _ h _ _ _ hL hP hS)
      · skip
        replace h := iv_pL h
        obtain ⟨x, r2, rfl, h⟩ := h
        replace h := iv_tr h
        obtain ⟨e4, h⟩ := h
        have e4 := Nat.le_of_ble_eq_true e4
        obtain ⟨w1, w2, w3, w4⟩ := sd_lM_ok.2.2.1 hk
        exact va_mabs_long hx hb (hml.trans hL.1.symm) hown (hts _ w1) (hts _ w2) (hts _ w3) (hts _ w4) (Nat.succ_le_succ (Nat.zero_le _)) (by rw [sd_cat]; show _ ≤ 64 * (d + 1); omega) (Nat.le_refl _) (Nat.le_refl _) hd (ih _ _ _ _ _ h _ _ _ hL hP hS)
      · skip
        replace h := iv_pL h
        obtain ⟨y, r1, rfl, h⟩ := h
        replace h := iv_pL h
        obtain ⟨x, r2, rfl, h⟩ := h
        replace h := iv_tr h
        obtain ⟨e4, h⟩ := h
        have e4 := Nat.le_of_ble_eq_true e4
        obtain ⟨w1, w2, w3, w4⟩ := sd_lM_ok.2.2.2 hk
        exact va_mmin_long hx hb (hml.trans hL.1.symm) hown (hts _ w1) (hts _ w2) (hts _ w3) (hts _ w4) (Nat.succ_le_succ (Nat.zero_le _)) (by rw [sd_cat]; show _ ≤ 64 * (d + 1); omega) (Nat.le_refl _) (Nat.le_refl _) hd (ih _ _ _ _ _ h _ _ _ hL hP hS)
      · skip
        replace h := iv_so h
        obtain ⟨⟨as, r1⟩, e1, h⟩ := h
        replace h := iv_tr h
        obtain ⟨e4, h⟩ := h
        have e4 := Nat.le_of_ble_eq_true e4
        obtain ⟨bb, t1, t2, t3⟩ := iv_tk e1
        rw [List.append_nil] at t3
        have t4 : bb = as.reverse := by rw [t3, List.reverse_reverse]
        subst t4
        obtain ⟨q', u1, u2, u3, u4, u5⟩ := sd_lS_ok hk
        have hq' := sd_all q' (List.mem_of_getElem? u1)
        rcases hq'.2.2.2.2.2.2.1 with ⟨-, u6⟩ | ⟨u6, u7, cc', u8, u9⟩
        case inr => exfalso; rw [u3] at u8; cases u8
        have hstk : st.map (sd_cv ad) = (as.map (sd_cv ad)).reverse ++ r1.map (sd_cv ad) := by rw [t2, List.map_append, List.map_reverse]
        have fin : ∀ r' : RV, xm_call d (t / 512) as σ = some r' → (∀ (H1 : Heap) (locs1 : List Loc), va_P D xm_cl (sd_w ad cA r'.2) H1 → va_S (sd_A ad) s.heap H1 locs1 → W p l e (sd_rm (d + 1)) s m args below meth c H1 locs1 0 0 (MQ below (sd_Q ad cA D r) args s 0 0 (sd_A ad)) (F0 m (pc + 3) ls ((r'.1.map (sd_cv ad)).toList ++ r1.map (sd_cv ad)))) → W p l e (sd_rm (d + 1)) s m args below meth c H locs 0 0 (MQ below (sd_Q ad cA D r) args s 0 0 (sd_A ad)) (F0 m pc ls (st.map (sd_cv ad))) := by
          intro r' hc kk
          have hM := IH (t / 512) as σ r' q' hc u1
          have hcb : CallB (sd_rm (d + 1)) s args (sd_on (mi_o q)) z (mi_y q') (mi_b q') (mi_L q') (mi_r q') (sd_ws q') (sd_rm d) 0 0 (mi_n q') := callB_of (mi_n q') hts (sd_goodIn hq') rfl rfl rfl (hts _ hq'.2.2.2.2.1) (hts _ u2) hq'.2.2.2.1 ⟨Nat.le_refl _, by have := hq'.2.2.2.2.2.2.2.1; show 8 + (mi_L q' + 11) + 64 * d ≤ 64 * (d + 1); omega⟩
          refine sd_after (va_runS (As := as.map (sd_cv ad)) (rest := r1.map (sd_cv ad)) ⟨hx, hb, hml, hown, hts⟩ hM ⟨hcb, hts _ u6⟩ ⟨sd_blind, fun U hU hW => ⟨rfl, by rw [hU]; exact hP, va_K.moved hW.alike hK⟩⟩ rfl ?_ hL.1 hstk (lv_room (by rw [sd_cat]; exact e4)) hd ⟨Nat.le_refl _, Nat.le_refl _⟩) hS kk
          rw [List.length_map, ← u4, ← t1, List.length_reverse]
        unfold xm_cll at h
        match hrk : t % 4, h with
        | 0, h =>
          replace h := iv_cV h
          obtain ⟨s', e5, h⟩ := h
          exact fin _ e5 (fun H1 locs1 hP1 hS1 => ih _ _ _ _ _ h _ _ _ hL hP1 hS1)
        | 1, h =>
          replace h := iv_cI h
          obtain ⟨x, s', e5, h⟩ := h
          exact fin _ e5 (fun H1 locs1 hP1 hS1 => ih _ _ _ _ _ h _ _ _ hL hP1 hS1)
        | 2, h =>
          replace h := iv_cL h
          obtain ⟨x, s', e5, h⟩ := h
          exact fin _ e5 (fun H1 locs1 hP1 hS1 => ih _ _ _ _ _ h _ _ _ hL hP1 hS1)
        | _ + 3, h => cases h
    | ireturn =>
      obtain ⟨x, rfl, rfl, hrt⟩ := iv_retI hk h
      rcases hrt with hrt | ⟨hrt, hbo⟩
      · exact W.iret hx hb (hr.trans (sd_rtI hrt hq.2.2.2.2.2.1)) (fun t ht hW => ⟨rfl, by rw [ht]; exact hP, hS.F ht⟩) hS.2.2 hd
      · exact W.zret (ty := .boolean) hx hb (hr.trans (sd_rtZ hrt hq.2.2.2.2.2.1)) (by rcases hbo with rfl | rfl <;> decide +kernel) (fun t ht hW => ⟨rfl, by rw [ht]; exact hP, hS.F ht⟩) hS.2.2 hd
    | lreturn =>
      obtain ⟨x, rfl, rfl, hrt⟩ := iv_retL hk h
      exact W.lret hx hb (hr.trans (sd_rtL hrt hq.2.2.2.2.2.1)) (fun t ht hW => ⟨rfl, by rw [ht]; exact hP, hS.F ht⟩) hS.2.2 hd
    | return_ =>
      obtain ⟨rfl, rfl, hrt⟩ := iv_retV hk h
      exact W.vret hx hb (hr.trans (sd_rtV hrt hq.2.2.2.2.2.1)) (fun t ht hW => ⟨rfl, by rw [ht]; exact hP, hS.F ht⟩) hS.2.2 hd
    | _ => cases h
