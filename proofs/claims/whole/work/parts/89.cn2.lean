/-! new int[4][60] -/
theorem cn_snoc {D : va_G} {cl : List vw_C} {ws : va_W} {x : Nat × va_E} {H : Heap} (h : va_P D cl ws H) (h1 : va_at D cl x H) : va_P D cl (ws ++ [x]) H := h.app (fun k y hy => by
  have h0 : k < 1 := (List.getElem?_eq_some_iff.mp hy).1
  rw [show k = 0 by omega] at hy
  cases hy
  exact h1)
theorem cn_at {ws : va_W} {x y : Nat × va_E} {k : Nat} (h : (ws ++ [x])[k]? = some y) : (k < ws.length ∧ ws[k]? = some y) ∨ (k = ws.length ∧ y = x) := by
  by_cases h1 : k < ws.length
  · rw [List.getElem?_append_left h1] at h
    exact Or.inl ⟨h1, h⟩
  · rw [List.getElem?_append_right (by omega)] at h
    have h0 : k - ws.length < 1 := (List.getElem?_eq_some_iff.mp h).1
    rw [show k - ws.length = 0 by omega] at h
    cases h
    exact Or.inr ⟨by omega, rfl⟩
theorem cn_pushD {A : Nat → Prop} {ws : va_W} {q : Nat} {e : va_E} (hD : va_D A ws) (hlt : ∀ (k : Nat) (x : Nat × va_E), ws[k]? = some x → x.1 < q) (hq : A q) : va_D A (ws ++ [(q, e)]) := by
  refine ⟨fun i j x y hi hj hxy => ?_, fun k x hx => ?_⟩
  · rcases cn_at hi with ⟨a1, a2⟩ | ⟨a1, a2⟩ <;> rcases cn_at hj with ⟨b1, b2⟩ | ⟨b1, b2⟩
    · exact hD.1 i j x y a2 b2 hxy
    · have := hlt _ _ a2
      subst b2
      dsimp only at hxy
      omega
    · have := hlt _ _ b2
      subst a2
      dsimp only at hxy
      omega
    · omega
  · rcases cn_at hx with ⟨a1, a2⟩ | ⟨a1, a2⟩
    · exact hD.2 _ _ a2
    · subst a2
      exact hq
theorem cn_ltS {ws : va_W} {q q' : Nat} {e : va_E} (hlt : ∀ (k : Nat) (x : Nat × va_E), ws[k]? = some x → x.1 < q) (h : q < q') : ∀ (k : Nat) (x : Nat × va_E), (ws ++ [(q, e)])[k]? = some x → x.1 < q' := by
  intro k x hx
  rcases cn_at hx with ⟨a1, a2⟩ | ⟨a1, a2⟩
  · exact Nat.lt_trans (hlt _ _ a2) h
  · subst a2
    exact h
def cn_r (a b c d : Nat) : Nat → Nat
  | 0 => a
  | 1 => b
  | 2 => c
  | _ => d
theorem cn_outer (c3 : ClassId) (h : Nat) : Jvm.Free.Multi.outerC c3 4 h 4 = vp_cell c3 (4, .inr (.inr (.inr (.inr (fun i => if i < 4 then some (cn_r (h + 1) (h + 2) (h + 3) (h + 4) i) else none))))) := by
  show ((((({ cls := c3, slots := Array.replicate 4 .null, vm := .none } : Cell).setSlot 0 (.ref (h + 1 + 0))).setSlot 1 (.ref (h + 1 + 1))).setSlot 2 (.ref (h + 1 + 2))).setSlot 3 (.ref (h + 1 + 3))) = _
  rw [vp_cell_q, arrV_new, arrV_store, arrV_store, arrV_store, arrV_store]
  refine congrArg (arrV c3 4) (funext fun j => ?_)
  match j with
  | 0 => rfl
  | 1 => rfl
  | 2 => rfl
  | 3 => rfl
  | k + 4 => simp [updV, va_rf, show ¬ (k + 4 < 4) by omega]
theorem cn_inner (c0 : ClassId) : Jvm.Free.Multi.innerC c0 60 (defaultValue .int) = vp_cell c0 (60, .inl (fun _ => 0)) := by
  rw [vp_cell_i]
  show ({ cls := c0, slots := Array.replicate 60 (.int 0), vm := .none } : Cell) = _
  rw [arrV_new]
section CNM
variable {p : Program} {l : Launch} {e : Env} {R : Room} {s : State} {m : MethodId} {args : Array Value} {below : List Frame} {meth : Method} {c : Code} {H : Heap} {locs : List Loc} {cells slots : Nat} {Q : State → Prop}
variable {cc : ByteArray} {pc : Nat} {ls : Array Slot} {rest : List Value} {D : va_G} {cl : List vw_C} {A : Nat → Prop} {a : Nat} {tys : List (ClassId × FieldType)} {ws : va_W} {H0 : Heap}
set_option maxHeartbeats 1000000 in
theorem cn_mul (hexec : p.tables.exec = Jvm.exec) (hb : c.code = cc) {own : String} {index : Nat} (hown : s.vm.findClass own = some m.cls) (hclink : (Cond.classLink own index "[[I").before args s = true) (hover : (Cond.arrayOver (.array .int)).before args s = true) (harr : (Cond.arrayClass .int).before args s = true)
    (hK : va_K D cl tys s) (t0 t1 : Nat) {c0 c3 : ClassId} (ht0 : tys[t0]? = some (c0, .int)) (ht1 : tys[t1]? = some (c3, .array .int)) (hP : va_P D cl ws H) (hD : va_D A ws) (hS : va_S A H0 H locs) (hA : ∀ q, H0.size ≤ q → A q) (hcells : cells + 5 ≤ R.cells) (hslots : slots + 244 ≤ R.slots) (hdg : decode cc pc = .ok (.multianewarray index 2, 4))
    (kk : ∀ (q q1 q2 q3 q4 : Nat) (H1 : Heap), va_P D cl (ws ++ [(q, .inl (c3, 4, .inr (.inr (.inr (.inr (fun i => if i < 4 then some (cn_r q1 q2 q3 q4 i) else none))))))] ++ [(q1, .inl (c0, 60, .inl (fun _ => 0)))] ++ [(q2, .inl (c0, 60, .inl (fun _ => 0)))] ++ [(q3, .inl (c0, 60, .inl (fun _ => 0)))] ++ [(q4, .inl (c0, 60, .inl (fun _ => 0)))]) H1 →
      va_D A (ws ++ [(q, .inl (c3, 4, .inr (.inr (.inr (.inr (fun i => if i < 4 then some (cn_r q1 q2 q3 q4 i) else none))))))] ++ [(q1, .inl (c0, 60, .inl (fun _ => 0)))] ++ [(q2, .inl (c0, 60, .inl (fun _ => 0)))] ++ [(q3, .inl (c0, 60, .inl (fun _ => 0)))] ++ [(q4, .inl (c0, 60, .inl (fun _ => 0)))]) → va_S A H0 H1 locs →
      W p l e R s m args below meth c H1 locs (cells + 1 + 4) (slots + 4 + 4 * 60) Q (F0 m (pc + 4) ls (.ref q :: rest))) : W p l e R s m args below meth c H locs cells slots Q (F0 m pc ls (.int 60 :: .int 4 :: rest)) := by
  intro T hT Xs
  subst hT
  have e4 : (4 : Int32).toNatClampNeg = 4 := by decide +kernel
  have e60 : (60 : Int32).toNatClampNeg = 60 := by decide +kernel
  obtain ⟨vm₁, cB, comp, -, fA, fC, hO, -, X', step⟩ := Xs.multianewarray2F (ty := .int) hexec hown hclink hover harr (g := F0 m pc ls (.int 60 :: .int 4 :: rest)) rfl (by rw [hb]; exact hdg) rfl (by decide) (by decide) (by rw [e4]; exact Nat.le_of_ble_eq_true rfl) (by rw [e60]; exact Nat.le_of_ble_eq_true rfl) (by rw [e60]; exact Nat.le_of_ble_eq_true rfl) rfl rfl (by rw [e4]; omega) (by rw [e4, e60]; omega)
  rw [e4, e60] at X' step
  have g1 : s.vm.findClass "[[I" = some c3 := (hK.2 t1 _ ht1).2
  have g0 : s.vm.findClass "[I" = some c0 := (hK.2 t0 _ ht0).2
  have ec : comp = c0 := Option.some.inj (Eq.trans (Eq.symm fC) g0)
  have eb : cB = c3 := Option.some.inj (Eq.trans (Eq.symm fA) g1)
  subst ec
  subst eb
  have f1 := Jvm.Free.Multi.fill_facts (T.setVm vm₁) cB comp 4 60 (defaultValue .int) 4
  have f0 := fun (x : Nat) (hx : x < (T.setVm vm₁).heap.size) => Jvm.Free.Multi.fill_old (T.setVm vm₁) cB comp 4 60 (defaultValue .int) (a := x) hx 4
  have fi := Jvm.Free.Multi.fill_inner (T.setVm vm₁) cB comp 4 60 (defaultValue .int) 4
  generalize hF : Jvm.Free.Multi.fill (T.setVm vm₁) cB comp 4 60 (defaultValue .int) 4 = F at X' step f1 f0 fi
  have fs : F.heap.size = T.heap.size + 1 + 4 := f1.1
  have fo : F.heap[T.heap.size]? = some (Jvm.Free.Multi.outerC cB 4 T.heap.size 4) := f1.2.1
  have f0 : ∀ x : Nat, x < T.heap.size → F.heap[x]? = T.heap[x]? := f0
  have fi : ∀ j : Nat, j < 4 → F.heap[T.heap.size + 1 + j]? = some (Jvm.Free.Multi.innerC comp 60 (defaultValue .int)) := fi
  rw [cn_outer] at fo
  rw [cn_inner] at fi
  have l0 : ∀ (k : Nat) (x : Nat × va_E), ws[k]? = some x → x.1 < T.heap.size := fun k x hx => (hP k x hx).lt
  have hsz := hS.1
  obtain ⟨t, a1, b1⟩ := kk T.heap.size (T.heap.size + 1) (T.heap.size + 2) (T.heap.size + 3) (T.heap.size + 4) F.heap
    (cn_snoc (cn_snoc (cn_snoc (cn_snoc (cn_snoc (hP.kept (fun k x hx => f0 x.1 (l0 k x hx))) fo) (fi 0 (by decide))) (fi 1 (by decide))) (fi 2 (by decide))) (fi 3 (by decide)))
    (cn_pushD (cn_pushD (cn_pushD (cn_pushD (cn_pushD hD l0 (hA _ hsz)) (cn_ltS l0 (by omega)) (hA _ (by omega))) (cn_ltS (cn_ltS l0 (Nat.lt_succ_self _)) (by omega)) (hA _ (by omega))) (cn_ltS (cn_ltS (cn_ltS l0 (Nat.lt_succ_self _)) (Nat.lt_succ_self _)) (by omega)) (hA _ (by omega))) (cn_ltS (cn_ltS (cn_ltS (cn_ltS l0 (Nat.lt_succ_self _)) (Nat.lt_succ_self _)) (Nat.lt_succ_self _)) (by omega)) (hA _ (by omega)))
    ⟨by rw [fs]; omega, fun x h1 h2 => (f0 x (Nat.lt_of_lt_of_le h1 hsz)).trans (hS.2.1 x h1 h2), hS.2.2⟩ F rfl X'
  exact ⟨t, step t a1, b1⟩
end CNM
