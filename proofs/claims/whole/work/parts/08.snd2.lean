/-! the static facts that a method's code must meet, as a check -/
def sd_len (pc : Nat) : Instr → Nat
  | .bipush _ => 2
  | .ldc _ => 2
  | .iload _ => 2
  | .lload _ => 2
  | .aload _ => 2
  | .istore _ => 2
  | .lstore _ => 2
  | .sipush _ => 3
  | .ldc_w _ => 3
  | .ldc2_w _ => 3
  | .iinc _ _ => 3
  | .ifCond _ _ => 3
  | .if_icmp _ _ => 3
  | .goto _ => 3
  | .getfield _ => 3
  | .putfield _ => 3
  | .invokevirtual _ => 3
  | .invokestatic _ => 3
  | .tableswitch _ _ _ o => (pc + 4) / 4 * 4 + 12 + 4 * o.size - pc
  | _ => 1
def sd_sw (pc : Nat) (dd lo hi : Int) (offs : Array Int) : Option (Nat × List (Int32 × Nat)) → Bool
  | none => false
  | some (dt, ts) => decide ((pc : Int) + dd = (dt : Int)) && decide (ts.length = offs.size) && decide (hi = lo + (offs.size : Int) - 1) && (List.range offs.size).all (fun j => match xm_at ts j, offs[j]? with
    | some (k, g), some f => decide (k.toInt = lo + (j : Int)) && decide ((pc : Int) + f = (g : Int))
    | _, _ => false)
def sd_ck (rt o mL pc : Nat) (i : Instr) (t : Nat) : Bool := match i with
  | .iconst n => decide (xm_at xm_kI t = some (Int32.ofInt n))
  | .bipush n => decide (xm_at xm_kI t = some (Int8.ofInt n).toInt32)
  | .sipush n => decide (xm_at xm_kI t = some (Int16.ofInt n).toInt32)
  | .lconst n => decide (xm_at xm_kL t = some (Int64.ofNat n.val))
  | .ldc x => sd_lI.contains (o, x, t)
  | .ldc_w x => sd_lI.contains (o, x, t)
  | .ldc2_w x => sd_lL.contains (o, x, t)
  | .iinc n c => decide (n < mL) && decide (xm_at xm_kI t = some (Int32.ofInt c))
  | .istore_n n => decide (n.val < mL)
  | .istore n => decide (n < mL)
  | .lstore_n n => decide (n.val + 1 < mL)
  | .lstore n => decide (n + 1 < mL)
  | .goto f => decide ((pc : Int) + f = (t : Int))
  | .ifCond _ f => decide ((pc : Int) + f = (t : Int))
  | .if_icmp _ f => decide ((pc : Int) + f = (t : Int))
  | .tableswitch dd lo hi offs => sd_sw pc dd lo hi offs (xm_at xm_sw t)
  | .getfield x => sd_lF.contains (o, x, t)
  | .putfield x => sd_lF.contains (o, x, t)
  | .invokevirtual x => sd_lV.contains (o, x, t)
  | .invokestatic x => sd_lS.contains (o, x, t)
  | .ireturn => rt == 1 || rt == 3
  | .lreturn => rt == 2
  | .return_ => rt == 0
  | _ => true
def sd_chk (rt o mL : Nat) (bytes : ByteArray) (q : Ety) : Bool := decide (decode bytes q.1 = .ok (q.2.1, sd_len q.1 q.2.1)) && decide (q.2.2.2.2 = q.1 + sd_len q.1 q.2.1) && sd_ck rt o mL q.1 q.2.1 q.2.2.2.1
def sd_rt : Nat → Option FieldType → Bool
  | 0, none => true
  | 1, some .int => true
  | 2, some .long => true
  | 3, some .boolean => true
  | _, _ => false
/-- a method is as the tables say, and its code as read -/
def sd_good (q : MI) : Prop :=
  Cond.code (mi_y q) (mi_b q) (mi_L q) (mi_r q) ∈ sd_tb ∧ plainName (mi_y q).cls = true ∧ (mi_y q).cls = sd_on (mi_o q) ∧
  ((mi_y q).cls ≠ "java/lang/invoke/MethodHandle" ∧ (mi_y q).cls ≠ "java/lang/invoke/VarHandle" ∧ (parseMethodDescriptor (mi_y q).desc).map (fun d => d.parameters.length) = some (mi_n q)) ∧
  Cond.initialized (mi_y q).cls ∈ sd_tb ∧ sd_rt (mi_t q) (mi_r q) = true ∧
  ((mi_c q = 99 ∧ Cond.static (mi_y q) ∈ sd_tb) ∨ (Cond.instanceMethod (mi_y q) ∈ sd_tb ∧ Cond.selects (mi_y q).cls (mi_y q) (mi_y q) ∈ sd_tb ∧ ∃ c, xm_cl[mi_c q]? = some c ∧ c.1 = (mi_y q).cls)) ∧
  mi_L q ≤ 40 ∧ (mi_k q).all (sd_chk (mi_t q) (mi_o q) (mi_L q) (mi_b q)) = true
theorem sd_lk : ∀ {cd : List Ety} {pc : Nat} {x : Instr × List Nat × Nat × Nat}, xm_lk cd pc = some x → (pc, x) ∈ cd
  | [], _, _, h => by cases h
  | (p, y) :: r, pc, x, h => by
    unfold xm_lk at h
    cases e : Nat.beq p pc with
    | true =>
      rw [e] at h
      have := Nat.eq_of_beq_eq_true e
      subst this
      cases h
      exact List.mem_cons_self
    | false =>
      rw [e] at h
      exact List.mem_cons_of_mem _ (sd_lk h)
theorem sd_wI {ad : Nat → Nat} {cA : Nat → ClassId} {σ : Sg} {b n z j : Nat} {x : Int32} (h : xm_at xm_sh b = some (.inl (0, n, z))) : (sd_w ad cA σ).set b (ad b, .inl (cA 0, n, .inl (upd (σ.1 b) j x))) = sd_w ad cA (xm_sI σ b j x) := by
  have e := sd_w_set (ad := ad) (cA := cA) (σ := σ) (τ := xm_sI σ b j x) h (fun c hc => sd_sI_ne hc)
  rw [show sd_ce ad cA (xm_sI σ b j x) b (.inl (0, n, z)) = .inl (cA 0, n, .inl ((xm_sI σ b j x).1 b)) from rfl, sd_sI_1] at e
  exact e
theorem sd_wZ {ad : Nat → Nat} {cA : Nat → ClassId} {σ : Sg} {b n z j : Nat} {x : Int32} (h : xm_at xm_sh b = some (.inl (2, n, z))) : (sd_w ad cA σ).set b (ad b, .inl (cA 2, n, .inl (upd (σ.1 b) j x))) = sd_w ad cA (xm_sI σ b j x) := by
  have e := sd_w_set (ad := ad) (cA := cA) (σ := σ) (τ := xm_sI σ b j x) h (fun c hc => sd_sI_ne hc)
  rw [show sd_ce ad cA (xm_sI σ b j x) b (.inl (2, n, z)) = .inl (cA 2, n, .inl ((xm_sI σ b j x).1 b)) from rfl, sd_sI_1] at e
  exact e
theorem sd_wL {ad : Nat → Nat} {cA : Nat → ClassId} {σ : Sg} {b n z j : Nat} {x : Int64} (h : xm_at xm_sh b = some (.inl (1, n, z))) : (sd_w ad cA σ).set b (ad b, .inl (cA 1, n, .inr (.inl (vp_updL (σ.2 b) j x)))) = sd_w ad cA (xm_sL σ b j x) := by
  have e := sd_w_set (ad := ad) (cA := cA) (σ := σ) (τ := xm_sL σ b j x) h (fun c hc => sd_sL_ne hc)
  rw [show sd_ce ad cA (xm_sL σ b j x) b (.inl (1, n, z)) = .inl (cA 1, n, .inr (.inl ((xm_sL σ b j x).2 b))) from rfl, sd_sL_2] at e
  exact e
theorem sd_wFI {ad : Nat → Nat} {cA : Nat → ClassId} {σ : Sg} {b ci k : Nat} {fs : List Nat} {x : Int32} (h : xm_at xm_sh b = some (.inr (ci, fs))) (hf : xm_at fs k = some 0) : (sd_w ad cA σ).set b (ad b, .inr (ci, (sd_fs ad σ b 0 fs).set k (.int x))) = sd_w ad cA (xm_sI σ b k x) := by
  rw [sd_fs_putI hf]
  exact sd_w_set (τ := xm_sI σ b k x) h (fun c hc => sd_sI_ne hc)
theorem sd_wFL {ad : Nat → Nat} {cA : Nat → ClassId} {σ : Sg} {b ci k : Nat} {fs : List Nat} {x : Int64} (h : xm_at xm_sh b = some (.inr (ci, fs))) (hf : xm_at fs k = some 1) : (sd_w ad cA σ).set b (ad b, .inr (ci, (sd_fs ad σ b 0 fs).set k (.long x))) = sd_w ad cA (xm_sL σ b k x) := by
  rw [sd_fs_putL hf]
  exact sd_w_set (τ := xm_sL σ b k x) h (fun c hc => sd_sL_ne hc)
theorem sd_wyI {ad : Nat → Nat} {cA : Nat → ClassId} {σ : Sg} {a b n z sp dp k : Nat} (h : xm_at xm_sh b = some (.inl (0, n, z))) : (sd_w ad cA σ).set b (ad b, .inl (cA 0, n, .inl (va_cpy (σ.1 a) (σ.1 b) sp dp k))) = sd_w ad cA (xm_yI σ a b sp dp k) := by
  have e := sd_w_set (ad := ad) (cA := cA) (σ := σ) (τ := xm_yI σ a b sp dp k) h (fun c hc => ⟨if_neg hc, rfl⟩)
  rw [show sd_ce ad cA (xm_yI σ a b sp dp k) b (.inl (0, n, z)) = .inl (cA 0, n, .inl ((xm_yI σ a b sp dp k).1 b)) from rfl, show (xm_yI σ a b sp dp k).1 b = va_cpy (σ.1 a) (σ.1 b) sp dp k from if_pos rfl] at e
  exact e
theorem sd_wyL {ad : Nat → Nat} {cA : Nat → ClassId} {σ : Sg} {a b n z sp dp k : Nat} (h : xm_at xm_sh b = some (.inl (1, n, z))) : (sd_w ad cA σ).set b (ad b, .inl (cA 1, n, .inr (.inl (va_cpy (σ.2 a) (σ.2 b) sp dp k)))) = sd_w ad cA (xm_yL σ a b sp dp k) := by
  have e := sd_w_set (ad := ad) (cA := cA) (σ := σ) (τ := xm_yL σ a b sp dp k) h (fun c hc => ⟨rfl, if_neg hc⟩)
  rw [show sd_ce ad cA (xm_yL σ a b sp dp k) b (.inl (1, n, z)) = .inl (cA 1, n, .inr (.inl ((xm_yL σ a b sp dp k).2 b))) from rfl, show (xm_yL σ a b sp dp k).2 b = va_cpy (σ.2 a) (σ.2 b) sp dp k from if_pos rfl] at e
  exact e
theorem iv_swl {x : Int32} {k : Nat → Oz} {dt : Nat} {r : RV} : ∀ {ts : List (Int32 × Nat)}, xm_swl x k dt ts = some r → (∃ (j g : Nat), xm_at ts j = some (x, g) ∧ k g = some r) ∨ ((∀ (j : Nat) (y : Int32) (g : Nat), xm_at ts j = some (y, g) → x ≠ y) ∧ k dt = some r)
  | [], h => Or.inr ⟨fun j y g e => (by cases e), h⟩
  | (y, t) :: ts, h => by
    unfold xm_swl at h
    by_cases c : x = y
    · rw [xm_br_t c] at h
      subst c
      exact Or.inl ⟨0, t, rfl, h⟩
    · rw [xm_br_f c] at h
      rcases iv_swl h with ⟨j, g, e, h⟩ | ⟨e, h⟩
      · exact Or.inl ⟨j + 1, g, e, h⟩
      · refine Or.inr ⟨fun j z g e2 => ?_, h⟩
        cases j with
        | zero => cases e2; exact c
        | succ j => exact e j z g e2
theorem iv_row {i : Int32} {b : Nat} {k : Nat → Oz} {r : RV} (h : xm_row i b k = some r) : ∃ j : Nat, j < 4 ∧ i = nI j ∧ k (b + j) = some r := by
  unfold xm_row at h
  by_cases c0 : i = 0
  · rw [xm_br_t c0] at h; exact ⟨0, by omega, c0, h⟩
  rw [xm_br_f c0] at h
  by_cases c1 : i = 1
  · rw [xm_br_t c1] at h; exact ⟨1, by omega, c1, h⟩
  rw [xm_br_f c1] at h
  by_cases c2 : i = 2
  · rw [xm_br_t c2] at h; exact ⟨2, by omega, c2, h⟩
  rw [xm_br_f c2] at h
  by_cases c3 : i = 3
  · rw [xm_br_t c3] at h; exact ⟨3, by omega, c3, h⟩
  rw [xm_br_f c3] at h
  cases h
theorem iv_retI {rt o mL pc t : Nat} {st : List Value} {σ : Sg} {r : RV} (hk : sd_ck rt o mL pc .ireturn t = true) (h : xm_ret rt st σ = some r) : ∃ x, st = [.int x] ∧ r = (some (.int x), σ) ∧ (rt = 1 ∨ (rt = 3 ∧ (x = 0 ∨ x = 1))) := by
  have hk : (rt == 1 || rt == 3) = true := hk
  simp only [Bool.or_eq_true, beq_iff_eq] at hk
  rcases hk with rfl | rfl
  · rcases st with _ | ⟨v, _ | _⟩
    · cases h
    · cases v <;> first | (cases h; exact ⟨_, rfl, rfl, Or.inl rfl⟩) | cases h
    · cases v <;> cases h
  · rcases st with _ | ⟨v, _ | _⟩
    · cases h
    · cases v <;> first | (obtain ⟨hb, h⟩ := iv_bo h; cases h; exact ⟨_, rfl, rfl, Or.inr ⟨rfl, hb⟩⟩) | cases h
    · cases v <;> cases h
theorem iv_retL {rt o mL pc t : Nat} {st : List Value} {σ : Sg} {r : RV} (hk : sd_ck rt o mL pc .lreturn t = true) (h : xm_ret rt st σ = some r) : ∃ x, st = [.long x] ∧ r = (some (.long x), σ) ∧ rt = 2 := by
  have hk : (rt == 2) = true := hk
  simp only [beq_iff_eq] at hk
  subst hk
  rcases st with _ | ⟨v, _ | _⟩
  · cases h
  · cases v <;> first | (cases h; exact ⟨_, rfl, rfl, rfl⟩) | cases h
  · cases v <;> cases h
theorem iv_retV {rt o mL pc t : Nat} {st : List Value} {σ : Sg} {r : RV} (hk : sd_ck rt o mL pc .return_ t = true) (h : xm_ret rt st σ = some r) : st = [] ∧ r = (none, σ) ∧ rt = 0 := by
  have hk : (rt == 0) = true := hk
  simp only [beq_iff_eq] at hk
  subst hk
  rcases st with _ | ⟨v, _⟩
  · cases h; exact ⟨rfl, rfl, rfl⟩
  · cases h
theorem sd_rtI {rt : Nat} {ret : Option FieldType} (h : rt = 1) (hr : sd_rt rt ret = true) : ret = some .int := by
  subst h
  rcases ret with _ | ty
  · cases hr
  · cases ty <;> first | rfl | cases hr
theorem sd_rtZ {rt : Nat} {ret : Option FieldType} (h : rt = 3) (hr : sd_rt rt ret = true) : ret = some .boolean := by
  subst h
  rcases ret with _ | ty
  · cases hr
  · cases ty <;> first | rfl | cases hr
theorem sd_rtL {rt : Nat} {ret : Option FieldType} (h : rt = 2) (hr : sd_rt rt ret = true) : ret = some .long := by
  subst h
  rcases ret with _ | ty
  · cases hr
  · cases ty <;> first | rfl | cases hr
theorem sd_rtV {rt : Nat} {ret : Option FieldType} (h : rt = 0) (hr : sd_rt rt ret = true) : ret = none := by
  subst h
  rcases ret with _ | ty
  · rfl
  · cases ty <;> cases hr
def sd_rm (d : Nat) : Room := { frames := d, cells := 0, slots := 0, locals := 64 * d }
def sd_P (ad : Nat → Nat) (cA : Nat → ClassId) (D : va_G) (as : List Value) (σ : Sg) : Array Value → State → Prop := fun v U => v = (as.map (sd_cv ad)).toArray ∧ va_P D xm_cl (sd_w ad cA σ) U.heap ∧ va_K D xm_cl (sd_ty cA) U
def sd_Q (ad : Nat → Nat) (cA : Nat → ClassId) (D : va_G) (r : RV) : Array Value → State → Outcome → State → Prop := fun _ st oc t => oc = .returned (r.1.map (sd_cv ad)) ∧ va_P D xm_cl (sd_w ad cA r.2) t.heap ∧ va_F (sd_A ad) st t
def sd_ws (q : MI) : List Cond := Cond.code (mi_y q) (mi_b q) (mi_L q) (mi_r q) :: sd_tb
/-- the contracts of all methods, so many calls deep -/
def sd_met (l : Launch) (ad : Nat → Nat) (cA : Nat → ClassId) (D : va_G) (d : Nat) : Prop := ∀ (M : Nat) (as : List Value) (σ : Sg) (r : RV) (q : MI), xm_call d M as σ = some r → sd_ml[M]? = some q → Met l (mi_y q) (sd_ws q) (sd_rm d) (sd_P ad cA D as σ) (sd_Q ad cA D r) 0 0 (sd_A ad)
theorem sd_blind {ad : Nat → Nat} {cA : Nat → ClassId} {D : va_G} {as : List Value} {σ : Sg} : FrameBlind (sd_P ad cA D as σ) := by
  intro a U g mk' h
  exact ⟨h.1, h.2.1, va_K.moved (u := U) (U := U.calling g mk' a) (Vm.Alike.refl U.vm) h.2.2⟩
theorem sd_goodIn {q : MI} (hq : sd_good q) : GoodIn sd_tb (sd_ws q) := by
  have key : ∀ w ∈ sd_tb, w ∈ sd_tb ∧ ((w.onTables && w.keeps) = true ∨ ∃ ty, w = .arrayClass ty) := fun w hw => ⟨hw, good_of_word (List.mem_filter.mp hw).2⟩
  intro w hw
  rcases List.mem_cons.mp hw with rfl | h
  · exact key _ hq.1
  · exact key w h
