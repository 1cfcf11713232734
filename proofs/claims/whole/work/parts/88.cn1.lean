theorem cw_0 : (Jvm.Cond.methodLink "ThroughOthers$Net" (3 : Nat) ({ cls := "java/lang/Object", name := "<init>", desc := "()V" } : Jvm.MethodName)) ∈ sd_tb := sd_in (List.mem_of_getElem? (i := 80) (by decide +kernel)) rfl
theorem cw_1 : (Jvm.Cond.instanceMethod ({ cls := "java/lang/Object", name := "<init>", desc := "()V" } : Jvm.MethodName)) ∈ sd_tb := sd_in (List.mem_of_getElem? (i := 73) (by decide +kernel)) rfl
theorem cw_2 : (Jvm.Cond.code ({ cls := "java/lang/Object", name := "<init>", desc := "()V" } : Jvm.MethodName) object_method_1_code (1 : Nat) (Option.none : Option Jvm.ClassFile.FieldType)) ∈ sd_tb := sd_in (List.mem_of_getElem? (i := 74) (by decide +kernel)) rfl
theorem cw_3 : (Jvm.Cond.arrayClass Jvm.ClassFile.FieldType.int) ∈ sd_tb := sd_in (List.mem_of_getElem? (i := 101) (by decide +kernel)) rfl
theorem cw_4 : (Jvm.Cond.fieldLink "ThroughOthers$Net" (11 : Nat) "ThroughOthers$Net" "ties" "[I") ∈ sd_tb := sd_in (List.mem_of_getElem? (i := 81) (by decide +kernel)) rfl
theorem cw_5 : (Jvm.Cond.fieldLink "ThroughOthers$Net" (15 : Nat) "ThroughOthers$Net" "size" "I") ∈ sd_tb := sd_in (List.mem_of_getElem? (i := 83) (by decide +kernel)) rfl
theorem cw_6 : (Jvm.Cond.methodLink "ThroughOthers$Chains" (3 : Nat) ({ cls := "java/lang/Object", name := "<init>", desc := "()V" } : Jvm.MethodName)) ∈ sd_tb := sd_in (List.mem_of_getElem? (i := 107) (by decide +kernel)) rfl
theorem cw_7 : (Jvm.Cond.fieldLink "ThroughOthers$Chains" (9 : Nat) "ThroughOthers$Chains" "net" "LThroughOthers$Net;") ∈ sd_tb := sd_in (List.mem_of_getElem? (i := 108) (by decide +kernel)) rfl
theorem cw_8 : (Jvm.Cond.arrayClass Jvm.ClassFile.FieldType.long) ∈ sd_tb := sd_in (List.mem_of_getElem? (i := 131) (by decide +kernel)) rfl
theorem cw_9 : (Jvm.Cond.fieldLink "ThroughOthers$Chains" (17 : Nat) "ThroughOthers$Chains" "going" "[J") ∈ sd_tb := sd_in (List.mem_of_getElem? (i := 109) (by decide +kernel)) rfl
theorem cw_10 : (Jvm.Cond.fieldLink "ThroughOthers$Chains" (21 : Nat) "ThroughOthers$Chains" "ended" "[J") ∈ sd_tb := sd_in (List.mem_of_getElem? (i := 110) (by decide +kernel)) rfl
theorem cw_11 : (Jvm.Cond.fieldLink "ThroughOthers$Chains" (24 : Nat) "ThroughOthers$Chains" "followedChanges" "I") ∈ sd_tb := sd_in (List.mem_of_getElem? (i := 111) (by decide +kernel)) rfl
theorem cw_12 : (Jvm.Cond.methodLink "ThroughOthers$Walk" (3 : Nat) ({ cls := "java/lang/Object", name := "<init>", desc := "()V" } : Jvm.MethodName)) ∈ sd_tb := sd_in (List.mem_of_getElem? (i := 137) (by decide +kernel)) rfl
theorem cw_13 : (Jvm.Cond.fieldLink "ThroughOthers$Walk" (9 : Nat) "ThroughOthers$Walk" "net" "LThroughOthers$Net;") ∈ sd_tb := sd_in (List.mem_of_getElem? (i := 138) (by decide +kernel)) rfl
theorem cw_14 : (Jvm.Cond.fieldLink "ThroughOthers$Walk" (17 : Nat) "ThroughOthers$Walk" "now" "[J") ∈ sd_tb := sd_in (List.mem_of_getElem? (i := 140) (by decide +kernel)) rfl
theorem cw_15 : (Jvm.Cond.fieldLink "ThroughOthers$Walk" (21 : Nat) "ThroughOthers$Walk" "next" "[J") ∈ sd_tb := sd_in (List.mem_of_getElem? (i := 139) (by decide +kernel)) rfl
theorem cw_16 : (Jvm.Cond.methodLink "ThroughOthers$Records" (3 : Nat) ({ cls := "java/lang/Object", name := "<init>", desc := "()V" } : Jvm.MethodName)) ∈ sd_tb := sd_in (List.mem_of_getElem? (i := 158) (by decide +kernel)) rfl
theorem cw_17 : (Jvm.Cond.fieldLink "ThroughOthers$Records" (11 : Nat) "ThroughOthers$Records" "bringer" "[I") ∈ sd_tb := sd_in (List.mem_of_getElem? (i := 159) (by decide +kernel)) rfl
theorem cw_18 : (Jvm.Cond.fieldLink "ThroughOthers$Records" (15 : Nat) "ThroughOthers$Records" "kind" "[I") ∈ sd_tb := sd_in (List.mem_of_getElem? (i := 162) (by decide +kernel)) rfl
theorem cw_19 : (Jvm.Cond.fieldLink "ThroughOthers$Records" (18 : Nat) "ThroughOthers$Records" "knows" "[I") ∈ sd_tb := sd_in (List.mem_of_getElem? (i := 165) (by decide +kernel)) rfl
theorem cw_20 : (Jvm.Cond.fieldLink "ThroughOthers$Records" (21 : Nat) "ThroughOthers$Records" "day" "[I") ∈ sd_tb := sd_in (List.mem_of_getElem? (i := 167) (by decide +kernel)) rfl
theorem cw_21 : (Jvm.Cond.fieldLink "ThroughOthers$Records" (24 : Nat) "ThroughOthers$Records" "back" "[I") ∈ sd_tb := sd_in (List.mem_of_getElem? (i := 168) (by decide +kernel)) rfl
theorem cw_22 : (Jvm.Cond.fieldLink "ThroughOthers$Records" (27 : Nat) "ThroughOthers$Records" "wave" "[I") ∈ sd_tb := sd_in (List.mem_of_getElem? (i := 170) (by decide +kernel)) rfl
theorem cw_23 : (Jvm.Cond.fieldLink "ThroughOthers$Records" (30 : Nat) "ThroughOthers$Records" "tree" "[I") ∈ sd_tb := sd_in (List.mem_of_getElem? (i := 171) (by decide +kernel)) rfl
theorem cw_24 : (Jvm.Cond.fieldLink "ThroughOthers$Records" (33 : Nat) "ThroughOthers$Records" "brought" "[I") ∈ sd_tb := sd_in (List.mem_of_getElem? (i := 173) (by decide +kernel)) rfl
theorem cw_25 : (Jvm.Cond.arrayClass Jvm.ClassFile.FieldType.boolean) ∈ sd_tb := sd_in (List.mem_of_getElem? (i := 217) (by decide +kernel)) rfl
theorem cw_26 : (Jvm.Cond.fieldLink "ThroughOthers$Records" (36 : Nat) "ThroughOthers$Records" "counts" "[Z") ∈ sd_tb := sd_in (List.mem_of_getElem? (i := 175) (by decide +kernel)) rfl
theorem cw_27 : (Jvm.Cond.fieldLink "ThroughOthers$Records" (40 : Nat) "ThroughOthers$Records" "asOf" "I") ∈ sd_tb := sd_in (List.mem_of_getElem? (i := 186) (by decide +kernel)) rfl
theorem cw_28 : (Jvm.Cond.methodLink "ThroughOthers$Shares" (3 : Nat) ({ cls := "java/lang/Object", name := "<init>", desc := "()V" } : Jvm.MethodName)) ∈ sd_tb := sd_in (List.mem_of_getElem? (i := 223) (by decide +kernel)) rfl
theorem cw_29 : (Jvm.Cond.fieldLink "ThroughOthers$Shares" (9 : Nat) "ThroughOthers$Shares" "records" "LThroughOthers$Records;") ∈ sd_tb := sd_in (List.mem_of_getElem? (i := 224) (by decide +kernel)) rfl
theorem cw_30 : (Jvm.Cond.fieldLink "ThroughOthers$Shares" (15 : Nat) "ThroughOthers$Shares" "pairs" "[I") ∈ sd_tb := sd_in (List.mem_of_getElem? (i := 225) (by decide +kernel)) rfl
theorem cw_31 : (Jvm.Cond.methodLink "ThroughOthers$Deals" (3 : Nat) ({ cls := "java/lang/Object", name := "<init>", desc := "()V" } : Jvm.MethodName)) ∈ sd_tb := sd_in (List.mem_of_getElem? (i := 236) (by decide +kernel)) rfl
theorem cw_32 : (Jvm.Cond.fieldLink "ThroughOthers$Deals" (9 : Nat) "ThroughOthers$Deals" "records" "LThroughOthers$Records;") ∈ sd_tb := sd_in (List.mem_of_getElem? (i := 237) (by decide +kernel)) rfl
theorem cw_33 : (Jvm.Cond.fieldLink "ThroughOthers$Deals" (17 : Nat) "ThroughOthers$Deals" "order" "[I") ∈ sd_tb := sd_in (List.mem_of_getElem? (i := 238) (by decide +kernel)) rfl
theorem cw_34 : (Jvm.Cond.fieldLink "ThroughOthers$Deals" (21 : Nat) "ThroughOthers$Deals" "bringerOrder" "[I") ∈ sd_tb := sd_in (List.mem_of_getElem? (i := 239) (by decide +kernel)) rfl
theorem cw_35 : (Jvm.Cond.methodLink "ThroughOthers$Marks" (3 : Nat) ({ cls := "java/lang/Object", name := "<init>", desc := "()V" } : Jvm.MethodName)) ∈ sd_tb := sd_in (List.mem_of_getElem? (i := 255) (by decide +kernel)) rfl
theorem cw_36 : (Jvm.Cond.fieldLink "ThroughOthers$Marks" (9 : Nat) "ThroughOthers$Marks" "records" "LThroughOthers$Records;") ∈ sd_tb := sd_in (List.mem_of_getElem? (i := 256) (by decide +kernel)) rfl
theorem cw_37 : (Jvm.Cond.fieldLink "ThroughOthers$Marks" (17 : Nat) "ThroughOthers$Marks" "signs" "[I") ∈ sd_tb := sd_in (List.mem_of_getElem? (i := 257) (by decide +kernel)) rfl
theorem cw_38 : (Jvm.Cond.fieldLink "ThroughOthers$Marks" (21 : Nat) "ThroughOthers$Marks" "lengths" "[I") ∈ sd_tb := sd_in (List.mem_of_getElem? (i := 258) (by decide +kernel)) rfl
theorem cw_39 : (Jvm.Cond.fieldLink "ThroughOthers$Marks" (24 : Nat) "ThroughOthers$Marks" "dealt" "[I") ∈ sd_tb := sd_in (List.mem_of_getElem? (i := 260) (by decide +kernel)) rfl
theorem cw_40 : (Jvm.Cond.fieldLink "ThroughOthers$Marks" (27 : Nat) "ThroughOthers$Marks" "clashing" "[I") ∈ sd_tb := sd_in (List.mem_of_getElem? (i := 261) (by decide +kernel)) rfl
theorem cw_41 : (Jvm.Cond.fieldLink "ThroughOthers$Marks" (30 : Nat) "ThroughOthers$Marks" "person" "[I") ∈ sd_tb := sd_in (List.mem_of_getElem? (i := 262) (by decide +kernel)) rfl
theorem cw_42 : (Jvm.Cond.fieldLink "ThroughOthers$Marks" (33 : Nat) "ThroughOthers$Marks" "members" "[I") ∈ sd_tb := sd_in (List.mem_of_getElem? (i := 263) (by decide +kernel)) rfl
def y_Net_init : MethodName := ⟨"ThroughOthers$Net", "<init>", "()V"⟩
def ws_Net_init : List Cond := Cond.code y_Net_init prog_5_method_1_code 1 none :: sd_tb
theorem dc_Net_0 : decode prog_5_method_1_code 0 = .ok (.aload_n 0, 1) := by decide +kernel
theorem dc_Net_1 : decode prog_5_method_1_code 1 = .ok (.invokespecial 3, 3) := by decide +kernel
theorem dc_Net_4 : decode prog_5_method_1_code 4 = .ok (.aload_n 0, 1) := by decide +kernel
theorem dc_Net_5 : decode prog_5_method_1_code 5 = .ok (.bipush 9, 2) := by decide +kernel
theorem dc_Net_7 : decode prog_5_method_1_code 7 = .ok (.newarray .int, 2) := by decide +kernel
theorem dc_Net_9 : decode prog_5_method_1_code 9 = .ok (.putfield 11, 3) := by decide +kernel
theorem dc_Net_12 : decode prog_5_method_1_code 12 = .ok (.aload_n 0, 1) := by decide +kernel
theorem dc_Net_13 : decode prog_5_method_1_code 13 = .ok (.bipush 6, 2) := by decide +kernel
theorem dc_Net_15 : decode prog_5_method_1_code 15 = .ok (.putfield 15, 3) := by decide +kernel
theorem dc_Net_18 : decode prog_5_method_1_code 18 = .ok (.return_, 1) := by decide +kernel
theorem gi_Net : GoodIn sd_tb ws_Net_init := cn_good (sd_in (List.mem_of_getElem? (i := 79) (by decide +kernel)) rfl)
set_option maxHeartbeats 4000000 in
set_option maxRecDepth 100000 in
theorem cn_Net (l : Launch) (D : va_G) (cA : Nat → ClassId) (h0 : Nat) (sz : Nat) : Met l y_Net_init ws_Net_init ({ frames := 2, cells := 1, slots := 9, locals := 40 }) (va_Pc [.ref h0] (fun U => U.heap.size = sz ∧ va_P D xm_cl [(h0, .inr (3, [.null, .int 0, .int 0, .int 0]))] U.heap ∧ va_K D xm_cl (sd_ty cA) U ∧ va_D (fun _ => True) [(h0, .inr (3, [.null, .int 0, .int 0, .int 0]))])) (va_Qv (fun _ : Unit => True) (fun (_ : Unit) (t : State) => ∃ (q7 : Nat), va_P D xm_cl [(h0, .inr (3, [.ref q7, .int 6, .int 0, .int 0])), (q7, .inl (cA 0, 9, .inl (fun _ => 0)))] t.heap ∧ va_K D xm_cl (sd_ty cA) t ∧ va_D (va_A [(h0, .inr (3, [.null, .int 0, .int 0, .int 0]))] sz) [(h0, .inr (3, [.ref q7, .int 6, .int 0, .int 0])), (q7, .inl (cA 0, 9, .inl (fun _ => 0)))]) (va_A [(h0, .inr (3, [.null, .int 0, .int 0, .int 0]))] sz)) 1 9 (va_A [(h0, .inr (3, [.null, .int 0, .int 0, .int 0]))] sz) := by
  refine Met.ofW (cc := prog_5_method_1_code) (maxL := 1) (ret := none) (by decide) rfl ?_
  intro p e s m args below meth c s₁ B hml hv
  obtain ⟨rfl, hsz, hP, hK, hD0⟩ := hv
  have hx := B.exec
  have hb := B.bytes
  have hr := B.returns
  have hts0 := atoms_spec (ws := ws_Net_init) B.pre
  have hts : ∀ w ∈ sd_tb, w.before ([.ref h0] : List Value).toArray s = true := fun w hw => hts0 w (List.mem_cons_of_mem _ hw)
  have hown : s.vm.findClass "ThroughOthers$Net" = some m.cls := findClass_of_methodNamed B.named
  have hlocks := B.notSynchronized
  have hin : meth.name = "<init>" := (name_of_methodNamed B.named B.method).1
  subst hsz
  have hD := hD0.self (sz := s.heap.size)
  generalize hAe : va_A [(h0, .inr (3, [.null, .int 0, .int 0, .int 0]))] s.heap.size = A at hD ⊢
  have hA : ∀ q : Nat, s.heap.size ≤ q → A q := fun q h => by rw [← hAe]; exact Or.inr h
  have hS : va_S A s.heap s.heap [] := va_S.rf
  have hP : va_P D xm_cl [(h0, .inr (3, [.null, .int 0, .int 0, .int 0]))] s.heap := hP
  have hl := lv_entry ([.ref h0]) (n := 1) (Nat.le_of_ble_eq_true rfl)
  rw [lg_entry_eq]
  generalize (lg_sl ([.ref h0]) ++ List.replicate (1 - (lg_sl ([.ref h0])).length) Slot.unset).toArray = ls at hl ⊢
  have hl : lv_has ls 1 [(0, .ref h0)] := hl
  refine lv_aload_n hx hb dc_Net_0 rfl (lv_at hl 0 rfl) ?_
  refine W.objInit hx hb hown (hts _ cw_0) (hts _ cw_1) (hts _ cw_2) rfl (by rw [hml]; exact hl.1) rfl dc_Net_1 (Nat.le_of_ble_eq_true rfl) (Nat.le_of_ble_eq_true rfl) ?_
  refine W.eq (g2 := F0 m 4 ls []) rfl ?_
  refine lv_aload_n hx hb dc_Net_4 rfl (lv_at hl 0 rfl) ?_
  refine lv_bipush (v := 9) hx hb dc_Net_5 (by decide +kernel) ?_
  refine cn_new (atype := .int) (ty := .int) (a0 := (9, .inl (fun _ => 0))) hx hb (hts _ cw_3) rfl hK 0 rfl (by decide) hP hD hS hA (fun _ => rfl) (by decide +kernel) (by decide +kernel) (Nat.le_of_ble_eq_true rfl) (Nat.le_of_ble_eq_true rfl) (Nat.le_of_ble_eq_true rfl) dc_Net_7 (fun q7 H hP hD hS => ?_)
  have hP : va_P D xm_cl [(h0, .inr (3, [.null, .int 0, .int 0, .int 0])), (q7, .inl (cA 0, 9, .inl (fun _ => 0)))] H := hP
  have hD : va_D A [(h0, .inr (3, [.null, .int 0, .int 0, .int 0])), (q7, .inl (cA 0, 9, .inl (fun _ => 0)))] := hD
  refine W.widen (k := 1) (n := 9) (Nat.le_of_ble_eq_true rfl) (Nat.le_of_ble_eq_true rfl) ?_
  refine va_putF (D := D) (ci := 3) (v := .ref q7) (ty := .array .int) (C := R_3) (T := T_3) (N := 4) hx hb hts (sd_u in_3) ty_3 ty_3_ok nm_3 hown hK hP hD hS 0 rfl rfl 0 (by decide) (hts (Jvm.Cond.fieldLink "ThroughOthers$Net" (11 : Nat) "ThroughOthers$Net" "ties" "[I") cw_4) (fun _ h9 => h9) rfl hin rfl (by decide +kernel) rfl rfl (Nat.le_of_ble_eq_true rfl) dc_Net_9 (fun H locs hP hD hS => ?_)
  have hP : va_P D xm_cl [(h0, .inr (3, [.ref q7, .int 0, .int 0, .int 0])), (q7, .inl (cA 0, 9, .inl (fun _ => 0)))] H := hP
  have hD : va_D A [(h0, .inr (3, [.ref q7, .int 0, .int 0, .int 0])), (q7, .inl (cA 0, 9, .inl (fun _ => 0)))] := hD
  refine lv_aload_n hx hb dc_Net_12 rfl (lv_at hl 0 rfl) ?_
  refine lv_bipush (v := 6) hx hb dc_Net_13 (by decide +kernel) ?_
  refine va_put (D := D) (ci := 3) (v := .int 6) (ty := .int) (C := R_3) (T := T_3) (N := 4) hx hb hts (sd_u in_3) ty_3 ty_3_ok nm_3 hown hK hP hD hS 0 rfl rfl 1 (by decide) (hts (Jvm.Cond.fieldLink "ThroughOthers$Net" (15 : Nat) "ThroughOthers$Net" "size" "I") cw_5) (fun _ h9 => h9) rfl (by decide +kernel) rfl rfl (Nat.le_of_ble_eq_true rfl) dc_Net_15 (fun H locs hP hD hS => ?_)
  have hP : va_P D xm_cl [(h0, .inr (3, [.ref q7, .int 6, .int 0, .int 0])), (q7, .inl (cA 0, 9, .inl (fun _ => 0)))] H := hP
  have hD : va_D A [(h0, .inr (3, [.ref q7, .int 6, .int 0, .int 0])), (q7, .inl (cA 0, 9, .inl (fun _ => 0)))] := hD
  have hP9 := hP.sub (ws' := [(h0, .inr (3, [.ref q7, .int 6, .int 0, .int 0])), (q7, .inl (cA 0, 9, .inl (fun _ => 0)))]) [0, 1] rfl
  have hD9 := hD.sub (ws' := [(h0, .inr (3, [.ref q7, .int 6, .int 0, .int 0])), (q7, .inl (cA 0, 9, .inl (fun _ => 0)))]) [0, 1] (by decide) rfl
  exact W.vret hx hb hr (fun t ht hW => ⟨⟨(), rfl, trivial, q7, by rw [ht]; exact hP9, va_K.moved hW.alike hK, hD9⟩, hS.F ht⟩) hS.2.2 dc_Net_18
def y_Chains_init : MethodName := ⟨"ThroughOthers$Chains", "<init>", "(LThroughOthers$Net;)V"⟩
def ws_Chains_init : List Cond := Cond.code y_Chains_init prog_2_method_1_code 2 none :: sd_tb
theorem dc_Chains_0 : decode prog_2_method_1_code 0 = .ok (.aload_n 0, 1) := by decide +kernel
theorem dc_Chains_1 : decode prog_2_method_1_code 1 = .ok (.invokespecial 3, 3) := by decide +kernel
theorem dc_Chains_4 : decode prog_2_method_1_code 4 = .ok (.aload_n 0, 1) := by decide +kernel
theorem dc_Chains_5 : decode prog_2_method_1_code 5 = .ok (.aload_n 1, 1) := by decide +kernel
theorem dc_Chains_6 : decode prog_2_method_1_code 6 = .ok (.putfield 9, 3) := by decide +kernel
theorem dc_Chains_9 : decode prog_2_method_1_code 9 = .ok (.aload_n 0, 1) := by decide +kernel
theorem dc_Chains_10 : decode prog_2_method_1_code 10 = .ok (.sipush 4608, 3) := by decide +kernel
theorem dc_Chains_13 : decode prog_2_method_1_code 13 = .ok (.newarray .long, 2) := by decide +kernel
theorem dc_Chains_15 : decode prog_2_method_1_code 15 = .ok (.putfield 17, 3) := by decide +kernel
theorem dc_Chains_18 : decode prog_2_method_1_code 18 = .ok (.aload_n 0, 1) := by decide +kernel
theorem dc_Chains_19 : decode prog_2_method_1_code 19 = .ok (.sipush 512, 3) := by decide +kernel
theorem dc_Chains_22 : decode prog_2_method_1_code 22 = .ok (.newarray .long, 2) := by decide +kernel
theorem dc_Chains_24 : decode prog_2_method_1_code 24 = .ok (.putfield 21, 3) := by decide +kernel
theorem dc_Chains_27 : decode prog_2_method_1_code 27 = .ok (.aload_n 0, 1) := by decide +kernel
theorem dc_Chains_28 : decode prog_2_method_1_code 28 = .ok (.iconst (-1), 1) := by decide +kernel
theorem dc_Chains_29 : decode prog_2_method_1_code 29 = .ok (.putfield 24, 3) := by decide +kernel
theorem dc_Chains_32 : decode prog_2_method_1_code 32 = .ok (.return_, 1) := by decide +kernel
theorem gi_Chains : GoodIn sd_tb ws_Chains_init := cn_good (sd_in (List.mem_of_getElem? (i := 106) (by decide +kernel)) rfl)
set_option maxHeartbeats 4000000 in
set_option maxRecDepth 100000 in
theorem cn_Chains (l : Launch) (D : va_G) (cA : Nat → ClassId) (h0 : Nat) (n1 : Nat) (sz : Nat) : Met l y_Chains_init ws_Chains_init ({ frames := 2, cells := 2, slots := 5120, locals := 40 }) (va_Pc [.ref h0, .ref n1] (fun U => U.heap.size = sz ∧ va_P D xm_cl [(h0, .inr (0, [.null, .null, .null, .int 0, .int 0, .int 0, .long 0]))] U.heap ∧ va_K D xm_cl (sd_ty cA) U ∧ va_D (fun _ => True) [(h0, .inr (0, [.null, .null, .null, .int 0, .int 0, .int 0, .long 0]))])) (va_Qv (fun _ : Unit => True) (fun (_ : Unit) (t : State) => ∃ (q13 q22 : Nat), va_P D xm_cl [(h0, .inr (0, [.ref n1, .ref q13, .ref q22, .int (-1), .int 0, .int 0, .long 0])), (q13, .inl (cA 1, 4608, .inr (.inl (fun _ => 0)))), (q22, .inl (cA 1, 512, .inr (.inl (fun _ => 0))))] t.heap ∧ va_K D xm_cl (sd_ty cA) t ∧ va_D (va_A [(h0, .inr (0, [.null, .null, .null, .int 0, .int 0, .int 0, .long 0]))] sz) [(h0, .inr (0, [.ref n1, .ref q13, .ref q22, .int (-1), .int 0, .int 0, .long 0])), (q13, .inl (cA 1, 4608, .inr (.inl (fun _ => 0)))), (q22, .inl (cA 1, 512, .inr (.inl (fun _ => 0))))]) (va_A [(h0, .inr (0, [.null, .null, .null, .int 0, .int 0, .int 0, .long 0]))] sz)) 2 5120 (va_A [(h0, .inr (0, [.null, .null, .null, .int 0, .int 0, .int 0, .long 0]))] sz) := by
  refine Met.ofW (cc := prog_2_method_1_code) (maxL := 2) (ret := none) (by decide) rfl ?_
  intro p e s m args below meth c s₁ B hml hv
  obtain ⟨rfl, hsz, hP, hK, hD0⟩ := hv
  have hx := B.exec
  have hb := B.bytes
  have hr := B.returns
  have hts0 := atoms_spec (ws := ws_Chains_init) B.pre
  have hts : ∀ w ∈ sd_tb, w.before ([.ref h0, .ref n1] : List Value).toArray s = true := fun w hw => hts0 w (List.mem_cons_of_mem _ hw)
  have hown : s.vm.findClass "ThroughOthers$Chains" = some m.cls := findClass_of_methodNamed B.named
  have hlocks := B.notSynchronized
  have hin : meth.name = "<init>" := (name_of_methodNamed B.named B.method).1
  subst hsz
  have hD := hD0.self (sz := s.heap.size)
  generalize hAe : va_A [(h0, .inr (0, [.null, .null, .null, .int 0, .int 0, .int 0, .long 0]))] s.heap.size = A at hD ⊢
  have hA : ∀ q : Nat, s.heap.size ≤ q → A q := fun q h => by rw [← hAe]; exact Or.inr h
  have hS : va_S A s.heap s.heap [] := va_S.rf
  have hP : va_P D xm_cl [(h0, .inr (0, [.null, .null, .null, .int 0, .int 0, .int 0, .long 0]))] s.heap := hP
  have hl := lv_entry ([.ref h0, .ref n1]) (n := 2) (Nat.le_of_ble_eq_true rfl)
  rw [lg_entry_eq]
  generalize (lg_sl ([.ref h0, .ref n1]) ++ List.replicate (2 - (lg_sl ([.ref h0, .ref n1])).length) Slot.unset).toArray = ls at hl ⊢
  have hl : lv_has ls 2 [(0, .ref h0), (1, .ref n1)] := hl
  refine lv_aload_n hx hb dc_Chains_0 rfl (lv_at hl 0 rfl) ?_
  refine W.objInit hx hb hown (hts _ cw_6) (hts _ cw_1) (hts _ cw_2) rfl (by rw [hml]; exact hl.1) rfl dc_Chains_1 (Nat.le_of_ble_eq_true rfl) (Nat.le_of_ble_eq_true rfl) ?_
  refine W.eq (g2 := F0 m 4 ls []) rfl ?_
  refine lv_aload_n hx hb dc_Chains_4 rfl (lv_at hl 0 rfl) ?_
  refine lv_aload_n hx hb dc_Chains_5 rfl (lv_at hl 1 rfl) ?_
  refine va_putF (D := D) (ci := 0) (v := .ref n1) (ty := .object "ThroughOthers$Net") (C := R_0) (T := T_0) (N := 7) hx hb hts (sd_u in_0) ty_0 ty_0_ok nm_0 hown hK hP hD hS 0 rfl rfl 0 (by decide) (hts (Jvm.Cond.fieldLink "ThroughOthers$Chains" (9 : Nat) "ThroughOthers$Chains" "net" "LThroughOthers$Net;") cw_7) (fun _ h9 => h9) rfl hin rfl (by decide +kernel) rfl rfl (Nat.le_of_ble_eq_true rfl) dc_Chains_6 (fun H locs hP hD hS => ?_)
  have hP : va_P D xm_cl [(h0, .inr (0, [.ref n1, .null, .null, .int 0, .int 0, .int 0, .long 0]))] H := hP
  have hD : va_D A [(h0, .inr (0, [.ref n1, .null, .null, .int 0, .int 0, .int 0, .long 0]))] := hD
  refine lv_aload_n hx hb dc_Chains_9 rfl (lv_at hl 0 rfl) ?_
  refine lv_sipush (v := 4608) hx hb dc_Chains_10 (by decide +kernel) ?_
  refine cn_new (atype := .long) (ty := .long) (a0 := (4608, .inr (.inl (fun _ => 0)))) hx hb (hts _ cw_8) rfl hK 1 rfl (by decide) hP hD hS hA (fun _ => rfl) (by decide +kernel) (by decide +kernel) (Nat.le_of_ble_eq_true rfl) (Nat.le_of_ble_eq_true rfl) (Nat.le_of_ble_eq_true rfl) dc_Chains_13 (fun q13 H hP hD hS => ?_)
  have hP : va_P D xm_cl [(h0, .inr (0, [.ref n1, .null, .null, .int 0, .int 0, .int 0, .long 0])), (q13, .inl (cA 1, 4608, .inr (.inl (fun _ => 0))))] H := hP
  have hD : va_D A [(h0, .inr (0, [.ref n1, .null, .null, .int 0, .int 0, .int 0, .long 0])), (q13, .inl (cA 1, 4608, .inr (.inl (fun _ => 0))))] := hD
  refine W.widen (k := 1) (n := 4608) (Nat.le_of_ble_eq_true rfl) (Nat.le_of_ble_eq_true rfl) ?_
  refine va_putF (D := D) (ci := 0) (v := .ref q13) (ty := .array .long) (C := R_0) (T := T_0) (N := 7) hx hb hts (sd_u in_0) ty_0 ty_0_ok nm_0 hown hK hP hD hS 0 rfl rfl 1 (by decide) (hts (Jvm.Cond.fieldLink "ThroughOthers$Chains" (17 : Nat) "ThroughOthers$Chains" "going" "[J") cw_9) (fun _ h9 => h9) rfl hin rfl (by decide +kernel) rfl rfl (Nat.le_of_ble_eq_true rfl) dc_Chains_15 (fun H locs hP hD hS => ?_)
  have hP : va_P D xm_cl [(h0, .inr (0, [.ref n1, .ref q13, .null, .int 0, .int 0, .int 0, .long 0])), (q13, .inl (cA 1, 4608, .inr (.inl (fun _ => 0))))] H := hP
  have hD : va_D A [(h0, .inr (0, [.ref n1, .ref q13, .null, .int 0, .int 0, .int 0, .long 0])), (q13, .inl (cA 1, 4608, .inr (.inl (fun _ => 0))))] := hD
  refine lv_aload_n hx hb dc_Chains_18 rfl (lv_at hl 0 rfl) ?_
  refine lv_sipush (v := 512) hx hb dc_Chains_19 (by decide +kernel) ?_
  refine cn_new (atype := .long) (ty := .long) (a0 := (512, .inr (.inl (fun _ => 0)))) hx hb (hts _ cw_8) rfl hK 1 rfl (by decide) hP hD hS hA (fun _ => rfl) (by decide +kernel) (by decide +kernel) (Nat.le_of_ble_eq_true rfl) (Nat.le_of_ble_eq_true rfl) (Nat.le_of_ble_eq_true rfl) dc_Chains_22 (fun q22 H hP hD hS => ?_)
  have hP : va_P D xm_cl [(h0, .inr (0, [.ref n1, .ref q13, .null, .int 0, .int 0, .int 0, .long 0])), (q13, .inl (cA 1, 4608, .inr (.inl (fun _ => 0)))), (q22, .inl (cA 1, 512, .inr (.inl (fun _ => 0))))] H := hP
  have hD : va_D A [(h0, .inr (0, [.ref n1, .ref q13, .null, .int 0, .int 0, .int 0, .long 0])), (q13, .inl (cA 1, 4608, .inr (.inl (fun _ => 0)))), (q22, .inl (cA 1, 512, .inr (.inl (fun _ => 0))))] := hD
  refine W.widen (k := 2) (n := 5120) (Nat.le_of_ble_eq_true rfl) (Nat.le_of_ble_eq_true rfl) ?_
  refine va_putF (D := D) (ci := 0) (v := .ref q22) (ty := .array .long) (C := R_0) (T := T_0) (N := 7) hx hb hts (sd_u in_0) ty_0 ty_0_ok nm_0 hown hK hP hD hS 0 rfl rfl 2 (by decide) (hts (Jvm.Cond.fieldLink "ThroughOthers$Chains" (21 : Nat) "ThroughOthers$Chains" "ended" "[J") cw_10) (fun _ h9 => h9) rfl hin rfl (by decide +kernel) rfl rfl (Nat.le_of_ble_eq_true rfl) dc_Chains_24 (fun H locs hP hD hS => ?_)
  have hP : va_P D xm_cl [(h0, .inr (0, [.ref n1, .ref q13, .ref q22, .int 0, .int 0, .int 0, .long 0])), (q13, .inl (cA 1, 4608, .inr (.inl (fun _ => 0)))), (q22, .inl (cA 1, 512, .inr (.inl (fun _ => 0))))] H := hP
  have hD : va_D A [(h0, .inr (0, [.ref n1, .ref q13, .ref q22, .int 0, .int 0, .int 0, .long 0])), (q13, .inl (cA 1, 4608, .inr (.inl (fun _ => 0)))), (q22, .inl (cA 1, 512, .inr (.inl (fun _ => 0))))] := hD
  refine lv_aload_n hx hb dc_Chains_27 rfl (lv_at hl 0 rfl) ?_
  refine lv_iconst (v := (-1)) hx hb dc_Chains_28 (by decide +kernel) ?_
  refine va_put (D := D) (ci := 0) (v := .int (-1)) (ty := .int) (C := R_0) (T := T_0) (N := 7) hx hb hts (sd_u in_0) ty_0 ty_0_ok nm_0 hown hK hP hD hS 0 rfl rfl 3 (by decide) (hts (Jvm.Cond.fieldLink "ThroughOthers$Chains" (24 : Nat) "ThroughOthers$Chains" "followedChanges" "I") cw_11) (fun _ h9 => h9) rfl (by decide +kernel) rfl rfl (Nat.le_of_ble_eq_true rfl) dc_Chains_29 (fun H locs hP hD hS => ?_)
  have hP : va_P D xm_cl [(h0, .inr (0, [.ref n1, .ref q13, .ref q22, .int (-1), .int 0, .int 0, .long 0])), (q13, .inl (cA 1, 4608, .inr (.inl (fun _ => 0)))), (q22, .inl (cA 1, 512, .inr (.inl (fun _ => 0))))] H := hP
  have hD : va_D A [(h0, .inr (0, [.ref n1, .ref q13, .ref q22, .int (-1), .int 0, .int 0, .long 0])), (q13, .inl (cA 1, 4608, .inr (.inl (fun _ => 0)))), (q22, .inl (cA 1, 512, .inr (.inl (fun _ => 0))))] := hD
  have hP9 := hP.sub (ws' := [(h0, .inr (0, [.ref n1, .ref q13, .ref q22, .int (-1), .int 0, .int 0, .long 0])), (q13, .inl (cA 1, 4608, .inr (.inl (fun _ => 0)))), (q22, .inl (cA 1, 512, .inr (.inl (fun _ => 0))))]) [0, 1, 2] rfl
  have hD9 := hD.sub (ws' := [(h0, .inr (0, [.ref n1, .ref q13, .ref q22, .int (-1), .int 0, .int 0, .long 0])), (q13, .inl (cA 1, 4608, .inr (.inl (fun _ => 0)))), (q22, .inl (cA 1, 512, .inr (.inl (fun _ => 0))))]) [0, 1, 2] (by decide) rfl
  exact W.vret hx hb hr (fun t ht hW => ⟨⟨(), rfl, trivial, q13, q22, by rw [ht]; exact hP9, va_K.moved hW.alike hK, hD9⟩, hS.F ht⟩) hS.2.2 dc_Chains_32
def y_Walk_init : MethodName := ⟨"ThroughOthers$Walk", "<init>", "(LThroughOthers$Net;)V"⟩
def ws_Walk_init : List Cond := Cond.code y_Walk_init prog_9_method_1_code 2 none :: sd_tb
theorem dc_Walk_0 : decode prog_9_method_1_code 0 = .ok (.aload_n 0, 1) := by decide +kernel
theorem dc_Walk_1 : decode prog_9_method_1_code 1 = .ok (.invokespecial 3, 3) := by decide +kernel
theorem dc_Walk_4 : decode prog_9_method_1_code 4 = .ok (.aload_n 0, 1) := by decide +kernel
theorem dc_Walk_5 : decode prog_9_method_1_code 5 = .ok (.aload_n 1, 1) := by decide +kernel
theorem dc_Walk_6 : decode prog_9_method_1_code 6 = .ok (.putfield 9, 3) := by decide +kernel
theorem dc_Walk_9 : decode prog_9_method_1_code 9 = .ok (.aload_n 0, 1) := by decide +kernel
theorem dc_Walk_10 : decode prog_9_method_1_code 10 = .ok (.bipush 9, 2) := by decide +kernel
theorem dc_Walk_12 : decode prog_9_method_1_code 12 = .ok (.newarray .long, 2) := by decide +kernel
theorem dc_Walk_14 : decode prog_9_method_1_code 14 = .ok (.putfield 17, 3) := by decide +kernel
theorem dc_Walk_17 : decode prog_9_method_1_code 17 = .ok (.aload_n 0, 1) := by decide +kernel
theorem dc_Walk_18 : decode prog_9_method_1_code 18 = .ok (.bipush 9, 2) := by decide +kernel
theorem dc_Walk_20 : decode prog_9_method_1_code 20 = .ok (.newarray .long, 2) := by decide +kernel
theorem dc_Walk_22 : decode prog_9_method_1_code 22 = .ok (.putfield 21, 3) := by decide +kernel
theorem dc_Walk_25 : decode prog_9_method_1_code 25 = .ok (.return_, 1) := by decide +kernel
theorem gi_Walk : GoodIn sd_tb ws_Walk_init := cn_good (sd_in (List.mem_of_getElem? (i := 136) (by decide +kernel)) rfl)
set_option maxHeartbeats 4000000 in
set_option maxRecDepth 100000 in
theorem cn_Walk (l : Launch) (D : va_G) (cA : Nat → ClassId) (h0 : Nat) (n1 : Nat) (sz : Nat) : Met l y_Walk_init ws_Walk_init ({ frames := 2, cells := 2, slots := 18, locals := 40 }) (va_Pc [.ref h0, .ref n1] (fun U => U.heap.size = sz ∧ va_P D xm_cl [(h0, .inr (7, [.null, .null, .null, .long 0]))] U.heap ∧ va_K D xm_cl (sd_ty cA) U ∧ va_D (fun _ => True) [(h0, .inr (7, [.null, .null, .null, .long 0]))])) (va_Qv (fun _ : Unit => True) (fun (_ : Unit) (t : State) => ∃ (q20 q12 : Nat), va_P D xm_cl [(h0, .inr (7, [.ref n1, .ref q20, .ref q12, .long 0])), (q20, .inl (cA 1, 9, .inr (.inl (fun _ => 0)))), (q12, .inl (cA 1, 9, .inr (.inl (fun _ => 0))))] t.heap ∧ va_K D xm_cl (sd_ty cA) t ∧ va_D (va_A [(h0, .inr (7, [.null, .null, .null, .long 0]))] sz) [(h0, .inr (7, [.ref n1, .ref q20, .ref q12, .long 0])), (q20, .inl (cA 1, 9, .inr (.inl (fun _ => 0)))), (q12, .inl (cA 1, 9, .inr (.inl (fun _ => 0))))]) (va_A [(h0, .inr (7, [.null, .null, .null, .long 0]))] sz)) 2 18 (va_A [(h0, .inr (7, [.null, .null, .null, .long 0]))] sz) := by
  refine Met.ofW (cc := prog_9_method_1_code) (maxL := 2) (ret := none) (by decide) rfl ?_
  intro p e s m args below meth c s₁ B hml hv
  obtain ⟨rfl, hsz, hP, hK, hD0⟩ := hv
  have hx := B.exec
  have hb := B.bytes
  have hr := B.returns
  have hts0 := atoms_spec (ws := ws_Walk_init) B.pre
  have hts : ∀ w ∈ sd_tb, w.before ([.ref h0, .ref n1] : List Value).toArray s = true := fun w hw => hts0 w (List.mem_cons_of_mem _ hw)
  have hown : s.vm.findClass "ThroughOthers$Walk" = some m.cls := findClass_of_methodNamed B.named
  have hlocks := B.notSynchronized
  have hin : meth.name = "<init>" := (name_of_methodNamed B.named B.method).1
  subst hsz
  have hD := hD0.self (sz := s.heap.size)
  generalize hAe : va_A [(h0, .inr (7, [.null, .null, .null, .long 0]))] s.heap.size = A at hD ⊢
  have hA : ∀ q : Nat, s.heap.size ≤ q → A q := fun q h => by rw [← hAe]; exact Or.inr h
  have hS : va_S A s.heap s.heap [] := va_S.rf
  have hP : va_P D xm_cl [(h0, .inr (7, [.null, .null, .null, .long 0]))] s.heap := hP
  have hl := lv_entry ([.ref h0, .ref n1]) (n := 2) (Nat.le_of_ble_eq_true rfl)
  rw [lg_entry_eq]
  generalize (lg_sl ([.ref h0, .ref n1]) ++ List.replicate (2 - (lg_sl ([.ref h0, .ref n1])).length) Slot.unset).toArray = ls at hl ⊢
  have hl : lv_has ls 2 [(0, .ref h0), (1, .ref n1)] := hl
  refine lv_aload_n hx hb dc_Walk_0 rfl (lv_at hl 0 rfl) ?_
  refine W.objInit hx hb hown (hts _ cw_12) (hts _ cw_1) (hts _ cw_2) rfl (by rw [hml]; exact hl.1) rfl dc_Walk_1 (Nat.le_of_ble_eq_true rfl) (Nat.le_of_ble_eq_true rfl) ?_
  refine W.eq (g2 := F0 m 4 ls []) rfl ?_
  refine lv_aload_n hx hb dc_Walk_4 rfl (lv_at hl 0 rfl) ?_
  refine lv_aload_n hx hb dc_Walk_5 rfl (lv_at hl 1 rfl) ?_
  refine va_putF (D := D) (ci := 7) (v := .ref n1) (ty := .object "ThroughOthers$Net") (C := R_7) (T := T_7) (N := 4) hx hb hts (sd_u in_7) ty_7 ty_7_ok nm_7 hown hK hP hD hS 0 rfl rfl 0 (by decide) (hts (Jvm.Cond.fieldLink "ThroughOthers$Walk" (9 : Nat) "ThroughOthers$Walk" "net" "LThroughOthers$Net;") cw_13) (fun _ h9 => h9) rfl hin rfl (by decide +kernel) rfl rfl (Nat.le_of_ble_eq_true rfl) dc_Walk_6 (fun H locs hP hD hS => ?_)
  have hP : va_P D xm_cl [(h0, .inr (7, [.ref n1, .null, .null, .long 0]))] H := hP
  have hD : va_D A [(h0, .inr (7, [.ref n1, .null, .null, .long 0]))] := hD
  refine lv_aload_n hx hb dc_Walk_9 rfl (lv_at hl 0 rfl) ?_
  refine lv_bipush (v := 9) hx hb dc_Walk_10 (by decide +kernel) ?_
  refine cn_new (atype := .long) (ty := .long) (a0 := (9, .inr (.inl (fun _ => 0)))) hx hb (hts _ cw_8) rfl hK 1 rfl (by decide) hP hD hS hA (fun _ => rfl) (by decide +kernel) (by decide +kernel) (Nat.le_of_ble_eq_true rfl) (Nat.le_of_ble_eq_true rfl) (Nat.le_of_ble_eq_true rfl) dc_Walk_12 (fun q12 H hP hD hS => ?_)
  have hP : va_P D xm_cl [(h0, .inr (7, [.ref n1, .null, .null, .long 0])), (q12, .inl (cA 1, 9, .inr (.inl (fun _ => 0))))] H := hP
  have hD : va_D A [(h0, .inr (7, [.ref n1, .null, .null, .long 0])), (q12, .inl (cA 1, 9, .inr (.inl (fun _ => 0))))] := hD
  refine W.widen (k := 1) (n := 9) (Nat.le_of_ble_eq_true rfl) (Nat.le_of_ble_eq_true rfl) ?_
  refine va_putF (D := D) (ci := 7) (v := .ref q12) (ty := .array .long) (C := R_7) (T := T_7) (N := 4) hx hb hts (sd_u in_7) ty_7 ty_7_ok nm_7 hown hK hP hD hS 0 rfl rfl 2 (by decide) (hts (Jvm.Cond.fieldLink "ThroughOthers$Walk" (17 : Nat) "ThroughOthers$Walk" "now" "[J") cw_14) (fun _ h9 => h9) rfl hin rfl (by decide +kernel) rfl rfl (Nat.le_of_ble_eq_true rfl) dc_Walk_14 (fun H locs hP hD hS => ?_)
  have hP : va_P D xm_cl [(h0, .inr (7, [.ref n1, .null, .ref q12, .long 0])), (q12, .inl (cA 1, 9, .inr (.inl (fun _ => 0))))] H := hP
  have hD : va_D A [(h0, .inr (7, [.ref n1, .null, .ref q12, .long 0])), (q12, .inl (cA 1, 9, .inr (.inl (fun _ => 0))))] := hD
  refine lv_aload_n hx hb dc_Walk_17 rfl (lv_at hl 0 rfl) ?_
  refine lv_bipush (v := 9) hx hb dc_Walk_18 (by decide +kernel) ?_
  refine cn_new (atype := .long) (ty := .long) (a0 := (9, .inr (.inl (fun _ => 0)))) hx hb (hts _ cw_8) rfl hK 1 rfl (by decide) hP hD hS hA (fun _ => rfl) (by decide +kernel) (by decide +kernel) (Nat.le_of_ble_eq_true rfl) (Nat.le_of_ble_eq_true rfl) (Nat.le_of_ble_eq_true rfl) dc_Walk_20 (fun q20 H hP hD hS => ?_)
  have hP : va_P D xm_cl [(h0, .inr (7, [.ref n1, .null, .ref q12, .long 0])), (q12, .inl (cA 1, 9, .inr (.inl (fun _ => 0)))), (q20, .inl (cA 1, 9, .inr (.inl (fun _ => 0))))] H := hP
  have hD : va_D A [(h0, .inr (7, [.ref n1, .null, .ref q12, .long 0])), (q12, .inl (cA 1, 9, .inr (.inl (fun _ => 0)))), (q20, .inl (cA 1, 9, .inr (.inl (fun _ => 0))))] := hD
  refine W.widen (k := 2) (n := 18) (Nat.le_of_ble_eq_true rfl) (Nat.le_of_ble_eq_true rfl) ?_
  refine va_putF (D := D) (ci := 7) (v := .ref q20) (ty := .array .long) (C := R_7) (T := T_7) (N := 4) hx hb hts (sd_u in_7) ty_7 ty_7_ok nm_7 hown hK hP hD hS 0 rfl rfl 1 (by decide) (hts (Jvm.Cond.fieldLink "ThroughOthers$Walk" (21 : Nat) "ThroughOthers$Walk" "next" "[J") cw_15) (fun _ h9 => h9) rfl hin rfl (by decide +kernel) rfl rfl (Nat.le_of_ble_eq_true rfl) dc_Walk_22 (fun H locs hP hD hS => ?_)
  have hP : va_P D xm_cl [(h0, .inr (7, [.ref n1, .ref q20, .ref q12, .long 0])), (q12, .inl (cA 1, 9, .inr (.inl (fun _ => 0)))), (q20, .inl (cA 1, 9, .inr (.inl (fun _ => 0))))] H := hP
  have hD : va_D A [(h0, .inr (7, [.ref n1, .ref q20, .ref q12, .long 0])), (q12, .inl (cA 1, 9, .inr (.inl (fun _ => 0)))), (q20, .inl (cA 1, 9, .inr (.inl (fun _ => 0))))] := hD
  have hP9 := hP.sub (ws' := [(h0, .inr (7, [.ref n1, .ref q20, .ref q12, .long 0])), (q20, .inl (cA 1, 9, .inr (.inl (fun _ => 0)))), (q12, .inl (cA 1, 9, .inr (.inl (fun _ => 0))))]) [0, 2, 1] rfl
  have hD9 := hD.sub (ws' := [(h0, .inr (7, [.ref n1, .ref q20, .ref q12, .long 0])), (q20, .inl (cA 1, 9, .inr (.inl (fun _ => 0)))), (q12, .inl (cA 1, 9, .inr (.inl (fun _ => 0))))]) [0, 2, 1] (by decide) rfl
  exact W.vret hx hb hr (fun t ht hW => ⟨⟨(), rfl, trivial, q20, q12, by rw [ht]; exact hP9, va_K.moved hW.alike hK, hD9⟩, hS.F ht⟩) hS.2.2 dc_Walk_25
def y_Records_init : MethodName := ⟨"ThroughOthers$Records", "<init>", "()V"⟩
def ws_Records_init : List Cond := Cond.code y_Records_init prog_6_method_1_code 1 none :: sd_tb
theorem dc_Records_0 : decode prog_6_method_1_code 0 = .ok (.aload_n 0, 1) := by decide +kernel
theorem dc_Records_1 : decode prog_6_method_1_code 1 = .ok (.invokespecial 3, 3) := by decide +kernel
theorem dc_Records_4 : decode prog_6_method_1_code 4 = .ok (.aload_n 0, 1) := by decide +kernel
theorem dc_Records_5 : decode prog_6_method_1_code 5 = .ok (.bipush 24, 2) := by decide +kernel
theorem dc_Records_7 : decode prog_6_method_1_code 7 = .ok (.newarray .int, 2) := by decide +kernel
theorem dc_Records_9 : decode prog_6_method_1_code 9 = .ok (.putfield 11, 3) := by decide +kernel
theorem dc_Records_12 : decode prog_6_method_1_code 12 = .ok (.aload_n 0, 1) := by decide +kernel
theorem dc_Records_13 : decode prog_6_method_1_code 13 = .ok (.bipush 24, 2) := by decide +kernel
theorem dc_Records_15 : decode prog_6_method_1_code 15 = .ok (.newarray .int, 2) := by decide +kernel
theorem dc_Records_17 : decode prog_6_method_1_code 17 = .ok (.putfield 15, 3) := by decide +kernel
theorem dc_Records_20 : decode prog_6_method_1_code 20 = .ok (.aload_n 0, 1) := by decide +kernel
theorem dc_Records_21 : decode prog_6_method_1_code 21 = .ok (.bipush 24, 2) := by decide +kernel
theorem dc_Records_23 : decode prog_6_method_1_code 23 = .ok (.newarray .int, 2) := by decide +kernel
theorem dc_Records_25 : decode prog_6_method_1_code 25 = .ok (.putfield 18, 3) := by decide +kernel
theorem dc_Records_28 : decode prog_6_method_1_code 28 = .ok (.aload_n 0, 1) := by decide +kernel
theorem dc_Records_29 : decode prog_6_method_1_code 29 = .ok (.bipush 24, 2) := by decide +kernel
theorem dc_Records_31 : decode prog_6_method_1_code 31 = .ok (.newarray .int, 2) := by decide +kernel
theorem dc_Records_33 : decode prog_6_method_1_code 33 = .ok (.putfield 21, 3) := by decide +kernel
theorem dc_Records_36 : decode prog_6_method_1_code 36 = .ok (.aload_n 0, 1) := by decide +kernel
theorem dc_Records_37 : decode prog_6_method_1_code 37 = .ok (.bipush 24, 2) := by decide +kernel
theorem dc_Records_39 : decode prog_6_method_1_code 39 = .ok (.newarray .int, 2) := by decide +kernel
theorem dc_Records_41 : decode prog_6_method_1_code 41 = .ok (.putfield 24, 3) := by decide +kernel
theorem dc_Records_44 : decode prog_6_method_1_code 44 = .ok (.aload_n 0, 1) := by decide +kernel
theorem dc_Records_45 : decode prog_6_method_1_code 45 = .ok (.bipush 24, 2) := by decide +kernel
theorem dc_Records_47 : decode prog_6_method_1_code 47 = .ok (.newarray .int, 2) := by decide +kernel
theorem dc_Records_49 : decode prog_6_method_1_code 49 = .ok (.putfield 27, 3) := by decide +kernel
theorem dc_Records_52 : decode prog_6_method_1_code 52 = .ok (.aload_n 0, 1) := by decide +kernel
theorem dc_Records_53 : decode prog_6_method_1_code 53 = .ok (.bipush 24, 2) := by decide +kernel
theorem dc_Records_55 : decode prog_6_method_1_code 55 = .ok (.newarray .int, 2) := by decide +kernel
theorem dc_Records_57 : decode prog_6_method_1_code 57 = .ok (.putfield 30, 3) := by decide +kernel
theorem dc_Records_60 : decode prog_6_method_1_code 60 = .ok (.aload_n 0, 1) := by decide +kernel
theorem dc_Records_61 : decode prog_6_method_1_code 61 = .ok (.bipush 24, 2) := by decide +kernel
theorem dc_Records_63 : decode prog_6_method_1_code 63 = .ok (.newarray .int, 2) := by decide +kernel
theorem dc_Records_65 : decode prog_6_method_1_code 65 = .ok (.putfield 33, 3) := by decide +kernel
theorem dc_Records_68 : decode prog_6_method_1_code 68 = .ok (.aload_n 0, 1) := by decide +kernel
theorem dc_Records_69 : decode prog_6_method_1_code 69 = .ok (.bipush 24, 2) := by decide +kernel
theorem dc_Records_71 : decode prog_6_method_1_code 71 = .ok (.newarray .boolean, 2) := by decide +kernel
theorem dc_Records_73 : decode prog_6_method_1_code 73 = .ok (.putfield 36, 3) := by decide +kernel
theorem dc_Records_76 : decode prog_6_method_1_code 76 = .ok (.aload_n 0, 1) := by decide +kernel
theorem dc_Records_77 : decode prog_6_method_1_code 77 = .ok (.bipush 99, 2) := by decide +kernel
theorem dc_Records_79 : decode prog_6_method_1_code 79 = .ok (.putfield 40, 3) := by decide +kernel
theorem dc_Records_82 : decode prog_6_method_1_code 82 = .ok (.return_, 1) := by decide +kernel
theorem gi_Records : GoodIn sd_tb ws_Records_init := cn_good (sd_in (List.mem_of_getElem? (i := 157) (by decide +kernel)) rfl)
set_option maxHeartbeats 4000000 in
set_option maxRecDepth 100000 in
theorem cn_Records (l : Launch) (D : va_G) (cA : Nat → ClassId) (h0 : Nat) (sz : Nat) : Met l y_Records_init ws_Records_init ({ frames := 2, cells := 9, slots := 216, locals := 40 }) (va_Pc [.ref h0] (fun U => U.heap.size = sz ∧ va_P D xm_cl [(h0, .inr (4, [.null, .null, .null, .null, .null, .null, .null, .null, .null, .int 0, .int 0, .int 0, .int 0]))] U.heap ∧ va_K D xm_cl (sd_ty cA) U ∧ va_D (fun _ => True) [(h0, .inr (4, [.null, .null, .null, .null, .null, .null, .null, .null, .null, .int 0, .int 0, .int 0, .int 0]))])) (va_Qv (fun _ : Unit => True) (fun (_ : Unit) (t : State) => ∃ (q7 q15 q23 q31 q39 q47 q55 q63 q71 : Nat), va_P D xm_cl [(h0, .inr (4, [.ref q7, .ref q15, .ref q23, .ref q31, .ref q39, .ref q47, .ref q55, .ref q63, .ref q71, .int 0, .int 0, .int 99, .int 0])), (q7, .inl (cA 0, 24, .inl (fun _ => 0))), (q15, .inl (cA 0, 24, .inl (fun _ => 0))), (q23, .inl (cA 0, 24, .inl (fun _ => 0))), (q31, .inl (cA 0, 24, .inl (fun _ => 0))), (q39, .inl (cA 0, 24, .inl (fun _ => 0))), (q47, .inl (cA 0, 24, .inl (fun _ => 0))), (q55, .inl (cA 0, 24, .inl (fun _ => 0))), (q63, .inl (cA 0, 24, .inl (fun _ => 0))), (q71, .inl (cA 2, 24, .inl (fun _ => 0)))] t.heap ∧ va_K D xm_cl (sd_ty cA) t ∧ va_D (va_A [(h0, .inr (4, [.null, .null, .null, .null, .null, .null, .null, .null, .null, .int 0, .int 0, .int 0, .int 0]))] sz) [(h0, .inr (4, [.ref q7, .ref q15, .ref q23, .ref q31, .ref q39, .ref q47, .ref q55, .ref q63, .ref q71, .int 0, .int 0, .int 99, .int 0])), (q7, .inl (cA 0, 24, .inl (fun _ => 0))), (q15, .inl (cA 0, 24, .inl (fun _ => 0))), (q23, .inl (cA 0, 24, .inl (fun _ => 0))), (q31, .inl (cA 0, 24, .inl (fun _ => 0))), (q39, .inl (cA 0, 24, .inl (fun _ => 0))), (q47, .inl (cA 0, 24, .inl (fun _ => 0))), (q55, .inl (cA 0, 24, .inl (fun _ => 0))), (q63, .inl (cA 0, 24, .inl (fun _ => 0))), (q71, .inl (cA 2, 24, .inl (fun _ => 0)))]) (va_A [(h0, .inr (4, [.null, .null, .null, .null, .null, .null, .null, .null, .null, .int 0, .int 0, .int 0, .int 0]))] sz)) 9 216 (va_A [(h0, .inr (4, [.null, .null, .null, .null, .null, .null, .null, .null, .null, .int 0, .int 0, .int 0, .int 0]))] sz) := by
  refine Met.ofW (cc := prog_6_method_1_code) (maxL := 1) (ret := none) (by decide) rfl ?_
  intro p e s m args below meth c s₁ B hml hv
  obtain ⟨rfl, hsz, hP, hK, hD0⟩ := hv
  have hx := B.exec
  have hb := B.bytes
  have hr := B.returns
  have hts0 := atoms_spec (ws := ws_Records_init) B.pre
  have hts : ∀ w ∈ sd_tb, w.before ([.ref h0] : List Value).toArray s = true := fun w hw => hts0 w (List.mem_cons_of_mem _ hw)
  have hown : s.vm.findClass "ThroughOthers$Records" = some m.cls := findClass_of_methodNamed B.named
  have hlocks := B.notSynchronized
  have hin : meth.name = "<init>" := (name_of_methodNamed B.named B.method).1
  subst hsz
  have hD := hD0.self (sz := s.heap.size)
  generalize hAe : va_A [(h0, .inr (4, [.null, .null, .null, .null, .null, .null, .null, .null, .null, .int 0, .int 0, .int 0, .int 0]))] s.heap.size = A at hD ⊢
  have hA : ∀ q : Nat, s.heap.size ≤ q → A q := fun q h => by rw [← hAe]; exact Or.inr h
  have hS : va_S A s.heap s.heap [] := va_S.rf
  have hP : va_P D xm_cl [(h0, .inr (4, [.null, .null, .null, .null, .null, .null, .null, .null, .null, .int 0, .int 0, .int 0, .int 0]))] s.heap := hP
  have hl := lv_entry ([.ref h0]) (n := 1) (Nat.le_of_ble_eq_true rfl)
  rw [lg_entry_eq]
  generalize (lg_sl ([.ref h0]) ++ List.replicate (1 - (lg_sl ([.ref h0])).length) Slot.unset).toArray = ls at hl ⊢
  have hl : lv_has ls 1 [(0, .ref h0)] := hl
  refine lv_aload_n hx hb dc_Records_0 rfl (lv_at hl 0 rfl) ?_
  refine W.objInit hx hb hown (hts _ cw_16) (hts _ cw_1) (hts _ cw_2) rfl (by rw [hml]; exact hl.1) rfl dc_Records_1 (Nat.le_of_ble_eq_true rfl) (Nat.le_of_ble_eq_true rfl) ?_
  refine W.eq (g2 := F0 m 4 ls []) rfl ?_
  refine lv_aload_n hx hb dc_Records_4 rfl (lv_at hl 0 rfl) ?_
  refine lv_bipush (v := 24) hx hb dc_Records_5 (by decide +kernel) ?_
  refine cn_new (atype := .int) (ty := .int) (a0 := (24, .inl (fun _ => 0))) hx hb (hts _ cw_3) rfl hK 0 rfl (by decide) hP hD hS hA (fun _ => rfl) (by decide +kernel) (by decide +kernel) (Nat.le_of_ble_eq_true rfl) (Nat.le_of_ble_eq_true rfl) (Nat.le_of_ble_eq_true rfl) dc_Records_7 (fun q7 H hP hD hS => ?_)
  have hP : va_P D xm_cl [(h0, .inr (4, [.null, .null, .null, .null, .null, .null, .null, .null, .null, .int 0, .int 0, .int 0, .int 0])), (q7, .inl (cA 0, 24, .inl (fun _ => 0)))] H := hP
  have hD : va_D A [(h0, .inr (4, [.null, .null, .null, .null, .null, .null, .null, .null, .null, .int 0, .int 0, .int 0, .int 0])), (q7, .inl (cA 0, 24, .inl (fun _ => 0)))] := hD
  refine W.widen (k := 1) (n := 24) (Nat.le_of_ble_eq_true rfl) (Nat.le_of_ble_eq_true rfl) ?_
  refine va_putF (D := D) (ci := 4) (v := .ref q7) (ty := .array .int) (C := R_4) (T := T_4) (N := 13) hx hb hts (sd_u in_4) ty_4 ty_4_ok nm_4 hown hK hP hD hS 0 rfl rfl 0 (by decide) (hts (Jvm.Cond.fieldLink "ThroughOthers$Records" (11 : Nat) "ThroughOthers$Records" "bringer" "[I") cw_17) (fun _ h9 => h9) rfl hin rfl (by decide +kernel) rfl rfl (Nat.le_of_ble_eq_true rfl) dc_Records_9 (fun H locs hP hD hS => ?_)
  have hP : va_P D xm_cl [(h0, .inr (4, [.ref q7, .null, .null, .null, .null, .null, .null, .null, .null, .int 0, .int 0, .int 0, .int 0])), (q7, .inl (cA 0, 24, .inl (fun _ => 0)))] H := hP
  have hD : va_D A [(h0, .inr (4, [.ref q7, .null, .null, .null, .null, .null, .null, .null, .null, .int 0, .int 0, .int 0, .int 0])), (q7, .inl (cA 0, 24, .inl (fun _ => 0)))] := hD
  refine lv_aload_n hx hb dc_Records_12 rfl (lv_at hl 0 rfl) ?_
  refine lv_bipush (v := 24) hx hb dc_Records_13 (by decide +kernel) ?_
  refine cn_new (atype := .int) (ty := .int) (a0 := (24, .inl (fun _ => 0))) hx hb (hts _ cw_3) rfl hK 0 rfl (by decide) hP hD hS hA (fun _ => rfl) (by decide +kernel) (by decide +kernel) (Nat.le_of_ble_eq_true rfl) (Nat.le_of_ble_eq_true rfl) (Nat.le_of_ble_eq_true rfl) dc_Records_15 (fun q15 H hP hD hS => ?_)
  have hP : va_P D xm_cl [(h0, .inr (4, [.ref q7, .null, .null, .null, .null, .null, .null, .null, .null, .int 0, .int 0, .int 0, .int 0])), (q7, .inl (cA 0, 24, .inl (fun _ => 0))), (q15, .inl (cA 0, 24, .inl (fun _ => 0)))] H := hP
  have hD : va_D A [(h0, .inr (4, [.ref q7, .null, .null, .null, .null, .null, .null, .null, .null, .int 0, .int 0, .int 0, .int 0])), (q7, .inl (cA 0, 24, .inl (fun _ => 0))), (q15, .inl (cA 0, 24, .inl (fun _ => 0)))] := hD
  refine W.widen (k := 2) (n := 48) (Nat.le_of_ble_eq_true rfl) (Nat.le_of_ble_eq_true rfl) ?_
  refine va_putF (D := D) (ci := 4) (v := .ref q15) (ty := .array .int) (C := R_4) (T := T_4) (N := 13) hx hb hts (sd_u in_4) ty_4 ty_4_ok nm_4 hown hK hP hD hS 0 rfl rfl 1 (by decide) (hts (Jvm.Cond.fieldLink "ThroughOthers$Records" (15 : Nat) "ThroughOthers$Records" "kind" "[I") cw_18) (fun _ h9 => h9) rfl hin rfl (by decide +kernel) rfl rfl (Nat.le_of_ble_eq_true rfl) dc_Records_17 (fun H locs hP hD hS => ?_)
  have hP : va_P D xm_cl [(h0, .inr (4, [.ref q7, .ref q15, .null, .null, .null, .null, .null, .null, .null, .int 0, .int 0, .int 0, .int 0])), (q7, .inl (cA 0, 24, .inl (fun _ => 0))), (q15, .inl (cA 0, 24, .inl (fun _ => 0)))] H := hP
  have hD : va_D A [(h0, .inr (4, [.ref q7, .ref q15, .null, .null, .null, .null, .null, .null, .null, .int 0, .int 0, .int 0, .int 0])), (q7, .inl (cA 0, 24, .inl (fun _ => 0))), (q15, .inl (cA 0, 24, .inl (fun _ => 0)))] := hD
  refine lv_aload_n hx hb dc_Records_20 rfl (lv_at hl 0 rfl) ?_
  refine lv_bipush (v := 24) hx hb dc_Records_21 (by decide +kernel) ?_
  refine cn_new (atype := .int) (ty := .int) (a0 := (24, .inl (fun _ => 0))) hx hb (hts _ cw_3) rfl hK 0 rfl (by decide) hP hD hS hA (fun _ => rfl) (by decide +kernel) (by decide +kernel) (Nat.le_of_ble_eq_true rfl) (Nat.le_of_ble_eq_true rfl) (Nat.le_of_ble_eq_true rfl) dc_Records_23 (fun q23 H hP hD hS => ?_)
  have hP : va_P D xm_cl [(h0, .inr (4, [.ref q7, .ref q15, .null, .null, .null, .null, .null, .null, .null, .int 0, .int 0, .int 0, .int 0])), (q7, .inl (cA 0, 24, .inl (fun _ => 0))), (q15, .inl (cA 0, 24, .inl (fun _ => 0))), (q23, .inl (cA 0, 24, .inl (fun _ => 0)))] H := hP
  have hD : va_D A [(h0, .inr (4, [.ref q7, .ref q15, .null, .null, .null, .null, .null, .null, .null, .int 0, .int 0, .int 0, .int 0])), (q7, .inl (cA 0, 24, .inl (fun _ => 0))), (q15, .inl (cA 0, 24, .inl (fun _ => 0))), (q23, .inl (cA 0, 24, .inl (fun _ => 0)))] := hD
  refine W.widen (k := 3) (n := 72) (Nat.le_of_ble_eq_true rfl) (Nat.le_of_ble_eq_true rfl) ?_
  refine va_putF (D := D) (ci := 4) (v := .ref q23) (ty := .array .int) (C := R_4) (T := T_4) (N := 13) hx hb hts (sd_u in_4) ty_4 ty_4_ok nm_4 hown hK hP hD hS 0 rfl rfl 2 (by decide) (hts (Jvm.Cond.fieldLink "ThroughOthers$Records" (18 : Nat) "ThroughOthers$Records" "knows" "[I") cw_19) (fun _ h9 => h9) rfl hin rfl (by decide +kernel) rfl rfl (Nat.le_of_ble_eq_true rfl) dc_Records_25 (fun H locs hP hD hS => ?_)
  have hP : va_P D xm_cl [(h0, .inr (4, [.ref q7, .ref q15, .ref q23, .null, .null, .null, .null, .null, .null, .int 0, .int 0, .int 0, .int 0])), (q7, .inl (cA 0, 24, .inl (fun _ => 0))), (q15, .inl (cA 0, 24, .inl (fun _ => 0))), (q23, .inl (cA 0, 24, .inl (fun _ => 0)))] H := hP
  have hD : va_D A [(h0, .inr (4, [.ref q7, .ref q15, .ref q23, .null, .null, .null, .null, .null, .null, .int 0, .int 0, .int 0, .int 0])), (q7, .inl (cA 0, 24, .inl (fun _ => 0))), (q15, .inl (cA 0, 24, .inl (fun _ => 0))), (q23, .inl (cA 0, 24, .inl (fun _ => 0)))] := hD
  refine lv_aload_n hx hb dc_Records_28 rfl (lv_at hl 0 rfl) ?_
  refine lv_bipush (v := 24) hx hb dc_Records_29 (by decide +kernel) ?_
  refine cn_new (atype := .int) (ty := .int) (a0 := (24, .inl (fun _ => 0))) hx hb (hts _ cw_3) rfl hK 0 rfl (by decide) hP hD hS hA (fun _ => rfl) (by decide +kernel) (by decide +kernel) (Nat.le_of_ble_eq_true rfl) (Nat.le_of_ble_eq_true rfl) (Nat.le_of_ble_eq_true rfl) dc_Records_31 (fun q31 H hP hD hS => ?_)
  have hP : va_P D xm_cl [(h0, .inr (4, [.ref q7, .ref q15, .ref q23, .null, .null, .null, .null, .null, .null, .int 0, .int 0, .int 0, .int 0])), (q7, .inl (cA 0, 24, .inl (fun _ => 0))), (q15, .inl (cA 0, 24, .inl (fun _ => 0))), (q23, .inl (cA 0, 24, .inl (fun _ => 0))), (q31, .inl (cA 0, 24, .inl (fun _ => 0)))] H := hP
  have hD : va_D A [(h0, .inr (4, [.ref q7, .ref q15, .ref q23, .null, .null, .null, .null, .null, .null, .int 0, .int 0, .int 0, .int 0])), (q7, .inl (cA 0, 24, .inl (fun _ => 0))), (q15, .inl (cA 0, 24, .inl (fun _ => 0))), (q23, .inl (cA 0, 24, .inl (fun _ => 0))), (q31, .inl (cA 0, 24, .inl (fun _ => 0)))] := hD
  refine W.widen (k := 4) (n := 96) (Nat.le_of_ble_eq_true rfl) (Nat.le_of_ble_eq_true rfl) ?_
  refine va_putF (D := D) (ci := 4) (v := .ref q31) (ty := .array .int) (C := R_4) (T := T_4) (N := 13) hx hb hts (sd_u in_4) ty_4 ty_4_ok nm_4 hown hK hP hD hS 0 rfl rfl 3 (by decide) (hts (Jvm.Cond.fieldLink "ThroughOthers$Records" (21 : Nat) "ThroughOthers$Records" "day" "[I") cw_20) (fun _ h9 => h9) rfl hin rfl (by decide +kernel) rfl rfl (Nat.le_of_ble_eq_true rfl) dc_Records_33 (fun H locs hP hD hS => ?_)
  have hP : va_P D xm_cl [(h0, .inr (4, [.ref q7, .ref q15, .ref q23, .ref q31, .null, .null, .null, .null, .null, .int 0, .int 0, .int 0, .int 0])), (q7, .inl (cA 0, 24, .inl (fun _ => 0))), (q15, .inl (cA 0, 24, .inl (fun _ => 0))), (q23, .inl (cA 0, 24, .inl (fun _ => 0))), (q31, .inl (cA 0, 24, .inl (fun _ => 0)))] H := hP
  have hD : va_D A [(h0, .inr (4, [.ref q7, .ref q15, .ref q23, .ref q31, .null, .null, .null, .null, .null, .int 0, .int 0, .int 0, .int 0])), (q7, .inl (cA 0, 24, .inl (fun _ => 0))), (q15, .inl (cA 0, 24, .inl (fun _ => 0))), (q23, .inl (cA 0, 24, .inl (fun _ => 0))), (q31, .inl (cA 0, 24, .inl (fun _ => 0)))] := hD
  refine lv_aload_n hx hb dc_Records_36 rfl (lv_at hl 0 rfl) ?_
  refine lv_bipush (v := 24) hx hb dc_Records_37 (by decide +kernel) ?_
  refine cn_new (atype := .int) (ty := .int) (a0 := (24, .inl (fun _ => 0))) hx hb (hts _ cw_3) rfl hK 0 rfl (by decide) hP hD hS hA (fun _ => rfl) (by decide +kernel) (by decide +kernel) (Nat.le_of_ble_eq_true rfl) (Nat.le_of_ble_eq_true rfl) (Nat.le_of_ble_eq_true rfl) dc_Records_39 (fun q39 H hP hD hS => ?_)
  have hP : va_P D xm_cl [(h0, .inr (4, [.ref q7, .ref q15, .ref q23, .ref q31, .null, .null, .null, .null, .null, .int 0, .int 0, .int 0, .int 0])), (q7, .inl (cA 0, 24, .inl (fun _ => 0))), (q15, .inl (cA 0, 24, .inl (fun _ => 0))), (q23, .inl (cA 0, 24, .inl (fun _ => 0))), (q31, .inl (cA 0, 24, .inl (fun _ => 0))), (q39, .inl (cA 0, 24, .inl (fun _ => 0)))] H := hP
  have hD : va_D A [(h0, .inr (4, [.ref q7, .ref q15, .ref q23, .ref q31, .null, .null, .null, .null, .null, .int 0, .int 0, .int 0, .int 0])), (q7, .inl (cA 0, 24, .inl (fun _ => 0))), (q15, .inl (cA 0, 24, .inl (fun _ => 0))), (q23, .inl (cA 0, 24, .inl (fun _ => 0))), (q31, .inl (cA 0, 24, .inl (fun _ => 0))), (q39, .inl (cA 0, 24, .inl (fun _ => 0)))] := hD
  refine W.widen (k := 5) (n := 120) (Nat.le_of_ble_eq_true rfl) (Nat.le_of_ble_eq_true rfl) ?_
  refine va_putF (D := D) (ci := 4) (v := .ref q39) (ty := .array .int) (C := R_4) (T := T_4) (N := 13) hx hb hts (sd_u in_4) ty_4 ty_4_ok nm_4 hown hK hP hD hS 0 rfl rfl 4 (by decide) (hts (Jvm.Cond.fieldLink "ThroughOthers$Records" (24 : Nat) "ThroughOthers$Records" "back" "[I") cw_21) (fun _ h9 => h9) rfl hin rfl (by decide +kernel) rfl rfl (Nat.le_of_ble_eq_true rfl) dc_Records_41 (fun H locs hP hD hS => ?_)
  have hP : va_P D xm_cl [(h0, .inr (4, [.ref q7, .ref q15, .ref q23, .ref q31, .ref q39, .null, .null, .null, .null, .int 0, .int 0, .int 0, .int 0])), (q7, .inl (cA 0, 24, .inl (fun _ => 0))), (q15, .inl (cA 0, 24, .inl (fun _ => 0))), (q23, .inl (cA 0, 24, .inl (fun _ => 0))), (q31, .inl (cA 0, 24, .inl (fun _ => 0))), (q39, .inl (cA 0, 24, .inl (fun _ => 0)))] H := hP
  have hD : va_D A [(h0, .inr (4, [.ref q7, .ref q15, .ref q23, .ref q31, .ref q39, .null, .null, .null, .null, .int 0, .int 0, .int 0, .int 0])), (q7, .inl (cA 0, 24, .inl (fun _ => 0))), (q15, .inl (cA 0, 24, .inl (fun _ => 0))), (q23, .inl (cA 0, 24, .inl (fun _ => 0))), (q31, .inl (cA 0, 24, .inl (fun _ => 0))), (q39, .inl (cA 0, 24, .inl (fun _ => 0)))] := hD
  refine lv_aload_n hx hb dc_Records_44 rfl (lv_at hl 0 rfl) ?_
  refine lv_bipush (v := 24) hx hb dc_Records_45 (by decide +kernel) ?_
  refine cn_new (atype := .int) (ty := .int) (a0 := (24, .inl (fun _ => 0))) hx hb (hts _ cw_3) rfl hK 0 rfl (by decide) hP hD hS hA (fun _ => rfl) (by decide +kernel) (by decide +kernel) (Nat.le_of_ble_eq_true rfl) (Nat.le_of_ble_eq_true rfl) (Nat.le_of_ble_eq_true rfl) dc_Records_47 (fun q47 H hP hD hS => ?_)
  have hP : va_P D xm_cl [(h0, .inr (4, [.ref q7, .ref q15, .ref q23, .ref q31, .ref q39, .null, .null, .null, .null, .int 0, .int 0, .int 0, .int 0])), (q7, .inl (cA 0, 24, .inl (fun _ => 0))), (q15, .inl (cA 0, 24, .inl (fun _ => 0))), (q23, .inl (cA 0, 24, .inl (fun _ => 0))), (q31, .inl (cA 0, 24, .inl (fun _ => 0))), (q39, .inl (cA 0, 24, .inl (fun _ => 0))), (q47, .inl (cA 0, 24, .inl (fun _ => 0)))] H := hP
  have hD : va_D A [(h0, .inr (4, [.ref q7, .ref q15, .ref q23, .ref q31, .ref q39, .null, .null, .null, .null, .int 0, .int 0, .int 0, .int 0])), (q7, .inl (cA 0, 24, .inl (fun _ => 0))), (q15, .inl (cA 0, 24, .inl (fun _ => 0))), (q23, .inl (cA 0, 24, .inl (fun _ => 0))), (q31, .inl (cA 0, 24, .inl (fun _ => 0))), (q39, .inl (cA 0, 24, .inl (fun _ => 0))), (q47, .inl (cA 0, 24, .inl (fun _ => 0)))] := hD
  refine W.widen (k := 6) (n := 144) (Nat.le_of_ble_eq_true rfl) (Nat.le_of_ble_eq_true rfl) ?_
  refine va_putF (D := D) (ci := 4) (v := .ref q47) (ty := .array .int) (C := R_4) (T := T_4) (N := 13) hx hb hts (sd_u in_4) ty_4 ty_4_ok nm_4 hown hK hP hD hS 0 rfl rfl 5 (by decide) (hts (Jvm.Cond.fieldLink "ThroughOthers$Records" (27 : Nat) "ThroughOthers$Records" "wave" "[I") cw_22) (fun _ h9 => h9) rfl hin rfl (by decide +kernel) rfl rfl (Nat.le_of_ble_eq_true rfl) dc_Records_49 (fun H locs hP hD hS => ?_)
  have hP : va_P D xm_cl [(h0, .inr (4, [.ref q7, .ref q15, .ref q23, .ref q31, .ref q39, .ref q47, .null, .null, .null, .int 0, .int 0, .int 0, .int 0])), (q7, .inl (cA 0, 24, .inl (fun _ => 0))), (q15, .inl (cA 0, 24, .inl (fun _ => 0))), (q23, .inl (cA 0, 24, .inl (fun _ => 0))), (q31, .inl (cA 0, 24, .inl (fun _ => 0))), (q39, .inl (cA 0, 24, .inl (fun _ => 0))), (q47, .inl (cA 0, 24, .inl (fun _ => 0)))] H := hP
  have hD : va_D A [(h0, .inr (4, [.ref q7, .ref q15, .ref q23, .ref q31, .ref q39, .ref q47, .null, .null, .null, .int 0, .int 0, .int 0, .int 0])), (q7, .inl (cA 0, 24, .inl (fun _ => 0))), (q15, .inl (cA 0, 24, .inl (fun _ => 0))), (q23, .inl (cA 0, 24, .inl (fun _ => 0))), (q31, .inl (cA 0, 24, .inl (fun _ => 0))), (q39, .inl (cA 0, 24, .inl (fun _ => 0))), (q47, .inl (cA 0, 24, .inl (fun _ => 0)))] := hD
  refine lv_aload_n hx hb dc_Records_52 rfl (lv_at hl 0 rfl) ?_
  refine lv_bipush (v := 24) hx hb dc_Records_53 (by decide +kernel) ?_
  refine cn_new (atype := .int) (ty := .int) (a0 := (24, .inl (fun _ => 0))) hx hb (hts _ cw_3) rfl hK 0 rfl (by decide) hP hD hS hA (fun _ => rfl) (by decide +kernel) (by decide +kernel) (Nat.le_of_ble_eq_true rfl) (Nat.le_of_ble_eq_true rfl) (Nat.le_of_ble_eq_true rfl) dc_Records_55 (fun q55 H hP hD hS => ?_)
  have hP : va_P D xm_cl [(h0, .inr (4, [.ref q7, .ref q15, .ref q23, .ref q31, .ref q39, .ref q47, .null, .null, .null, .int 0, .int 0, .int 0, .int 0])), (q7, .inl (cA 0, 24, .inl (fun _ => 0))), (q15, .inl (cA 0, 24, .inl (fun _ => 0))), (q23, .inl (cA 0, 24, .inl (fun _ => 0))), (q31, .inl (cA 0, 24, .inl (fun _ => 0))), (q39, .inl (cA 0, 24, .inl (fun _ => 0))), (q47, .inl (cA 0, 24, .inl (fun _ => 0))), (q55, .inl (cA 0, 24, .inl (fun _ => 0)))] H := hP
  have hD : va_D A [(h0, .inr (4, [.ref q7, .ref q15, .ref q23, .ref q31, .ref q39, .ref q47, .null, .null, .null, .int 0, .int 0, .int 0, .int 0])), (q7, .inl (cA 0, 24, .inl (fun _ => 0))), (q15, .inl (cA 0, 24, .inl (fun _ => 0))), (q23, .inl (cA 0, 24, .inl (fun _ => 0))), (q31, .inl (cA 0, 24, .inl (fun _ => 0))), (q39, .inl (cA 0, 24, .inl (fun _ => 0))), (q47, .inl (cA 0, 24, .inl (fun _ => 0))), (q55, .inl (cA 0, 24, .inl (fun _ => 0)))] := hD
  refine W.widen (k := 7) (n := 168) (Nat.le_of_ble_eq_true rfl) (Nat.le_of_ble_eq_true rfl) ?_
  refine va_putF (D := D) (ci := 4) (v := .ref q55) (ty := .array .int) (C := R_4) (T := T_4) (N := 13) hx hb hts (sd_u in_4) ty_4 ty_4_ok nm_4 hown hK hP hD hS 0 rfl rfl 6 (by decide) (hts (Jvm.Cond.fieldLink "ThroughOthers$Records" (30 : Nat) "ThroughOthers$Records" "tree" "[I") cw_23) (fun _ h9 => h9) rfl hin rfl (by decide +kernel) rfl rfl (Nat.le_of_ble_eq_true rfl) dc_Records_57 (fun H locs hP hD hS => ?_)
  have hP : va_P D xm_cl [(h0, .inr (4, [.ref q7, .ref q15, .ref q23, .ref q31, .ref q39, .ref q47, .ref q55, .null, .null, .int 0, .int 0, .int 0, .int 0])), (q7, .inl (cA 0, 24, .inl (fun _ => 0))), (q15, .inl (cA 0, 24, .inl (fun _ => 0))), (q23, .inl (cA 0, 24, .inl (fun _ => 0))), (q31, .inl (cA 0, 24, .inl (fun _ => 0))), (q39, .inl (cA 0, 24, .inl (fun _ => 0))), (q47, .inl (cA 0, 24, .inl (fun _ => 0))), (q55, .inl (cA 0, 24, .inl (fun _ => 0)))] H := hP
  have hD : va_D A [(h0, .inr (4, [.ref q7, .ref q15, .ref q23, .ref q31, .ref q39, .ref q47, .ref q55, .null, .null, .int 0, .int 0, .int 0, .int 0])), (q7, .inl (cA 0, 24, .inl (fun _ => 0))), (q15, .inl (cA 0, 24, .inl (fun _ => 0))), (q23, .inl (cA 0, 24, .inl (fun _ => 0))), (q31, .inl (cA 0, 24, .inl (fun _ => 0))), (q39, .inl (cA 0, 24, .inl (fun _ => 0))), (q47, .inl (cA 0, 24, .inl (fun _ => 0))), (q55, .inl (cA 0, 24, .inl (fun _ => 0)))] := hD
  refine lv_aload_n hx hb dc_Records_60 rfl (lv_at hl 0 rfl) ?_
  refine lv_bipush (v := 24) hx hb dc_Records_61 (by decide +kernel) ?_
  refine cn_new (atype := .int) (ty := .int) (a0 := (24, .inl (fun _ => 0))) hx hb (hts _ cw_3) rfl hK 0 rfl (by decide) hP hD hS hA (fun _ => rfl) (by decide +kernel) (by decide +kernel) (Nat.le_of_ble_eq_true rfl) (Nat.le_of_ble_eq_true rfl) (Nat.le_of_ble_eq_true rfl) dc_Records_63 (fun q63 H hP hD hS => ?_)
  have hP : va_P D xm_cl [(h0, .inr (4, [.ref q7, .ref q15, .ref q23, .ref q31, .ref q39, .ref q47, .ref q55, .null, .null, .int 0, .int 0, .int 0, .int 0])), (q7, .inl (cA 0, 24, .inl (fun _ => 0))), (q15, .inl (cA 0, 24, .inl (fun _ => 0))), (q23, .inl (cA 0, 24, .inl (fun _ => 0))), (q31, .inl (cA 0, 24, .inl (fun _ => 0))), (q39, .inl (cA 0, 24, .inl (fun _ => 0))), (q47, .inl (cA 0, 24, .inl (fun _ => 0))), (q55, .inl (cA 0, 24, .inl (fun _ => 0))), (q63, .inl (cA 0, 24, .inl (fun _ => 0)))] H := hP
  have hD : va_D A [(h0, .inr (4, [.ref q7, .ref q15, .ref q23, .ref q31, .ref q39, .ref q47, .ref q55, .null, .null, .int 0, .int 0, .int 0, .int 0])), (q7, .inl (cA 0, 24, .inl (fun _ => 0))), (q15, .inl (cA 0, 24, .inl (fun _ => 0))), (q23, .inl (cA 0, 24, .inl (fun _ => 0))), (q31, .inl (cA 0, 24, .inl (fun _ => 0))), (q39, .inl (cA 0, 24, .inl (fun _ => 0))), (q47, .inl (cA 0, 24, .inl (fun _ => 0))), (q55, .inl (cA 0, 24, .inl (fun _ => 0))), (q63, .inl (cA 0, 24, .inl (fun _ => 0)))] := hD
  refine W.widen (k := 8) (n := 192) (Nat.le_of_ble_eq_true rfl) (Nat.le_of_ble_eq_true rfl) ?_
  refine va_putF (D := D) (ci := 4) (v := .ref q63) (ty := .array .int) (C := R_4) (T := T_4) (N := 13) hx hb hts (sd_u in_4) ty_4 ty_4_ok nm_4 hown hK hP hD hS 0 rfl rfl 7 (by decide) (hts (Jvm.Cond.fieldLink "ThroughOthers$Records" (33 : Nat) "ThroughOthers$Records" "brought" "[I") cw_24) (fun _ h9 => h9) rfl hin rfl (by decide +kernel) rfl rfl (Nat.le_of_ble_eq_true rfl) dc_Records_65 (fun H locs hP hD hS => ?_)
  have hP : va_P D xm_cl [(h0, .inr (4, [.ref q7, .ref q15, .ref q23, .ref q31, .ref q39, .ref q47, .ref q55, .ref q63, .null, .int 0, .int 0, .int 0, .int 0])), (q7, .inl (cA 0, 24, .inl (fun _ => 0))), (q15, .inl (cA 0, 24, .inl (fun _ => 0))), (q23, .inl (cA 0, 24, .inl (fun _ => 0))), (q31, .inl (cA 0, 24, .inl (fun _ => 0))), (q39, .inl (cA 0, 24, .inl (fun _ => 0))), (q47, .inl (cA 0, 24, .inl (fun _ => 0))), (q55, .inl (cA 0, 24, .inl (fun _ => 0))), (q63, .inl (cA 0, 24, .inl (fun _ => 0)))] H := hP
  have hD : va_D A [(h0, .inr (4, [.ref q7, .ref q15, .ref q23, .ref q31, .ref q39, .ref q47, .ref q55, .ref q63, .null, .int 0, .int 0, .int 0, .int 0])), (q7, .inl (cA 0, 24, .inl (fun _ => 0))), (q15, .inl (cA 0, 24, .inl (fun _ => 0))), (q23, .inl (cA 0, 24, .inl (fun _ => 0))), (q31, .inl (cA 0, 24, .inl (fun _ => 0))), (q39, .inl (cA 0, 24, .inl (fun _ => 0))), (q47, .inl (cA 0, 24, .inl (fun _ => 0))), (q55, .inl (cA 0, 24, .inl (fun _ => 0))), (q63, .inl (cA 0, 24, .inl (fun _ => 0)))] := hD
  refine lv_aload_n hx hb dc_Records_68 rfl (lv_at hl 0 rfl) ?_
  refine lv_bipush (v := 24) hx hb dc_Records_69 (by decide +kernel) ?_
  refine cn_new (atype := .boolean) (ty := .boolean) (a0 := (24, .inl (fun _ => 0))) hx hb (hts _ cw_25) rfl hK 2 rfl (by decide) hP hD hS hA (fun _ => rfl) (by decide +kernel) (by decide +kernel) (Nat.le_of_ble_eq_true rfl) (Nat.le_of_ble_eq_true rfl) (Nat.le_of_ble_eq_true rfl) dc_Records_71 (fun q71 H hP hD hS => ?_)
  have hP : va_P D xm_cl [(h0, .inr (4, [.ref q7, .ref q15, .ref q23, .ref q31, .ref q39, .ref q47, .ref q55, .ref q63, .null, .int 0, .int 0, .int 0, .int 0])), (q7, .inl (cA 0, 24, .inl (fun _ => 0))), (q15, .inl (cA 0, 24, .inl (fun _ => 0))), (q23, .inl (cA 0, 24, .inl (fun _ => 0))), (q31, .inl (cA 0, 24, .inl (fun _ => 0))), (q39, .inl (cA 0, 24, .inl (fun _ => 0))), (q47, .inl (cA 0, 24, .inl (fun _ => 0))), (q55, .inl (cA 0, 24, .inl (fun _ => 0))), (q63, .inl (cA 0, 24, .inl (fun _ => 0))), (q71, .inl (cA 2, 24, .inl (fun _ => 0)))] H := hP
  have hD : va_D A [(h0, .inr (4, [.ref q7, .ref q15, .ref q23, .ref q31, .ref q39, .ref q47, .ref q55, .ref q63, .null, .int 0, .int 0, .int 0, .int 0])), (q7, .inl (cA 0, 24, .inl (fun _ => 0))), (q15, .inl (cA 0, 24, .inl (fun _ => 0))), (q23, .inl (cA 0, 24, .inl (fun _ => 0))), (q31, .inl (cA 0, 24, .inl (fun _ => 0))), (q39, .inl (cA 0, 24, .inl (fun _ => 0))), (q47, .inl (cA 0, 24, .inl (fun _ => 0))), (q55, .inl (cA 0, 24, .inl (fun _ => 0))), (q63, .inl (cA 0, 24, .inl (fun _ => 0))), (q71, .inl (cA 2, 24, .inl (fun _ => 0)))] := hD
  refine W.widen (k := 9) (n := 216) (Nat.le_of_ble_eq_true rfl) (Nat.le_of_ble_eq_true rfl) ?_
  refine va_putF (D := D) (ci := 4) (v := .ref q71) (ty := .array .boolean) (C := R_4) (T := T_4) (N := 13) hx hb hts (sd_u in_4) ty_4 ty_4_ok nm_4 hown hK hP hD hS 0 rfl rfl 8 (by decide) (hts (Jvm.Cond.fieldLink "ThroughOthers$Records" (36 : Nat) "ThroughOthers$Records" "counts" "[Z") cw_26) (fun _ h9 => h9) rfl hin rfl (by decide +kernel) rfl rfl (Nat.le_of_ble_eq_true rfl) dc_Records_73 (fun H locs hP hD hS => ?_)
  have hP : va_P D xm_cl [(h0, .inr (4, [.ref q7, .ref q15, .ref q23, .ref q31, .ref q39, .ref q47, .ref q55, .ref q63, .ref q71, .int 0, .int 0, .int 0, .int 0])), (q7, .inl (cA 0, 24, .inl (fun _ => 0))), (q15, .inl (cA 0, 24, .inl (fun _ => 0))), (q23, .inl (cA 0, 24, .inl (fun _ => 0))), (q31, .inl (cA 0, 24, .inl (fun _ => 0))), (q39, .inl (cA 0, 24, .inl (fun _ => 0))), (q47, .inl (cA 0, 24, .inl (fun _ => 0))), (q55, .inl (cA 0, 24, .inl (fun _ => 0))), (q63, .inl (cA 0, 24, .inl (fun _ => 0))), (q71, .inl (cA 2, 24, .inl (fun _ => 0)))] H := hP
  have hD : va_D A [(h0, .inr (4, [.ref q7, .ref q15, .ref q23, .ref q31, .ref q39, .ref q47, .ref q55, .ref q63, .ref q71, .int 0, .int 0, .int 0, .int 0])), (q7, .inl (cA 0, 24, .inl (fun _ => 0))), (q15, .inl (cA 0, 24, .inl (fun _ => 0))), (q23, .inl (cA 0, 24, .inl (fun _ => 0))), (q31, .inl (cA 0, 24, .inl (fun _ => 0))), (q39, .inl (cA 0, 24, .inl (fun _ => 0))), (q47, .inl (cA 0, 24, .inl (fun _ => 0))), (q55, .inl (cA 0, 24, .inl (fun _ => 0))), (q63, .inl (cA 0, 24, .inl (fun _ => 0))), (q71, .inl (cA 2, 24, .inl (fun _ => 0)))] := hD
  refine lv_aload_n hx hb dc_Records_76 rfl (lv_at hl 0 rfl) ?_
  refine lv_bipush (v := 99) hx hb dc_Records_77 (by decide +kernel) ?_
  refine va_put (D := D) (ci := 4) (v := .int 99) (ty := .int) (C := R_4) (T := T_4) (N := 13) hx hb hts (sd_u in_4) ty_4 ty_4_ok nm_4 hown hK hP hD hS 0 rfl rfl 11 (by decide) (hts (Jvm.Cond.fieldLink "ThroughOthers$Records" (40 : Nat) "ThroughOthers$Records" "asOf" "I") cw_27) (fun _ h9 => h9) rfl (by decide +kernel) rfl rfl (Nat.le_of_ble_eq_true rfl) dc_Records_79 (fun H locs hP hD hS => ?_)
  have hP : va_P D xm_cl [(h0, .inr (4, [.ref q7, .ref q15, .ref q23, .ref q31, .ref q39, .ref q47, .ref q55, .ref q63, .ref q71, .int 0, .int 0, .int 99, .int 0])), (q7, .inl (cA 0, 24, .inl (fun _ => 0))), (q15, .inl (cA 0, 24, .inl (fun _ => 0))), (q23, .inl (cA 0, 24, .inl (fun _ => 0))), (q31, .inl (cA 0, 24, .inl (fun _ => 0))), (q39, .inl (cA 0, 24, .inl (fun _ => 0))), (q47, .inl (cA 0, 24, .inl (fun _ => 0))), (q55, .inl (cA 0, 24, .inl (fun _ => 0))), (q63, .inl (cA 0, 24, .inl (fun _ => 0))), (q71, .inl (cA 2, 24, .inl (fun _ => 0)))] H := hP
  have hD : va_D A [(h0, .inr (4, [.ref q7, .ref q15, .ref q23, .ref q31, .ref q39, .ref q47, .ref q55, .ref q63, .ref q71, .int 0, .int 0, .int 99, .int 0])), (q7, .inl (cA 0, 24, .inl (fun _ => 0))), (q15, .inl (cA 0, 24, .inl (fun _ => 0))), (q23, .inl (cA 0, 24, .inl (fun _ => 0))), (q31, .inl (cA 0, 24, .inl (fun _ => 0))), (q39, .inl (cA 0, 24, .inl (fun _ => 0))), (q47, .inl (cA 0, 24, .inl (fun _ => 0))), (q55, .inl (cA 0, 24, .inl (fun _ => 0))), (q63, .inl (cA 0, 24, .inl (fun _ => 0))), (q71, .inl (cA 2, 24, .inl (fun _ => 0)))] := hD
  have hP9 := hP.sub (ws' := [(h0, .inr (4, [.ref q7, .ref q15, .ref q23, .ref q31, .ref q39, .ref q47, .ref q55, .ref q63, .ref q71, .int 0, .int 0, .int 99, .int 0])), (q7, .inl (cA 0, 24, .inl (fun _ => 0))), (q15, .inl (cA 0, 24, .inl (fun _ => 0))), (q23, .inl (cA 0, 24, .inl (fun _ => 0))), (q31, .inl (cA 0, 24, .inl (fun _ => 0))), (q39, .inl (cA 0, 24, .inl (fun _ => 0))), (q47, .inl (cA 0, 24, .inl (fun _ => 0))), (q55, .inl (cA 0, 24, .inl (fun _ => 0))), (q63, .inl (cA 0, 24, .inl (fun _ => 0))), (q71, .inl (cA 2, 24, .inl (fun _ => 0)))]) [0, 1, 2, 3, 4, 5, 6, 7, 8, 9] rfl
  have hD9 := hD.sub (ws' := [(h0, .inr (4, [.ref q7, .ref q15, .ref q23, .ref q31, .ref q39, .ref q47, .ref q55, .ref q63, .ref q71, .int 0, .int 0, .int 99, .int 0])), (q7, .inl (cA 0, 24, .inl (fun _ => 0))), (q15, .inl (cA 0, 24, .inl (fun _ => 0))), (q23, .inl (cA 0, 24, .inl (fun _ => 0))), (q31, .inl (cA 0, 24, .inl (fun _ => 0))), (q39, .inl (cA 0, 24, .inl (fun _ => 0))), (q47, .inl (cA 0, 24, .inl (fun _ => 0))), (q55, .inl (cA 0, 24, .inl (fun _ => 0))), (q63, .inl (cA 0, 24, .inl (fun _ => 0))), (q71, .inl (cA 2, 24, .inl (fun _ => 0)))]) [0, 1, 2, 3, 4, 5, 6, 7, 8, 9] (by decide) rfl
  exact W.vret hx hb hr (fun t ht hW => ⟨⟨(), rfl, trivial, q7, q15, q23, q31, q39, q47, q55, q63, q71, by rw [ht]; exact hP9, va_K.moved hW.alike hK, hD9⟩, hS.F ht⟩) hS.2.2 dc_Records_82
def y_Shares_init : MethodName := ⟨"ThroughOthers$Shares", "<init>", "(LThroughOthers$Records;)V"⟩
def ws_Shares_init : List Cond := Cond.code y_Shares_init prog_7_method_1_code 2 none :: sd_tb
theorem dc_Shares_0 : decode prog_7_method_1_code 0 = .ok (.aload_n 0, 1) := by decide +kernel
theorem dc_Shares_1 : decode prog_7_method_1_code 1 = .ok (.invokespecial 3, 3) := by decide +kernel
theorem dc_Shares_4 : decode prog_7_method_1_code 4 = .ok (.aload_n 0, 1) := by decide +kernel
theorem dc_Shares_5 : decode prog_7_method_1_code 5 = .ok (.aload_n 1, 1) := by decide +kernel
theorem dc_Shares_6 : decode prog_7_method_1_code 6 = .ok (.putfield 9, 3) := by decide +kernel
theorem dc_Shares_9 : decode prog_7_method_1_code 9 = .ok (.aload_n 0, 1) := by decide +kernel
theorem dc_Shares_10 : decode prog_7_method_1_code 10 = .ok (.iconst 4, 1) := by decide +kernel
theorem dc_Shares_11 : decode prog_7_method_1_code 11 = .ok (.newarray .int, 2) := by decide +kernel
theorem dc_Shares_13 : decode prog_7_method_1_code 13 = .ok (.putfield 15, 3) := by decide +kernel
theorem dc_Shares_16 : decode prog_7_method_1_code 16 = .ok (.return_, 1) := by decide +kernel
theorem gi_Shares : GoodIn sd_tb ws_Shares_init := cn_good (sd_in (List.mem_of_getElem? (i := 222) (by decide +kernel)) rfl)
set_option maxHeartbeats 4000000 in
set_option maxRecDepth 100000 in
theorem cn_Shares (l : Launch) (D : va_G) (cA : Nat → ClassId) (h0 : Nat) (n1 : Nat) (sz : Nat) : Met l y_Shares_init ws_Shares_init ({ frames := 2, cells := 1, slots := 4, locals := 40 }) (va_Pc [.ref h0, .ref n1] (fun U => U.heap.size = sz ∧ va_P D xm_cl [(h0, .inr (5, [.null, .null]))] U.heap ∧ va_K D xm_cl (sd_ty cA) U ∧ va_D (fun _ => True) [(h0, .inr (5, [.null, .null]))])) (va_Qv (fun _ : Unit => True) (fun (_ : Unit) (t : State) => ∃ (q11 : Nat), va_P D xm_cl [(h0, .inr (5, [.ref n1, .ref q11])), (q11, .inl (cA 0, 4, .inl (fun _ => 0)))] t.heap ∧ va_K D xm_cl (sd_ty cA) t ∧ va_D (va_A [(h0, .inr (5, [.null, .null]))] sz) [(h0, .inr (5, [.ref n1, .ref q11])), (q11, .inl (cA 0, 4, .inl (fun _ => 0)))]) (va_A [(h0, .inr (5, [.null, .null]))] sz)) 1 4 (va_A [(h0, .inr (5, [.null, .null]))] sz) := by
  refine Met.ofW (cc := prog_7_method_1_code) (maxL := 2) (ret := none) (by decide) rfl ?_
  intro p e s m args below meth c s₁ B hml hv
  obtain ⟨rfl, hsz, hP, hK, hD0⟩ := hv
  have hx := B.exec
  have hb := B.bytes
  have hr := B.returns
  have hts0 := atoms_spec (ws := ws_Shares_init) B.pre
  have hts : ∀ w ∈ sd_tb, w.before ([.ref h0, .ref n1] : List Value).toArray s = true := fun w hw => hts0 w (List.mem_cons_of_mem _ hw)
  have hown : s.vm.findClass "ThroughOthers$Shares" = some m.cls := findClass_of_methodNamed B.named
  have hlocks := B.notSynchronized
  have hin : meth.name = "<init>" := (name_of_methodNamed B.named B.method).1
  subst hsz
  have hD := hD0.self (sz := s.heap.size)
  generalize hAe : va_A [(h0, .inr (5, [.null, .null]))] s.heap.size = A at hD ⊢
  have hA : ∀ q : Nat, s.heap.size ≤ q → A q := fun q h => by rw [← hAe]; exact Or.inr h
  have hS : va_S A s.heap s.heap [] := va_S.rf
  have hP : va_P D xm_cl [(h0, .inr (5, [.null, .null]))] s.heap := hP
  have hl := lv_entry ([.ref h0, .ref n1]) (n := 2) (Nat.le_of_ble_eq_true rfl)
  rw [lg_entry_eq]
  generalize (lg_sl ([.ref h0, .ref n1]) ++ List.replicate (2 - (lg_sl ([.ref h0, .ref n1])).length) Slot.unset).toArray = ls at hl ⊢
  have hl : lv_has ls 2 [(0, .ref h0), (1, .ref n1)] := hl
  refine lv_aload_n hx hb dc_Shares_0 rfl (lv_at hl 0 rfl) ?_
  refine W.objInit hx hb hown (hts _ cw_28) (hts _ cw_1) (hts _ cw_2) rfl (by rw [hml]; exact hl.1) rfl dc_Shares_1 (Nat.le_of_ble_eq_true rfl) (Nat.le_of_ble_eq_true rfl) ?_
  refine W.eq (g2 := F0 m 4 ls []) rfl ?_
  refine lv_aload_n hx hb dc_Shares_4 rfl (lv_at hl 0 rfl) ?_
  refine lv_aload_n hx hb dc_Shares_5 rfl (lv_at hl 1 rfl) ?_
  refine va_putF (D := D) (ci := 5) (v := .ref n1) (ty := .object "ThroughOthers$Records") (C := R_5) (T := T_5) (N := 2) hx hb hts (sd_u in_5) ty_5 ty_5_ok nm_5 hown hK hP hD hS 0 rfl rfl 0 (by decide) (hts (Jvm.Cond.fieldLink "ThroughOthers$Shares" (9 : Nat) "ThroughOthers$Shares" "records" "LThroughOthers$Records;") cw_29) (fun _ h9 => h9) rfl hin rfl (by decide +kernel) rfl rfl (Nat.le_of_ble_eq_true rfl) dc_Shares_6 (fun H locs hP hD hS => ?_)
  have hP : va_P D xm_cl [(h0, .inr (5, [.ref n1, .null]))] H := hP
  have hD : va_D A [(h0, .inr (5, [.ref n1, .null]))] := hD
  refine lv_aload_n hx hb dc_Shares_9 rfl (lv_at hl 0 rfl) ?_
  refine lv_iconst (v := 4) hx hb dc_Shares_10 (by decide +kernel) ?_
  refine cn_new (atype := .int) (ty := .int) (a0 := (4, .inl (fun _ => 0))) hx hb (hts _ cw_3) rfl hK 0 rfl (by decide) hP hD hS hA (fun _ => rfl) (by decide +kernel) (by decide +kernel) (Nat.le_of_ble_eq_true rfl) (Nat.le_of_ble_eq_true rfl) (Nat.le_of_ble_eq_true rfl) dc_Shares_11 (fun q11 H hP hD hS => ?_)
  have hP : va_P D xm_cl [(h0, .inr (5, [.ref n1, .null])), (q11, .inl (cA 0, 4, .inl (fun _ => 0)))] H := hP
  have hD : va_D A [(h0, .inr (5, [.ref n1, .null])), (q11, .inl (cA 0, 4, .inl (fun _ => 0)))] := hD
  refine W.widen (k := 1) (n := 4) (Nat.le_of_ble_eq_true rfl) (Nat.le_of_ble_eq_true rfl) ?_
  refine va_putF (D := D) (ci := 5) (v := .ref q11) (ty := .array .int) (C := R_5) (T := T_5) (N := 2) hx hb hts (sd_u in_5) ty_5 ty_5_ok nm_5 hown hK hP hD hS 0 rfl rfl 1 (by decide) (hts (Jvm.Cond.fieldLink "ThroughOthers$Shares" (15 : Nat) "ThroughOthers$Shares" "pairs" "[I") cw_30) (fun _ h9 => h9) rfl hin rfl (by decide +kernel) rfl rfl (Nat.le_of_ble_eq_true rfl) dc_Shares_13 (fun H locs hP hD hS => ?_)
  have hP : va_P D xm_cl [(h0, .inr (5, [.ref n1, .ref q11])), (q11, .inl (cA 0, 4, .inl (fun _ => 0)))] H := hP
  have hD : va_D A [(h0, .inr (5, [.ref n1, .ref q11])), (q11, .inl (cA 0, 4, .inl (fun _ => 0)))] := hD
  have hP9 := hP.sub (ws' := [(h0, .inr (5, [.ref n1, .ref q11])), (q11, .inl (cA 0, 4, .inl (fun _ => 0)))]) [0, 1] rfl
  have hD9 := hD.sub (ws' := [(h0, .inr (5, [.ref n1, .ref q11])), (q11, .inl (cA 0, 4, .inl (fun _ => 0)))]) [0, 1] (by decide) rfl
  exact W.vret hx hb hr (fun t ht hW => ⟨⟨(), rfl, trivial, q11, by rw [ht]; exact hP9, va_K.moved hW.alike hK, hD9⟩, hS.F ht⟩) hS.2.2 dc_Shares_16
def y_Deals_init : MethodName := ⟨"ThroughOthers$Deals", "<init>", "(LThroughOthers$Records;)V"⟩
def ws_Deals_init : List Cond := Cond.code y_Deals_init prog_3_method_1_code 2 none :: sd_tb
theorem dc_Deals_0 : decode prog_3_method_1_code 0 = .ok (.aload_n 0, 1) := by decide +kernel
theorem dc_Deals_1 : decode prog_3_method_1_code 1 = .ok (.invokespecial 3, 3) := by decide +kernel
theorem dc_Deals_4 : decode prog_3_method_1_code 4 = .ok (.aload_n 0, 1) := by decide +kernel
theorem dc_Deals_5 : decode prog_3_method_1_code 5 = .ok (.aload_n 1, 1) := by decide +kernel
theorem dc_Deals_6 : decode prog_3_method_1_code 6 = .ok (.putfield 9, 3) := by decide +kernel
theorem dc_Deals_9 : decode prog_3_method_1_code 9 = .ok (.aload_n 0, 1) := by decide +kernel
theorem dc_Deals_10 : decode prog_3_method_1_code 10 = .ok (.bipush 24, 2) := by decide +kernel
theorem dc_Deals_12 : decode prog_3_method_1_code 12 = .ok (.newarray .int, 2) := by decide +kernel
theorem dc_Deals_14 : decode prog_3_method_1_code 14 = .ok (.putfield 17, 3) := by decide +kernel
theorem dc_Deals_17 : decode prog_3_method_1_code 17 = .ok (.aload_n 0, 1) := by decide +kernel
theorem dc_Deals_18 : decode prog_3_method_1_code 18 = .ok (.bipush 14, 2) := by decide +kernel
theorem dc_Deals_20 : decode prog_3_method_1_code 20 = .ok (.newarray .int, 2) := by decide +kernel
theorem dc_Deals_22 : decode prog_3_method_1_code 22 = .ok (.putfield 21, 3) := by decide +kernel
theorem dc_Deals_25 : decode prog_3_method_1_code 25 = .ok (.return_, 1) := by decide +kernel
theorem gi_Deals : GoodIn sd_tb ws_Deals_init := cn_good (sd_in (List.mem_of_getElem? (i := 235) (by decide +kernel)) rfl)
set_option maxHeartbeats 4000000 in
set_option maxRecDepth 100000 in
theorem cn_Deals (l : Launch) (D : va_G) (cA : Nat → ClassId) (h0 : Nat) (n1 : Nat) (sz : Nat) : Met l y_Deals_init ws_Deals_init ({ frames := 2, cells := 2, slots := 38, locals := 40 }) (va_Pc [.ref h0, .ref n1] (fun U => U.heap.size = sz ∧ va_P D xm_cl [(h0, .inr (1, [.null, .null, .null, .int 0]))] U.heap ∧ va_K D xm_cl (sd_ty cA) U ∧ va_D (fun _ => True) [(h0, .inr (1, [.null, .null, .null, .int 0]))])) (va_Qv (fun _ : Unit => True) (fun (_ : Unit) (t : State) => ∃ (q12 q20 : Nat), va_P D xm_cl [(h0, .inr (1, [.ref n1, .ref q12, .ref q20, .int 0])), (q12, .inl (cA 0, 24, .inl (fun _ => 0))), (q20, .inl (cA 0, 14, .inl (fun _ => 0)))] t.heap ∧ va_K D xm_cl (sd_ty cA) t ∧ va_D (va_A [(h0, .inr (1, [.null, .null, .null, .int 0]))] sz) [(h0, .inr (1, [.ref n1, .ref q12, .ref q20, .int 0])), (q12, .inl (cA 0, 24, .inl (fun _ => 0))), (q20, .inl (cA 0, 14, .inl (fun _ => 0)))]) (va_A [(h0, .inr (1, [.null, .null, .null, .int 0]))] sz)) 2 38 (va_A [(h0, .inr (1, [.null, .null, .null, .int 0]))] sz) := by
  refine Met.ofW (cc := prog_3_method_1_code) (maxL := 2) (ret := none) (by decide) rfl ?_
  intro p e s m args below meth c s₁ B hml hv
  obtain ⟨rfl, hsz, hP, hK, hD0⟩ := hv
  have hx := B.exec
  have hb := B.bytes
  have hr := B.returns
  have hts0 := atoms_spec (ws := ws_Deals_init) B.pre
  have hts : ∀ w ∈ sd_tb, w.before ([.ref h0, .ref n1] : List Value).toArray s = true := fun w hw => hts0 w (List.mem_cons_of_mem _ hw)
  have hown : s.vm.findClass "ThroughOthers$Deals" = some m.cls := findClass_of_methodNamed B.named
  have hlocks := B.notSynchronized
  have hin : meth.name = "<init>" := (name_of_methodNamed B.named B.method).1
  subst hsz
  have hD := hD0.self (sz := s.heap.size)
  generalize hAe : va_A [(h0, .inr (1, [.null, .null, .null, .int 0]))] s.heap.size = A at hD ⊢
  have hA : ∀ q : Nat, s.heap.size ≤ q → A q := fun q h => by rw [← hAe]; exact Or.inr h
  have hS : va_S A s.heap s.heap [] := va_S.rf
  have hP : va_P D xm_cl [(h0, .inr (1, [.null, .null, .null, .int 0]))] s.heap := hP
  have hl := lv_entry ([.ref h0, .ref n1]) (n := 2) (Nat.le_of_ble_eq_true rfl)
  rw [lg_entry_eq]
  generalize (lg_sl ([.ref h0, .ref n1]) ++ List.replicate (2 - (lg_sl ([.ref h0, .ref n1])).length) Slot.unset).toArray = ls at hl ⊢
  have hl : lv_has ls 2 [(0, .ref h0), (1, .ref n1)] := hl
  refine lv_aload_n hx hb dc_Deals_0 rfl (lv_at hl 0 rfl) ?_
  refine W.objInit hx hb hown (hts _ cw_31) (hts _ cw_1) (hts _ cw_2) rfl (by rw [hml]; exact hl.1) rfl dc_Deals_1 (Nat.le_of_ble_eq_true rfl) (Nat.le_of_ble_eq_true rfl) ?_
  refine W.eq (g2 := F0 m 4 ls []) rfl ?_
  refine lv_aload_n hx hb dc_Deals_4 rfl (lv_at hl 0 rfl) ?_
  refine lv_aload_n hx hb dc_Deals_5 rfl (lv_at hl 1 rfl) ?_
  refine va_putF (D := D) (ci := 1) (v := .ref n1) (ty := .object "ThroughOthers$Records") (C := R_1) (T := T_1) (N := 4) hx hb hts (sd_u in_1) ty_1 ty_1_ok nm_1 hown hK hP hD hS 0 rfl rfl 0 (by decide) (hts (Jvm.Cond.fieldLink "ThroughOthers$Deals" (9 : Nat) "ThroughOthers$Deals" "records" "LThroughOthers$Records;") cw_32) (fun _ h9 => h9) rfl hin rfl (by decide +kernel) rfl rfl (Nat.le_of_ble_eq_true rfl) dc_Deals_6 (fun H locs hP hD hS => ?_)
  have hP : va_P D xm_cl [(h0, .inr (1, [.ref n1, .null, .null, .int 0]))] H := hP
  have hD : va_D A [(h0, .inr (1, [.ref n1, .null, .null, .int 0]))] := hD
  refine lv_aload_n hx hb dc_Deals_9 rfl (lv_at hl 0 rfl) ?_
  refine lv_bipush (v := 24) hx hb dc_Deals_10 (by decide +kernel) ?_
  refine cn_new (atype := .int) (ty := .int) (a0 := (24, .inl (fun _ => 0))) hx hb (hts _ cw_3) rfl hK 0 rfl (by decide) hP hD hS hA (fun _ => rfl) (by decide +kernel) (by decide +kernel) (Nat.le_of_ble_eq_true rfl) (Nat.le_of_ble_eq_true rfl) (Nat.le_of_ble_eq_true rfl) dc_Deals_12 (fun q12 H hP hD hS => ?_)
  have hP : va_P D xm_cl [(h0, .inr (1, [.ref n1, .null, .null, .int 0])), (q12, .inl (cA 0, 24, .inl (fun _ => 0)))] H := hP
  have hD : va_D A [(h0, .inr (1, [.ref n1, .null, .null, .int 0])), (q12, .inl (cA 0, 24, .inl (fun _ => 0)))] := hD
  refine W.widen (k := 1) (n := 24) (Nat.le_of_ble_eq_true rfl) (Nat.le_of_ble_eq_true rfl) ?_
  refine va_putF (D := D) (ci := 1) (v := .ref q12) (ty := .array .int) (C := R_1) (T := T_1) (N := 4) hx hb hts (sd_u in_1) ty_1 ty_1_ok nm_1 hown hK hP hD hS 0 rfl rfl 1 (by decide) (hts (Jvm.Cond.fieldLink "ThroughOthers$Deals" (17 : Nat) "ThroughOthers$Deals" "order" "[I") cw_33) (fun _ h9 => h9) rfl hin rfl (by decide +kernel) rfl rfl (Nat.le_of_ble_eq_true rfl) dc_Deals_14 (fun H locs hP hD hS => ?_)
  have hP : va_P D xm_cl [(h0, .inr (1, [.ref n1, .ref q12, .null, .int 0])), (q12, .inl (cA 0, 24, .inl (fun _ => 0)))] H := hP
  have hD : va_D A [(h0, .inr (1, [.ref n1, .ref q12, .null, .int 0])), (q12, .inl (cA 0, 24, .inl (fun _ => 0)))] := hD
  refine lv_aload_n hx hb dc_Deals_17 rfl (lv_at hl 0 rfl) ?_
  refine lv_bipush (v := 14) hx hb dc_Deals_18 (by decide +kernel) ?_
  refine cn_new (atype := .int) (ty := .int) (a0 := (14, .inl (fun _ => 0))) hx hb (hts _ cw_3) rfl hK 0 rfl (by decide) hP hD hS hA (fun _ => rfl) (by decide +kernel) (by decide +kernel) (Nat.le_of_ble_eq_true rfl) (Nat.le_of_ble_eq_true rfl) (Nat.le_of_ble_eq_true rfl) dc_Deals_20 (fun q20 H hP hD hS => ?_)
  have hP : va_P D xm_cl [(h0, .inr (1, [.ref n1, .ref q12, .null, .int 0])), (q12, .inl (cA 0, 24, .inl (fun _ => 0))), (q20, .inl (cA 0, 14, .inl (fun _ => 0)))] H := hP
  have hD : va_D A [(h0, .inr (1, [.ref n1, .ref q12, .null, .int 0])), (q12, .inl (cA 0, 24, .inl (fun _ => 0))), (q20, .inl (cA 0, 14, .inl (fun _ => 0)))] := hD
  refine W.widen (k := 2) (n := 38) (Nat.le_of_ble_eq_true rfl) (Nat.le_of_ble_eq_true rfl) ?_
  refine va_putF (D := D) (ci := 1) (v := .ref q20) (ty := .array .int) (C := R_1) (T := T_1) (N := 4) hx hb hts (sd_u in_1) ty_1 ty_1_ok nm_1 hown hK hP hD hS 0 rfl rfl 2 (by decide) (hts (Jvm.Cond.fieldLink "ThroughOthers$Deals" (21 : Nat) "ThroughOthers$Deals" "bringerOrder" "[I") cw_34) (fun _ h9 => h9) rfl hin rfl (by decide +kernel) rfl rfl (Nat.le_of_ble_eq_true rfl) dc_Deals_22 (fun H locs hP hD hS => ?_)
  have hP : va_P D xm_cl [(h0, .inr (1, [.ref n1, .ref q12, .ref q20, .int 0])), (q12, .inl (cA 0, 24, .inl (fun _ => 0))), (q20, .inl (cA 0, 14, .inl (fun _ => 0)))] H := hP
  have hD : va_D A [(h0, .inr (1, [.ref n1, .ref q12, .ref q20, .int 0])), (q12, .inl (cA 0, 24, .inl (fun _ => 0))), (q20, .inl (cA 0, 14, .inl (fun _ => 0)))] := hD
  have hP9 := hP.sub (ws' := [(h0, .inr (1, [.ref n1, .ref q12, .ref q20, .int 0])), (q12, .inl (cA 0, 24, .inl (fun _ => 0))), (q20, .inl (cA 0, 14, .inl (fun _ => 0)))]) [0, 1, 2] rfl
  have hD9 := hD.sub (ws' := [(h0, .inr (1, [.ref n1, .ref q12, .ref q20, .int 0])), (q12, .inl (cA 0, 24, .inl (fun _ => 0))), (q20, .inl (cA 0, 14, .inl (fun _ => 0)))]) [0, 1, 2] (by decide) rfl
  exact W.vret hx hb hr (fun t ht hW => ⟨⟨(), rfl, trivial, q12, q20, by rw [ht]; exact hP9, va_K.moved hW.alike hK, hD9⟩, hS.F ht⟩) hS.2.2 dc_Deals_25
def y_Marks_init : MethodName := ⟨"ThroughOthers$Marks", "<init>", "(LThroughOthers$Records;)V"⟩
def ws_Marks_init : List Cond := Cond.code y_Marks_init prog_4_method_1_code 2 none :: sd_tb
theorem dc_Marks_0 : decode prog_4_method_1_code 0 = .ok (.aload_n 0, 1) := by decide +kernel
theorem dc_Marks_1 : decode prog_4_method_1_code 1 = .ok (.invokespecial 3, 3) := by decide +kernel
theorem dc_Marks_4 : decode prog_4_method_1_code 4 = .ok (.aload_n 0, 1) := by decide +kernel
theorem dc_Marks_5 : decode prog_4_method_1_code 5 = .ok (.aload_n 1, 1) := by decide +kernel
theorem dc_Marks_6 : decode prog_4_method_1_code 6 = .ok (.putfield 9, 3) := by decide +kernel
theorem dc_Marks_9 : decode prog_4_method_1_code 9 = .ok (.aload_n 0, 1) := by decide +kernel
theorem dc_Marks_10 : decode prog_4_method_1_code 10 = .ok (.sipush 192, 3) := by decide +kernel
theorem dc_Marks_13 : decode prog_4_method_1_code 13 = .ok (.newarray .int, 2) := by decide +kernel
theorem dc_Marks_15 : decode prog_4_method_1_code 15 = .ok (.putfield 17, 3) := by decide +kernel
theorem dc_Marks_18 : decode prog_4_method_1_code 18 = .ok (.aload_n 0, 1) := by decide +kernel
theorem dc_Marks_19 : decode prog_4_method_1_code 19 = .ok (.bipush 24, 2) := by decide +kernel
theorem dc_Marks_21 : decode prog_4_method_1_code 21 = .ok (.newarray .int, 2) := by decide +kernel
theorem dc_Marks_23 : decode prog_4_method_1_code 23 = .ok (.putfield 21, 3) := by decide +kernel
theorem dc_Marks_26 : decode prog_4_method_1_code 26 = .ok (.aload_n 0, 1) := by decide +kernel
theorem dc_Marks_27 : decode prog_4_method_1_code 27 = .ok (.bipush 12, 2) := by decide +kernel
theorem dc_Marks_29 : decode prog_4_method_1_code 29 = .ok (.newarray .int, 2) := by decide +kernel
theorem dc_Marks_31 : decode prog_4_method_1_code 31 = .ok (.putfield 24, 3) := by decide +kernel
theorem dc_Marks_34 : decode prog_4_method_1_code 34 = .ok (.aload_n 0, 1) := by decide +kernel
theorem dc_Marks_35 : decode prog_4_method_1_code 35 = .ok (.bipush 12, 2) := by decide +kernel
theorem dc_Marks_37 : decode prog_4_method_1_code 37 = .ok (.newarray .int, 2) := by decide +kernel
theorem dc_Marks_39 : decode prog_4_method_1_code 39 = .ok (.putfield 27, 3) := by decide +kernel
theorem dc_Marks_42 : decode prog_4_method_1_code 42 = .ok (.aload_n 0, 1) := by decide +kernel
theorem dc_Marks_43 : decode prog_4_method_1_code 43 = .ok (.bipush 12, 2) := by decide +kernel
theorem dc_Marks_45 : decode prog_4_method_1_code 45 = .ok (.newarray .int, 2) := by decide +kernel
theorem dc_Marks_47 : decode prog_4_method_1_code 47 = .ok (.putfield 30, 3) := by decide +kernel
theorem dc_Marks_50 : decode prog_4_method_1_code 50 = .ok (.aload_n 0, 1) := by decide +kernel
theorem dc_Marks_51 : decode prog_4_method_1_code 51 = .ok (.bipush 12, 2) := by decide +kernel
theorem dc_Marks_53 : decode prog_4_method_1_code 53 = .ok (.newarray .int, 2) := by decide +kernel
theorem dc_Marks_55 : decode prog_4_method_1_code 55 = .ok (.putfield 33, 3) := by decide +kernel
theorem dc_Marks_58 : decode prog_4_method_1_code 58 = .ok (.return_, 1) := by decide +kernel
theorem gi_Marks : GoodIn sd_tb ws_Marks_init := cn_good (sd_in (List.mem_of_getElem? (i := 254) (by decide +kernel)) rfl)
set_option maxHeartbeats 4000000 in
set_option maxRecDepth 100000 in
theorem cn_Marks (l : Launch) (D : va_G) (cA : Nat → ClassId) (h0 : Nat) (n1 : Nat) (sz : Nat) : Met l y_Marks_init ws_Marks_init ({ frames := 2, cells := 6, slots := 264, locals := 40 }) (va_Pc [.ref h0, .ref n1] (fun U => U.heap.size = sz ∧ va_P D xm_cl [(h0, .inr (2, [.null, .null, .null, .null, .null, .null, .null, .int 0]))] U.heap ∧ va_K D xm_cl (sd_ty cA) U ∧ va_D (fun _ => True) [(h0, .inr (2, [.null, .null, .null, .null, .null, .null, .null, .int 0]))])) (va_Qv (fun _ : Unit => True) (fun (_ : Unit) (t : State) => ∃ (q13 q21 q29 q37 q45 q53 : Nat), va_P D xm_cl [(h0, .inr (2, [.ref n1, .ref q13, .ref q21, .ref q29, .ref q37, .ref q45, .ref q53, .int 0])), (q13, .inl (cA 0, 192, .inl (fun _ => 0))), (q21, .inl (cA 0, 24, .inl (fun _ => 0))), (q29, .inl (cA 0, 12, .inl (fun _ => 0))), (q37, .inl (cA 0, 12, .inl (fun _ => 0))), (q45, .inl (cA 0, 12, .inl (fun _ => 0))), (q53, .inl (cA 0, 12, .inl (fun _ => 0)))] t.heap ∧ va_K D xm_cl (sd_ty cA) t ∧ va_D (va_A [(h0, .inr (2, [.null, .null, .null, .null, .null, .null, .null, .int 0]))] sz) [(h0, .inr (2, [.ref n1, .ref q13, .ref q21, .ref q29, .ref q37, .ref q45, .ref q53, .int 0])), (q13, .inl (cA 0, 192, .inl (fun _ => 0))), (q21, .inl (cA 0, 24, .inl (fun _ => 0))), (q29, .inl (cA 0, 12, .inl (fun _ => 0))), (q37, .inl (cA 0, 12, .inl (fun _ => 0))), (q45, .inl (cA 0, 12, .inl (fun _ => 0))), (q53, .inl (cA 0, 12, .inl (fun _ => 0)))]) (va_A [(h0, .inr (2, [.null, .null, .null, .null, .null, .null, .null, .int 0]))] sz)) 6 264 (va_A [(h0, .inr (2, [.null, .null, .null, .null, .null, .null, .null, .int 0]))] sz) := by
  refine Met.ofW (cc := prog_4_method_1_code) (maxL := 2) (ret := none) (by decide) rfl ?_
  intro p e s m args below meth c s₁ B hml hv
  obtain ⟨rfl, hsz, hP, hK, hD0⟩ := hv
  have hx := B.exec
  have hb := B.bytes
  have hr := B.returns
  have hts0 := atoms_spec (ws := ws_Marks_init) B.pre
  have hts : ∀ w ∈ sd_tb, w.before ([.ref h0, .ref n1] : List Value).toArray s = true := fun w hw => hts0 w (List.mem_cons_of_mem _ hw)
  have hown : s.vm.findClass "ThroughOthers$Marks" = some m.cls := findClass_of_methodNamed B.named
  have hlocks := B.notSynchronized
  have hin : meth.name = "<init>" := (name_of_methodNamed B.named B.method).1
  subst hsz
  have hD := hD0.self (sz := s.heap.size)
  generalize hAe : va_A [(h0, .inr (2, [.null, .null, .null, .null, .null, .null, .null, .int 0]))] s.heap.size = A at hD ⊢
  have hA : ∀ q : Nat, s.heap.size ≤ q → A q := fun q h => by rw [← hAe]; exact Or.inr h
  have hS : va_S A s.heap s.heap [] := va_S.rf
  have hP : va_P D xm_cl [(h0, .inr (2, [.null, .null, .null, .null, .null, .null, .null, .int 0]))] s.heap := hP
  have hl := lv_entry ([.ref h0, .ref n1]) (n := 2) (Nat.le_of_ble_eq_true rfl)
  rw [lg_entry_eq]
  generalize (lg_sl ([.ref h0, .ref n1]) ++ List.replicate (2 - (lg_sl ([.ref h0, .ref n1])).length) Slot.unset).toArray = ls at hl ⊢
  have hl : lv_has ls 2 [(0, .ref h0), (1, .ref n1)] := hl
  refine lv_aload_n hx hb dc_Marks_0 rfl (lv_at hl 0 rfl) ?_
  refine W.objInit hx hb hown (hts _ cw_35) (hts _ cw_1) (hts _ cw_2) rfl (by rw [hml]; exact hl.1) rfl dc_Marks_1 (Nat.le_of_ble_eq_true rfl) (Nat.le_of_ble_eq_true rfl) ?_
  refine W.eq (g2 := F0 m 4 ls []) rfl ?_
  refine lv_aload_n hx hb dc_Marks_4 rfl (lv_at hl 0 rfl) ?_
  refine lv_aload_n hx hb dc_Marks_5 rfl (lv_at hl 1 rfl) ?_
  refine va_putF (D := D) (ci := 2) (v := .ref n1) (ty := .object "ThroughOthers$Records") (C := R_2) (T := T_2) (N := 8) hx hb hts (sd_u in_2) ty_2 ty_2_ok nm_2 hown hK hP hD hS 0 rfl rfl 0 (by decide) (hts (Jvm.Cond.fieldLink "ThroughOthers$Marks" (9 : Nat) "ThroughOthers$Marks" "records" "LThroughOthers$Records;") cw_36) (fun _ h9 => h9) rfl hin rfl (by decide +kernel) rfl rfl (Nat.le_of_ble_eq_true rfl) dc_Marks_6 (fun H locs hP hD hS => ?_)
  have hP : va_P D xm_cl [(h0, .inr (2, [.ref n1, .null, .null, .null, .null, .null, .null, .int 0]))] H := hP
  have hD : va_D A [(h0, .inr (2, [.ref n1, .null, .null, .null, .null, .null, .null, .int 0]))] := hD
  refine lv_aload_n hx hb dc_Marks_9 rfl (lv_at hl 0 rfl) ?_
  refine lv_sipush (v := 192) hx hb dc_Marks_10 (by decide +kernel) ?_
  refine cn_new (atype := .int) (ty := .int) (a0 := (192, .inl (fun _ => 0))) hx hb (hts _ cw_3) rfl hK 0 rfl (by decide) hP hD hS hA (fun _ => rfl) (by decide +kernel) (by decide +kernel) (Nat.le_of_ble_eq_true rfl) (Nat.le_of_ble_eq_true rfl) (Nat.le_of_ble_eq_true rfl) dc_Marks_13 (fun q13 H hP hD hS => ?_)
  have hP : va_P D xm_cl [(h0, .inr (2, [.ref n1, .null, .null, .null, .null, .null, .null, .int 0])), (q13, .inl (cA 0, 192, .inl (fun _ => 0)))] H := hP
  have hD : va_D A [(h0, .inr (2, [.ref n1, .null, .null, .null, .null, .null, .null, .int 0])), (q13, .inl (cA 0, 192, .inl (fun _ => 0)))] := hD
  refine W.widen (k := 1) (n := 192) (Nat.le_of_ble_eq_true rfl) (Nat.le_of_ble_eq_true rfl) ?_
  refine va_putF (D := D) (ci := 2) (v := .ref q13) (ty := .array .int) (C := R_2) (T := T_2) (N := 8) hx hb hts (sd_u in_2) ty_2 ty_2_ok nm_2 hown hK hP hD hS 0 rfl rfl 1 (by decide) (hts (Jvm.Cond.fieldLink "ThroughOthers$Marks" (17 : Nat) "ThroughOthers$Marks" "signs" "[I") cw_37) (fun _ h9 => h9) rfl hin rfl (by decide +kernel) rfl rfl (Nat.le_of_ble_eq_true rfl) dc_Marks_15 (fun H locs hP hD hS => ?_)
  have hP : va_P D xm_cl [(h0, .inr (2, [.ref n1, .ref q13, .null, .null, .null, .null, .null, .int 0])), (q13, .inl (cA 0, 192, .inl (fun _ => 0)))] H := hP
  have hD : va_D A [(h0, .inr (2, [.ref n1, .ref q13, .null, .null, .null, .null, .null, .int 0])), (q13, .inl (cA 0, 192, .inl (fun _ => 0)))] := hD
  refine lv_aload_n hx hb dc_Marks_18 rfl (lv_at hl 0 rfl) ?_
  refine lv_bipush (v := 24) hx hb dc_Marks_19 (by decide +kernel) ?_
  refine cn_new (atype := .int) (ty := .int) (a0 := (24, .inl (fun _ => 0))) hx hb (hts _ cw_3) rfl hK 0 rfl (by decide) hP hD hS hA (fun _ => rfl) (by decide +kernel) (by decide +kernel) (Nat.le_of_ble_eq_true rfl) (Nat.le_of_ble_eq_true rfl) (Nat.le_of_ble_eq_true rfl) dc_Marks_21 (fun q21 H hP hD hS => ?_)
  have hP : va_P D xm_cl [(h0, .inr (2, [.ref n1, .ref q13, .null, .null, .null, .null, .null, .int 0])), (q13, .inl (cA 0, 192, .inl (fun _ => 0))), (q21, .inl (cA 0, 24, .inl (fun _ => 0)))] H := hP
  have hD : va_D A [(h0, .inr (2, [.ref n1, .ref q13, .null, .null, .null, .null, .null, .int 0])), (q13, .inl (cA 0, 192, .inl (fun _ => 0))), (q21, .inl (cA 0, 24, .inl (fun _ => 0)))] := hD
  refine W.widen (k := 2) (n := 216) (Nat.le_of_ble_eq_true rfl) (Nat.le_of_ble_eq_true rfl) ?_
  refine va_putF (D := D) (ci := 2) (v := .ref q21) (ty := .array .int) (C := R_2) (T := T_2) (N := 8) hx hb hts (sd_u in_2) ty_2 ty_2_ok nm_2 hown hK hP hD hS 0 rfl rfl 2 (by decide) (hts (Jvm.Cond.fieldLink "ThroughOthers$Marks" (21 : Nat) "ThroughOthers$Marks" "lengths" "[I") cw_38) (fun _ h9 => h9) rfl hin rfl (by decide +kernel) rfl rfl (Nat.le_of_ble_eq_true rfl) dc_Marks_23 (fun H locs hP hD hS => ?_)
  have hP : va_P D xm_cl [(h0, .inr (2, [.ref n1, .ref q13, .ref q21, .null, .null, .null, .null, .int 0])), (q13, .inl (cA 0, 192, .inl (fun _ => 0))), (q21, .inl (cA 0, 24, .inl (fun _ => 0)))] H := hP
  have hD : va_D A [(h0, .inr (2, [.ref n1, .ref q13, .ref q21, .null, .null, .null, .null, .int 0])), (q13, .inl (cA 0, 192, .inl (fun _ => 0))), (q21, .inl (cA 0, 24, .inl (fun _ => 0)))] := hD
  refine lv_aload_n hx hb dc_Marks_26 rfl (lv_at hl 0 rfl) ?_
  refine lv_bipush (v := 12) hx hb dc_Marks_27 (by decide +kernel) ?_
  refine cn_new (atype := .int) (ty := .int) (a0 := (12, .inl (fun _ => 0))) hx hb (hts _ cw_3) rfl hK 0 rfl (by decide) hP hD hS hA (fun _ => rfl) (by decide +kernel) (by decide +kernel) (Nat.le_of_ble_eq_true rfl) (Nat.le_of_ble_eq_true rfl) (Nat.le_of_ble_eq_true rfl) dc_Marks_29 (fun q29 H hP hD hS => ?_)
  have hP : va_P D xm_cl [(h0, .inr (2, [.ref n1, .ref q13, .ref q21, .null, .null, .null, .null, .int 0])), (q13, .inl (cA 0, 192, .inl (fun _ => 0))), (q21, .inl (cA 0, 24, .inl (fun _ => 0))), (q29, .inl (cA 0, 12, .inl (fun _ => 0)))] H := hP
  have hD : va_D A [(h0, .inr (2, [.ref n1, .ref q13, .ref q21, .null, .null, .null, .null, .int 0])), (q13, .inl (cA 0, 192, .inl (fun _ => 0))), (q21, .inl (cA 0, 24, .inl (fun _ => 0))), (q29, .inl (cA 0, 12, .inl (fun _ => 0)))] := hD
  refine W.widen (k := 3) (n := 228) (Nat.le_of_ble_eq_true rfl) (Nat.le_of_ble_eq_true rfl) ?_
  refine va_putF (D := D) (ci := 2) (v := .ref q29) (ty := .array .int) (C := R_2) (T := T_2) (N := 8) hx hb hts (sd_u in_2) ty_2 ty_2_ok nm_2 hown hK hP hD hS 0 rfl rfl 3 (by decide) (hts (Jvm.Cond.fieldLink "ThroughOthers$Marks" (24 : Nat) "ThroughOthers$Marks" "dealt" "[I") cw_39) (fun _ h9 => h9) rfl hin rfl (by decide +kernel) rfl rfl (Nat.le_of_ble_eq_true rfl) dc_Marks_31 (fun H locs hP hD hS => ?_)
  have hP : va_P D xm_cl [(h0, .inr (2, [.ref n1, .ref q13, .ref q21, .ref q29, .null, .null, .null, .int 0])), (q13, .inl (cA 0, 192, .inl (fun _ => 0))), (q21, .inl (cA 0, 24, .inl (fun _ => 0))), (q29, .inl (cA 0, 12, .inl (fun _ => 0)))] H := hP
  have hD : va_D A [(h0, .inr (2, [.ref n1, .ref q13, .ref q21, .ref q29, .null, .null, .null, .int 0])), (q13, .inl (cA 0, 192, .inl (fun _ => 0))), (q21, .inl (cA 0, 24, .inl (fun _ => 0))), (q29, .inl (cA 0, 12, .inl (fun _ => 0)))] := hD
  refine lv_aload_n hx hb dc_Marks_34 rfl (lv_at hl 0 rfl) ?_
  refine lv_bipush (v := 12) hx hb dc_Marks_35 (by decide +kernel) ?_
  refine cn_new (atype := .int) (ty := .int) (a0 := (12, .inl (fun _ => 0))) hx hb (hts _ cw_3) rfl hK 0 rfl (by decide) hP hD hS hA (fun _ => rfl) (by decide +kernel) (by decide +kernel) (Nat.le_of_ble_eq_true rfl) (Nat.le_of_ble_eq_true rfl) (Nat.le_of_ble_eq_true rfl) dc_Marks_37 (fun q37 H hP hD hS => ?_)
  have hP : va_P D xm_cl [(h0, .inr (2, [.ref n1, .ref q13, .ref q21, .ref q29, .null, .null, .null, .int 0])), (q13, .inl (cA 0, 192, .inl (fun _ => 0))), (q21, .inl (cA 0, 24, .inl (fun _ => 0))), (q29, .inl (cA 0, 12, .inl (fun _ => 0))), (q37, .inl (cA 0, 12, .inl (fun _ => 0)))] H := hP
  have hD : va_D A [(h0, .inr (2, [.ref n1, .ref q13, .ref q21, .ref q29, .null, .null, .null, .int 0])), (q13, .inl (cA 0, 192, .inl (fun _ => 0))), (q21, .inl (cA 0, 24, .inl (fun _ => 0))), (q29, .inl (cA 0, 12, .inl (fun _ => 0))), (q37, .inl (cA 0, 12, .inl (fun _ => 0)))] := hD
  refine W.widen (k := 4) (n := 240) (Nat.le_of_ble_eq_true rfl) (Nat.le_of_ble_eq_true rfl) ?_
  refine va_putF (D := D) (ci := 2) (v := .ref q37) (ty := .array .int) (C := R_2) (T := T_2) (N := 8) hx hb hts (sd_u in_2) ty_2 ty_2_ok nm_2 hown hK hP hD hS 0 rfl rfl 4 (by decide) (hts (Jvm.Cond.fieldLink "ThroughOthers$Marks" (27 : Nat) "ThroughOthers$Marks" "clashing" "[I") cw_40) (fun _ h9 => h9) rfl hin rfl (by decide +kernel) rfl rfl (Nat.le_of_ble_eq_true rfl) dc_Marks_39 (fun H locs hP hD hS => ?_)
  have hP : va_P D xm_cl [(h0, .inr (2, [.ref n1, .ref q13, .ref q21, .ref q29, .ref q37, .null, .null, .int 0])), (q13, .inl (cA 0, 192, .inl (fun _ => 0))), (q21, .inl (cA 0, 24, .inl (fun _ => 0))), (q29, .inl (cA 0, 12, .inl (fun _ => 0))), (q37, .inl (cA 0, 12, .inl (fun _ => 0)))] H := hP
  have hD : va_D A [(h0, .inr (2, [.ref n1, .ref q13, .ref q21, .ref q29, .ref q37, .null, .null, .int 0])), (q13, .inl (cA 0, 192, .inl (fun _ => 0))), (q21, .inl (cA 0, 24, .inl (fun _ => 0))), (q29, .inl (cA 0, 12, .inl (fun _ => 0))), (q37, .inl (cA 0, 12, .inl (fun _ => 0)))] := hD
  refine lv_aload_n hx hb dc_Marks_42 rfl (lv_at hl 0 rfl) ?_
  refine lv_bipush (v := 12) hx hb dc_Marks_43 (by decide +kernel) ?_
  refine cn_new (atype := .int) (ty := .int) (a0 := (12, .inl (fun _ => 0))) hx hb (hts _ cw_3) rfl hK 0 rfl (by decide) hP hD hS hA (fun _ => rfl) (by decide +kernel) (by decide +kernel) (Nat.le_of_ble_eq_true rfl) (Nat.le_of_ble_eq_true rfl) (Nat.le_of_ble_eq_true rfl) dc_Marks_45 (fun q45 H hP hD hS => ?_)
  have hP : va_P D xm_cl [(h0, .inr (2, [.ref n1, .ref q13, .ref q21, .ref q29, .ref q37, .null, .null, .int 0])), (q13, .inl (cA 0, 192, .inl (fun _ => 0))), (q21, .inl (cA 0, 24, .inl (fun _ => 0))), (q29, .inl (cA 0, 12, .inl (fun _ => 0))), (q37, .inl (cA 0, 12, .inl (fun _ => 0))), (q45, .inl (cA 0, 12, .inl (fun _ => 0)))] H := hP
  have hD : va_D A [(h0, .inr (2, [.ref n1, .ref q13, .ref q21, .ref q29, .ref q37, .null, .null, .int 0])), (q13, .inl (cA 0, 192, .inl (fun _ => 0))), (q21, .inl (cA 0, 24, .inl (fun _ => 0))), (q29, .inl (cA 0, 12, .inl (fun _ => 0))), (q37, .inl (cA 0, 12, .inl (fun _ => 0))), (q45, .inl (cA 0, 12, .inl (fun _ => 0)))] := hD
  refine W.widen (k := 5) (n := 252) (Nat.le_of_ble_eq_true rfl) (Nat.le_of_ble_eq_true rfl) ?_
  refine va_putF (D := D) (ci := 2) (v := .ref q45) (ty := .array .int) (C := R_2) (T := T_2) (N := 8) hx hb hts (sd_u in_2) ty_2 ty_2_ok nm_2 hown hK hP hD hS 0 rfl rfl 5 (by decide) (hts (Jvm.Cond.fieldLink "ThroughOthers$Marks" (30 : Nat) "ThroughOthers$Marks" "person" "[I") cw_41) (fun _ h9 => h9) rfl hin rfl (by decide +kernel) rfl rfl (Nat.le_of_ble_eq_true rfl) dc_Marks_47 (fun H locs hP hD hS => ?_)
  have hP : va_P D xm_cl [(h0, .inr (2, [.ref n1, .ref q13, .ref q21, .ref q29, .ref q37, .ref q45, .null, .int 0])), (q13, .inl (cA 0, 192, .inl (fun _ => 0))), (q21, .inl (cA 0, 24, .inl (fun _ => 0))), (q29, .inl (cA 0, 12, .inl (fun _ => 0))), (q37, .inl (cA 0, 12, .inl (fun _ => 0))), (q45, .inl (cA 0, 12, .inl (fun _ => 0)))] H := hP
  have hD : va_D A [(h0, .inr (2, [.ref n1, .ref q13, .ref q21, .ref q29, .ref q37, .ref q45, .null, .int 0])), (q13, .inl (cA 0, 192, .inl (fun _ => 0))), (q21, .inl (cA 0, 24, .inl (fun _ => 0))), (q29, .inl (cA 0, 12, .inl (fun _ => 0))), (q37, .inl (cA 0, 12, .inl (fun _ => 0))), (q45, .inl (cA 0, 12, .inl (fun _ => 0)))] := hD
  refine lv_aload_n hx hb dc_Marks_50 rfl (lv_at hl 0 rfl) ?_
  refine lv_bipush (v := 12) hx hb dc_Marks_51 (by decide +kernel) ?_
  refine cn_new (atype := .int) (ty := .int) (a0 := (12, .inl (fun _ => 0))) hx hb (hts _ cw_3) rfl hK 0 rfl (by decide) hP hD hS hA (fun _ => rfl) (by decide +kernel) (by decide +kernel) (Nat.le_of_ble_eq_true rfl) (Nat.le_of_ble_eq_true rfl) (Nat.le_of_ble_eq_true rfl) dc_Marks_53 (fun q53 H hP hD hS => ?_)
  have hP : va_P D xm_cl [(h0, .inr (2, [.ref n1, .ref q13, .ref q21, .ref q29, .ref q37, .ref q45, .null, .int 0])), (q13, .inl (cA 0, 192, .inl (fun _ => 0))), (q21, .inl (cA 0, 24, .inl (fun _ => 0))), (q29, .inl (cA 0, 12, .inl (fun _ => 0))), (q37, .inl (cA 0, 12, .inl (fun _ => 0))), (q45, .inl (cA 0, 12, .inl (fun _ => 0))), (q53, .inl (cA 0, 12, .inl (fun _ => 0)))] H := hP
  have hD : va_D A [(h0, .inr (2, [.ref n1, .ref q13, .ref q21, .ref q29, .ref q37, .ref q45, .null, .int 0])), (q13, .inl (cA 0, 192, .inl (fun _ => 0))), (q21, .inl (cA 0, 24, .inl (fun _ => 0))), (q29, .inl (cA 0, 12, .inl (fun _ => 0))), (q37, .inl (cA 0, 12, .inl (fun _ => 0))), (q45, .inl (cA 0, 12, .inl (fun _ => 0))), (q53, .inl (cA 0, 12, .inl (fun _ => 0)))] := hD
  refine W.widen (k := 6) (n := 264) (Nat.le_of_ble_eq_true rfl) (Nat.le_of_ble_eq_true rfl) ?_
  refine va_putF (D := D) (ci := 2) (v := .ref q53) (ty := .array .int) (C := R_2) (T := T_2) (N := 8) hx hb hts (sd_u in_2) ty_2 ty_2_ok nm_2 hown hK hP hD hS 0 rfl rfl 6 (by decide) (hts (Jvm.Cond.fieldLink "ThroughOthers$Marks" (33 : Nat) "ThroughOthers$Marks" "members" "[I") cw_42) (fun _ h9 => h9) rfl hin rfl (by decide +kernel) rfl rfl (Nat.le_of_ble_eq_true rfl) dc_Marks_55 (fun H locs hP hD hS => ?_)
  have hP : va_P D xm_cl [(h0, .inr (2, [.ref n1, .ref q13, .ref q21, .ref q29, .ref q37, .ref q45, .ref q53, .int 0])), (q13, .inl (cA 0, 192, .inl (fun _ => 0))), (q21, .inl (cA 0, 24, .inl (fun _ => 0))), (q29, .inl (cA 0, 12, .inl (fun _ => 0))), (q37, .inl (cA 0, 12, .inl (fun _ => 0))), (q45, .inl (cA 0, 12, .inl (fun _ => 0))), (q53, .inl (cA 0, 12, .inl (fun _ => 0)))] H := hP
  have hD : va_D A [(h0, .inr (2, [.ref n1, .ref q13, .ref q21, .ref q29, .ref q37, .ref q45, .ref q53, .int 0])), (q13, .inl (cA 0, 192, .inl (fun _ => 0))), (q21, .inl (cA 0, 24, .inl (fun _ => 0))), (q29, .inl (cA 0, 12, .inl (fun _ => 0))), (q37, .inl (cA 0, 12, .inl (fun _ => 0))), (q45, .inl (cA 0, 12, .inl (fun _ => 0))), (q53, .inl (cA 0, 12, .inl (fun _ => 0)))] := hD
  have hP9 := hP.sub (ws' := [(h0, .inr (2, [.ref n1, .ref q13, .ref q21, .ref q29, .ref q37, .ref q45, .ref q53, .int 0])), (q13, .inl (cA 0, 192, .inl (fun _ => 0))), (q21, .inl (cA 0, 24, .inl (fun _ => 0))), (q29, .inl (cA 0, 12, .inl (fun _ => 0))), (q37, .inl (cA 0, 12, .inl (fun _ => 0))), (q45, .inl (cA 0, 12, .inl (fun _ => 0))), (q53, .inl (cA 0, 12, .inl (fun _ => 0)))]) [0, 1, 2, 3, 4, 5, 6] rfl
  have hD9 := hD.sub (ws' := [(h0, .inr (2, [.ref n1, .ref q13, .ref q21, .ref q29, .ref q37, .ref q45, .ref q53, .int 0])), (q13, .inl (cA 0, 192, .inl (fun _ => 0))), (q21, .inl (cA 0, 24, .inl (fun _ => 0))), (q29, .inl (cA 0, 12, .inl (fun _ => 0))), (q37, .inl (cA 0, 12, .inl (fun _ => 0))), (q45, .inl (cA 0, 12, .inl (fun _ => 0))), (q53, .inl (cA 0, 12, .inl (fun _ => 0)))]) [0, 1, 2, 3, 4, 5, 6] (by decide) rfl
  exact W.vret hx hb hr (fun t ht hW => ⟨⟨(), rfl, trivial, q13, q21, q29, q37, q45, q53, by rw [ht]; exact hP9, va_K.moved hW.alike hK, hD9⟩, hS.F ht⟩) hS.2.2 dc_Marks_58
