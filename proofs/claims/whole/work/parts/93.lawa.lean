/-! THE CLAIM OUT OF ONE WALK OF THE LAW'S BODY. Your part is whole_start (and what it stands on); all else here is the same for every law, but numbers. -/
def R_law : String := "ThroughOthersLaw"
def lw_P (b : Addr) (xs : List Int32) (args : Array Value) (s : State) : Prop := args = #[.ref b] ∧ s.IntsAt b xs ∧ xs.length ≤ 3072 ∧ (Jvm.Cond.and given_1 narrow_1).before args s = true
def lw_Q (_ : Array Value) (s : State) (o : Outcome) (t : State) : Prop := o = .returned (some (.int 1)) ∧ Framed s o t [] 600000 7302250
def lw_Z (below : List Frame) (a : Array Value) (s : State) : State → Prop := fun t => ∃ o, t.status = .running ∧ Ended t below o ∧ lw_Q a s o t
/-- the law's own end, with 1 on the stack, nothing written that was there before, its room as the claim has it -/
theorem lw_ret {p : Program} {l : Launch} {e : Env} {s : State} {m : MethodId} {below : List Frame} {meth : Method} {c : Code} {b : Nat} (hx : p.tables.exec = Jvm.exec) (hb : c.code = code) (hr : meth.sig.returnType = ret) (hlocks : meth.locks = false) {pc : Nat} {H : Heap} {ls : Array Slot} (hdg : decode code pc = .ok (.ireturn, 1)) : W p l e room_1 s m #[Value.ref b] below meth c H [] 600000 7302250 (lw_Z below #[Value.ref b] s) (F0 m pc ls [.int 1]) := by
  intro T hT X
  obtain ⟨fs, hret, hrun, hended, hW, hframe⟩ := X.leave (v := some (.int 1)) (hlocks := hlocks) (fun h => by rw [hr] at h; cases h)
  have hmeth' : T.vm.method? m = some meth := X.method'
  refine ⟨T.setFrames fs, ?_, .returned (some (.int 1)), hrun, hended, rfl, ⟨_, rfl⟩, hW, hframe⟩
  jvm_step X.here [X.here.top, hx, hb, hdg, hmeth', hr, ret, narrow_b1]
  (try refine ⟨rfl, ?_⟩); (try refine ⟨rfl, ?_⟩)
  first | (intro acts; rw [hret _ acts rfl rfl rfl]) | rw [hret _ _ rfl rfl rfl]
  exact Steps.refl _
/-- what holds at the law's entry: the machine, the code, the tables' words (any of lw_tbl by 'hts w (by decide +kernel)'), the script of L ints xs at the cell b, what the Statement gives of the start (any of its parts by flat_of_before) -/
def lw_At (p : Program) (s : State) (m : MethodId) (meth : Method) (c : Code) (b L : Nat) (xs : Nat → Int32) : Prop :=
  p.tables.exec = Jvm.exec ∧ c.code = code ∧ meth.sig.returnType = ret ∧ c.maxLocals = 4 ∧ s.vm.findClass R_law = some m.cls ∧ (∀ w ∈ lw_tbl, w.before #[Value.ref b] s = true) ∧ va_X b L xs s s.heap ∧ b < s.heap.size ∧ meth.locks = false ∧ (Jvm.Cond.and given_1 narrow_1).before #[Value.ref b] s = true
theorem lc_sdtb {b : Nat} {s : State} (h : ∀ w ∈ lw_tbl, w.before #[Value.ref b] s = true) : ∀ w ∈ sd_tb, w.before #[Value.ref b] s = true := fun w hw => h w (List.mem_filter.mp hw).1
/-- what holds all along the law's walk -/
def lc_C (p : Program) (s : State) (m : MethodId) (meth : Method) (c : Code) (b L : Nat) (xs : Nat → Int32) (ad : Nat → Nat) (cA : Nat → ClassId) (D : va_G) : Prop :=
  p.tables.exec = Jvm.exec ∧ c.code = code ∧ meth.sig.returnType = ret ∧ c.maxLocals = 4 ∧ s.vm.findClass R_law = some m.cls ∧ (∀ w ∈ sd_tb, w.before #[Value.ref b] s = true) ∧ va_X b L xs s s.heap ∧ b < s.heap.size ∧ meth.locks = false ∧ va_K D xm_cl (sd_ty cA) s ∧ sd_inj ad ∧ (∀ k, k < xm_sh.length → s.heap.size ≤ ad k) ∧ L ≤ 3072
/-- the cells, at a store -/
def lc_S (s : State) (ad : Nat → Nat) (cA : Nat → ClassId) (D : va_G) (σ : Sg) (H : Heap) (locs : List Loc) : Prop := va_P D xm_cl (sd_w ad cA σ) H ∧ va_S (fun q => s.heap.size ≤ q) s.heap H locs
def lc_L (ls : Array Slot) (b : Nat) (ad : Nat → Nat) (k : Nat) : Prop := lv_has ls 4 [(3, .int (nI (6 * k))), (2, .ref (ad 39)), (1, .ref (ad 0)), (0, .ref b)]
section LCR
variable {p : Program} {l : Launch} {e : Env} {s : State} {m : MethodId} {below : List Frame} {meth : Method} {c : Code} {b L : Nat} {xs : Nat → Int32} {ad : Nat → Nat} {cA : Nat → ClassId} {D : va_G} {Q : State → Prop} {H : Heap} {locs : List Loc} {ls : Array Slot} {rest : List Value} {σ : Sg} {pc k : Nat}
/-- a call of a method of one of the two objects -/
theorem lc_call (C : lc_C p s m meth c b L xs ad cA D) (hH : lc_S s ad cA D σ H locs) (hls : ls.size = 4) {M o z : Nat} {q : MI} {as : List Value} {fs : List Nat} {r : RV} (hM : sd_ml[M]? = some q) (hlk : Cond.methodLink R_law z (mi_y q) ∈ sd_tb) (hn : as.length = mi_n q) (hob : xm_at xm_sh o = some (.inr (mi_c q, fs))) (hst : mi_c q ≠ 99) (has : as.map (sd_cv ad) = as)
    (hc : xm_call 21 M (.ref o :: as) σ = some r) (hrest : (rest.map fun v => v.category).sum ≤ 8) (hd : decode code pc = .ok (.invokevirtual z, 3))
    (kk : ∀ (H1 : Heap) (locs1 : List Loc), lc_S s ad cA D r.2 H1 locs1 → W p l e room_1 s m #[Value.ref b] below meth c H1 locs1 70 6996 Q (F0 m (pc + 3) ls ((r.1.map (sd_cv ad)).toList ++ rest))) : W p l e room_1 s m #[Value.ref b] below meth c H locs 70 6996 Q (F0 m pc ls (as.reverse ++ .ref (ad o) :: rest)) := by
  obtain ⟨hx, hb, hr, hml, hown, hts, hX, hbl, hlocks, hK, hi, hA, hL⟩ := C
  obtain ⟨hP, hS⟩ := hH
  have hMet := sd_mets (l := l) (cA := cA) (D := D) hi 21 M (.ref o :: as) σ r q hc hM
  have hq := sd_all q (List.mem_of_getElem? hM)
  rcases hq.2.2.2.2.2.2.1 with ⟨u6, -⟩ | ⟨u6, u7, cc', u8, u9⟩
  · exact absurd u6 hst
  have hcb : CallB room_1 s #[Value.ref b] R_law z (mi_y q) (mi_b q) (mi_L q) (mi_r q) (sd_ws q) (sd_rm 21) 0 0 (mi_n q) := callB_of (mi_n q) hts (sd_goodIn hq) rfl rfl rfl (hts _ hq.2.2.2.2.1) (hts _ hlk) hq.2.2.2.1 ⟨Nat.le_of_ble_eq_true rfl, by have := hq.2.2.2.2.2.2.2.1; show 8 + (mi_L q + 11) + 64 * 21 ≤ 84000; omega⟩
  have hrun := va_runV (l := l) (e := e) (below := below) (meth := meth) (H := H) (locs := locs) (cells := 70) (slots := 6996) (g := F0 m pc ls (as.reverse ++ .ref (ad o) :: rest)) (C := (mi_y q).cls) (As := as) (rest := rest) (b := ad o) ⟨hx, hb, hml, hown, hts⟩ hMet ⟨hcb, hts _ u6, hts _ u7⟩ ⟨sd_blind, by
      have h9 := va_recv (ci := mi_c q) hK hP u8 (sd_w_at hob)
      rw [u9] at h9
      exact h9, fun U hU hW => ⟨by rw [List.map_cons, has]; rfl, by rw [hU]; exact hP, va_K.moved hW.alike hK⟩⟩ rfl hn hls rfl (lv_room hrest) hd ⟨Nat.le_of_ble_eq_true rfl, Nat.le_of_ble_eq_true rfl⟩
  intro T hT X
  obtain ⟨v, st₀, t, T', L', h0, X', hL', e1, e2, ⟨hv, hP', hz, hk⟩, st⟩ := hrun T hT X
  cases hv
  rw [h0] at hz hk
  have hsub : ∀ q : Nat, sd_A ad q → s.heap.size ≤ q := fun q h => by
    obtain ⟨k, h1, rfl⟩ := h
    exact hA k h1
  have hS' : va_S (fun q => s.heap.size ≤ q) s.heap T'.heap (locs ++ L') := by
    refine ⟨by rw [e1]; exact Nat.le_trans hS.1 hz, fun q h1 h2 => ?_, fun q hq => ?_⟩
    · rw [e1, hk q (Nat.lt_of_lt_of_le h1 hS.1) (fun h => h2 (hsub q h))]
      exact hS.2.1 q h1 h2
    · rcases List.mem_append.mp hq with h | h
      · exact hS.2.2 q h
      · exact hsub _ (hL' q h)
  obtain ⟨t2, a1, b1⟩ := kk T'.heap (locs ++ L') ⟨by rw [e1]; exact hP', hS'⟩ T' rfl X'
  exact ⟨t2, st t2 a1, b1⟩
/-- script[i + j] onto the stack -/
theorem lc_arg (C : lc_C p s m meth c b L xs ad cA D) (hH : lc_S s ad cA D σ H locs) (hl : lc_L ls b ad k) (hk : 6 * k + 6 ≤ L) (j : Nat) (hj : j < 6) {n : Int} (hn : Int32.ofInt n = nI j) (d1 : decode code pc = .ok (.aload_n 0, 1)) (d2 : decode code (pc + 1) = .ok (.iload_n 3, 1)) (d3 : decode code (pc + 2) = .ok (.iconst n, 1)) (d4 : decode code (pc + 3) = .ok (.iadd, 1)) (d5 : decode code (pc + 4) = .ok (.iaload, 1))
    (kk : W p l e room_1 s m #[Value.ref b] below meth c H locs 70 6996 Q (F0 m (pc + 5) ls (.int (xs (6 * k + j)) :: rest))) : W p l e room_1 s m #[Value.ref b] below meth c H locs 70 6996 Q (F0 m pc ls rest) := by
  obtain ⟨hx, hb, hr, hml, hown, hts, hX, hbl, hlocks, hK, hi, hA, hL⟩ := C
  obtain ⟨hP, hS⟩ := hH
  refine lv_aload_n hx hb d1 rfl (lv_at hl 3 rfl) ?_
  refine lv_iload_n hx hb d2 rfl (lv_at hl 0 rfl) ?_
  refine lv_iconst (v := nI j) hx hb d3 hn ?_
  refine lv_iadd hx hb d4 ?_
  rw [nI_add]
  refine va_sld hx hb hX hbl (Nat.not_le.mpr hbl) hS (nI_in (show 6 * k + j < L by omega) (by omega)) d5 ?_
  rw [nI_clamp (by omega)]
  exact kk
end LCR
