/-! WHAT THE SMALL MACHINE SAYS HOLDS OF THE JVM: words for it -/
def sd_cv (ad : Nat → Nat) : Value → Value
  | .ref k => .ref (ad k)
  | v => v
theorem sd_cv_cat (ad : Nat → Nat) (v : Value) : (sd_cv ad v).category = v.category := by cases v <;> rfl
def sd_fs (ad : Nat → Nat) (σ : Sg) (b : Nat) : Nat → List Nat → List Value
  | _, [] => []
  | j, f :: r => sd_cv ad (xm_fv σ b j f) :: sd_fs ad σ b (j + 1) r
def sd_ce (ad : Nat → Nat) (cA : Nat → ClassId) (σ : Sg) (b : Nat) : Sh → va_E
  | .inl (0, n, _) => .inl (cA 0, n, .inl (σ.1 b))
  | .inl (1, n, _) => .inl (cA 1, n, .inr (.inl (σ.2 b)))
  | .inl (2, n, _) => .inl (cA 2, n, .inl (σ.1 b))
  | .inl (_ + 3, n, z) => .inl (cA 3, n, .inr (.inr (.inr (.inr (fun j => if j < n then some (ad (z + j)) else none)))))
  | .inr (ci, fs) => .inr (ci, sd_fs ad σ b 0 fs)
def sd_wl (ad : Nat → Nat) (cA : Nat → ClassId) (σ : Sg) : Nat → List Sh → va_W
  | _, [] => []
  | b, s :: r => (ad b, sd_ce ad cA σ b s) :: sd_wl ad cA σ (b + 1) r
def sd_w (ad : Nat → Nat) (cA : Nat → ClassId) (σ : Sg) : va_W := sd_wl ad cA σ 0 xm_sh
def sd_ty (cA : Nat → ClassId) : List (ClassId × FieldType) := [(cA 0, .int), (cA 1, .long), (cA 2, .boolean), (cA 3, .array .int)]
def sd_A (ad : Nat → Nat) : Nat → Prop := fun q => ∃ k, k < xm_sh.length ∧ q = ad k
def sd_inj (ad : Nat → Nat) : Prop := ∀ i j, i < xm_sh.length → j < xm_sh.length → ad i = ad j → i = j
theorem xm_at_eq {α : Type} : ∀ (l : List α) (k : Nat), xm_at l k = l[k]?
  | [], _ => rfl
  | _ :: _, 0 => rfl
  | _ :: l, k + 1 => by
    rw [List.getElem?_cons_succ]
    exact xm_at_eq l k
theorem xm_at_lt {α : Type} {l : List α} {k : Nat} {x : α} (h : xm_at l k = some x) : k < l.length := by
  rw [xm_at_eq] at h
  exact (List.getElem?_eq_some_iff.mp h).1
theorem sd_wl_at {ad : Nat → Nat} {cA : Nat → ClassId} {σ : Sg} : ∀ (sh : List Sh) (b k : Nat), (sd_wl ad cA σ b sh)[k]? = (xm_at sh k).map (fun s => (ad (b + k), sd_ce ad cA σ (b + k) s))
  | [], _, _ => rfl
  | _ :: _, _, 0 => rfl
  | s :: r, b, k + 1 => by
    show ((ad b, sd_ce ad cA σ b s) :: sd_wl ad cA σ (b + 1) r)[k + 1]? = _
    rw [List.getElem?_cons_succ, sd_wl_at r (b + 1) k, show b + 1 + k = b + (k + 1) by omega]
    rfl
theorem sd_w_at {ad : Nat → Nat} {cA : Nat → ClassId} {σ : Sg} {k : Nat} {s : Sh} (h : xm_at xm_sh k = some s) : (sd_w ad cA σ)[k]? = some (ad k, sd_ce ad cA σ k s) := by
  unfold sd_w
  rw [sd_wl_at, h, Nat.zero_add]
  rfl
theorem sd_fs_eq {ad : Nat → Nat} {σ τ : Sg} {b : Nat} (h1 : τ.1 b = σ.1 b) (h2 : τ.2 b = σ.2 b) : ∀ (fs : List Nat) (j : Nat), sd_fs ad τ b j fs = sd_fs ad σ b j fs
  | [], _ => rfl
  | f :: r, j => by
    show sd_cv ad (xm_fv τ b j f) :: _ = sd_cv ad (xm_fv σ b j f) :: _
    rw [sd_fs_eq h1 h2 r (j + 1)]
    congr 2
    match f with
    | 0 => show Value.int (τ.1 b j) = Value.int (σ.1 b j); rw [h1]
    | 1 => show Value.long (τ.2 b j) = Value.long (σ.2 b j); rw [h2]
    | _ + 2 => rfl
theorem sd_ce_eq {ad : Nat → Nat} {cA : Nat → ClassId} {σ τ : Sg} {b : Nat} (h1 : τ.1 b = σ.1 b) (h2 : τ.2 b = σ.2 b) (s : Sh) : sd_ce ad cA τ b s = sd_ce ad cA σ b s := by
  rcases s with ⟨y, n, z⟩ | ⟨ci, fs⟩
  · match y with
    | 0 => show (Sum.inl (cA 0, n, Sum.inl (τ.1 b)) : va_E) = Sum.inl (cA 0, n, Sum.inl (σ.1 b)); rw [h1]
    | 1 => show (Sum.inl (cA 1, n, Sum.inr (Sum.inl (τ.2 b))) : va_E) = Sum.inl (cA 1, n, Sum.inr (Sum.inl (σ.2 b))); rw [h2]
    | 2 => show (Sum.inl (cA 2, n, Sum.inl (τ.1 b)) : va_E) = Sum.inl (cA 2, n, Sum.inl (σ.1 b)); rw [h1]
    | _ + 3 => rfl
  · show (Sum.inr (ci, sd_fs ad τ b 0 fs) : va_E) = Sum.inr (ci, sd_fs ad σ b 0 fs)
    rw [sd_fs_eq h1 h2]
theorem sd_w_set {ad : Nat → Nat} {cA : Nat → ClassId} {σ τ : Sg} {k : Nat} {s : Sh} (hk : xm_at xm_sh k = some s) (h : ∀ c, c ≠ k → τ.1 c = σ.1 c ∧ τ.2 c = σ.2 c) : (sd_w ad cA σ).set k (ad k, sd_ce ad cA τ k s) = sd_w ad cA τ := by
  apply List.ext_getElem?
  intro j
  by_cases hj : j = k
  · subst hj
    rw [sd_w_at (σ := τ) hk, List.getElem?_set_self (List.getElem?_eq_some_iff.mp (sd_w_at (ad := ad) (cA := cA) (σ := σ) hk)).1]
  · rw [List.getElem?_set_ne (Ne.symm hj)]
    unfold sd_w
    rw [sd_wl_at, sd_wl_at, Nat.zero_add]
    cases xm_at xm_sh j with
    | none => rfl
    | some s' =>
      show some (ad j, sd_ce ad cA σ j s') = some (ad j, sd_ce ad cA τ j s')
      rw [sd_ce_eq (h j hj).1 (h j hj).2]
theorem sd_D {ad : Nat → Nat} (hi : sd_inj ad) (cA : Nat → ClassId) (σ : Sg) : va_D (sd_A ad) (sd_w ad cA σ) := by
  have key : ∀ (k : Nat) (q : Nat × va_E), (sd_w ad cA σ)[k]? = some q → k < xm_sh.length ∧ q.1 = ad k := by
    intro k q hq
    unfold sd_w at hq
    rw [sd_wl_at, Nat.zero_add] at hq
    cases hs : xm_at xm_sh k with
    | none => rw [hs] at hq; cases hq
    | some s => rw [hs] at hq; cases hq; exact ⟨xm_at_lt hs, rfl⟩
  refine ⟨fun i j x y hx hy hxy => ?_, fun k q hq => ?_⟩
  · obtain ⟨h1, h2⟩ := key i x hx
    obtain ⟨h3, h4⟩ := key j y hy
    exact hi i j h1 h3 (h2.symm.trans (hxy.trans h4))
  · obtain ⟨h1, h2⟩ := key k q hq
    exact ⟨k, h1, h2⟩
theorem sd_fs_at {ad : Nat → Nat} {σ : Sg} {b : Nat} : ∀ (fs : List Nat) (j k : Nat), (sd_fs ad σ b j fs)[k]? = (xm_at fs k).map (fun f => sd_cv ad (xm_fv σ b (j + k) f))
  | [], _, _ => rfl
  | _ :: _, _, 0 => rfl
  | f :: r, j, k + 1 => by
    show (sd_cv ad (xm_fv σ b j f) :: sd_fs ad σ b (j + 1) r)[k + 1]? = _
    rw [List.getElem?_cons_succ, sd_fs_at r (j + 1) k, show j + 1 + k = j + (k + 1) by omega]
    rfl
theorem sd_fs_len {ad : Nat → Nat} {σ : Sg} {b : Nat} : ∀ (fs : List Nat) (j : Nat), (sd_fs ad σ b j fs).length = fs.length
  | [], _ => rfl
  | _ :: r, j => congrArg Nat.succ (sd_fs_len r (j + 1))
theorem sd_sI_1 (σ : Sg) (b j : Nat) (x : Int32) : (xm_sI σ b j x).1 b = upd (σ.1 b) j x := if_pos rfl
theorem sd_sL_2 (σ : Sg) (b j : Nat) (x : Int64) : (xm_sL σ b j x).2 b = vp_updL (σ.2 b) j x := if_pos rfl
theorem sd_sI_ne {σ : Sg} {b j c : Nat} {x : Int32} (h : c ≠ b) : (xm_sI σ b j x).1 c = σ.1 c ∧ (xm_sI σ b j x).2 c = σ.2 c := ⟨if_neg h, rfl⟩
theorem sd_sL_ne {σ : Sg} {b j c : Nat} {x : Int64} (h : c ≠ b) : (xm_sL σ b j x).1 c = σ.1 c ∧ (xm_sL σ b j x).2 c = σ.2 c := ⟨rfl, if_neg h⟩
theorem sd_fs_put {ad : Nat → Nat} {σ τ : Sg} {b : Nat} {fs : List Nat} {k f : Nat} {v : Value} (hf : xm_at fs k = some f) (hv : sd_cv ad (xm_fv τ b k f) = v) (ho : ∀ j g, j ≠ k → xm_at fs j = some g → xm_fv τ b j g = xm_fv σ b j g) : (sd_fs ad σ b 0 fs).set k v = sd_fs ad τ b 0 fs := by
  apply List.ext_getElem?
  intro j
  rw [sd_fs_at, Nat.zero_add]
  by_cases hj : j = k
  · subst hj
    rw [List.getElem?_set_self (by rw [sd_fs_len]; exact xm_at_lt hf), hf, ← hv]
    rfl
  · rw [List.getElem?_set_ne (Ne.symm hj), sd_fs_at, Nat.zero_add]
    cases hg : xm_at fs j with
    | none => rfl
    | some g =>
      show some (sd_cv ad (xm_fv σ b j g)) = some (sd_cv ad (xm_fv τ b j g))
      rw [ho j g hj hg]
theorem sd_fs_putI {ad : Nat → Nat} {σ : Sg} {b : Nat} {fs : List Nat} {k : Nat} {x : Int32} (hf : xm_at fs k = some 0) : (sd_fs ad σ b 0 fs).set k (.int x) = sd_fs ad (xm_sI σ b k x) b 0 fs := by
  refine sd_fs_put hf ?_ ?_
  · show Value.int ((xm_sI σ b k x).1 b k) = _
    rw [sd_sI_1, upd, if_pos rfl]
  · intro j g hj _
    match g with
    | 0 => show Value.int ((xm_sI σ b k x).1 b j) = Value.int (σ.1 b j); rw [sd_sI_1, upd, if_neg hj]
    | 1 => rfl
    | _ + 2 => rfl
theorem sd_fs_putL {ad : Nat → Nat} {σ : Sg} {b : Nat} {fs : List Nat} {k : Nat} {x : Int64} (hf : xm_at fs k = some 1) : (sd_fs ad σ b 0 fs).set k (.long x) = sd_fs ad (xm_sL σ b k x) b 0 fs := by
  refine sd_fs_put hf ?_ ?_
  · show Value.long ((xm_sL σ b k x).2 b k) = _
    rw [sd_sL_2, vp_updL, if_pos rfl]
  · intro j g hj _
    match g with
    | 0 => rfl
    | 1 => show Value.long ((xm_sL σ b k x).2 b j) = Value.long (σ.2 b j); rw [sd_sL_2, vp_updL, if_neg hj]
    | _ + 2 => rfl
-- the locals
def sd_LR (ad : Nat → Nat) (ls : Array Slot) (nL : Nat) (xs : List Value) : Prop := ls.size = nL ∧ lv_wf ls ∧ ∀ i v, xm_nth xs i = v → v ≠ .null → ls[i]? = some (.val (sd_cv ad v))
def sd_prs (ad : Nat → Nat) (xs : List Value) : List (Nat × Value) := (List.range xs.length).filterMap (fun i => if xm_nth xs i = .null then none else some (i, sd_cv ad (xm_nth xs i)))
theorem sd_nth_lt : ∀ {xs : List Value} {i : Nat}, xm_nth xs i ≠ .null → i < xs.length
  | [], _, h => absurd rfl h
  | _ :: _, 0, _ => Nat.zero_lt_succ _
  | _ :: _, _ + 1, h => Nat.succ_lt_succ (sd_nth_lt h)
theorem sd_prs_mem {ad : Nat → Nat} {xs : List Value} {i : Nat} {v : Value} (h : xm_nth xs i = v) (hv : v ≠ .null) : (i, sd_cv ad v) ∈ sd_prs ad xs := by
  subst h
  exact List.mem_filterMap.mpr ⟨i, List.mem_range.mpr (sd_nth_lt hv), if_neg hv⟩
theorem sd_LR.lv {ad : Nat → Nat} {ls : Array Slot} {nL : Nat} {xs : List Value} (h : sd_LR ad ls nL xs) : lv_has ls nL (sd_prs ad xs) := by
  refine ⟨h.1, h.2.1, fun q hq => ?_⟩
  obtain ⟨i, -, hi⟩ := List.mem_filterMap.mp hq
  by_cases hn : xm_nth xs i = .null
  · rw [if_pos hn] at hi; cases hi
  · rw [if_neg hn] at hi
    cases hi
    exact h.2.2 i _ rfl hn
theorem sd_hd {a w : Value} (h : xm_hd a = w) (hw : w ≠ .null) : a = w ∧ w.category = 1 := by
  subst h
  cases a <;> first | exact ⟨rfl, rfl⟩ | exact absurd rfl hw
/-- what the new locals hold: the new value, or an old one that isn't the half of a long -/
theorem sd_st1 : ∀ (xs : List Value) (i : Nat) (v : Value) (j : Nat) (w : Value), xm_nth (xm_st1 xs i v) j = w → w ≠ .null → (j = i ∧ w = v) ∨ (j ≠ i ∧ xm_nth xs j = w ∧ (j + 1 = i → w.category = 1))
  | [], _, _, _, _, h, hw => absurd h.symm hw
  | _ :: l, 0, v, 0, w, h, hw => Or.inl ⟨rfl, h.symm⟩
  | _ :: l, 0, v, j + 1, w, h, hw => Or.inr ⟨by omega, h, by omega⟩
  | a :: l, n + 1, v, 0, w, h, hw => by
    refine Or.inr ⟨by omega, ?_⟩
    have h : xm_kh a n = w := h
    match n with
    | 0 => exact ⟨(sd_hd h hw).1, fun _ => (sd_hd h hw).2⟩
    | n + 1 => exact ⟨h, by omega⟩
  | a :: l, n + 1, v, j + 1, w, h, hw => by
    rcases sd_st1 l n v j w h hw with ⟨h1, h2⟩ | ⟨h1, h2, h3⟩
    · exact Or.inl ⟨by omega, h2⟩
    · exact Or.inr ⟨by omega, h2, fun e => h3 (by omega)⟩
theorem sd_st2 : ∀ (xs : List Value) (i : Nat) (v : Value) (j : Nat) (w : Value), xm_nth (xm_st2 xs i v) j = w → w ≠ .null → (j = i ∧ w = v) ∨ (j ≠ i ∧ j ≠ i + 1 ∧ xm_nth xs j = w ∧ (j + 1 = i → w.category = 1))
  | [], _, _, _, _, h, hw => absurd h.symm hw
  | _ :: l, 0, v, 0, w, h, hw => Or.inl ⟨rfl, h.symm⟩
  | _ :: [], 0, v, j + 1, w, h, hw => absurd h.symm hw
  | _ :: _ :: l, 0, v, 1, w, h, hw => absurd h.symm hw
  | _ :: _ :: l, 0, v, j + 2, w, h, hw => Or.inr ⟨by omega, by omega, h, by omega⟩
  | a :: l, n + 1, v, 0, w, h, hw => by
    refine Or.inr ⟨by omega, by omega, ?_⟩
    have h : xm_kh a n = w := h
    match n with
    | 0 => exact ⟨(sd_hd h hw).1, fun _ => (sd_hd h hw).2⟩
    | n + 1 => exact ⟨h, by omega⟩
  | a :: l, n + 1, v, j + 1, w, h, hw => by
    rcases sd_st2 l n v j w h hw with ⟨h1, h2⟩ | ⟨h1, h1', h2, h3⟩
    · exact Or.inl ⟨by omega, h2⟩
    · exact Or.inr ⟨by omega, by omega, h2, fun e => h3 (by omega)⟩
theorem sd_LR.st1 {ad : Nat → Nat} {ls' : Array Slot} {nL : Nat} {xs : List Value} {i : Nat} {v : Value} (h : lv_has ls' nL ((i, sd_cv ad v) :: (sd_prs ad xs).filter (fun q => !(q.1 == i) && !(q.1 + 1 == i && q.2.category == 2)))) : sd_LR ad ls' nL (xm_st1 xs i v) := by
  refine ⟨h.1, h.2.1, fun j w hj hw => ?_⟩
  rcases sd_st1 xs i v j w hj hw with ⟨rfl, rfl⟩ | ⟨h1, h2, h3⟩
  · exact h.2.2 _ List.mem_cons_self
  · refine h.2.2 (j, sd_cv ad w) (List.mem_cons_of_mem _ (List.mem_filter.mpr ⟨sd_prs_mem h2 hw, ?_⟩))
    by_cases e : j + 1 = i
    · have hc := (sd_cv_cat ad w).trans (h3 e)
      simp [h1, hc]
    · simp [h1, e]
theorem sd_LR.st2 {ad : Nat → Nat} {ls' : Array Slot} {nL : Nat} {xs : List Value} {i : Nat} {v : Value} (h : lv_has ls' nL ((i, sd_cv ad v) :: (sd_prs ad xs).filter (fun q => !(q.1 == i) && (!(q.1 == i + 1) && !(q.1 + 1 == i && q.2.category == 2))))) : sd_LR ad ls' nL (xm_st2 xs i v) := by
  refine ⟨h.1, h.2.1, fun j w hj hw => ?_⟩
  rcases sd_st2 xs i v j w hj hw with ⟨rfl, rfl⟩ | ⟨h1, h1', h2, h3⟩
  · exact h.2.2 _ List.mem_cons_self
  · refine h.2.2 (j, sd_cv ad w) (List.mem_cons_of_mem _ (List.mem_filter.mpr ⟨sd_prs_mem h2 hw, ?_⟩))
    by_cases e : j + 1 = i
    · have hc := (sd_cv_cat ad w).trans (h3 e)
      simp [h1, h1', hc]
    · simp [h1, h1', e]
theorem sd_msk_nth : ∀ (zk : List Nat) (xs : List Value) (j : Nat), xm_nth (xm_msk zk xs) j = .null ∨ xm_nth (xm_msk zk xs) j = xm_nth xs j
  | [], _, _ => Or.inr rfl
  | _ :: _, [], _ => Or.inr rfl
  | 0 :: _, _ :: _, 0 => Or.inr rfl
  | (_ + 1) :: _, _ :: _, 0 => Or.inl rfl
  | _ :: r, _ :: l, j + 1 => sd_msk_nth r l j
theorem sd_LR.msk {ad : Nat → Nat} {ls : Array Slot} {nL : Nat} {xs : List Value} (zk : List Nat) (h : sd_LR ad ls nL xs) : sd_LR ad ls nL (xm_msk zk xs) := by
  refine ⟨h.1, h.2.1, fun i v hi hv => ?_⟩
  rcases sd_msk_nth zk xs i with e | e
  · exact absurd (hi.symm.trans e) hv
  · exact h.2.2 i v (e.symm.trans hi) hv
-- what a step asked for was there
theorem iv_so {α : Type} {o : Option α} {k : α → Oz} {r : RV} (h : xm_so o k = some r) : ∃ x, o = some x ∧ k x = some r := by
  cases o with
  | none => cases h
  | some x => exact ⟨x, rfl, h⟩
theorem iv_tr {b : Bool} {k : Oz} {r : RV} (h : xm_tr b k = some r) : b = true ∧ k = some r := by
  cases b with
  | false => cases h
  | true => exact ⟨rfl, h⟩
theorem iv_vI {v : Value} {k : Int32 → Oz} {r : RV} (h : xm_vI v k = some r) : ∃ x, v = .int x ∧ k x = some r := by
  cases v <;> first | exact ⟨_, rfl, h⟩ | cases h
theorem iv_vL {v : Value} {k : Int64 → Oz} {r : RV} (h : xm_vL v k = some r) : ∃ x, v = .long x ∧ k x = some r := by
  cases v <;> first | exact ⟨_, rfl, h⟩ | cases h
theorem iv_vR {v : Value} {k : Nat → Oz} {r : RV} (h : xm_vR v k = some r) : ∃ x, v = .ref x ∧ k x = some r := by
  cases v <;> first | exact ⟨_, rfl, h⟩ | cases h
theorem iv_pop {st : List Value} {k : Value → List Value → Oz} {r : RV} (h : xm_pop st k = some r) : ∃ x q, st = x :: q ∧ k x q = some r := by
  cases st with
  | nil => cases h
  | cons x q => exact ⟨x, q, rfl, h⟩
theorem iv_pI {st : List Value} {k : Int32 → List Value → Oz} {r : RV} (h : xm_pI st k = some r) : ∃ x q, st = .int x :: q ∧ k x q = some r := by
  obtain ⟨v, q, e, h⟩ := iv_pop h
  obtain ⟨x, e2, h⟩ := iv_vI h
  exact ⟨x, q, by rw [e, e2], h⟩
theorem iv_pL {st : List Value} {k : Int64 → List Value → Oz} {r : RV} (h : xm_pL st k = some r) : ∃ x q, st = .long x :: q ∧ k x q = some r := by
  obtain ⟨v, q, e, h⟩ := iv_pop h
  obtain ⟨x, e2, h⟩ := iv_vL h
  exact ⟨x, q, by rw [e, e2], h⟩
theorem iv_pR {st : List Value} {k : Nat → List Value → Oz} {r : RV} (h : xm_pR st k = some r) : ∃ x q, st = .ref x :: q ∧ k x q = some r := by
  obtain ⟨v, q, e, h⟩ := iv_pop h
  obtain ⟨x, e2, h⟩ := iv_vR h
  exact ⟨x, q, by rw [e, e2], h⟩
theorem iv_ix {i : Int32} {n : Nat} {k : Nat → Oz} {r : RV} (h : xm_ix i n k = some r) : vp_in i n ∧ k i.toNatClampNeg = some r := by
  unfold xm_ix at h
  by_cases c : i < 0 ∨ n ≤ i.toNatClampNeg
  · rw [if_pos c] at h; cases h
  · rw [if_neg c] at h; exact ⟨c, h⟩
theorem iv_dv {y : Int32} {k : Oz} {r : RV} (h : xm_dv y k = some r) : ¬ y = 0 ∧ k = some r := by
  unfold xm_dv at h
  by_cases c : y = 0
  · rw [if_pos c] at h; cases h
  · rw [if_neg c] at h; exact ⟨c, h⟩
theorem iv_dvL {y : Int64} {k : Oz} {r : RV} (h : xm_dvL y k = some r) : ¬ y = 0 ∧ k = some r := by
  unfold xm_dvL at h
  by_cases c : y = 0
  · rw [if_pos c] at h; cases h
  · rw [if_neg c] at h; exact ⟨c, h⟩
theorem iv_bo {y : Int32} {k : Oz} {r : RV} (h : xm_bo y k = some r) : (y = 0 ∨ y = 1) ∧ k = some r := by
  unfold xm_bo at h
  by_cases c : y = 0 ∨ y = 1
  · rw [if_pos c] at h; exact ⟨c, h⟩
  · rw [if_neg c] at h; cases h
theorem iv_cp {sp dp n : Int32} {na nb : Nat} {k : Oz} {r : RV} (h : xm_cp sp dp n na nb k = some r) : (¬ sp < 0 ∧ ¬ dp < 0 ∧ ¬ n < 0 ∧ sp.toNatClampNeg + n.toNatClampNeg ≤ na ∧ dp.toNatClampNeg + n.toNatClampNeg ≤ nb) ∧ k = some r := by
  unfold xm_cp at h
  by_cases c : sp < 0 ∨ dp < 0 ∨ n < 0 ∨ na < sp.toNatClampNeg + n.toNatClampNeg ∨ nb < dp.toNatClampNeg + n.toNatClampNeg
  · rw [if_pos c] at h; cases h
  · rw [if_neg c] at h
    simp only [not_or, Nat.not_lt] at c
    exact ⟨c, h⟩
theorem iv_cV {o : Oz} {k : Sg → Oz} {r : RV} (h : xm_cV o k = some r) : ∃ s, o = some (none, s) ∧ k s = some r := by
  rcases o with _ | ⟨_ | v, s⟩
  · cases h
  · exact ⟨s, rfl, h⟩
  · cases h
theorem iv_cI {o : Oz} {k : Int32 → Sg → Oz} {r : RV} (h : xm_cI o k = some r) : ∃ x s, o = some (some (.int x), s) ∧ k x s = some r := by
  rcases o with _ | ⟨_ | v, s⟩
  · cases h
  · cases h
  · cases v <;> first | exact ⟨_, s, rfl, h⟩ | cases h
theorem iv_cL {o : Oz} {k : Int64 → Sg → Oz} {r : RV} (h : xm_cL o k = some r) : ∃ x s, o = some (some (.long x), s) ∧ k x s = some r := by
  rcases o with _ | ⟨_ | v, s⟩
  · cases h
  · cases h
  · cases v <;> first | exact ⟨_, s, rfl, h⟩ | cases h
theorem iv_ar {b ty : Nat} {k : Nat → Nat → Oz} {r : RV} (h : xm_ar b ty k = some r) : ∃ n z, xm_at xm_sh b = some (.inl (ty, n, z)) ∧ k n z = some r := by
  unfold xm_ar at h
  rcases hs : xm_at xm_sh b with _ | ⟨⟨y, n, z⟩ | _⟩ <;> rw [hs] at h
  · cases h
  · obtain ⟨e, h2⟩ := iv_tr h
    have := Nat.eq_of_beq_eq_true e
    subst this
    exact ⟨n, z, rfl, h2⟩
  · cases h
theorem iv_al {b : Nat} {k : Nat → Oz} {r : RV} (h : xm_al b k = some r) : ∃ y n z, xm_at xm_sh b = some (.inl (y, n, z)) ∧ k n = some r := by
  unfold xm_al at h
  rcases hs : xm_at xm_sh b with _ | ⟨⟨y, n, z⟩ | _⟩ <;> rw [hs] at h
  · cases h
  · exact ⟨y, n, z, rfl, h⟩
  · cases h
theorem iv_ty {b : Nat} {k : Nat → Nat → Oz} {r : RV} (h : xm_ty b k = some r) : ∃ y n z, xm_at xm_sh b = some (.inl (y, n, z)) ∧ k y n = some r := by
  unfold xm_ty at h
  rcases hs : xm_at xm_sh b with _ | ⟨⟨y, n, z⟩ | _⟩ <;> rw [hs] at h
  · cases h
  · exact ⟨y, n, z, rfl, h⟩
  · cases h
theorem xm_fx_at {i j : Nat} (h : xm_at xm_fx i = some j) : j = i := by
  have hl := xm_at_lt h
  have key : ∀ i, i < 64 → xm_at xm_fx i = some i := by decide
  have := (key i hl).symm.trans h
  cases this
  rfl
theorem iv_fl {b t : Nat} {k : Nat → Nat → Oz} {r : RV} (h : xm_fl b t k = some r) : ∃ fs f, xm_at xm_sh b = some (.inr (t / 64, fs)) ∧ xm_at fs (t % 64) = some f ∧ k (t % 64) f = some r := by
  unfold xm_fl at h
  rcases hs : xm_at xm_sh b with _ | ⟨_ | ⟨ci, fs⟩⟩ <;> rw [hs] at h
  · cases h
  · cases h
  · obtain ⟨e, h2⟩ := iv_tr h
    have := Nat.eq_of_beq_eq_true e
    subst this
    obtain ⟨j, e1, h2⟩ := iv_so h2
    have e1 := xm_fx_at e1
    subst e1
    obtain ⟨f, e2, h3⟩ := iv_so h2
    exact ⟨fs, f, rfl, e2, h3⟩
theorem iv_ob {b ci : Nat} (h : xm_ob b ci = true) : ∃ fs, xm_at xm_sh b = some (.inr (ci, fs)) := by
  unfold xm_ob at h
  rcases hs : xm_at xm_sh b with _ | ⟨_ | ⟨c, fs⟩⟩ <;> rw [hs] at h
  · cases h
  · cases h
  · have := Nat.eq_of_beq_eq_true h
    subst this
    exact ⟨fs, rfl⟩
theorem iv_dup {v : Value} {k : Oz} {r : RV} (h : xm_dup v k = some r) : v.category = 1 ∧ k = some r := by
  cases v <;> first | exact ⟨rfl, h⟩ | cases h
theorem iv_tk : ∀ {n : Nat} {st acc as r : List Value}, xm_tk n st acc = some (as, r) → ∃ b : List Value, b.length = n ∧ st = b ++ r ∧ as = b.reverse ++ acc
  | 0, st, acc, as, r, h => by cases h; exact ⟨[], rfl, rfl, rfl⟩
  | n + 1, [], acc, as, r, h => by cases h
  | n + 1, v :: st, acc, as, r, h => by
    obtain ⟨b, h1, h2, h3⟩ := iv_tk (n := n) h
    exact ⟨v :: b, congrArg Nat.succ h1, by rw [h2]; rfl, by rw [h3, List.reverse_cons, List.append_assoc]; rfl⟩
theorem sd_cat (ad : Nat → Nat) : ∀ r : List Value, ((r.map (sd_cv ad)).map fun v => v.category).sum = xm_cat r
  | [] => rfl
  | v :: r => by
    rw [List.map_cons, List.map_cons, List.sum_cons, sd_cat ad r, sd_cv_cat]
    rfl
