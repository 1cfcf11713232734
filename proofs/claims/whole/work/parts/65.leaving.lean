/-! LEAVING: fractions compared by their whole parts; the tree to leave -/
def rs (a b c e t : Nat) : Nat := if a * e = c * b then 0 else if a * e < c * b then 1 - t else t
theorem lt_of_div {a b c e : Nat} (hb : 0 < b) (he : 0 < e) (h : a / b < c / e) : a * e < c * b := by
  have h1 : a < b * (a / b + 1) := Nat.lt_mul_div_succ a hb
  have h2 : a * e < b * (a / b + 1) * e := Nat.mul_lt_mul_of_pos_right h1 he
  have h3 : b * (a / b + 1) * e ≤ b * (c / e) * e := Nat.mul_le_mul_right _ (Nat.mul_le_mul_left _ h)
  have h4 : b * (c / e) * e ≤ b * c := by rw [Nat.mul_assoc]; exact Nat.mul_le_mul_left _ (Nat.div_mul_le_self _ _)
  rw [Nat.mul_comm c b]
  omega
theorem rs_st {a b c e t : Nat} (ht : t < 2) (h : a / b = c / e) : rs a b c e t = rs b (a % b) e (c % e) (1 - t) := by
  unfold rs
  have h1 := Nat.div_add_mod a b
  have h2 := Nat.div_add_mod c e
  rw [← h] at h2
  generalize a / b = q at *
  generalize a % b = x at *
  generalize c % e = y at *
  subst h1
  subst h2
  have e1 : (b * q + x) * e = b * q * e + e * x := by rw [Nat.add_mul, Nat.mul_comm x e]
  have e2 : (e * q + y) * b = b * q * e + b * y := by rw [Nat.add_mul, Nat.mul_comm y b, Nat.mul_comm e q, Nat.mul_assoc, Nat.mul_comm q, Nat.mul_comm e b, Nat.mul_assoc, Nat.mul_comm e q, Nat.mul_assoc]
  rw [e1, e2]
  generalize b * q * e = u
  generalize e * x = v
  generalize b * y = z
  by_cases g1 : v = z
  · rw [if_pos (show u + v = u + z by omega), if_pos (show z = v by omega)]
  · rw [if_neg (show ¬ u + v = u + z by omega), if_neg (show ¬ z = v by omega)]
    by_cases g2 : v < z
    · rw [if_pos (show u + v < u + z by omega), if_neg (show ¬ z < v by omega)]
    · rw [if_neg (show ¬ u + v < u + z by omega), if_pos (show z < v by omega)]
      omega
theorem C_139 (d : Nat) {t v : Nat} (ht : t < 2) (hv : v < 2) (σ : Sg) : X_Mod_isLess_139 d (nI t) (nI v) σ = some (some (.int (nI (if v = 1 then 1 - t else t))), σ) := by
  rw [X_Mod_isLess_139_e]
  rcases two ht with rfl | rfl <;> rcases two hv with rfl | rfl
  · rw [xm_br_t rfl, X_Mod_isLess_153_e, xm_bo_0]; rfl
  · rw [xm_br_f (by decide), X_Mod_isLess_153_e, xm_bo_1]; rfl
  · rw [xm_br_f (by decide), X_Mod_isLess_153_e, xm_bo_1]; rfl
  · rw [xm_br_t rfl, X_Mod_isLess_153_e, xm_bo_0]; rfl
theorem C_less (d : Nat) (σ : Sg) : ∀ (b a c e t : Nat), a < 2 ^ 63 → b < 2 ^ 63 → c < 2 ^ 63 → e < 2 ^ 63 → (b = 0 → 0 < a) → (e = 0 → 0 < c) → t < 2 → X_Mod_isLess_17 d (lN a) (lN b) (lN c) (lN e) (nI t) σ = some (some (.int (nI (rs a b c e t))), σ) := by
  intro b
  induction b using Nat.strongRecOn with
  | ind b ih =>
    intro a c e t ha hb hc he h1 h2 ht
    rw [X_Mod_isLess_17_e]
    by_cases b0 : b = 0
    · subst b0
      have hp := h1 rfl
      rw [xm_br_t ((l_eq0 (by omega)).mpr rfl), X_Mod_isLess_90_e, xm_br_t ((l_eq0 (by omega)).mpr rfl)]
      by_cases e0 : e = 0
      · subst e0
        rw [xm_br_t ((l_eq0 (by omega)).mpr rfl)]
        rfl
      · rw [xm_br_f (fun q => e0 ((l_eq0 he).mp q)), X_Mod_isLess_106_e, xm_br_t ((l_eq0 (by omega)).mpr rfl), X_Mod_isLess_138_e, show (0 : Int32) = nI 0 from rfl, C_139 d ht (by omega), if_neg (by decide)]
        have : 0 < a * e := Nat.mul_pos hp (by omega)
        unfold rs
        rw [Nat.mul_zero, if_neg (by omega), if_neg (by omega)]
    have nb : ¬ lg_cmp (lN b) 0 = 0 := fun q => b0 ((l_eq0 hb).mp q)
    rw [xm_br_f nb]
    by_cases e0 : e = 0
    · subst e0
      have hp := h2 rfl
      rw [xm_br_t ((l_eq0 (by omega)).mpr rfl), X_Mod_isLess_90_e, xm_br_f nb, X_Mod_isLess_106_e, xm_br_f nb, xm_br_t ((l_eq0 (by omega)).mpr rfl), X_Mod_isLess_134_e, show (1 : Int32) = nI 1 from rfl, C_139 d ht (by omega), if_pos rfl]
      have : 0 < c * b := Nat.mul_pos hp (by omega)
      unfold rs
      rw [Nat.mul_zero, if_neg (by omega), if_pos this]
    have ne : ¬ lg_cmp (lN e) 0 = 0 := fun q => e0 ((l_eq0 he).mp q)
    have qa : a / b < 2 ^ 63 := Nat.lt_of_le_of_lt (Nat.div_le_self _ _) ha
    have qc : c / e < 2 ^ 63 := Nat.lt_of_le_of_lt (Nat.div_le_self _ _) hc
    rw [xm_br_f ne, xm_dvL_n (l_ne0 hb b0), xm_dvL_n (l_ne0 he e0), xm_dvL_n (l_ne0 hb b0), xm_dvL_n (l_ne0 he e0), pk_lRem ha (by omega) hb, pk_lRem hc (by omega) he, pk_lDiv ha (by omega) hb, pk_lDiv hc (by omega) he]
    by_cases q : a / b = c / e
    · rw [xm_br_t (by rw [lg_cmp_eq, q]), rs_st ht q]
      have hm := Nat.mod_lt a (show 0 < b by omega)
      have hm2 := Nat.mod_lt c (show 0 < e by omega)
      have := ih (a % b) hm b e (c % e) (1 - t) hb (by omega) he (by omega) (fun _ => by omega) (fun _ => by omega) (by omega)
      rcases two ht with rfl | rfl
      · rw [xm_br_t nI_0]; exact this
      · rw [xm_br_f (by decide)]; exact this
    · rw [xm_br_f (by rw [lg_cmp_eq, pk_lEQ qa qc]; exact q), X_Mod_isLess_90_e, xm_br_f nb, X_Mod_isLess_106_e, xm_br_f nb, xm_br_f ne, xm_dvL_n (l_ne0 hb b0), xm_dvL_n (l_ne0 he e0), pk_lDiv ha (by omega) hb, pk_lDiv hc (by omega) he]
      unfold rs
      by_cases q2 : a / b < c / e
      · have := lt_of_div (by omega) (by omega) q2
        rw [xm_br_f (by rw [lg_cmp_ge, pk_lLE qc qa]; omega), X_Mod_isLess_134_e, show (1 : Int32) = nI 1 from rfl, C_139 d ht (by omega), if_pos rfl, if_neg (by omega), if_pos this]
      · have := lt_of_div (a := c) (b := e) (c := a) (e := b) (by omega) (by omega) (by omega)
        rw [xm_br_t (by rw [lg_cmp_ge, pk_lLE qc qa]; omega), X_Mod_isLess_138_e, show (0 : Int32) = nI 0 from rfl, C_139 d ht (by omega), if_neg (by decide), if_neg (by omega), if_neg (by omega)]
/-- where a part below is 0 it answers something -/
theorem C_less0 (d : Nat) (σ : Sg) (a c : Int64) {b e : Nat} (hb : b < 2 ^ 63) (he : e < 2 ^ 63) (h : b = 0 ∨ e = 0) : ∃ v, X_Mod_isLess d a (lN b) c (lN e) σ = some (some (.int v), σ) := by
  rw [X_Mod_isLess_e, X_Mod_isLess_17_e, X_Mod_isLess_90_e, X_Mod_isLess_106_e, X_Mod_isLess_134_e, X_Mod_isLess_138_e, show (1 : Int32) = nI 1 from rfl, show X_Mod_isLess_139 d 0 (nI 1) σ = _ from C_139 d (t := 0) (v := 1) (by omega) (by omega) σ, show X_Mod_isLess_139 d 0 0 σ = _ from C_139 d (t := 0) (v := 0) (by omega) (by omega) σ]
  by_cases b0 : b = 0
  · have : lg_cmp (lN b) 0 = 0 := (l_eq0 hb).mpr b0
    simp only [xm_br_t this]
    by_cases e0 : e = 0
    · simp only [xm_br_t ((l_eq0 he).mpr e0)]; exact ⟨_, rfl⟩
    · simp only [xm_br_f (fun q => e0 ((l_eq0 he).mp q))]; exact ⟨_, rfl⟩
  · have e0 : lg_cmp (lN e) 0 = 0 := (l_eq0 he).mpr (h.resolve_left b0)
    have : ¬ lg_cmp (lN b) 0 = 0 := fun q => b0 ((l_eq0 hb).mp q)
    simp only [xm_br_f this, xm_br_t e0]
    exact ⟨_, rfl⟩
theorem cnt_two {p : Nat → Bool} {i j r : Nat} (hij : i < j) (hj : j < r) (h1 : p i = true) (h2 : p j = true) : 2 ≤ cnt p r := by
  have a1 := cnt_m p (i := i + 1) (j := j) hij
  have a2 := cnt_m p (i := j + 1) (j := r) hj
  rw [cnt_s, h1] at a1
  rw [cnt_s, h2] at a2
  have a1 : cnt p i + 1 ≤ _ := a1
  have a2 : cnt p j + 1 ≤ _ := a2
  omega
theorem sm_0 {f : Nat → Nat} : ∀ {n : Nat}, (∀ i, i < n → f i = 0) → sm f n = 0
  | 0, _ => rfl
  | n + 1, h => by
    show sm f n + f n = 0
    rw [sm_0 (fun i hi => h i (by omega)), h n (by omega)]
section LV
variable {r : Nat} {bo kd kn tr : Nat → Nat} {ct tk : Nat → Bool} {σ : Sg}
/-- kind k together, without tree t -/
def Ak (kd kn tr : Nat → Nat) (tk : Nat → Bool) (r k t : Nat) : Nat := sm (bT kd kn tr tk k t) r
theorem one_tree (h : VwA r bo kd kn tr ct tk σ) (h2 : cnW ct (fun i => decide (bo i = 0)) r < 2) {t : Nat} (ht : t < r) (hc : ct t = true) (hs : bo t = 0) (k : Nat) : Ak kd kn tr tk r k t = 0 := by
  refine sm_0 (fun i hi => ?_)
  unfold bT
  rw [if_neg]
  rintro ⟨q1, q2⟩
  obtain ⟨a, -, -⟩ := tl_kn q2
  obtain ⟨-, -, -, htr, -, htk, hT, -⟩ := h.2 i hi
  have ci := (htk.mp a).1
  have p1 : (ct (tr i) && decide (bo (tr i) = 0)) = true := by rw [hT.2.2.2 ci, hT.1]; rfl
  have p2 : (ct t && decide (bo t = 0)) = true := by rw [hc, hs]; rfl
  have hlt : tr i < r := by omega
  have : 2 ≤ cnW ct (fun i => decide (bo i = 0)) r := by
    unfold cnW
    rcases (show tr i < t ∨ t < tr i by omega) with q | q
    · exact cnt_two (p := fun i => ct i && decide (bo i = 0)) q ht p1 p2
    · exact cnt_two (p := fun i => ct i && decide (bo i = 0)) q hlt p2 p1
  omega
theorem Ak_le (hr : r ≤ 24) (k t : Nat) : Ak kd kn tr tk r k t ≤ 24 * 232792560 := bTs_le hr
theorem C_isL (h : VwA r bo kd kn tr ct tk σ) (d : Nat) {t u : Nat} (ht : t < r) (hu : u < r) (hb : Ak kd kn tr tk r 1 t * Ak kd kn tr tk r 0 u < 2 ^ 63) (hb2 : Ak kd kn tr tk r 1 u * Ak kd kn tr tk r 0 t < 2 ^ 63) : X_Shares_isLess (d + 3) (nI t) (nI u) σ = some (some (.int (bI (Ak kd kn tr tk r 1 t * Ak kd kn tr tk r 0 u < Ak kd kn tr tk r 1 u * Ak kd kn tr tk r 0 t))), σ) := by
  have hr := h.1.1
  rw [X_Shares_isLess_e, show X_Shares_byTies (d + 2) 1 (nI t) σ = _ from C_byT h d (k := 1) (by omega) (but_t h (t := t) (by omega)), xm_cL_s, show X_Shares_byTies (d + 2) 0 (nI u) σ = _ from C_byT h d (k := 0) (by omega) (but_t h (t := u) (by omega)), xm_cL_s, show X_Shares_byTies (d + 2) 1 (nI u) σ = _ from C_byT h d (k := 1) (by omega) (but_t h (t := u) (by omega)), xm_cL_s, show X_Shares_byTies (d + 2) 0 (nI t) σ = _ from C_byT h d (k := 0) (by omega) (but_t h (t := t) (by omega)), xm_cL_s, lN_mul, lN_mul]
  show xm_br (0 ≤ lg_cmp (lN (Ak kd kn tr tk r 1 t * Ak kd kn tr tk r 0 u)) (lN (Ak kd kn tr tk r 1 u * Ak kd kn tr tk r 0 t))) _ _ = _
  by_cases q : Ak kd kn tr tk r 1 t * Ak kd kn tr tk r 0 u < Ak kd kn tr tk r 1 u * Ak kd kn tr tk r 0 t
  · rw [xm_br_f (by rw [lg_cmp_ge, pk_lLE hb2 hb]; omega), bI_t q]
  · rw [xm_br_t (by rw [lg_cmp_ge, pk_lLE hb2 hb]; omega), bI_f q]
/-- of kind 1 and of kind 0 there are 24 together -/
theorem Ak_pr (h : VwA r bo kd kn tr ct tk σ) (t u : Nat) : Ak kd kn tr tk r 1 t * Ak kd kn tr tk r 0 u < 2 ^ 63 := by
  have hr := h.1.1
  have key : ∀ n, n ≤ r → ∃ x y, x + y ≤ n ∧ sm (bT kd kn tr tk 1 t) n ≤ x * 232792560 ∧ sm (bT kd kn tr tk 0 u) n ≤ y * 232792560 := by
    intro n
    induction n with
    | zero => intro _; exact ⟨0, 0, by omega, Nat.le_refl _, Nat.le_refl _⟩
    | succ n ih =>
      intro hn
      obtain ⟨x, y, h1, h2, h3⟩ := ih (by omega)
      have b1 := bT_le (kd := kd) (kn := kn) (tr := tr) (tk := tk) (k := 1) (but := t) n
      have b0 := bT_le (kd := kd) (kn := kn) (tr := tr) (tk := tk) (k := 0) (but := u) n
      obtain ⟨-, hkd, -⟩ := h.2 n (by omega)
      rcases two hkd.1 with e | e
      · refine ⟨x, y + 1, by omega, ?_, ?_⟩
        · show sm (bT kd kn tr tk 1 t) n + bT kd kn tr tk 1 t n ≤ _
          have : bT kd kn tr tk 1 t n = 0 := if_neg (fun q => by have := (tl_kn q.2).2.2; omega)
          omega
        · show sm (bT kd kn tr tk 0 u) n + bT kd kn tr tk 0 u n ≤ _
          rw [Nat.add_mul]
          omega
      · refine ⟨x + 1, y, by omega, ?_, ?_⟩
        · show sm (bT kd kn tr tk 1 t) n + bT kd kn tr tk 1 t n ≤ _
          rw [Nat.add_mul]
          omega
        · show sm (bT kd kn tr tk 0 u) n + bT kd kn tr tk 0 u n ≤ _
          have : bT kd kn tr tk 0 u n = 0 := if_neg (fun q => by have := (tl_kn q.2).2.2; omega)
          omega
  obtain ⟨x, y, h1, h2, h3⟩ := key r (Nat.le_refl _)
  have h4 : x * y ≤ 144 := by
    have k : ∀ A, A < 25 → ∀ B, B < 25 → A + B ≤ 24 → A * B ≤ 144 := by decide +kernel
    exact k x (by omega) y (by omega) (by omega)
  have h5 : Ak kd kn tr tk r 1 t * Ak kd kn tr tk r 0 u ≤ x * 232792560 * (y * 232792560) := Nat.mul_le_mul h2 h3
  have h6 : x * 232792560 * (y * 232792560) = x * y * (232792560 * 232792560) := by
    simp only [Nat.mul_assoc, Nat.mul_comm, Nat.mul_left_comm]
  have h7 : x * y * (232792560 * 232792560) ≤ 144 * (232792560 * 232792560) := Nat.mul_le_mul_right _ h4
  have h8 : 144 * (232792560 * 232792560) < 2 ^ 63 := by decide
  omega
def lvA (kd kn tr : Nat → Nat) (tk : Nat → Bool) (r b : Nat) : Nat := if b = 0 then 0 else Ak kd kn tr tk r 1 (b - 1) * 115
def lvB (kd kn tr : Nat → Nat) (tk : Nat → Bool) (r b : Nat) : Nat := if b = 0 then 0 else (Ak kd kn tr tk r 1 (b - 1) + Ak kd kn tr tk r 0 (b - 1)) * 115
/-- the best so far -/
def lvG (bo kd kn tr : Nat → Nat) (ct tk : Nat → Bool) (r b : Nat) : Prop := b = 0 ∨ (b - 1 < r ∧ ct (b - 1) = true ∧ bo (b - 1) = 0 ∧ Ak kd kn tr tk r 1 (b - 1) + Ak kd kn tr tk r 0 (b - 1) ≠ 0)
theorem C_lv (h : VwA r bo kd kn tr ct tk σ) {υ : Sg} (hu : VwA r bo kd kn tr ct tk υ) (h64 : CtA r υ) (d d' : Nat) (x w : Int32) : ∀ (m i b : Nat), i + m = r → lvG bo kd kn tr ct tk r b → ∃ b', lvG bo kd kn tr ct tk r b' ∧ X_Shares_treeToLeave_4 (d + 4) x (oI b) (nI i) σ = some (some (.int (oI b')), σ) ∧ ∀ a e, ∃ a' e', X_Mod_leaving_46 (d' + 2) x w (lN (lvA kd kn tr tk r b)) (lN (lvB kd kn tr tk r b)) (nI i) (AB υ a e) = some (some (.long (frN (lvA kd kn tr tk r b') (lvB kd kn tr tk r b') w)), AB υ a' e')
  | 0, i, b, hi, hb => by
    have hr := h.1.1
    have lA : lvA kd kn tr tk r b ≤ 115 * (24 * 232792560) := by
      unfold lvA
      have := Ak_le (kd := kd) (kn := kn) (tr := tr) (tk := tk) hr 1 (b - 1)
      split <;> omega
    have lB : lvB kd kn tr tk r b ≤ 115 * (48 * 232792560) := by
      unfold lvB
      have := Ak_le (kd := kd) (kn := kn) (tr := tr) (tk := tk) hr 1 (b - 1)
      have := Ak_le (kd := kd) (kn := kn) (tr := tr) (tk := tk) hr 0 (b - 1)
      split <;> omega
    refine ⟨b, hb, ?_, fun a e => ⟨a, e, ?_⟩⟩
    · rw [X_Shares_treeToLeave_4_e, h.1.2.1, xm_br_t (nI_le (by omega) (by omega))]
    · rw [X_Mod_leaving_46_e, show (AB υ a e).1 39 26 = nI r from hu.1.2.2.1, xm_br_t (nI_le (by omega) (by omega))]
      by_cases q : lvB kd kn tr tk r b = 0
      · rw [xm_br_t ((l_eq0 (by omega)).mpr q), C_no, xm_cL_s, q]
        unfold frN
        rw [if_pos rfl]
        rfl
      · rw [xm_br_f (fun z => q ((l_eq0 (by omega)).mp z)), F_part d' _ w (by omega) (by omega) q, xm_cL_s]
  | m + 1, i, b, hi, hb => by
    have hr := h.1.1
    obtain ⟨hbo, hkd, hkn, htr, ⟨h18, -, -⟩, htk, hT, -⟩ := h.2 i (by omega)
    obtain ⟨hbo', -, -, -, ⟨h18', -, -⟩, -⟩ := hu.2 i (by omega)
    obtain ⟨b0, s0, s1, s2⟩ := C_lv h hu h64 d d' x w m (i + 1) b (by omega) hb
    rw [X_Shares_treeToLeave_4_e, h.1.2.1, xm_br_f (nI_ge (by omega) (by omega)), nI_1]
    simp only [xm_ix_n (show i < 24 by omega) (show 24 < 2 ^ 31 by omega), h18, htr.2.1]
    have mod : ∀ a e, X_Mod_leaving_46 (d' + 2) x w (lN (lvA kd kn tr tk r b)) (lN (lvB kd kn tr tk r b)) (nI i) (AB υ a e) = xm_br (nI (ct i).toNat = 0) (X_Mod_leaving_46 (d' + 2) x w (lN (lvA kd kn tr tk r b)) (lN (lvB kd kn tr tk r b)) (nI (i + 1)) (AB υ a e)) (xm_br (oI (bo i) = (-1)) (xm_cV (X_Mod_byTies (d' + 1) 0 (nI i) (AB υ a e)) (fun σ7 => xm_br ((lg_cmp (lN (lvB kd kn tr tk r b)) 0) = 0) (X_Mod_leaving_136 (d' + 2) x w (lN (lvA kd kn tr tk r b)) (lN (lvB kd kn tr tk r b)) (nI i) 1 σ7) (xm_br (x = 0) (xm_cI (X_Mod_isLess (d' + 1) (σ7.2 39 37) (σ7.2 39 38) (lN (lvA kd kn tr tk r b)) (lN (lvB kd kn tr tk r b)) σ7) (fun r11 σ10 => xm_br (r11 = 0) (X_Mod_leaving_136 (d' + 2) x w (lN (lvA kd kn tr tk r b)) (lN (lvB kd kn tr tk r b)) (nI i) 0 σ10) (X_Mod_leaving_136 (d' + 2) x w (lN (lvA kd kn tr tk r b)) (lN (lvB kd kn tr tk r b)) (nI i) 1 σ10))) (xm_cI (X_Mod_isLess (d' + 1) (lN (lvA kd kn tr tk r b)) (lN (lvB kd kn tr tk r b)) (σ7.2 39 37) (σ7.2 39 38) σ7) (fun r9 σ8 => xm_br (r9 = 0) (X_Mod_leaving_136 (d' + 2) x w (lN (lvA kd kn tr tk r b)) (lN (lvB kd kn tr tk r b)) (nI i) 0 σ8) (X_Mod_leaving_136 (d' + 2) x w (lN (lvA kd kn tr tk r b)) (lN (lvB kd kn tr tk r b)) (nI i) 1 σ8)))))) (X_Mod_leaving_46 (d' + 2) x w (lN (lvA kd kn tr tk r b)) (lN (lvB kd kn tr tk r b)) (nI (i + 1)) (AB υ a e))) := by
      intro a e
      rw [X_Mod_leaving_46_e, show (AB υ a e).1 39 26 = nI r from hu.1.2.2.1, xm_br_f (nI_ge (by omega) (by omega))]
      simp only [xm_ix_n (show i < 24 by omega) (show 24 < 2 ^ 31 by omega), X_Mod_leaving_163_e, nI_1]
      rw [show (AB υ a e).1 64 i = nI (ct i).toNat by rw [AB_1, h64 i (by omega)]; exact h18', show (AB υ a e).1 56 i = oI (bo i) from hbo'.2.2]
    by_cases hc : ct i = true
    rotate_left
    · rw [Bool.not_eq_true] at hc
      refine ⟨b0, s0, ?_, fun a e => ?_⟩
      · rw [hc, xm_br_t (by decide)]; exact s1
      · rw [mod a e, hc, xm_br_t (by decide)]; exact s2 a e
    rw [hc, xm_br_f (by decide)]
    by_cases hs : bo i = 0
    rotate_left
    · refine ⟨b0, s0, ?_, fun a e => ?_⟩
      · rw [xm_br_f (fun q => hs (hT.2.2.1.mpr ((nI_eq (by omega) (by omega)).mp q)))]; exact s1
      · rw [mod a e, hc, xm_br_f (by decide), xm_br_f (fun q => hs ((oI_m1 (by omega)).mp q))]; exact s2 a e
    rw [xm_br_t (by rw [hT.2.2.1.mp hs])]
    have A1 := Ak_le (kd := kd) (kn := kn) (tr := tr) (tk := tk) hr 1 i
    have A0 := Ak_le (kd := kd) (kn := kn) (tr := tr) (tk := tk) hr 0 i
    rw [show X_Shares_byTies (d + 3) 0 (nI i) σ = some (some (.long (lN (Ak kd kn tr tk r 0 i))), σ) from C_byT h (d + 1) (k := 0) (by omega) (but_t h (t := i) (by omega)), xm_cL_s, show X_Shares_byTies (d + 3) 1 (nI i) σ = some (some (.long (lN (Ak kd kn tr tk r 1 i))), σ) from C_byT h (d + 1) (k := 1) (by omega) (but_t h (t := i) (by omega)), xm_cL_s, lN_add]
    have hby : ∀ a e, X_Mod_byTies (d' + 1) 0 (nI i) (AB υ a e) = some (none, AB υ (lN (Ak kd kn tr tk r 1 i * 115)) (lN ((Ak kd kn tr tk r 1 i + Ak kd kn tr tk r 0 i) * 115))) := by
      intro a e
      have hA : VwA r bo kd kn tr ct tk (AB υ a e) := hu
      obtain ⟨e1, e2⟩ := sm_rf h i
      rw [C_mbyT hA h64 d' (but_t hA (t := i) (by omega)), AB_AB, e1, e2]
      rfl
    have l136 : ∀ (v : Int32) (lB : Nat), X_Mod_leaving_136 (d' + 2) x w (lN (lvA kd kn tr tk r b)) (lN (lvB kd kn tr tk r b)) (nI i) v (AB υ (lN (Ak kd kn tr tk r 1 i * 115)) (lN ((Ak kd kn tr tk r 1 i + Ak kd kn tr tk r 0 i) * 115))) = xm_br ((lg_cmp (lN ((Ak kd kn tr tk r 1 i + Ak kd kn tr tk r 0 i) * 115)) 0) ≤ 0) (X_Mod_leaving_46 (d' + 2) x w (lN (lvA kd kn tr tk r b)) (lN (lvB kd kn tr tk r b)) (nI (i + 1)) (AB υ (lN (Ak kd kn tr tk r 1 i * 115)) (lN ((Ak kd kn tr tk r 1 i + Ak kd kn tr tk r 0 i) * 115)))) (xm_br (v = 0) (X_Mod_leaving_46 (d' + 2) x w (lN (lvA kd kn tr tk r b)) (lN (lvB kd kn tr tk r b)) (nI (i + 1)) (AB υ (lN (Ak kd kn tr tk r 1 i * 115)) (lN ((Ak kd kn tr tk r 1 i + Ak kd kn tr tk r 0 i) * 115)))) (X_Mod_leaving_46 (d' + 2) x w (lN (lvA kd kn tr tk r (i + 1))) (lN (lvB kd kn tr tk r (i + 1))) (nI (i + 1)) (AB υ (lN (Ak kd kn tr tk r 1 i * 115)) (lN ((Ak kd kn tr tk r 1 i + Ak kd kn tr tk r 0 i) * 115))))) := by
      intro v lB
      rw [X_Mod_leaving_136_e, AB_37, AB_38, X_Mod_leaving_163_e, X_Mod_leaving_163_e, nI_1]
      rfl
    have lBb : lvB kd kn tr tk r b ≤ 115 * (48 * 232792560) := by
      unfold lvB
      have := Ak_le (kd := kd) (kn := kn) (tr := tr) (tk := tk) hr 1 (b - 1)
      have := Ak_le (kd := kd) (kn := kn) (tr := tr) (tk := tk) hr 0 (b - 1)
      split <;> omega
    have lAb : lvA kd kn tr tk r b ≤ 115 * (48 * 232792560) := by
      unfold lvA
      have := Ak_le (kd := kd) (kn := kn) (tr := tr) (tk := tk) hr 1 (b - 1)
      split <;> omega
    by_cases hz : Ak kd kn tr tk r 1 i + Ak kd kn tr tk r 0 i = 0
    · -- nothing is there without this tree
      refine ⟨b0, s0, ?_, fun a e => ?_⟩
      · rw [xm_br_t (by rw [l_eq0 (by omega)]; omega)]; exact s1
      · have g : ∀ v : Int32, ∃ a' e', X_Mod_leaving_136 (d' + 2) x w (lN (lvA kd kn tr tk r b)) (lN (lvB kd kn tr tk r b)) (nI i) v (AB υ (lN (Ak kd kn tr tk r 1 i * 115)) (lN ((Ak kd kn tr tk r 1 i + Ak kd kn tr tk r 0 i) * 115))) = some (some (.long (frN (lvA kd kn tr tk r b0) (lvB kd kn tr tk r b0) w)), AB υ a' e') := by
          intro v
          rw [l136 v 0, xm_br_t (by rw [lg_cmp_le, ← lN_0, pk_lLE (by omega) (by omega)]; omega)]
          exact s2 _ _
        rw [mod a e, hc, xm_br_f (by decide), xm_br_t ((oI_m1 (by omega)).mpr hs), hby, xm_cV_s, AB_37, AB_38]
        by_cases z1 : lvB kd kn tr tk r b = 0
        · rw [xm_br_t ((l_eq0 (by omega)).mpr z1)]; exact g 1
        rw [xm_br_f (fun z => z1 ((l_eq0 (by omega)).mp z))]
        by_cases z2 : x = 0
        · obtain ⟨v, hv⟩ := C_less0 (d' + 1) (AB υ (lN (Ak kd kn tr tk r 1 i * 115)) (lN ((Ak kd kn tr tk r 1 i + Ak kd kn tr tk r 0 i) * 115))) (lN (Ak kd kn tr tk r 1 i * 115)) (lN (lvA kd kn tr tk r b)) (b := (Ak kd kn tr tk r 1 i + Ak kd kn tr tk r 0 i) * 115) (e := lvB kd kn tr tk r b) (by omega) (by omega) (Or.inl (by omega))
          rw [xm_br_t z2, hv, xm_cI_s]
          by_cases z3 : v = 0
          · rw [xm_br_t z3]; exact g 0
          · rw [xm_br_f z3]; exact g 1
        · obtain ⟨v, hv⟩ := C_less0 (d' + 1) (AB υ (lN (Ak kd kn tr tk r 1 i * 115)) (lN ((Ak kd kn tr tk r 1 i + Ak kd kn tr tk r 0 i) * 115))) (lN (lvA kd kn tr tk r b)) (lN (Ak kd kn tr tk r 1 i * 115)) (b := lvB kd kn tr tk r b) (e := (Ak kd kn tr tk r 1 i + Ak kd kn tr tk r 0 i) * 115) (by omega) (by omega) (Or.inr (by omega))
          rw [xm_br_f z2, hv, xm_cI_s]
          by_cases z3 : v = 0
          · rw [xm_br_t z3]; exact g 0
          · rw [xm_br_f z3]; exact g 1
    rw [xm_br_f (by rw [l_eq0 (by omega)]; omega)]
    obtain ⟨b1, n0, n1, n2⟩ := C_lv h hu h64 d d' x w m (i + 1) (i + 1) (by omega) (Or.inr ⟨by omega, hc, hs, hz⟩)
    have nle : ¬ lg_cmp (lN ((Ak kd kn tr tk r 1 i + Ak kd kn tr tk r 0 i) * 115)) 0 ≤ 0 := by rw [lg_cmp_le, ← lN_0, pk_lLE (by omega) (by omega)]; omega
    rcases hb with hb | ⟨hb1, hb2, hb3, hb4⟩
    · -- the first one
      subst hb
      refine ⟨b1, n0, ?_, fun a e => ?_⟩
      · rw [xm_br_t (show oI 0 = -1 from rfl)]; exact n1
      · rw [mod a e, hc, xm_br_f (by decide), xm_br_t ((oI_m1 (by omega)).mpr hs), hby, xm_cV_s, xm_br_t ((l_eq0 (by omega)).mpr (show lvB kd kn tr tk r 0 = 0 from if_pos rfl)), l136 1 0, xm_br_f nle, xm_br_f (by decide)]
        exact n2 _ _
    · by_cases hb0 : b = 0
      · subst hb0
        refine ⟨b1, n0, ?_, fun a e => ?_⟩
        · rw [xm_br_t (show oI 0 = -1 from rfl)]; exact n1
        · rw [mod a e, hc, xm_br_f (by decide), xm_br_t ((oI_m1 (by omega)).mpr hs), hby, xm_cV_s, xm_br_t ((l_eq0 (by omega)).mpr (show lvB kd kn tr tk r 0 = 0 from if_pos rfl)), l136 1 0, xm_br_f nle, xm_br_f (by decide)]
          exact n2 _ _
      have eA : lvA kd kn tr tk r b = Ak kd kn tr tk r 1 (b - 1) * 115 := if_neg hb0
      have eB : lvB kd kn tr tk r b = (Ak kd kn tr tk r 1 (b - 1) + Ak kd kn tr tk r 0 (b - 1)) * 115 := if_neg hb0
      -- the comparison is the same
      have cmp : ∀ p q p' q' : Nat, p * 115 * ((p' + q') * 115) < p' * 115 * ((p + q) * 115) ↔ p * q' < p' * q := by
        intro p q p' q'
        have e1 : p * 115 * ((p' + q') * 115) = (p * p' + p * q') * 13225 := by
          rw [← Nat.mul_add]
          simp only [Nat.mul_assoc, Nat.mul_comm, Nat.mul_left_comm]
        have e2 : p' * 115 * ((p + q) * 115) = (p * p' + p' * q) * 13225 := by
          rw [Nat.mul_comm p p', ← Nat.mul_add]
          simp only [Nat.mul_assoc, Nat.mul_comm, Nat.mul_left_comm]
        rw [e1, e2]
        omega
      have rsb : ∀ p q p' q' : Nat, nI (rs (p * 115) ((p + q) * 115) (p' * 115) ((p' + q') * 115) 0) = bI (p * q' < p' * q) := by
        intro p q p' q'
        unfold rs
        by_cases z : p * q' < p' * q
        · have := (cmp p q p' q').mpr z
          rw [bI_t z, if_neg (by omega), if_pos this]; rfl
        · have : ¬ _ := fun e => z ((cmp p q p' q').mp e)
          rw [bI_f z]
          by_cases z2 : p * 115 * ((p' + q') * 115) = p' * 115 * ((p + q) * 115)
          · rw [if_pos z2]; rfl
          · rw [if_neg z2, if_neg this]; rfl
      have b24 := Ak_le (kd := kd) (kn := kn) (tr := tr) (tk := tk) hr 1 (b - 1)
      have b24' := Ak_le (kd := kd) (kn := kn) (tr := tr) (tk := tk) hr 0 (b - 1)
      have nB : ¬ lg_cmp (lN (lvB kd kn tr tk r b)) 0 = 0 := by rw [l_eq0 (by omega), eB]; omega
      rw [xm_br_f (fun q => hb0 ((oI_m1 (by omega)).mp q)), oI_s hb0, C_isL h d (by omega) hb1 (Ak_pr h _ _) (Ak_pr h _ _), C_isL h d hb1 (by omega) (Ak_pr h _ _) (Ak_pr h _ _), xm_cI_s, xm_cI_s]
      rw [oI_s hb0] at s1
      by_cases hx : x = 0
      · rw [xm_br_t hx]
        by_cases z : Ak kd kn tr tk r 1 i * Ak kd kn tr tk r 0 (b - 1) < Ak kd kn tr tk r 1 (b - 1) * Ak kd kn tr tk r 0 i
        · refine ⟨b1, n0, ?_, fun a e => ?_⟩
          · rw [xm_br_b z]; exact n1
          · rw [mod a e, hc, xm_br_f (by decide), xm_br_t ((oI_m1 (by omega)).mpr hs), hby, xm_cV_s, xm_br_f nB, xm_br_t hx, AB_37, AB_38, X_Mod_isLess_e, eA, eB, show (0 : Int32) = nI 0 from rfl, C_less _ _ _ _ _ _ 0 (by omega) (by omega) (by omega) (by omega) (by omega) (by omega) (by omega), xm_cI_s, rsb, show nI 0 = 0 from rfl, xm_br_b z, ← eA, ← eB, l136 1 0, xm_br_f nle, xm_br_f (by decide)]
            exact n2 _ _
        · refine ⟨b0, s0, ?_, fun a e => ?_⟩
          · rw [xm_br_n z]; exact s1
          · rw [mod a e, hc, xm_br_f (by decide), xm_br_t ((oI_m1 (by omega)).mpr hs), hby, xm_cV_s, xm_br_f nB, xm_br_t hx, AB_37, AB_38, X_Mod_isLess_e, eA, eB, show (0 : Int32) = nI 0 from rfl, C_less _ _ _ _ _ _ 0 (by omega) (by omega) (by omega) (by omega) (by omega) (by omega) (by omega), xm_cI_s, rsb, show nI 0 = 0 from rfl, xm_br_n z, ← eA, ← eB, l136 0 0, xm_br_f nle, xm_br_t rfl]
            exact s2 _ _
      · rw [xm_br_f hx]
        by_cases z : Ak kd kn tr tk r 1 (b - 1) * Ak kd kn tr tk r 0 i < Ak kd kn tr tk r 1 i * Ak kd kn tr tk r 0 (b - 1)
        · refine ⟨b1, n0, ?_, fun a e => ?_⟩
          · rw [xm_br_b z]; exact n1
          · rw [mod a e, hc, xm_br_f (by decide), xm_br_t ((oI_m1 (by omega)).mpr hs), hby, xm_cV_s, xm_br_f nB, xm_br_f hx, AB_37, AB_38, X_Mod_isLess_e, eA, eB, show (0 : Int32) = nI 0 from rfl, C_less _ _ _ _ _ _ 0 (by omega) (by omega) (by omega) (by omega) (by omega) (by omega) (by omega), xm_cI_s, rsb, show nI 0 = 0 from rfl, xm_br_b z, ← eA, ← eB, l136 1 0, xm_br_f nle, xm_br_f (by decide)]
            exact n2 _ _
        · refine ⟨b0, s0, ?_, fun a e => ?_⟩
          · rw [xm_br_n z]; exact s1
          · rw [mod a e, hc, xm_br_f (by decide), xm_br_t ((oI_m1 (by omega)).mpr hs), hby, xm_cV_s, xm_br_f nB, xm_br_f hx, AB_37, AB_38, X_Mod_isLess_e, eA, eB, show (0 : Int32) = nI 0 from rfl, C_less _ _ _ _ _ _ 0 (by omega) (by omega) (by omega) (by omega) (by omega) (by omega) (by omega), xm_cI_s, rsb, show nI 0 = 0 from rfl, xm_br_n z, ← eA, ← eB, l136 0 0, xm_br_f nle, xm_br_t rfl]
            exact s2 _ _
end LV
theorem O_leaving {r : Nat} {σ : Sg} (h : RcA r σ) (d : Nat) (x w : Int32) : OpL (X_TO_leaving (d + 5) x w) (X_Mod_leaving (d + 5) x w) (Es σ) σ := by
  unfold OpL
  have hr := h.1
  by_cases hx : inR x 2
  rotate_left
  · refine ⟨BADL, σ, σ, ?_, ?_, Es.rf σ⟩
    · rw [X_TO_leaving_e, C_isBit, xm_cI_s, xm_br_n hx, C_refusal, xm_cL_s]; rfl
    · rw [X_Mod_leaving_e, C_isTwo, xm_cI_s, xm_br_n hx, C_no, xm_cL_s]; rfl
  by_cases hw : inR w 2
  rotate_left
  · refine ⟨BADL, σ, σ, ?_, ?_, Es.rf σ⟩
    · rw [X_TO_leaving_e, C_isBit, xm_cI_s, xm_br_b hx, C_isBit, xm_cI_s, xm_br_n hw, C_refusal, xm_cL_s]; rfl
    · rw [X_Mod_leaving_e, C_isTwo, xm_cI_s, xm_br_b hx, C_isTwo, xm_cI_s, xm_br_n hw, C_no, xm_cL_s]; rfl
  obtain ⟨bo, kd, kn, tr, ct, tk, hv⟩ := h.view
  obtain ⟨υ, u1, u2⟩ := C_fc (d + 4) h
  have hv' := hv.es u2.es
  obtain ⟨b, b0, b1, b2⟩ := C_lv hv hv' u2.ct d (d + 3) x w r 0 0 (by omega) (Or.inl rfl)
  have l1 := Ak_le (kd := kd) (kn := kn) (tr := tr) (tk := tk) hr 1 (b - 1)
  have l0 := Ak_le (kd := kd) (kn := kn) (tr := tr) (tk := tk) hr 0 (b - 1)
  have cls : X_TO_leaving (d + 5) x w σ = some (some (.long (frN (lvA kd kn tr tk r b) (lvB kd kn tr tk r b) w)), σ) := by
    rw [X_TO_leaving_e, C_isBit, xm_cI_s, xm_br_b hx, C_isBit, xm_cI_s, xm_br_b hw, X_Shares_treeToLeave_e, show X_Shares_treeToLeave_4 (d + 4) x (-1) 0 σ = _ from b1, xm_cI_s]
    rcases b0 with e | ⟨e1, -, -, -⟩
    · subst e
      rw [xm_br_t (show oI 0 = -1 from rfl), C_refusal, xm_cL_s]
      unfold frN lvB
      rw [if_pos rfl, if_pos rfl]
      rfl
    · by_cases e : b = 0
      · subst e
        rw [xm_br_t (show oI 0 = -1 from rfl), C_refusal, xm_cL_s]
        unfold frN lvB
        rw [if_pos rfl, if_pos rfl]
        rfl
      · rw [xm_br_f (fun q => e ((oI_m1 (by omega)).mp q)), oI_s e, show X_Shares_byTies (d + 4) 1 (nI (b - 1)) σ = some (some (.long (lN (Ak kd kn tr tk r 1 (b - 1)))), σ) from C_byT hv (d + 2) (k := 1) (by omega) (but_t hv (t := b - 1) (by omega)), xm_cL_s, show X_Shares_byTies (d + 4) 0 (nI (b - 1)) σ = some (some (.long (lN (Ak kd kn tr tk r 0 (b - 1)))), σ) from C_byT hv (d + 2) (k := 0) (by omega) (but_t hv (t := b - 1) (by omega)), xm_cL_s, F_tpart (d + 2) _ w (by omega), xm_cL_s]
        unfold lvA lvB
        rw [if_neg e, if_neg e, frN_scale (by omega)]
  by_cases ht : cnW ct (fun i => decide (bo i = 0)) r < 2
  · refine ⟨_, σ, υ, cls, ?_, u2.es⟩
    have e : b = 0 := by
      rcases b0 with e | ⟨e1, e2, e3, e4⟩
      · exact e
      · exact absurd (by rw [one_tree hv ht e1 e2 e3 1, one_tree hv ht e1 e2 e3 0]) e4
    subst e
    rw [X_Mod_leaving_e, C_isTwo, xm_cI_s, xm_br_b hx, C_isTwo, xm_cI_s, xm_br_b hw, u1, xm_cV_s, C_trees hv' u2.ct, xm_cI_s, xm_br_f (show ¬ 2 ≤ nI (cnW ct (fun i => decide (bo i = 0)) r) from nI_ge (b := 2) ht (by omega)), C_no, xm_cL_s]
    unfold frN lvB
    rw [if_pos rfl, if_pos rfl]
    rfl
  · obtain ⟨a', e', z⟩ := b2 (υ.2 39 37) (υ.2 39 38)
    have eAB : AB υ (υ.2 39 37) (υ.2 39 38) = υ := by
      unfold AB
      refine Prod.ext rfl ?_
      funext c j
      by_cases hc : c = 39 ∧ j = 37
      · simp [hc]
      · by_cases hc2 : c = 39 ∧ j = 38
        · simp [hc2]
        · simp [hc, hc2]
    rw [eAB] at z
    refine ⟨_, σ, _, cls, ?_, AB_es u2.es a' e'⟩
    have hle : cnW ct (fun i => decide (bo i = 0)) r ≤ r := cnt_le _ r
    rw [X_Mod_leaving_e, C_isTwo, xm_cI_s, xm_br_b hx, C_isTwo, xm_cI_s, xm_br_b hw, u1, xm_cV_s, C_trees hv' u2.ct, xm_cI_s, xm_br_t (show 2 ≤ nI (cnW ct (fun i => decide (bo i = 0)) r) from nI_le (a := 2) (by omega) (by omega))]
    exact z
