/-! THE WHOLE INVARIANT, and each call under it -/
def INV (k : Nat) (σ : Sg) : Prop := ∃ n T K s L r c, NtA n T K σ ∧ StA n s L σ ∧ RcA r σ ∧ MkA σ ∧ ShA σ ∧ CcA n T c σ ∧ c ≤ 9 * k
theorem CcA.fr {n c : Nat} {T : Nat → Nat} {σ τ : Sg} (h : CcA n T c σ) (e1 : τ.1 1 3 = σ.1 1 3) (e3 : τ.1 3 = σ.1 3) (e2 : τ.2 = σ.2) : CcA n T c τ := by
  unfold CcA ChG
  rw [e1, e3, e2]
  exact h
/-- the net has changed: nothing that is kept is taken for it -/
theorem CcA.up {n n' c δ : Nat} {T T' : Nat → Nat} {σ τ : Sg} (h : CcA n T c σ) (hd : 1 ≤ δ) (hb : c + δ < 2 ^ 31) (e1 : τ.1 1 3 = σ.1 1 3 + nI δ) (e3 : τ.1 3 = σ.1 3) : CcA n' T' (c + δ) τ := by
  refine ⟨by rw [e1, h.1, nI_add], hb, ?_, fun q => ?_⟩
  · rw [e3]
    rcases h.2.2.1 with z | ⟨f, hf, z⟩
    · exact Or.inl z
    · exact Or.inr ⟨f, by omega, z⟩
  · rw [e3] at q
    exfalso
    rcases h.2.2.1 with z | ⟨f, hf, z⟩
    · rw [z] at q
      exact nI_nm1 hb q.symm
    · rw [z] at q
      have := (nI_eq (by omega) hb).mp q
      omega
theorem OpI.mono {f g : Sg → Oz} {P Q : Sg → Prop} {σ : Sg} (h : OpI f g P σ) (hp : ∀ τ, P τ → Q τ) : OpI f g Q σ := by
  obtain ⟨r, σ1, σ2, a, b, c⟩ := h
  exact ⟨r, σ1, σ2, a, b, hp _ c⟩
theorem OpL.mono {f g : Sg → Oz} {P Q : Sg → Prop} {σ : Sg} (h : OpL f g P σ) (hp : ∀ τ, P τ → Q τ) : OpL f g Q σ := by
  obtain ⟨r, σ1, σ2, a, b, c⟩ := h
  exact ⟨r, σ1, σ2, a, b, hp _ c⟩
section IV
variable {k n K L r c : Nat} {T : Nat → Nat} {s : Int32} {σ : Sg}
theorem iv_eq (h1 : NtA n T K σ) (h2 : StA n s L σ) (h3 : RcA r σ) (h4 : MkA σ) (h5 : ShA σ) (h6 : CcA n T c σ) (h7 : c ≤ 9 * k) : ∀ τ, τ = σ → INV (k + 1) τ := by
  rintro τ rfl
  exact ⟨n, T, K, s, L, r, c, h1, h2, h3, h4, h5, h6, by omega⟩
theorem iv_es (h1 : NtA n T K σ) (h2 : StA n s L σ) (h3 : RcA r σ) (h4 : MkA σ) (h5 : ShA σ) (h6 : CcA n T c σ) (h7 : c ≤ 9 * k) : ∀ τ, Es σ τ → INV (k + 1) τ := fun τ g => ⟨n, T, K, s, L, r, c, h1.es g, h2.es g, h3.es g, h4.es g, h5.es g, h6.es g, by omega⟩
theorem iv_ch (h1 : NtA n T K σ) (h2 : StA n s L σ) (h3 : RcA r σ) (h4 : MkA σ) (h5 : ShA σ) (h6 : CcA n T c σ) (h7 : c ≤ 9 * k) : ∀ τ, ChP n T c σ τ → INV (k + 1) τ := fun τ g => ⟨n, T, K, s, L, r, c, h1.ec g.1, h2.ec g.1, h3.ec g.1, h4.ec g.1, h5.ec g.1, g.2, by omega⟩
theorem iv_sh (h1 : NtA n T K σ) (h2 : StA n s L σ) (h3 : RcA r σ) (h4 : MkA σ) (h5 : ShA σ) (h6 : CcA n T c σ) (h7 : c ≤ 9 * k) : ∀ τ, ShP σ τ → INV (k + 1) τ := fun τ g => ⟨n, T, K, s, L, r, c, h1.ex g.2 (by decide) (by decide), h2.ex g.2 (by decide) (by decide), h3.ex g.2 (by decide) (by decide), h4.ex g.2 (by decide), g.1, h6.fr (by rw [g.2.1 1 (by decide) (by decide)]) (g.2.1 3 (by decide) (by decide)) g.2.2.2, by omega⟩
theorem iv_kd (h1 : NtA n T K σ) (h2 : StA n s L σ) (h3 : RcA r σ) (h4 : MkA σ) (h5 : ShA σ) (h6 : CcA n T c σ) (h7 : c ≤ 9 * k) : ∀ τ, KdP n T σ τ → INV (k + 1) τ := by
  rintro τ ⟨⟨K', g1⟩, g2, g3⟩
  exact ⟨n, T, K', s, L, r, c, g1, h2.ex g2 (by decide) (by decide), h3.ex g2 (by decide) (by decide), h4.ex g2 (by decide), h5.ex g2 (by decide) (by decide), h6.fr g3 (g2.1 3 (by decide) (by decide)) g2.2.2, by omega⟩
theorem iv_ti (hk : k < 512) (h1 : NtA n T K σ) (h2 : StA n s L σ) (h3 : RcA r σ) (h4 : MkA σ) (h5 : ShA σ) (h6 : CcA n T c σ) (h7 : c ≤ 9 * k) : ∀ τ, TiP n K T σ τ → INV (k + 1) τ := by
  rintro τ (rfl | ⟨⟨T', g1⟩, g2, g3⟩)
  · exact ⟨n, T, K, s, L, r, c, h1, h2, h3, h4, h5, h6, by omega⟩
  · exact ⟨n, T', K, s, L, r, c + 1, g1, h2.ex g2 (by decide) (by decide), h3.ex g2 (by decide) (by decide), h4.ex g2 (by decide), h5.ex g2 (by decide) (by decide), h6.up (by omega) (by omega) g3 (g2.1 3 (by decide) (by decide)), by omega⟩
theorem iv_rd (hk : k < 512) (h1 : NtA n T K σ) (h2 : StA n s L σ) (h3 : RcA r σ) (h4 : MkA σ) (h5 : ShA σ) (h6 : CcA n T c σ) (h7 : c ≤ 9 * k) : ∀ τ, RdP n K T σ τ → INV (k + 1) τ := by
  rintro τ (g | ⟨T', δ, g1, g2, g3, g4, g5⟩)
  · exact iv_sh h1 h2 h3 h4 h5 h6 h7 τ g
  · by_cases z : δ = 0
    · have := g3 z
      subst this
      rw [z, nI_0] at g5
      exact ⟨n, T', K, s, L, r, c, g1, h2.ex g4 (by decide) (by decide), h3.ex g4 (by decide) (by decide), h4.ex g4 (by decide), h5.ex g4 (by decide) (by decide), h6.fr (by rw [g5]; simp) (g4.1 3 (by decide) (by decide)) g4.2.2, by omega⟩
    · exact ⟨n, T', K, s, L, r, c + δ, g1, h2.ex g4 (by decide) (by decide), h3.ex g4 (by decide) (by decide), h4.ex g4 (by decide), h5.ex g4 (by decide) (by decide), h6.up (by omega) (by omega) g5 (g4.1 3 (by decide) (by decide)), by omega⟩
theorem iv_pe (hk : k < 512) (h1 : NtA n T K σ) (h2 : StA n s L σ) (h3 : RcA r σ) (h4 : MkA σ) (h5 : ShA σ) (h6 : CcA n T c σ) (h7 : c ≤ 9 * k) : ∀ τ, PeP σ τ → INV (k + 1) τ := by
  rintro τ (rfl | ⟨⟨n', T', K', s', L', g1, g1'⟩, g2, g3⟩)
  · exact ⟨n, T, K, s, L, r, c, h1, h2, h3, h4, h5, h6, by omega⟩
  · exact ⟨n', T', K', s', L', r, c + 1, g1, g1', h3.ex g2 (by decide) (by decide), h4.ex g2 (by decide), h5.ex g2 (by decide) (by decide), h6.up (by omega) (by omega) g3 (g2.1 3 (by decide) (by decide)), by omega⟩
theorem iv_se (h1 : NtA n T K σ) (h2 : StA n s L σ) (h3 : RcA r σ) (h4 : MkA σ) (h5 : ShA σ) (h6 : CcA n T c σ) (h7 : c ≤ 9 * k) : ∀ τ, SeP n σ τ → INV (k + 1) τ := by
  rintro τ ⟨⟨s', L', g1⟩, ⟨r', g2⟩, g3⟩
  exact ⟨n, T, K, s', L', r', c, h1.ex g3 (by decide) (by decide), g1, g2, h4.ex g3 (by decide), h5.ex g3 (by decide) (by decide), h6.fr (by rw [g3.1 1 (by decide) (by decide)]) (g3.1 3 (by decide) (by decide)) g3.2.2, by omega⟩
theorem iv_rc (h1 : NtA n T K σ) (h2 : StA n s L σ) (h3 : RcA r σ) (h4 : MkA σ) (h5 : ShA σ) (h6 : CcA n T c σ) (h7 : c ≤ 9 * k) : ∀ τ, RcP σ τ → INV (k + 1) τ := by
  rintro τ ⟨⟨r', g1⟩, g2⟩
  exact ⟨n, T, K, s, L, r', c, h1.ex g2 (by decide) (by decide), h2.ex g2 (by decide) (by decide), g1, h4.ex g2 (by decide), h5.ex g2 (by decide) (by decide), h6.fr (by rw [g2.1 1 (by decide) (by decide)]) (g2.1 3 (by decide) (by decide)) g2.2.2, by omega⟩
theorem iv_mk (h1 : NtA n T K σ) (h2 : StA n s L σ) (h3 : RcA r σ) (h4 : MkA σ) (h5 : ShA σ) (h6 : CcA n T c σ) (h7 : c ≤ 9 * k) : ∀ τ, MkP σ τ → INV (k + 1) τ := by
  rintro τ ⟨g1, g2⟩
  exact ⟨n, T, K, s, L, r, c, h1.ex g2 (by decide) (by decide), h2.ex g2 (by decide) (by decide), h3.ex g2 (by decide) (by decide), g1, h5.ex g2 (by decide) (by decide), h6.fr (by rw [g2.1 1 (by decide) (by decide)]) (g2.1 3 (by decide) (by decide)) g2.2.2, by omega⟩
end IV
theorem I_persons {k : Nat} {σ : Sg} (hk : k < 512) (h : INV k σ) (x1 : Int32) : OpI (X_TO_persons 20 x1) (X_Mod_persons 20 x1) (INV (k + 1)) σ := by
  obtain ⟨n, T, K, s, L, r, c, h1, h2, h3, h4, h5, h6, h7⟩ := h
  exact (O_persons h1 h2 16 x1).mono (iv_pe hk h1 h2 h3 h4 h5 h6 h7)
theorem I_tie {k : Nat} {σ : Sg} (hk : k < 512) (h : INV k σ) (x1 x2 x3 : Int32) (hw : inR x3 2) : OpI (X_TO_tie 20 x1 x2 x3) (X_Mod_tie 20 x1 x2 x3) (INV (k + 1)) σ := by
  obtain ⟨n, T, K, s, L, r, c, h1, h2, h3, h4, h5, h6, h7⟩ := h
  exact (O_tie h1 16 x1 x2 x3 hw).mono (iv_ti hk h1 h2 h3 h4 h5 h6 h7)
theorem I_kind {k : Nat} {σ : Sg} (h : INV k σ) (x1 x2 : Int32) : OpI (X_TO_kind 20 x1 x2) (X_Mod_kind 20 x1 x2) (INV (k + 1)) σ := by
  obtain ⟨n, T, K, s, L, r, c, h1, h2, h3, h4, h5, h6, h7⟩ := h
  exact (O_kind h1 16 x1 x2).mono (iv_kd h1 h2 h3 h4 h5 h6 h7)
theorem I_read {k : Nat} {σ : Sg} (hk : k < 512) (h : INV k σ) (x1 x2 : Int32) : OpI (X_TO_read 20 x1 x2) (X_Mod_read 20 x1 x2) (INV (k + 1)) σ := by
  obtain ⟨n, T, K, s, L, r, c, h1, h2, h3, h4, h5, h6, h7⟩ := h
  exact (O_read h1 h5 16 x1 x2).mono (iv_rd hk h1 h2 h3 h4 h5 h6 h7)
theorem I_about {k : Nat} {σ : Sg} (h : INV k σ) (x1 x2 : Int32) : OpI (X_TO_about 20 x1 x2) (X_Mod_about 20 x1 x2) (INV (k + 1)) σ := by
  obtain ⟨n, T, K, s, L, r, c, h1, h2, h3, h4, h5, h6, h7⟩ := h
  exact (O_about h1 16 x1 x2).mono (iv_eq h1 h2 h3 h4 h5 h6 h7)
theorem I_far {k : Nat} {σ : Sg} (h : INV k σ) (x1 x2 : Int32) : OpI (X_TO_far 20 x1 x2) (X_Mod_far 20 x1 x2) (INV (k + 1)) σ := by
  obtain ⟨n, T, K, s, L, r, c, h1, h2, h3, h4, h5, h6, h7⟩ := h
  exact (O_far h1 16 x1 x2).mono (iv_eq h1 h2 h3 h4 h5 h6 h7)
theorem I_set {k : Nat} {σ : Sg} (h : INV k σ) (x1 x2 : Int32) : OpI (X_TO_set 20 x1 x2) (X_Mod_set 20 x1 x2) (INV (k + 1)) σ := by
  obtain ⟨n, T, K, s, L, r, c, h1, h2, h3, h4, h5, h6, h7⟩ := h
  exact (O_set h1 h2 h3 16 x1 x2).mono (iv_se h1 h2 h3 h4 h5 h6 h7)
theorem I_found {k : Nat} {σ : Sg} (h : INV k σ) (x1 x2 : Int32) : OpL (X_TO_found 20 x1 x2) (X_Mod_found 20 x1 x2) (INV (k + 1)) σ := by
  obtain ⟨n, T, K, s, L, r, c, h1, h2, h3, h4, h5, h6, h7⟩ := h
  exact (O_found h1 h2 h6 14 x1 x2).mono (iv_ch h1 h2 h3 h4 h5 h6 h7)
theorem I_both {k : Nat} {σ : Sg} (h : INV k σ) (x1 x2 x3 : Int32) : OpL (X_TO_both 20 x1 x2 x3) (X_Mod_both 20 x1 x2 x3) (INV (k + 1)) σ := by
  obtain ⟨n, T, K, s, L, r, c, h1, h2, h3, h4, h5, h6, h7⟩ := h
  exact (O_both h1 h2 h6 14 x1 x2 x3).mono (iv_ch h1 h2 h3 h4 h5 h6 h7)
theorem I_size {k : Nat} {σ : Sg} (h : INV k σ) (x1 x2 : Int32) : OpL (X_TO_size 20 x1 x2) (X_Mod_size 20 x1 x2) (INV (k + 1)) σ := by
  obtain ⟨n, T, K, s, L, r, c, h1, h2, h3, h4, h5, h6, h7⟩ := h
  exact (O_size h1 h2 h6 14 x1 x2).mono (iv_ch h1 h2 h3 h4 h5 h6 h7)
theorem I_kinds {k : Nat} {σ : Sg} (h : INV k σ) (x1 x2 : Int32) : OpL (X_TO_kinds 20 x1 x2) (X_Mod_kinds 20 x1 x2) (INV (k + 1)) σ := by
  obtain ⟨n, T, K, s, L, r, c, h1, h2, h3, h4, h5, h6, h7⟩ := h
  exact (O_kinds h1 h2 h6 14 x1 x2).mono (iv_ch h1 h2 h3 h4 h5 h6 h7)
theorem I_within {k : Nat} {σ : Sg} (h : INV k σ) (x1 x2 : Int32) : OpL (X_TO_within 20 x1 x2) (X_Mod_within 20 x1 x2) (INV (k + 1)) σ := by
  obtain ⟨n, T, K, s, L, r, c, h1, h2, h3, h4, h5, h6, h7⟩ := h
  exact (O_within h1 h2 h6 14 x1 x2).mono (iv_ch h1 h2 h3 h4 h5 h6 h7)
theorem I_at {k : Nat} {σ : Sg} (h : INV k σ) (x1 x2 x3 : Int32) : OpL (X_TO_at 20 x1 x2 x3) (X_Mod_at 20 x1 x2 x3) (INV (k + 1)) σ := by
  obtain ⟨n, T, K, s, L, r, c, h1, h2, h3, h4, h5, h6, h7⟩ := h
  exact (O_at h1 h2 16 x1 x2 x3).mono (iv_es h1 h2 h3 h4 h5 h6 h7)
theorem I_lasting {k : Nat} {σ : Sg} (h : INV k σ) (x1 x2 : Int32) : OpL (X_TO_lasting 20 x1 x2) (X_Mod_lasting 20 x1 x2) (INV (k + 1)) σ := by
  obtain ⟨n, T, K, s, L, r, c, h1, h2, h3, h4, h5, h6, h7⟩ := h
  exact (O_lasting h1 16 x1 x2).mono (iv_eq h1 h2 h3 h4 h5 h6 h7)
theorem I_strayed {k : Nat} {σ : Sg} (h : INV k σ) (x1 x2 : Int32) : OpL (X_TO_strayed 20 x1 x2) (X_Mod_strayed 20 x1 x2) (INV (k + 1)) σ := by
  obtain ⟨n, T, K, s, L, r, c, h1, h2, h3, h4, h5, h6, h7⟩ := h
  exact (O_strayed h1 h2 16 x1 x2).mono (iv_es h1 h2 h3 h4 h5 h6 h7)
theorem I_came {k : Nat} {σ : Sg} (h : INV k σ) (x1 x2 x3 x4 : Int32) : OpI (X_TO_came 20 x1 x2 x3 x4) (X_Mod_came 20 x1 x2 x3 x4) (INV (k + 1)) σ := by
  obtain ⟨n, T, K, s, L, r, c, h1, h2, h3, h4, h5, h6, h7⟩ := h
  exact (O_came h3 16 x1 x2 x3 x4).mono (iv_rc h1 h2 h3 h4 h5 h6 h7)
theorem I_takeBack {k : Nat} {σ : Sg} (h : INV k σ) (x1 x2 : Int32) : OpI (X_TO_takeBack 20 x1 x2) (X_Mod_takeBack 20 x1 x2) (INV (k + 1)) σ := by
  obtain ⟨n, T, K, s, L, r, c, h1, h2, h3, h4, h5, h6, h7⟩ := h
  exact (O_takeBack h3 16 x1 x2).mono (iv_rc h1 h2 h3 h4 h5 h6 h7)
theorem I_record {k : Nat} {σ : Sg} (h : INV k σ) (x1 x2 : Int32) : OpI (X_TO_record 20 x1 x2) (X_Mod_record 20 x1 x2) (INV (k + 1)) σ := by
  obtain ⟨n, T, K, s, L, r, c, h1, h2, h3, h4, h5, h6, h7⟩ := h
  exact (O_record h3 16 x1 x2).mono (iv_es h1 h2 h3 h4 h5 h6 h7)
theorem I_share {k : Nat} {σ : Sg} (h : INV k σ) (x1 x2 : Int32) : OpL (X_TO_share 20 x1 x2) (X_Mod_share 20 x1 x2) (INV (k + 1)) σ := by
  obtain ⟨n, T, K, s, L, r, c, h1, h2, h3, h4, h5, h6, h7⟩ := h
  exact (O_share h3 16 x1 x2).mono (iv_es h1 h2 h3 h4 h5 h6 h7)
theorem I_bounds {k : Nat} {σ : Sg} (h : INV k σ) (x1 x2 x3 : Int32) : OpL (X_TO_bounds 20 x1 x2 x3) (X_Mod_bounds 20 x1 x2 x3) (INV (k + 1)) σ := by
  obtain ⟨n, T, K, s, L, r, c, h1, h2, h3, h4, h5, h6, h7⟩ := h
  exact (O_bounds h3 16 x1 x2 x3).mono (iv_es h1 h2 h3 h4 h5 h6 h7)
theorem I_leaving {k : Nat} {σ : Sg} (h : INV k σ) (x1 x2 : Int32) : OpL (X_TO_leaving 20 x1 x2) (X_Mod_leaving 20 x1 x2) (INV (k + 1)) σ := by
  obtain ⟨n, T, K, s, L, r, c, h1, h2, h3, h4, h5, h6, h7⟩ := h
  exact (O_leaving h3 15 x1 x2).mono (iv_es h1 h2 h3 h4 h5 h6 h7)
theorem I_alike {k : Nat} {σ : Sg} (h : INV k σ) (x1 : Int32) : OpI (X_TO_alike 20 x1) (X_Mod_alike 20 x1) (INV (k + 1)) σ := by
  obtain ⟨n, T, K, s, L, r, c, h1, h2, h3, h4, h5, h6, h7⟩ := h
  exact (O_alike h3 16 x1).mono (iv_es h1 h2 h3 h4 h5 h6 h7)
theorem I_forgot {k : Nat} {σ : Sg} (h : INV k σ) (x1 x2 : Int32) : OpL (X_TO_forgot 20 x1 x2) (X_Mod_forgot 20 x1 x2) (INV (k + 1)) σ := by
  obtain ⟨n, T, K, s, L, r, c, h1, h2, h3, h4, h5, h6, h7⟩ := h
  exact (O_forgot h3 16 x1 x2).mono (iv_es h1 h2 h3 h4 h5 h6 h7)
theorem I_wave {k : Nat} {σ : Sg} (h : INV k σ) (x1 : Int32) : OpI (X_TO_wave 20 x1) (X_Mod_wave 20 x1) (INV (k + 1)) σ := by
  obtain ⟨n, T, K, s, L, r, c, h1, h2, h3, h4, h5, h6, h7⟩ := h
  exact (O_wave h3 16 x1).mono (iv_es h1 h2 h3 h4 h5 h6 h7)
theorem I_type {k : Nat} {σ : Sg} (h : INV k σ) (x1 x2 : Int32) : OpI (X_TO_type 20 x1 x2) (X_Mod_type 20 x1 x2) (INV (k + 1)) σ := by
  obtain ⟨n, T, K, s, L, r, c, h1, h2, h3, h4, h5, h6, h7⟩ := h
  exact (O_type h3 h4 16 x1 x2).mono (iv_mk h1 h2 h3 h4 h5 h6 h7)
theorem I_wipe {k : Nat} {σ : Sg} (h : INV k σ) (x1 : Int32) : OpI (X_TO_wipe 20 x1) (X_Mod_wipe 20 x1) (INV (k + 1)) σ := by
  obtain ⟨n, T, K, s, L, r, c, h1, h2, h3, h4, h5, h6, h7⟩ := h
  exact (O_wipe h3 h4 16 x1).mono (iv_mk h1 h2 h3 h4 h5 h6 h7)
theorem I_clash {k : Nat} {σ : Sg} (h : INV k σ) (x1 x2 : Int32) : OpI (X_TO_clash 20 x1 x2) (X_Mod_clash 20 x1 x2) (INV (k + 1)) σ := by
  obtain ⟨n, T, K, s, L, r, c, h1, h2, h3, h4, h5, h6, h7⟩ := h
  exact (O_clash h3 h4 16 x1 x2).mono (iv_es h1 h2 h3 h4 h5 h6 h7)
theorem I_least {k : Nat} {σ : Sg} (h : INV k σ) : OpI (X_TO_least 20) (X_Mod_least 20) (INV (k + 1)) σ := by
  obtain ⟨n, T, K, s, L, r, c, h1, h2, h3, h4, h5, h6, h7⟩ := h
  exact (O_least h3 h4 6).mono (iv_es h1 h2 h3 h4 h5 h6 h7)
theorem I_ones {k : Nat} {σ : Sg} (h : INV k σ) (x1 : Int32) : OpI (X_TO_ones 20 x1) (X_Mod_ones 20 x1) (INV (k + 1)) σ := by
  obtain ⟨n, T, K, s, L, r, c, h1, h2, h3, h4, h5, h6, h7⟩ := h
  exact (O_ones h3 h4 6 x1).mono (iv_es h1 h2 h3 h4 h5 h6 h7)
theorem I_reach {k : Nat} {σ : Sg} (h : INV k σ) (x1 : Int32) : OpI (X_TO_reach 20 x1) (X_Mod_reach 20 x1) (INV (k + 1)) σ := by
  obtain ⟨n, T, K, s, L, r, c, h1, h2, h3, h4, h5, h6, h7⟩ := h
  exact (O_reach h1 16 x1).mono (iv_eq h1 h2 h3 h4 h5 h6 h7)
theorem I_parts {k : Nat} {σ : Sg} (h : INV k σ) (x1 : Int32) : OpI (X_TO_parts 20 x1) (X_Mod_parts 20 x1) (INV (k + 1)) σ := by
  obtain ⟨n, T, K, s, L, r, c, h1, h2, h3, h4, h5, h6, h7⟩ := h
  exact (O_parts h1 16 x1).mono (iv_eq h1 h2 h3 h4 h5 h6 h7)
theorem I_narrow {k : Nat} {σ : Sg} (h : INV k σ) (x1 : Int32) : OpL (X_TO_narrow 20 x1) (X_Mod_narrow 20 x1) (INV (k + 1)) σ := by
  obtain ⟨n, T, K, s, L, r, c, h1, h2, h3, h4, h5, h6, h7⟩ := h
  exact (O_narrow h1 16 x1).mono (iv_eq h1 h2 h3 h4 h5 h6 h7)
theorem I_sheet {k : Nat} {σ : Sg} (h : INV k σ) (x1 x2 x3 : Int32) : OpI (X_TO_sheet 20 x1 x2 x3) (X_Mod_sheet 20 x1 x2 x3) (INV (k + 1)) σ := by
  obtain ⟨n, T, K, s, L, r, c, h1, h2, h3, h4, h5, h6, h7⟩ := h
  exact (O_sheet h5 16 x1 x2 x3).mono (iv_sh h1 h2 h3 h4 h5 h6 h7)
theorem I_lose {k : Nat} {σ : Sg} (h : INV k σ) (x1 : Int32) : OpI (X_TO_lose 20 x1) (X_Mod_lose 20 x1) (INV (k + 1)) σ := by
  obtain ⟨n, T, K, s, L, r, c, h1, h2, h3, h4, h5, h6, h7⟩ := h
  exact (O_lose h5 17 x1).mono (iv_sh h1 h2 h3 h4 h5 h6 h7)
theorem I_lay {k : Nat} {σ : Sg} (h : INV k σ) (x1 x2 x3 x4 : Int32) : OpI (X_TO_lay 20 x1 x2 x3 x4) (X_Mod_lay 20 x1 x2 x3 x4) (INV (k + 1)) σ := by
  obtain ⟨n, T, K, s, L, r, c, h1, h2, h3, h4, h5, h6, h7⟩ := h
  exact (O_lay h5 16 x1 x2 x3 x4).mono (iv_sh h1 h2 h3 h4 h5 h6 h7)
theorem I_get {k : Nat} {σ : Sg} (h : INV k σ) (x1 x2 x3 : Int32) : OpI (X_TO_get 20 x1 x2 x3) (X_Mod_get 20 x1 x2 x3) (INV (k + 1)) σ := by
  obtain ⟨n, T, K, s, L, r, c, h1, h2, h3, h4, h5, h6, h7⟩ := h
  exact (O_get h5 16 x1 x2 x3).mono (iv_sh h1 h2 h3 h4 h5 h6 h7)
theorem I_copy {k : Nat} {σ : Sg} (h : INV k σ) (x1 x2 x3 x4 x5 : Int32) : OpI (X_TO_copy 20 x1 x2 x3 x4 x5) (X_Mod_copy 20 x1 x2 x3 x4 x5) (INV (k + 1)) σ := by
  obtain ⟨n, T, K, s, L, r, c, h1, h2, h3, h4, h5, h6, h7⟩ := h
  exact (O_copy h5 16 x1 x2 x3 x4 x5).mono (iv_sh h1 h2 h3 h4 h5 h6 h7)
theorem I_write {k : Nat} {σ : Sg} (h : INV k σ) (x1 x2 : Int32) : OpI (X_TO_write 20 x1 x2) (X_Mod_write 20 x1 x2) (INV (k + 1)) σ := by
  obtain ⟨n, T, K, s, L, r, c, h1, h2, h3, h4, h5, h6, h7⟩ := h
  exact (O_write h1 h5 16 x1 x2).mono (iv_sh h1 h2 h3 h4 h5 h6 h7)
theorem I_count {k : Nat} {σ : Sg} (h : INV k σ) (x1 : Int32) : OpI (X_TO_count 20 x1) (X_Mod_count 20 x1) (INV (k + 1)) σ := by
  obtain ⟨n, T, K, s, L, r, c, h1, h2, h3, h4, h5, h6, h7⟩ := h
  exact (O_count h1 h2 h3 h4 h5 16 x1).mono (iv_es h1 h2 h3 h4 h5 h6 h7)
theorem I_digest {k : Nat} {σ : Sg} (h : INV k σ) : OpL (X_TO_digest 20) (X_Mod_digest 20) (INV (k + 1)) σ := by
  obtain ⟨n, T, K, s, L, r, c, h1, h2, h3, h4, h5, h6, h7⟩ := h
  exact (O_digest h1 h2 h3 h4 h5 h6 14).mono (iv_ch h1 h2 h3 h4 h5 h6 h7)
