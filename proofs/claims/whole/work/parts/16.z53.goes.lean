/-! ===== the reference's days ===== -/
theorem lpK {κ σ τ : Type} (L : κ → Nat → σ → Option τ) (I : Nat → σ → Prop) (N : Nat) (hs : ∀ k s, k < N → I k s → ∃ s', I (k + 1) s' ∧ ∀ K n, L K (n + 1) s = L K n s') (F : Nat) (s : σ) (hF : N < F) (h0 : I 0 s) : ∃ s' f, I N s' ∧ ∀ K, L K F s = L K (f + 1) s' := by
  have h : ∀ d k, N - k = d → k ≤ N → ∀ F s, d < F → I k s → ∃ s' f, I N s' ∧ ∀ K, L K F s = L K (f + 1) s' := by
    intro d
    induction d with
    | zero =>
      intro k hd hk F s hF hI
      obtain ⟨f, rfl⟩ : ∃ f, F = f + 1 := ⟨F - 1, by omega⟩
      have e : k = N := by omega
      subst e
      exact ⟨s, f, hI, fun K => rfl⟩
    | succ d ih =>
      intro k hd hk F s hF hI
      obtain ⟨f, rfl⟩ : ∃ f, F = f + 1 := ⟨F - 1, by omega⟩
      obtain ⟨s', hI', e⟩ := hs k s (by omega) hI
      obtain ⟨s2, f2, a1, a2⟩ := ih (k + 1) (by omega) (by omega) f s' (by omega) hI'
      exact ⟨s2, f2, a1, fun K => by rw [e K f, a2 K]⟩
  exact h N 0 (by omega) (by omega) F s hF h0
theorem upd_comm {f : Row} {a b : Nat} {x y : Int32} (h : a ≠ b) : upd (upd f a x) b y = upd (upd f b y) a x := funext fun i => by
  by_cases h1 : i = a
  · subst h1
    rw [upd_ne h, upd_at, upd_at]
  · by_cases h2 : i = b
    · subst h2
      rw [upd_at, upd_ne h1, upd_at]
    · rw [upd_ne h2, upd_ne h1, upd_ne h1, upd_ne h2]
theorem HVx.td {ev : Row → Int32} {r : Row} (H : HVx ev r) {g : Nat} (hg : g < nv r 3) : HVx ev (tdS ev r g) := by
  obtain ⟨c, h⟩ := H
  refine ⟨fun j i => if j = 4 ∧ i = g then jmax 0 (jmin 99 (r (24 + 5 * g + 2) + tnS ev r g)) else c j i, tdS_hv hg h (if_pos ⟨rfl, rfl⟩) fun j i _ hn => if_neg hn⟩
theorem HVx.tdA {ev : Row → Int32} {r : Row} (H : HVx ev r) (p : Nat → Bool) (k : Nat) (hp : ∀ g, g < k → p g = true → g < nv r 3) : HVx ev (tdA ev p r k) := by
  induction k with
  | zero => exact H
  | succ k ih =>
    show HVx ev (if p k = true then tdS ev (_root_.Jvm.Pilot.CSaturdayKeepLaw_law_r5597_2f86dc.tdA ev p r k) k else _)
    split
    · rename_i h
      exact (ih fun g hg => hp g (by omega)).td (by rw [nv_tdA k fun g _ => by omega]; exact hp k (by omega) h)
    · exact ih fun g hg => hp g (by omega)
