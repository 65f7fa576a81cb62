/-! ===== what is tried on a draft, answered alike ===== -/
/-- the reference puts aside, goes, and comes back -/
theorem back_to {μa μc : Mem} (hF : FQ (upA μa 0 15 (fl (μa 0 15) (μa 0 13) 0 304)) μc) (hi : ∀ i, 304 ≤ i → μc 0 13 i = μa 0 13 i) : ∃ μd, f_X10_comesBack μc = some μd ∧ FrS μa μd ∧ μd 0 12 0 = μa 0 12 0 ∧ μd 0 22 0 = μa 0 22 0 ∧ μd 0 15 = μc 0 15 ∧ μd 0 13 = μa 0 13 ∧ (∀ g j, ¬ (g = 0 ∧ j = 13) → μd g j = μc g j) := by
  have e15 : μc 0 15 = fl (μa 0 15) (μa 0 13) 0 304 := by rw [hF.1 0 15 (by omega), upA_at]
  have erow : fl (μc 0 13) (μc 0 15) 0 304 = μa 0 13 := funext fun i => by
    by_cases h : i < 304
    · rw [fl_in (by omega), e15, fl_in (by omega)]
    · rw [fl_out (by omega), hi i (by omega)]
  refine ⟨_, r_comesBack μc, fun g j i hs => ?_, ?_, ?_, ?_, ?_, fun g j h => upA_ne h⟩
  · by_cases h13 : g = 0 ∧ j = 13
    · obtain ⟨rfl, rfl⟩ := h13
      rw [upA_at, erow]
    · rw [upA_ne h13]
      have h15 : ¬ (g = 0 ∧ j = 15) := fun h => by
        rw [h.1, h.2] at hs
        cases hs
      by_cases h18 : g = 0 ∧ j = 18
      · obtain ⟨rfl, rfl⟩ := h18
        cases hs
      · by_cases h12 : g = 0 ∧ j = 12
        · obtain ⟨rfl, rfl⟩ := h12
          rw [hF.2 i (by
            unfold scr at hs
            unfold qf
            simp only [Bool.or_eq_false_iff, beq_eq_false_iff_ne, Bool.and_eq_false_iff, decide_eq_false_iff_not] at hs ⊢
            omega), upA_ne (by omega)]
        · rw [hF.1 g j (by omega), upA_ne h15]
  · rw [upA_ne (by omega), hF.2 0 rfl, upA_ne (by omega)]
  · rw [upA_ne (by omega), hF.1 0 22 (by omega), upA_ne (by omega)]
  · rw [upA_ne (by omega)]
  · rw [upA_at, erow]
theorem AgT.d {cm : List (Nat × Int32)} {μ : Mem} {E : Option (Nat × Int32 × Mem)} {F : Mem → Option (Int32 × Mem)} (R : Rel μ) (v : Int32) (μ1 : Mem) (hm : (0, 0) ∈ cm) (hE : E = some (0, v, μ1)) (h1 : FrS μ μ1) (hF : ∀ μa : Mem, FrS μ μa → μa 0 13 = μ 0 13 → μa 0 12 0 = 0 → (∃ x, μa = upm x 0 12 0 0 ∧ F x = F x) → True → True) (hF2 : ∀ x : Mem, FrS μ x → ∃ μ6, F x = some (v, μ6) ∧ FrS x μ6 ∧ μ6 0 12 0 = 0 ∧ μ6 0 22 0 = x 0 22 0) : AgT cm E F := by
  obtain ⟨μ6, a1, a2, a3, a4⟩ := hF2 (upm μ1 0 22 0 v) (h1.upm v rfl)
  exact AgT.ok v μ1 hm hE ⟨μ6, a1, a3, by rw [a4, upm_at], R.fr ((h1.upm v rfl).trans a2)⟩
/-- rows alike but for the others' doubts -/
def EqX (g : Nat) (r r' : Row) : Prop := ∀ i, (∀ g', g' < 8 → g' ≠ g → i ≠ 24 + 5 * g' + 2) → r i = r' i
theorem EqX.nv {g : Nat} {r r' : Row} (h : EqX g r r') {i : Nat} (hi : ∀ g', g' < 8 → g' ≠ g → i ≠ 24 + 5 * g' + 2) : nv r i = nv r' i := by
  unfold Jvm.Pilot.nvX
  sorry
