/-! ===== houses copied, acts remembered ===== -/
theorem cpx_8 {τ : Type} (E : Option τ) : cpx 0 0 8 8 8 E = E := if_pos (by decide)
theorem cpx_240 {τ : Type} (E : Option τ) : cpx 0 0 240 240 240 E = E := if_pos (by decide)
theorem clip_b (x : Int32) : ∃ k, k ≤ 400 ∧ jmax 0 (jmin x 400) = Int32.ofNat k := by
  unfold jmin jmax
  by_cases h1 : (400 : Int32) < x
  · rw [if_pos h1]
    exact ⟨400, Nat.le_refl _, rfl⟩
  · rw [if_neg h1]
    by_cases h2 : (0 : Int32) < x
    · rw [if_pos h2]
      obtain ⟨k, hk, e⟩ := nat_of (m := 400) (fun h => absurd (Int32.lt_trans h h2) Int32.lt_irrefl) (Int32.not_lt.mp h1) (by decide)
      exact ⟨k, hk, e⟩
    · rw [if_neg h2]
      exact ⟨0, Nat.zero_le _, rfl⟩
theorem clip_n {k : Nat} (h : k ≤ 400) : jmax 0 (jmin (Int32.ofNat k) 400) = Int32.ofNat k := by
  rw [i_400, i_0, on_min (by omega) (by decide), on_max (by decide) (by omega)]
  congr 1
  omega
theorem cpx_n {τ : Type} {k : Nat} (h : k ≤ 400) (E : Option τ) : cpx 0 0 (Int32.ofNat k) 400 400 E = E := by
  unfold cpx
  rw [on_i (by omega), on_t (by omega)]
  exact if_pos ⟨by decide, by decide, by omega, by rw [show (0 : Int32).toNatClampNeg = 0 from rfl]; omega, by rw [show (0 : Int32).toNatClampNeg = 0 from rfl]; omega⟩
theorem cpm_at (μ : Mem) (g0 j0 g1 j1 n i : Nat) (h : i < n) : cpm μ g0 j0 0 g1 j1 0 n g1 j1 i = μ g0 j0 i := by
  unfold cpm upA va_cpy
  rw [if_pos ⟨rfl, rfl⟩, if_pos ⟨by omega, by omega⟩]
  congr 1
  omega
theorem cpm_ne {μ : Mem} {g0 j0 s g1 j1 d n a b : Nat} (h : ¬ (a = g1 ∧ b = j1)) : cpm μ g0 j0 s g1 j1 d n a b = μ a b := if_neg h
theorem cpm_ng {μ : Mem} {g0 j0 s g1 j1 d n a : Nat} (h : a ≠ g1) : cpm μ g0 j0 s g1 j1 d n a = μ a := funext fun _ => if_neg fun q => h q.1
/-- the cells that a copy takes over as they are -/
def cpC (j i : Nat) : Bool := match j with
  | 0 => decide (5 ≤ i) && decide (i ≤ 16)
  | 1 => decide (3 ≤ i) && decide (i ≤ 5)
  | 2 => decide (i < 8)
  | 3 => decide (i < 8)
  | 4 => decide (i < 8)
  | 5 => decide (1 ≤ i) && decide (i ≤ 2)
  | 6 => decide (i < 240)
  | 7 => i == 4
  | 10 => decide (i < 8)
  | _ => false
theorem c_copy1 {d s : Nat} (hne : s ≠ d) (μ : Mem) : ∃ μ', f_X1_copy d s μ = some μ' ∧ (∀ g, g ≠ d + 1 → μ' g = μ g) ∧ (∀ j i, cpC j i = true → (j = 1 ∨ j = 2 ∨ j = 3 ∨ j = 4) → μ' (d + 1) j i = μ (s + 1) j i) ∧ ∀ j, ¬ (j = 1 ∨ j = 2 ∨ j = 3 ∨ j = 4) → μ' (d + 1) j = μ (d + 1) j := by
  unfold f_X1_copy
  simp only [cpx_8, nm_q, show Int32.toNatClampNeg 0 = 0 from rfl, show Int32.toNatClampNeg 8 = 8 from rfl]
  refine ⟨_, rfl, fun g hg => ?_, fun j i hc hj => ?_, fun j hj => ?_⟩
  · rw [upm_ng hg, upm_ng hg, upm_ng hg, cpm_ng hg, cpm_ng hg, cpm_ng hg]
  · have hs : s + 1 ≠ d + 1 := by omega
    rcases hj with rfl | rfl | rfl | rfl
    · unfold cpC at hc
      simp only [Bool.and_eq_true, decide_eq_true_eq] at hc
      rcases (show i = 3 ∨ i = 4 ∨ i = 5 by omega) with rfl | rfl | rfl
      · rw [upm_n3 (by omega), upm_n3 (by omega), upm_at, cpm_ng hs, cpm_ng hs, cpm_ng hs]
      · rw [upm_n3 (by omega), upm_at, upm_ng hs, cpm_ng hs, cpm_ng hs, cpm_ng hs]
      · rw [upm_at, upm_ng hs, upm_ng hs, cpm_ng hs, cpm_ng hs, cpm_ng hs]
    · replace hc : i < 8 := of_decide_eq_true hc
      rw [upm_ne (by omega), upm_ne (by omega), upm_ne (by omega), cpm_ne (by omega), cpm_ne (by omega), cpm_at _ _ _ _ _ _ _ hc]
    · replace hc : i < 8 := of_decide_eq_true hc
      rw [upm_ne (by omega), upm_ne (by omega), upm_ne (by omega), cpm_ne (by omega), cpm_at _ _ _ _ _ _ _ hc, cpm_ng hs]
    · replace hc : i < 8 := of_decide_eq_true hc
      rw [upm_ne (by omega), upm_ne (by omega), upm_ne (by omega), cpm_at _ _ _ _ _ _ _ hc, cpm_ng hs, cpm_ng hs]
  · rw [upm_ne (by omega), upm_ne (by omega), upm_ne (by omega), cpm_ne (by omega), cpm_ne (by omega), cpm_ne (by omega)]
theorem c_copy0 {d s : Nat} (hne : s ≠ d) (μ : Mem) : ∃ μ', f_X0_copy d s μ = some μ' ∧ (∀ g, g ≠ d + 1 → μ' g = μ g) ∧ (∀ j i, cpC j i = true → (j = 5 ∨ j = 6) → μ' (d + 1) j i = μ (s + 1) j i) ∧ ∀ j, ¬ (j = 5 ∨ j = 6) → μ' (d + 1) j = μ (d + 1) j := by
  unfold f_X0_copy
  simp only [cpx_240, nm_q, show Int32.toNatClampNeg 0 = 0 from rfl, show Int32.toNatClampNeg 240 = 240 from rfl]
  have hs : s + 1 ≠ d + 1 := by omega
  refine ⟨_, rfl, fun g hg => ?_, fun j i hc hj => ?_, fun j hj => ?_⟩
  · rw [upm_ng hg, upm_ng hg, cpm_ng hg]
  · rcases hj with rfl | rfl
    · unfold cpC at hc
      simp only [Bool.and_eq_true, decide_eq_true_eq] at hc
      rcases (show i = 1 ∨ i = 2 by omega) with rfl | rfl
      · rw [upm_n3 (by omega), upm_at, cpm_ng hs]
      · rw [upm_at, upm_ng hs, cpm_ng hs]
    · replace hc : i < 240 := of_decide_eq_true hc
      rw [upm_ne (by omega), upm_ne (by omega), cpm_at _ _ _ _ _ _ _ hc]
  · rw [upm_ne (by omega), upm_ne (by omega), cpm_ne (by omega)]
theorem c_copy4 {d s : Nat} (hne : s ≠ d) (μ : Mem) : ∃ μ' k, k ≤ 400 ∧ jmax 0 (jmin (μ (s + 1) 7 2) 400) = Int32.ofNat k ∧ f_X4_copy d s μ = some μ' ∧ (∀ g, g ≠ d + 1 → μ' g = μ g) ∧ μ' (d + 1) 7 4 = μ (s + 1) 7 4 ∧ μ' (d + 1) 7 2 = Int32.ofNat k ∧ (∀ i, i < k → μ' (d + 1) 8 i = μ (s + 1) 8 i) ∧ ∀ j, ¬ (j = 7 ∨ j = 8) → μ' (d + 1) j = μ (d + 1) j := by
  obtain ⟨k, hk, e⟩ := clip_b (μ (s + 1) 7 2)
  have hs : s + 1 ≠ d + 1 := by omega
  refine ⟨upm (cpm (upm μ (d + 1) 7 2 (Int32.ofNat k)) (s + 1) 8 0 (d + 1) 8 0 k) (d + 1) 7 4 (μ (s + 1) 7 4), k, hk, e, ?_, ?_⟩
  · unfold f_X4_copy
    rw [e]
    simp only [nm_q, upm_at, show Int32.toNatClampNeg 0 = 0 from rfl]
    rw [cpx_n hk, on_t (by omega), cpm_ng hs, upm_ng hs]
  · refine ⟨fun g hg => ?_, ?_, ?_, fun i hi => ?_, fun j hj => ?_⟩
    · rw [upm_ng hg, cpm_ng hg, upm_ng hg]
    · rw [upm_at]
    · rw [upm_n3 (by omega), cpm_ne (by omega), upm_at]
    · rw [upm_ne (by omega), cpm_at _ _ _ _ _ _ _ hi, upm_ng hs]
    · rw [upm_ne (by omega), cpm_ne (by omega), upm_ne (by omega)]
theorem c_copy {d s : Nat} (hne : s ≠ d) (μ : Mem) : ∃ μ' k, k ≤ 400 ∧ jmax 0 (jmin (μ (s + 1) 7 2) 400) = Int32.ofNat k ∧ f_X2_copy d s μ = some μ' ∧ (∀ g, g ≠ d + 1 → μ' g = μ g) ∧ (∀ j i, cpC j i = true → μ' (d + 1) j i = μ (s + 1) j i) ∧ μ' (d + 1) 7 2 = Int32.ofNat k ∧ ∀ i, i < k → μ' (d + 1) 8 i = μ (s + 1) 8 i := by
  have hs : s + 1 ≠ d + 1 := by omega
  obtain ⟨μ1, a1, a2, a3, a4⟩ := c_copy1 hne μ
  obtain ⟨μ2, b1, b2, b3, b4⟩ := c_copy0 hne μ1
  obtain ⟨μ3, k, hk, ek, c1, c2, c3, c4, c5, c6⟩ := c_copy4 hne μ2
  have e2 : μ2 (s + 1) = μ (s + 1) := (b2 _ hs).trans (a2 _ hs)
  have e3 : μ3 (s + 1) = μ (s + 1) := (c2 _ hs).trans e2
  rw [e2] at ek c3 c5
  unfold f_X2_copy
  simp only [a1, b1, c1, bs_q, cpx_8, nm_q, show Int32.toNatClampNeg 0 = 0 from rfl, show Int32.toNatClampNeg 8 = 8 from rfl]
  refine ⟨_, k, hk, ek, rfl, fun g hg => ?_, fun j i hc => ?_, ?_, fun i hi => ?_⟩
  · simp only [upm_ng hg, cpm_ng hg]
    rw [c2 g hg, b2 g hg, a2 g hg]
  · have hj : j = 0 ∨ j = 1 ∨ j = 2 ∨ j = 3 ∨ j = 4 ∨ j = 5 ∨ j = 6 ∨ j = 7 ∨ j = 10 := by
      unfold cpC at hc
      split at hc <;> first | omega | cases hc
    rcases hj with rfl | rfl | rfl | rfl | rfl | rfl | rfl | rfl | rfl
    · unfold cpC at hc
      simp only [Bool.and_eq_true, decide_eq_true_eq] at hc
      have key : ∀ (ν : Mem), ν (s + 1) = μ (s + 1) → ∀ i v, upm ν (d + 1) 0 i v (s + 1) = μ (s + 1) := fun ν h i v => (upm_ng hs).trans h
      simp only [upm_ng hs, cpm_ng hs, e3]
      rcases (show i = 5 ∨ i = 6 ∨ i = 7 ∨ i = 8 ∨ i = 9 ∨ i = 10 ∨ i = 11 ∨ i = 12 ∨ i = 13 ∨ i = 14 ∨ i = 15 ∨ i = 16 by omega) with rfl | rfl | rfl | rfl | rfl | rfl | rfl | rfl | rfl | rfl | rfl | rfl <;> simp (disch := omega) only [upm_at, upm_n3]
    · simp (disch := omega) only [upm_ne, cpm_ne]
      rw [c6 1 (by omega), b4 1 (by omega)]
      exact a3 1 i hc (by omega)
    · simp (disch := omega) only [upm_ne, cpm_ne]
      rw [c6 2 (by omega), b4 2 (by omega)]
      exact a3 2 i hc (by omega)
    · simp (disch := omega) only [upm_ne, cpm_ne]
      rw [c6 3 (by omega), b4 3 (by omega)]
      exact a3 3 i hc (by omega)
    · simp (disch := omega) only [upm_ne, cpm_ne]
      rw [c6 4 (by omega), b4 4 (by omega)]
      exact a3 4 i hc (by omega)
    · simp (disch := omega) only [upm_ne, cpm_ne]
      rw [c6 5 (by omega), b3 5 i hc (by omega), a2 _ hs]
    · simp (disch := omega) only [upm_ne, cpm_ne]
      rw [c6 6 (by omega), b3 6 i hc (by omega), a2 _ hs]
    · replace hc : i = 4 := eq_of_beq hc
      subst hc
      simp (disch := omega) only [upm_ne, cpm_ne]
      exact c3
    · replace hc : i < 8 := of_decide_eq_true hc
      simp (disch := omega) only [upm_ne]
      rw [cpm_at _ _ _ _ _ _ _ hc, e3]
  · simp (disch := omega) only [upm_ne, cpm_ne]
    exact c4
  · simp (disch := omega) only [upm_ne, cpm_ne]
    exact c5 i hi
theorem hv_copy {ev : Row → Int32} {d s : Nat} (hne : s ≠ d) {μ : Mem} {r : Row} (H : HV ev (μ (s + 1)) r) : ∃ μ', f_X2_copy d s μ = some μ' ∧ (∀ g, g ≠ d + 1 → μ' g = μ g) ∧ HV ev (μ' (d + 1)) r := by
  obtain ⟨μ', k, hk, ek, h1, h2, h3, h4, h5⟩ := c_copy hne μ
  refine ⟨μ', h1, h2, H.1, ?_, ?_, ?_, H.2.2.2.2⟩
  · obtain ⟨⟨b1, b2, b3, b4, b5, b6, b7, b8, b9, b10, b11, b12, b13⟩, k1, k2, k3, k4⟩ := H.2.1
    have h8 := H.1.c8
    refine ⟨⟨?_, ?_, ?_, ?_, ?_, ?_, ?_, ?_, ?_, ?_, ?_, ?_, ?_⟩, ?_, ?_, fun g hg => ⟨?_, ?_, ?_⟩, fun k hk => ?_⟩
    all_goals first | (rw [h3 _ _ (by rfl)]; assumption) | skip
    · rw [h3 2 g (decide_eq_true (by omega))]
      exact (k3 g hg).1
    · rw [h3 3 g (decide_eq_true (by omega))]
      exact (k3 g hg).2.1
    · rw [h3 4 g (decide_eq_true (by omega))]
      exact (k3 g hg).2.2
    · rw [h3 10 k (decide_eq_true (by omega))]
      exact k4 k hk
  · obtain ⟨b1, nx, b2, b3, b4⟩ := H.2.2.1
    refine ⟨by rw [h3 5 1 rfl]; exact b1, nx, b2, by rw [h3 5 2 rfl]; exact b3, fun ago ha w hw => ?_⟩
    have hm : (nx + 59 - ago) % 60 < 60 := Nat.mod_lt _ (by decide)
    rw [h3 6 _ (decide_eq_true (by omega))]
    exact b4 ago ha w hw
  · obtain ⟨b1, b2⟩ := H.2.2.2.1
    refine ⟨by rw [h3 7 4 rfl]; exact b1, fun hn => ?_⟩
    obtain ⟨len, c1, c2, c3⟩ := b2 hn
    rw [c2, clip_n c1] at ek
    have e : len = k := by
      have := congrArg Int32.toNatClampNeg ek
      rwa [on_t (by omega), on_t (by omega)] at this
    subst e
    exact ⟨len, c1, h4, c3.cg fun i hi => h5 i hi⟩
/-- all but the house that is now -/
def Rest (ev : Row → Int32) (μ : Mem) : Prop := PST ev μ ∧ TAP μ ∧ μ 0 0 10 = μ 0 12 12 ∧ IMG μ
theorem Rel.mk {ev : Row → Int32} {μ : Mem} (h1 : HV ev (μ 1) (μ 0 13)) (h2 : Rest ev μ) : Rel μ := ⟨⟨ev, h1, h2.1⟩, h2.2⟩
theorem Rel.ex {μ : Mem} (R : Rel μ) : ∃ ev, HV ev (μ 1) (μ 0 13) ∧ Rest ev μ := by
  obtain ⟨⟨ev, h1, h2⟩, h3⟩ := R
  exact ⟨ev, h1, h2, h3⟩
/-- what lies outside of the house that is now, and of its row's first part -/
def FrR (μ μ' : Mem) : Prop := ∀ g j i, scr g j i = false → g ≠ 1 → ¬ (g = 0 ∧ j = 13 ∧ i < 304) → μ' g j i = μ g j i
theorem FrS.R {μ μ' : Mem} (h : FrS μ μ') : FrR μ μ' := fun g j i hs _ _ => h g j i hs
theorem FrR.refl (μ : Mem) : FrR μ μ := fun _ _ _ _ _ _ => rfl
theorem FrR.trans {μ μ1 μ2 : Mem} (h : FrR μ μ1) (h2 : FrR μ1 μ2) : FrR μ μ2 := fun g j i hs a b => (h2 g j i hs a b).trans (h g j i hs a b)
theorem Rest.fr {ev : Row → Int32} {μ μ' : Mem} (h : FrR μ μ') (H : Rest ev μ) : Rest ev μ' := by
  obtain ⟨h1, h2, h3, h4⟩ := H
  have hv : ∀ {ev : Row → Int32} {r : Row} {g : Nat}, 3 ≤ g → g < 16 → HV ev (μ g) r → HV ev (μ' g) r := fun {ev r g} hg hg2 H => H.cg fun j i hs => h g j i (by
    obtain ⟨g, rfl⟩ : ∃ k, g = k + 3 := ⟨g - 3, by omega⟩
    show (decide (15 ≤ g + 2) || scH j i) = false
    rw [hs, decide_eq_false (by omega)]
    rfl) (by omega) (by omega)
  refine ⟨?_, ?_, ?_, ?_⟩
  · obtain ⟨k, nx, a1, a2, a3, a4, a5, a6⟩ := h1
    refine ⟨k, nx, a1, a2, by rw [h 0 9 1 rfl (by decide) (by decide)]; exact a3, by rw [h 0 9 2 rfl (by decide) (by decide)]; exact a4, by rw [h 0 12 6 rfl (by decide) (by decide)]; exact a5, fun i hi => ?_⟩
    have e : pastR μ' (k - 1 - i) = pastR μ (k - 1 - i) := funext fun j => by
      unfold pastR
      rw [h 0 16 _ rfl (by decide) (by omega)]
      by_cases hj : j < 304
      · rw [if_pos hj, if_pos hj]
      · rw [if_neg hj, if_neg hj, h 0 13 j rfl (by decide) (by omega)]
    rw [e]
    exact hv (by omega) (by omega) (a6 i hi)
  · obtain ⟨t, a1, a2, a3, a4⟩ := h2
    refine ⟨t, a1, by rw [h 0 1 1 rfl (by decide) (by decide)]; exact a2, by rw [h 0 12 8 rfl (by decide) (by decide)]; exact a3, fun i hi => ?_⟩
    rw [h 0 2 i rfl (by decide) (by omega), h 0 17 i rfl (by decide) (by omega)]
    exact a4 i hi
  · rw [h 0 0 10 rfl (by decide) (by decide), h 0 12 12 rfl (by decide) (by decide)]
    exact h3
  · obtain ⟨h4, ⟨b1, q1⟩, b2, q2⟩ := h4
    refine ⟨?_, ⟨b1, by rw [h 0 12 15 rfl (by decide) (by decide)]; exact q1⟩, b2, by rw [h 0 12 16 rfl (by decide) (by decide)]; exact q2⟩
    rw [h 0 0 9 rfl (by decide) (by decide), h 0 12 3 rfl (by decide) (by decide), show μ' 0 14 = μ 0 14 from funext fun i => h 0 14 i rfl (by decide) (by omega)]
    rcases h4 with h4 | ⟨a1, a2, ev', a3⟩
    · exact Or.inl h4
    · exact Or.inr ⟨a1, a2, ev', hv (by decide) (by decide) a3⟩
theorem Rest.bq {ev : Row → Int32} {μ μ' : Mem} (h : ∀ g j i, ¬ (g = 0 ∧ j = 12 ∧ (i = 15 ∨ i = 16)) → μ' g j i = μ g j i) (hb : BQ μ') (H : Rest ev μ) : Rest ev μ' := by
  have g1 : ∀ g, g ≠ 0 → μ' g = μ g := fun g hg => funext fun j => funext fun i => h g j i (by omega)
  have g2 : ∀ j, j ≠ 12 → μ' 0 j = μ 0 j := fun j hj => funext fun i => h 0 j i (by omega)
  obtain ⟨⟨k, nx, a1, a2, a3, a4, a5, a6⟩, ⟨t, b1, b2, b3, b4⟩, h3, h4, -⟩ := H
  refine ⟨⟨k, nx, a1, a2, by rw [g2 9 (by decide)]; exact a3, by rw [g2 9 (by decide)]; exact a4, by rw [h 0 12 6 (by omega)]; exact a5, fun i hi => ?_⟩, ⟨t, b1, by rw [g2 1 (by decide)]; exact b2, by rw [h 0 12 8 (by omega)]; exact b3, fun i hi => ?_⟩, ?_, ?_, hb⟩
  · have e : pastR μ' (k - 1 - i) = pastR μ (k - 1 - i) := by
      unfold pastR
      rw [g2 16 (by decide), g2 13 (by decide)]
    rw [e, g1 _ (by omega)]
    exact a6 i hi
  · rw [g2 2 (by decide), g2 17 (by decide)]
    exact b4 i hi
  · rw [g2 0 (by decide), h 0 12 12 (by omega)]
    exact h3
  · rw [g2 0 (by decide), h 0 12 3 (by omega), g1 3 (by decide), g2 14 (by decide)]
    exact h4
theorem Rel.bq {μ μ' : Mem} (h : ∀ g j i, ¬ (g = 0 ∧ j = 12 ∧ (i = 15 ∨ i = 16)) → μ' g j i = μ g j i) (hb : BQ μ') (R : Rel μ) : Rel μ' := by
  obtain ⟨ev, h1, h2⟩ := R.ex
  refine Rel.mk (ev := ev) ?_ (h2.bq h hb)
  rw [show μ' 1 = μ 1 from funext fun j => funext fun i => h 1 j i (by omega), show μ' 0 13 = μ 0 13 from funext fun i => h 0 13 i (by omega)]
  exact h1
def xiB (μ μ' : Mem) : Mem := fun g j i => if g = 0 ∧ j = 12 ∧ (i = 15 ∨ i = 16) then μ g j i else μ' g j i
theorem xiB_t {μ μ' : Mem} {g j i : Nat} (h : g = 0 ∧ j = 12 ∧ (i = 15 ∨ i = 16)) : xiB μ μ' g j i = μ g j i := if_pos h
theorem xiB_f {μ μ' : Mem} {g j i : Nat} (h : ¬ (g = 0 ∧ j = 12 ∧ (i = 15 ∨ i = 16))) : xiB μ μ' g j i = μ' g j i := if_neg h
theorem Rel.fw {μ μ' : Mem} (R : Rel μ) (h : FrW μ μ') : Rel μ' := by
  have hs : FrS μ (xiB μ μ') := fun g j i hq => by
    by_cases hn : g = 0 ∧ j = 12 ∧ (i = 15 ∨ i = 16)
    · exact xiB_t hn
    · rw [xiB_f hn]
      exact h.1 g j i hq hn
  exact (R.fr hs).bq (fun g j i hn => (xiB_f hn).symm) (h.2 R.bq0)
theorem Rest.fw {ev : Row → Int32} {μ μ' : Mem} (H : Rest ev μ) (h : ∀ g j i, scr g j i = false → g ≠ 1 → ¬ (g = 0 ∧ j = 13 ∧ i < 304) → ¬ (g = 0 ∧ j = 12 ∧ (i = 15 ∨ i = 16)) → μ' g j i = μ g j i) (hb : BQ μ → BQ μ') : Rest ev μ' := by
  have hs : FrR μ (xiB μ μ') := fun g j i hq h1 h2 => by
    by_cases hn : g = 0 ∧ j = 12 ∧ (i = 15 ∨ i = 16)
    · exact xiB_t hn
    · rw [xiB_f hn]
      exact h g j i hq h1 h2 hn
  exact (Rest.fr hs H).bq (fun g j i hn => (xiB_f hn).symm) (hb H.2.2.2.2)
