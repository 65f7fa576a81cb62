/-! ===== texts: signs and figures ===== -/
theorem wk_big {b : Nat → Nat} {s e : Nat} : wk b s e 24 0 = 1 ∨ 10 ≤ wk b s e 24 0 := by
  have gen : ∀ f a, wk b s e f a = 1 ∨ 10 ≤ wk b s e f a := by
    intro f
    induction f with
    | zero => intro a; exact .inl rfl
    | succ f ih =>
      intro a
      show (if isw b s e a = true then wcd a else wk b s e f (a + 1)) = 1 ∨ 10 ≤ (if isw b s e a = true then wcd a else wk b s e f (a + 1))
      split
      · right
        unfold wcd
        split <;> omega
      · exact ih (a + 1)
  exact gen 24 0
theorem sg_s {c : Nat} : (c = 40 ∧ sg c = 4) ∨ (c = 41 ∧ sg c = 5) ∨ (c = 43 ∧ sg c = 8) ∨ (c = 59 ∧ sg c = 3) ∨ (c = 60 ∧ sg c = 6) ∨ (c = 62 ∧ sg c = 7) ∨ (c ≠ 40 ∧ c ≠ 41 ∧ c ≠ 43 ∧ c ≠ 59 ∧ c ≠ 60 ∧ c ≠ 62 ∧ sg c = 1) := by
  unfold sg
  by_cases h1 : c = 40
  · rw [if_pos h1]; omega
  rw [if_neg h1]
  by_cases h2 : c = 41
  · rw [if_pos h2]; omega
  rw [if_neg h2]
  by_cases h3 : c = 43
  · rw [if_pos h3]; omega
  rw [if_neg h3]
  by_cases h4 : c = 59
  · rw [if_pos h4]; omega
  rw [if_neg h4]
  by_cases h5 : c = 60
  · rw [if_pos h5]; omega
  rw [if_neg h5]
  by_cases h6 : c = 62
  · rw [if_pos h6]; omega
  rw [if_neg h6]
  omega
theorem isL_b {c : Nat} (h : isL c = true) : 97 ≤ c ∧ c ≤ 122 := by
  unfold isL at h
  rwa [Bool.and_eq_true, decide_eq_true_eq, decide_eq_true_eq] at h
theorem kd_sign {b : Nat → Nat} {t s c k : Nat} (hck : (c = 40 ∧ k = 4) ∨ (c = 41 ∧ k = 5) ∨ (c = 43 ∧ k = 8) ∨ (c = 59 ∧ k = 3) ∨ (c = 60 ∧ k = 6) ∨ (c = 62 ∧ k = 7)) : kd b t s = k ↔ s < t ∧ b s = c := by
  unfold kd
  by_cases h1 : t ≤ s
  · rw [if_pos h1]
    omega
  · rw [if_neg h1]
    by_cases h2 : isL (b s) = true
    · rw [if_pos h2]
      have h3 := isL_b h2
      have h4 := wk_big (b := b) (s := s) (e := en b t s)
      omega
    · rw [if_neg h2]
      by_cases h3 : isD (b s) = true
      · rw [if_pos h3]
        have h4 := isD_b h3
        split <;> omega
      · rw [if_neg h3]
        have := sg_s (c := b s)
        omega
theorem en_sign {b : Nat → Nat} {t s : Nat} (h : kd b t s ≤ 8) (h2 : 3 ≤ kd b t s) : en b t s = s + 1 ∧ s < t := by
  unfold kd at h h2
  by_cases h1 : t ≤ s
  · rw [if_pos h1] at h2
    omega
  · rw [if_neg h1] at h h2
    refine ⟨?_, by omega⟩
    by_cases h3 : isL (b s) = true
    · rw [if_pos h3] at h h2
      have h4 := wk_big (b := b) (s := s) (e := en b t s)
      omega
    · rw [if_neg h3] at h h2
      by_cases h4 : isD (b s) = true
      · rw [if_pos h4] at h2
        split at h2 <;> omega
      · unfold en
        rw [if_neg h3, if_neg h4]
theorem r_isSign {μ : Mem} {b : Nat → Nat} {t : Nat} (T : LT μ b t) {p c k : Nat} (hp : p ≤ t) (ep : μ 0 12 11 = Int32.ofNat p) (hck : (c = 40 ∧ k = 4) ∨ (c = 41 ∧ k = 5) ∨ (c = 43 ∧ k = 8) ∨ (c = 59 ∧ k = 3) ∨ (c = 60 ∧ k = 6) ∨ (c = 62 ∧ k = 7)) : f_X10_isSign μ (Int32.ofNat c) = some (bI (decide (kd b t (skp b t p) = k)), upm μ 0 12 11 (Int32.ofNat (skp b t p))) := by
  have T' := T
  obtain ⟨t1, t2, t3, t4⟩ := T'
  have hsb := skp_b (b := b) hp
  have hk : (kd b t (skp b t p) = k) = (skp b t p < t ∧ b (skp b t p) = c) := propext (kd_sign hck)
  unfold f_X10_isSign
  rw [r_skip T hp ep]
  simp only [bs_q]
  rw [upm_n3 (by omega), t2, upm_at, il_le (by omega) (by omega)]
  simp only [hk]
  by_cases h1 : t ≤ skp b t p
  · rw [if_pos h1, decide_eq_false (fun h => by omega)]
    rfl
  · have hb := t4 (skp b t p) (by omega)
    rw [if_neg h1, r_letter (T.upm _ (by omega)) (by omega)]
    simp only [bs_q]
    rw [il_eq (by omega) (by omega)]
    by_cases h2 : b (skp b t p) = c
    · rw [if_pos h2, decide_eq_true ⟨by omega, h2⟩]
      rfl
    · rw [if_neg h2, decide_eq_false (fun h => h2 h.2)]
      rfl
theorem run_stop (P : Nat → Bool) (b : Nat → Nat) : ∀ e i, run P b e i = i + e ∨ P (b (run P b e i)) = false := by
  intro e
  induction e with
  | zero => intro i; exact .inl rfl
  | succ e ih =>
    intro i
    show (if P (b i) = true then run P b e (i + 1) else i) = i + (e + 1) ∨ P (b (if P (b i) = true then run P b e (i + 1) else i)) = false
    by_cases h : P (b i) = true
    · rw [if_pos h]
      rcases ih (i + 1) with h1 | h1
      · left; omega
      · exact .inr h1
    · rw [if_neg h]
      right
      cases hq : P (b i)
      · rfl
      · exact absurd hq h
set_option maxHeartbeats 2000000 in
theorem r_figures {μ : Mem} {b : Nat → Nat} {t : Nat} (T : LT μ b t) {p u : Nat} (hp : p ≤ t) (ep : μ 0 12 11 = Int32.ofNat p) (ef : μ 0 12 12 = -1) (hu : u ≤ 999) : (kd b t (skp b t p) = 2 ∧ nbv b t (skp b t p) ≤ u → f_X10_figures μ 0 (Int32.ofNat u) = some (Int32.ofNat (nbv b t (skp b t p)), upm μ 0 12 11 (Int32.ofNat (en b t (skp b t p))))) ∧ (¬ (kd b t (skp b t p) = 2 ∧ nbv b t (skp b t p) ≤ u) → ∃ x p', p' ≤ t ∧ f_X10_figures μ 0 (Int32.ofNat u) = some (x, upm (upm μ 0 12 11 (Int32.ofNat p')) 0 12 12 (Int32.ofNat (skp b t p)))) := by
  have T' := T
  obtain ⟨t1, t2, t3, t4⟩ := T'
  have hsb := skp_b (b := b) hp
  obtain ⟨s, hs⟩ : ∃ s, s = skp b t p := ⟨_, rfl⟩
  rw [← hs] at hsb ⊢
  obtain ⟨D, hD⟩ : ∃ D, D = run isD b (t - s) s - s := ⟨_, rfl⟩
  have hr := run_b isD b (t - s) s
  have hdig : ∀ j, j < D → isD (b (s + j)) = true := fun j hj => run_all isD b (t - s) s (s + j) (by omega) (by omega)
  have hstop : s + D = t ∨ isD (b (s + D)) = false := by
    rcases run_stop isD b (t - s) s with h | h
    · left; omega
    · right
      rw [show s + D = run isD b (t - s) s by omega]
      exact h
  obtain ⟨m, hm⟩ : ∃ m, m = min D 4 := ⟨_, rfl⟩
  have hnm : ∀ k, k ≤ m → n3 b s k < 10000 := fun k hk => by
    have h1 := n3_b (b := b) (s := s) k fun j hj => hdig j (by omega)
    have h2 : 10 ^ k ≤ 10 ^ 4 := Nat.pow_le_pow_right (by decide) (by omega)
    have h3 : (10 : Nat) ^ 4 = 10000 := rfl
    omega
  have eq : f_X10_place μ = some (Int32.ofNat s, upm μ 0 12 11 (Int32.ofNat s)) := by
    unfold f_X10_place
    rw [r_skip T hp ep, ← hs]
    simp only [bs_q]
    rw [upm_at]
  have lp : ∀ K : Int32 → Mem → Option (Int32 × Mem), lp_X10_figures_18 (Int32.ofNat s, upm μ 0 12 11 (Int32.ofNat s)) K 4096 0 (upm μ 0 12 11 (Int32.ofNat s)) = K (Int32.ofNat (n3 b s m)) (upm μ 0 12 11 (Int32.ofNat (s + m))) := fun K => by
    refine lpF (fun n (q : Int32 × Mem) => lp_X10_figures_18 (Int32.ofNat s, upm μ 0 12 11 (Int32.ofNat s)) K n q.1 q.2) (fun k => (Int32.ofNat (n3 b s k), upm μ 0 12 11 (Int32.ofNat (s + k)))) m _ (fun k hk n => ?_) (fun n => ?_) 4096 (by omega)
    · show lp_X10_figures_18 _ K (n + 1) (Int32.ofNat (n3 b s k)) (upm μ 0 12 11 (Int32.ofNat (s + k))) = lp_X10_figures_18 _ K n (Int32.ofNat (n3 b s k * 10 + b (s + k) - 48)) (upm μ 0 12 11 (Int32.ofNat (s + k + 1)))
      have h1 := hdig k (by omega)
      have h2 := isD_b h1
      have h3 := hnm k (by omega)
      rw [lp_X10_figures_18, upm_n3 (by omega), t2, upm_at, if_neg (by rw [on_le (by omega) (by omega)]; omega), r_letter (T.upm _ (by omega)) (by omega)]
      simp only [bs_q]
      rw [i_48, i_57, r_isIn (by omega) (by decide) (by decide)]
      simp only [bs_q]
      rw [ite_z, if_pos (show (decide (48 ≤ b (s + k)) && decide (b (s + k) ≤ 57)) = true from h1)]
      show (if 3 < Int32.ofNat (s + k) - Int32.ofNat s then _ else _) = _
      rw [on_sb (by omega), show (3 : Int32) = Int32.ofNat 3 from rfl, if_neg (by rw [on_lt (by omega) (by omega)]; omega), nm_q, upm_2, i_10, on_m, on_a, on_sb (by omega), i_1, on_a, Nat.mul_comm 10]
    · show lp_X10_figures_18 _ K (n + 1) (Int32.ofNat (n3 b s m)) (upm μ 0 12 11 (Int32.ofNat (s + m))) = _
      rw [lp_X10_figures_18, upm_n3 (by omega), t2, upm_at, il_le (by omega) (by omega)]
      by_cases h1 : t ≤ s + m
      · rw [if_pos h1]
      · rw [if_neg h1, r_letter (T.upm _ (by omega)) (by omega)]
        simp only [bs_q]
        have hb := t4 (s + m) (by omega)
        rw [i_48, i_57, r_isIn (by omega) (by decide) (by decide)]
        simp only [bs_q]
        rw [ite_z]
        show (if isD (b (s + m)) = true then _ else _) = _
        by_cases h2 : isD (b (s + m)) = true
        · rw [if_pos h2]
          have hm4 : m = 4 := by
            by_cases h3 : D < 4
            · have e : m = D := by omega
              rw [e] at h2
              rcases hstop with h4 | h4
              · omega
              · rw [h4] at h2
                cases h2
            · omega
          show (if 3 < Int32.ofNat (s + m) - Int32.ofNat s then _ else _) = _
          rw [on_sb (by omega), show (3 : Int32) = Int32.ofNat 3 from rfl, if_pos (by rw [on_lt (by omega) (by omega)]; omega)]
        · rw [if_neg h2]
  have hkd : kd b t s = 2 ↔ 1 ≤ D ∧ D ≤ 3 := by
    unfold kd
    by_cases h1 : t ≤ s
    · rw [if_pos h1]
      omega
    · rw [if_neg h1]
      have hrun : run isD b (t - s) s = if isD (b s) = true then run isD b (t - (s + 1)) (s + 1) else s := by
        rw [show t - s = t - (s + 1) + 1 by omega]
        rfl
      have hr2 := run_b isD b (t - (s + 1)) (s + 1)
      by_cases h2 : isL (b s) = true
      · rw [if_pos h2]
        have h4 := wk_big (b := b) (s := s) (e := en b t s)
        rw [if_neg (by rw [isLD h2]; decide)] at hrun
        omega
      · rw [if_neg h2]
        by_cases h3 : isD (b s) = true
        · rw [if_pos h3] at hrun ⊢
          have e : en b t s = s + D := by
            unfold en
            rw [if_neg h2, if_pos h3]
            omega
          rw [e]
          split <;> omega
        · rw [if_neg h3] at hrun ⊢
          have := sg_s (c := b s)
          omega
  have hen : 1 ≤ D → D ≤ 3 → en b t s = s + D ∧ nbv b t s = n3 b s D := fun h1 h2 => by
    have hk2 := hkd.mpr ⟨h1, h2⟩
    unfold kd at hk2
    have ht : ¬ t ≤ s := by
      intro h
      rw [if_pos h] at hk2
      omega
    have hrun : run isD b (t - s) s = if isD (b s) = true then run isD b (t - (s + 1)) (s + 1) else s := by
      rw [show t - s = t - (s + 1) + 1 by omega]
      rfl
    have h3 : isD (b s) = true := hdig 0 (by omega)
    have h4 : ¬ isL (b s) = true := fun h => by
      rw [isLD h] at h3
      cases h3
    rw [if_pos h3] at hrun
    have e : en b t s = s + D := by
      unfold en
      rw [if_neg h4, if_pos h3]
      omega
    refine ⟨e, ?_⟩
    unfold nbv
    rw [e, show min (s + D) (s + 3) - s = D by omega]
  have go : f_X10_figures μ 0 (Int32.ofNat u) = if m = 0 ∨ 3 < m ∨ u < n3 b s m then some (Int32.ofNat (n3 b s m), upm (upm μ 0 12 11 (Int32.ofNat (s + m))) 0 12 12 (Int32.ofNat s)) else some (Int32.ofNat (n3 b s m), upm μ 0 12 11 (Int32.ofNat (s + m))) := by
    unfold f_X10_figures
    rw [if_pos ef, eq]
    simp only [bs_q]
    rw [lp]
    have wr : f_X10_wrong (upm μ 0 12 11 (Int32.ofNat (s + m))) (Int32.ofNat s) = some (upm (upm μ 0 12 11 (Int32.ofNat (s + m))) 0 12 12 (Int32.ofNat s)) := by
      unfold f_X10_wrong
      rw [upm_n3 (by omega), if_pos ef, nm_q]
    have h4 := hnm m (Nat.le_refl m)
    simp only [nm_q, wr, bs_q]
    rw [upm_at, il_eq (by omega) (by omega), on_sb (by omega), show (3 : Int32) = Int32.ofNat 3 from rfl, il_lt (by omega) (by omega), i_0, if_neg (show ¬ Int32.ofNat (n3 b s m) < Int32.ofNat 0 by rw [on_lt (by omega) (by decide)]; omega), il_le (by omega) (by omega)]
    by_cases q1 : m = 0
    · rw [if_pos (by omega), if_pos (by omega)]
    · rw [if_neg (by omega)]
      by_cases q2 : 3 < m
      · rw [if_pos (by omega), if_pos (by omega)]
      · rw [if_neg (by omega)]
        by_cases q3 : n3 b s m ≤ u
        · rw [if_pos q3, if_neg (by omega)]
        · rw [if_neg q3, if_pos (by omega)]
  constructor
  · rintro ⟨h1, h2⟩
    have hd := hkd.mp h1
    obtain ⟨e1, e2⟩ := hen hd.1 hd.2
    have hmd : m = D := by omega
    rw [e2] at h2
    rw [go, hmd, if_neg (by omega), e1, e2]
  · intro h
    refine ⟨Int32.ofNat (n3 b s m), s + m, by omega, ?_⟩
    rw [go, if_pos]
    refine Decidable.byContradiction fun hn => h ?_
    have hd : 1 ≤ D ∧ D ≤ 3 := by omega
    obtain ⟨e1, e2⟩ := hen hd.1 hd.2
    have hmd : m = D := by omega
    rw [hmd] at hn
    exact ⟨hkd.mpr hd, by rw [e2]; omega⟩
