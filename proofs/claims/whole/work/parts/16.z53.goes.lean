/-! ===== the reference's days ===== -/
theorem lpK {κ σ τ : Type} (L : κ → Nat → σ → Option τ) (I : Nat → σ → Prop) (N : Nat) (hs : ∀ k s, k < N → I k s → ∃ s', I (k + 1) s' ∧ ∀ K n, L K (n + 1) s = L K n s') (F : Nat) (s : σ) (hF : N < F) (h0 : I 0 s) : ∃ s' f, I N s' ∧ ∀ K, L K F s = L K (f + 1) s' := by
  have h : ∀ d k, N - k = d → k ≤ N → ∀ F s, d < F → I k s → ∃ s' f, I N s' ∧ ∀ K, L K F s = L K (f + 1) s' := by
    intro d
    induction d with
    | zero =>
      intro k hd hk F s hF hI
      obtain ⟨f, rfl⟩ : ∃ f, F = f + 1 := ⟨F - 1, by omega⟩
      have e : k = N := by omega
      subst e
      exact ⟨s, f, hI, fun K => rfl⟩
    | succ d ih =>
      intro k hd hk F s hF hI
      obtain ⟨f, rfl⟩ : ∃ f, F = f + 1 := ⟨F - 1, by omega⟩
      obtain ⟨s', hI', e⟩ := hs k s (by omega) hI
      obtain ⟨s2, f2, a1, a2⟩ := ih (k + 1) (by omega) (by omega) f s' (by omega) hI'
      exact ⟨s2, f2, a1, fun K => by rw [e K f, a2 K]⟩
  exact h N 0 (by omega) (by omega) F s hF h0
theorem upd_comm {f : Row} {a b : Nat} {x y : Int32} (h : a ≠ b) : upd (upd f a x) b y = upd (upd f b y) a x := funext fun i => by
  by_cases h1 : i = a
  · subst h1
    rw [upd_ne h, upd_at, upd_at]
  · by_cases h2 : i = b
    · subst h2
      rw [upd_at, upd_ne h1, upd_at]
    · rw [upd_ne h2, upd_ne h1, upd_ne h1, upd_ne h2]
theorem HVx.td {ev : Row → Int32} {r : Row} (H : HVx ev r) {g : Nat} (hg : g < nv r 3) : HVx ev (tdS ev r g) := by
  obtain ⟨c, h⟩ := H
  refine ⟨fun j i => if j = 4 ∧ i = g then jmax 0 (jmin 99 (r (24 + 5 * g + 2) + tnS ev r g)) else c j i, tdS_hv hg h (if_pos ⟨rfl, rfl⟩) fun j i _ hn => if_neg hn⟩
theorem hvx_tdA {ev : Row → Int32} {r : Row} (H : HVx ev r) (p : Nat → Bool) (k : Nat) (hp : ∀ g, g < k → p g = true → g < nv r 3) : HVx ev (tdA ev p r k) := by
  induction k with
  | zero => exact H
  | succ k ih =>
    show HVx ev (if p k = true then tdS ev (tdA ev p r k) k else _)
    split
    · rename_i h
      exact (ih fun g hg => hp g (by omega)).td (by rw [nv_tdA k fun g _ => by omega]; exact hp k (by omega) h)
    · exact ih fun g hg => hp g (by omega)
theorem hvx_draw {ev : Row → Int32} {r : Row} (H : HVx ev r) : HVx ev (upd r 15 (drS r)) := by
  obtain ⟨c, h⟩ := H
  exact ⟨_, (c_draw (h := 0) (μ := fun _ => c) h).2⟩
theorem hvx_looks {ev : Row → Int32} {r : Row} (H : HVx ev r) {g : Nat} (hg : g < nv r 3) : HVx ev (looksR r g) := by
  obtain ⟨c, h⟩ := H
  obtain ⟨μ', m1, -⟩ := c_looks (h := 0) (μ := fun _ => c) h hg
  exact ⟨_, m1⟩
theorem hvx_lk {ev : Row → Int32} {r : Row} (H : HVx ev r) (w g : Nat) (hw : w.testBit g = true → g < nv r 3) : HVx ev (lkS w r g) := by
  unfold lkS
  split
  · rename_i h1
    split
    · exact hvx_draw H
    · exact hvx_looks (hvx_draw H) (by rw [nv_ne (by decide)]; exact hw h1)
  · exact H
theorem hvx_bd {ev : Row → Int32} {r : Row} (H : HVx ev r) : HVx ev (bdS r) := by
  obtain ⟨c, h⟩ := H
  obtain ⟨μ', -, m1, -⟩ := c_build (h := 0) (μ := fun _ => c) h
  exact ⟨_, m1⟩
theorem hvx_br {ev : Row → Int32} {r : Row} (H : HVx ev r) : HVx ev (brS r) := by
  obtain ⟨c, h⟩ := H
  obtain ⟨μ', -, m1, -⟩ := c_bore (h := 0) (μ := fun _ => c) h
  exact ⟨_, m1⟩
theorem hvx_dy {ev : Row → Int32} {r : Row} (H : HVx ev r) : HVx ev (dyS r) := by
  obtain ⟨c, h⟩ := H
  exact ⟨_, c_day (h := 0) (μ := fun _ => c) h⟩
theorem hrC_nv {r r' : Row} (h3 : nv r' 3 = nv r 3) (hh : hrB r' = hrB r) : hrC r' = hrC r := funext fun g => by
  unfold hrC
  rw [h3, hh]
set_option maxHeartbeats 2000000 in
theorem r_td {ev : Row → Int32} {μ : Mem} (H : HVx ev (μ 0 13)) : ∃ μ', FQ μ μ' ∧ μ' 0 13 = tdA ev (hrC (μ 0 13)) (μ 0 13) 8 ∧ HVx ev (μ' 0 13) ∧ ∀ K, lp_X10_goes_20 K 4096 0 μ = K μ' := by
  have V := H.V
  have h8 := V.c8
  have n3 : ∀ k, nv (tdA ev (hrC (μ 0 13)) (μ 0 13) k) 3 = nv (μ 0 13) 3 := fun k => nv_tdA k fun g _ => by omega
  obtain ⟨s', f, ⟨i1, i2, i3, i4⟩, e⟩ := lpK (fun (K : Mem → Option (Int32 × Mem)) n (s : Int32 × Mem) => lp_X10_goes_20 K n s.1 s.2) (fun k s => s.1 = Int32.ofNat k ∧ FQ μ s.2 ∧ s.2 0 13 = tdA ev (hrC (μ 0 13)) (μ 0 13) k ∧ HVx ev (s.2 0 13)) (nv (μ 0 13) 3) (by
    rintro k ⟨x, ν⟩ hk ⟨hx, hF, hr, hX⟩
    simp only at hx hF hr hX
    subst hx
    have hk8 : k < 8 := by omega
    have V2 := hX.V
    have hc8 := V2.c8
    have hk2 : k < nv (ν 0 13) 3 := by rw [hr, n3]; exact hk
    have hlt : ¬ (ν 0 13 3 ≤ Int32.ofNat k) := by
      rw [V2.e3, on_le (by omega) (by omega)]
      omega
    by_cases h1 : hrB (ν 0 13) k = true
    · obtain ⟨ν2, m1, m2, m3⟩ := r_turns hX hk2
      have hh : hrC (μ 0 13) k = true := by
        unfold hrC
        rw [decide_eq_true hk, Bool.true_and, ← hr_tdA (ev := ev) (p := hrC (μ 0 13)) k, ← hr]
        exact h1
      refine ⟨(Int32.ofNat (k + 1), upm ν2 0 13 (24 + 5 * k + 2) (jmax 0 (jmin 99 (ν 0 13 (24 + 5 * k + 2) + tnS ev (ν 0 13) k)))), ⟨rfl, (hF.trans m2).row _ _, ?_, ?_⟩, fun K n => ?_⟩
      · show upm ν2 0 13 _ _ 0 13 = (if hrC (μ 0 13) k = true then tdS ev (tdA ev (hrC (μ 0 13)) (μ 0 13) k) k else _)
        rw [if_pos hh, upm_row, m3, ← hr]
        rfl
      · show HVx ev (upm ν2 0 13 _ _ 0 13)
        rw [upm_row, m3]
        exact hX.td hk2
      · show lp_X10_goes_20 _ _ _ _ = lp_X10_goes_20 _ _ _ _
        simp (disch := omega) only [lp_X10_goes_20, R_here (rfl : ν 0 13 = ν 0 13) hk8, R_of (rfl : ν 0 13 = ν 0 13) hk8, m1, lesser_e, greater_e, f_X10_put, hlt, h1, nm_q, bs_q, on_a, on_m, on_t, ix_on, le_t, le_f, lt_t, lt_f, eq_t, eq_f, ite_b0, ite_b1, ↓reduceIte, i_0, i_1, i_2, i_3, i_4, i_5, i_6, i_7, i_8, i_9, i_10, i_11, i_12, i_13, i_14, i_15, i_16, i_18, i_20, i_22, i_24, i_30, i_31, i_32, i_40, i_48, i_50, i_51, i_52, i_57, i_60, i_64, i_65, i_66, i_67, i_97, i_99, i_100, i_122, i_239, i_240, i_255, i_256, i_304, i_400, i_401, i_704, i_999, i_1000, i_2304, i_3344, i_3648, i_4096, i_9999, i_32767]
    · have hh : ¬ hrC (μ 0 13) k = true := by
        unfold hrC
        rw [decide_eq_true hk, Bool.true_and, ← hr_tdA (ev := ev) (p := hrC (μ 0 13)) k, ← hr]
        exact h1
      refine ⟨(Int32.ofNat (k + 1), ν), ⟨rfl, hF, ?_, hX⟩, fun K n => ?_⟩
      · show ν 0 13 = (if hrC (μ 0 13) k = true then tdS ev (tdA ev (hrC (μ 0 13)) (μ 0 13) k) k else _)
        rw [if_neg hh]
        exact hr
      · show lp_X10_goes_20 _ _ _ _ = lp_X10_goes_20 _ _ _ _
        simp (disch := omega) only [lp_X10_goes_20, R_here (rfl : ν 0 13 = ν 0 13) hk8, hlt, h1, nm_q, bs_q, on_a, on_m, on_t, ix_on, le_t, le_f, lt_t, lt_f, eq_t, eq_f, ite_b0, ite_b1, ↓reduceIte, i_0, i_1, i_2, i_3, i_4, i_5, i_6, i_7, i_8, i_9, i_10, i_11, i_12, i_13, i_14, i_15, i_16, i_18, i_20, i_22, i_24, i_30, i_31, i_32, i_40, i_48, i_50, i_51, i_52, i_57, i_60, i_64, i_65, i_66, i_67, i_97, i_99, i_100, i_122, i_239, i_240, i_255, i_256, i_304, i_400, i_401, i_704, i_999, i_1000, i_2304, i_3344, i_3648, i_4096, i_9999, i_32767]
        rw [if_neg (by decide)]) 4096 (0, μ) (by omega) ⟨rfl, FQ.refl μ, rfl, H⟩
  have e8 : tdA ev (hrC (μ 0 13)) (μ 0 13) 8 = tdA ev (hrC (μ 0 13)) (μ 0 13) (nv (μ 0 13) 3) := by
    have : ∀ d, nv (μ 0 13) 3 + d ≤ 8 → tdA ev (hrC (μ 0 13)) (μ 0 13) (nv (μ 0 13) 3 + d) = tdA ev (hrC (μ 0 13)) (μ 0 13) (nv (μ 0 13) 3) := by
      intro d
      induction d with
      | zero => intro _; rfl
      | succ d ih =>
        intro hd
        rw [← ih (by omega)]
        show (if hrC (μ 0 13) (nv (μ 0 13) 3 + d) = true then _ else tdA ev (hrC (μ 0 13)) (μ 0 13) (nv (μ 0 13) 3 + d)) = _
        rw [if_neg]
        intro h
        have := hrC_lt h
        omega
    have := this (8 - nv (μ 0 13) 3) (by omega)
    rwa [show nv (μ 0 13) 3 + (8 - nv (μ 0 13) 3) = 8 by omega] at this
  refine ⟨s'.2, i2, by rw [e8]; exact i3, i4, fun K => ?_⟩
  rw [show lp_X10_goes_20 K 4096 0 μ = lp_X10_goes_20 K (f + 1) s'.1 s'.2 from e K, i1, lp_X10_goes_20, show (3 : Int32) = Int32.ofNat 3 from rfl, ix_on (by decide) (by decide), on_t (by decide), i4.V.e3, i3, n3, if_pos (Int32.le_refl _)]
theorem r_draw {μ : Mem} {n : Nat} (hn : 0 < n) (hn2 : n < 100000) : f_X10_draw μ (Int32.ofNat n) = some (Int32.ofNat (dvN (μ 0 13) % n), upm μ 0 13 15 (drS (μ 0 13))) := by
  have hd := dv_e (μ 0 13)
  unfold f_X10_draw
  rw [show (15 : Int32) = Int32.ofNat 15 from rfl, ix_on (by decide) (by decide), ix_on (by decide) (by decide), on_t (by decide), nm_q, ix_on (by decide) (by decide), upm_at]
  unfold nz
  rw [if_neg (by rw [show (0 : Int32) = Int32.ofNat 0 from rfl, on_eq (by omega) (by decide)]; omega)]
  show some (jrem (dvI (μ 0 13)) (Int32.ofNat n), upm μ 0 13 15 (drS (μ 0 13))) = _
  rw [hd.1, on_r (by omega) (by omega)]
/-- the log led on by four, from the end: k places are still to be led -/
def shR (r : Row) (k : Nat) : Row := fun i => if 64 + k < i ∧ i < 304 then r (i - 4) else r i
theorem shR_s {r : Row} {k : Nat} (h : 4 ≤ k) (h2 : k ≤ 239) : upd (shR r k) (64 + k) (shR r k (64 + k - 4)) = shR r (k - 1) := funext fun i => by
  by_cases e : i = 64 + k
  · subst e
    rw [upd_at]
    unfold shR
    rw [if_neg (by omega), if_pos (by omega)]
  · rw [upd_ne e]
    unfold shR
    by_cases h3 : 64 + k < i ∧ i < 304
    · rw [if_pos h3, if_pos (by omega)]
    · rw [if_neg h3, if_neg (by omega)]
theorem r_shift (μ : Mem) (K : Mem → Option Mem) : lp_X10_looks_4 K 4096 239 μ = K (upA μ 0 13 (L1 (μ 0 13))) := by
  have e0 : shR (μ 0 13) (239 - 0) = μ 0 13 := funext fun i => if_neg (by omega)
  have eN : shR (μ 0 13) (239 - 236) = L1 (μ 0 13) := funext fun i => by
    unfold shR L1
    by_cases h : 68 ≤ i ∧ i < 304
    · rw [if_pos (by omega), if_pos h]
    · rw [if_neg (by omega), if_neg h]
  suffices h : lp_X10_looks_4 K 4096 (Int32.ofNat (239 - 0)) (upA μ 0 13 (shR (μ 0 13) (239 - 0))) = K (upA μ 0 13 (L1 (μ 0 13))) by
    rw [e0, upA_id] at h
    exact h
  refine lpF (fun n (s : Int32 × Mem) => lp_X10_looks_4 K n s.1 s.2) (fun k => (Int32.ofNat (239 - k), upA μ 0 13 (shR (μ 0 13) (239 - k)))) 236 _ (fun k hk n => ?_) (fun n => ?_) 4096 (by decide)
  · show lp_X10_looks_4 _ _ _ _ = lp_X10_looks_4 _ _ _ _
    have hs := shR_s (r := μ 0 13) (k := 239 - k) (by omega) (by omega)
    have ed : Int32.ofNat (239 - k) + -Int32.ofNat 1 = Int32.ofNat (239 - (k + 1)) := by
      rw [show 239 - k = 239 - (k + 1) + 1 by omega]
      exact dec_1
    simp (disch := omega) only [lp_X10_looks_4, ed, on_sb, nm_q, bs_q, on_a, on_m, on_t, ix_on, le_t, le_f, lt_t, lt_f, eq_t, eq_f, ite_b0, ite_b1, ↓reduceIte, i_0, i_1, i_2, i_3, i_4, i_5, i_6, i_7, i_8, i_9, i_10, i_11, i_12, i_13, i_14, i_15, i_16, i_18, i_20, i_22, i_24, i_30, i_31, i_32, i_40, i_48, i_50, i_51, i_52, i_57, i_60, i_64, i_65, i_66, i_67, i_97, i_99, i_100, i_122, i_239, i_240, i_255, i_256, i_304, i_400, i_401, i_704, i_999, i_1000, i_2304, i_3344, i_3648, i_4096, i_9999, i_32767]
    rw [upA_at, upm_upA, hs]
    rfl
  · show lp_X10_looks_4 _ _ _ _ = _
    rw [lp_X10_looks_4, if_pos (show Int32.ofNat (239 - 236) < 4 by decide)]
    show K (upA μ 0 13 (shR (μ 0 13) (239 - 236))) = _
    rw [eN]
set_option maxHeartbeats 2000000 in
theorem r_looks (μ : Mem) {g : Nat} (hg : g < 8) : ∃ μ', f_X10_looks μ (Int32.ofNat g) = some μ' ∧ FQ μ μ' ∧ μ' 0 13 = looksR (μ 0 13) g := by
  have hz : ∀ i, i < 64 → L1 (μ 0 13) i = μ 0 13 i := fun i hi => L1_ne (by omega)
  have ez : (upA μ 0 13 (L1 (μ 0 13))) 0 13 = L1 (μ 0 13) := upA_at _ _ _ _
  have FA : FQ μ (upA μ 0 13 (L1 (μ 0 13))) := ⟨fun a j h => upA_ne (by omega), fun i _ => by rw [upA_ne (by omega)], fun H => H.cg (upA_ne (by omega))⟩
  have hof : ∀ ν : Mem, f_X10_of ν (Int32.ofNat g) (Int32.ofNat 0) = some (ν 0 13 (24 + 5 * g)) := fun ν => r_of0 hg
  have hput : ∀ (ν : Mem) (v : Int32), f_X10_put ν (Int32.ofNat g) (Int32.ofNat 2) v = some (upm ν 0 13 (24 + 5 * g + 2) v) := fun ν v => by
    unfold f_X10_put
    rw [gix, ix_on (by omega) (by decide), on_t (by omega), nm_q]
  have st : f_X10_looks μ (Int32.ofNat g) = some (upm (upm (upm (upm (upm (upm (upm (upA μ 0 13 (L1 (μ 0 13))) 0 13 64 (μ 0 13 10)) 0 13 65 (Int32.ofNat g)) 0 13 66 (μ 0 13 (24 + 5 * g))) 0 13 67 (μ 0 13 4)) 0 13 14 (jmin (Int32.ofNat 60) (μ 0 13 14 + Int32.ofNat 1))) 0 13 11 (μ 0 13 11 + Int32.ofNat 1)) 0 13 (24 + 5 * g + 2) (Int32.ofNat 99)) := by
    unfold f_X10_looks
    rw [r_shift]
    simp (disch := omega) only [hof, hput, lesser_e, upm_n3, upA_at, hz, nm_q, bs_q, on_a, on_m, on_t, ix_on, le_t, le_f, lt_t, lt_f, eq_t, eq_f, ite_b0, ite_b1, ↓reduceIte, i_0, i_1, i_2, i_3, i_4, i_5, i_6, i_7, i_8, i_9, i_10, i_11, i_12, i_13, i_14, i_15, i_16, i_18, i_20, i_22, i_24, i_30, i_31, i_32, i_40, i_48, i_50, i_51, i_52, i_57, i_60, i_64, i_65, i_66, i_67, i_97, i_99, i_100, i_122, i_239, i_240, i_255, i_256, i_304, i_400, i_401, i_704, i_999, i_1000, i_2304, i_3344, i_3648, i_4096, i_9999, i_32767]
  refine ⟨_, st, ?_, ?_⟩
  · exact ((((((FA.row _ _).row _ _).row _ _).row _ _).row _ _).row _ _).row _ _
  · rw [upm_row, upm_row, upm_row, upm_row, upm_row, upm_row, upm_row, upA_at]
    unfold looksR logR
    have eL : L1 (upd (upd (μ 0 13) 11 (μ 0 13 11 + 1)) (24 + 5 * g + 2) 99) = upd (upd (L1 (μ 0 13)) 11 (μ 0 13 11 + 1)) (24 + 5 * g + 2) 99 := funext fun i => by
      by_cases h : 68 ≤ i ∧ i < 304
      · rw [L1_in h, upd_ne (by omega), upd_ne (by omega), upd_ne (by omega), upd_ne (by omega), L1_in h]
      · rw [L1_ne h]
        by_cases h1 : i = 24 + 5 * g + 2
        · rw [h1, upd_at, upd_at]
        · rw [upd_ne h1, upd_ne h1]
          by_cases h2 : i = 11
          · rw [h2, upd_at, upd_at]
          · rw [upd_ne h2, upd_ne h2, L1_ne h]
    rw [eL, upd_ne (show 10 ≠ 24 + 5 * g + 2 by omega), upd_ne (show 10 ≠ 11 by decide), upd_ne (show 24 + 5 * g ≠ 24 + 5 * g + 2 by omega), upd_ne (show 24 + 5 * g ≠ 11 by omega), upd_ne (show 4 ≠ 24 + 5 * g + 2 by omega), upd_ne (show 4 ≠ 11 by decide), upd_ne (show 14 ≠ 24 + 5 * g + 2 by omega), upd_ne (show 14 ≠ 11 by decide)]
    rw [upd_comm (show 24 + 5 * g + 2 ≠ 64 by omega), upd_comm (show 11 ≠ 64 by decide), upd_comm (show 24 + 5 * g + 2 ≠ 65 by omega), upd_comm (show 11 ≠ 65 by decide), upd_comm (show 24 + 5 * g + 2 ≠ 66 by omega), upd_comm (show 11 ≠ 66 by decide), upd_comm (show 24 + 5 * g + 2 ≠ 67 by omega), upd_comm (show 11 ≠ 67 by decide), upd_comm (show 24 + 5 * g + 2 ≠ 14 by omega), upd_comm (show 11 ≠ 14 by decide)]
    rfl
