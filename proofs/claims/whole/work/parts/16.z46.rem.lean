/-! ===== stretches of a row written one by one ===== -/
def fl (f F : Row) (a k : Nat) : Row := fun i => if a ≤ i ∧ i < a + k then F i else f i
theorem fl_0 (f F : Row) (a : Nat) : fl f F a 0 = f := funext fun i => if_neg (by omega)
theorem fl_s (f F : Row) (a k : Nat) : upd (fl f F a k) (a + k) (F (a + k)) = fl f F a (k + 1) := funext fun i => by
  by_cases h : i = a + k
  · rw [h, upd_at]
    exact (if_pos (by omega)).symm
  · rw [upd_ne h]
    unfold fl
    by_cases h2 : a ≤ i ∧ i < a + k
    · rw [if_pos h2, if_pos (by omega)]
    · rw [if_neg h2, if_neg (by omega)]
theorem fl_in {f F : Row} {a k i : Nat} (h : a ≤ i ∧ i < a + k) : fl f F a k i = F i := if_pos h
theorem fl_out {f F : Row} {a k i : Nat} (h : ¬ (a ≤ i ∧ i < a + k)) : fl f F a k i = f i := if_neg h
theorem upA_id (μ : Mem) (g j : Nat) : upA μ g j (μ g j) = μ := by
  funext a b
  unfold upA
  split
  · rename_i h
    rw [h.1, h.2]
  · rfl
theorem upA_at (μ : Mem) (g j : Nat) (f : Row) : upA μ g j f g j = f := if_pos ⟨rfl, rfl⟩
theorem upA_ne {μ : Mem} {g j : Nat} {f : Row} {a b : Nat} (h : ¬ (a = g ∧ b = j)) : upA μ g j f a b = μ a b := if_neg h
theorem upm_upA (μ : Mem) (g j i : Nat) (f : Row) (v : Int32) : upm (upA μ g j f) g j i v = upA μ g j (upd f i v) := by
  rw [← upm_A, upA_at]
  funext a b
  unfold upA
  split <;> rfl
theorem upA_upm (μ : Mem) (g j i : Nat) (v : Int32) : upm μ g j i v = upA μ g j (upd (μ g j) i v) := (upm_A μ g j i v).symm
theorem r_putsAside (μ : Mem) : f_X10_putsAside μ = some (upA μ 0 15 (fl (μ 0 15) (μ 0 13) 0 304)) := by
  suffices h : lp_X10_putsAside_2 4096 (Int32.ofNat 0) (upA μ 0 15 (fl (μ 0 15) (μ 0 13) 0 0)) = some (upA μ 0 15 (fl (μ 0 15) (μ 0 13) 0 304)) by
    rw [fl_0, upA_id] at h
    exact h
  refine lpF (fun n (s : Int32 × Mem) => lp_X10_putsAside_2 n s.1 s.2) (fun k => (Int32.ofNat k, upA μ 0 15 (fl (μ 0 15) (μ 0 13) 0 k))) 304 _ (fun k hk n => ?_) (fun n => ?_) 4096 (by decide)
  · show lp_X10_putsAside_2 _ _ _ = lp_X10_putsAside_2 _ _ _
    simp (disch := omega) only [lp_X10_putsAside_2, upA_ne, nm_q, bs_q, on_a, on_m, on_t, ix_on, le_t, le_f, lt_t, lt_f, eq_t, eq_f, ite_b0, ite_b1, ↓reduceIte, i_0, i_1, i_2, i_3, i_4, i_5, i_6, i_7, i_8, i_9, i_10, i_11, i_12, i_13, i_14, i_15, i_16, i_18, i_20, i_22, i_24, i_30, i_31, i_32, i_40, i_48, i_50, i_51, i_52, i_57, i_60, i_64, i_65, i_66, i_67, i_97, i_99, i_100, i_122, i_239, i_240, i_255, i_256, i_304, i_400, i_401, i_704, i_999, i_1000, i_2304, i_3344, i_3648, i_4096, i_9999, i_32767]
    rw [upm_upA, ← fl_s, Nat.zero_add]
  · show lp_X10_putsAside_2 _ _ _ = _
    rw [lp_X10_putsAside_2, if_pos (show (304 : Int32) ≤ Int32.ofNat 304 by decide)]
theorem r_comesBack (μ : Mem) : f_X10_comesBack μ = some (upA μ 0 13 (fl (μ 0 13) (μ 0 15) 0 304)) := by
  suffices h : lp_X10_comesBack_2 4096 (Int32.ofNat 0) (upA μ 0 13 (fl (μ 0 13) (μ 0 15) 0 0)) = some (upA μ 0 13 (fl (μ 0 13) (μ 0 15) 0 304)) by
    rw [fl_0, upA_id] at h
    exact h
  refine lpF (fun n (s : Int32 × Mem) => lp_X10_comesBack_2 n s.1 s.2) (fun k => (Int32.ofNat k, upA μ 0 13 (fl (μ 0 13) (μ 0 15) 0 k))) 304 _ (fun k hk n => ?_) (fun n => ?_) 4096 (by decide)
  · show lp_X10_comesBack_2 _ _ _ = lp_X10_comesBack_2 _ _ _
    simp (disch := omega) only [lp_X10_comesBack_2, upA_ne, nm_q, bs_q, on_a, on_m, on_t, ix_on, le_t, le_f, lt_t, lt_f, eq_t, eq_f, ite_b0, ite_b1, ↓reduceIte, i_0, i_1, i_2, i_3, i_4, i_5, i_6, i_7, i_8, i_9, i_10, i_11, i_12, i_13, i_14, i_15, i_16, i_18, i_20, i_22, i_24, i_30, i_31, i_32, i_40, i_48, i_50, i_51, i_52, i_57, i_60, i_64, i_65, i_66, i_67, i_97, i_99, i_100, i_122, i_239, i_240, i_255, i_256, i_304, i_400, i_401, i_704, i_999, i_1000, i_2304, i_3344, i_3648, i_4096, i_9999, i_32767]
    rw [upm_upA, ← fl_s, Nat.zero_add]
  · show lp_X10_comesBack_2 _ _ _ = _
    rw [lp_X10_comesBack_2, if_pos (show (304 : Int32) ≤ Int32.ofNat 304 by decide)]
theorem r_rem52 {μ : Mem} {a : Nat} (ha : a < 12) (hm : μ 0 12 6 = Int32.ofNat a) (K : Mem → Option Mem) : lp_X10_remembers_52 K 4096 0 μ = K (upA μ 0 16 (fl (μ 0 16) (fun i => μ 0 13 (i - 304 * a)) (304 * a) 304)) := by
  suffices h : lp_X10_remembers_52 K 4096 (Int32.ofNat 0) (upA μ 0 16 (fl (μ 0 16) (fun i => μ 0 13 (i - 304 * a)) (304 * a) 0)) = K (upA μ 0 16 (fl (μ 0 16) (fun i => μ 0 13 (i - 304 * a)) (304 * a) 304)) by
    rw [fl_0, upA_id] at h
    exact h
  refine lpF (fun n (s : Int32 × Mem) => lp_X10_remembers_52 K n s.1 s.2) (fun k => (Int32.ofNat k, upA μ 0 16 (fl (μ 0 16) (fun i => μ 0 13 (i - 304 * a)) (304 * a) k))) 304 _ (fun k hk n => ?_) (fun n => ?_) 4096 (by decide)
  · show lp_X10_remembers_52 _ _ _ _ = lp_X10_remembers_52 _ _ _ _
    simp (disch := omega) only [lp_X10_remembers_52, upA_ne, hm, nm_q, bs_q, on_a, on_m, on_t, ix_on, le_t, le_f, lt_t, lt_f, eq_t, eq_f, ite_b0, ite_b1, ↓reduceIte, i_0, i_1, i_2, i_3, i_4, i_5, i_6, i_7, i_8, i_9, i_10, i_11, i_12, i_13, i_14, i_15, i_16, i_18, i_20, i_22, i_24, i_30, i_31, i_32, i_40, i_48, i_50, i_51, i_52, i_57, i_60, i_64, i_65, i_66, i_67, i_97, i_99, i_100, i_122, i_239, i_240, i_255, i_256, i_304, i_400, i_401, i_704, i_999, i_1000, i_2304, i_3344, i_3648, i_4096, i_9999, i_32767]
    rw [upm_upA, ← fl_s, show 304 * a + k - 304 * a = k by omega]
  · show lp_X10_remembers_52 _ _ _ _ = _
    rw [lp_X10_remembers_52, if_pos (show (304 : Int32) ≤ Int32.ofNat 304 by decide)]
theorem r_rem11 (μ : Mem) (K : Mem → Option Mem) : lp_X10_remembers_11 K 4096 0 μ = K (upA μ 0 16 (fl (μ 0 16) (fun i => μ 0 16 (i + 304)) 0 3344)) := by
  suffices h : lp_X10_remembers_11 K 4096 (Int32.ofNat 0) (upA μ 0 16 (fl (μ 0 16) (fun i => μ 0 16 (i + 304)) 0 0)) = K (upA μ 0 16 (fl (μ 0 16) (fun i => μ 0 16 (i + 304)) 0 3344)) by
    rw [fl_0, upA_id] at h
    exact h
  refine lpF (fun n (s : Int32 × Mem) => lp_X10_remembers_11 K n s.1 s.2) (fun k => (Int32.ofNat k, upA μ 0 16 (fl (μ 0 16) (fun i => μ 0 16 (i + 304)) 0 k))) 3344 _ (fun k hk n => ?_) (fun n => ?_) 4096 (by decide)
  · show lp_X10_remembers_11 _ _ _ _ = lp_X10_remembers_11 _ _ _ _
    simp (disch := omega) only [lp_X10_remembers_11, nm_q, bs_q, on_a, on_m, on_t, ix_on, le_t, le_f, lt_t, lt_f, eq_t, eq_f, ite_b0, ite_b1, ↓reduceIte, i_0, i_1, i_2, i_3, i_4, i_5, i_6, i_7, i_8, i_9, i_10, i_11, i_12, i_13, i_14, i_15, i_16, i_18, i_20, i_22, i_24, i_30, i_31, i_32, i_40, i_48, i_50, i_51, i_52, i_57, i_60, i_64, i_65, i_66, i_67, i_97, i_99, i_100, i_122, i_239, i_240, i_255, i_256, i_304, i_400, i_401, i_704, i_999, i_1000, i_2304, i_3344, i_3648, i_4096, i_9999, i_32767]
    rw [upA_at, fl_out (by omega), upm_upA, ← fl_s, Nat.zero_add]
  · show lp_X10_remembers_11 _ _ _ _ = _
    rw [lp_X10_remembers_11, if_pos (show (3344 : Int32) ≤ Int32.ofNat 3344 by decide)]
/-- the reference remembers: its rows are led on by one where there are twelve -/
theorem r_remembers {μ : Mem} {k : Nat} (hk : k ≤ 12) (hm : μ 0 12 6 = Int32.ofNat k) : ∃ μ', f_X10_remembers μ = some μ' ∧ (∀ g j, ¬ (g = 0 ∧ (j = 16 ∨ j = 12)) → μ' g j = μ g j) ∧ (∀ i, i ≠ 6 → μ' 0 12 i = μ 0 12 i) ∧ μ' 0 12 6 = Int32.ofNat (min 12 (k + 1)) ∧ (∀ j, j < 304 → μ' 0 16 (304 * (min 12 (k + 1) - 1) + j) = μ 0 13 j) ∧ ∀ a j, a < min 12 (k + 1) - 1 → j < 304 → μ' 0 16 (304 * a + j) = μ 0 16 (304 * (a + (k + 1 - min 12 (k + 1))) + j) := by
  unfold f_X10_remembers
  simp only [nm_q]
  by_cases h : k = 12
  · subst h
    rw [if_pos (show μ 0 12 6 = 12 from hm), r_rem11]
    have hm2 : (upm (upA μ 0 16 (fl (μ 0 16) (fun i => μ 0 16 (i + 304)) 0 3344)) 0 12 6 ((upA μ 0 16 (fl (μ 0 16) (fun i => μ 0 16 (i + 304)) 0 3344)) 0 12 6 - 1)) 0 12 6 = Int32.ofNat 11 := by
      rw [upm_at, upA_ne (by omega), hm]
      rfl
    rw [r_rem52 (by decide) hm2]
    refine ⟨_, rfl, fun g j hg => ?_, fun i hi => ?_, ?_, fun j hj => ?_, fun a j ha hj => ?_⟩
    · rw [upm_ne (by omega), upA_ne (by omega), upm_ne (by omega), upA_ne (by omega)]
    · rw [upm_n3 (by omega), upA_ne (by omega), upm_n3 (by omega), upA_ne (by omega)]
    · rw [upm_at, upA_ne (by omega), hm2]
      rfl
    · rw [upm_ne (by omega), upA_at, fl_in (by omega), upm_ne (by omega), upA_ne (by omega)]
      exact congrArg (μ 0 13) (by omega)
    · have ha2 : a < 11 := by omega
      rw [upm_ne (by omega), upA_at, fl_out (by omega), upm_ne (by omega), upA_at, fl_in (by omega)]
      exact congrArg (μ 0 16) (by omega)
  · rw [if_neg (by rw [hm, show (12 : Int32) = Int32.ofNat 12 from rfl, on_eq (by omega) (by decide)]; exact h), r_rem52 (show k < 12 by omega) hm]
    have e : min 12 (k + 1) = k + 1 := by omega
    rw [e]
    refine ⟨_, rfl, fun g j hg => ?_, fun i hi => ?_, ?_, fun j hj => ?_, fun a j ha hj => ?_⟩
    · rw [upm_ne (by omega), upA_ne (by omega)]
    · rw [upm_n3 (by omega), upA_ne (by omega)]
    · rw [upm_at, upA_ne (by omega), hm]
      exact on_a k 1
    · rw [upm_ne (by omega), upA_at, fl_in (by omega)]
      exact congrArg (μ 0 13) (by omega)
    · rw [upm_ne (by omega), upA_at, fl_out (by omega)]
      exact congrArg (μ 0 16) (by omega)
theorem FrR.c {μ μ' : Mem} (h : ∀ g j i, scr g j i = false → g ≠ 1 → μ' g j i = μ g j i) : FrR μ μ' := fun g j i a b _ => h g j i a b
/-- an act is remembered by both -/
theorem remember {ev : Row → Int32} {μ : Mem} (H : HV ev (μ 1) (μ 0 13)) (T : Rest ev μ) : ∃ μ1, f_X6_remember 0 μ = some μ1 ∧ μ1 1 = μ 1 ∧ μ1 0 13 = μ 0 13 ∧ ∀ μ2 : Mem, (∀ g j i, scr g j i = false → g ≠ 1 → μ2 g j i = μ1 g j i) → ∃ μ5, f_X10_remembers μ2 = some μ5 ∧ Rest ev μ5 ∧ (∀ g j, ¬ (g = 0 ∧ (j = 16 ∨ j = 12)) → μ5 g j = μ2 g j) ∧ ∀ i, i ≠ 6 → μ5 0 12 i = μ2 0 12 i := by
  obtain ⟨⟨k, nx, a1, a2, a3, a4, a5, a6⟩, T2, T3, T4⟩ := T
  obtain ⟨ν, b1, b2, b3⟩ := hv_copy (d := nx + 3) (s := 0) (by omega) H
  have hc : f_X6_remember 0 μ = some (upm (upm ν 0 9 1 (Int32.ofNat ((nx + 1) % 12))) 0 9 2 (Int32.ofNat (min 12 (k + 1)))) := by
    unfold f_X6_remember
    simp only [nm_q]
    rw [a3, i_0, i_12, if_neg (by rw [on_lt (by omega) (by decide)]; omega), if_neg (by rw [on_le (by decide) (by omega)]; omega), ix_on a2 (by decide), on_t (by omega), b1]
    simp only [bs_q]
    rw [b2 0 (by omega), a3, i_1, on_a, on_r (by omega) (by decide), upm_n3 (by omega), b2 0 (by omega), a4, on_a, on_min (by decide) (by omega)]
  refine ⟨_, hc, ?_, ?_, fun μ2 h2 => ?_⟩
  · rw [upm_ng (by decide), upm_ng (by decide), b2 1 (by omega)]
  · rw [upm_ne (by decide), upm_ne (by decide), b2 0 (by omega)]
  · have hq : ∀ g j i, scr g j i = false → g ≠ 1 → ¬ (g = 0 ∧ j = 9) → g ≠ nx + 4 → μ2 g j i = μ g j i := fun g j i hs hg hj hx => by
      rw [h2 g j i hs hg, upm_n3 (by omega), upm_n3 (by omega), b2 g (by omega)]
    have hk : μ2 0 12 6 = Int32.ofNat k := by rw [hq 0 12 6 rfl (by decide) (by decide) (by omega), a5]
    obtain ⟨μ5, c1, c2, c3, c4, c5, c6⟩ := r_remembers a1 hk
    have hrow : μ2 0 13 = μ 0 13 := funext fun i => hq 0 13 i rfl (by decide) (by omega) (by omega)
    have hv : ∀ {ev : Row → Int32} {r : Row} {g : Nat}, 3 ≤ g → g < 16 → g ≠ nx + 4 → HV ev (μ g) r → HV ev (μ5 g) r := fun {ev r g} hg hg2 hg3 H => H.cg fun j i hs => by
      rw [c2 g j (by omega)]
      refine hq g j i ?_ (by omega) (by omega) hg3
      obtain ⟨g, rfl⟩ : ∃ k, g = k + 3 := ⟨g - 3, by omega⟩
      show (decide (15 ≤ g + 2) || scH j i) = false
      rw [hs, decide_eq_false (by omega)]
      rfl
    refine ⟨μ5, c1, ⟨⟨min 12 (k + 1), (nx + 1) % 12, by omega, Nat.mod_lt _ (by decide), ?_, ?_, c4, fun i hi => ?_⟩, ?_, ?_, ?_⟩, c2, c3⟩
    · rw [c2 0 9 (by omega), h2 0 9 1 rfl (by decide), upm_n3 (by omega), upm_at]
    · rw [c2 0 9 (by omega), h2 0 9 2 rfl (by decide), upm_at]
    · have erow : ∀ a, a + i + 1 = min 12 (k + 1) → ∀ R : Row, (∀ j, j < 304 → R j = μ5 0 16 (304 * a + j)) → (∀ j, 304 ≤ j → R j = μ 0 13 j) → pastR μ5 (min 12 (k + 1) - 1 - i) = R := fun a ha R h3 h4 => funext fun j => by
        unfold pastR
        by_cases hj : j < 304
        · rw [if_pos hj, h3 j hj]
          congr 1
          congr 1
          omega
        · rw [if_neg hj, h4 j (by omega), c2 0 13 (by omega), hrow]
      by_cases hi0 : i = 0
      · subst hi0
        rw [erow (min 12 (k + 1) - 1) (by omega) (μ 0 13) (fun j hj => by rw [c5 j hj, hrow]) (fun j hj => rfl)]
        have eg : 4 + ((nx + 1) % 12 + 11 - 0) % 12 = nx + 3 + 1 := by omega
        rw [eg]
        refine b3.cg fun j i2 hs => ?_
        have hs2 : scr (nx + 3 + 1) j i2 = false := by
          show (decide (15 ≤ nx + 3) || scH j i2) = false
          rw [hs, decide_eq_false (by omega)]
          rfl
        rw [c2 (nx + 3 + 1) j (by omega), h2 (nx + 3 + 1) j i2 hs2 (by omega), upm_n3 (by omega), upm_n3 (by omega)]
      · have e1 : pastR μ5 (min 12 (k + 1) - 1 - i) = pastR μ (k - 1 - (i - 1)) := by
          refine erow (min 12 (k + 1) - 1 - i) (by omega) _ (fun j hj => ?_) (fun j hj => ?_)
          · rw [c6 _ j (by omega) hj]
            unfold pastR
            rw [if_pos hj, hq 0 16 _ rfl (by decide) (by omega) (by omega)]
            exact congrArg (μ 0 16) (by omega)
          · unfold pastR
            rw [if_neg (by omega)]
        rw [e1, show 4 + ((nx + 1) % 12 + 11 - i) % 12 = 4 + (nx + 11 - (i - 1)) % 12 by omega]
        exact hv (by omega) (by omega) (by omega) (a6 (i - 1) (by omega))
    · obtain ⟨t, d1, d2, d3, d4⟩ := T2
      refine ⟨t, d1, ?_, ?_, fun i hi => ?_⟩
      · rw [c2 0 1 (by omega), hq 0 1 1 rfl (by decide) (by omega) (by omega), d2]
      · rw [c3 8 (by decide), hq 0 12 8 rfl (by decide) (by omega) (by omega), d3]
      · rw [c2 0 2 (by omega), c2 0 17 (by omega), hq 0 2 i rfl (by decide) (by omega) (by omega), hq 0 17 i rfl (by decide) (by omega) (by omega)]
        exact d4 i hi
    · rw [c2 0 0 (by omega), c3 12 (by decide), hq 0 0 10 rfl (by decide) (by omega) (by omega), hq 0 12 12 rfl (by decide) (by omega) (by omega)]
      exact T3
    · obtain ⟨T4, ⟨d1, d2⟩, d3, d4⟩ := T4
      refine ⟨?_, ⟨d1, by rw [c3 15 (by decide), hq 0 12 15 rfl (by decide) (by omega) (by omega)]; exact d2⟩, d3, by rw [c3 16 (by decide), hq 0 12 16 rfl (by decide) (by omega) (by omega)]; exact d4⟩
      rw [c2 0 0 (by omega), c3 3 (by decide), hq 0 0 9 rfl (by decide) (by omega) (by omega), hq 0 12 3 rfl (by decide) (by omega) (by omega), c2 0 14 (by omega), show μ2 0 14 = μ 0 14 from funext fun i => hq 0 14 i rfl (by decide) (by omega) (by omega)]
      rcases T4 with T4 | ⟨d1, d2, ev', d3⟩
      · exact Or.inl T4
      · exact Or.inr ⟨d1, d2, ev', hv (by decide) (by decide) (by omega) d3⟩
