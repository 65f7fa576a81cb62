/-! ===== questions answered alike: days, the log ===== -/
/-- by neither bound: what class and reference do with a number out of bounds -/
theorem far_cases (a : Int32) : (∃ k, k ≤ 400 ∧ a = Int32.ofNat k ∧ f_X9_isFar a = some (Int32.ofNat 1) ∧ f_X10_isIn a (Int32.ofNat 0) (Int32.ofNat 400) = some (Int32.ofNat 1)) ∨ (f_X9_isFar a = some (Int32.ofNat 0) ∧ f_X10_isIn a (Int32.ofNat 0) (Int32.ofNat 400) = some (Int32.ofNat 0)) := by
  rcases in_cases a 0 400 (by decide) (by decide) with ⟨k, -, hk, rfl⟩ | ⟨h1, h2⟩
  · left
    refine ⟨k, hk, rfl, ?_, isIn_t (Nat.zero_le k) hk (by decide)⟩
    unfold f_X9_isFar
    simp (disch := omega) only [nm_q, bs_q, on_a, on_m, on_t, ix_on, le_t, le_f, lt_t, lt_f, eq_t, eq_f, ite_b0, ite_b1, ↓reduceIte, i_0, i_1, i_2, i_3, i_4, i_5, i_6, i_7, i_8, i_9, i_10, i_11, i_12, i_13, i_14, i_15, i_16, i_18, i_20, i_22, i_24, i_30, i_31, i_32, i_40, i_48, i_50, i_51, i_52, i_57, i_60, i_64, i_65, i_66, i_67, i_97, i_99, i_100, i_122, i_239, i_240, i_255, i_256, i_304, i_400, i_401, i_704, i_999, i_1000, i_2304, i_3344, i_3648, i_4096, i_9999, i_32767]
  · right
    refine ⟨?_, h2⟩
    unfold f_X9_isFar
    simp only [i_0, i_400, i_1]
    rcases h1 with h1 | ⟨h1, h3⟩
    · rw [if_pos h1]
    · rw [if_neg h1, if_pos h3]
theorem tow_cases (a : Int32) : (∃ k, 1 ≤ k ∧ k ≤ 9999 ∧ a = Int32.ofNat k ∧ f_X9_isTowers a = some (Int32.ofNat 1) ∧ f_X10_isIn a (Int32.ofNat 1) (Int32.ofNat 9999) = some (Int32.ofNat 1)) ∨ (f_X9_isTowers a = some (Int32.ofNat 0) ∧ f_X10_isIn a (Int32.ofNat 1) (Int32.ofNat 9999) = some (Int32.ofNat 0)) := by
  rcases in_cases a 1 9999 (by decide) (by decide) with ⟨k, hk1, hk, rfl⟩ | ⟨h1, h2⟩
  · left
    refine ⟨k, hk1, hk, rfl, ?_, isIn_t hk1 hk (by decide)⟩
    unfold f_X9_isTowers
    simp (disch := omega) only [nm_q, bs_q, on_a, on_m, on_t, ix_on, le_t, le_f, lt_t, lt_f, eq_t, eq_f, ite_b0, ite_b1, ↓reduceIte, i_0, i_1, i_2, i_3, i_4, i_5, i_6, i_7, i_8, i_9, i_10, i_11, i_12, i_13, i_14, i_15, i_16, i_18, i_20, i_22, i_24, i_30, i_31, i_32, i_40, i_48, i_50, i_51, i_52, i_57, i_60, i_64, i_65, i_66, i_67, i_97, i_99, i_100, i_122, i_239, i_240, i_255, i_256, i_304, i_400, i_401, i_704, i_999, i_1000, i_2304, i_3344, i_3648, i_4096, i_9999, i_32767]
  · right
    refine ⟨?_, h2⟩
    unfold f_X9_isTowers
    simp only [i_0, i_9999, i_1]
    rcases h1 with h1 | ⟨h1, h3⟩
    · rw [if_pos h1]
    · rw [if_neg h1, if_pos h3]
theorem cal_cases (a : Int32) : (∃ k, k < 2 ∧ a = Int32.ofNat k ∧ f_X9_isCalendar a = some (Int32.ofNat 1) ∧ f_X10_isIn a (Int32.ofNat 0) (Int32.ofNat 1) = some (Int32.ofNat 1)) ∨ (f_X9_isCalendar a = some (Int32.ofNat 0) ∧ f_X10_isIn a (Int32.ofNat 0) (Int32.ofNat 1) = some (Int32.ofNat 0)) := by
  rcases in_cases a 0 1 (by decide) (by decide) with ⟨k, -, hk, rfl⟩ | ⟨h1, h2⟩
  · left
    refine ⟨k, by omega, rfl, ?_, isIn_t (Nat.zero_le k) hk (by decide)⟩
    rcases (show k = 0 ∨ k = 1 by omega) with rfl | rfl <;> rfl
  · right
    refine ⟨?_, h2⟩
    have hne : ∀ k, k ≤ 1 → ¬ a = Int32.ofNat k := fun k hk h => by
      rw [h] at h1
      rcases h1 with h1 | ⟨-, h1⟩
      · rw [on_lt (by omega) (by omega)] at h1
        omega
      · rw [on_lt (by omega) (by omega)] at h1
        omega
    unfold f_X9_isCalendar
    simp only [i_0, i_1]
    rw [if_neg (hne 0 (by omega)), if_neg (hne 1 (by omega))]
theorem q_need {μ : Mem} (R : Rel μ) (a : Int32) : AgT [(0, 0), (1, 1)] (f_X9_need μ a) (fun μ' => f_X10_need μ' a) := by
  have V := R.V
  have H : HC (μ (0 + 1)) (μ 0 13) := R.H
  rcases tow_cases a with ⟨k, h1, h2, rfl, h3, h4⟩ | ⟨h3, h4⟩
  · refine AgT.q R 0 0 (jmax 0 ((Int32.ofNat k - μ 0 13 8) - μ 0 13 7)) _ (by decide) ?_ (fun μ' V' e => ?_) (fun _ => rfl)
    · unfold f_X9_need
      have e1 : μ 1 0 11 = μ 0 13 8 := H.towers
      have e2 : μ 1 0 10 = μ 0 13 7 := H.stones
      rw [h3, e1, e2]
      simp (disch := omega) only [nm_q, bs_q, on_a, on_m, on_t, ix_on, le_t, le_f, lt_t, lt_f, eq_t, eq_f, ite_b0, ite_b1, ↓reduceIte, i_0, i_1, i_2, i_3, i_4, i_5, i_6, i_7, i_8, i_9, i_10, i_11, i_12, i_13, i_14, i_15, i_16, i_18, i_20, i_22, i_24, i_30, i_31, i_32, i_40, i_48, i_50, i_51, i_52, i_57, i_60, i_64, i_65, i_66, i_67, i_97, i_99, i_100, i_122, i_239, i_240, i_255, i_256, i_304, i_400, i_401, i_704, i_999, i_1000, i_2304, i_3344, i_3648, i_4096, i_9999, i_32767]
    · unfold f_X10_need
      simp (disch := omega) only [h4, greater_e, th_row _ e, nm_q, bs_q, on_a, on_m, on_t, ix_on, le_t, le_f, lt_t, lt_f, eq_t, eq_f, ite_b0, ite_b1, ↓reduceIte, i_0, i_1, i_2, i_3, i_4, i_5, i_6, i_7, i_8, i_9, i_10, i_11, i_12, i_13, i_14, i_15, i_16, i_18, i_20, i_22, i_24, i_30, i_31, i_32, i_40, i_48, i_50, i_51, i_52, i_57, i_60, i_64, i_65, i_66, i_67, i_97, i_99, i_100, i_122, i_239, i_240, i_255, i_256, i_304, i_400, i_401, i_704, i_999, i_1000, i_2304, i_3344, i_3648, i_4096, i_9999, i_32767, upm_at, bk_b]
  · refine AgT.q R 1 1 0 0 (by decide) ?_ (fun μ' V' e => ?_) (fun h => by cases h)
    · unfold f_X9_need
      simp (disch := omega) only [h3, nm_q, bs_q, on_a, on_m, on_t, ix_on, le_t, le_f, lt_t, lt_f, eq_t, eq_f, ite_b0, ite_b1, ↓reduceIte, i_0, i_1, i_2, i_3, i_4, i_5, i_6, i_7, i_8, i_9, i_10, i_11, i_12, i_13, i_14, i_15, i_16, i_18, i_20, i_22, i_24, i_30, i_31, i_32, i_40, i_48, i_50, i_51, i_52, i_57, i_60, i_64, i_65, i_66, i_67, i_97, i_99, i_100, i_122, i_239, i_240, i_255, i_256, i_304, i_400, i_401, i_704, i_999, i_1000, i_2304, i_3344, i_3648, i_4096, i_9999, i_32767]
    · unfold f_X10_need
      simp (disch := omega) only [h4, nm_q, bs_q, on_a, on_m, on_t, ix_on, le_t, le_f, lt_t, lt_f, eq_t, eq_f, ite_b0, ite_b1, ↓reduceIte, i_0, i_1, i_2, i_3, i_4, i_5, i_6, i_7, i_8, i_9, i_10, i_11, i_12, i_13, i_14, i_15, i_16, i_18, i_20, i_22, i_24, i_30, i_31, i_32, i_40, i_48, i_50, i_51, i_52, i_57, i_60, i_64, i_65, i_66, i_67, i_97, i_99, i_100, i_122, i_239, i_240, i_255, i_256, i_304, i_400, i_401, i_704, i_999, i_1000, i_2304, i_3344, i_3648, i_4096, i_9999, i_32767, upm_at, bk_b]
theorem q_saturday {μ : Mem} (R : Rel μ) (a b : Int32) : AgT [(0, 0), (3, 1), (1, 2)] (f_X9_saturday μ a b) (fun μ' => f_X10_saturday μ' a b) := by
  have V := R.V
  have H : HC (μ (0 + 1)) (μ 0 13) := R.H
  rcases cal_cases a with ⟨c, hc, rfl, h3, h4⟩ | ⟨h3, h4⟩
  · rcases in_cases b 0 9999 (by decide) (by decide) with ⟨k, -, hk, rfl⟩ | ⟨h1, h2⟩
    · refine AgT.q R 0 0 (bI (satI (μ 0 13) c (Int32.ofNat k))) _ (by decide) ?_ (fun μ' V' e => ?_) (fun _ => rfl)
      · unfold f_X9_saturday
        simp (disch := omega) only [h3, c_isSat H hc, bk_b, nm_q, bs_q, on_a, on_m, on_t, ix_on, le_t, le_f, lt_t, lt_f, eq_t, eq_f, ite_b0, ite_b1, ↓reduceIte, i_0, i_1, i_2, i_3, i_4, i_5, i_6, i_7, i_8, i_9, i_10, i_11, i_12, i_13, i_14, i_15, i_16, i_18, i_20, i_22, i_24, i_30, i_31, i_32, i_40, i_48, i_50, i_51, i_52, i_57, i_60, i_64, i_65, i_66, i_67, i_97, i_99, i_100, i_122, i_239, i_240, i_255, i_256, i_304, i_400, i_401, i_704, i_999, i_1000, i_2304, i_3344, i_3648, i_4096, i_9999, i_32767]
      · unfold f_X10_saturday
        simp (disch := omega) only [h4, isIn_t, r_isSat (th_row _ e) hc, nm_q, bs_q, on_a, on_m, on_t, ix_on, le_t, le_f, lt_t, lt_f, eq_t, eq_f, ite_b0, ite_b1, ↓reduceIte, i_0, i_1, i_2, i_3, i_4, i_5, i_6, i_7, i_8, i_9, i_10, i_11, i_12, i_13, i_14, i_15, i_16, i_18, i_20, i_22, i_24, i_30, i_31, i_32, i_40, i_48, i_50, i_51, i_52, i_57, i_60, i_64, i_65, i_66, i_67, i_97, i_99, i_100, i_122, i_239, i_240, i_255, i_256, i_304, i_400, i_401, i_704, i_999, i_1000, i_2304, i_3344, i_3648, i_4096, i_9999, i_32767, upm_at, bk_b]
        cases satI (μ 0 13) c (Int32.ofNat k) <;> rfl
    · refine AgT.q R 1 2 0 0 (by decide) ?_ (fun μ' V' e => ?_) (fun h => by cases h)
      · unfold f_X9_saturday
        rw [h3]
        simp only [bs_q, nm_q, i_0, i_9999]
        rw [if_neg (by decide)]
        rcases h1 with h1 | ⟨h1, h5⟩
        · rw [if_pos h1]
        · rw [if_neg h1, if_neg (by rw [Int32.not_le]; exact h5)]
      · unfold f_X10_saturday
        simp (disch := omega) only [h4, h2, nm_q, bs_q, on_a, on_m, on_t, ix_on, le_t, le_f, lt_t, lt_f, eq_t, eq_f, ite_b0, ite_b1, ↓reduceIte, i_0, i_1, i_2, i_3, i_4, i_5, i_6, i_7, i_8, i_9, i_10, i_11, i_12, i_13, i_14, i_15, i_16, i_18, i_20, i_22, i_24, i_30, i_31, i_32, i_40, i_48, i_50, i_51, i_52, i_57, i_60, i_64, i_65, i_66, i_67, i_97, i_99, i_100, i_122, i_239, i_240, i_255, i_256, i_304, i_400, i_401, i_704, i_999, i_1000, i_2304, i_3344, i_3648, i_4096, i_9999, i_32767, upm_at, bk_b]
  · refine AgT.q R 3 1 0 0 (by decide) ?_ (fun μ' V' e => ?_) (fun h => by cases h)
    · unfold f_X9_saturday
      simp (disch := omega) only [h3, nm_q, bs_q, on_a, on_m, on_t, ix_on, le_t, le_f, lt_t, lt_f, eq_t, eq_f, ite_b0, ite_b1, ↓reduceIte, i_0, i_1, i_2, i_3, i_4, i_5, i_6, i_7, i_8, i_9, i_10, i_11, i_12, i_13, i_14, i_15, i_16, i_18, i_20, i_22, i_24, i_30, i_31, i_32, i_40, i_48, i_50, i_51, i_52, i_57, i_60, i_64, i_65, i_66, i_67, i_97, i_99, i_100, i_122, i_239, i_240, i_255, i_256, i_304, i_400, i_401, i_704, i_999, i_1000, i_2304, i_3344, i_3648, i_4096, i_9999, i_32767]
    · unfold f_X10_saturday
      simp (disch := omega) only [h4, nm_q, bs_q, on_a, on_m, on_t, ix_on, le_t, le_f, lt_t, lt_f, eq_t, eq_f, ite_b0, ite_b1, ↓reduceIte, i_0, i_1, i_2, i_3, i_4, i_5, i_6, i_7, i_8, i_9, i_10, i_11, i_12, i_13, i_14, i_15, i_16, i_18, i_20, i_22, i_24, i_30, i_31, i_32, i_40, i_48, i_50, i_51, i_52, i_57, i_60, i_64, i_65, i_66, i_67, i_97, i_99, i_100, i_122, i_239, i_240, i_255, i_256, i_304, i_400, i_401, i_704, i_999, i_1000, i_2304, i_3344, i_3648, i_4096, i_9999, i_32767, upm_at, bk_b]
theorem sh_b {r : Row} (V : Vr r) {c : Nat} (hc : c < 2) : r (12 + c) = Int32.ofNat (nv r (12 + c)) ∧ nv r (12 + c) ≤ 6 := by
  rcases (show c = 0 ∨ c = 1 by omega) with rfl | rfl
  · exact ⟨V.e (i := 12) (by decide), V.b (i := 12) (by decide)⟩
  · exact ⟨V.e (i := 13) (by decide), V.b (i := 13) (by decide)⟩
theorem dy_b {r : Row} (V : Vr r) : r 10 = Int32.ofNat (nv r 10) ∧ nv r 10 ≤ 9999 := ⟨V.e (i := 10) (by decide), V.b (i := 10) (by decide)⟩
theorem sat_n {r : Row} (V : Vr r) {c k : Nat} (hc : c < 2) (hk : k < 100000) : satI r c (r 10 + Int32.ofNat k) = decide ((nv r 10 + k + nv r (12 + c)) % 7 = 6) := by
  have hs := sh_b V hc
  have hd := dy_b V
  unfold satI
  rw [hs.1, hd.1, on_a, on_a, on_r (by omega) (by decide)]
  have h7 : (nv r 10 + k + nv r (12 + c)) % 7 < 7 := Nat.mod_lt _ (by decide)
  exact decide_eq_decide.mpr (by rw [on_eq (by omega) (by decide)])
theorem q_calendar {μ : Mem} (R : Rel μ) (a : Int32) (nx : Bool) : AgT [(0, 0), (3, 1)] (f_X9_calendar μ a (bI nx)) (fun μ' => f_X10_calendar μ' a (bI nx)) := by
  have V := R.V
  have H : HC (μ (0 + 1)) (μ 0 13) := R.H
  rcases cal_cases a with ⟨c, hc, rfl, h3, h4⟩ | ⟨h3, h4⟩
  · have e : f_X2_shiftOf 0 μ (Int32.ofNat c) = some (μ 0 13 (12 + c)) := by
      unfold f_X2_shiftOf
      rw [i_0, il_eq (by omega) (by decide)]
      by_cases h0 : c = 0
      · rw [if_pos h0, H.sh0, h0]
      · rw [if_neg h0, H.sh1, show c = 1 by omega]
    cases nx
    · refine AgT.q R 0 0 (μ 0 13 (12 + c)) _ (by decide) ?_ (fun μ' V' e2 => ?_) (fun _ => rfl)
      · unfold f_X9_calendar
        simp (disch := omega) only [h3, e, bI_f, nm_q, bs_q, on_a, on_m, on_t, ix_on, le_t, le_f, lt_t, lt_f, eq_t, eq_f, ite_b0, ite_b1, ↓reduceIte, i_0, i_1, i_2, i_3, i_4, i_5, i_6, i_7, i_8, i_9, i_10, i_11, i_12, i_13, i_14, i_15, i_16, i_18, i_20, i_22, i_24, i_30, i_31, i_32, i_40, i_48, i_50, i_51, i_52, i_57, i_60, i_64, i_65, i_66, i_67, i_97, i_99, i_100, i_122, i_239, i_240, i_255, i_256, i_304, i_400, i_401, i_704, i_999, i_1000, i_2304, i_3344, i_3648, i_4096, i_9999, i_32767]
      · unfold f_X10_calendar
        simp (disch := omega) only [h4, bI_f, th_row _ e2, nm_q, bs_q, on_a, on_m, on_t, ix_on, le_t, le_f, lt_t, lt_f, eq_t, eq_f, ite_b0, ite_b1, ↓reduceIte, i_0, i_1, i_2, i_3, i_4, i_5, i_6, i_7, i_8, i_9, i_10, i_11, i_12, i_13, i_14, i_15, i_16, i_18, i_20, i_22, i_24, i_30, i_31, i_32, i_40, i_48, i_50, i_51, i_52, i_57, i_60, i_64, i_65, i_66, i_67, i_97, i_99, i_100, i_122, i_239, i_240, i_255, i_256, i_304, i_400, i_401, i_704, i_999, i_1000, i_2304, i_3344, i_3648, i_4096, i_9999, i_32767, upm_at, bk_b]
    · have hs := sh_b V hc
      have hd := dy_b V
      have ed : μ (0 + 1) 0 13 = μ 0 13 10 := H.day
      have hm : (nv (μ 0 13) 10 + nv (μ 0 13) (12 + c)) % 7 < 7 := Nat.mod_lt _ (by decide)
      refine AgT.q R 0 0 (Int32.ofNat (6 - (nv (μ 0 13) 10 + nv (μ 0 13) (12 + c)) % 7)) _ (by decide) ?_ (fun μ' V' e2 => ?_) (fun _ => rfl)
      · unfold f_X9_calendar f_X2_untilSaturday
        rw [h3, e, ed, hs.1, hd.1]
        simp (disch := omega) only [bI_t, on_r, on_sb, nm_q, bs_q, on_a, on_m, on_t, ix_on, le_t, le_f, lt_t, lt_f, eq_t, eq_f, ite_b0, ite_b1, ↓reduceIte, i_0, i_1, i_2, i_3, i_4, i_5, i_6, i_7, i_8, i_9, i_10, i_11, i_12, i_13, i_14, i_15, i_16, i_18, i_20, i_22, i_24, i_30, i_31, i_32, i_40, i_48, i_50, i_51, i_52, i_57, i_60, i_64, i_65, i_66, i_67, i_97, i_99, i_100, i_122, i_239, i_240, i_255, i_256, i_304, i_400, i_401, i_704, i_999, i_1000, i_2304, i_3344, i_3648, i_4096, i_9999, i_32767]
      · unfold f_X10_calendar
        simp (disch := omega) only [h4, bI_t, th_row _ e2, nm_q, bs_q, on_a, on_m, on_t, ix_on, le_t, le_f, lt_t, lt_f, eq_t, eq_f, ite_b0, ite_b1, ↓reduceIte, i_0, i_1, i_2, i_3, i_4, i_5, i_6, i_7, i_8, i_9, i_10, i_11, i_12, i_13, i_14, i_15, i_16, i_18, i_20, i_22, i_24, i_30, i_31, i_32, i_40, i_48, i_50, i_51, i_52, i_57, i_60, i_64, i_65, i_66, i_67, i_97, i_99, i_100, i_122, i_239, i_240, i_255, i_256, i_304, i_400, i_401, i_704, i_999, i_1000, i_2304, i_3344, i_3648, i_4096, i_9999, i_32767, upm_at, bk_b]
        refine lpF (fun n (s : Int32) => lp_X10_calendar_52 (Int32.ofNat c) (upm μ' 0 12 0 (Int32.ofNat 0)) n s) (fun k => Int32.ofNat k) (6 - (nv (μ 0 13) 10 + nv (μ 0 13) (12 + c)) % 7) _ (fun k hk n => ?_) (fun n => ?_) 4096 (by omega)
        · show lp_X10_calendar_52 _ _ _ _ = lp_X10_calendar_52 _ _ _ _
          simp (disch := omega) only [lp_X10_calendar_52, th_row _ e2, r_isSat (th_row _ e2) hc, sat_n V hc (show k < 100000 by omega), nm_q, bs_q, on_a, on_m, on_t, ix_on, le_t, le_f, lt_t, lt_f, eq_t, eq_f, ite_b0, ite_b1, ↓reduceIte, i_0, i_1, i_2, i_3, i_4, i_5, i_6, i_7, i_8, i_9, i_10, i_11, i_12, i_13, i_14, i_15, i_16, i_18, i_20, i_22, i_24, i_30, i_31, i_32, i_40, i_48, i_50, i_51, i_52, i_57, i_60, i_64, i_65, i_66, i_67, i_97, i_99, i_100, i_122, i_239, i_240, i_255, i_256, i_304, i_400, i_401, i_704, i_999, i_1000, i_2304, i_3344, i_3648, i_4096, i_9999, i_32767]
          rw [if_neg]
          rw [decide_eq_true_eq]
          omega
        · show lp_X10_calendar_52 _ _ _ _ = _
          simp (disch := omega) only [lp_X10_calendar_52, th_row _ e2, r_isSat (th_row _ e2) hc, sat_n V hc (show 6 - (nv (μ 0 13) 10 + nv (μ 0 13) (12 + c)) % 7 < 100000 by omega), nm_q, bs_q, on_a, on_m, on_t, ix_on, le_t, le_f, lt_t, lt_f, eq_t, eq_f, ite_b0, ite_b1, ↓reduceIte, i_0, i_1, i_2, i_3, i_4, i_5, i_6, i_7, i_8, i_9, i_10, i_11, i_12, i_13, i_14, i_15, i_16, i_18, i_20, i_22, i_24, i_30, i_31, i_32, i_40, i_48, i_50, i_51, i_52, i_57, i_60, i_64, i_65, i_66, i_67, i_97, i_99, i_100, i_122, i_239, i_240, i_255, i_256, i_304, i_400, i_401, i_704, i_999, i_1000, i_2304, i_3344, i_3648, i_4096, i_9999, i_32767]
          rw [if_pos]
          rw [decide_eq_true_eq]
          omega
  · refine AgT.q R 3 1 0 0 (by decide) ?_ (fun μ' V' e => ?_) (fun h => by cases h)
    · unfold f_X9_calendar
      simp (disch := omega) only [h3, nm_q, bs_q, on_a, on_m, on_t, ix_on, le_t, le_f, lt_t, lt_f, eq_t, eq_f, ite_b0, ite_b1, ↓reduceIte, i_0, i_1, i_2, i_3, i_4, i_5, i_6, i_7, i_8, i_9, i_10, i_11, i_12, i_13, i_14, i_15, i_16, i_18, i_20, i_22, i_24, i_30, i_31, i_32, i_40, i_48, i_50, i_51, i_52, i_57, i_60, i_64, i_65, i_66, i_67, i_97, i_99, i_100, i_122, i_239, i_240, i_255, i_256, i_304, i_400, i_401, i_704, i_999, i_1000, i_2304, i_3344, i_3648, i_4096, i_9999, i_32767]
    · unfold f_X10_calendar
      simp (disch := omega) only [h4, lt_t, nm_q, bs_q, on_a, on_m, on_t, ix_on, le_t, le_f, lt_t, lt_f, eq_t, eq_f, ite_b0, ite_b1, ↓reduceIte, i_0, i_1, i_2, i_3, i_4, i_5, i_6, i_7, i_8, i_9, i_10, i_11, i_12, i_13, i_14, i_15, i_16, i_18, i_20, i_22, i_24, i_30, i_31, i_32, i_40, i_48, i_50, i_51, i_52, i_57, i_60, i_64, i_65, i_66, i_67, i_97, i_99, i_100, i_122, i_239, i_240, i_255, i_256, i_304, i_400, i_401, i_704, i_999, i_1000, i_2304, i_3344, i_3648, i_4096, i_9999, i_32767, upm_at, bk_b]
def s2 (r : Row) (k : Nat) : Nat := b2n (satI r 0 (r 10 + Int32.ofNat k)) + b2n (satI r 1 (r 10 + Int32.ofNat k))
theorem c_satAt {μ : Mem} {r : Row} (H : HC (μ (0 + 1)) r) (k : Nat) : f_X2_saturdaysAt 0 μ (Int32.ofNat k) = some (Int32.ofNat (s2 r k)) := by
  have ed : μ (0 + 1) 0 13 = r 10 := H.day
  have h0 : ∀ d, f_X2_isSaturday 0 μ (Int32.ofNat 0) d = some (bI (satI r 0 d)) := fun d => c_isSat H (by decide) d
  have h1 : ∀ d, f_X2_isSaturday 0 μ (Int32.ofNat 1) d = some (bI (satI r 1 d)) := fun d => c_isSat H (by decide) d
  unfold f_X2_saturdaysAt s2 b2n
  rw [ed]
  simp (disch := omega) only [h0, h1, nm_q, bs_q, on_a, on_m, on_t, ix_on, le_t, le_f, lt_t, lt_f, eq_t, eq_f, ite_b0, ite_b1, ↓reduceIte, i_0, i_1, i_2, i_3, i_4, i_5, i_6, i_7, i_8, i_9, i_10, i_11, i_12, i_13, i_14, i_15, i_16, i_18, i_20, i_22, i_24, i_30, i_31, i_32, i_40, i_48, i_50, i_51, i_52, i_57, i_60, i_64, i_65, i_66, i_67, i_97, i_99, i_100, i_122, i_239, i_240, i_255, i_256, i_304, i_400, i_401, i_704, i_999, i_1000, i_2304, i_3344, i_3648, i_4096, i_9999, i_32767]
  cases satI r 0 (r 10 + Int32.ofNat k) <;> cases satI r 1 (r 10 + Int32.ofNat k) <;> rfl
theorem b2n_le (b : Bool) : b2n b ≤ 1 := by cases b <;> decide
theorem s2_le (r : Row) (k : Nat) : s2 r k ≤ 2 := by
  unfold s2
  have := b2n_le (satI r 0 (r 10 + Int32.ofNat k))
  have := b2n_le (satI r 1 (r 10 + Int32.ofNat k))
  omega
theorem q_saturdays {μ : Mem} (R : Rel μ) (a : Int32) : AgT [(0, 0), (1, 1)] (f_X9_saturdays μ a) (fun μ' => f_X10_saturdays μ' a) := by
  have V := R.V
  have H : HC (μ (0 + 1)) (μ 0 13) := R.H
  rcases far_cases a with ⟨m, hm, rfl, h3, h4⟩ | ⟨h3, h4⟩
  · refine AgT.q R 0 0 (Int32.ofNat (sm m (fun k => if s2 (μ 0 13) k ≤ 0 then 0 else 1))) _ (by decide) ?_ (fun μ' V' e => ?_) (fun _ => rfl)
    · unfold f_X9_saturdays
      rw [h3]
      simp (disch := omega) only [bs_q, i_0, eq_f, ↓reduceIte]
      refine lpF (fun n (s : Int32 × Int32) => lp_X9_saturdays_22 (Int32.ofNat m) μ n s.1 s.2) (fun k => (Int32.ofNat (sm k (fun k => if s2 (μ 0 13) k ≤ 0 then 0 else 1)), Int32.ofNat k)) m _ (fun k hk n => ?_) (fun n => ?_) 4096 (by omega)
      · show lp_X9_saturdays_22 _ _ _ _ _ = lp_X9_saturdays_22 _ _ _ _ _
        have h2 := s2_le (μ 0 13) k
        simp (disch := omega) only [lp_X9_saturdays_22, c_satAt H, nm_q, bs_q, on_a, on_m, on_t, ix_on, le_t, le_f, lt_t, lt_f, eq_t, eq_f, ite_b0, ite_b1, ↓reduceIte, i_0, i_1, i_2, i_3, i_4, i_5, i_6, i_7, i_8, i_9, i_10, i_11, i_12, i_13, i_14, i_15, i_16, i_18, i_20, i_22, i_24, i_30, i_31, i_32, i_40, i_48, i_50, i_51, i_52, i_57, i_60, i_64, i_65, i_66, i_67, i_97, i_99, i_100, i_122, i_239, i_240, i_255, i_256, i_304, i_400, i_401, i_704, i_999, i_1000, i_2304, i_3344, i_3648, i_4096, i_9999, i_32767]
        rw [il_le (by omega) (by omega), sm_s]
        split <;> rfl
      · show lp_X9_saturdays_22 _ _ _ _ _ = _
        simp (disch := omega) only [lp_X9_saturdays_22, nm_q, bs_q, on_a, on_m, on_t, ix_on, le_t, le_f, lt_t, lt_f, eq_t, eq_f, ite_b0, ite_b1, ↓reduceIte, i_0, i_1, i_2, i_3, i_4, i_5, i_6, i_7, i_8, i_9, i_10, i_11, i_12, i_13, i_14, i_15, i_16, i_18, i_20, i_22, i_24, i_30, i_31, i_32, i_40, i_48, i_50, i_51, i_52, i_57, i_60, i_64, i_65, i_66, i_67, i_97, i_99, i_100, i_122, i_239, i_240, i_255, i_256, i_304, i_400, i_401, i_704, i_999, i_1000, i_2304, i_3344, i_3648, i_4096, i_9999, i_32767]
    · unfold f_X10_saturdays
      simp (disch := omega) only [h4, eq_f, nm_q, bs_q, ↓reduceIte, i_0, i_1, i_400]
      refine lpF (fun n (s : Int32 × Int32) => lp_X10_saturdays_24 (Int32.ofNat m) (upm μ' 0 12 0 (Int32.ofNat 0)) n s.1 s.2) (fun k => (Int32.ofNat (sm k (fun k => if s2 (μ 0 13) k ≤ 0 then 0 else 1)), Int32.ofNat k)) m _ (fun k hk n => ?_) (fun n => ?_) 4096 (by omega)
      · show lp_X10_saturdays_24 _ _ _ _ _ = lp_X10_saturdays_24 _ _ _ _ _
        have h0 : ∀ d, f_X10_isSaturday (upm μ' 0 12 0 (Int32.ofNat 0)) (Int32.ofNat 0) d = some (bI (satI (μ 0 13) 0 d)) := fun d => r_isSat (th_row _ e) (by decide) d
        have h1 : ∀ d, f_X10_isSaturday (upm μ' 0 12 0 (Int32.ofNat 0)) (Int32.ofNat 1) d = some (bI (satI (μ 0 13) 1 d)) := fun d => r_isSat (th_row _ e) (by decide) d
        simp (disch := omega) only [lp_X10_saturdays_24, h0, h1, th_row _ e, nm_q, bs_q, on_a, on_m, on_t, ix_on, le_t, le_f, lt_t, lt_f, eq_t, eq_f, ite_b0, ite_b1, ↓reduceIte, i_0, i_1, i_2, i_3, i_4, i_5, i_6, i_7, i_8, i_9, i_10, i_11, i_12, i_13, i_14, i_15, i_16, i_18, i_20, i_22, i_24, i_30, i_31, i_32, i_40, i_48, i_50, i_51, i_52, i_57, i_60, i_64, i_65, i_66, i_67, i_97, i_99, i_100, i_122, i_239, i_240, i_255, i_256, i_304, i_400, i_401, i_704, i_999, i_1000, i_2304, i_3344, i_3648, i_4096, i_9999, i_32767, upm_at, bk_b]
        rw [sm_s]
        unfold s2 b2n
        cases satI (μ 0 13) 0 (μ 0 13 10 + Int32.ofNat k) <;> cases satI (μ 0 13) 1 (μ 0 13 10 + Int32.ofNat k) <;> rfl
      · show lp_X10_saturdays_24 _ _ _ _ _ = _
        simp (disch := omega) only [lp_X10_saturdays_24, nm_q, bs_q, on_a, on_m, on_t, ix_on, le_t, le_f, lt_t, lt_f, eq_t, eq_f, ite_b0, ite_b1, ↓reduceIte, i_0, i_1, i_2, i_3, i_4, i_5, i_6, i_7, i_8, i_9, i_10, i_11, i_12, i_13, i_14, i_15, i_16, i_18, i_20, i_22, i_24, i_30, i_31, i_32, i_40, i_48, i_50, i_51, i_52, i_57, i_60, i_64, i_65, i_66, i_67, i_97, i_99, i_100, i_122, i_239, i_240, i_255, i_256, i_304, i_400, i_401, i_704, i_999, i_1000, i_2304, i_3344, i_3648, i_4096, i_9999, i_32767]
  · refine AgT.q R 1 1 0 0 (by decide) ?_ (fun μ' V' e => ?_) (fun h => by cases h)
    · unfold f_X9_saturdays
      simp (disch := omega) only [h3, nm_q, bs_q, on_a, on_m, on_t, ix_on, le_t, le_f, lt_t, lt_f, eq_t, eq_f, ite_b0, ite_b1, ↓reduceIte, i_0, i_1, i_2, i_3, i_4, i_5, i_6, i_7, i_8, i_9, i_10, i_11, i_12, i_13, i_14, i_15, i_16, i_18, i_20, i_22, i_24, i_30, i_31, i_32, i_40, i_48, i_50, i_51, i_52, i_57, i_60, i_64, i_65, i_66, i_67, i_97, i_99, i_100, i_122, i_239, i_240, i_255, i_256, i_304, i_400, i_401, i_704, i_999, i_1000, i_2304, i_3344, i_3648, i_4096, i_9999, i_32767]
    · unfold f_X10_saturdays
      simp (disch := omega) only [h4, nm_q, bs_q, ↓reduceIte, i_0, i_1, i_400]
      by_cases hp : a ≤ Int32.ofNat 0
      · rw [show (4096 : Nat) = 4095 + 1 from rfl, lp_X10_saturdays_24, if_pos hp] <;> rfl
      · rw [show (4096 : Nat) = 4095 + 1 from rfl, lp_X10_saturdays_24, if_neg hp, upm_at, if_neg (by decide)] <;> rfl
theorem q_agree {μ : Mem} (R : Rel μ) (a : Int32) : AgT [(0, 0), (1, 1)] (f_X9_agree μ a) (fun μ' => f_X10_agree μ' a) := by
  have V := R.V
  have H : HC (μ (0 + 1)) (μ 0 13) := R.H
  rcases far_cases a with ⟨m, hm, rfl, h3, h4⟩ | ⟨h3, h4⟩
  · refine AgT.q R 0 0 (Int32.ofNat (sm m (fun k => if s2 (μ 0 13) k = 1 then 0 else 1))) _ (by decide) ?_ (fun μ' V' e => ?_) (fun _ => rfl)
    · unfold f_X9_agree
      rw [h3]
      simp (disch := omega) only [bs_q, i_0, eq_f, ↓reduceIte]
      refine lpF (fun n (s : Int32 × Int32) => lp_X9_agree_22 (Int32.ofNat m) μ n s.1 s.2) (fun k => (Int32.ofNat (sm k (fun k => if s2 (μ 0 13) k = 1 then 0 else 1)), Int32.ofNat k)) m _ (fun k hk n => ?_) (fun n => ?_) 4096 (by omega)
      · show lp_X9_agree_22 _ _ _ _ _ = lp_X9_agree_22 _ _ _ _ _
        have h2 := s2_le (μ 0 13) k
        simp (disch := omega) only [lp_X9_agree_22, c_satAt H, nm_q, bs_q, on_a, on_m, on_t, ix_on, le_t, le_f, lt_t, lt_f, eq_t, eq_f, ite_b0, ite_b1, ↓reduceIte, i_0, i_1, i_2, i_3, i_4, i_5, i_6, i_7, i_8, i_9, i_10, i_11, i_12, i_13, i_14, i_15, i_16, i_18, i_20, i_22, i_24, i_30, i_31, i_32, i_40, i_48, i_50, i_51, i_52, i_57, i_60, i_64, i_65, i_66, i_67, i_97, i_99, i_100, i_122, i_239, i_240, i_255, i_256, i_304, i_400, i_401, i_704, i_999, i_1000, i_2304, i_3344, i_3648, i_4096, i_9999, i_32767]
        rw [il_eq (by omega) (by omega), sm_s]
        split <;> rfl
      · show lp_X9_agree_22 _ _ _ _ _ = _
        simp (disch := omega) only [lp_X9_agree_22, nm_q, bs_q, on_a, on_m, on_t, ix_on, le_t, le_f, lt_t, lt_f, eq_t, eq_f, ite_b0, ite_b1, ↓reduceIte, i_0, i_1, i_2, i_3, i_4, i_5, i_6, i_7, i_8, i_9, i_10, i_11, i_12, i_13, i_14, i_15, i_16, i_18, i_20, i_22, i_24, i_30, i_31, i_32, i_40, i_48, i_50, i_51, i_52, i_57, i_60, i_64, i_65, i_66, i_67, i_97, i_99, i_100, i_122, i_239, i_240, i_255, i_256, i_304, i_400, i_401, i_704, i_999, i_1000, i_2304, i_3344, i_3648, i_4096, i_9999, i_32767]
    · unfold f_X10_agree
      simp (disch := omega) only [h4, eq_f, nm_q, bs_q, ↓reduceIte, i_0, i_1, i_400]
      refine lpF (fun n (s : Int32 × Int32) => lp_X10_agree_24 (Int32.ofNat m) (upm μ' 0 12 0 (Int32.ofNat 0)) n s.1 s.2) (fun k => (Int32.ofNat (sm k (fun k => if s2 (μ 0 13) k = 1 then 0 else 1)), Int32.ofNat k)) m _ (fun k hk n => ?_) (fun n => ?_) 4096 (by omega)
      · show lp_X10_agree_24 _ _ _ _ _ = lp_X10_agree_24 _ _ _ _ _
        have h0 : ∀ d, f_X10_isSaturday (upm μ' 0 12 0 (Int32.ofNat 0)) (Int32.ofNat 0) d = some (bI (satI (μ 0 13) 0 d)) := fun d => r_isSat (th_row _ e) (by decide) d
        have h1 : ∀ d, f_X10_isSaturday (upm μ' 0 12 0 (Int32.ofNat 0)) (Int32.ofNat 1) d = some (bI (satI (μ 0 13) 1 d)) := fun d => r_isSat (th_row _ e) (by decide) d
        simp (disch := omega) only [lp_X10_agree_24, h0, h1, th_row _ e, nm_q, bs_q, on_a, on_m, on_t, ix_on, le_t, le_f, lt_t, lt_f, eq_t, eq_f, ite_b0, ite_b1, ↓reduceIte, i_0, i_1, i_2, i_3, i_4, i_5, i_6, i_7, i_8, i_9, i_10, i_11, i_12, i_13, i_14, i_15, i_16, i_18, i_20, i_22, i_24, i_30, i_31, i_32, i_40, i_48, i_50, i_51, i_52, i_57, i_60, i_64, i_65, i_66, i_67, i_97, i_99, i_100, i_122, i_239, i_240, i_255, i_256, i_304, i_400, i_401, i_704, i_999, i_1000, i_2304, i_3344, i_3648, i_4096, i_9999, i_32767, upm_at, bk_b]
        rw [sm_s]
        unfold s2 b2n
        cases satI (μ 0 13) 0 (μ 0 13 10 + Int32.ofNat k) <;> cases satI (μ 0 13) 1 (μ 0 13 10 + Int32.ofNat k) <;> rfl
      · show lp_X10_agree_24 _ _ _ _ _ = _
        simp (disch := omega) only [lp_X10_agree_24, nm_q, bs_q, on_a, on_m, on_t, ix_on, le_t, le_f, lt_t, lt_f, eq_t, eq_f, ite_b0, ite_b1, ↓reduceIte, i_0, i_1, i_2, i_3, i_4, i_5, i_6, i_7, i_8, i_9, i_10, i_11, i_12, i_13, i_14, i_15, i_16, i_18, i_20, i_22, i_24, i_30, i_31, i_32, i_40, i_48, i_50, i_51, i_52, i_57, i_60, i_64, i_65, i_66, i_67, i_97, i_99, i_100, i_122, i_239, i_240, i_255, i_256, i_304, i_400, i_401, i_704, i_999, i_1000, i_2304, i_3344, i_3648, i_4096, i_9999, i_32767]
  · refine AgT.q R 1 1 0 0 (by decide) ?_ (fun μ' V' e => ?_) (fun h => by cases h)
    · unfold f_X9_agree
      simp (disch := omega) only [h3, nm_q, bs_q, on_a, on_m, on_t, ix_on, le_t, le_f, lt_t, lt_f, eq_t, eq_f, ite_b0, ite_b1, ↓reduceIte, i_0, i_1, i_2, i_3, i_4, i_5, i_6, i_7, i_8, i_9, i_10, i_11, i_12, i_13, i_14, i_15, i_16, i_18, i_20, i_22, i_24, i_30, i_31, i_32, i_40, i_48, i_50, i_51, i_52, i_57, i_60, i_64, i_65, i_66, i_67, i_97, i_99, i_100, i_122, i_239, i_240, i_255, i_256, i_304, i_400, i_401, i_704, i_999, i_1000, i_2304, i_3344, i_3648, i_4096, i_9999, i_32767]
    · unfold f_X10_agree
      simp (disch := omega) only [h4, nm_q, bs_q, ↓reduceIte, i_0, i_1, i_400]
      by_cases hp : a ≤ Int32.ofNat 0
      · rw [show (4096 : Nat) = 4095 + 1 from rfl, lp_X10_agree_24, if_pos hp] <;> rfl
      · rw [show (4096 : Nat) = 4095 + 1 from rfl, lp_X10_agree_24, if_neg hp, upm_at, if_neg (by decide)] <;> rfl
theorem e_X9_both (μ : Mem) : f_X9_both μ = lp_X9_both_2 μ 4096 0 := by
  unfold f_X9_both
  rfl
theorem e_X10_both (μ : Mem) : f_X10_both μ = lp_X10_both_7 (upm μ 0 12 0 0) 4096 0 := by
  unfold f_X10_both
  rw [nm_q]
theorem q_both {μ : Mem} (R : Rel μ) : AgQ (f_X9_both μ) (f_X10_both μ) := by
  have V := R.V
  have H : HC (μ (0 + 1)) (μ 0 13) := R.H
  refine AgQ.a R ?_
  rw [e_X9_both, e_X10_both]
  refine (lpJ (fun n (s : Int32) => lp_X9_both_2 μ n s) (fun n (s : Int32) => lp_X10_both_7 (upm μ 0 12 0 0) n s) (AQ (upm μ 0 12 0 0)) (fun k s s' => s = Int32.ofNat k ∧ s' = Int32.ofNat k) 401 ?_ 4096 4096 0 0 (by decide) (by decide) ⟨rfl, rfl⟩)
  rintro k s s' hk ⟨rfl, rfl⟩ n n'
  by_cases h8 : k = 401
  · left
    subst h8
    exact ⟨-1, by rw [lp_X9_both_2, if_pos (by decide)], by rw [lp_X10_both_7, if_pos (by decide)]⟩
  · have h2 := s2_le (μ 0 13) k
    have h0 : ∀ d, f_X10_isSaturday (upm μ 0 12 0 (Int32.ofNat 0)) (Int32.ofNat 0) d = some (bI (satI (μ 0 13) 0 d)) := fun d => r_isSat (up0 _ _) (by decide) d
    have h1 : ∀ d, f_X10_isSaturday (upm μ 0 12 0 (Int32.ofNat 0)) (Int32.ofNat 1) d = some (bI (satI (μ 0 13) 1 d)) := fun d => r_isSat (up0 _ _) (by decide) d
    by_cases h3 : s2 (μ 0 13) k = 2
    · left
      refine ⟨Int32.ofNat k, ?_, ?_⟩
      · simp (disch := omega) only [lp_X9_both_2, c_satAt H, nm_q, bs_q, on_a, on_m, on_t, ix_on, le_t, le_f, lt_t, lt_f, eq_t, eq_f, ite_b0, ite_b1, ↓reduceIte, i_0, i_1, i_2, i_3, i_4, i_5, i_6, i_7, i_8, i_9, i_10, i_11, i_12, i_13, i_14, i_15, i_16, i_18, i_20, i_22, i_24, i_30, i_31, i_32, i_40, i_48, i_50, i_51, i_52, i_57, i_60, i_64, i_65, i_66, i_67, i_97, i_99, i_100, i_122, i_239, i_240, i_255, i_256, i_304, i_400, i_401, i_704, i_999, i_1000, i_2304, i_3344, i_3648, i_4096, i_9999, i_32767]
      · simp (disch := omega) only [lp_X10_both_7, h0, h1, up0, nm_q, bs_q, on_a, on_m, on_t, ix_on, le_t, le_f, lt_t, lt_f, eq_t, eq_f, ite_b0, ite_b1, ↓reduceIte, i_0, i_1, i_2, i_3, i_4, i_5, i_6, i_7, i_8, i_9, i_10, i_11, i_12, i_13, i_14, i_15, i_16, i_18, i_20, i_22, i_24, i_30, i_31, i_32, i_40, i_48, i_50, i_51, i_52, i_57, i_60, i_64, i_65, i_66, i_67, i_97, i_99, i_100, i_122, i_239, i_240, i_255, i_256, i_304, i_400, i_401, i_704, i_999, i_1000, i_2304, i_3344, i_3648, i_4096, i_9999, i_32767]
        unfold s2 b2n at h3
        cases e0 : satI (μ 0 13) 0 (μ 0 13 10 + Int32.ofNat k) <;> cases e1 : satI (μ 0 13) 1 (μ 0 13 10 + Int32.ofNat k) <;> rw [e0, e1] at h3 <;> first | rfl | (exfalso; revert h3; decide)
    · right
      refine ⟨by omega, Int32.ofNat (k + 1), Int32.ofNat (k + 1), ⟨rfl, rfl⟩, ?_, ?_⟩
      · simp (disch := omega) only [lp_X9_both_2, c_satAt H, nm_q, bs_q, on_a, on_m, on_t, ix_on, le_t, le_f, lt_t, lt_f, eq_t, eq_f, ite_b0, ite_b1, ↓reduceIte, i_0, i_1, i_2, i_3, i_4, i_5, i_6, i_7, i_8, i_9, i_10, i_11, i_12, i_13, i_14, i_15, i_16, i_18, i_20, i_22, i_24, i_30, i_31, i_32, i_40, i_48, i_50, i_51, i_52, i_57, i_60, i_64, i_65, i_66, i_67, i_97, i_99, i_100, i_122, i_239, i_240, i_255, i_256, i_304, i_400, i_401, i_704, i_999, i_1000, i_2304, i_3344, i_3648, i_4096, i_9999, i_32767]
      · simp (disch := omega) only [lp_X10_both_7, h0, h1, up0, nm_q, bs_q, on_a, on_m, on_t, ix_on, le_t, le_f, lt_t, lt_f, eq_t, eq_f, ite_b0, ite_b1, ↓reduceIte, i_0, i_1, i_2, i_3, i_4, i_5, i_6, i_7, i_8, i_9, i_10, i_11, i_12, i_13, i_14, i_15, i_16, i_18, i_20, i_22, i_24, i_30, i_31, i_32, i_40, i_48, i_50, i_51, i_52, i_57, i_60, i_64, i_65, i_66, i_67, i_97, i_99, i_100, i_122, i_239, i_240, i_255, i_256, i_304, i_400, i_401, i_704, i_999, i_1000, i_2304, i_3344, i_3648, i_4096, i_9999, i_32767]
        unfold s2 b2n at h3
        cases e0 : satI (μ 0 13) 0 (μ 0 13 10 + Int32.ofNat k) <;> cases e1 : satI (μ 0 13) 1 (μ 0 13 10 + Int32.ofNat k) <;> rw [e0, e1] at h3 <;> first | rfl | (exfalso; revert h3; decide)
