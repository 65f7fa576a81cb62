/-! ===== what is ahead, answered alike ===== -/
theorem FQ.S {μ μ' : Mem} (h : FQ μ μ') (hr : μ' 0 13 = μ 0 13) : FrW μ μ' := ⟨fun g j i hs hn => by
  by_cases h13 : g = 0 ∧ j = 13
  · rw [h13.1, h13.2, hr]
  · by_cases h18 : g = 0 ∧ j = 18
    · rw [h18.1, h18.2] at hs
      cases hs
    · by_cases h12 : g = 0 ∧ j = 12
      · rw [h12.1, h12.2]
        rw [h12.1, h12.2] at hs
        refine h.2.1 i ?_
        unfold scr at hs
        unfold qf
        simp only [Bool.or_eq_false_iff, beq_eq_false_iff_ne, Bool.and_eq_false_iff, decide_eq_false_iff_not] at hs ⊢
        omega
      · rw [h.1 g j (by omega)], h.2.2⟩
theorem FQ.up {μ μ' : Mem} (h : FQ μ μ') : μ' 0 22 = μ 0 22 ∧ μ' 0 12 0 = μ 0 12 0 := ⟨h.1 0 22 (by omega), h.2.1 0 rfl⟩
/-- only the houses' cells that are held for a while, and the draft, are changed -/
theorem frs_cls {μ μ' : Mem} (h2 : ∀ g, g ≠ 2 → μ' g = μ g) : FrS μ μ' := fun g j i hs => by
  by_cases e : g = 2
  · subst e
    cases hs
  · rw [h2 g e]
theorem q_guest {μ : Mem} (R : Rel μ) (a b : Int32) : AgT [(0, 0), (3, 1), (4, 2)] (f_X9_guest μ a b) (fun μ' => f_X10_guest μ' a b) := by
  obtain ⟨ev, HV0, T⟩ := R.ex
  have V := R.V
  have H : HC (μ (0 + 1)) (μ 0 13) := R.H
  have h8 := V.c8
  rcases guest_cases R.H V a with ⟨g, hg, rfl, h1, h2⟩ | ⟨h1, h2⟩
  · have hg8 : g < 8 := by omega
    rcases in_cases b 0 8 (by decide) (by decide) with ⟨w, -, hw, rfl⟩ | ⟨h3, h4⟩
    · rcases (show w = 0 ∨ w = 1 ∨ w = 2 ∨ w = 3 ∨ w = 4 ∨ w = 5 ∨ w = 6 ∨ w = 7 ∨ w = 8 by omega) with rfl | rfl | rfl | rfl | rfl | rfl | rfl | rfl | rfl
      · refine AgT.q R 0 0 (μ 0 13 (24 + 5 * g + 0)) _ (by decide) ?_ (fun μ' V' e => ?_) (fun _ => rfl)
        · unfold f_X9_guest
          simp (disch := omega) only [h1, c_room hg8, (H.g hg).1, Nat.add_zero, nm_q, bs_q, on_a, on_m, on_t, ix_on, le_t, le_f, lt_t, lt_f, eq_t, eq_f, ite_b0, ite_b1, ↓reduceIte, i_0, i_1, i_2, i_3, i_4, i_5, i_6, i_7, i_8, i_9, i_10, i_11, i_12, i_13, i_14, i_15, i_16, i_18, i_20, i_22, i_24, i_30, i_31, i_32, i_40, i_48, i_50, i_51, i_52, i_57, i_60, i_64, i_65, i_66, i_67, i_97, i_99, i_100, i_122, i_239, i_240, i_255, i_256, i_304, i_400, i_401, i_704, i_999, i_1000, i_2304, i_3344, i_3648, i_4096, i_9999, i_32767]
        · unfold f_X10_guest
          simp (disch := omega) only [h2 _ e, isIn_t, R_of (th_row _ e) hg8, nm_q, bs_q, on_a, on_m, on_t, ix_on, le_t, le_f, lt_t, lt_f, eq_t, eq_f, ite_b0, ite_b1, ↓reduceIte, i_0, i_1, i_2, i_3, i_4, i_5, i_6, i_7, i_8, i_9, i_10, i_11, i_12, i_13, i_14, i_15, i_16, i_18, i_20, i_22, i_24, i_30, i_31, i_32, i_40, i_48, i_50, i_51, i_52, i_57, i_60, i_64, i_65, i_66, i_67, i_97, i_99, i_100, i_122, i_239, i_240, i_255, i_256, i_304, i_400, i_401, i_704, i_999, i_1000, i_2304, i_3344, i_3648, i_4096, i_9999, i_32767, upm_at, bk_b]
      · refine AgT.q R 0 0 (μ 0 13 (24 + 5 * g + 1)) _ (by decide) ?_ (fun μ' V' e => ?_) (fun _ => rfl)
        · unfold f_X9_guest
          simp (disch := omega) only [h1, c_wish hg8, (H.g hg).2.1, nm_q, bs_q, on_a, on_m, on_t, ix_on, le_t, le_f, lt_t, lt_f, eq_t, eq_f, ite_b0, ite_b1, ↓reduceIte, i_0, i_1, i_2, i_3, i_4, i_5, i_6, i_7, i_8, i_9, i_10, i_11, i_12, i_13, i_14, i_15, i_16, i_18, i_20, i_22, i_24, i_30, i_31, i_32, i_40, i_48, i_50, i_51, i_52, i_57, i_60, i_64, i_65, i_66, i_67, i_97, i_99, i_100, i_122, i_239, i_240, i_255, i_256, i_304, i_400, i_401, i_704, i_999, i_1000, i_2304, i_3344, i_3648, i_4096, i_9999, i_32767]
        · unfold f_X10_guest
          simp (disch := omega) only [h2 _ e, isIn_t, R_of (th_row _ e) hg8, nm_q, bs_q, on_a, on_m, on_t, ix_on, le_t, le_f, lt_t, lt_f, eq_t, eq_f, ite_b0, ite_b1, ↓reduceIte, i_0, i_1, i_2, i_3, i_4, i_5, i_6, i_7, i_8, i_9, i_10, i_11, i_12, i_13, i_14, i_15, i_16, i_18, i_20, i_22, i_24, i_30, i_31, i_32, i_40, i_48, i_50, i_51, i_52, i_57, i_60, i_64, i_65, i_66, i_67, i_97, i_99, i_100, i_122, i_239, i_240, i_255, i_256, i_304, i_400, i_401, i_704, i_999, i_1000, i_2304, i_3344, i_3648, i_4096, i_9999, i_32767, upm_at, bk_b]
      · refine AgT.q R 0 0 (μ 0 13 (24 + 5 * g + 2)) _ (by decide) ?_ (fun μ' V' e => ?_) (fun _ => rfl)
        · unfold f_X9_guest
          simp (disch := omega) only [h1, c_doubt hg8, (H.g hg).2.2, nm_q, bs_q, on_a, on_m, on_t, ix_on, le_t, le_f, lt_t, lt_f, eq_t, eq_f, ite_b0, ite_b1, ↓reduceIte, i_0, i_1, i_2, i_3, i_4, i_5, i_6, i_7, i_8, i_9, i_10, i_11, i_12, i_13, i_14, i_15, i_16, i_18, i_20, i_22, i_24, i_30, i_31, i_32, i_40, i_48, i_50, i_51, i_52, i_57, i_60, i_64, i_65, i_66, i_67, i_97, i_99, i_100, i_122, i_239, i_240, i_255, i_256, i_304, i_400, i_401, i_704, i_999, i_1000, i_2304, i_3344, i_3648, i_4096, i_9999, i_32767]
        · unfold f_X10_guest
          simp (disch := omega) only [h2 _ e, isIn_t, R_of (th_row _ e) hg8, nm_q, bs_q, on_a, on_m, on_t, ix_on, le_t, le_f, lt_t, lt_f, eq_t, eq_f, ite_b0, ite_b1, ↓reduceIte, i_0, i_1, i_2, i_3, i_4, i_5, i_6, i_7, i_8, i_9, i_10, i_11, i_12, i_13, i_14, i_15, i_16, i_18, i_20, i_22, i_24, i_30, i_31, i_32, i_40, i_48, i_50, i_51, i_52, i_57, i_60, i_64, i_65, i_66, i_67, i_97, i_99, i_100, i_122, i_239, i_240, i_255, i_256, i_304, i_400, i_401, i_704, i_999, i_1000, i_2304, i_3344, i_3648, i_4096, i_9999, i_32767, upm_at, bk_b]
      · have hb : nv (μ 0 13) (24 + 5 * g + 3) ≤ 1 := V.gb hg8 3 (by decide)
        have ek : μ 0 13 (24 + 5 * g + 3) = bI (kyB (μ 0 13) g) := by
          unfold kyB
          rw [V.ge hg8 3 (by decide)]
          rcases (show nv (μ 0 13) (24 + 5 * g + 3) = 0 ∨ nv (μ 0 13) (24 + 5 * g + 3) = 1 by omega) with h | h <;> rw [h] <;> rfl
        refine AgT.q R 0 0 (bI (kyB (μ 0 13) g)) _ (by decide) ?_ (fun μ' V' e => ?_) (fun _ => rfl)
        · unfold f_X9_guest
          simp (disch := omega) only [h1, c_key (h := 0) H V hg, nm_q, bs_q, on_a, on_m, on_t, ix_on, le_t, le_f, lt_t, lt_f, eq_t, eq_f, ite_b0, ite_b1, ↓reduceIte, i_0, i_1, i_2, i_3, i_4, i_5, i_6, i_7, i_8, i_9, i_10, i_11, i_12, i_13, i_14, i_15, i_16, i_18, i_20, i_22, i_24, i_30, i_31, i_32, i_40, i_48, i_50, i_51, i_52, i_57, i_60, i_64, i_65, i_66, i_67, i_97, i_99, i_100, i_122, i_239, i_240, i_255, i_256, i_304, i_400, i_401, i_704, i_999, i_1000, i_2304, i_3344, i_3648, i_4096, i_9999, i_32767]
          cases kyB (μ 0 13) g <;> rfl
        · unfold f_X10_guest
          simp (disch := omega) only [h2 _ e, isIn_t, R_of (th_row _ e) hg8, ek, nm_q, bs_q, on_a, on_m, on_t, ix_on, le_t, le_f, lt_t, lt_f, eq_t, eq_f, ite_b0, ite_b1, ↓reduceIte, i_0, i_1, i_2, i_3, i_4, i_5, i_6, i_7, i_8, i_9, i_10, i_11, i_12, i_13, i_14, i_15, i_16, i_18, i_20, i_22, i_24, i_30, i_31, i_32, i_40, i_48, i_50, i_51, i_52, i_57, i_60, i_64, i_65, i_66, i_67, i_97, i_99, i_100, i_122, i_239, i_240, i_255, i_256, i_304, i_400, i_401, i_704, i_999, i_1000, i_2304, i_3344, i_3648, i_4096, i_9999, i_32767, upm_at, bk_b]
      · have hb : nv (μ 0 13) (24 + 5 * g + 4) ≤ 1 := V.gb hg8 4 (by decide)
        have ek : μ 0 13 (24 + 5 * g + 4) = bI (hrC (μ 0 13) g) := by
          unfold hrC hrB
          rw [V.ge hg8 4 (by decide), decide_eq_true hg, Bool.true_and]
          rcases (show nv (μ 0 13) (24 + 5 * g + 4) = 0 ∨ nv (μ 0 13) (24 + 5 * g + 4) = 1 by omega) with h | h <;> rw [h] <;> rfl
        refine AgT.q R 0 0 (bI (hrC (μ 0 13) g)) _ (by decide) ?_ (fun μ' V' e => ?_) (fun _ => rfl)
        · unfold f_X9_guest
          simp (disch := omega) only [h1, c_here (h := 0) H V hg8, nm_q, bs_q, on_a, on_m, on_t, ix_on, le_t, le_f, lt_t, lt_f, eq_t, eq_f, ite_b0, ite_b1, ↓reduceIte, i_0, i_1, i_2, i_3, i_4, i_5, i_6, i_7, i_8, i_9, i_10, i_11, i_12, i_13, i_14, i_15, i_16, i_18, i_20, i_22, i_24, i_30, i_31, i_32, i_40, i_48, i_50, i_51, i_52, i_57, i_60, i_64, i_65, i_66, i_67, i_97, i_99, i_100, i_122, i_239, i_240, i_255, i_256, i_304, i_400, i_401, i_704, i_999, i_1000, i_2304, i_3344, i_3648, i_4096, i_9999, i_32767]
          cases hrC (μ 0 13) g <;> rfl
        · unfold f_X10_guest
          simp (disch := omega) only [h2 _ e, isIn_t, R_of (th_row _ e) hg8, ek, nm_q, bs_q, on_a, on_m, on_t, ix_on, le_t, le_f, lt_t, lt_f, eq_t, eq_f, ite_b0, ite_b1, ↓reduceIte, i_0, i_1, i_2, i_3, i_4, i_5, i_6, i_7, i_8, i_9, i_10, i_11, i_12, i_13, i_14, i_15, i_16, i_18, i_20, i_22, i_24, i_30, i_31, i_32, i_40, i_48, i_50, i_51, i_52, i_57, i_60, i_64, i_65, i_66, i_67, i_97, i_99, i_100, i_122, i_239, i_240, i_255, i_256, i_304, i_400, i_401, i_704, i_999, i_1000, i_2304, i_3344, i_3648, i_4096, i_9999, i_32767, upm_at, bk_b]
      · refine AgT.q R 0 0 (Int32.ofNat (rkN (μ 0 13) g)) _ (by decide) ?_ (fun μ' V' e => ?_) (fun _ => rfl)
        · unfold f_X9_guest
          simp (disch := omega) only [h1, c_risk H V hg, nm_q, bs_q, on_a, on_m, on_t, ix_on, le_t, le_f, lt_t, lt_f, eq_t, eq_f, ite_b0, ite_b1, ↓reduceIte, i_0, i_1, i_2, i_3, i_4, i_5, i_6, i_7, i_8, i_9, i_10, i_11, i_12, i_13, i_14, i_15, i_16, i_18, i_20, i_22, i_24, i_30, i_31, i_32, i_40, i_48, i_50, i_51, i_52, i_57, i_60, i_64, i_65, i_66, i_67, i_97, i_99, i_100, i_122, i_239, i_240, i_255, i_256, i_304, i_400, i_401, i_704, i_999, i_1000, i_2304, i_3344, i_3648, i_4096, i_9999, i_32767]
        · unfold f_X10_guest
          simp (disch := omega) only [h2 _ e, isIn_t, R_risk (th_row _ e) V hg8, nm_q, bs_q, on_a, on_m, on_t, ix_on, le_t, le_f, lt_t, lt_f, eq_t, eq_f, ite_b0, ite_b1, ↓reduceIte, i_0, i_1, i_2, i_3, i_4, i_5, i_6, i_7, i_8, i_9, i_10, i_11, i_12, i_13, i_14, i_15, i_16, i_18, i_20, i_22, i_24, i_30, i_31, i_32, i_40, i_48, i_50, i_51, i_52, i_57, i_60, i_64, i_65, i_66, i_67, i_97, i_99, i_100, i_122, i_239, i_240, i_255, i_256, i_304, i_400, i_401, i_704, i_999, i_1000, i_2304, i_3344, i_3648, i_4096, i_9999, i_32767, upm_at, bk_b]
      · obtain ⟨μ1, a1, a2, a3⟩ := c_turns (h := 0) HV0 hg
        have f1 : FrS μ μ1 := fun g' j i hs => by
          by_cases e : g' = 1
          · subst e
            exact a3 j i hs
          · rw [a2 g' e]
        have hX : HVx ev ((upm (upm μ1 0 22 0 (tnS ev (μ 0 13) g)) 0 12 0 0) 0 13) := by
          rw [upm_ne (by omega), upm_ne (by omega), f1.row]
          exact ⟨_, HV0⟩
        have er : (upm (upm μ1 0 22 0 (tnS ev (μ 0 13) g)) 0 12 0 0) 0 13 = μ 0 13 := by rw [upm_ne (by omega), upm_ne (by omega), f1.row]
        obtain ⟨μ6, b1, b2, b3⟩ := r_turns hX (by rw [er]; exact hg)
        rw [er] at b1
        refine AgT.ok (tnS ev (μ 0 13) g) μ1 (by decide) ?_ ⟨μ6, ?_, ?_, ?_, ?_⟩
        · unfold f_X9_guest
          simp (disch := omega) only [h1, a1, nm_q, bs_q, on_a, on_m, on_t, ix_on, le_t, le_f, lt_t, lt_f, eq_t, eq_f, ite_b0, ite_b1, ↓reduceIte, i_0, i_1, i_2, i_3, i_4, i_5, i_6, i_7, i_8, i_9, i_10, i_11, i_12, i_13, i_14, i_15, i_16, i_18, i_20, i_22, i_24, i_30, i_31, i_32, i_40, i_48, i_50, i_51, i_52, i_57, i_60, i_64, i_65, i_66, i_67, i_97, i_99, i_100, i_122, i_239, i_240, i_255, i_256, i_304, i_400, i_401, i_704, i_999, i_1000, i_2304, i_3344, i_3648, i_4096, i_9999, i_32767]
        · show f_X10_guest _ (Int32.ofNat g) (Int32.ofNat 6) = _
          unfold f_X10_guest
          have e0 : (upm μ1 0 22 0 (tnS ev (μ 0 13) g)) 0 13 = μ 0 13 := by rw [upm_ne (by omega), f1.row]
          rw [i_0] at b1
          simp (disch := omega) only [h2 _ e0, isIn_t, b1, nm_q, bs_q, on_a, on_m, on_t, ix_on, le_t, le_f, lt_t, lt_f, eq_t, eq_f, ite_b0, ite_b1, ↓reduceIte, i_0, i_1, i_2, i_3, i_4, i_5, i_6, i_7, i_8, i_9, i_10, i_11, i_12, i_13, i_14, i_15, i_16, i_18, i_20, i_22, i_24, i_30, i_31, i_32, i_40, i_48, i_50, i_51, i_52, i_57, i_60, i_64, i_65, i_66, i_67, i_97, i_99, i_100, i_122, i_239, i_240, i_255, i_256, i_304, i_400, i_401, i_704, i_999, i_1000, i_2304, i_3344, i_3648, i_4096, i_9999, i_32767, upm_at, bk_b]
        · rw [b2.up.2, upm_at]
        · rw [b2.up.1, upm_ne (by omega), upm_at]
        · exact R.fw (((f1.upm _ rfl).upm 0 rfl).w.trans (b2.S b3))
      · refine AgT.q R 0 0 (Int32.ofNat (mk 8 (seB (μ 0 13) g))) _ (by decide) ?_ (fun μ' V' e => ?_) (fun _ => rfl)
        · unfold f_X9_guest
          simp (disch := omega) only [h1, c_spies H V hg, nm_q, bs_q, on_a, on_m, on_t, ix_on, le_t, le_f, lt_t, lt_f, eq_t, eq_f, ite_b0, ite_b1, ↓reduceIte, i_0, i_1, i_2, i_3, i_4, i_5, i_6, i_7, i_8, i_9, i_10, i_11, i_12, i_13, i_14, i_15, i_16, i_18, i_20, i_22, i_24, i_30, i_31, i_32, i_40, i_48, i_50, i_51, i_52, i_57, i_60, i_64, i_65, i_66, i_67, i_97, i_99, i_100, i_122, i_239, i_240, i_255, i_256, i_304, i_400, i_401, i_704, i_999, i_1000, i_2304, i_3344, i_3648, i_4096, i_9999, i_32767]
        · unfold f_X10_guest
          simp (disch := omega) only [h2 _ e, isIn_t, nm_q, bs_q, on_a, on_m, on_t, ix_on, le_t, le_f, lt_t, lt_f, eq_t, eq_f, ite_b0, ite_b1, ↓reduceIte, i_0, i_1, i_2, i_3, i_4, i_5, i_6, i_7, i_8, i_9, i_10, i_11, i_12, i_13, i_14, i_15, i_16, i_18, i_20, i_22, i_24, i_30, i_31, i_32, i_40, i_48, i_50, i_51, i_52, i_57, i_60, i_64, i_65, i_66, i_67, i_97, i_99, i_100, i_122, i_239, i_240, i_255, i_256, i_304, i_400, i_401, i_704, i_999, i_1000, i_2304, i_3344, i_3648, i_4096, i_9999, i_32767, upm_at, bk_b]
          refine lpF (fun n (s : Int32 × Int32) => lp_X10_guest_120 (Int32.ofNat g) (upm μ' 0 12 0 (Int32.ofNat 0)) n s.1 s.2) (fun k => (Int32.ofNat (mk k (seB (μ 0 13) g)), Int32.ofNat k)) 8 _ (fun k hk n => ?_) (fun n => ?_) 4096 (by decide)
          · show lp_X10_guest_120 _ _ _ _ _ = lp_X10_guest_120 _ _ _ _ _
            simp (disch := omega) only [lp_X10_guest_120, R_sees (th_row _ e) V hg8 hk, nm_q, bs_q, on_a, on_m, on_t, ix_on, le_t, le_f, lt_t, lt_f, eq_t, eq_f, ite_b0, ite_b1, ↓reduceIte, i_0, i_1, i_2, i_3, i_4, i_5, i_6, i_7, i_8, i_9, i_10, i_11, i_12, i_13, i_14, i_15, i_16, i_18, i_20, i_22, i_24, i_30, i_31, i_32, i_40, i_48, i_50, i_51, i_52, i_57, i_60, i_64, i_65, i_66, i_67, i_97, i_99, i_100, i_122, i_239, i_240, i_255, i_256, i_304, i_400, i_401, i_704, i_999, i_1000, i_2304, i_3344, i_3648, i_4096, i_9999, i_32767, or_z]
            cases h5 : seB (μ 0 13) g k
            · rw [if_neg (by decide), or_mk0 (seB (μ 0 13) g) h5]
            · rw [if_pos rfl, or_mk hk (seB (μ 0 13) g) h5]
          · show lp_X10_guest_120 _ _ _ _ _ = _
            rw [lp_X10_guest_120, if_pos (show (8 : Int32) ≤ Int32.ofNat 8 by decide)]
      · have hd : dbH (μ 0 13) ≤ 792 := by
          unfold dbH
          have := sm_le (n := 8) (b := 99) (f := fun g => if hrC (μ 0 13) g = true then nv (μ 0 13) (24 + 5 * g + 2) else 0) (fun k hk => by
            have : nv (μ 0 13) (24 + 5 * k + 2) ≤ 99 := V.gb hk 2 (by decide)
            show (if hrC (μ 0 13) k = true then nv (μ 0 13) (24 + 5 * k + 2) else 0) ≤ 99
            split <;> omega)
          omega
        have hh : hrB (μ 0 13) g = hrC (μ 0 13) g := by
          unfold hrC
          rw [decide_eq_true hg, Bool.true_and]
        refine AgT.q R 0 0 (if dbH (μ 0 13) = 0 then Int32.ofNat 0 else if hrC (μ 0 13) g = true then Int32.ofNat 100 * μ 0 13 (24 + 5 * g + 2) / Int32.ofNat (dbH (μ 0 13)) else Int32.ofNat 0) _ (by decide) ?_ (fun μ' V' e => ?_) (fun _ => rfl)
        · unfold f_X9_guest f_X9_shareOf nz
          simp (disch := omega) only [h1, c_doubtHere H V, c_here (h := 0) H V hg8, c_doubt hg8, (H.g hg).2.2, nm_q, bs_q, on_a, on_m, on_t, ix_on, le_t, le_f, lt_t, lt_f, eq_t, eq_f, ite_b0, ite_b1, ↓reduceIte, i_0, i_1, i_2, i_3, i_4, i_5, i_6, i_7, i_8, i_9, i_10, i_11, i_12, i_13, i_14, i_15, i_16, i_18, i_20, i_22, i_24, i_30, i_31, i_32, i_40, i_48, i_50, i_51, i_52, i_57, i_60, i_64, i_65, i_66, i_67, i_97, i_99, i_100, i_122, i_239, i_240, i_255, i_256, i_304, i_400, i_401, i_704, i_999, i_1000, i_2304, i_3344, i_3648, i_4096, i_9999, i_32767]
          simp (disch := omega) only [on_le, on_eq]
          by_cases h0 : dbH (μ 0 13) = 0
          · rw [if_pos (by omega), if_pos h0]
            simp only [bs_q]
          · rw [if_neg (by omega), if_neg h0, if_neg h0]
            cases hrC (μ 0 13) g
            · rw [if_neg (by decide), if_neg (by decide)]
              simp only [bs_q]
            · rw [if_pos rfl, if_pos rfl]
              simp only [bs_q]
        · unfold f_X10_guest nz
          simp (disch := omega) only [h2 _ e, isIn_t, R_here (th_row _ e) hg8, R_doubts (th_row _ e) V, R_of (th_row _ e) hg8, hh, nm_q, bs_q, on_a, on_m, on_t, ix_on, le_t, le_f, lt_t, lt_f, eq_t, eq_f, ite_b0, ite_b1, ↓reduceIte, i_0, i_1, i_2, i_3, i_4, i_5, i_6, i_7, i_8, i_9, i_10, i_11, i_12, i_13, i_14, i_15, i_16, i_18, i_20, i_22, i_24, i_30, i_31, i_32, i_40, i_48, i_50, i_51, i_52, i_57, i_60, i_64, i_65, i_66, i_67, i_97, i_99, i_100, i_122, i_239, i_240, i_255, i_256, i_304, i_400, i_401, i_704, i_999, i_1000, i_2304, i_3344, i_3648, i_4096, i_9999, i_32767, upm_at, bk_b]
          simp (disch := omega) only [on_eq]
          cases hrC (μ 0 13) g
          · simp only [Bool.false_eq_true, ↓reduceIte, ite_self]
          · rw [if_pos rfl, if_pos rfl]
            by_cases h0 : dbH (μ 0 13) = 0
            · rw [if_pos h0, if_pos h0]
            · rw [if_neg h0, if_neg h0, if_neg h0]
    · have hne : ∀ k, k ≤ 8 → ¬ b = Int32.ofNat k := fun k hk h => by
        rw [h] at h3
        rcases h3 with h3 | ⟨-, h3⟩
        · rw [on_lt (by omega) (by omega)] at h3
          omega
        · rw [on_lt (by omega) (by omega)] at h3
          omega
      refine AgT.q R 4 2 0 0 (by decide) ?_ (fun μ' V' e => ?_) (fun h => by cases h)
      · unfold f_X9_guest
        simp (disch := omega) only [h1, hne 0, hne 1, hne 2, hne 3, hne 4, hne 5, hne 6, hne 7, hne 8, nm_q, bs_q, on_a, on_m, on_t, ix_on, le_t, le_f, lt_t, lt_f, eq_t, eq_f, ite_b0, ite_b1, ↓reduceIte, i_0, i_1, i_2, i_3, i_4, i_5, i_6, i_7, i_8, i_9, i_10, i_11, i_12, i_13, i_14, i_15, i_16, i_18, i_20, i_22, i_24, i_30, i_31, i_32, i_40, i_48, i_50, i_51, i_52, i_57, i_60, i_64, i_65, i_66, i_67, i_97, i_99, i_100, i_122, i_239, i_240, i_255, i_256, i_304, i_400, i_401, i_704, i_999, i_1000, i_2304, i_3344, i_3648, i_4096, i_9999, i_32767]
      · unfold f_X10_guest
        simp (disch := omega) only [h2 _ e, h4, nm_q, bs_q, on_a, on_m, on_t, ix_on, le_t, le_f, lt_t, lt_f, eq_t, eq_f, ite_b0, ite_b1, ↓reduceIte, i_0, i_1, i_2, i_3, i_4, i_5, i_6, i_7, i_8, i_9, i_10, i_11, i_12, i_13, i_14, i_15, i_16, i_18, i_20, i_22, i_24, i_30, i_31, i_32, i_40, i_48, i_50, i_51, i_52, i_57, i_60, i_64, i_65, i_66, i_67, i_97, i_99, i_100, i_122, i_239, i_240, i_255, i_256, i_304, i_400, i_401, i_704, i_999, i_1000, i_2304, i_3344, i_3648, i_4096, i_9999, i_32767, upm_at, bk_b]
  · refine AgT.q R 3 1 0 0 (by decide) ?_ (fun μ' V' e => ?_) (fun h => by cases h)
    · unfold f_X9_guest
      rw [h1, bs_q, if_pos (show Int32.ofNat 0 = 0 from rfl)]
    · unfold f_X10_guest
      rw [h2 _ e, bs_q, nm_q, if_pos (show Int32.ofNat 0 = 0 from rfl)]
      show nm (upm μ' 0 12 0 1) _ = _
      rw [nm_q, upm_at, if_neg (by decide)]
theorem FQ.R {μ μ' : Mem} (h : FQ μ μ') (hr : ∀ i, 304 ≤ i → μ' 0 13 i = μ 0 13 i) : ∀ g j i, scr g j i = false → g ≠ 1 → ¬ (g = 0 ∧ j = 13 ∧ i < 304) → ¬ (g = 0 ∧ j = 12 ∧ (i = 15 ∨ i = 16)) → μ' g j i = μ g j i := fun g j i hs _ hn hn2 => by
  by_cases h13 : g = 0 ∧ j = 13
  · obtain ⟨rfl, rfl⟩ := h13
    exact hr i (by omega)
  · by_cases h18 : g = 0 ∧ j = 18
    · obtain ⟨rfl, rfl⟩ := h18
      cases hs
    · by_cases h12 : g = 0 ∧ j = 12
      · obtain ⟨rfl, rfl⟩ := h12
        refine h.2.1 i ?_
        unfold scr at hs
        unfold qf
        simp only [Bool.or_eq_false_iff, beq_eq_false_iff_ne, Bool.and_eq_false_iff, decide_eq_false_iff_not] at hs ⊢
        omega
      · rw [h.1 g j (by omega)]
theorem lkA_hi {w : Nat} {r : Row} {i : Nat} (hi : 304 ≤ i) (k : Nat) (hk : k ≤ 8) : lkA w r k i = r i := by
  induction k with
  | zero => rfl
  | succ k ih =>
    show lkS w (lkA w r k) k i = r i
    unfold lkS
    split
    · split
      · rw [upd_ne (by omega)]
        exact ih (by omega)
      · unfold looksR logR
        rw [upd_ne (by omega), upd_ne (by omega), upd_ne (by omega), upd_ne (by omega), upd_ne (by omega), L1_ne (by omega), upd_ne (by omega), upd_ne (by omega), upd_ne (by omega)]
        exact ih (by omega)
    · exact ih (by omega)
theorem bdS_hi {r : Row} {i : Nat} (h7 : i ≠ 7) (h8 : i ≠ 8) : bdS r i = r i := by
  unfold bdS
  rw [upd_ne h7, upd_ne h8]
theorem brS_hi {r : Row} {i : Nat} (h : 304 ≤ i) : brS r i = r i := by
  unfold brS
  have hP : dvN (upd r 15 (drS r)) % 8 < 8 := Nat.mod_lt _ (by decide)
  split
  · rw [upd_ne (by omega)]
  · rw [upd_ne (by omega), upd_ne (by omega), upd_ne (by omega)]
theorem dyG_hi {ev : Row → Int32} {b : Bool} {r : Row} {i : Nat} (h : 304 ≤ i) : dyG ev b r i = r i := by
  unfold dyG
  split
  · unfold dyL dyS
    rw [upd_ne (by omega), brS_hi h, bdS_hi (by omega) (by omega)]
    unfold lkB2
    split
    · rw [lkA_hi h 8 (Nat.le_refl 8), tdA_ne 8 fun g hg => by omega]
    · rw [tdA_ne 8 fun g hg => by omega]
  · unfold dyF dyS
    rw [upd_ne (by omega), bdS_hi (by omega) (by omega), tdA_ne 8 fun g hg => by omega]
theorem itR_hi {ev : Row → Int32} {b : Bool} {r : Row} {i : Nat} (h : 304 ≤ i) (k : Nat) : itR (dyG ev b) r k i = r i := by
  induction k with
  | zero => rfl
  | succ k ih => exact (dyG_hi h).trans ih
theorem q_days {μ : Mem} (R : Rel μ) (a : Int32) : AgT [(0, 0), (1, 1)] (f_X9_days μ a) (fun μ' => f_X10_days μ' a) := by
  rcases in_cases a 1 60 (by decide) (by decide) with ⟨m, hm1, hm, rfl⟩ | ⟨h3, h4⟩
  · obtain ⟨ev, H, T⟩ := R.ex
    obtain ⟨μ1, a1, a2, a3, a4⟩ := remember H T
    have H1 : HV ev (μ1 (0 + 1)) (μ 0 13) := by
      show HV ev (μ1 1) _
      rw [a2]
      exact H
    obtain ⟨μ2, b1, b2, b3⟩ := c_live H1 (m := m) (by omega)
    obtain ⟨μ5, c1, c2, c3, c4⟩ := a4 (upm (upm μ2 0 22 0 (itR (dyL ev) (μ 0 13) m 11 - μ 0 13 11)) 0 12 0 0) (fun g j i hs hg => by
      rw [upm_n3 (by rintro ⟨rfl, rfl, rfl⟩; cases hs), upm_n3 (by rintro ⟨rfl, rfl, rfl⟩; cases hs), b3 g hg])
    have er : μ5 0 13 = μ 0 13 := by rw [c3 0 13 (by omega), upm_ne (by omega), upm_ne (by omega), b3 0 (by decide), a3]
    obtain ⟨μ6, d1, d2, d3, d4⟩ := r_goes (ev := ev) (μ := μ5) (by rw [er]; exact ⟨_, H⟩) true (m := m) (by omega)
    rw [er] at d1 d3
    have eg : dyG ev true = dyL ev := rfl
    rw [eg] at d1 d3
    refine AgT.ok (itR (dyL ev) (μ 0 13) m 11 - μ 0 13 11) μ2 (by decide) ?_ ⟨μ6, ?_, ?_, ?_, ?_⟩
    · unfold f_X9_days
      simp (disch := omega) only [a1, b1, nm_q, bs_q, on_a, on_m, on_t, ix_on, le_t, le_f, lt_t, lt_f, eq_t, eq_f, ite_b0, ite_b1, ↓reduceIte, i_0, i_1, i_2, i_3, i_4, i_5, i_6, i_7, i_8, i_9, i_10, i_11, i_12, i_13, i_14, i_15, i_16, i_18, i_20, i_22, i_24, i_30, i_31, i_32, i_40, i_48, i_50, i_51, i_52, i_57, i_60, i_64, i_65, i_66, i_67, i_97, i_99, i_100, i_122, i_239, i_240, i_255, i_256, i_304, i_400, i_401, i_704, i_999, i_1000, i_2304, i_3344, i_3648, i_4096, i_9999, i_32767]
    · show f_X10_days _ (Int32.ofNat m) = _
      unfold f_X10_days
      rw [bI_t] at d1
      rw [show f_X10_isIn (Int32.ofNat m) 1 60 = some (Int32.ofNat 1) from isIn_t hm1 hm (by decide)]
      simp only [bs_q, nm_q]
      rw [if_neg (by decide), upm_at, if_pos (by decide), c1]
      simp only [bs_q]
      rw [d1]
      simp only [bs_q]
    · rw [d2.up.2, c4 0 (by decide), upm_at]
    · rw [d2.up.1, c3 0 22 (by omega), upm_ne (by omega), upm_at]
    · refine Rel.mk (ev := ev) ?_ (c2.fw (d2.R fun i hi => by rw [d3, er, ← eg, itR_hi hi]) d2.2.2)
      · have e1 : μ6 1 = μ2 1 := funext fun j => by rw [d2.1 1 j (by omega), c3 1 j (by omega), upm_ng (by decide), upm_ng (by decide)]
        rw [d3, e1]
        exact b2
  · refine AgT.q R 1 1 0 0 (by decide) ?_ (fun μ' V' e => ?_) (fun h => by cases h)
    · unfold f_X9_days
      simp only [nm_q, i_1, i_60]
      rcases h3 with h3 | ⟨h3, h5⟩
      · rw [if_pos h3]
      · rw [if_neg h3, if_neg (by rw [Int32.not_le]; exact h5)]
    · unfold f_X10_days
      simp (disch := omega) only [h4, nm_q, bs_q, on_a, on_m, on_t, ix_on, le_t, le_f, lt_t, lt_f, eq_t, eq_f, ite_b0, ite_b1, ↓reduceIte, i_0, i_1, i_2, i_3, i_4, i_5, i_6, i_7, i_8, i_9, i_10, i_11, i_12, i_13, i_14, i_15, i_16, i_18, i_20, i_22, i_24, i_30, i_31, i_32, i_40, i_48, i_50, i_51, i_52, i_57, i_60, i_64, i_65, i_66, i_67, i_97, i_99, i_100, i_122, i_239, i_240, i_255, i_256, i_304, i_400, i_401, i_704, i_999, i_1000, i_2304, i_3344, i_3648, i_4096, i_9999, i_32767, upm_at, bk_b]
