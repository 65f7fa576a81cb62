/-! ===== the reference's turns ===== -/
def qf (i : Nat) : Bool := (i == 9) || (i == 10) || (i == 11) || (i == 13) || (i == 15) || (i == 16) || (i == 17)
/-- what the reference's ways leave as it is -/
def FQ (μ μ' : Mem) : Prop := (∀ g j, ¬ (g = 0 ∧ (j = 12 ∨ j = 13 ∨ j = 18)) → μ' g j = μ g j) ∧ (∀ i, qf i = false → μ' 0 12 i = μ 0 12 i) ∧ (BQ μ → BQ μ')
theorem FQ.refl (μ : Mem) : FQ μ μ := ⟨fun _ _ _ => rfl, fun _ _ => rfl, id⟩
theorem FQ.trans {μ μ1 μ2 : Mem} (h : FQ μ μ1) (h2 : FQ μ1 μ2) : FQ μ μ2 := ⟨fun g j hg => (h2.1 g j hg).trans (h.1 g j hg), fun i hi => (h2.2.1 i hi).trans (h.2.1 i hi), fun H => h2.2.2 (h.2.2 H)⟩
theorem FQ.row {μ μ' : Mem} (h : FQ μ μ') (i : Nat) (v : Int32) : FQ μ (upm μ' 0 13 i v) := ⟨fun g j hg => by rw [upm_ne (by omega)]; exact h.1 g j hg, fun k hk => by rw [upm_ne (by omega)]; exact h.2.1 k hk, fun H => (h.2.2 H).cg (upm_ne (by omega))⟩
def HVx (ev : Row → Int32) (r : Row) : Prop := ∃ c, HV ev c r
theorem HVx.V {ev : Row → Int32} {r : Row} (H : HVx ev r) : Vr r := by
  obtain ⟨c, h⟩ := H
  exact h.1
theorem of_18 (ν : Mem) (k : Nat) (v a w : Int32) : f_X10_of (upm ν 0 18 k v) a w = f_X10_of ν a w := by
  unfold f_X10_of
  rw [upm_ne (by omega)]
theorem of_12 (ν : Mem) (k : Nat) (v a w : Int32) : f_X10_of (upm ν 0 12 k v) a w = f_X10_of ν a w := by
  unfold f_X10_of
  rw [upm_ne (by omega)]
theorem sat_18 (ν : Mem) (k : Nat) (v a w : Int32) : f_X10_isSaturday (upm ν 0 18 k v) a w = f_X10_isSaturday ν a w := by
  unfold f_X10_isSaturday
  rw [upm_ne (by omega)]
theorem sat_12 (ν : Mem) (k : Nat) (v a w : Int32) : f_X10_isSaturday (upm ν 0 12 k v) a w = f_X10_isSaturday ν a w := by
  unfold f_X10_isSaturday
  rw [upm_ne (by omega)]
set_option maxHeartbeats 4000000 in
theorem r_turns {ev : Row → Int32} {μ : Mem} (HX : HVx ev (μ 0 13)) {g : Nat} (hg : g < nv (μ 0 13) 3) : ∃ μ', f_X10_turnsBy μ (Int32.ofNat g) = some (tnS ev (μ 0 13) g, μ') ∧ FQ μ μ' ∧ μ' 0 13 = μ 0 13 := by
  obtain ⟨c, HC0⟩ := HX
  have V := HC0.1
  have h8 := V.c8
  have hg8 : g < 8 := by omega
  have hr8 := V.rm8 hg8
  by_cases hn : μ 0 13 1 = -1
  · refine ⟨μ, ?_, FQ.refl μ, rfl⟩
    unfold f_X10_turnsBy tnS
    have hn' : μ 0 13 1 = -Int32.ofNat 1 := hn
    simp (disch := omega) only [hn', nm_q, bs_q, on_a, on_m, on_t, ix_on, le_t, le_f, lt_t, lt_f, eq_t, eq_f, ite_b0, ite_b1, ↓reduceIte, i_0, i_1, i_2, i_3, i_4, i_5, i_6, i_7, i_8, i_9, i_10, i_11, i_12, i_13, i_14, i_15, i_16, i_18, i_20, i_22, i_24, i_30, i_31, i_32, i_40, i_48, i_50, i_51, i_52, i_57, i_60, i_64, i_65, i_66, i_67, i_97, i_99, i_100, i_122, i_239, i_240, i_255, i_256, i_304, i_400, i_401, i_704, i_999, i_1000, i_2304, i_3344, i_3648, i_4096, i_9999, i_32767]
  · -- the memory behind what is noted of the guest
    have ex : ∃ ν : Mem, f_X10_turnsBy μ (Int32.ofNat g) = (f_X10_read ν 1).bind (fun q24 : Int32 × Mem => some ((upm q24.2 0 12 12 (μ 0 12 12)) 0 12 17, upm q24.2 0 12 12 (μ 0 12 12))) ∧ ((∀ g j, ¬ (g = 0 ∧ (j = 12 ∨ j = 13 ∨ j = 18)) → ν g j = (upm μ 0 12 12 (-1)) g j) ∧ ∀ i, qf i = false → ν 0 12 i = (upm μ 0 12 12 (-1)) 0 12 i) ∧ ν 0 13 = μ 0 13 ∧ ν 0 12 9 = 304 ∧ ν 0 12 10 = μ 0 13 2 ∧ ν 0 12 11 = 0 ∧ ν 0 12 13 = 0 ∧ ν 0 12 12 = -1 ∧ ν 0 12 17 = 0 ∧ (∃ b, ν 0 12 15 = bI b) ∧ (∃ b, ν 0 12 16 = bI b) ∧ ∀ i, i < 9 → factsQ ν i = factR (μ 0 13) g i := by
      let ν1 : Mem := upm (upm (upm (upm (upm (upm (upm μ 0 18 0 (Int32.ofNat g)) 0 18 1 (Int32.ofNat (rm (μ 0 13) g))) 0 18 2 (μ 0 13 (24 + 5 * g + 1))) 0 18 3 (μ 0 13 (24 + 5 * g + 2))) 0 18 4 (μ 0 13 8)) 0 18 5 (Int32.ofNat (pc (nv (μ 0 13) (16 + rm (μ 0 13) g))))) 0 18 6 (μ 0 13 10 / Int32.ofNat 7)
      have hν1 : ν1 = upm (upm (upm (upm (upm (upm (upm μ 0 18 0 (Int32.ofNat g)) 0 18 1 (Int32.ofNat (rm (μ 0 13) g))) 0 18 2 (μ 0 13 (24 + 5 * g + 1))) 0 18 3 (μ 0 13 (24 + 5 * g + 2))) 0 18 4 (μ 0 13 8)) 0 18 5 (Int32.ofNat (pc (nv (μ 0 13) (16 + rm (μ 0 13) g))))) 0 18 6 (μ 0 13 10 / Int32.ofNat 7) := rfl
      have hrow : ν1 0 13 = μ 0 13 := by
        rw [hν1]
        simp (disch := omega) only [upm_ne]
      have h12 : ν1 0 12 = μ 0 12 := by
        rw [hν1]
        simp (disch := omega) only [upm_ne]
      have st : f_X10_turnsBy μ (Int32.ofNat g) = (f_X10_read (upm (upm (upm (upm (upm (upm (upm (upm ν1 0 12 15 (bI (kyB (μ 0 13) g))) 0 12 16 (bI (satI (μ 0 13) (nv (μ 0 13) 5) (μ 0 13 10 + Int32.ofNat 1)))) 0 12 17 0) 0 12 12 (-1)) 0 12 9 304) 0 12 10 (μ 0 13 2)) 0 12 11 0) 0 12 13 0) 1).bind (fun q24 : Int32 × Mem => some ((upm q24.2 0 12 12 (μ 0 12 12)) 0 12 17, upm q24.2 0 12 12 (μ 0 12 12))) := by
        have hn' : ¬ μ 0 13 1 = -Int32.ofNat 1 := hn
        have hsat : f_X10_isSaturday μ (Int32.ofNat (nv (μ 0 13) 5)) (μ 0 13 10 + Int32.ofNat 1) = some (bI (satI (μ 0 13) (nv (μ 0 13) 5) (μ 0 13 10 + Int32.ofNat 1))) := r_isSat rfl V.b5 _
        have bk1 : ∀ E : Option (Int32 × Mem), bk (Int32.ofNat 1) E = E := fun E => rfl
        have bk0 : ∀ E : Option (Int32 × Mem), bk (Int32.ofNat 0) E = E := fun E => rfl
        by_cases hk : μ 0 13 (24 + 5 * g + 3) = Int32.ofNat 1
        · have hky : kyB (μ 0 13) g = true := decide_eq_true hk
          rw [hky, hν1]
          unfold f_X10_turnsBy
          simp (disch := omega) only [hn', of_18, of_12, sat_18, sat_12, r_of, Nat.add_zero, V.rme hg8, V.he hr8, bits_b _ (V.hb hr8), V.e5, hsat, hk, bk1, bk0, bk_b, upm_ne, upm_n3, upm_at, bI_t, nm_q, bs_q, on_a, on_m, on_t, ix_on, le_t, le_f, lt_t, lt_f, eq_t, eq_f, ite_b0, ite_b1, ↓reduceIte, i_0, i_1, i_2, i_3, i_4, i_5, i_6, i_7, i_8, i_9, i_10, i_11, i_12, i_13, i_14, i_15, i_16, i_18, i_20, i_22, i_24, i_30, i_31, i_32, i_40, i_48, i_50, i_51, i_52, i_57, i_60, i_64, i_65, i_66, i_67, i_97, i_99, i_100, i_122, i_239, i_240, i_255, i_256, i_304, i_400, i_401, i_704, i_999, i_1000, i_2304, i_3344, i_3648, i_4096, i_9999, i_32767]
        · have hky : kyB (μ 0 13) g = false := decide_eq_false hk
          rw [hky, hν1]
          unfold f_X10_turnsBy
          simp (disch := omega) only [hn', of_18, of_12, sat_18, sat_12, r_of, Nat.add_zero, V.rme hg8, V.he hr8, bits_b _ (V.hb hr8), V.e5, hsat, hk, bk1, bk0, bk_b, upm_ne, upm_n3, upm_at, bI_f, nm_q, bs_q, on_a, on_m, on_t, ix_on, le_t, le_f, lt_t, lt_f, eq_t, eq_f, ite_b0, ite_b1, ↓reduceIte, i_0, i_1, i_2, i_3, i_4, i_5, i_6, i_7, i_8, i_9, i_10, i_11, i_12, i_13, i_14, i_15, i_16, i_18, i_20, i_22, i_24, i_30, i_31, i_32, i_40, i_48, i_50, i_51, i_52, i_57, i_60, i_64, i_65, i_66, i_67, i_97, i_99, i_100, i_122, i_239, i_240, i_255, i_256, i_304, i_400, i_401, i_704, i_999, i_1000, i_2304, i_3344, i_3648, i_4096, i_9999, i_32767]
      refine ⟨_, st, ⟨fun a j hg => ?_, fun i hi => ?_⟩, ?_, ?_, ?_, ?_, ?_, ?_, ?_, ⟨kyB (μ 0 13) g, ?_⟩, ⟨satI (μ 0 13) (nv (μ 0 13) 5) (μ 0 13 10 + Int32.ofNat 1), ?_⟩, fun i hi => ?_⟩
      · have h1 : ¬ (a = 0 ∧ j = 12) := by omega
        have h2 : ¬ (a = 0 ∧ j = 18) := by omega
        rw [hν1]
        simp only [upm_ne h1, upm_ne h2]
      · have hne : i ≠ 9 ∧ i ≠ 10 ∧ i ≠ 11 ∧ i ≠ 13 ∧ i ≠ 15 ∧ i ≠ 16 ∧ i ≠ 17 := by
          unfold qf at hi
          simp only [Bool.or_eq_false_iff, beq_eq_false_iff_ne] at hi
          omega
        by_cases h12i : i = 12
        · subst h12i
          simp (disch := omega) only [upm_n3, upm_at]
        · simp (disch := omega) only [upm_n3]
          rw [h12]
      · simp (disch := omega) only [upm_ne]
        exact hrow
      · simp (disch := omega) only [upm_n3, upm_at]
      · simp (disch := omega) only [upm_n3, upm_at]
      · simp (disch := omega) only [upm_n3, upm_at]
      · simp (disch := omega) only [upm_at]
      · simp (disch := omega) only [upm_n3, upm_at]
      · simp (disch := omega) only [upm_n3, upm_at]
      · simp (disch := omega) only [upm_n3, upm_at]
      · simp (disch := omega) only [upm_n3, upm_at]
      · unfold factsQ
        rw [hν1]
        rcases (show i = 0 ∨ i = 1 ∨ i = 2 ∨ i = 3 ∨ i = 4 ∨ i = 5 ∨ i = 6 ∨ i = 7 ∨ i = 8 by omega) with rfl | rfl | rfl | rfl | rfl | rfl | rfl | rfl | rfl <;> simp (disch := omega) only [upm_at, upm_n3, ↓reduceIte, Nat.reduceLT, Nat.reduceEqDiff] <;> first | rfl | exact (V.rme hg8).symm
    obtain ⟨ν, s1, s2, s3, s4, s5, s6, s7, s8, s9, s10, s11, s12⟩ := ex
    obtain ⟨v, μ', m1, m2, m3⟩ := HC0.2.2.2.2 hn ν (fun i _ _ => by rw [s3]) s4 s5 s6 s7 s8 s10 s11
    obtain ⟨len, d1, d2, d3⟩ := HC0.2.2.2.1.2 hn
    refine ⟨upm μ' 0 12 12 (μ 0 12 12), ?_, ⟨fun a j hg => ?_, fun i hi => ?_, fun _ => ?_⟩, ?_⟩
    · rw [s1, m1]
      simp only [bs_q]
      rw [upm_n3 (by omega), m2, s9]
      unfold tnS
      rw [if_neg hn, d3.1 _ (factR (μ 0 13) g) s12]
      congr 2
      exact Int32.zero_add _
    · rw [upm_ne (by omega)]
      funext k
      rw [m3 a j k (by omega), s2.1 a j hg, upm_ne (by omega)]
    · by_cases h12i : i = 12
      · rw [h12i, upm_at]
      · have hne : i ≠ 9 ∧ i ≠ 10 ∧ i ≠ 11 ∧ i ≠ 13 ∧ i ≠ 15 ∧ i ≠ 16 ∧ i ≠ 17 := by
          unfold qf at hi
          simp only [Bool.or_eq_false_iff, beq_eq_false_iff_ne] at hi
          omega
        rw [upm_n3 (by omega), m3 0 12 i (by omega), s2.2 i hi, upm_n3 (by omega)]
    · obtain ⟨c1, q1⟩ := s10
      obtain ⟨c2, q2⟩ := s11
      exact ⟨⟨c1, by rw [upm_n3 (by omega), m3 0 12 15 (by omega), q1]⟩, c2, by rw [upm_n3 (by omega), m3 0 12 16 (by omega), q2]⟩
    · rw [upm_ne (by omega)]
      funext k
      rw [m3 0 13 k (by omega), s3]
