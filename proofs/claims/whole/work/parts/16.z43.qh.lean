/-! ===== questions answered alike: the log, choices, ways ===== -/
theorem lg_b {r : Row} (V : Vr r) : r 14 = Int32.ofNat (nv r 14) ∧ nv r 14 ≤ 60 := ⟨V.e (i := 14) (by decide), V.b (i := 14) (by decide)⟩
set_option maxRecDepth 100000 in
theorem fm_b : ∀ nx, nx < 60 → ∀ ago, ago < 60 → f_J9_floorMod_7cf53 ((Int32.ofNat nx - Int32.ofNat 1) - Int32.ofNat ago) (Int32.ofNat 60) = some (Int32.ofNat ((nx + 59 - ago) % 60)) := by decide +kernel
theorem c_cell {μ : Mem} {r : Row} (V : Vr r) (B : BKr (μ (0 + 1)) r) {k w : Nat} (hk : k < nv r 14) (hw : w < 4) : f_X0_cell 0 μ (Int32.ofNat k) (Int32.ofNat w) = some (r (64 + 4 * k + w)) := by
  obtain ⟨b1, nx, b2, b3, b4⟩ := B
  have hl := lg_b V
  have hm : (nx + 59 - k) % 60 < 60 := Nat.mod_lt _ (by decide)
  have e1 : μ (0 + 1) 5 1 = Int32.ofNat (nv r 14) := b1.trans hl.1
  unfold f_X0_cell
  rw [e1, b3]
  simp (disch := omega) only [nm_q, bs_q, on_a, on_m, on_t, ix_on, le_t, le_f, lt_t, lt_f, eq_t, eq_f, ite_b0, ite_b1, ↓reduceIte, i_0, i_1, i_2, i_3, i_4, i_5, i_6, i_7, i_8, i_9, i_10, i_11, i_12, i_13, i_14, i_15, i_16, i_18, i_20, i_22, i_24, i_30, i_31, i_32, i_40, i_48, i_50, i_51, i_52, i_57, i_60, i_64, i_65, i_66, i_67, i_97, i_99, i_100, i_122, i_239, i_240, i_255, i_256, i_304, i_400, i_401, i_704, i_999, i_1000, i_2304, i_3344, i_3648, i_4096, i_9999, i_32767]
  rw [fm_b nx b2 k (by omega)]
  simp (disch := omega) only [nm_q, bs_q, on_a, on_m, on_t, ix_on, le_t, le_f, lt_t, lt_f, eq_t, eq_f, ite_b0, ite_b1, ↓reduceIte, i_0, i_1, i_2, i_3, i_4, i_5, i_6, i_7, i_8, i_9, i_10, i_11, i_12, i_13, i_14, i_15, i_16, i_18, i_20, i_22, i_24, i_30, i_31, i_32, i_40, i_48, i_50, i_51, i_52, i_57, i_60, i_64, i_65, i_66, i_67, i_97, i_99, i_100, i_122, i_239, i_240, i_255, i_256, i_304, i_400, i_401, i_704, i_999, i_1000, i_2304, i_3344, i_3648, i_4096, i_9999, i_32767]
  rw [b4 k hk w hw]
theorem c_cellN {μ : Mem} {r : Row} (V : Vr r) (B : BKr (μ (0 + 1)) r) {a w : Int32} (h : a < Int32.ofNat 0 ∨ (¬ a < Int32.ofNat 0 ∧ Int32.ofNat (nv r 14) ≤ a)) : f_X0_cell 0 μ a w = some (-1) := by
  have hl := lg_b V
  have e1 : μ (0 + 1) 5 1 = Int32.ofNat (nv r 14) := B.1.trans hl.1
  unfold f_X0_cell
  rw [e1]
  rcases h with h | ⟨h, h2⟩
  · exact if_pos h
  · exact (if_neg h).trans (if_pos h2)
theorem R_logged {μ : Mem} {r : Row} (e : μ 0 13 = r) {k w : Nat} (hk : k < 60) (hw : w < 4) : f_X10_logged μ (Int32.ofNat k) (Int32.ofNat w) = some (r (64 + 4 * k + w)) := by
  unfold f_X10_logged
  simp (disch := omega) only [e, nm_q, bs_q, on_a, on_m, on_t, ix_on, le_t, le_f, lt_t, lt_f, eq_t, eq_f, ite_b0, ite_b1, ↓reduceIte, i_0, i_1, i_2, i_3, i_4, i_5, i_6, i_7, i_8, i_9, i_10, i_11, i_12, i_13, i_14, i_15, i_16, i_18, i_20, i_22, i_24, i_30, i_31, i_32, i_40, i_48, i_50, i_51, i_52, i_57, i_60, i_64, i_65, i_66, i_67, i_97, i_99, i_100, i_122, i_239, i_240, i_255, i_256, i_304, i_400, i_401, i_704, i_999, i_1000, i_2304, i_3344, i_3648, i_4096, i_9999, i_32767]
theorem q_log {μ : Mem} (R : Rel μ) (a b : Int32) : AgT [(0, 0), (4, 1)] (f_X9_log μ a b) (fun μ' => f_X10_log μ' a b) := by
  have V := R.V
  have hl := lg_b V
  have B : BKr (μ (0 + 1)) (μ 0 13) := R.B
  rcases in_cases b 0 3 (by decide) (by decide) with ⟨w, -, hw, rfl⟩ | ⟨h1, h2⟩
  · by_cases ha : a < Int32.ofNat 0
    · refine AgT.q R 0 0 (-1) _ (by decide) ?_ (fun μ' V' e => ?_) (fun _ => rfl)
      · unfold f_X9_log
        simp (disch := omega) only [c_cellN V B (Or.inl ha), nm_q, bs_q, on_a, on_m, on_t, ix_on, le_t, le_f, lt_t, lt_f, eq_t, eq_f, ite_b0, ite_b1, ↓reduceIte, i_0, i_1, i_2, i_3, i_4, i_5, i_6, i_7, i_8, i_9, i_10, i_11, i_12, i_13, i_14, i_15, i_16, i_18, i_20, i_22, i_24, i_30, i_31, i_32, i_40, i_48, i_50, i_51, i_52, i_57, i_60, i_64, i_65, i_66, i_67, i_97, i_99, i_100, i_122, i_239, i_240, i_255, i_256, i_304, i_400, i_401, i_704, i_999, i_1000, i_2304, i_3344, i_3648, i_4096, i_9999, i_32767]
      · unfold f_X10_log
        simp (disch := omega) only [isIn_t, f_X10_isIn, ha, nm_q, bs_q, on_a, on_m, on_t, ix_on, le_t, le_f, lt_t, lt_f, eq_t, eq_f, ite_b0, ite_b1, ↓reduceIte, i_0, i_1, i_2, i_3, i_4, i_5, i_6, i_7, i_8, i_9, i_10, i_11, i_12, i_13, i_14, i_15, i_16, i_18, i_20, i_22, i_24, i_30, i_31, i_32, i_40, i_48, i_50, i_51, i_52, i_57, i_60, i_64, i_65, i_66, i_67, i_97, i_99, i_100, i_122, i_239, i_240, i_255, i_256, i_304, i_400, i_401, i_704, i_999, i_1000, i_2304, i_3344, i_3648, i_4096, i_9999, i_32767, upm_at, bk_b]
    · by_cases hb : Int32.ofNat (nv (μ 0 13) 14) ≤ a
      · refine AgT.q R 0 0 (-1) _ (by decide) ?_ (fun μ' V' e => ?_) (fun _ => rfl)
        · unfold f_X9_log
          simp (disch := omega) only [c_cellN V B (Or.inr ⟨ha, hb⟩), nm_q, bs_q, on_a, on_m, on_t, ix_on, le_t, le_f, lt_t, lt_f, eq_t, eq_f, ite_b0, ite_b1, ↓reduceIte, i_0, i_1, i_2, i_3, i_4, i_5, i_6, i_7, i_8, i_9, i_10, i_11, i_12, i_13, i_14, i_15, i_16, i_18, i_20, i_22, i_24, i_30, i_31, i_32, i_40, i_48, i_50, i_51, i_52, i_57, i_60, i_64, i_65, i_66, i_67, i_97, i_99, i_100, i_122, i_239, i_240, i_255, i_256, i_304, i_400, i_401, i_704, i_999, i_1000, i_2304, i_3344, i_3648, i_4096, i_9999, i_32767]
        · unfold f_X10_log
          have hc : Int32.ofNat (nv (μ 0 13) 14) - Int32.ofNat 1 < a := by
            rw [Int32.lt_iff_toInt_lt, Int32.toInt_sub, on_i (by omega), on_i (by omega), Int.bmod_eq_of_le (by omega) (by omega)]
            rw [Int32.le_iff_toInt_le, on_i (by omega)] at hb
            omega
          rw [show f_X10_isIn (Int32.ofNat w) 0 3 = some (Int32.ofNat 1) from isIn_t (Nat.zero_le w) hw (by decide)]
          simp (disch := omega) only [th_row _ e, hl.1, f_X10_isIn, ha, hc, nm_q, bs_q, on_a, on_m, on_t, ix_on, le_t, le_f, lt_t, lt_f, eq_t, eq_f, ite_b0, ite_b1, ↓reduceIte, i_0, i_1, i_2, i_3, i_4, i_5, i_6, i_7, i_8, i_9, i_10, i_11, i_12, i_13, i_14, i_15, i_16, i_18, i_20, i_22, i_24, i_30, i_31, i_32, i_40, i_48, i_50, i_51, i_52, i_57, i_60, i_64, i_65, i_66, i_67, i_97, i_99, i_100, i_122, i_239, i_240, i_255, i_256, i_304, i_400, i_401, i_704, i_999, i_1000, i_2304, i_3344, i_3648, i_4096, i_9999, i_32767, upm_at, bk_b]
      · have hb2 := Int32.not_le.mp hb
        have ha0 : ¬ a < 0 := ha
        obtain ⟨k, hk, rfl⟩ := nat_of ha0 (Int32.le_of_lt hb2) (by omega)
        rw [on_lt (by omega) (by omega)] at hb2
        refine AgT.q R 0 0 (μ 0 13 (64 + 4 * k + w)) _ (by decide) ?_ (fun μ' V' e => ?_) (fun _ => rfl)
        · unfold f_X9_log
          simp (disch := omega) only [c_cell V B hb2 (show w < 4 by omega), nm_q, bs_q, on_a, on_m, on_t, ix_on, le_t, le_f, lt_t, lt_f, eq_t, eq_f, ite_b0, ite_b1, ↓reduceIte, i_0, i_1, i_2, i_3, i_4, i_5, i_6, i_7, i_8, i_9, i_10, i_11, i_12, i_13, i_14, i_15, i_16, i_18, i_20, i_22, i_24, i_30, i_31, i_32, i_40, i_48, i_50, i_51, i_52, i_57, i_60, i_64, i_65, i_66, i_67, i_97, i_99, i_100, i_122, i_239, i_240, i_255, i_256, i_304, i_400, i_401, i_704, i_999, i_1000, i_2304, i_3344, i_3648, i_4096, i_9999, i_32767]
        · unfold f_X10_log
          simp (disch := omega) only [th_row _ e, hl.1, isIn_t, on_sb, R_logged (th_row _ e) (show k < 60 by omega) (show w < 4 by omega), nm_q, bs_q, on_a, on_m, on_t, ix_on, le_t, le_f, lt_t, lt_f, eq_t, eq_f, ite_b0, ite_b1, ↓reduceIte, i_0, i_1, i_2, i_3, i_4, i_5, i_6, i_7, i_8, i_9, i_10, i_11, i_12, i_13, i_14, i_15, i_16, i_18, i_20, i_22, i_24, i_30, i_31, i_32, i_40, i_48, i_50, i_51, i_52, i_57, i_60, i_64, i_65, i_66, i_67, i_97, i_99, i_100, i_122, i_239, i_240, i_255, i_256, i_304, i_400, i_401, i_704, i_999, i_1000, i_2304, i_3344, i_3648, i_4096, i_9999, i_32767, upm_at, bk_b]
  · refine AgT.q R 4 1 0 0 (by decide) ?_ (fun μ' V' e => ?_) (fun h => by cases h)
    · unfold f_X9_log
      simp only [nm_q, i_0, i_4]
      rcases h1 with h1 | ⟨h1, h3⟩
      · rw [if_pos h1]
      · rw [if_neg h1, if_neg]
        rw [Int32.lt_iff_toInt_lt, on_i (by omega)]
        rw [Int32.lt_iff_toInt_lt, on_i (by omega)] at h3
        omega
    · unfold f_X10_log
      simp (disch := omega) only [h2, nm_q, bs_q, on_a, on_m, on_t, ix_on, le_t, le_f, lt_t, lt_f, eq_t, eq_f, ite_b0, ite_b1, ↓reduceIte, i_0, i_1, i_2, i_3, i_4, i_5, i_6, i_7, i_8, i_9, i_10, i_11, i_12, i_13, i_14, i_15, i_16, i_18, i_20, i_22, i_24, i_30, i_31, i_32, i_40, i_48, i_50, i_51, i_52, i_57, i_60, i_64, i_65, i_66, i_67, i_97, i_99, i_100, i_122, i_239, i_240, i_255, i_256, i_304, i_400, i_401, i_704, i_999, i_1000, i_2304, i_3344, i_3648, i_4096, i_9999, i_32767, upm_at, bk_b]
def ldB (r : Row) (g : Int32) (k : Nat) : Bool := decide (r (64 + 4 * k + 1) = g)
/-- the latest row of a guest, of the first n rows -/
def ldF (r : Row) (g : Int32) : Nat → Nat → Option Nat
  | _, 0 => none
  | k, d + 1 => if ldB r g k = true then some k else ldF r g (k + 1) d
def dyO (r : Row) (o : Option Nat) : Int32 := match o with | none => -1 | some k => r (64 + 4 * k)
theorem ldF_s (r : Row) (g : Int32) (k d : Nat) : ldF r g k (d + 1) = if ldB r g k = true then some k else ldF r g (k + 1) d := rfl
theorem c_rowsOf {μ : Mem} {r : Row} (V : Vr r) (B : BKr (μ (0 + 1)) r) (g : Int32) : f_X0_rowsOf 0 μ g = some (Int32.ofNat (sm (nv r 14) (fun k => b2n (ldB r g k)))) := by
  have hl := lg_b V
  have e1 : μ (0 + 1) 5 1 = Int32.ofNat (nv r 14) := B.1.trans hl.1
  refine lpF (fun n (s : Int32 × Int32) => lp_X0_rowsOf_4 g 0 μ n s.1 s.2) (fun k => (Int32.ofNat (sm k (fun k => b2n (ldB r g k))), Int32.ofNat k)) (nv r 14) _ (fun k hk n => ?_) (fun n => ?_) 4096 (by omega)
  · show lp_X0_rowsOf_4 _ _ _ _ _ _ = lp_X0_rowsOf_4 _ _ _ _ _ _
    simp (disch := omega) only [lp_X0_rowsOf_4, e1, c_cell V B hk (show 1 < 4 by decide), nm_q, bs_q, on_a, on_m, on_t, ix_on, le_t, le_f, lt_t, lt_f, eq_t, eq_f, ite_b0, ite_b1, ↓reduceIte, i_0, i_1, i_2, i_3, i_4, i_5, i_6, i_7, i_8, i_9, i_10, i_11, i_12, i_13, i_14, i_15, i_16, i_18, i_20, i_22, i_24, i_30, i_31, i_32, i_40, i_48, i_50, i_51, i_52, i_57, i_60, i_64, i_65, i_66, i_67, i_97, i_99, i_100, i_122, i_239, i_240, i_255, i_256, i_304, i_400, i_401, i_704, i_999, i_1000, i_2304, i_3344, i_3648, i_4096, i_9999, i_32767]
    rw [sm_s]
    unfold b2n ldB
    by_cases h : r (64 + 4 * k + 1) = g
    · rw [if_pos h, decide_eq_true h]
      rfl
    · rw [if_neg h, decide_eq_false h]
      rfl
  · show lp_X0_rowsOf_4 _ _ _ _ _ _ = _
    simp (disch := omega) only [lp_X0_rowsOf_4, e1, nm_q, bs_q, on_a, on_m, on_t, ix_on, le_t, le_f, lt_t, lt_f, eq_t, eq_f, ite_b0, ite_b1, ↓reduceIte, i_0, i_1, i_2, i_3, i_4, i_5, i_6, i_7, i_8, i_9, i_10, i_11, i_12, i_13, i_14, i_15, i_16, i_18, i_20, i_22, i_24, i_30, i_31, i_32, i_40, i_48, i_50, i_51, i_52, i_57, i_60, i_64, i_65, i_66, i_67, i_97, i_99, i_100, i_122, i_239, i_240, i_255, i_256, i_304, i_400, i_401, i_704, i_999, i_1000, i_2304, i_3344, i_3648, i_4096, i_9999, i_32767]
theorem c_latest {μ : Mem} {r : Row} (V : Vr r) (B : BKr (μ (0 + 1)) r) (g : Int32) : f_X0_latestDayOf 0 μ g = some (dyO r (ldF r g 0 (nv r 14))) := by
  have hl := lg_b V
  have e1 : μ (0 + 1) 5 1 = Int32.ofNat (nv r 14) := B.1.trans hl.1
  refine lpP (fun n (s : Int32) => lp_X0_latestDayOf_2 g 0 μ _ n s) (fun o => o = some (dyO r (ldF r g 0 (nv r 14)))) (fun k s => s = Int32.ofNat k ∧ ldF r g 0 (nv r 14) = ldF r g k (nv r 14 - k)) (nv r 14) ?_ 4096 0 (by omega) ⟨rfl, rfl⟩
  rintro k s hk ⟨rfl, hI⟩ n
  by_cases hkn : k = nv r 14
  · left
    rw [hI, hkn, Nat.sub_self]
    simp (disch := omega) only [lp_X0_latestDayOf_2, e1, nm_q, bs_q, on_a, on_m, on_t, ix_on, le_t, le_f, lt_t, lt_f, eq_t, eq_f, ite_b0, ite_b1, ↓reduceIte, i_0, i_1, i_2, i_3, i_4, i_5, i_6, i_7, i_8, i_9, i_10, i_11, i_12, i_13, i_14, i_15, i_16, i_18, i_20, i_22, i_24, i_30, i_31, i_32, i_40, i_48, i_50, i_51, i_52, i_57, i_60, i_64, i_65, i_66, i_67, i_97, i_99, i_100, i_122, i_239, i_240, i_255, i_256, i_304, i_400, i_401, i_704, i_999, i_1000, i_2304, i_3344, i_3648, i_4096, i_9999, i_32767]
    rfl
  · have hk2 : k < nv r 14 := by omega
    have e0 := c_cell V B hk2 (show 0 < 4 by decide)
    rw [show nv r 14 - k = nv r 14 - (k + 1) + 1 by omega, ldF_s] at hI
    simp (disch := omega) only [lp_X0_latestDayOf_2, e1, c_cell V B hk2 (show 1 < 4 by decide), e0, nm_q, bs_q, on_a, on_m, on_t, ix_on, le_t, le_f, lt_t, lt_f, eq_t, eq_f, ite_b0, ite_b1, ↓reduceIte, i_0, i_1, i_2, i_3, i_4, i_5, i_6, i_7, i_8, i_9, i_10, i_11, i_12, i_13, i_14, i_15, i_16, i_18, i_20, i_22, i_24, i_30, i_31, i_32, i_40, i_48, i_50, i_51, i_52, i_57, i_60, i_64, i_65, i_66, i_67, i_97, i_99, i_100, i_122, i_239, i_240, i_255, i_256, i_304, i_400, i_401, i_704, i_999, i_1000, i_2304, i_3344, i_3648, i_4096, i_9999, i_32767]
    by_cases h : r (64 + 4 * k + 1) = g
    · left
      rw [if_pos h, hI, if_pos (show ldB r g k = true from decide_eq_true h)]
      rfl
    · right
      refine ⟨hk2, Int32.ofNat (k + 1), ⟨rfl, ?_⟩, if_neg h⟩
      rw [hI, if_neg]
      unfold ldB
      rw [decide_eq_true_eq]
      exact h
theorem ldF_app (r : Row) (g : Int32) (d : Nat) : ∀ k, ldF r g k (d + 1) = (match ldF r g k d with | some x => some x | none => if ldB r g (k + d) = true then some (k + d) else none) := by
  induction d with
  | zero =>
    intro k
    rw [ldF_s]
    rfl
  | succ d ih =>
    intro k
    rw [ldF_s, ih (k + 1), ldF_s r g k d]
    by_cases h : ldB r g k = true
    · rw [if_pos h, if_pos h]
    · rw [if_neg h, if_neg h, show k + 1 + d = k + (d + 1) by omega]
theorem r_led {μ : Mem} {r : Row} (e : μ 0 13 = r) (V : Vr r) (g : Int32) (K : Int32 → Int32 → Option (Int32 × Mem)) : lp_X10_led_42 g μ K 4096 0 (-1) (Int32.ofNat (nv r 14) - 1) = K (Int32.ofNat (sm (nv r 14) (fun k => b2n (ldB r g k)))) (dyO r (ldF r g 0 (nv r 14))) := by
  have hl := lg_b V
  have tot : ∀ d k, sm (k + d) (fun j => b2n (ldB r g j)) = sm k (fun j => b2n (ldB r g j)) + sm d (fun j => b2n (ldB r g (k + j))) := by
    intro d
    induction d with
    | zero => intro k; rfl
    | succ d ih =>
      intro k
      rw [← Nat.add_assoc, sm_s, sm_s, ih k]
      omega
  -- the rows from the last one on: k of them are passed
  have gen : ∀ k, k ≤ nv r 14 → ∀ F, k < F → ∀ (c : Nat) (o : Int32), lp_X10_led_42 g μ K F (Int32.ofNat c) o (Int32.ofNat k - 1) = K (Int32.ofNat (c + sm k (fun j => b2n (ldB r g j)))) (match ldF r g 0 k with | none => o | some x => r (64 + 4 * x)) := by
    intro k
    induction k with
    | zero =>
      intro _ F hF c o
      obtain ⟨f, rfl⟩ : ∃ f, F = f + 1 := ⟨F - 1, by omega⟩
      rw [lp_X10_led_42, if_pos (by decide)]
      rfl
    | succ k ih =>
      intro hk F hF c o
      obtain ⟨f, rfl⟩ : ∃ f, F = f + 1 := ⟨F - 1, by omega⟩
      have e1 : Int32.ofNat (k + 1) - 1 = Int32.ofNat k := on_sb (a := k + 1) (b := 1) (by omega)
      have e2 : Int32.ofNat k + (-1) = Int32.ofNat k - 1 := (Int32.sub_eq_add_neg _ _).symm
      rw [lp_X10_led_42, e1, if_neg (by rw [i_0, on_lt (by omega) (by decide)]; omega), i_1, i_0, R_logged e (by omega) (by decide)]
      simp only [bs_q]
      rw [R_logged e (by omega) (by decide)]
      simp only [bs_q]
      rw [show -Int32.ofNat 1 = (-1 : Int32) from rfl, e2, on_a, sm_s, ldF_app r g k 0, Nat.zero_add]
      by_cases h : r (64 + 4 * k + 1) = g
      · have hb : ldB r g k = true := decide_eq_true h
        rw [if_pos h, ih (by omega) f (by omega), hb, show b2n true = 1 from rfl, show c + 1 + sm k (fun j => b2n (ldB r g j)) = c + (sm k (fun j => b2n (ldB r g j)) + 1) by omega]
        cases ldF r g 0 k with
        | none => rfl
        | some x => rfl
      · have hb : ldB r g k = false := decide_eq_false h
        rw [if_neg h, ih (by omega) f (by omega), hb, show b2n false = 0 from rfl, Nat.add_zero]
        cases ldF r g 0 k with
        | none => rfl
        | some x => rfl
  have := gen (nv r 14) (Nat.le_refl _) 4096 (by omega) 0 (-1)
  rw [Nat.zero_add] at this
  refine this.trans ?_
  congr 1
theorem r_led2 {μ : Mem} (V : Vr (μ 0 13)) {g : Nat} (hg : f_X10_isGuest μ (Int32.ofNat g) = some (Int32.ofNat 1)) (b : Bool) : f_X10_led μ (Int32.ofNat g) (bI b) = some (if b = true then dyO (μ 0 13) (ldF (μ 0 13) (Int32.ofNat g) 0 (nv (μ 0 13) 14)) else Int32.ofNat (sm (nv (μ 0 13) 14) (fun k => b2n (ldB (μ 0 13) (Int32.ofNat g) k))), upm μ 0 12 0 0) := by
  have hl := lg_b V
  have h := r_led (up0 μ 0) V (Int32.ofNat g) (fun (x5 : Int32) (x6 : Int32) => if bI b = 0 then (some (x5, upm μ 0 12 0 0)) else (some (x6, upm μ 0 12 0 0)))
  unfold f_X10_led
  rw [hg]
  simp only [bs_q, nm_q]
  rw [if_neg (by decide), upm_at, if_pos (by decide), show (14 : Int32) = Int32.ofNat 14 from rfl, ix_on (by decide) (by decide), on_t (by decide), up0, hl.1, h]
  cases b
  · rfl
  · rfl
theorem q_led {μ : Mem} (R : Rel μ) (a : Int32) (b : Bool) : AgT [(0, 0), (3, 1)] (f_X9_led μ a (bI b)) (fun μ' => f_X10_led μ' a (bI b)) := by
  have V := R.V
  have B : BKr (μ (0 + 1)) (μ 0 13) := R.B
  rcases guest_cases R.H V a with ⟨g, hg, rfl, h1, h2⟩ | ⟨h1, h2⟩
  · refine AgT.q R 0 0 (if b = true then dyO (μ 0 13) (ldF (μ 0 13) (Int32.ofNat g) 0 (nv (μ 0 13) 14)) else Int32.ofNat (sm (nv (μ 0 13) 14) (fun k => b2n (ldB (μ 0 13) (Int32.ofNat g) k)))) _ (by decide) ?_ (fun μ' V' e => ?_) (fun _ => rfl)
    · unfold f_X9_led
      rw [h1, c_rowsOf V B, c_latest V B]
      simp (disch := omega) only [nm_q, bs_q, on_a, on_m, on_t, ix_on, le_t, le_f, lt_t, lt_f, eq_t, eq_f, ite_b0, ite_b1, ↓reduceIte, i_0, i_1, i_2, i_3, i_4, i_5, i_6, i_7, i_8, i_9, i_10, i_11, i_12, i_13, i_14, i_15, i_16, i_18, i_20, i_22, i_24, i_30, i_31, i_32, i_40, i_48, i_50, i_51, i_52, i_57, i_60, i_64, i_65, i_66, i_67, i_97, i_99, i_100, i_122, i_239, i_240, i_255, i_256, i_304, i_400, i_401, i_704, i_999, i_1000, i_2304, i_3344, i_3648, i_4096, i_9999, i_32767]
      cases b <;> rfl
    · rw [r_led2 V' (h2 μ' e), e]
  · refine AgT.q R 3 1 0 0 (by decide) ?_ (fun μ' V' e => ?_) (fun h => by cases h)
    · unfold f_X9_led
      simp (disch := omega) only [h1, nm_q, bs_q, on_a, on_m, on_t, ix_on, le_t, le_f, lt_t, lt_f, eq_t, eq_f, ite_b0, ite_b1, ↓reduceIte, i_0, i_1, i_2, i_3, i_4, i_5, i_6, i_7, i_8, i_9, i_10, i_11, i_12, i_13, i_14, i_15, i_16, i_18, i_20, i_22, i_24, i_30, i_31, i_32, i_40, i_48, i_50, i_51, i_52, i_57, i_60, i_64, i_65, i_66, i_67, i_97, i_99, i_100, i_122, i_239, i_240, i_255, i_256, i_304, i_400, i_401, i_704, i_999, i_1000, i_2304, i_3344, i_3648, i_4096, i_9999, i_32767]
    · unfold f_X10_led
      simp (disch := omega) only [h2 _ e, nm_q, bs_q, on_a, on_m, on_t, ix_on, le_t, le_f, lt_t, lt_f, eq_t, eq_f, ite_b0, ite_b1, ↓reduceIte, i_0, i_1, i_2, i_3, i_4, i_5, i_6, i_7, i_8, i_9, i_10, i_11, i_12, i_13, i_14, i_15, i_16, i_18, i_20, i_22, i_24, i_30, i_31, i_32, i_40, i_48, i_50, i_51, i_52, i_57, i_60, i_64, i_65, i_66, i_67, i_97, i_99, i_100, i_122, i_239, i_240, i_255, i_256, i_304, i_400, i_401, i_704, i_999, i_1000, i_2304, i_3344, i_3648, i_4096, i_9999, i_32767, upm_at, bk_b]
def xr2 (k : Nat) : Nat := [2, 3, 0, 1].getD k 0
def xr1 (k : Nat) : Nat := [1, 0, 3, 2].getD k 0
def hN (k : Nat) (b : Bool) : Int32 := if 2 ≤ k then 0 else if k = 0 ∧ b = true then -20 else 10
def gN (k : Nat) (b : Bool) (x : Nat) : Int32 := if k % 2 = 1 then 0 else if k = 0 ∧ b = true then Int32.ofNat x else -3
theorem rs_x : ∀ k, k < 4 → Int32.ofNat k ^^^ 2 = Int32.ofNat (xr2 k) ∧ Int32.ofNat k ^^^ 1 = Int32.ofNat (xr1 k) ∧ xr2 k < 4 ∧ xr1 k < 4 := by decide +kernel
theorem rs_h : ∀ k, k < 4 → ∀ b : Bool, f_X9_hostHas (Int32.ofNat k) (bI b) = some (hN k b) := by decide +kernel
theorem rs_g : ∀ k, k < 4 → ∀ b : Bool, ∀ x, x < 11 → f_X9_guestHas (Int32.ofNat k) (bI b) (Int32.ofNat x) = some (gN k b x) := by decide +kernel
theorem rs_rh : ∀ k, k < 4 → ∀ b : Bool, f_X10_hostHas (bI b) (1 - (Int32.ofNat k / 2)) (jrem (Int32.ofNat k) 2) = some (hN (xr2 k) b) ∧ f_X10_hostHas (bI b) (Int32.ofNat k / 2) (jrem (Int32.ofNat k) 2) = some (hN k b) := by decide +kernel
theorem rs_a : ∀ k, k < 4 → (Int32.ofNat k / 2 = if k < 2 then 0 else 1) ∧ (jrem (Int32.ofNat k) 2 = if k % 2 = 1 then 1 else 0) ∧ (1 - jrem (Int32.ofNat k) 2 = if k % 2 = 1 then 0 else 1) := by decide +kernel
theorem rs_rg {ν : Mem} {g x : Nat} (ho : f_X10_of ν (Int32.ofNat g) 1 = some (Int32.ofNat x)) : ∀ k, k < 4 → ∀ b : Bool, f_X10_guestHas ν (Int32.ofNat g) (bI b) (Int32.ofNat k / 2) (1 - jrem (Int32.ofNat k) 2) = some (gN (xr1 k) b x) ∧ f_X10_guestHas ν (Int32.ofNat g) (bI b) (Int32.ofNat k / 2) (jrem (Int32.ofNat k) 2) = some (gN k b x) := by
  intro k hk b
  obtain ⟨a1, a2, a3⟩ := rs_a k hk
  rw [a1, a3, a2]
  unfold f_X10_guestHas
  rw [ho]
  rcases (show k = 0 ∨ k = 1 ∨ k = 2 ∨ k = 3 by omega) with rfl | rfl | rfl | rfl <;> cases b <;> exact ⟨rfl, rfl⟩
theorem rs_c {μ : Mem} {b : Bool} {x k : Nat} (hx : x < 11) (hk : k < 4) (n : Nat) (s : Int32) : lp_X9_rests_55 μ (bI b) (Int32.ofNat x) (n + 1) s (Int32.ofNat k) = lp_X9_rests_55 μ (bI b) (Int32.ofNat x) n (if hN k b < hN (xr2 k) b then s else if gN k b x < gN (xr1 k) b x then s else s ||| jshl 1 (Int32.ofNat k)) (Int32.ofNat (k + 1)) := by
  obtain ⟨x1, x2, x3, x4⟩ := rs_x k hk
  rw [lp_X9_rests_55, i_4, if_neg (by rw [on_le (by omega) (by omega)]; omega), x1, x2, rs_h k hk, rs_h _ x3]
  simp only [bs_q]
  rw [rs_g k hk b x hx, rs_g _ x4 b x hx]
  simp only [bs_q, i_1, on_a]
  split
  · rfl
  · split <;> rfl
theorem rs_r {ν : Mem} {b : Bool} {g x k : Nat} (ho : f_X10_of ν (Int32.ofNat g) 1 = some (Int32.ofNat x)) (hk : k < 4) (n : Nat) (s : Int32) : lp_X10_rests_46 (Int32.ofNat g) ν (bI b) (n + 1) s (Int32.ofNat k) = lp_X10_rests_46 (Int32.ofNat g) ν (bI b) n (if hN k b < hN (xr2 k) b then s else if gN k b x < gN (xr1 k) b x then s else s ||| jshl 1 (Int32.ofNat k)) (Int32.ofNat (k + 1)) := by
  rw [lp_X10_rests_46, i_4, if_neg (by rw [on_le (by omega) (by omega)]; omega), (rs_rh k hk b).1, (rs_rh k hk b).2]
  simp only [bs_q]
  rw [(rs_rg ho k hk b).1, (rs_rg ho k hk b).2]
  simp only [bs_q]
  rw [show (1 : Int32) = Int32.ofNat 1 from rfl, on_a]
  split
  · rfl
  · split <;> rfl
theorem rs_tab {b : Bool} {g x : Nat} (hx : x < 11) (μ : Mem) : ∃ v, lp_X9_rests_55 μ (bI b) (Int32.ofNat x) 4096 0 0 = some (0, v, μ) ∧ ∀ ν : Mem, f_X10_of ν (Int32.ofNat g) (Int32.ofNat 1) = some (Int32.ofNat x) → lp_X10_rests_46 (Int32.ofNat g) ν (bI b) 4096 0 0 = some (v, ν) := by
  have st : ∀ s : Int32, ∃ S : Nat → Int32, S 0 = s ∧ ∀ k, S (k + 1) = (if hN k b < hN (xr2 k) b then S k else if gN k b x < gN (xr1 k) b x then S k else S k ||| jshl 1 (Int32.ofNat k)) := fun s => ⟨fun k => Nat.rec s (fun k v => if hN k b < hN (xr2 k) b then v else if gN k b x < gN (xr1 k) b x then v else v ||| jshl 1 (Int32.ofNat k)) k, rfl, fun k => rfl⟩
  obtain ⟨S, hS0, hS⟩ := st 0
  refine ⟨S 4, ?_, fun ν ho => ?_⟩
  · have := lpF (fun n (s : Int32 × Int32) => lp_X9_rests_55 μ (bI b) (Int32.ofNat x) n s.1 s.2) (fun k => (S k, Int32.ofNat k)) 4 (some (0, S 4, μ)) (fun k hk n => by
      show lp_X9_rests_55 _ _ _ _ _ _ = lp_X9_rests_55 _ _ _ _ _ _
      rw [rs_c hx hk, hS]) (fun n => by
      show lp_X9_rests_55 _ _ _ _ _ _ = _
      rw [lp_X9_rests_55, if_pos (show (4 : Int32) ≤ Int32.ofNat 4 by decide)]) 4096 (by decide)
    simp only [hS0] at this
    exact this
  · have := lpF (fun n (s : Int32 × Int32) => lp_X10_rests_46 (Int32.ofNat g) ν (bI b) n s.1 s.2) (fun k => (S k, Int32.ofNat k)) 4 (some (S 4, ν)) (fun k hk n => by
      show lp_X10_rests_46 _ _ _ _ _ _ = lp_X10_rests_46 _ _ _ _ _ _
      rw [rs_r ho hk, hS]) (fun n => by
      show lp_X10_rests_46 _ _ _ _ _ _ = _
      rw [lp_X10_rests_46, if_pos (show (4 : Int32) ≤ Int32.ofNat 4 by decide)]) 4096 (by decide)
    simp only [hS0] at this
    exact this
theorem c_rests2 {μ : Mem} {r : Row} (H : HC (μ (0 + 1)) r) (V : Vr r) {g : Nat} (hg : g < nv r 3) (h1 : f_X9_isGuest μ (Int32.ofNat g) = some (Int32.ofNat 1)) : f_X9_rests μ (Int32.ofNat g) = lp_X9_rests_55 μ (bI ((wt r (nv r 4)).testBit g)) (Int32.ofNat (nv r (24 + 5 * g + 1))) 4096 0 0 := by
  have h8 := V.c8
  have hg8 : g < 8 := by omega
  unfold f_X9_rests
  rw [h1, bs_q, if_neg (by decide), q_odds_w H V, bs_q, hold_b _ (wt_256 V _) g hg8, bs_q, c_wish hg8, bs_q, (H.g hg).2.1, V.ge hg8 1 (by decide)]
theorem r_rests2 {μ : Mem} {r : Row} (e : μ 0 13 = r) (V : Vr r) {g : Nat} (hg8 : g < 8) (h2 : f_X10_isGuest μ (Int32.ofNat g) = some (Int32.ofNat 1)) : f_X10_rests μ (Int32.ofNat g) = lp_X10_rests_46 (Int32.ofNat g) (upm μ 0 12 0 0) (bI ((wt r (nv r 4)).testBit g)) 4096 0 0 := by
  subst e
  unfold f_X10_rests
  rw [h2]
  simp only [bs_q, nm_q]
  rw [if_neg (by decide), upm_at, if_pos (by decide), show (4 : Int32) = Int32.ofNat 4 from rfl, ix_on (by decide) (by decide), on_t (by decide), up0, V.e4, R_watchers (up0 _ _) V V.b4, bs_q, isOf_b _ (wt_256 V _) g hg8, bs_q]
theorem q_rests {μ : Mem} (R : Rel μ) (a : Int32) : AgT [(0, 0), (3, 1)] (f_X9_rests μ a) (fun μ' => f_X10_rests μ' a) := by
  have V := R.V
  have H : HC (μ (0 + 1)) (μ 0 13) := R.H
  have h8 := V.c8
  rcases guest_cases R.H V a with ⟨g, hg, rfl, h1, h2⟩ | ⟨h1, h2⟩
  · have hg8 : g < 8 := by omega
    have hw := V.gb hg8 1 (by decide)
    have b1 : bdg 1 = 10 := rfl
    obtain ⟨v, k1, k2⟩ := rs_tab (b := (wt (μ 0 13) (nv (μ 0 13) 4)).testBit g) (g := g) (x := nv (μ 0 13) (24 + 5 * g + 1)) (by omega) μ
    refine AgT.q R 0 0 v v (by decide) ?_ (fun μ' V' e => ?_) (fun _ => rfl)
    · rw [c_rests2 H V hg h1]
      exact k1
    · show f_X10_rests μ' (Int32.ofNat g) = _
      rw [r_rests2 e V hg8 (h2 _ e)]
      exact k2 _ (by rw [R_of (th_row _ e) hg8 (by decide), V.ge hg8 1 (by decide)])
  · refine AgT.q R 3 1 0 0 (by decide) ?_ (fun μ' V' e => ?_) (fun h => by cases h)
    · unfold f_X9_rests
      simp (disch := omega) only [h1, nm_q, bs_q, on_a, on_m, on_t, ix_on, le_t, le_f, lt_t, lt_f, eq_t, eq_f, ite_b0, ite_b1, ↓reduceIte, i_0, i_1, i_2, i_3, i_4, i_5, i_6, i_7, i_8, i_9, i_10, i_11, i_12, i_13, i_14, i_15, i_16, i_18, i_20, i_22, i_24, i_30, i_31, i_32, i_40, i_48, i_50, i_51, i_52, i_57, i_60, i_64, i_65, i_66, i_67, i_97, i_99, i_100, i_122, i_239, i_240, i_255, i_256, i_304, i_400, i_401, i_704, i_999, i_1000, i_2304, i_3344, i_3648, i_4096, i_9999, i_32767]
    · unfold f_X10_rests
      simp (disch := omega) only [h2 _ e, nm_q, bs_q, on_a, on_m, on_t, ix_on, le_t, le_f, lt_t, lt_f, eq_t, eq_f, ite_b0, ite_b1, ↓reduceIte, i_0, i_1, i_2, i_3, i_4, i_5, i_6, i_7, i_8, i_9, i_10, i_11, i_12, i_13, i_14, i_15, i_16, i_18, i_20, i_22, i_24, i_30, i_31, i_32, i_40, i_48, i_50, i_51, i_52, i_57, i_60, i_64, i_65, i_66, i_67, i_97, i_99, i_100, i_122, i_239, i_240, i_255, i_256, i_304, i_400, i_401, i_704, i_999, i_1000, i_2304, i_3344, i_3648, i_4096, i_9999, i_32767, upm_at, bk_b]
