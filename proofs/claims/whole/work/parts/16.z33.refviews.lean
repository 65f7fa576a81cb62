/-! ===== the reference's questions ===== -/
theorem r_of {μ : Mem} {g w : Nat} (hg : g < 8) (hw : w < 5) : f_X10_of μ (Int32.ofNat g) (Int32.ofNat w) = some (μ 0 13 (24 + 5 * g + w)) := by
  unfold f_X10_of
  simp (disch := omega) only [nm_q, bs_q, on_a, on_m, on_t, ix_on, le_t, le_f, lt_t, lt_f, eq_t, eq_f, ite_b0, ite_b1, ↓reduceIte, i_0, i_1, i_2, i_3, i_4, i_5, i_6, i_7, i_8, i_9, i_10, i_11, i_12, i_13, i_14, i_15, i_16, i_18, i_20, i_22, i_24, i_30, i_31, i_32, i_40, i_48, i_50, i_51, i_52, i_57, i_60, i_64, i_65, i_66, i_67, i_97, i_99, i_100, i_122, i_239, i_240, i_255, i_256, i_304, i_400, i_401, i_704, i_999, i_1000, i_2304, i_3344, i_3648, i_4096, i_9999, i_32767]
theorem r_of0 {μ : Mem} {g : Nat} (hg : g < 8) : f_X10_of μ (Int32.ofNat g) (Int32.ofNat 0) = some (μ 0 13 (24 + 5 * g)) := r_of hg (by decide)
theorem r_isIn {k a b : Nat} (hk : k < 2147483648) (ha : a < 2147483648) (hb : b < 2147483648) : f_X10_isIn (Int32.ofNat k) (Int32.ofNat a) (Int32.ofNat b) = some (bI (decide (a ≤ k) && decide (k ≤ b))) := by
  unfold f_X10_isIn
  rw [il_lt hk ha, il_lt hb hk]
  by_cases h1 : k < a
  · rw [if_pos h1, decide_eq_false (by omega), Bool.false_and]
    rfl
  · rw [if_neg h1, decide_eq_true (by omega), Bool.true_and]
    by_cases h2 : b < k
    · rw [if_pos h2, decide_eq_false (by omega)]
      rfl
    · rw [if_neg h2, decide_eq_true (by omega)]
      rfl
theorem r_isRoom {k : Nat} (hk : k < 8) : f_X10_isRoom (Int32.ofNat k) = some (Int32.ofNat 1) := by
  unfold f_X10_isRoom
  simp only [i_0, i_7]
  rw [r_isIn (by omega) (by decide) (by decide), decide_eq_true (by omega), decide_eq_true (by omega)]
  rfl
theorem r_here {μ : Mem} {g : Nat} (hg : g < 8) : f_X10_isHere μ (Int32.ofNat g) = some (bI (hrB (μ 0 13) g)) := by
  unfold f_X10_isHere
  simp only [i_4, i_1, i_0]
  rw [r_of hg (by decide)]
  simp only [bs_q]
  unfold hrB
  by_cases h : μ 0 13 (24 + 5 * g + 4) = Int32.ofNat 1
  · rw [if_pos h, decide_eq_true h]
    rfl
  · rw [if_neg h, decide_eq_false h]
    rfl
theorem r_risk {μ : Mem} (V : Vr (μ 0 13)) {g : Nat} (hg : g < 8) : f_X10_risk μ (Int32.ofNat g) = some (Int32.ofNat (rkN (μ 0 13) g)) := by
  have h1 := V.gb hg 1 (by decide)
  have h2 := V.gb hg 2 (by decide)
  have b1 : bdg 1 = 10 := rfl
  have b2 : bdg 2 = 99 := rfl
  unfold f_X10_risk
  simp only [i_50, i_2, i_1]
  rw [r_of hg (by decide), r_of hg (by decide), V.ge hg 1 (by decide), V.ge hg 2 (by decide)]
  simp only [bs_q]
  rw [il_lt (by omega) (by omega), on_d (by omega) (by omega)]
  unfold rkN
  split <;> rfl
theorem r_isHole {μ : Mem} (V : Vr (μ 0 13)) {p k : Nat} (hp : p < 8) (hk : k < 8) : f_X10_isHole μ (Int32.ofNat p) (Int32.ofNat k) = some (bI ((nv (μ 0 13) (16 + p)).testBit k)) := by
  unfold f_X10_isHole
  simp only [i_16]
  rw [on_a, ix_on (by omega) (by decide), on_t (by omega), V.he hp, isOf_b _ (V.hb hp) k hk]
  simp only [bs_q, bk_b]
theorem r_seesFrom {μ : Mem} (V : Vr (μ 0 13)) {p k : Nat} (hp : p < 8) (hk : k < 8) (b : Bool) : f_X10_seesFrom μ (Int32.ofNat p) (bI b) (Int32.ofNat k) = some (bI (sB (μ 0 13) p b k)) := by
  unfold f_X10_seesFrom
  simp only [i_1, i_8, i_0, nm]
  rw [r_isHole V hp hk, on_a, on_a, on_r (by omega) (by decide), on_r (by omega) (by decide)]
  simp only [bs_q, ite_b0]
  simp (disch := omega) only [on_eq]
  unfold sB
  by_cases h1 : p = k
  · rw [decide_eq_true h1]
    simp only [if_pos h1, Bool.true_or, ite_self]
    rfl
  · rw [decide_eq_false h1]
    simp only [if_neg h1, Bool.false_or]
    cases h0 : (nv (μ 0 13) (16 + p)).testBit k
    · cases b
      · by_cases h2 : (p + 1) % 8 = k <;> by_cases h3 : (k + 1) % 8 = p <;> simp [h2, h3] <;> rfl
      · by_cases h2 : (p + 1) % 8 = k <;> by_cases h3 : (k + 1) % 8 = p <;> simp [h2, h3] <;> first | rfl | (intro h; omega) | omega
    · by_cases h2 : (p + 1) % 8 = k <;> by_cases h3 : (k + 1) % 8 = p <;> simp [h2, h3] <;> rfl
theorem r_sees {μ : Mem} (V : Vr (μ 0 13)) {g k : Nat} (hg : g < 8) (hk : k < 8) : f_X10_sees μ (Int32.ofNat g) (Int32.ofNat k) = some (bI (seB (μ 0 13) g k)) := by
  unfold f_X10_sees
  simp only [i_1, i_0, i_3, nm]
  rw [r_of0 hg, r_of hg (by decide), V.rme hg]
  simp only [bs_q]
  by_cases h : μ 0 13 (24 + 5 * g + 3) = Int32.ofNat 1
  · rw [if_pos h]
    have hk2 : kyB (μ 0 13) g = true := decide_eq_true h
    have e := r_seesFrom V (V.rm8 hg) hk true
    rw [bI_t, i_1] at e
    rw [e]
    simp only [bs_q, bk_b]
    unfold seB
    rw [hk2]
  · rw [if_neg h]
    have hk2 : kyB (μ 0 13) g = false := decide_eq_false h
    have e := r_seesFrom V (V.rm8 hg) hk false
    rw [bI_f, i_0] at e
    rw [e]
    simp only [bs_q, bk_b]
    unfold seB
    rw [hk2]
theorem r_watchers {μ : Mem} (V : Vr (μ 0 13)) {p : Nat} (hp : p < 8) : f_X10_watchers μ (Int32.ofNat p) = some (Int32.ofNat (wt (μ 0 13) p)) := by
  have h8 := V.c8
  refine lpF (fun n (s : Int32 × Int32) => lp_X10_watchers_4 (Int32.ofNat p) μ n s.1 s.2) (fun k => (Int32.ofNat (mk k (fun g => hrB (μ 0 13) g && seB (μ 0 13) g p)), Int32.ofNat k)) (nv (μ 0 13) 3) _ (fun k hk n => ?_) (fun n => ?_) 4096 (by omega)
  · show lp_X10_watchers_4 _ _ _ _ _ = lp_X10_watchers_4 _ _ _ _ _
    simp only [lp_X10_watchers_4]
    rw [r_here (by omega), r_sees V (by omega) hp]
    simp only [i_3]
    simp (disch := omega) only [nm_q, bs_q, on_a, on_m, on_t, ix_on, le_t, le_f, lt_t, lt_f, eq_t, eq_f, ite_b0, ite_b1, ↓reduceIte, i_0, i_1, i_2, i_3, i_4, i_5, i_6, i_7, i_8, i_9, i_10, i_11, i_12, i_13, i_14, i_15, i_16, i_18, i_20, i_22, i_24, i_30, i_31, i_32, i_40, i_48, i_50, i_51, i_52, i_57, i_60, i_64, i_65, i_66, i_67, i_97, i_99, i_100, i_122, i_239, i_240, i_255, i_256, i_304, i_400, i_401, i_704, i_999, i_1000, i_2304, i_3344, i_3648, i_4096, i_9999, i_32767, or_z, V.e3]
    cases h1 : hrB (μ 0 13) k <;> cases h2 : seB (μ 0 13) k p
    · rw [if_neg (by decide), or_mk0 _ (by rw [h1, h2]; rfl)]
    · rw [if_neg (by decide), or_mk0 _ (by rw [h1, h2]; rfl)]
    · rw [if_pos rfl, if_neg (by decide), or_mk0 _ (by rw [h1, h2]; rfl)]
    · rw [if_pos rfl, if_pos rfl, or_mk (by omega) _ (by rw [h1, h2]; rfl)]
  · show lp_X10_watchers_4 _ _ _ _ _ = _
    simp only [lp_X10_watchers_4, i_3]
    simp (disch := omega) only [nm_q, bs_q, on_a, on_m, on_t, ix_on, le_t, le_f, lt_t, lt_f, eq_t, eq_f, ite_b0, ite_b1, ↓reduceIte, i_0, i_1, i_2, i_3, i_4, i_5, i_6, i_7, i_8, i_9, i_10, i_11, i_12, i_13, i_14, i_15, i_16, i_18, i_20, i_22, i_24, i_30, i_31, i_32, i_40, i_48, i_50, i_51, i_52, i_57, i_60, i_64, i_65, i_66, i_67, i_97, i_99, i_100, i_122, i_239, i_240, i_255, i_256, i_304, i_400, i_401, i_704, i_999, i_1000, i_2304, i_3344, i_3648, i_4096, i_9999, i_32767, V.e3]
    rfl
theorem r_from {μ : Mem} (V : Vr (μ 0 13)) {p : Nat} (hp : p < 8) : f_X10_from μ (Int32.ofNat p) = some (Int32.ofNat (inS (μ 0 13) p)) := by
  refine lpF (fun n (s : Int32 × Int32) => lp_X10_from_4 (Int32.ofNat p) μ n s.1 s.2) (fun k => (Int32.ofNat (mk k (fun j => (nv (μ 0 13) (16 + j)).testBit p)), Int32.ofNat k)) 8 _ (fun k hk n => ?_) (fun n => rfl) 4096 (by decide)
  show lp_X10_from_4 _ _ _ _ _ = lp_X10_from_4 _ _ _ _ _
  simp only [lp_X10_from_4]
  rw [r_isHole V hk hp]
  simp (disch := omega) only [nm_q, bs_q, on_a, on_m, on_t, ix_on, le_t, le_f, lt_t, lt_f, eq_t, eq_f, ite_b0, ite_b1, ↓reduceIte, i_0, i_1, i_2, i_3, i_4, i_5, i_6, i_7, i_8, i_9, i_10, i_11, i_12, i_13, i_14, i_15, i_16, i_18, i_20, i_22, i_24, i_30, i_31, i_32, i_40, i_48, i_50, i_51, i_52, i_57, i_60, i_64, i_65, i_66, i_67, i_97, i_99, i_100, i_122, i_239, i_240, i_255, i_256, i_304, i_400, i_401, i_704, i_999, i_1000, i_2304, i_3344, i_3648, i_4096, i_9999, i_32767, or_z, V.e3]
  cases h1 : (nv (μ 0 13) (16 + k)).testBit p
  · rw [if_neg (by decide), or_mk0 _ (by exact h1)]
  · rw [if_pos rfl, or_mk hk _ (by exact h1)]
theorem r_guestsIn {μ : Mem} (V : Vr (μ 0 13)) {p : Nat} (hp : p < 8) : f_X10_guestsIn μ (Int32.ofNat p) = some (Int32.ofNat (giS (μ 0 13) p)) := by
  have h8 := V.c8
  refine lpF (fun n (s : Int32 × Int32) => lp_X10_guestsIn_4 (Int32.ofNat p) μ n s.1 s.2) (fun k => (Int32.ofNat (mk k (fun g => hrB (μ 0 13) g && decide (rm (μ 0 13) g = p))), Int32.ofNat k)) (nv (μ 0 13) 3) _ (fun k hk n => ?_) (fun n => ?_) 4096 (by omega)
  · have hr8 := V.rm8 (g := k) (by omega)
    show lp_X10_guestsIn_4 _ _ _ _ _ = lp_X10_guestsIn_4 _ _ _ _ _
    simp only [lp_X10_guestsIn_4]
    rw [r_here (by omega)]
    simp only [i_3, i_0]
    rw [r_of0 (by omega), V.rme (by omega)]
    simp (disch := omega) only [nm_q, bs_q, on_a, on_m, on_t, ix_on, le_t, le_f, lt_t, lt_f, eq_t, eq_f, ite_b0, ite_b1, ↓reduceIte, i_0, i_1, i_2, i_3, i_4, i_5, i_6, i_7, i_8, i_9, i_10, i_11, i_12, i_13, i_14, i_15, i_16, i_18, i_20, i_22, i_24, i_30, i_31, i_32, i_40, i_48, i_50, i_51, i_52, i_57, i_60, i_64, i_65, i_66, i_67, i_97, i_99, i_100, i_122, i_239, i_240, i_255, i_256, i_304, i_400, i_401, i_704, i_999, i_1000, i_2304, i_3344, i_3648, i_4096, i_9999, i_32767, or_z, V.e3]
    rw [il_eq (by omega) (by omega)]
    cases h1 : hrB (μ 0 13) k
    · rw [if_neg (by decide), or_mk0 _ (by rw [h1]; rfl)]
    · rw [if_pos rfl]
      by_cases h2 : rm (μ 0 13) k = p
      · rw [if_pos h2, or_mk (by omega) _ (by rw [h1, decide_eq_true h2]; rfl)]
      · rw [if_neg h2, or_mk0 _ (by rw [h1, decide_eq_false h2]; rfl)]
  · show lp_X10_guestsIn_4 _ _ _ _ _ = _
    simp only [lp_X10_guestsIn_4, i_3]
    simp (disch := omega) only [nm_q, bs_q, on_a, on_m, on_t, ix_on, le_t, le_f, lt_t, lt_f, eq_t, eq_f, ite_b0, ite_b1, ↓reduceIte, i_0, i_1, i_2, i_3, i_4, i_5, i_6, i_7, i_8, i_9, i_10, i_11, i_12, i_13, i_14, i_15, i_16, i_18, i_20, i_22, i_24, i_30, i_31, i_32, i_40, i_48, i_50, i_51, i_52, i_57, i_60, i_64, i_65, i_66, i_67, i_97, i_99, i_100, i_122, i_239, i_240, i_255, i_256, i_304, i_400, i_401, i_704, i_999, i_1000, i_2304, i_3344, i_3648, i_4096, i_9999, i_32767, V.e3]
    rfl
