/-! ===== sums, more of the class's questions ===== -/
def sm : Nat → (Nat → Nat) → Nat
  | 0, _ => 0
  | n + 1, f => sm n f + f n
theorem sm_s (n : Nat) (f : Nat → Nat) : sm (n + 1) f = sm n f + f n := rfl
theorem sm_cg {n : Nat} {f g : Nat → Nat} (h : ∀ k, k < n → f k = g k) : sm n f = sm n g := by
  induction n with
  | zero => rfl
  | succ n ih => rw [sm_s, sm_s, ih (fun k hk => h k (by omega)), h n (by omega)]
theorem sm_pad {n N : Nat} {f g : Nat → Nat} (hN : n ≤ N) (h : ∀ k, k < n → f k = g k) (hz : ∀ k, n ≤ k → k < N → g k = 0) : sm n f = sm N g := by
  induction N with
  | zero =>
    have e : n = 0 := by omega
    subst e
    rfl
  | succ N ih =>
    by_cases e : n = N + 1
    · subst e
      exact sm_cg h
    · rw [sm_s, hz N (by omega) (by omega), Nat.add_zero]
      exact ih (by omega) (fun k h1 h2 => hz k h1 (by omega))
theorem sm_le {n b : Nat} {f : Nat → Nat} (h : ∀ k, k < n → f k ≤ b) : sm n f ≤ n * b := by
  induction n with
  | zero => simp [sm]
  | succ n ih =>
    have h1 := ih (fun k hk => h k (by omega))
    have h2 := h n (by omega)
    rw [sm_s, Nat.succ_mul]
    omega
theorem mk_pad {c : Nat} (hc : c ≤ 8) (p : Nat → Bool) : mk c p = mk 8 (fun g => decide (g < c) && p g) := mk_ext fun k => by
  by_cases hk : k < c
  · have : k < 8 := by omega
    simp [hk, this]
  · simp [hk]
theorem wm_0 {k : Nat} (hk : k < 8) (p : Nat → Bool) (hp : p k = false) : f_X9_withMember (Int32.ofNat (mk k p)) (Int32.ofNat k) (Int32.ofNat 0) = some (Int32.ofNat (mk (k + 1) p)) := wm_mk hk p false hp.symm
theorem wm_1 {k : Nat} (hk : k < 8) (p : Nat → Bool) (hp : p k = true) : f_X9_withMember (Int32.ofNat (mk k p)) (Int32.ofNat k) (Int32.ofNat 1) = some (Int32.ofNat (mk (k + 1) p)) := wm_mk hk p true hp.symm
theorem c_holesInto {h : Nat} {μ : Mem} {r : Row} (H : HC (μ (h + 1)) r) (V : Vr r) {p : Nat} (hp : p < 8) : f_X2_holesInto h μ (Int32.ofNat p) = some (Int32.ofNat (inS r p)) := by
  refine lpF (fun n (s : Int32 × Int32) => lp_X2_holesInto_4 (Int32.ofNat p) h μ n s.1 s.2) (fun k => (Int32.ofNat (mk k (fun j => (nv r (16 + j)).testBit p)), Int32.ofNat k)) 8 _ (fun k hk n => ?_) (fun n => rfl) 4096 (by decide)
  show lp_X2_holesInto_4 _ _ _ _ _ _ = lp_X2_holesInto_4 _ _ _ _ _ _
  simp only [lp_X2_holesInto_4]
  simp (disch := omega) only [nm_q, bs_q, on_a, on_m, on_t, ix_on, le_t, le_f, lt_t, lt_f, eq_t, eq_f, ite_b0, ite_b1, ↓reduceIte, i_0, i_1, i_2, i_3, i_4, i_5, i_6, i_7, i_8, i_9, i_10, i_11, i_12, i_13, i_14, i_15, i_16, i_18, i_20, i_22, i_24, i_30, i_31, i_32, i_40, i_48, i_50, i_51, i_52, i_57, i_60, i_64, i_65, i_66, i_67, i_97, i_99, i_100, i_122, i_239, i_240, i_255, i_256, i_304, i_400, i_401, i_704, i_999, i_1000, i_2304, i_3344, i_3648, i_4096, i_9999, i_32767]
  rw [H.ho hk, V.he hk, hold_b _ (V.hb hk) p hp]
  simp only [bs_q]
  rw [wm_mk hk _ _ rfl]
  rfl
theorem c_hereIn {h : Nat} {μ : Mem} {r : Row} (H : HC (μ (h + 1)) r) (V : Vr r) {p : Nat} (hp : p < 8) : f_X1_hereIn h μ (Int32.ofNat p) = some (Int32.ofNat (giS r p)) := by
  have h8 := V.c8
  have e : giS r p = mk 8 (fun g => hrC r g && decide (rm r g = p)) := by
    unfold giS
    rw [mk_pad h8]
    exact mk_cg fun k _ => by unfold hrC; rw [Bool.and_assoc]
  rw [e]
  refine lpF (fun n (s : Int32 × Int32) => lp_X1_hereIn_4 (Int32.ofNat p) h μ n s.1 s.2) (fun k => (Int32.ofNat (mk k (fun g => hrC r g && decide (rm r g = p))), Int32.ofNat k)) 8 _ (fun k hk n => ?_) (fun n => rfl) 4096 (by decide)
  show lp_X1_hereIn_4 _ _ _ _ _ _ = lp_X1_hereIn_4 _ _ _ _ _ _
  have hr8 := V.rm8 hk
  simp only [lp_X1_hereIn_4]
  rw [c_here H V hk]
  simp (disch := omega) only [nm_q, bs_q, on_a, on_m, on_t, ix_on, le_t, le_f, lt_t, lt_f, eq_t, eq_f, ite_b0, ite_b1, ↓reduceIte, i_0, i_1, i_2, i_3, i_4, i_5, i_6, i_7, i_8, i_9, i_10, i_11, i_12, i_13, i_14, i_15, i_16, i_18, i_20, i_22, i_24, i_30, i_31, i_32, i_40, i_48, i_50, i_51, i_52, i_57, i_60, i_64, i_65, i_66, i_67, i_97, i_99, i_100, i_122, i_239, i_240, i_255, i_256, i_304, i_400, i_401, i_704, i_999, i_1000, i_2304, i_3344, i_3648, i_4096, i_9999, i_32767]
  cases hq : hrC r k
  · rw [if_neg (by decide), wm_0 hk _ (by rw [hq]; rfl)]
    rfl
  · rw [if_pos rfl, (H.g (hrC_lt hq)).1, V.rme hk, il_eq (by omega) (by omega)]
    by_cases h2 : rm r k = p
    · rw [if_pos h2, wm_1 hk _ (by rw [hq, decide_eq_true h2]; rfl)]
      rfl
    · rw [if_neg h2, wm_0 hk _ (by rw [hq, decide_eq_false h2]; rfl)]
      rfl
def occS (r : Row) : Nat := mk 8 (fun p => !(giS r p == 0))
theorem c_roomsHere {h : Nat} {μ : Mem} {r : Row} (H : HC (μ (h + 1)) r) (V : Vr r) : f_X1_roomsHere h μ = some (Int32.ofNat (occS r)) := by
  refine lpF (fun n (s : Int32 × Int32) => lp_X1_roomsHere_4 h μ n s.1 s.2) (fun k => (Int32.ofNat (mk k (fun p => !(giS r p == 0))), Int32.ofNat k)) 8 _ (fun k hk n => ?_) (fun n => rfl) 4096 (by decide)
  show lp_X1_roomsHere_4 _ _ _ _ _ = lp_X1_roomsHere_4 _ _ _ _ _
  have hg := gi_256 V k
  simp only [lp_X1_roomsHere_4]
  rw [c_hereIn H V hk]
  simp (disch := omega) only [nm_q, bs_q, on_a, on_m, on_t, ix_on, le_t, le_f, lt_t, lt_f, eq_t, eq_f, ite_b0, ite_b1, ↓reduceIte, i_0, i_1, i_2, i_3, i_4, i_5, i_6, i_7, i_8, i_9, i_10, i_11, i_12, i_13, i_14, i_15, i_16, i_18, i_20, i_22, i_24, i_30, i_31, i_32, i_40, i_48, i_50, i_51, i_52, i_57, i_60, i_64, i_65, i_66, i_67, i_97, i_99, i_100, i_122, i_239, i_240, i_255, i_256, i_304, i_400, i_401, i_704, i_999, i_1000, i_2304, i_3344, i_3648, i_4096, i_9999, i_32767]
  rw [il_eq (by omega) (by omega)]
  by_cases h2 : giS r k = 0
  · rw [if_pos h2, wm_0 hk _ (by rw [h2]; rfl)]
    rfl
  · rw [if_neg h2, wm_1 hk _ (by simp [h2])]
    rfl
def rsk (r : Row) (a : Nat) : Nat := sm 8 (fun g => if a.testBit g = true then rkN r g else 0)
theorem c_riskOf {h : Nat} {μ : Mem} {r : Row} (H : HC (μ (h + 1)) r) (V : Vr r) {a : Nat} (ha : a < 256) (hb : ∀ g, g < 8 → a.testBit g = true → g < nv r 3) : f_X1_riskOf h μ (Int32.ofNat a) = some (Int32.ofNat (rsk r a)) := by
  refine lpF (fun n (s : Int32 × Int32) => lp_X1_riskOf_4 (Int32.ofNat a) h μ n s.1 s.2) (fun k => (Int32.ofNat (sm k (fun g => if a.testBit g = true then rkN r g else 0)), Int32.ofNat k)) 8 _ (fun k hk n => ?_) (fun n => rfl) 4096 (by decide)
  show lp_X1_riskOf_4 _ _ _ _ _ _ = lp_X1_riskOf_4 _ _ _ _ _ _
  simp only [lp_X1_riskOf_4]
  rw [hold_b a ha k hk]
  simp (disch := omega) only [nm_q, bs_q, on_a, on_m, on_t, ix_on, le_t, le_f, lt_t, lt_f, eq_t, eq_f, ite_b0, ite_b1, ↓reduceIte, i_0, i_1, i_2, i_3, i_4, i_5, i_6, i_7, i_8, i_9, i_10, i_11, i_12, i_13, i_14, i_15, i_16, i_18, i_20, i_22, i_24, i_30, i_31, i_32, i_40, i_48, i_50, i_51, i_52, i_57, i_60, i_64, i_65, i_66, i_67, i_97, i_99, i_100, i_122, i_239, i_240, i_255, i_256, i_304, i_400, i_401, i_704, i_999, i_1000, i_2304, i_3344, i_3648, i_4096, i_9999, i_32767]
  rw [sm_s]
  by_cases h1 : a.testBit k = true
  · rw [if_pos h1, if_pos h1, c_risk H V (hb k hk h1)]
    simp only [bs_q, on_a]
  · rw [if_neg h1, if_neg h1]
theorem r_risksOf {μ : Mem} (V : Vr (μ 0 13)) {a : Nat} (ha : a < 256) (hb : ∀ g, g < 8 → a.testBit g = true → g < nv (μ 0 13) 3) : f_X10_risksOf μ (Int32.ofNat a) = some (Int32.ofNat (rsk (μ 0 13) a)) := by
  have h8 := V.c8
  have e : rsk (μ 0 13) a = sm (nv (μ 0 13) 3) (fun g => if a.testBit g = true then rkN (μ 0 13) g else 0) := (sm_pad h8 (fun k _ => rfl) (fun k h1 h2 => by
    by_cases h3 : a.testBit k = true
    · have := hb k h2 h3
      omega
    · rw [if_neg h3])).symm
  rw [e]
  refine lpF (fun n (s : Int32 × Int32) => lp_X10_risksOf_4 (Int32.ofNat a) μ n s.1 s.2) (fun k => (Int32.ofNat (sm k (fun g => if a.testBit g = true then rkN (μ 0 13) g else 0)), Int32.ofNat k)) (nv (μ 0 13) 3) _ (fun k hk n => ?_) (fun n => ?_) 4096 (by omega)
  · show lp_X10_risksOf_4 _ _ _ _ _ = lp_X10_risksOf_4 _ _ _ _ _
    simp only [lp_X10_risksOf_4, i_3]
    rw [isOf_b a ha k (by omega), r_risk V (by omega)]
    simp (disch := omega) only [nm_q, bs_q, on_a, on_m, on_t, ix_on, le_t, le_f, lt_t, lt_f, eq_t, eq_f, ite_b0, ite_b1, ↓reduceIte, i_0, i_1, i_2, i_3, i_4, i_5, i_6, i_7, i_8, i_9, i_10, i_11, i_12, i_13, i_14, i_15, i_16, i_18, i_20, i_22, i_24, i_30, i_31, i_32, i_40, i_48, i_50, i_51, i_52, i_57, i_60, i_64, i_65, i_66, i_67, i_97, i_99, i_100, i_122, i_239, i_240, i_255, i_256, i_304, i_400, i_401, i_704, i_999, i_1000, i_2304, i_3344, i_3648, i_4096, i_9999, i_32767, V.e3]
    rw [sm_s]
    by_cases h1 : a.testBit k = true
    · rw [if_pos h1, if_pos h1]
    · rw [if_neg h1, if_neg h1]
  · show lp_X10_risksOf_4 _ _ _ _ _ = _
    simp only [lp_X10_risksOf_4, i_3]
    simp (disch := omega) only [nm_q, bs_q, on_a, on_m, on_t, ix_on, le_t, le_f, lt_t, lt_f, eq_t, eq_f, ite_b0, ite_b1, ↓reduceIte, i_0, i_1, i_2, i_3, i_4, i_5, i_6, i_7, i_8, i_9, i_10, i_11, i_12, i_13, i_14, i_15, i_16, i_18, i_20, i_22, i_24, i_30, i_31, i_32, i_40, i_48, i_50, i_51, i_52, i_57, i_60, i_64, i_65, i_66, i_67, i_97, i_99, i_100, i_122, i_239, i_240, i_255, i_256, i_304, i_400, i_401, i_704, i_999, i_1000, i_2304, i_3344, i_3648, i_4096, i_9999, i_32767, V.e3]
def dbH (r : Row) : Nat := sm 8 (fun g => if hrC r g = true then nv r (24 + 5 * g + 2) else 0)
theorem c_doubtHere {h : Nat} {μ : Mem} {r : Row} (H : HC (μ (h + 1)) r) (V : Vr r) : f_X1_doubtHere h μ = some (Int32.ofNat (dbH r)) := by
  refine lpF (fun n (s : Int32 × Int32) => lp_X1_doubtHere_4 h μ n s.1 s.2) (fun k => (Int32.ofNat (sm k (fun g => if hrC r g = true then nv r (24 + 5 * g + 2) else 0)), Int32.ofNat k)) 8 _ (fun k hk n => ?_) (fun n => rfl) 4096 (by decide)
  show lp_X1_doubtHere_4 _ _ _ _ _ = lp_X1_doubtHere_4 _ _ _ _ _
  simp only [lp_X1_doubtHere_4]
  rw [c_here H V hk]
  simp (disch := omega) only [nm_q, bs_q, on_a, on_m, on_t, ix_on, le_t, le_f, lt_t, lt_f, eq_t, eq_f, ite_b0, ite_b1, ↓reduceIte, i_0, i_1, i_2, i_3, i_4, i_5, i_6, i_7, i_8, i_9, i_10, i_11, i_12, i_13, i_14, i_15, i_16, i_18, i_20, i_22, i_24, i_30, i_31, i_32, i_40, i_48, i_50, i_51, i_52, i_57, i_60, i_64, i_65, i_66, i_67, i_97, i_99, i_100, i_122, i_239, i_240, i_255, i_256, i_304, i_400, i_401, i_704, i_999, i_1000, i_2304, i_3344, i_3648, i_4096, i_9999, i_32767]
  rw [sm_s]
  by_cases h1 : hrC r k = true
  · rw [if_pos h1, if_pos h1, (H.g (hrC_lt h1)).2.2, V.ge hk 2 (by decide), on_a]
  · rw [if_neg h1, if_neg h1]
theorem r_doubts {μ : Mem} (V : Vr (μ 0 13)) : f_X10_doubts μ = some (Int32.ofNat (dbH (μ 0 13))) := by
  have h8 := V.c8
  have e : dbH (μ 0 13) = sm (nv (μ 0 13) 3) (fun g => if hrB (μ 0 13) g = true then nv (μ 0 13) (24 + 5 * g + 2) else 0) := (sm_pad h8 (fun k hk => by unfold hrC; rw [decide_eq_true hk, Bool.true_and]) (fun k h1 h2 => by
    unfold hrC
    rw [decide_eq_false (by omega), Bool.false_and, if_neg (by decide)])).symm
  rw [e]
  refine lpF (fun n (s : Int32 × Int32) => lp_X10_doubts_4 μ n s.1 s.2) (fun k => (Int32.ofNat (sm k (fun g => if hrB (μ 0 13) g = true then nv (μ 0 13) (24 + 5 * g + 2) else 0)), Int32.ofNat k)) (nv (μ 0 13) 3) _ (fun k hk n => ?_) (fun n => ?_) 4096 (by omega)
  · show lp_X10_doubts_4 _ _ _ _ = lp_X10_doubts_4 _ _ _ _
    simp only [lp_X10_doubts_4, i_3, i_2]
    rw [r_here (by omega), r_of (by omega) (by decide), V.ge (by omega) 2 (by decide)]
    simp (disch := omega) only [nm_q, bs_q, on_a, on_m, on_t, ix_on, le_t, le_f, lt_t, lt_f, eq_t, eq_f, ite_b0, ite_b1, ↓reduceIte, i_0, i_1, i_2, i_3, i_4, i_5, i_6, i_7, i_8, i_9, i_10, i_11, i_12, i_13, i_14, i_15, i_16, i_18, i_20, i_22, i_24, i_30, i_31, i_32, i_40, i_48, i_50, i_51, i_52, i_57, i_60, i_64, i_65, i_66, i_67, i_97, i_99, i_100, i_122, i_239, i_240, i_255, i_256, i_304, i_400, i_401, i_704, i_999, i_1000, i_2304, i_3344, i_3648, i_4096, i_9999, i_32767, V.e3]
    rw [sm_s]
    by_cases h1 : hrB (μ 0 13) k = true
    · rw [if_pos h1, if_pos h1]
    · rw [if_neg h1, if_neg h1]
  · show lp_X10_doubts_4 _ _ _ _ = _
    simp only [lp_X10_doubts_4, i_3]
    simp (disch := omega) only [nm_q, bs_q, on_a, on_m, on_t, ix_on, le_t, le_f, lt_t, lt_f, eq_t, eq_f, ite_b0, ite_b1, ↓reduceIte, i_0, i_1, i_2, i_3, i_4, i_5, i_6, i_7, i_8, i_9, i_10, i_11, i_12, i_13, i_14, i_15, i_16, i_18, i_20, i_22, i_24, i_30, i_31, i_32, i_40, i_48, i_50, i_51, i_52, i_57, i_60, i_64, i_65, i_66, i_67, i_97, i_99, i_100, i_122, i_239, i_240, i_255, i_256, i_304, i_400, i_401, i_704, i_999, i_1000, i_2304, i_3344, i_3648, i_4096, i_9999, i_32767, V.e3]
def hoA (r : Row) : Nat := sm 8 (fun k => pc (nv r (16 + k)))
theorem c_allHoles {h : Nat} {μ : Mem} {r : Row} (H : HC (μ (h + 1)) r) (V : Vr r) : f_X2_allHoles h μ = some (Int32.ofNat (hoA r)) := by
  refine lpF (fun n (s : Int32 × Int32) => lp_X2_allHoles_4 h μ n s.1 s.2) (fun k => (Int32.ofNat (sm k (fun k => pc (nv r (16 + k)))), Int32.ofNat k)) 8 _ (fun k hk n => ?_) (fun n => rfl) 4096 (by decide)
  show lp_X2_allHoles_4 _ _ _ _ _ = lp_X2_allHoles_4 _ _ _ _ _
  simp only [lp_X2_allHoles_4]
  simp (disch := omega) only [nm_q, bs_q, on_a, on_m, on_t, ix_on, le_t, le_f, lt_t, lt_f, eq_t, eq_f, ite_b0, ite_b1, ↓reduceIte, i_0, i_1, i_2, i_3, i_4, i_5, i_6, i_7, i_8, i_9, i_10, i_11, i_12, i_13, i_14, i_15, i_16, i_18, i_20, i_22, i_24, i_30, i_31, i_32, i_40, i_48, i_50, i_51, i_52, i_57, i_60, i_64, i_65, i_66, i_67, i_97, i_99, i_100, i_122, i_239, i_240, i_255, i_256, i_304, i_400, i_401, i_704, i_999, i_1000, i_2304, i_3344, i_3648, i_4096, i_9999, i_32767]
  rw [H.ho hk, V.he hk, bc_b _ (V.hb hk)]
  simp only [bs_q, on_a]
  rfl
theorem r_holes {μ : Mem} (V : Vr (μ 0 13)) : f_X10_holes μ = some (Int32.ofNat (hoA (μ 0 13))) := by
  refine lpF (fun n (s : Int32 × Int32) => lp_X10_holes_4 μ n s.1 s.2) (fun k => (Int32.ofNat (sm k (fun k => pc (nv (μ 0 13) (16 + k)))), Int32.ofNat k)) 8 _ (fun k hk n => ?_) (fun n => rfl) 4096 (by decide)
  show lp_X10_holes_4 _ _ _ _ = lp_X10_holes_4 _ _ _ _
  simp only [lp_X10_holes_4]
  simp (disch := omega) only [nm_q, bs_q, on_a, on_m, on_t, ix_on, le_t, le_f, lt_t, lt_f, eq_t, eq_f, ite_b0, ite_b1, ↓reduceIte, i_0, i_1, i_2, i_3, i_4, i_5, i_6, i_7, i_8, i_9, i_10, i_11, i_12, i_13, i_14, i_15, i_16, i_18, i_20, i_22, i_24, i_30, i_31, i_32, i_40, i_48, i_50, i_51, i_52, i_57, i_60, i_64, i_65, i_66, i_67, i_97, i_99, i_100, i_122, i_239, i_240, i_255, i_256, i_304, i_400, i_401, i_704, i_999, i_1000, i_2304, i_3344, i_3648, i_4096, i_9999, i_32767, V.e3]
  rw [V.he hk, bits_b _ (V.hb hk)]
  simp only [bs_q, on_a]
  rfl
/-- the least and the greatest doubt of those here -/
def lh (r : Row) : Nat → Nat × Nat
  | 0 => (99, 0)
  | k + 1 => if hrC r k = true then (min (lh r k).1 (nv r (24 + 5 * k + 2)), max (lh r k).2 (nv r (24 + 5 * k + 2))) else lh r k
theorem lh_b {r : Row} (V : Vr r) : ∀ k, k ≤ 8 → (lh r k).1 ≤ 99 ∧ (lh r k).2 ≤ 99 := by
  intro k
  induction k with
  | zero => intro _; exact ⟨Nat.le_refl _, Nat.zero_le _⟩
  | succ k ih =>
    intro hk
    have h2 := V.gb (g := k) (by omega) 2 (by decide)
    have b2 : bdg 2 = 99 := rfl
    have := ih (by omega)
    show (if hrC r k = true then _ else _ : Nat × Nat).1 ≤ 99 ∧ (if hrC r k = true then _ else _ : Nat × Nat).2 ≤ 99
    split
    · simp only
      omega
    · exact this
theorem c_spreadHere {h : Nat} {μ : Mem} {r : Row} (H : HC (μ (h + 1)) r) (V : Vr r) : f_X1_spreadHere h μ = some (if mk (nv r 3) (hrB r) = 0 then Int32.ofNat 0 else Int32.ofNat (lh r 8).2 - Int32.ofNat (lh r 8).1) := by
  have h8 := V.c8
  unfold f_X1_spreadHere
  refine lpF (fun n (s : Int32 × Int32 × Int32) => lp_X1_spreadHere_7 h μ _ n s.1 s.2.1 s.2.2) (fun k => (Int32.ofNat (lh r k).1, Int32.ofNat (lh r k).2, Int32.ofNat k)) 8 _ (fun k hk n => ?_) (fun n => ?_) 4096 (by decide)
  · show lp_X1_spreadHere_7 _ _ _ _ _ _ _ = lp_X1_spreadHere_7 _ _ _ _ _ _ _
    have hb := lh_b V k (by omega)
    have h2 := V.gb hk 2 (by decide)
    have b2 : bdg 2 = 99 := rfl
    simp only [lp_X1_spreadHere_7]
    rw [c_here H V hk]
    simp (disch := omega) only [nm_q, bs_q, on_a, on_m, on_t, ix_on, le_t, le_f, lt_t, lt_f, eq_t, eq_f, ite_b0, ite_b1, ↓reduceIte, i_0, i_1, i_2, i_3, i_4, i_5, i_6, i_7, i_8, i_9, i_10, i_11, i_12, i_13, i_14, i_15, i_16, i_18, i_20, i_22, i_24, i_30, i_31, i_32, i_40, i_48, i_50, i_51, i_52, i_57, i_60, i_64, i_65, i_66, i_67, i_97, i_99, i_100, i_122, i_239, i_240, i_255, i_256, i_304, i_400, i_401, i_704, i_999, i_1000, i_2304, i_3344, i_3648, i_4096, i_9999, i_32767]
    by_cases h1 : hrC r k = true
    · rw [if_pos h1, (H.g (hrC_lt h1)).2.2, V.ge hk 2 (by decide), on_min (by omega) (by omega), on_max (by omega) (by omega)]
      simp only [lh, if_pos h1]
    · rw [if_neg h1]
      simp only [lh, if_neg h1]
  · show lp_X1_spreadHere_7 _ _ _ _ _ _ _ = _
    simp only [lp_X1_spreadHere_7]
    simp (disch := omega) only [nm_q, bs_q, on_a, on_m, on_t, ix_on, le_t, le_f, lt_t, lt_f, eq_t, eq_f, ite_b0, ite_b1, ↓reduceIte, i_0, i_1, i_2, i_3, i_4, i_5, i_6, i_7, i_8, i_9, i_10, i_11, i_12, i_13, i_14, i_15, i_16, i_18, i_20, i_22, i_24, i_30, i_31, i_32, i_40, i_48, i_50, i_51, i_52, i_57, i_60, i_64, i_65, i_66, i_67, i_97, i_99, i_100, i_122, i_239, i_240, i_255, i_256, i_304, i_400, i_401, i_704, i_999, i_1000, i_2304, i_3344, i_3648, i_4096, i_9999, i_32767]
    rw [H.hr, il_eq (Nat.lt_of_lt_of_le (mk_lt _ _) (Nat.le_trans (Nat.pow_le_pow_right (by omega) h8) (by decide))) (by omega)]
    split <;> rfl
