/-! ===== questions answered alike: pairs, count, shut ===== -/
def b2n (b : Bool) : Nat := if b = true then 1 else 0
def alB (r : Row) (g o : Nat) : Bool := decide (nv r (24 + 5 * g + 1) = nv r (24 + 5 * o + 1)) && decide (rm r g = rm r o)
theorem al_in {μ : Mem} {r : Row} (H : HC (μ (0 + 1)) r) (V : Vr r) {g s : Nat} (hg : g < nv r 3) (K : Int32 → Option Int32) : lp_X9_alike_22 μ (Int32.ofNat g) K 4096 (Int32.ofNat s) (Int32.ofNat (g + 1)) = K (Int32.ofNat (s + sm (nv r 3 - (g + 1)) (fun j => b2n (alB r g (g + 1 + j))))) := by
  have h8 := V.c8
  have hc : μ 1 1 3 = Int32.ofNat (nv r 3) := H.cnt.trans V.e3
  refine lpF (fun n (s : Int32 × Int32) => lp_X9_alike_22 μ (Int32.ofNat g) K n s.1 s.2) (fun k => (Int32.ofNat (s + sm k (fun j => b2n (alB r g (g + 1 + j)))), Int32.ofNat (g + 1 + k))) (nv r 3 - (g + 1)) _ (fun k hk n => ?_) (fun n => ?_) 4096 (by omega)
  · show lp_X9_alike_22 _ _ _ _ _ _ = lp_X9_alike_22 _ _ _ _ _ _
    have hk8 : g + 1 + k < 8 := by omega
    have w1 := V.gb (g := g) (by omega) 1 (by decide)
    have w2 := V.gb hk8 1 (by decide)
    have b1 : bdg 1 = 10 := rfl
    have r1 := V.rm8 (g := g) (by omega)
    have r2 := V.rm8 hk8
    simp (disch := omega) only [lp_X9_alike_22, hc, c_wish, c_room, (H.g hg).1, (H.g hg).2.1, (H.g (show g + 1 + k < nv r 3 by omega)).1, (H.g (show g + 1 + k < nv r 3 by omega)).2.1, V.rme (show g < 8 by omega), V.rme hk8, V.ge (show g < 8 by omega) 1 (by decide), V.ge hk8 1 (by decide), nm_q, bs_q, on_a, on_m, on_t, ix_on, le_t, le_f, lt_t, lt_f, eq_t, eq_f, ite_b0, ite_b1, ↓reduceIte, i_0, i_1, i_2, i_3, i_4, i_5, i_6, i_7, i_8, i_9, i_10, i_11, i_12, i_13, i_14, i_15, i_16, i_18, i_20, i_22, i_24, i_30, i_31, i_32, i_40, i_48, i_50, i_51, i_52, i_57, i_60, i_64, i_65, i_66, i_67, i_97, i_99, i_100, i_122, i_239, i_240, i_255, i_256, i_304, i_400, i_401, i_704, i_999, i_1000, i_2304, i_3344, i_3648, i_4096, i_9999, i_32767]
    rw [il_eq (by omega) (by omega), il_eq (by omega) (by omega), sm_s]
    unfold b2n alB
    by_cases e1 : nv r (24 + 5 * g + 1) = nv r (24 + 5 * (g + 1 + k) + 1)
    · by_cases e2 : rm r g = rm r (g + 1 + k)
      · rw [if_pos e1, if_pos e2, decide_eq_true e1, decide_eq_true e2]
        rfl
      · rw [if_pos e1, if_neg e2, decide_eq_true e1, decide_eq_false e2]
        rfl
    · rw [if_neg e1, decide_eq_false e1]
      rfl
  · show lp_X9_alike_22 _ _ _ _ _ _ = _
    rw [show g + 1 + (nv r 3 - (g + 1)) = nv r 3 by omega]
    simp (disch := omega) only [lp_X9_alike_22, hc, nm_q, bs_q, on_a, on_m, on_t, ix_on, le_t, le_f, lt_t, lt_f, eq_t, eq_f, ite_b0, ite_b1, ↓reduceIte, i_0, i_1, i_2, i_3, i_4, i_5, i_6, i_7, i_8, i_9, i_10, i_11, i_12, i_13, i_14, i_15, i_16, i_18, i_20, i_22, i_24, i_30, i_31, i_32, i_40, i_48, i_50, i_51, i_52, i_57, i_60, i_64, i_65, i_66, i_67, i_97, i_99, i_100, i_122, i_239, i_240, i_255, i_256, i_304, i_400, i_401, i_704, i_999, i_1000, i_2304, i_3344, i_3648, i_4096, i_9999, i_32767]
theorem ral_in {μ : Mem} {r : Row} (e : μ 0 13 = r) (V : Vr r) {g s : Nat} (hg : g < nv r 3) (K : Int32 → Option (Int32 × Mem)) : lp_X10_alike_23 μ (Int32.ofNat g) K 4096 (Int32.ofNat s) (Int32.ofNat (g + 1)) = K (Int32.ofNat (s + sm (nv r 3 - (g + 1)) (fun j => b2n (alB r g (g + 1 + j))))) := by
  have h8 := V.c8
  refine lpF (fun n (s : Int32 × Int32) => lp_X10_alike_23 μ (Int32.ofNat g) K n s.1 s.2) (fun k => (Int32.ofNat (s + sm k (fun j => b2n (alB r g (g + 1 + j)))), Int32.ofNat (g + 1 + k))) (nv r 3 - (g + 1)) _ (fun k hk n => ?_) (fun n => ?_) 4096 (by omega)
  · show lp_X10_alike_23 _ _ _ _ _ _ = lp_X10_alike_23 _ _ _ _ _ _
    have hk8 : g + 1 + k < 8 := by omega
    have hg8 : g < 8 := by omega
    have w1 := V.gb hg8 1 (by decide)
    have w2 := V.gb hk8 1 (by decide)
    have b1 : bdg 1 = 10 := rfl
    have r1 := V.rm8 hg8
    have r2 := V.rm8 hk8
    simp (disch := omega) only [lp_X10_alike_23, e, V.e3, R_of0 e hg8, R_of0 e hk8, R_of e hg8, R_of e hk8, V.rme hg8, V.rme hk8, V.ge hg8 1 (by decide), V.ge hk8 1 (by decide), nm_q, bs_q, on_a, on_m, on_t, ix_on, le_t, le_f, lt_t, lt_f, eq_t, eq_f, ite_b0, ite_b1, ↓reduceIte, i_0, i_1, i_2, i_3, i_4, i_5, i_6, i_7, i_8, i_9, i_10, i_11, i_12, i_13, i_14, i_15, i_16, i_18, i_20, i_22, i_24, i_30, i_31, i_32, i_40, i_48, i_50, i_51, i_52, i_57, i_60, i_64, i_65, i_66, i_67, i_97, i_99, i_100, i_122, i_239, i_240, i_255, i_256, i_304, i_400, i_401, i_704, i_999, i_1000, i_2304, i_3344, i_3648, i_4096, i_9999, i_32767]
    rw [il_eq (by omega) (by omega), il_eq (by omega) (by omega), sm_s]
    unfold b2n alB
    by_cases e1 : nv r (24 + 5 * g + 1) = nv r (24 + 5 * (g + 1 + k) + 1)
    · by_cases e2 : rm r g = rm r (g + 1 + k)
      · rw [if_pos e1, if_pos e2, decide_eq_true e1, decide_eq_true e2]
        rfl
      · rw [if_pos e1, if_neg e2, decide_eq_true e1, decide_eq_false e2]
        rfl
    · rw [if_neg e1, decide_eq_false e1]
      rfl
  · show lp_X10_alike_23 _ _ _ _ _ _ = _
    rw [show g + 1 + (nv r 3 - (g + 1)) = nv r 3 by omega]
    simp (disch := omega) only [lp_X10_alike_23, e, V.e3, nm_q, bs_q, on_a, on_m, on_t, ix_on, le_t, le_f, lt_t, lt_f, eq_t, eq_f, ite_b0, ite_b1, ↓reduceIte, i_0, i_1, i_2, i_3, i_4, i_5, i_6, i_7, i_8, i_9, i_10, i_11, i_12, i_13, i_14, i_15, i_16, i_18, i_20, i_22, i_24, i_30, i_31, i_32, i_40, i_48, i_50, i_51, i_52, i_57, i_60, i_64, i_65, i_66, i_67, i_97, i_99, i_100, i_122, i_239, i_240, i_255, i_256, i_304, i_400, i_401, i_704, i_999, i_1000, i_2304, i_3344, i_3648, i_4096, i_9999, i_32767]
theorem e_X9_alike (μ : Mem) : f_X9_alike μ = lp_X9_alike_4 μ 4096 0 0 := by
  unfold f_X9_alike
  rfl
theorem e_X10_alike (μ : Mem) : f_X10_alike μ = lp_X10_alike_9 (upm μ 0 12 0 0) 4096 0 0 := by
  unfold f_X10_alike
  rw [nm_q]
theorem q_alike {μ : Mem} (R : Rel μ) : AgQ (f_X9_alike μ) (f_X10_alike μ) := by
  have V := R.V
  have H : HC (μ (0 + 1)) (μ 0 13) := R.H
  have h8 := V.c8
  have hc : μ 1 1 3 = Int32.ofNat (nv (μ 0 13) 3) := H.cnt.trans V.e3
  refine AgQ.a R ⟨Int32.ofNat (sm (nv (μ 0 13) 3) (fun g => sm (nv (μ 0 13) 3 - (g + 1)) (fun j => b2n (alB (μ 0 13) g (g + 1 + j))))), ?_, ?_⟩
  · rw [e_X9_alike]
    refine lpF (fun n (s : Int32 × Int32) => lp_X9_alike_4 μ n s.1 s.2) (fun k => (Int32.ofNat (sm k (fun g => sm (nv (μ 0 13) 3 - (g + 1)) (fun j => b2n (alB (μ 0 13) g (g + 1 + j))))), Int32.ofNat k)) (nv (μ 0 13) 3) _ (fun k hk n => ?_) (fun n => ?_) 4096 (by omega)
    · show lp_X9_alike_4 _ _ _ _ = lp_X9_alike_4 _ _ _ _
      rw [lp_X9_alike_4, hc, if_neg (by rw [on_le (by omega) (by omega)]; omega), i_1, on_a, al_in H V hk, sm_s]
    · show lp_X9_alike_4 _ _ _ _ = _
      rw [lp_X9_alike_4, hc, if_pos (Int32.le_refl _)]
  · rw [e_X10_alike]
    refine lpF (fun n (s : Int32 × Int32) => lp_X10_alike_9 (upm μ 0 12 0 0) n s.1 s.2) (fun k => (Int32.ofNat (sm k (fun g => sm (nv (μ 0 13) 3 - (g + 1)) (fun j => b2n (alB (μ 0 13) g (g + 1 + j))))), Int32.ofNat k)) (nv (μ 0 13) 3) _ (fun k hk n => ?_) (fun n => ?_) 4096 (by omega)
    · show lp_X10_alike_9 _ _ _ _ = lp_X10_alike_9 _ _ _ _
      rw [lp_X10_alike_9, i_3, ix_on (by decide) (by decide), on_t (by decide), up0, V.e3, if_neg (by rw [on_le (by omega) (by omega)]; omega), i_1, on_a, ral_in (up0 _ _) V hk, sm_s]
    · show lp_X10_alike_9 _ _ _ _ = _
      rw [lp_X10_alike_9, i_3, ix_on (by decide) (by decide), on_t (by decide), up0, V.e3, if_pos (Int32.le_refl _)]
def muB (r : Row) (g o : Nat) : Bool := hrC r g && (hrC r o && (seB r g (rm r o) && seB r o (rm r g)))
theorem mu_in {μ : Mem} {r : Row} (H : HC (μ (0 + 1)) r) (V : Vr r) {g s : Nat} (hg : g < 8) (K : Int32 → Option Int32) : lp_X9_mutual_14 μ (Int32.ofNat g) K 4096 (Int32.ofNat s) (Int32.ofNat (g + 1)) = K (Int32.ofNat (s + sm (8 - (g + 1)) (fun j => b2n (muB r g (g + 1 + j))))) := by
  have h8 := V.c8
  refine lpF (fun n (s : Int32 × Int32) => lp_X9_mutual_14 μ (Int32.ofNat g) K n s.1 s.2) (fun k => (Int32.ofNat (s + sm k (fun j => b2n (muB r g (g + 1 + j)))), Int32.ofNat (g + 1 + k))) (8 - (g + 1)) _ (fun k hk n => ?_) (fun n => ?_) 4096 (by omega)
  · show lp_X9_mutual_14 _ _ _ _ _ _ = lp_X9_mutual_14 _ _ _ _ _ _
    have hk8 : g + 1 + k < 8 := by omega
    simp (disch := omega) only [lp_X9_mutual_14, c_here (h := 0) H V hg, c_here (h := 0) H V hk8, nm_q, bs_q, on_a, on_m, on_t, ix_on, le_t, le_f, lt_t, lt_f, eq_t, eq_f, ite_b0, ite_b1, ↓reduceIte, i_0, i_1, i_2, i_3, i_4, i_5, i_6, i_7, i_8, i_9, i_10, i_11, i_12, i_13, i_14, i_15, i_16, i_18, i_20, i_22, i_24, i_30, i_31, i_32, i_40, i_48, i_50, i_51, i_52, i_57, i_60, i_64, i_65, i_66, i_67, i_97, i_99, i_100, i_122, i_239, i_240, i_255, i_256, i_304, i_400, i_401, i_704, i_999, i_1000, i_2304, i_3344, i_3648, i_4096, i_9999, i_32767]
    rw [sm_s]
    unfold b2n muB
    cases h1 : hrC r g
    · rw [if_neg (by decide)]
      rfl
    · rw [if_pos rfl]
      cases h2 : hrC r (g + 1 + k)
      · rw [if_neg (by decide)]
        rfl
      · rw [if_pos rfl]
        simp (disch := omega) only [c_spies H V (hrC_lt h1), c_spies H V (hrC_lt h2), c_room, (H.g (hrC_lt h1)).1, (H.g (hrC_lt h2)).1, V.rme hg, V.rme hk8, hold_b _ (mk_256 _ (Nat.le_refl 8)) _ (V.rm8 hk8), hold_b _ (mk_256 _ (Nat.le_refl 8)) _ (V.rm8 hg), mk_tb, V.rm8 hk8, V.rm8 hg, decide_true, Bool.true_and, nm_q, bs_q, on_a, on_m, on_t, ix_on, le_t, le_f, lt_t, lt_f, eq_t, eq_f, ite_b0, ite_b1, ↓reduceIte, i_0, i_1, i_2, i_3, i_4, i_5, i_6, i_7, i_8, i_9, i_10, i_11, i_12, i_13, i_14, i_15, i_16, i_18, i_20, i_22, i_24, i_30, i_31, i_32, i_40, i_48, i_50, i_51, i_52, i_57, i_60, i_64, i_65, i_66, i_67, i_97, i_99, i_100, i_122, i_239, i_240, i_255, i_256, i_304, i_400, i_401, i_704, i_999, i_1000, i_2304, i_3344, i_3648, i_4096, i_9999, i_32767]
        cases h3 : seB r g (rm r (g + 1 + k))
        · rw [if_neg (by decide)]
          rfl
        · rw [if_pos rfl]
          cases h4 : seB r (g + 1 + k) (rm r g)
          · rw [if_neg (by decide)]
            rfl
          · rw [if_pos rfl]
            rfl
  · show lp_X9_mutual_14 _ _ _ _ _ _ = _
    rw [show g + 1 + (8 - (g + 1)) = 8 by omega]
    simp (disch := omega) only [lp_X9_mutual_14, nm_q, bs_q, on_a, on_m, on_t, ix_on, le_t, le_f, lt_t, lt_f, eq_t, eq_f, ite_b0, ite_b1, ↓reduceIte, i_0, i_1, i_2, i_3, i_4, i_5, i_6, i_7, i_8, i_9, i_10, i_11, i_12, i_13, i_14, i_15, i_16, i_18, i_20, i_22, i_24, i_30, i_31, i_32, i_40, i_48, i_50, i_51, i_52, i_57, i_60, i_64, i_65, i_66, i_67, i_97, i_99, i_100, i_122, i_239, i_240, i_255, i_256, i_304, i_400, i_401, i_704, i_999, i_1000, i_2304, i_3344, i_3648, i_4096, i_9999, i_32767]
theorem rmu_in {μ : Mem} {r : Row} (e : μ 0 13 = r) (V : Vr r) {g s : Nat} (hg : g < nv r 3) (K : Int32 → Option (Int32 × Mem)) : lp_X10_mutual_23 μ (Int32.ofNat g) K 4096 (Int32.ofNat s) (Int32.ofNat (g + 1)) = K (Int32.ofNat (s + sm (nv r 3 - (g + 1)) (fun j => b2n (muB r g (g + 1 + j))))) := by
  have h8 := V.c8
  refine lpF (fun n (s : Int32 × Int32) => lp_X10_mutual_23 μ (Int32.ofNat g) K n s.1 s.2) (fun k => (Int32.ofNat (s + sm k (fun j => b2n (muB r g (g + 1 + j)))), Int32.ofNat (g + 1 + k))) (nv r 3 - (g + 1)) _ (fun k hk n => ?_) (fun n => ?_) 4096 (by omega)
  · show lp_X10_mutual_23 _ _ _ _ _ _ = lp_X10_mutual_23 _ _ _ _ _ _
    have hk8 : g + 1 + k < 8 := by omega
    have hg8 : g < 8 := by omega
    simp (disch := omega) only [lp_X10_mutual_23, e, V.e3, R_here e hg8, R_here e hk8, R_of0 e hg8, R_of0 e hk8, V.rme hg8, V.rme hk8, R_sees e V hg8 (V.rm8 hk8), R_sees e V hk8 (V.rm8 hg8), nm_q, bs_q, on_a, on_m, on_t, ix_on, le_t, le_f, lt_t, lt_f, eq_t, eq_f, ite_b0, ite_b1, ↓reduceIte, i_0, i_1, i_2, i_3, i_4, i_5, i_6, i_7, i_8, i_9, i_10, i_11, i_12, i_13, i_14, i_15, i_16, i_18, i_20, i_22, i_24, i_30, i_31, i_32, i_40, i_48, i_50, i_51, i_52, i_57, i_60, i_64, i_65, i_66, i_67, i_97, i_99, i_100, i_122, i_239, i_240, i_255, i_256, i_304, i_400, i_401, i_704, i_999, i_1000, i_2304, i_3344, i_3648, i_4096, i_9999, i_32767]
    rw [sm_s]
    unfold b2n muB hrC
    rw [decide_eq_true hg, decide_eq_true (show g + 1 + k < nv r 3 by omega)]
    cases h1 : hrB r g
    · rw [if_neg (by decide)]
      rfl
    · rw [if_pos rfl]
      cases h2 : hrB r (g + 1 + k)
      · rw [if_neg (by decide)]
        rfl
      · rw [if_pos rfl]
        cases h3 : seB r g (rm r (g + 1 + k))
        · rw [if_neg (by decide)]
          rfl
        · rw [if_pos rfl]
          cases h4 : seB r (g + 1 + k) (rm r g)
          · rw [if_neg (by decide)]
            rfl
          · rw [if_pos rfl]
            rfl
  · show lp_X10_mutual_23 _ _ _ _ _ _ = _
    rw [show g + 1 + (nv r 3 - (g + 1)) = nv r 3 by omega]
    simp (disch := omega) only [lp_X10_mutual_23, e, V.e3, nm_q, bs_q, on_a, on_m, on_t, ix_on, le_t, le_f, lt_t, lt_f, eq_t, eq_f, ite_b0, ite_b1, ↓reduceIte, i_0, i_1, i_2, i_3, i_4, i_5, i_6, i_7, i_8, i_9, i_10, i_11, i_12, i_13, i_14, i_15, i_16, i_18, i_20, i_22, i_24, i_30, i_31, i_32, i_40, i_48, i_50, i_51, i_52, i_57, i_60, i_64, i_65, i_66, i_67, i_97, i_99, i_100, i_122, i_239, i_240, i_255, i_256, i_304, i_400, i_401, i_704, i_999, i_1000, i_2304, i_3344, i_3648, i_4096, i_9999, i_32767]
theorem e_X9_mutual (μ : Mem) : f_X9_mutual μ = lp_X9_mutual_4 μ 4096 0 0 := by
  unfold f_X9_mutual
  rfl
theorem e_X10_mutual (μ : Mem) : f_X10_mutual μ = lp_X10_mutual_9 (upm μ 0 12 0 0) 4096 0 0 := by
  unfold f_X10_mutual
  rw [nm_q]
theorem muB_c {r : Row} {g o : Nat} (h : nv r 3 ≤ o) : muB r g o = false := by
  unfold muB
  have : hrC r o = false := by unfold hrC; rw [decide_eq_false (by omega), Bool.false_and]
  rw [this, Bool.false_and, Bool.and_false]
theorem muB_d {r : Row} {g o : Nat} (h : nv r 3 ≤ g) : muB r g o = false := by
  unfold muB
  have : hrC r g = false := by unfold hrC; rw [decide_eq_false (by omega), Bool.false_and]
  rw [this, Bool.false_and]
theorem sm_zero {n : Nat} {f : Nat → Nat} (h : ∀ k, k < n → f k = 0) : sm n f = 0 := by
  have := sm_le (b := 0) (fun k hk => Nat.le_of_eq (h k hk))
  omega
theorem q_mutual {μ : Mem} (R : Rel μ) : AgQ (f_X9_mutual μ) (f_X10_mutual μ) := by
  have V := R.V
  have H : HC (μ (0 + 1)) (μ 0 13) := R.H
  have h8 := V.c8
  have e : sm 8 (fun g => sm (8 - (g + 1)) (fun j => b2n (muB (μ 0 13) g (g + 1 + j)))) = sm (nv (μ 0 13) 3) (fun g => sm (nv (μ 0 13) 3 - (g + 1)) (fun j => b2n (muB (μ 0 13) g (g + 1 + j)))) := by
    symm
    refine sm_pad h8 (fun g hg => ?_) (fun g h1 h2 => sm_zero fun j _ => by rw [muB_d h1]; rfl)
    exact sm_pad (by omega) (fun _ _ => rfl) (fun j h1 h2 => by rw [muB_c (by omega)]; rfl)
  refine AgQ.a R ⟨Int32.ofNat (sm 8 (fun g => sm (8 - (g + 1)) (fun j => b2n (muB (μ 0 13) g (g + 1 + j))))), ?_, ?_⟩
  · rw [e_X9_mutual]
    refine lpF (fun n (s : Int32 × Int32) => lp_X9_mutual_4 μ n s.1 s.2) (fun k => (Int32.ofNat (sm k (fun g => sm (8 - (g + 1)) (fun j => b2n (muB (μ 0 13) g (g + 1 + j))))), Int32.ofNat k)) 8 _ (fun k hk n => ?_) (fun n => rfl) 4096 (by omega)
    show lp_X9_mutual_4 _ _ _ _ = lp_X9_mutual_4 _ _ _ _
    rw [lp_X9_mutual_4, i_8, if_neg (by rw [on_le (by omega) (by omega)]; omega), i_1, on_a, mu_in H V hk, sm_s]
  · rw [e_X10_mutual, e]
    refine lpF (fun n (s : Int32 × Int32) => lp_X10_mutual_9 (upm μ 0 12 0 0) n s.1 s.2) (fun k => (Int32.ofNat (sm k (fun g => sm (nv (μ 0 13) 3 - (g + 1)) (fun j => b2n (muB (μ 0 13) g (g + 1 + j))))), Int32.ofNat k)) (nv (μ 0 13) 3) _ (fun k hk n => ?_) (fun n => ?_) 4096 (by omega)
    · show lp_X10_mutual_9 _ _ _ _ = lp_X10_mutual_9 _ _ _ _
      rw [lp_X10_mutual_9, i_3, ix_on (by decide) (by decide), on_t (by decide), up0, V.e3, if_neg (by rw [on_le (by omega) (by omega)]; omega), i_1, on_a, rmu_in (up0 _ _) V hk, sm_s]
    · show lp_X10_mutual_9 _ _ _ _ = _
      rw [lp_X10_mutual_9, i_3, ix_on (by decide) (by decide), on_t (by decide), up0, V.e3, if_pos (Int32.le_refl _)]
theorem r_hereOnes {μ : Mem} {r : Row} (e : μ 0 13 = r) (V : Vr r) : f_X10_hereOnes μ = some (Int32.ofNat (mk (nv r 3) (hrB r))) := by
  have h8 := V.c8
  refine lpF (fun n (s : Int32 × Int32) => lp_X10_hereOnes_4 μ n s.1 s.2) (fun k => (Int32.ofNat (mk k (hrB r)), Int32.ofNat k)) (nv r 3) _ (fun k hk n => ?_) (fun n => ?_) 4096 (by omega)
  · show lp_X10_hereOnes_4 _ _ _ _ = lp_X10_hereOnes_4 _ _ _ _
    simp (disch := omega) only [lp_X10_hereOnes_4, e, V.e3, R_here e (show k < 8 by omega), nm_q, bs_q, on_a, on_m, on_t, ix_on, le_t, le_f, lt_t, lt_f, eq_t, eq_f, ite_b0, ite_b1, ↓reduceIte, i_0, i_1, i_2, i_3, i_4, i_5, i_6, i_7, i_8, i_9, i_10, i_11, i_12, i_13, i_14, i_15, i_16, i_18, i_20, i_22, i_24, i_30, i_31, i_32, i_40, i_48, i_50, i_51, i_52, i_57, i_60, i_64, i_65, i_66, i_67, i_97, i_99, i_100, i_122, i_239, i_240, i_255, i_256, i_304, i_400, i_401, i_704, i_999, i_1000, i_2304, i_3344, i_3648, i_4096, i_9999, i_32767, or_z]
    cases h1 : hrB r k
    · rw [if_neg (by decide), or_mk0 (hrB r) h1]
    · rw [if_pos rfl, or_mk (by omega) (hrB r) h1]
  · show lp_X10_hereOnes_4 _ _ _ _ = _
    simp (disch := omega) only [lp_X10_hereOnes_4, e, V.e3, nm_q, bs_q, on_a, on_m, on_t, ix_on, le_t, le_f, lt_t, lt_f, eq_t, eq_f, ite_b0, ite_b1, ↓reduceIte, i_0, i_1, i_2, i_3, i_4, i_5, i_6, i_7, i_8, i_9, i_10, i_11, i_12, i_13, i_14, i_15, i_16, i_18, i_20, i_22, i_24, i_30, i_31, i_32, i_40, i_48, i_50, i_51, i_52, i_57, i_60, i_64, i_65, i_66, i_67, i_97, i_99, i_100, i_122, i_239, i_240, i_255, i_256, i_304, i_400, i_401, i_704, i_999, i_1000, i_2304, i_3344, i_3648, i_4096, i_9999, i_32767]
theorem PST.cnt {ev : Row → Int32} {μ : Mem} (h : PST ev μ) : μ 0 9 2 = μ 0 12 6 := by
  obtain ⟨k, nx, -, -, -, h1, h2, -⟩ := h
  rw [h1, h2]
theorem Rel.cnt {μ : Mem} (R : Rel μ) : μ 0 9 2 = μ 0 12 6 := by
  obtain ⟨⟨ev, -, h⟩, -⟩ := R
  exact h.cnt
theorem Rel.lines {μ : Mem} (R : Rel μ) : μ 1 7 4 = μ 0 13 1 := by
  obtain ⟨⟨ev, h, -⟩, -⟩ := R
  exact h.2.2.2.1.1
set_option maxHeartbeats 4000000 in
theorem q_count {μ : Mem} (R : Rel μ) (a : Int32) : AgQ (f_X9_count μ a) (f_X10_count μ a) := by
  have V := R.V
  have H : HC (μ (0 + 1)) (μ 0 13) := R.H
  rcases in_cases a 0 15 (by decide) (by decide) with ⟨k, -, hk, rfl⟩ | ⟨h1, -⟩
  · rcases (show k = 0 ∨ k = 1 ∨ k = 2 ∨ k = 3 ∨ k = 4 ∨ k = 5 ∨ k = 6 ∨ k = 7 ∨ k = 8 ∨ k = 9 ∨ k = 10 ∨ k = 11 ∨ k = 12 ∨ k = 13 ∨ k = 14 ∨ k = 15 by omega) with rfl | rfl | rfl | rfl | rfl | rfl | rfl | rfl | rfl | rfl | rfl | rfl | rfl | rfl | rfl | rfl
    · exact AgQ.q R (μ 0 13 3) (by unfold f_X9_count; simp (disch := omega) only [nm_q, bs_q, on_a, on_m, on_t, ix_on, le_t, le_f, lt_t, lt_f, eq_t, eq_f, ite_b0, ite_b1, ↓reduceIte, i_0, i_1, i_2, i_3, i_4, i_5, i_6, i_7, i_8, i_9, i_10, i_11, i_12, i_13, i_14, i_15, i_16, i_18, i_20, i_22, i_24, i_30, i_31, i_32, i_40, i_48, i_50, i_51, i_52, i_57, i_60, i_64, i_65, i_66, i_67, i_97, i_99, i_100, i_122, i_239, i_240, i_255, i_256, i_304, i_400, i_401, i_704, i_999, i_1000, i_2304, i_3344, i_3648, i_4096, i_9999, i_32767]; exact congrArg some H.cnt) (by unfold f_X10_count; simp (disch := omega) only [up0, nm_q, bs_q, on_a, on_m, on_t, ix_on, le_t, le_f, lt_t, lt_f, eq_t, eq_f, ite_b0, ite_b1, ↓reduceIte, i_0, i_1, i_2, i_3, i_4, i_5, i_6, i_7, i_8, i_9, i_10, i_11, i_12, i_13, i_14, i_15, i_16, i_18, i_20, i_22, i_24, i_30, i_31, i_32, i_40, i_48, i_50, i_51, i_52, i_57, i_60, i_64, i_65, i_66, i_67, i_97, i_99, i_100, i_122, i_239, i_240, i_255, i_256, i_304, i_400, i_401, i_704, i_999, i_1000, i_2304, i_3344, i_3648, i_4096, i_9999, i_32767, upm_at, bk_b])
    · exact AgQ.q R (μ 0 13 0) (by unfold f_X9_count; simp (disch := omega) only [nm_q, bs_q, on_a, on_m, on_t, ix_on, le_t, le_f, lt_t, lt_f, eq_t, eq_f, ite_b0, ite_b1, ↓reduceIte, i_0, i_1, i_2, i_3, i_4, i_5, i_6, i_7, i_8, i_9, i_10, i_11, i_12, i_13, i_14, i_15, i_16, i_18, i_20, i_22, i_24, i_30, i_31, i_32, i_40, i_48, i_50, i_51, i_52, i_57, i_60, i_64, i_65, i_66, i_67, i_97, i_99, i_100, i_122, i_239, i_240, i_255, i_256, i_304, i_400, i_401, i_704, i_999, i_1000, i_2304, i_3344, i_3648, i_4096, i_9999, i_32767]; exact congrArg some H.texts) (by unfold f_X10_count; simp (disch := omega) only [up0, nm_q, bs_q, on_a, on_m, on_t, ix_on, le_t, le_f, lt_t, lt_f, eq_t, eq_f, ite_b0, ite_b1, ↓reduceIte, i_0, i_1, i_2, i_3, i_4, i_5, i_6, i_7, i_8, i_9, i_10, i_11, i_12, i_13, i_14, i_15, i_16, i_18, i_20, i_22, i_24, i_30, i_31, i_32, i_40, i_48, i_50, i_51, i_52, i_57, i_60, i_64, i_65, i_66, i_67, i_97, i_99, i_100, i_122, i_239, i_240, i_255, i_256, i_304, i_400, i_401, i_704, i_999, i_1000, i_2304, i_3344, i_3648, i_4096, i_9999, i_32767, upm_at, bk_b])
    · exact AgQ.q R (μ 0 13 1) (by unfold f_X9_count; simp (disch := omega) only [nm_q, bs_q, on_a, on_m, on_t, ix_on, le_t, le_f, lt_t, lt_f, eq_t, eq_f, ite_b0, ite_b1, ↓reduceIte, i_0, i_1, i_2, i_3, i_4, i_5, i_6, i_7, i_8, i_9, i_10, i_11, i_12, i_13, i_14, i_15, i_16, i_18, i_20, i_22, i_24, i_30, i_31, i_32, i_40, i_48, i_50, i_51, i_52, i_57, i_60, i_64, i_65, i_66, i_67, i_97, i_99, i_100, i_122, i_239, i_240, i_255, i_256, i_304, i_400, i_401, i_704, i_999, i_1000, i_2304, i_3344, i_3648, i_4096, i_9999, i_32767]; exact congrArg some R.lines) (by unfold f_X10_count; simp (disch := omega) only [up0, nm_q, bs_q, on_a, on_m, on_t, ix_on, le_t, le_f, lt_t, lt_f, eq_t, eq_f, ite_b0, ite_b1, ↓reduceIte, i_0, i_1, i_2, i_3, i_4, i_5, i_6, i_7, i_8, i_9, i_10, i_11, i_12, i_13, i_14, i_15, i_16, i_18, i_20, i_22, i_24, i_30, i_31, i_32, i_40, i_48, i_50, i_51, i_52, i_57, i_60, i_64, i_65, i_66, i_67, i_97, i_99, i_100, i_122, i_239, i_240, i_255, i_256, i_304, i_400, i_401, i_704, i_999, i_1000, i_2304, i_3344, i_3648, i_4096, i_9999, i_32767, upm_at, bk_b])
    · exact AgQ.q R (μ 0 13 10) (by unfold f_X9_count; simp (disch := omega) only [nm_q, bs_q, on_a, on_m, on_t, ix_on, le_t, le_f, lt_t, lt_f, eq_t, eq_f, ite_b0, ite_b1, ↓reduceIte, i_0, i_1, i_2, i_3, i_4, i_5, i_6, i_7, i_8, i_9, i_10, i_11, i_12, i_13, i_14, i_15, i_16, i_18, i_20, i_22, i_24, i_30, i_31, i_32, i_40, i_48, i_50, i_51, i_52, i_57, i_60, i_64, i_65, i_66, i_67, i_97, i_99, i_100, i_122, i_239, i_240, i_255, i_256, i_304, i_400, i_401, i_704, i_999, i_1000, i_2304, i_3344, i_3648, i_4096, i_9999, i_32767]; exact congrArg some H.day) (by unfold f_X10_count; simp (disch := omega) only [up0, nm_q, bs_q, on_a, on_m, on_t, ix_on, le_t, le_f, lt_t, lt_f, eq_t, eq_f, ite_b0, ite_b1, ↓reduceIte, i_0, i_1, i_2, i_3, i_4, i_5, i_6, i_7, i_8, i_9, i_10, i_11, i_12, i_13, i_14, i_15, i_16, i_18, i_20, i_22, i_24, i_30, i_31, i_32, i_40, i_48, i_50, i_51, i_52, i_57, i_60, i_64, i_65, i_66, i_67, i_97, i_99, i_100, i_122, i_239, i_240, i_255, i_256, i_304, i_400, i_401, i_704, i_999, i_1000, i_2304, i_3344, i_3648, i_4096, i_9999, i_32767, upm_at, bk_b])
    · exact AgQ.q R (μ 0 13 4) (by unfold f_X9_count; simp (disch := omega) only [nm_q, bs_q, on_a, on_m, on_t, ix_on, le_t, le_f, lt_t, lt_f, eq_t, eq_f, ite_b0, ite_b1, ↓reduceIte, i_0, i_1, i_2, i_3, i_4, i_5, i_6, i_7, i_8, i_9, i_10, i_11, i_12, i_13, i_14, i_15, i_16, i_18, i_20, i_22, i_24, i_30, i_31, i_32, i_40, i_48, i_50, i_51, i_52, i_57, i_60, i_64, i_65, i_66, i_67, i_97, i_99, i_100, i_122, i_239, i_240, i_255, i_256, i_304, i_400, i_401, i_704, i_999, i_1000, i_2304, i_3344, i_3648, i_4096, i_9999, i_32767]; exact congrArg some H.bath) (by unfold f_X10_count; simp (disch := omega) only [up0, isIn_t, on_sb, nm_q, bs_q, on_a, on_m, on_t, ix_on, le_t, le_f, lt_t, lt_f, eq_t, eq_f, ite_b0, ite_b1, ↓reduceIte, i_0, i_1, i_2, i_3, i_4, i_5, i_6, i_7, i_8, i_9, i_10, i_11, i_12, i_13, i_14, i_15, i_16, i_18, i_20, i_22, i_24, i_30, i_31, i_32, i_40, i_48, i_50, i_51, i_52, i_57, i_60, i_64, i_65, i_66, i_67, i_97, i_99, i_100, i_122, i_239, i_240, i_255, i_256, i_304, i_400, i_401, i_704, i_999, i_1000, i_2304, i_3344, i_3648, i_4096, i_9999, i_32767, upm_at, bk_b])
    · exact AgQ.q R (μ 0 13 5) (by unfold f_X9_count; simp (disch := omega) only [nm_q, bs_q, on_a, on_m, on_t, ix_on, le_t, le_f, lt_t, lt_f, eq_t, eq_f, ite_b0, ite_b1, ↓reduceIte, i_0, i_1, i_2, i_3, i_4, i_5, i_6, i_7, i_8, i_9, i_10, i_11, i_12, i_13, i_14, i_15, i_16, i_18, i_20, i_22, i_24, i_30, i_31, i_32, i_40, i_48, i_50, i_51, i_52, i_57, i_60, i_64, i_65, i_66, i_67, i_97, i_99, i_100, i_122, i_239, i_240, i_255, i_256, i_304, i_400, i_401, i_704, i_999, i_1000, i_2304, i_3344, i_3648, i_4096, i_9999, i_32767]; exact congrArg some H.kept) (by unfold f_X10_count; simp (disch := omega) only [up0, isIn_t, on_sb, nm_q, bs_q, on_a, on_m, on_t, ix_on, le_t, le_f, lt_t, lt_f, eq_t, eq_f, ite_b0, ite_b1, ↓reduceIte, i_0, i_1, i_2, i_3, i_4, i_5, i_6, i_7, i_8, i_9, i_10, i_11, i_12, i_13, i_14, i_15, i_16, i_18, i_20, i_22, i_24, i_30, i_31, i_32, i_40, i_48, i_50, i_51, i_52, i_57, i_60, i_64, i_65, i_66, i_67, i_97, i_99, i_100, i_122, i_239, i_240, i_255, i_256, i_304, i_400, i_401, i_704, i_999, i_1000, i_2304, i_3344, i_3648, i_4096, i_9999, i_32767, upm_at, bk_b])
    · exact AgQ.q R (μ 0 13 6) (by unfold f_X9_count; simp (disch := omega) only [nm_q, bs_q, on_a, on_m, on_t, ix_on, le_t, le_f, lt_t, lt_f, eq_t, eq_f, ite_b0, ite_b1, ↓reduceIte, i_0, i_1, i_2, i_3, i_4, i_5, i_6, i_7, i_8, i_9, i_10, i_11, i_12, i_13, i_14, i_15, i_16, i_18, i_20, i_22, i_24, i_30, i_31, i_32, i_40, i_48, i_50, i_51, i_52, i_57, i_60, i_64, i_65, i_66, i_67, i_97, i_99, i_100, i_122, i_239, i_240, i_255, i_256, i_304, i_400, i_401, i_704, i_999, i_1000, i_2304, i_3344, i_3648, i_4096, i_9999, i_32767]; exact congrArg some H.masons) (by unfold f_X10_count; simp (disch := omega) only [up0, isIn_t, on_sb, nm_q, bs_q, on_a, on_m, on_t, ix_on, le_t, le_f, lt_t, lt_f, eq_t, eq_f, ite_b0, ite_b1, ↓reduceIte, i_0, i_1, i_2, i_3, i_4, i_5, i_6, i_7, i_8, i_9, i_10, i_11, i_12, i_13, i_14, i_15, i_16, i_18, i_20, i_22, i_24, i_30, i_31, i_32, i_40, i_48, i_50, i_51, i_52, i_57, i_60, i_64, i_65, i_66, i_67, i_97, i_99, i_100, i_122, i_239, i_240, i_255, i_256, i_304, i_400, i_401, i_704, i_999, i_1000, i_2304, i_3344, i_3648, i_4096, i_9999, i_32767, upm_at, bk_b])
    · exact AgQ.q R (μ 0 13 7) (by unfold f_X9_count; simp (disch := omega) only [nm_q, bs_q, on_a, on_m, on_t, ix_on, le_t, le_f, lt_t, lt_f, eq_t, eq_f, ite_b0, ite_b1, ↓reduceIte, i_0, i_1, i_2, i_3, i_4, i_5, i_6, i_7, i_8, i_9, i_10, i_11, i_12, i_13, i_14, i_15, i_16, i_18, i_20, i_22, i_24, i_30, i_31, i_32, i_40, i_48, i_50, i_51, i_52, i_57, i_60, i_64, i_65, i_66, i_67, i_97, i_99, i_100, i_122, i_239, i_240, i_255, i_256, i_304, i_400, i_401, i_704, i_999, i_1000, i_2304, i_3344, i_3648, i_4096, i_9999, i_32767]; exact congrArg some H.stones) (by unfold f_X10_count; simp (disch := omega) only [up0, isIn_t, on_sb, nm_q, bs_q, on_a, on_m, on_t, ix_on, le_t, le_f, lt_t, lt_f, eq_t, eq_f, ite_b0, ite_b1, ↓reduceIte, i_0, i_1, i_2, i_3, i_4, i_5, i_6, i_7, i_8, i_9, i_10, i_11, i_12, i_13, i_14, i_15, i_16, i_18, i_20, i_22, i_24, i_30, i_31, i_32, i_40, i_48, i_50, i_51, i_52, i_57, i_60, i_64, i_65, i_66, i_67, i_97, i_99, i_100, i_122, i_239, i_240, i_255, i_256, i_304, i_400, i_401, i_704, i_999, i_1000, i_2304, i_3344, i_3648, i_4096, i_9999, i_32767, upm_at, bk_b])
    · exact AgQ.q R (μ 0 13 8) (by unfold f_X9_count; simp (disch := omega) only [nm_q, bs_q, on_a, on_m, on_t, ix_on, le_t, le_f, lt_t, lt_f, eq_t, eq_f, ite_b0, ite_b1, ↓reduceIte, i_0, i_1, i_2, i_3, i_4, i_5, i_6, i_7, i_8, i_9, i_10, i_11, i_12, i_13, i_14, i_15, i_16, i_18, i_20, i_22, i_24, i_30, i_31, i_32, i_40, i_48, i_50, i_51, i_52, i_57, i_60, i_64, i_65, i_66, i_67, i_97, i_99, i_100, i_122, i_239, i_240, i_255, i_256, i_304, i_400, i_401, i_704, i_999, i_1000, i_2304, i_3344, i_3648, i_4096, i_9999, i_32767]; exact congrArg some H.towers) (by unfold f_X10_count; simp (disch := omega) only [up0, isIn_t, on_sb, nm_q, bs_q, on_a, on_m, on_t, ix_on, le_t, le_f, lt_t, lt_f, eq_t, eq_f, ite_b0, ite_b1, ↓reduceIte, i_0, i_1, i_2, i_3, i_4, i_5, i_6, i_7, i_8, i_9, i_10, i_11, i_12, i_13, i_14, i_15, i_16, i_18, i_20, i_22, i_24, i_30, i_31, i_32, i_40, i_48, i_50, i_51, i_52, i_57, i_60, i_64, i_65, i_66, i_67, i_97, i_99, i_100, i_122, i_239, i_240, i_255, i_256, i_304, i_400, i_401, i_704, i_999, i_1000, i_2304, i_3344, i_3648, i_4096, i_9999, i_32767, upm_at, bk_b])
    · exact AgQ.q R (μ 0 13 9) (by unfold f_X9_count; simp (disch := omega) only [nm_q, bs_q, on_a, on_m, on_t, ix_on, le_t, le_f, lt_t, lt_f, eq_t, eq_f, ite_b0, ite_b1, ↓reduceIte, i_0, i_1, i_2, i_3, i_4, i_5, i_6, i_7, i_8, i_9, i_10, i_11, i_12, i_13, i_14, i_15, i_16, i_18, i_20, i_22, i_24, i_30, i_31, i_32, i_40, i_48, i_50, i_51, i_52, i_57, i_60, i_64, i_65, i_66, i_67, i_97, i_99, i_100, i_122, i_239, i_240, i_255, i_256, i_304, i_400, i_401, i_704, i_999, i_1000, i_2304, i_3344, i_3648, i_4096, i_9999, i_32767]; exact congrArg some H.bore) (by unfold f_X10_count; simp (disch := omega) only [up0, isIn_t, on_sb, nm_q, bs_q, on_a, on_m, on_t, ix_on, le_t, le_f, lt_t, lt_f, eq_t, eq_f, ite_b0, ite_b1, ↓reduceIte, i_0, i_1, i_2, i_3, i_4, i_5, i_6, i_7, i_8, i_9, i_10, i_11, i_12, i_13, i_14, i_15, i_16, i_18, i_20, i_22, i_24, i_30, i_31, i_32, i_40, i_48, i_50, i_51, i_52, i_57, i_60, i_64, i_65, i_66, i_67, i_97, i_99, i_100, i_122, i_239, i_240, i_255, i_256, i_304, i_400, i_401, i_704, i_999, i_1000, i_2304, i_3344, i_3648, i_4096, i_9999, i_32767, upm_at, bk_b])
    · exact AgQ.q R (μ 0 13 11) (by unfold f_X9_count; simp (disch := omega) only [nm_q, bs_q, on_a, on_m, on_t, ix_on, le_t, le_f, lt_t, lt_f, eq_t, eq_f, ite_b0, ite_b1, ↓reduceIte, i_0, i_1, i_2, i_3, i_4, i_5, i_6, i_7, i_8, i_9, i_10, i_11, i_12, i_13, i_14, i_15, i_16, i_18, i_20, i_22, i_24, i_30, i_31, i_32, i_40, i_48, i_50, i_51, i_52, i_57, i_60, i_64, i_65, i_66, i_67, i_97, i_99, i_100, i_122, i_239, i_240, i_255, i_256, i_304, i_400, i_401, i_704, i_999, i_1000, i_2304, i_3344, i_3648, i_4096, i_9999, i_32767]; exact congrArg some H.seen) (by unfold f_X10_count; simp (disch := omega) only [up0, show f_X10_isIn (Int32.ofNat 10) (Int32.ofNat 4) (Int32.ofNat 9) = some (Int32.ofNat 0) from rfl, nm_q, bs_q, on_a, on_m, on_t, ix_on, le_t, le_f, lt_t, lt_f, eq_t, eq_f, ite_b0, ite_b1, ↓reduceIte, i_0, i_1, i_2, i_3, i_4, i_5, i_6, i_7, i_8, i_9, i_10, i_11, i_12, i_13, i_14, i_15, i_16, i_18, i_20, i_22, i_24, i_30, i_31, i_32, i_40, i_48, i_50, i_51, i_52, i_57, i_60, i_64, i_65, i_66, i_67, i_97, i_99, i_100, i_122, i_239, i_240, i_255, i_256, i_304, i_400, i_401, i_704, i_999, i_1000, i_2304, i_3344, i_3648, i_4096, i_9999, i_32767, upm_at, bk_b])
    · exact AgQ.q R (Int32.ofNat (hoA (μ 0 13))) (by unfold f_X9_count; simp (disch := omega) only [c_allHoles H V, nm_q, bs_q, on_a, on_m, on_t, ix_on, le_t, le_f, lt_t, lt_f, eq_t, eq_f, ite_b0, ite_b1, ↓reduceIte, i_0, i_1, i_2, i_3, i_4, i_5, i_6, i_7, i_8, i_9, i_10, i_11, i_12, i_13, i_14, i_15, i_16, i_18, i_20, i_22, i_24, i_30, i_31, i_32, i_40, i_48, i_50, i_51, i_52, i_57, i_60, i_64, i_65, i_66, i_67, i_97, i_99, i_100, i_122, i_239, i_240, i_255, i_256, i_304, i_400, i_401, i_704, i_999, i_1000, i_2304, i_3344, i_3648, i_4096, i_9999, i_32767]) (by unfold f_X10_count; simp (disch := omega) only [R_holes (up0 _ _) V, show f_X10_isIn (Int32.ofNat 11) (Int32.ofNat 4) (Int32.ofNat 9) = some (Int32.ofNat 0) from rfl, nm_q, bs_q, on_a, on_m, on_t, ix_on, le_t, le_f, lt_t, lt_f, eq_t, eq_f, ite_b0, ite_b1, ↓reduceIte, i_0, i_1, i_2, i_3, i_4, i_5, i_6, i_7, i_8, i_9, i_10, i_11, i_12, i_13, i_14, i_15, i_16, i_18, i_20, i_22, i_24, i_30, i_31, i_32, i_40, i_48, i_50, i_51, i_52, i_57, i_60, i_64, i_65, i_66, i_67, i_97, i_99, i_100, i_122, i_239, i_240, i_255, i_256, i_304, i_400, i_401, i_704, i_999, i_1000, i_2304, i_3344, i_3648, i_4096, i_9999, i_32767, upm_at, bk_b])
    · exact AgQ.q R (Int32.ofNat (mk (nv (μ 0 13) 3) (hrB (μ 0 13)))) (by unfold f_X9_count; simp (disch := omega) only [nm_q, bs_q, on_a, on_m, on_t, ix_on, le_t, le_f, lt_t, lt_f, eq_t, eq_f, ite_b0, ite_b1, ↓reduceIte, i_0, i_1, i_2, i_3, i_4, i_5, i_6, i_7, i_8, i_9, i_10, i_11, i_12, i_13, i_14, i_15, i_16, i_18, i_20, i_22, i_24, i_30, i_31, i_32, i_40, i_48, i_50, i_51, i_52, i_57, i_60, i_64, i_65, i_66, i_67, i_97, i_99, i_100, i_122, i_239, i_240, i_255, i_256, i_304, i_400, i_401, i_704, i_999, i_1000, i_2304, i_3344, i_3648, i_4096, i_9999, i_32767]; exact congrArg some H.hr) (by unfold f_X10_count; simp (disch := omega) only [r_hereOnes (up0 _ _) V, show f_X10_isIn (Int32.ofNat 12) (Int32.ofNat 4) (Int32.ofNat 9) = some (Int32.ofNat 0) from rfl, nm_q, bs_q, on_a, on_m, on_t, ix_on, le_t, le_f, lt_t, lt_f, eq_t, eq_f, ite_b0, ite_b1, ↓reduceIte, i_0, i_1, i_2, i_3, i_4, i_5, i_6, i_7, i_8, i_9, i_10, i_11, i_12, i_13, i_14, i_15, i_16, i_18, i_20, i_22, i_24, i_30, i_31, i_32, i_40, i_48, i_50, i_51, i_52, i_57, i_60, i_64, i_65, i_66, i_67, i_97, i_99, i_100, i_122, i_239, i_240, i_255, i_256, i_304, i_400, i_401, i_704, i_999, i_1000, i_2304, i_3344, i_3648, i_4096, i_9999, i_32767, upm_at, bk_b])
    · exact AgQ.q R (Int32.ofNat (dbH (μ 0 13))) (by unfold f_X9_count; simp (disch := omega) only [c_doubtHere H V, nm_q, bs_q, on_a, on_m, on_t, ix_on, le_t, le_f, lt_t, lt_f, eq_t, eq_f, ite_b0, ite_b1, ↓reduceIte, i_0, i_1, i_2, i_3, i_4, i_5, i_6, i_7, i_8, i_9, i_10, i_11, i_12, i_13, i_14, i_15, i_16, i_18, i_20, i_22, i_24, i_30, i_31, i_32, i_40, i_48, i_50, i_51, i_52, i_57, i_60, i_64, i_65, i_66, i_67, i_97, i_99, i_100, i_122, i_239, i_240, i_255, i_256, i_304, i_400, i_401, i_704, i_999, i_1000, i_2304, i_3344, i_3648, i_4096, i_9999, i_32767]) (by unfold f_X10_count; simp (disch := omega) only [R_doubts (up0 _ _) V, show f_X10_isIn (Int32.ofNat 13) (Int32.ofNat 4) (Int32.ofNat 9) = some (Int32.ofNat 0) from rfl, nm_q, bs_q, on_a, on_m, on_t, ix_on, le_t, le_f, lt_t, lt_f, eq_t, eq_f, ite_b0, ite_b1, ↓reduceIte, i_0, i_1, i_2, i_3, i_4, i_5, i_6, i_7, i_8, i_9, i_10, i_11, i_12, i_13, i_14, i_15, i_16, i_18, i_20, i_22, i_24, i_30, i_31, i_32, i_40, i_48, i_50, i_51, i_52, i_57, i_60, i_64, i_65, i_66, i_67, i_97, i_99, i_100, i_122, i_239, i_240, i_255, i_256, i_304, i_400, i_401, i_704, i_999, i_1000, i_2304, i_3344, i_3648, i_4096, i_9999, i_32767, upm_at, bk_b])
    · exact AgQ.q R (μ 0 13 14) (by unfold f_X9_count; simp (disch := omega) only [nm_q, bs_q, on_a, on_m, on_t, ix_on, le_t, le_f, lt_t, lt_f, eq_t, eq_f, ite_b0, ite_b1, ↓reduceIte, i_0, i_1, i_2, i_3, i_4, i_5, i_6, i_7, i_8, i_9, i_10, i_11, i_12, i_13, i_14, i_15, i_16, i_18, i_20, i_22, i_24, i_30, i_31, i_32, i_40, i_48, i_50, i_51, i_52, i_57, i_60, i_64, i_65, i_66, i_67, i_97, i_99, i_100, i_122, i_239, i_240, i_255, i_256, i_304, i_400, i_401, i_704, i_999, i_1000, i_2304, i_3344, i_3648, i_4096, i_9999, i_32767]; exact congrArg some R.B.1) (by unfold f_X10_count; simp (disch := omega) only [up0, show f_X10_isIn (Int32.ofNat 14) (Int32.ofNat 4) (Int32.ofNat 9) = some (Int32.ofNat 0) from rfl, nm_q, bs_q, on_a, on_m, on_t, ix_on, le_t, le_f, lt_t, lt_f, eq_t, eq_f, ite_b0, ite_b1, ↓reduceIte, i_0, i_1, i_2, i_3, i_4, i_5, i_6, i_7, i_8, i_9, i_10, i_11, i_12, i_13, i_14, i_15, i_16, i_18, i_20, i_22, i_24, i_30, i_31, i_32, i_40, i_48, i_50, i_51, i_52, i_57, i_60, i_64, i_65, i_66, i_67, i_97, i_99, i_100, i_122, i_239, i_240, i_255, i_256, i_304, i_400, i_401, i_704, i_999, i_1000, i_2304, i_3344, i_3648, i_4096, i_9999, i_32767, upm_at, bk_b])
    · exact AgQ.q R (μ 0 12 6) (by unfold f_X9_count; simp (disch := omega) only [nm_q, bs_q, on_a, on_m, on_t, ix_on, le_t, le_f, lt_t, lt_f, eq_t, eq_f, ite_b0, ite_b1, ↓reduceIte, i_0, i_1, i_2, i_3, i_4, i_5, i_6, i_7, i_8, i_9, i_10, i_11, i_12, i_13, i_14, i_15, i_16, i_18, i_20, i_22, i_24, i_30, i_31, i_32, i_40, i_48, i_50, i_51, i_52, i_57, i_60, i_64, i_65, i_66, i_67, i_97, i_99, i_100, i_122, i_239, i_240, i_255, i_256, i_304, i_400, i_401, i_704, i_999, i_1000, i_2304, i_3344, i_3648, i_4096, i_9999, i_32767]; exact congrArg some R.cnt) (by unfold f_X10_count; simp (disch := omega) only [up0, upm_n3 (show ¬ ((0 : Nat) = 0 ∧ (12 : Nat) = 12 ∧ (6 : Nat) = 0) by omega), show f_X10_isIn (Int32.ofNat 15) (Int32.ofNat 4) (Int32.ofNat 9) = some (Int32.ofNat 0) from rfl, nm_q, bs_q, on_a, on_m, on_t, ix_on, le_t, le_f, lt_t, lt_f, eq_t, eq_f, ite_b0, ite_b1, ↓reduceIte, i_0, i_1, i_2, i_3, i_4, i_5, i_6, i_7, i_8, i_9, i_10, i_11, i_12, i_13, i_14, i_15, i_16, i_18, i_20, i_22, i_24, i_30, i_31, i_32, i_40, i_48, i_50, i_51, i_52, i_57, i_60, i_64, i_65, i_66, i_67, i_97, i_99, i_100, i_122, i_239, i_240, i_255, i_256, i_304, i_400, i_401, i_704, i_999, i_1000, i_2304, i_3344, i_3648, i_4096, i_9999, i_32767, upm_at, bk_b])
  · have hne : ∀ k, k ≤ 15 → ¬ a = Int32.ofNat k := fun k hk h => by
      rw [h] at h1
      rcases h1 with h1 | ⟨-, h1⟩
      · rw [on_lt (by omega) (by omega)] at h1
        omega
      · rw [on_lt (by omega) (by omega)] at h1
        omega
    have hin : f_X10_isIn a (Int32.ofNat 4) (Int32.ofNat 9) = some (Int32.ofNat 0) := by
      rcases in_cases a 4 9 (by decide) (by decide) with ⟨k, h2, h3, rfl⟩ | ⟨-, h⟩
      · exact absurd rfl (hne k (by omega))
      · exact h
    refine AgQ.q R (-1) ?_ ?_
    · unfold f_X9_count
      simp (disch := omega) only [hne 0, hne 1, hne 2, hne 3, hne 4, hne 5, hne 6, hne 7, hne 8, hne 9, hne 10, hne 11, hne 12, hne 13, hne 14, hne 15, nm_q, bs_q, on_a, on_m, on_t, ix_on, le_t, le_f, lt_t, lt_f, eq_t, eq_f, ite_b0, ite_b1, ↓reduceIte, i_0, i_1, i_2, i_3, i_4, i_5, i_6, i_7, i_8, i_9, i_10, i_11, i_12, i_13, i_14, i_15, i_16, i_18, i_20, i_22, i_24, i_30, i_31, i_32, i_40, i_48, i_50, i_51, i_52, i_57, i_60, i_64, i_65, i_66, i_67, i_97, i_99, i_100, i_122, i_239, i_240, i_255, i_256, i_304, i_400, i_401, i_704, i_999, i_1000, i_2304, i_3344, i_3648, i_4096, i_9999, i_32767]
    · unfold f_X10_count
      simp (disch := omega) only [hin, hne 0, hne 1, hne 2, hne 3, hne 4, hne 5, hne 6, hne 7, hne 8, hne 9, hne 10, hne 11, hne 12, hne 13, hne 14, hne 15, nm_q, bs_q, on_a, on_m, on_t, ix_on, le_t, le_f, lt_t, lt_f, eq_t, eq_f, ite_b0, ite_b1, ↓reduceIte, i_0, i_1, i_2, i_3, i_4, i_5, i_6, i_7, i_8, i_9, i_10, i_11, i_12, i_13, i_14, i_15, i_16, i_18, i_20, i_22, i_24, i_30, i_31, i_32, i_40, i_48, i_50, i_51, i_52, i_57, i_60, i_64, i_65, i_66, i_67, i_97, i_99, i_100, i_122, i_239, i_240, i_255, i_256, i_304, i_400, i_401, i_704, i_999, i_1000, i_2304, i_3344, i_3648, i_4096, i_9999, i_32767, upm_at, bk_b]
