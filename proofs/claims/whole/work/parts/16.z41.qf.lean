/-! ===== odds, and the fewest to be sent away ===== -/
def pd : Nat → (Nat → Nat) → Nat
  | 0, _ => 1
  | n + 1, f => pd n f * f n
theorem pd_s (n : Nat) (f : Nat → Nat) : pd (n + 1) f = pd n f * f n := rfl
theorem pd_pad {n N : Nat} {f : Nat → Nat} (hN : n ≤ N) (hz : ∀ k, n ≤ k → k < N → f k = 1) : pd n f = pd N f := by
  induction N with
  | zero =>
    have e : n = 0 := by omega
    rw [e]
  | succ N ih =>
    by_cases e : n = N + 1
    · rw [e]
    · rw [pd_s, hz N (by omega) (by omega), Nat.mul_one]
      exact ih (by omega) (fun k h1 h2 => hz k h1 (by omega))
theorem pd_mul (n : Nat) (f g : Nat → Nat) : pd n f * pd n g = pd n (fun k => f k * g k) := by
  induction n with
  | zero => rfl
  | succ n ih =>
    rw [pd_s, pd_s, pd_s, ← ih]
    ac_rfl
theorem pd_cg {n : Nat} {f g : Nat → Nat} (h : ∀ k, k < n → f k = g k) : pd n f = pd n g := by
  induction n with
  | zero => rfl
  | succ n ih => rw [pd_s, pd_s, ih (fun k hk => h k (by omega)), h n (by omega)]
theorem pd_le {n : Nat} {f g : Nat → Nat} (h : ∀ k, k < n → f k ≤ g k) : pd n f ≤ pd n g := by
  induction n with
  | zero => exact Nat.le_refl _
  | succ n ih => exact Nat.mul_le_mul (ih fun k hk => h k (by omega)) (h n (by omega))
theorem pd_pos {n : Nat} {f : Nat → Nat} (h : ∀ k, k < n → 0 < f k) : 0 < pd n f := by
  induction n with
  | zero => exact Nat.one_pos
  | succ n ih => exact Nat.mul_pos (ih fun k hk => h k (by omega)) (h n (by omega))
theorem pd_10 (n : Nat) : pd n (fun _ => 10) = 10 ^ n := by
  induction n with
  | zero => rfl
  | succ n ih => rw [pd_s, ih, Nat.pow_succ]
def oP (r : Row) (a : Nat) : Nat := pd 8 (fun g => if a.testBit g = true then 10 - rkN r g else 10)
def oA (a : Nat) : Nat → Nat := fun g => if a.testBit g = true then 10 else 1
def oN (r : Row) (a : Nat) : Nat → Nat := fun g => if a.testBit g = true then 10 - rkN r g else 1
def oB (a : Nat) : Nat → Nat := fun g => if a.testBit g = true then 1 else 10
def oddN (r : Row) (a : Nat) : Nat := (100000000 - oP r a) / 10000
theorem oP_le (r : Row) (a : Nat) : oP r a ≤ 100000000 := by
  have h : oP r a ≤ pd 8 (fun _ => 10) := pd_le fun k _ => by
    show (if a.testBit k = true then 10 - rkN r k else 10) ≤ 10
    split <;> omega
  rw [pd_10] at h
  exact h
theorem odd_le (r : Row) (a : Nat) : oddN r a ≤ 10000 := by
  unfold oddN
  omega
theorem odd_eq (r : Row) (a : Nat) : (pd 8 (oA a) - pd 8 (oN r a)) * 10000 / pd 8 (oA a) = oddN r a ∧ pd 8 (oN r a) ≤ pd 8 (oA a) ∧ 0 < pd 8 (oA a) ∧ pd 8 (oA a) ≤ 100000000 := by
  have h1 : pd 8 (oA a) * pd 8 (oB a) = 100000000 := by
    rw [pd_mul, show (100000000 : Nat) = pd 8 (fun _ => 10) by rw [pd_10]]
    exact pd_cg fun k _ => by unfold oA oB; split <;> rfl
  have h2 : pd 8 (oN r a) * pd 8 (oB a) = oP r a := by
    rw [pd_mul]
    exact pd_cg fun k _ => by unfold oN oB; split <;> simp
  have h3 : pd 8 (oN r a) ≤ pd 8 (oA a) := pd_le fun k _ => by unfold oN oA; split <;> omega
  have h4 : 0 < pd 8 (oA a) := pd_pos fun k _ => by unfold oA; split <;> omega
  have h5 : 0 < pd 8 (oB a) := pd_pos fun k _ => by unfold oB; split <;> omega
  refine ⟨?_, h3, h4, ?_⟩
  · have e : 100000000 - oP r a = (pd 8 (oA a) - pd 8 (oN r a)) * pd 8 (oB a) := by
      rw [← h1, ← h2, Nat.sub_mul]
    unfold oddN
    rw [e, ← Nat.mul_div_mul_right ((pd 8 (oA a) - pd 8 (oN r a)) * 10000) (pd 8 (oA a)) h5, h1, show (100000000 : Nat) = 10000 * 10000 from rfl, show (pd 8 (oA a) - pd 8 (oN r a)) * 10000 * pd 8 (oB a) = (pd 8 (oA a) - pd 8 (oN r a)) * pd 8 (oB a) * 10000 by ac_rfl]
    exact Nat.mul_div_mul_right _ _ (by decide)
  · rw [← h1]
    exact Nat.le_mul_of_pos_right _ h5
theorem l_m (a b : Nat) : Int64.ofNat a * Int64.ofNat b = Int64.ofNat (a * b) := (Int64.ofNat_mul a b).symm
theorem l_s {a b : Nat} (h : b ≤ a) : Int64.ofNat a - Int64.ofNat b = Int64.ofNat (a - b) := (Int64.ofNat_sub a b h).symm
theorem l_d {a b : Nat} (ha : a < 9223372036854775808) (hb : b < 9223372036854775808) : Int64.ofNat a / Int64.ofNat b = Int64.ofNat (a / b) := (Int64.ofNat_div ha hb).symm
theorem l_i (a : Nat) : (Int64.ofNat a).toInt32 = Int32.ofNat a := Int64.toInt32_ofNat'
theorem l_nz {a : Nat} (h : 0 < a) (h2 : a < 9223372036854775808) : ¬ Int64.ofNat a = 0 := fun e => by
  have e2 := congrArg Int64.toInt e
  rw [Int64.toInt_ofNat_of_lt h2] at e2
  have : (0 : Int64).toInt = 0 := rfl
  omega
theorem rk64 : ∀ k, k ≤ 10 → (Int32.ofNat 10 - Int32.ofNat k).toInt64 = Int64.ofNat (10 - k) := by
  have h : ∀ k, k < 11 → (Int32.ofNat 10 - Int32.ofNat k).toInt64 = Int64.ofNat (10 - k) := by decide +kernel
  exact fun k hk => h k (by omega)
theorem lit64_10 : (10 : Int64) = Int64.ofNat 10 := rfl
theorem c_odds {μ : Mem} {r : Row} (H : HC (μ (0 + 1)) r) (V : Vr r) {a : Nat} (ha : a < 256) (hb : ∀ g, g < 8 → a.testBit g = true → g < nv r 3) : f_X9_oddsBy μ (Int32.ofNat a) = some (Int32.ofNat (oddN r a)) := by
  refine lpF (fun n (s : Int64 × Int32) => lp_X9_oddsBy_5 (Int32.ofNat a) μ _ n s.1 s.2) (fun k => (Int64.ofNat (pd k (fun g => if a.testBit g = true then 10 - rkN r g else 10)), Int32.ofNat k)) 8 _ (fun k hk n => ?_) (fun n => ?_) 4096 (by decide)
  · show lp_X9_oddsBy_5 _ _ _ _ _ _ = lp_X9_oddsBy_5 _ _ _ _ _ _
    simp (disch := omega) only [lp_X9_oddsBy_5, hold_b a ha k hk, nm_q, bs_q, on_a, on_m, on_t, ix_on, le_t, le_f, lt_t, lt_f, eq_t, eq_f, ite_b0, ite_b1, ↓reduceIte, i_0, i_1, i_2, i_3, i_4, i_5, i_6, i_7, i_8, i_9, i_10, i_11, i_12, i_13, i_14, i_15, i_16, i_18, i_20, i_22, i_24, i_30, i_31, i_32, i_40, i_48, i_50, i_51, i_52, i_57, i_60, i_64, i_65, i_66, i_67, i_97, i_99, i_100, i_122, i_239, i_240, i_255, i_256, i_304, i_400, i_401, i_704, i_999, i_1000, i_2304, i_3344, i_3648, i_4096, i_9999, i_32767]
    rw [pd_s]
    by_cases h1 : a.testBit k = true
    · rw [if_pos h1, if_pos h1, c_risk H V (hb k hk h1)]
      simp only [bs_q]
      rw [rk64 _ (V.rk10 hk), l_m]
    · rw [if_neg h1, if_neg h1, lit64_10, l_m]
  · show lp_X9_oddsBy_5 _ _ _ _ _ _ = _
    have hP := oP_le r a
    rw [lp_X9_oddsBy_5, if_pos (show (8 : Int32) ≤ Int32.ofNat 8 by decide)]
    show some ((((100000000 : Int64) - Int64.ofNat (oP r a)) / 10000).toInt32) = _
    rw [show (100000000 : Int64) = Int64.ofNat 100000000 from rfl, show (10000 : Int64) = Int64.ofNat 10000 from rfl, l_s hP, l_d (by omega) (by omega), l_i]
    rfl
theorem r_odds {μ : Mem} {r : Row} (e : μ 0 13 = r) (V : Vr r) {a : Nat} (ha : a < 256) (hb : ∀ g, g < 8 → a.testBit g = true → g < nv r 3) : f_X10_oddsOf μ (Int32.ofNat a) = some (Int32.ofNat (oddN r a)) := by
  have h8 := V.c8
  obtain ⟨q1, q2, q3, q4⟩ := odd_eq r a
  have eA : pd (nv r 3) (oA a) = pd 8 (oA a) := pd_pad h8 fun k h1 h2 => by
    unfold oA
    rw [if_neg]
    intro h
    have := hb k h2 h
    omega
  have eN : pd (nv r 3) (oN r a) = pd 8 (oN r a) := pd_pad h8 fun k h1 h2 => by
    unfold oN
    rw [if_neg]
    intro h
    have := hb k h2 h
    omega
  refine lpF (fun n (s : Int64 × Int64 × Int32) => lp_X10_oddsOf_8 (Int32.ofNat a) μ _ n s.1 s.2.1 s.2.2) (fun k => (Int64.ofNat (pd k (oA a)), Int64.ofNat (pd k (oN r a)), Int32.ofNat k)) (nv r 3) _ (fun k hk n => ?_) (fun n => ?_) 4096 (by omega)
  · show lp_X10_oddsOf_8 _ _ _ _ _ _ _ = lp_X10_oddsOf_8 _ _ _ _ _ _ _
    have hk8 : k < 8 := by omega
    simp (disch := omega) only [lp_X10_oddsOf_8, e, V.e3, isOf_b a ha k hk8, R_risk e V hk8, nm_q, bs_q, on_a, on_m, on_t, ix_on, le_t, le_f, lt_t, lt_f, eq_t, eq_f, ite_b0, ite_b1, ↓reduceIte, i_0, i_1, i_2, i_3, i_4, i_5, i_6, i_7, i_8, i_9, i_10, i_11, i_12, i_13, i_14, i_15, i_16, i_18, i_20, i_22, i_24, i_30, i_31, i_32, i_40, i_48, i_50, i_51, i_52, i_57, i_60, i_64, i_65, i_66, i_67, i_97, i_99, i_100, i_122, i_239, i_240, i_255, i_256, i_304, i_400, i_401, i_704, i_999, i_1000, i_2304, i_3344, i_3648, i_4096, i_9999, i_32767]
    rw [pd_s, pd_s, rk64 _ (V.rk10 hk8)]
    unfold oA oN
    by_cases h1 : a.testBit k = true
    · rw [if_pos h1, if_pos h1, if_pos h1, lit64_10, l_m, l_m]
    · rw [if_neg h1, if_neg h1, if_neg h1, Nat.mul_one, Nat.mul_one]
  · show lp_X10_oddsOf_8 _ _ _ _ _ _ _ = _
    simp (disch := omega) only [lp_X10_oddsOf_8, e, V.e3, nm_q, bs_q, on_a, on_m, on_t, ix_on, le_t, le_f, lt_t, lt_f, eq_t, eq_f, ite_b0, ite_b1, ↓reduceIte, i_0, i_1, i_2, i_3, i_4, i_5, i_6, i_7, i_8, i_9, i_10, i_11, i_12, i_13, i_14, i_15, i_16, i_18, i_20, i_22, i_24, i_30, i_31, i_32, i_40, i_48, i_50, i_51, i_52, i_57, i_60, i_64, i_65, i_66, i_67, i_97, i_99, i_100, i_122, i_239, i_240, i_255, i_256, i_304, i_400, i_401, i_704, i_999, i_1000, i_2304, i_3344, i_3648, i_4096, i_9999, i_32767]
    unfold nzl
    have hX : (pd 8 (oA a) - pd 8 (oN r a)) * 10000 ≤ 100000000 * 10000 := Nat.mul_le_mul_right _ (by omega)
    rw [eA, eN, if_neg (l_nz q3 (by omega)), l_s q2, show (10000 : Int64) = Int64.ofNat 10000 from rfl, l_m, l_d (by omega) (by omega), l_i, q1]
theorem e_X10_odds (μ : Mem) : f_X10_odds μ = ix 4 704 ((f_X10_watchers (upm μ 0 12 0 0) ((upm μ 0 12 0 0) 0 13 (Int32.toNatClampNeg 4))).bind fun (q2 : Int32) => (f_X10_oddsOf (upm μ 0 12 0 0) q2).bind fun (q3 : Int32) => some (q3, (upm μ 0 12 0 0))) := by
  unfold f_X10_odds
  rw [nm_q]
theorem q_odds {μ : Mem} (R : Rel μ) : AgQ (f_X9_odds μ) (f_X10_odds μ) := by
  have V := R.V
  have H : HC (μ (0 + 1)) (μ 0 13) := R.H
  refine AgQ.q R (Int32.ofNat (oddN (μ 0 13) (wt (μ 0 13) (nv (μ 0 13) 4)))) ?_ ?_
  · unfold f_X9_odds
    rw [q_odds_w H V]
    simp only [bs_q]
    rw [c_odds H V (wt_256 V _) (fun g _ h => wt_lt h)]
    simp only [bs_q]
  · rw [e_X10_odds]
    simp (disch := omega) only [up0, V.e4, R_watchers (up0 _ _) V V.b4, r_odds (up0 _ _) V (wt_256 V _) (fun g _ h => wt_lt h), nm_q, bs_q, on_a, on_m, on_t, ix_on, le_t, le_f, lt_t, lt_f, eq_t, eq_f, ite_b0, ite_b1, ↓reduceIte, i_0, i_1, i_2, i_3, i_4, i_5, i_6, i_7, i_8, i_9, i_10, i_11, i_12, i_13, i_14, i_15, i_16, i_18, i_20, i_22, i_24, i_30, i_31, i_32, i_40, i_48, i_50, i_51, i_52, i_57, i_60, i_64, i_65, i_66, i_67, i_97, i_99, i_100, i_122, i_239, i_240, i_255, i_256, i_304, i_400, i_401, i_704, i_999, i_1000, i_2304, i_3344, i_3648, i_4096, i_9999, i_32767]
def dif (a b : Nat) : Nat := mk 8 (fun k => a.testBit k && !b.testBit k)
theorem on_andn {a b : Nat} (ha : a < 256) : Int32.ofNat a &&& (Int32.ofNat b ^^^ -1) = Int32.ofNat (dif a b) := by
  rw [Int32.xor_neg_one]
  apply Int32.toBitVec_inj.mp
  rw [Int32.toBitVec_and, Int32.toBitVec_not]
  show BitVec.ofNat 32 a &&& ~~~ BitVec.ofNat 32 b = BitVec.ofNat 32 (dif a b)
  apply BitVec.eq_of_getLsbD_eq
  intro i hi
  unfold dif
  simp only [BitVec.getLsbD_and, BitVec.getLsbD_not, BitVec.getLsbD_ofNat, hi, decide_true, Bool.true_and, mk_tb]
  by_cases h8 : i < 8
  · rw [decide_eq_true h8, Bool.true_and]
  · rw [decide_eq_false h8, tb_big ha h8, Bool.false_and, Bool.false_and]
theorem on_andn2 {a b : Nat} (ha : a < 256) : Int32.ofNat a &&& (Int32.ofNat b ^^^ -Int32.ofNat 1) = Int32.ofNat (dif a b) := on_andn ha
theorem dif_256 (a b : Nat) : dif a b < 256 := mk_256 _ (Nat.le_refl 8)
theorem dif_z {a b : Nat} : dif a b = 0 ↔ ∀ k, k < 8 → a.testBit k = true → b.testBit k = true := by
  unfold dif
  rw [mk_zero]
  constructor
  · intro h k hk h1
    have := h k hk
    rw [h1, Bool.true_and, Bool.not_eq_false'] at this
    exact this
  · intro h k hk
    cases h1 : a.testBit k
    · rfl
    · rw [h k hk h1]
      rfl
theorem dif_w {r : Row} (p a : Nat) : ∀ g, g < 8 → (dif (wt r p) a).testBit g = true → g < nv r 3 := by
  intro g hg h
  unfold dif at h
  rw [mk_tb, Bool.and_eq_true, Bool.and_eq_true] at h
  exact wt_lt h.2.1
def snB (r : Row) (q a : Nat) : Bool := decide (dif a (wt r (nv r 4)) = 0) && decide (oddN r (dif (wt r (nv r 4)) a) ≤ q)
theorem c_sent {μ : Mem} {r : Row} (H : HC (μ (0 + 1)) r) (V : Vr r) {q : Nat} (hq : q ≤ 9999) : ∃ a, a < 256 ∧ f_X9_sent μ (Int32.ofNat q) = some (0, Int32.ofNat a, μ) ∧ snB r q a = true ∧ ∀ b, b < 256 → snB r q b = true → bef a b := by
  have hw := wt_256 V (nv r 4)
  have hs0 : snB r q (wt r (nv r 4)) = true := by
    unfold snB
    rw [Bool.and_eq_true, decide_eq_true_eq, decide_eq_true_eq]
    refine ⟨dif_z.mpr fun _ _ h => h, ?_⟩
    have e : dif (wt r (nv r 4)) (wt r (nv r 4)) = 0 := dif_z.mpr fun _ _ h => h
    rw [e]
    have e2 : oP r 0 = 100000000 := by
      have : oP r 0 = pd 8 (fun _ => 10) := pd_cg fun k _ => by rw [Nat.zero_testBit]; rfl
      rw [this, pd_10]
    unfold oddN
    rw [e2]
    omega
  unfold f_X9_sent
  rw [nm_q, i_0, i_9999, if_neg (by rw [on_lt (by omega) (by decide)]; omega), if_pos (by rw [on_le (by omega) (by decide)]; exact hq), q_odds_w H V]
  simp only [bs_q]
  refine lpP (fun n (s : Int32 × Int32) => lp_X9_sent_42 (Int32.ofNat q) μ (Int32.ofNat (wt r (nv r 4))) n s.1 s.2) (fun o => ∃ a, a < 256 ∧ o = some (0, Int32.ofNat a, μ) ∧ snB r q a = true ∧ ∀ b, b < 256 → snB r q b = true → bef a b) (fun k s => ∃ a, a < 256 ∧ s = (Int32.ofNat a, Int32.ofNat k) ∧ snB r q a = true ∧ ∀ b, b < k → snB r q b = true → bef a b) 256 ?_ 4096 (Int32.ofNat (wt r (nv r 4)), Int32.ofNat 0) (by decide) ⟨_, hw, rfl, hs0, fun b hb => by omega⟩
  rintro k s hk ⟨a, ha, rfl, hs, hb⟩ n
  by_cases h8 : k = 256
  · left
    subst h8
    refine ⟨a, ha, ?_, hs, hb⟩
    show lp_X9_sent_42 _ _ _ _ _ _ = _
    rw [lp_X9_sent_42, if_pos (show (256 : Int32) ≤ Int32.ofNat 256 by decide)]
  · right
    have hk2 : k < 256 := by omega
    refine ⟨hk2, ?_⟩
    have p1 := pc_le k
    have p2 := pc_le a
    have hd1 := dif_256 k (wt r (nv r 4))
    have hod := odd_le r (dif (wt r (nv r 4)) k)
    simp (disch := omega) only [lp_X9_sent_42, bc_b k hk2, bc_b a ha, on_andn2 hk2, on_andn2 hw, c_odds H V (dif_256 _ _) (dif_w _ _), nm_q, bs_q, on_a, on_m, on_t, ix_on, le_t, le_f, lt_t, lt_f, eq_t, eq_f, ite_b0, ite_b1, ↓reduceIte, i_0, i_1, i_2, i_3, i_4, i_5, i_6, i_7, i_8, i_9, i_10, i_11, i_12, i_13, i_14, i_15, i_16, i_18, i_20, i_22, i_24, i_30, i_31, i_32, i_40, i_48, i_50, i_51, i_52, i_57, i_60, i_64, i_65, i_66, i_67, i_97, i_99, i_100, i_122, i_239, i_240, i_255, i_256, i_304, i_400, i_401, i_704, i_999, i_1000, i_2304, i_3344, i_3648, i_4096, i_9999, i_32767]
    simp (disch := omega) only [on_le, on_lt, on_eq]
    have keep : (snB r q k = true → bef a k) → ∃ s', (∃ a', a' < 256 ∧ s' = (Int32.ofNat a', Int32.ofNat (k + 1)) ∧ snB r q a' = true ∧ ∀ b, b < k + 1 → snB r q b = true → bef a' b) ∧ lp_X9_sent_42 (Int32.ofNat q) μ (Int32.ofNat (wt r (nv r 4))) n (Int32.ofNat a) (Int32.ofNat (k + 1)) = lp_X9_sent_42 (Int32.ofNat q) μ (Int32.ofNat (wt r (nv r 4))) n s'.1 s'.2 := by
      intro h
      refine ⟨(Int32.ofNat a, Int32.ofNat (k + 1)), ⟨a, ha, rfl, hs, fun b h2 h3 => ?_⟩, rfl⟩
      by_cases e : b = k
      · rw [e]
        rw [e] at h3
        exact h h3
      · exact hb b (by omega) h3
    have take : snB r q k = true → bef k a → ∃ s', (∃ a', a' < 256 ∧ s' = (Int32.ofNat a', Int32.ofNat (k + 1)) ∧ snB r q a' = true ∧ ∀ b, b < k + 1 → snB r q b = true → bef a' b) ∧ lp_X9_sent_42 (Int32.ofNat q) μ (Int32.ofNat (wt r (nv r 4))) n (Int32.ofNat k) (Int32.ofNat (k + 1)) = lp_X9_sent_42 (Int32.ofNat q) μ (Int32.ofNat (wt r (nv r 4))) n s'.1 s'.2 := by
      intro h h2
      refine ⟨(Int32.ofNat k, Int32.ofNat (k + 1)), ⟨k, hk2, rfl, h, fun b h3 h4 => ?_⟩, rfl⟩
      by_cases e : b = k
      · rw [e]
        exact Or.inr ⟨rfl, Nat.le_refl _⟩
      · have := hb b (by omega) h4
        unfold bef at h2 this ⊢
        omega
    have sn : snB r q k = true ↔ dif k (wt r (nv r 4)) = 0 ∧ oddN r (dif (wt r (nv r 4)) k) ≤ q := by
      unfold snB
      rw [Bool.and_eq_true, decide_eq_true_eq, decide_eq_true_eq]
    by_cases hd : dif k (wt r (nv r 4)) = 0
    · simp only [hd, ↓reduceIte]
      by_cases ho : q < oddN r (dif (wt r (nv r 4)) k)
      · simp only [ho, ↓reduceIte, ite_self]
        exact keep fun h => by have := (sn.mp h).2; omega
      · simp only [ho, ↓reduceIte]
        have hsk : snB r q k = true := sn.mpr ⟨hd, by omega⟩
        by_cases c1 : pc a ≤ pc k
        · simp only [c1, ↓reduceIte]
          by_cases c2 : a ≤ k
          · simp only [c2, ↓reduceIte]
            exact keep fun _ => by unfold bef; omega
          · simp only [c2, ↓reduceIte]
            by_cases c3 : pc k = pc a
            · simp only [c3, ↓reduceIte]
              exact take hsk (by unfold bef; omega)
            · simp only [c3, ↓reduceIte]
              exact keep fun _ => by unfold bef; omega
        · simp only [c1, ↓reduceIte]
          exact take hsk (by unfold bef; omega)
    · simp only [hd, ↓reduceIte]
      have := keep fun h => absurd (sn.mp h).1 hd
      first | exact this | (split <;> exact this)
def hsB (r : Row) (a n : Nat) : Bool := (List.range n).all fun g => !a.testBit g || hrB r g
theorem hsB_iff {r : Row} {a n : Nat} : hsB r a n = true ↔ ∀ g, g < n → a.testBit g = true → hrB r g = true := by
  unfold hsB
  rw [List.all_eq_true]
  constructor
  · intro h k hk h2
    have := h k (List.mem_range.mpr hk)
    rw [h2] at this
    exact this
  · intro h k hk
    cases h1 : a.testBit k
    · rfl
    · rw [h k (List.mem_range.mp hk) h1]
      rfl
theorem hsB_s {r : Row} {a n : Nat} : hsB r a (n + 1) = (hsB r a n && (!a.testBit n || hrB r n)) := by
  unfold hsB
  rw [List.range_succ, List.all_append]
  simp
theorem rs_in {μ : Mem} {r : Row} (e : μ 0 13 = r) (V : Vr r) {a : Nat} (ha : a < 256) (K : Int32 → Option (Int32 × Mem)) (b : Bool) : lp_X10_sent_85 μ (Int32.ofNat a) K 4096 (bI b) (Int32.ofNat 0) = K (bI (b && hsB r a (nv r 3))) := by
  have h8 := V.c8
  refine lpP (fun n (s : Int32 × Int32) => lp_X10_sent_85 μ (Int32.ofNat a) K n s.1 s.2) (fun o => o = K (bI (b && hsB r a (nv r 3)))) (fun k s => s = (bI (b && hsB r a k), Int32.ofNat k)) (nv r 3) ?_ 4096 (bI b, Int32.ofNat 0) (by omega) (by rw [show hsB r a 0 = true from rfl, Bool.and_true])
  rintro k s hk rfl n
  by_cases hkn : k = nv r 3
  · left
    show lp_X10_sent_85 _ _ _ _ _ _ = _
    rw [hkn]
    simp (disch := omega) only [lp_X10_sent_85, e, V.e3, nm_q, bs_q, on_a, on_m, on_t, ix_on, le_t, le_f, lt_t, lt_f, eq_t, eq_f, ite_b0, ite_b1, ↓reduceIte, i_0, i_1, i_2, i_3, i_4, i_5, i_6, i_7, i_8, i_9, i_10, i_11, i_12, i_13, i_14, i_15, i_16, i_18, i_20, i_22, i_24, i_30, i_31, i_32, i_40, i_48, i_50, i_51, i_52, i_57, i_60, i_64, i_65, i_66, i_67, i_97, i_99, i_100, i_122, i_239, i_240, i_255, i_256, i_304, i_400, i_401, i_704, i_999, i_1000, i_2304, i_3344, i_3648, i_4096, i_9999, i_32767]
  · have hk8 : k < 8 := by omega
    simp (disch := omega) only [lp_X10_sent_85, e, V.e3, isOf_b a ha k hk8, R_here e hk8, nm_q, bs_q, on_a, on_m, on_t, ix_on, le_t, le_f, lt_t, lt_f, eq_t, eq_f, ite_b0, ite_b1, ↓reduceIte, i_0, i_1, i_2, i_3, i_4, i_5, i_6, i_7, i_8, i_9, i_10, i_11, i_12, i_13, i_14, i_15, i_16, i_18, i_20, i_22, i_24, i_30, i_31, i_32, i_40, i_48, i_50, i_51, i_52, i_57, i_60, i_64, i_65, i_66, i_67, i_97, i_99, i_100, i_122, i_239, i_240, i_255, i_256, i_304, i_400, i_401, i_704, i_999, i_1000, i_2304, i_3344, i_3648, i_4096, i_9999, i_32767]
    cases h1 : (b && hsB r a k)
    · left
      rw [if_neg (by decide)]
      have : (b && hsB r a (nv r 3)) = false := by
        cases b
        · rfl
        · rw [Bool.true_and] at h1 ⊢
          rw [← Bool.not_eq_true, hsB_iff]
          intro h
          rw [hsB_iff.mpr fun g hg => h g (by omega)] at h1
          cases h1
      rw [this]
    · right
      refine ⟨by omega, _, rfl, ?_⟩
      rw [if_pos rfl, hsB_s, ← Bool.and_assoc, h1, Bool.true_and]
      cases h2 : a.testBit k
      · rw [if_neg (by decide)]
        rfl
      · rw [if_pos rfl]
        cases h3 : hrB r k
        · rw [if_neg (by decide)]
          rfl
        · rw [if_pos rfl]
          rfl
def rnB (r : Row) (q a : Nat) : Bool := hsB r a (nv r 3) && decide (oddN r (dif (wt r (nv r 4)) a) ≤ q)
theorem rnB_iff {r : Row} {q a : Nat} : rnB r q a = true ↔ hsB r a (nv r 3) = true ∧ oddN r (dif (wt r (nv r 4)) a) ≤ q := by
  unfold rnB
  rw [Bool.and_eq_true, decide_eq_true_eq]
theorem pow_b : ∀ k, k < 9 → jshl (Int32.ofNat 1) (Int32.ofNat k) = Int32.ofNat (2 ^ k) := by decide +kernel
theorem pow_le8 {k : Nat} (h : k ≤ 8) : 2 ^ k ≤ 256 := Nat.pow_le_pow_right (n := 2) (by omega) h
theorem r_sent {μ : Mem} {r : Row} (e : μ 0 13 = r) (V : Vr r) {q : Nat} (hq : q ≤ 9999) (hex : ∃ a, a < 2 ^ nv r 3 ∧ rnB r q a = true) : ∃ a, a < 2 ^ nv r 3 ∧ lp_X10_sent_45 (Int32.ofNat q) μ (Int32.ofNat (wt r (nv r 4))) 4096 (-1) 0 = some (Int32.ofNat a, μ) ∧ rnB r q a = true ∧ ∀ b, b < 2 ^ nv r 3 → rnB r q b = true → bef a b := by
  have h8 := V.c8
  have hN := pow_le8 h8
  have hw := wt_256 V (nv r 4)
  refine lpP (fun n (s : Int32 × Int32) => lp_X10_sent_45 (Int32.ofNat q) μ (Int32.ofNat (wt r (nv r 4))) n s.1 s.2) (fun o => ∃ a, a < 2 ^ nv r 3 ∧ o = some (Int32.ofNat a, μ) ∧ rnB r q a = true ∧ ∀ b, b < 2 ^ nv r 3 → rnB r q b = true → bef a b) (fun k s => (s = (-Int32.ofNat 1, Int32.ofNat k) ∧ ∀ b, b < k → rnB r q b = false) ∨ ∃ a, a < k ∧ s = (Int32.ofNat a, Int32.ofNat k) ∧ rnB r q a = true ∧ ∀ b, b < k → rnB r q b = true → bef a b) (2 ^ nv r 3) ?_ 4096 (-1, 0) (by omega) (Or.inl ⟨rfl, fun b hb => by omega⟩)
  rintro k s hk hI n
  by_cases hkn : k = 2 ^ nv r 3
  · left
    subst hkn
    rcases hI with ⟨rfl, hb⟩ | ⟨a, ha, rfl, hs, hb⟩
    · obtain ⟨a, ha, h⟩ := hex
      rw [hb a ha] at h
      cases h
    · refine ⟨a, ha, ?_, hs, hb⟩
      show lp_X10_sent_45 _ _ _ _ _ _ = _
      simp (disch := omega) only [lp_X10_sent_45, e, V.e3, pow_b _ (show nv r 3 < 9 by omega), nm_q, bs_q, on_a, on_m, on_t, ix_on, le_t, le_f, lt_t, lt_f, eq_t, eq_f, ite_b0, ite_b1, ↓reduceIte, i_0, i_1, i_2, i_3, i_4, i_5, i_6, i_7, i_8, i_9, i_10, i_11, i_12, i_13, i_14, i_15, i_16, i_18, i_20, i_22, i_24, i_30, i_31, i_32, i_40, i_48, i_50, i_51, i_52, i_57, i_60, i_64, i_65, i_66, i_67, i_97, i_99, i_100, i_122, i_239, i_240, i_255, i_256, i_304, i_400, i_401, i_704, i_999, i_1000, i_2304, i_3344, i_3648, i_4096, i_9999, i_32767]
  · right
    have hk2 : k < 2 ^ nv r 3 := by omega
    have hk3 : k < 256 := by omega
    have p1 := pc_le k
    have hod := odd_le r (dif (wt r (nv r 4)) k)
    refine ⟨hk2, ?_⟩
    have e1 := fun K => rs_in e V hk3 K true
    have e0 := fun K => rs_in e V hk3 K false
    simp only [bI_t, bI_f, i_1, i_0, Bool.true_and, Bool.false_and] at e1 e0
    have take : rnB r q k = true → ∀ J : Option (Int32 × Mem), J = lp_X10_sent_45 (Int32.ofNat q) μ (Int32.ofNat (wt r (nv r 4))) n (Int32.ofNat k) (Int32.ofNat (k + 1)) → (∀ b, b < k → rnB r q b = true → bef k b) → ∃ s', ((s' = (-Int32.ofNat 1, Int32.ofNat (k + 1)) ∧ ∀ b, b < k + 1 → rnB r q b = false) ∨ ∃ a, a < k + 1 ∧ s' = (Int32.ofNat a, Int32.ofNat (k + 1)) ∧ rnB r q a = true ∧ ∀ b, b < k + 1 → rnB r q b = true → bef a b) ∧ J = lp_X10_sent_45 (Int32.ofNat q) μ (Int32.ofNat (wt r (nv r 4))) n s'.1 s'.2 := by
      intro h J hJ hb
      refine ⟨(Int32.ofNat k, Int32.ofNat (k + 1)), Or.inr ⟨k, by omega, rfl, h, fun b h2 h3 => ?_⟩, hJ⟩
      by_cases e2 : b = k
      · rw [e2]
        exact Or.inr ⟨rfl, Nat.le_refl _⟩
      · exact hb b (by omega) h3
    rcases hI with ⟨rfl, hb⟩ | ⟨a, ha, rfl, hs, hb⟩
    · have keep : rnB r q k = false → ∀ J : Option (Int32 × Mem), J = lp_X10_sent_45 (Int32.ofNat q) μ (Int32.ofNat (wt r (nv r 4))) n (-Int32.ofNat 1) (Int32.ofNat (k + 1)) → ∃ s', ((s' = (-Int32.ofNat 1, Int32.ofNat (k + 1)) ∧ ∀ b, b < k + 1 → rnB r q b = false) ∨ ∃ a, a < k + 1 ∧ s' = (Int32.ofNat a, Int32.ofNat (k + 1)) ∧ rnB r q a = true ∧ ∀ b, b < k + 1 → rnB r q b = true → bef a b) ∧ J = lp_X10_sent_45 (Int32.ofNat q) μ (Int32.ofNat (wt r (nv r 4))) n s'.1 s'.2 := by
        intro h J hJ
        refine ⟨(-Int32.ofNat 1, Int32.ofNat (k + 1)), Or.inl ⟨rfl, fun b h3 => ?_⟩, hJ⟩
        by_cases e2 : b = k
        · rw [e2]
          exact h
        · exact hb b (by omega)
      simp (disch := omega) only [lp_X10_sent_45, e, V.e3, pow_b _ (show nv r 3 < 9 by omega), e1, on_andn2 hw, r_odds e V (dif_256 _ _) (dif_w _ _), nm_q, bs_q, on_a, on_m, on_t, ix_on, le_t, le_f, lt_t, lt_f, eq_t, eq_f, ite_b0, ite_b1, ↓reduceIte, i_0, i_1, i_2, i_3, i_4, i_5, i_6, i_7, i_8, i_9, i_10, i_11, i_12, i_13, i_14, i_15, i_16, i_18, i_20, i_22, i_24, i_30, i_31, i_32, i_40, i_48, i_50, i_51, i_52, i_57, i_60, i_64, i_65, i_66, i_67, i_97, i_99, i_100, i_122, i_239, i_240, i_255, i_256, i_304, i_400, i_401, i_704, i_999, i_1000, i_2304, i_3344, i_3648, i_4096, i_9999, i_32767]
      cases h1 : hsB r k (nv r 3)
      · rw [if_neg (by decide)]
        exact keep (by unfold rnB; rw [h1, Bool.false_and]) _ rfl
      · rw [if_pos rfl, il_lt (by omega) (by omega)]
        by_cases h2 : q < oddN r (dif (wt r (nv r 4)) k)
        · rw [if_pos h2]
          exact keep (by unfold rnB; rw [decide_eq_false (by omega), Bool.and_false]) _ rfl
        · rw [if_neg h2]
          exact take (rnB_iff.mpr ⟨h1, by omega⟩) _ rfl fun b h3 h4 => by rw [hb b h3] at h4; cases h4
    · have p2 := pc_le a
      have keep : (rnB r q k = true → bef a k) → ∀ J : Option (Int32 × Mem), J = lp_X10_sent_45 (Int32.ofNat q) μ (Int32.ofNat (wt r (nv r 4))) n (Int32.ofNat a) (Int32.ofNat (k + 1)) → ∃ s', ((s' = (-Int32.ofNat 1, Int32.ofNat (k + 1)) ∧ ∀ b, b < k + 1 → rnB r q b = false) ∨ ∃ a, a < k + 1 ∧ s' = (Int32.ofNat a, Int32.ofNat (k + 1)) ∧ rnB r q a = true ∧ ∀ b, b < k + 1 → rnB r q b = true → bef a b) ∧ J = lp_X10_sent_45 (Int32.ofNat q) μ (Int32.ofNat (wt r (nv r 4))) n s'.1 s'.2 := by
        intro h J hJ
        refine ⟨(Int32.ofNat a, Int32.ofNat (k + 1)), Or.inr ⟨a, by omega, rfl, hs, fun b h3 h4 => ?_⟩, hJ⟩
        by_cases e2 : b = k
        · rw [e2]
          rw [e2] at h4
          exact h h4
        · exact hb b (by omega) h4
      simp (disch := omega) only [lp_X10_sent_45, e, V.e3, pow_b _ (show nv r 3 < 9 by omega), e1, e0, on_andn2 hw, r_odds e V (dif_256 _ _) (dif_w _ _), bits_b k hk3, bits_b a (by omega), on_neg1, nm_q, bs_q, on_a, on_m, on_t, ix_on, le_t, le_f, lt_t, lt_f, eq_t, eq_f, ite_b0, ite_b1, ↓reduceIte, i_0, i_1, i_2, i_3, i_4, i_5, i_6, i_7, i_8, i_9, i_10, i_11, i_12, i_13, i_14, i_15, i_16, i_18, i_20, i_22, i_24, i_30, i_31, i_32, i_40, i_48, i_50, i_51, i_52, i_57, i_60, i_64, i_65, i_66, i_67, i_97, i_99, i_100, i_122, i_239, i_240, i_255, i_256, i_304, i_400, i_401, i_704, i_999, i_1000, i_2304, i_3344, i_3648, i_4096, i_9999, i_32767]
      rw [il_le (by omega) (by omega)]
      by_cases c1 : pc a ≤ pc k
      · rw [if_pos c1]
        exact keep (fun _ => by unfold bef; omega) _ rfl
      · rw [if_neg c1]
        cases h1 : hsB r k (nv r 3)
        · rw [if_neg (by decide)]
          exact keep (fun h => by rw [(rnB_iff.mp h).1] at h1; cases h1) _ rfl
        · rw [if_pos rfl, il_lt (by omega) (by omega)]
          by_cases h2 : q < oddN r (dif (wt r (nv r 4)) k)
          · rw [if_pos h2]
            exact keep (fun h => by have := (rnB_iff.mp h).2; omega) _ rfl
          · rw [if_neg h2]
            refine take (rnB_iff.mpr ⟨h1, by omega⟩) _ rfl fun b h3 h4 => ?_
            have := hb b h3 h4
            unfold bef at this ⊢
            omega
theorem pc_mono {a b : Nat} (ha : a < 256) (hb : b < 256) (h : ∀ k, k < 8 → a.testBit k = true → b.testBit k = true) : pc a ≤ pc b := by
  rw [pc_sm a ha, pc_sm b hb]
  have : ∀ n, n ≤ 8 → sm n (fun k => if a.testBit k = true then 1 else 0) ≤ sm n (fun k => if b.testBit k = true then 1 else 0) := by
    intro n
    induction n with
    | zero => intro _; exact Nat.le_refl _
    | succ n ih =>
      intro hn
      have := ih (by omega)
      have h2 := h n (by omega)
      rw [sm_s, sm_s]
      by_cases h3 : a.testBit n = true
      · rw [if_pos h3, if_pos (h2 h3)]
        omega
      · rw [if_neg h3]
        omega
  exact this 8 (Nat.le_refl 8)
theorem wt_hr {r : Row} {p g : Nat} (h : (wt r p).testBit g = true) : hrB r g = true := by
  unfold wt at h
  rw [mk_tb, Bool.and_eq_true, Bool.and_eq_true] at h
  exact h.2.1
theorem sub_pow {r : Row} {a : Nat} (ha : a < 256) (h : ∀ k, k < 8 → a.testBit k = true → k < nv r 3) : a < 2 ^ nv r 3 := by
  have e : a = mk (nv r 3) a.testBit := by
    apply Nat.eq_of_testBit_eq
    intro k
    rw [mk_tb]
    by_cases h8 : k < 8
    · cases h1 : a.testBit k
      · rw [Bool.and_false]
      · rw [decide_eq_true (h k h8 h1)]
        rfl
    · rw [tb_big ha h8, Bool.and_false]
  rw [e]
  exact mk_lt _ _
theorem sent_eq {r : Row} (V : Vr r) {q a b : Nat} (ha : a < 256) (hb : b < 2 ^ nv r 3) (a1 : snB r q a = true) (a2 : ∀ b, b < 256 → snB r q b = true → bef a b) (b1 : rnB r q b = true) (b2 : ∀ a, a < 2 ^ nv r 3 → rnB r q a = true → bef b a) : a = b := by
  have h8 := V.c8
  have hN := pow_le8 h8
  have hw := wt_256 V (nv r 4)
  have key : ∀ c, c < 256 → snB r q c = true → c < 2 ^ nv r 3 ∧ rnB r q c = true := by
    intro c hc h
    unfold snB at h
    rw [Bool.and_eq_true, decide_eq_true_eq, decide_eq_true_eq] at h
    have hs := dif_z.mp h.1
    refine ⟨sub_pow hc fun k hk h1 => wt_lt (hs k hk h1), rnB_iff.mpr ⟨hsB_iff.mpr fun g hg h1 => wt_hr (hs g (by omega) h1), h.2⟩⟩
  have hb256 : b < 256 := by omega
  have hb3 : b &&& wt r (nv r 4) < 256 := Nat.lt_of_le_of_lt Nat.and_le_left hb256
  have hd : dif (wt r (nv r 4)) (b &&& wt r (nv r 4)) = dif (wt r (nv r 4)) b := mk_cg fun k _ => by
    rw [Nat.testBit_and]
    cases (wt r (nv r 4)).testBit k <;> simp
  have hsn : snB r q (b &&& wt r (nv r 4)) = true := by
    unfold snB
    rw [Bool.and_eq_true, decide_eq_true_eq, decide_eq_true_eq, hd]
    refine ⟨dif_z.mpr fun k _ h => ?_, (rnB_iff.mp b1).2⟩
    rw [Nat.testBit_and, Bool.and_eq_true] at h
    exact h.2
  have h1 := b2 _ (key _ hb3 hsn).1 (key _ hb3 hsn).2
  have h2 : pc (b &&& wt r (nv r 4)) ≤ pc b := pc_mono hb3 hb256 fun k _ h => by
    rw [Nat.testBit_and, Bool.and_eq_true] at h
    exact h.1
  have h3 : b &&& wt r (nv r 4) ≤ b := Nat.and_le_left
  have h4 : b = b &&& wt r (nv r 4) := by
    unfold bef at h1
    omega
  rw [← h4] at hsn
  exact bef_anti (a2 b hb256 hsn) (b2 a (key a ha a1).1 (key a ha a1).2)
theorem q_sent {μ : Mem} (R : Rel μ) (q : Int32) : AgT [(0, 0), (1, 1)] (f_X9_sent μ q) (fun μ' => f_X10_sent μ' q) := by
  have V := R.V
  have H : HC (μ (0 + 1)) (μ 0 13) := R.H
  rcases in_cases q 0 9999 (by decide) (by decide) with ⟨k, -, hk, rfl⟩ | ⟨h1, h2⟩
  · obtain ⟨a, ha, e1, a1, a2⟩ := c_sent H V hk
    refine AgT.q R 0 0 _ (Int32.ofNat a) (by decide) e1 (fun μ' V' e => ?_) (fun _ => rfl)
    have hex : ∃ b, b < 2 ^ nv (μ 0 13) 3 ∧ rnB (μ 0 13) k b = true := by
      have h := a1
      unfold snB at h
      rw [Bool.and_eq_true, decide_eq_true_eq, decide_eq_true_eq] at h
      have h8 := V.c8
      have hs := dif_z.mp h.1
      exact ⟨a, sub_pow ha fun j hj h1 => wt_lt (hs j hj h1), rnB_iff.mpr ⟨hsB_iff.mpr fun g hg h1 => wt_hr (hs g (by omega) h1), h.2⟩⟩
    obtain ⟨b, hb, e2, b1, b2⟩ := r_sent (th_row 0 e) V hk hex
    have eab := sent_eq V ha hb a1 a2 b1 b2
    subst eab
    unfold f_X10_sent
    simp (disch := omega) only [isIn_t, th_row _ e, V.e4, R_watchers (th_row _ e) V V.b4, nm_q, bs_q, on_a, on_m, on_t, ix_on, le_t, le_f, lt_t, lt_f, eq_t, eq_f, ite_b0, ite_b1, ↓reduceIte, i_0, i_1, i_2, i_3, i_4, i_5, i_6, i_7, i_8, i_9, i_10, i_11, i_12, i_13, i_14, i_15, i_16, i_18, i_20, i_22, i_24, i_30, i_31, i_32, i_40, i_48, i_50, i_51, i_52, i_57, i_60, i_64, i_65, i_66, i_67, i_97, i_99, i_100, i_122, i_239, i_240, i_255, i_256, i_304, i_400, i_401, i_704, i_999, i_1000, i_2304, i_3344, i_3648, i_4096, i_9999, i_32767, upm_at, bk_b]
    exact e2
  · refine AgT.q R 1 1 0 0 (by decide) ?_ (fun μ' V' e => ?_) (fun h => by cases h)
    · unfold f_X9_sent
      rw [nm_q, i_0, i_9999]
      rcases h1 with h1 | ⟨h1, h3⟩
      · rw [if_pos h1]
      · rw [if_neg h1, if_neg (by rw [Int32.not_le]; exact h3)]
    · unfold f_X10_sent
      simp (disch := omega) only [h2, nm_q, bs_q, on_a, on_m, on_t, ix_on, le_t, le_f, lt_t, lt_f, eq_t, eq_f, ite_b0, ite_b1, ↓reduceIte, i_0, i_1, i_2, i_3, i_4, i_5, i_6, i_7, i_8, i_9, i_10, i_11, i_12, i_13, i_14, i_15, i_16, i_18, i_20, i_22, i_24, i_30, i_31, i_32, i_40, i_48, i_50, i_51, i_52, i_57, i_60, i_64, i_65, i_66, i_67, i_97, i_99, i_100, i_122, i_239, i_240, i_255, i_256, i_304, i_400, i_401, i_704, i_999, i_1000, i_2304, i_3344, i_3648, i_4096, i_9999, i_32767, upm_at, bk_b]
