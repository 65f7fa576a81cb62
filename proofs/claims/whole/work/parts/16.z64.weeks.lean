/-! ===== bored, look ===== -/
def pw (s x : Nat) : Bool := !(decide (x < s))
def fw (v : Nat → Nat) (t s : Nat) : Bool := ftB (pw s) v (t / 2)
theorem l64_or (a b : Nat) : Int64.ofNat a ||| Int64.ofNat b = Int64.ofNat (a ||| b) := by
  rw [← Int64.toBitVec_inj, Int64.toBitVec_or, Int64.toBitVec_ofNat', Int64.toBitVec_ofNat', Int64.toBitVec_ofNat', BitVec.ofNat_or]
theorem l64_shl : ∀ k, k < 52 → jlshl 1 (Int32.ofNat k) = Int64.ofNat (2 ^ k) := by decide +kernel
theorem l64_sh : ∀ k, k < 52 → ((Int32.ofNat k).toInt64 &&& 63).toBitVec.smod 64 = BitVec.ofNat 64 k := by decide +kernel
theorem l64_bit {a k : Nat} (ha : a < 2 ^ 52) (hk : k < 52) : (jlshr (Int64.ofNat a) (Int32.ofNat k)) &&& 1 = if a.testBit k = true then 1 else 0 := by
  rw [← Int64.toBitVec_inj]
  unfold jlshr
  rw [Int64.toBitVec_and, Int64.toBitVec_shiftRight, l64_sh k hk, Int64.toBitVec_ofNat']
  refine BitVec.eq_of_getLsbD_eq fun i hi => ?_
  rw [BitVec.getLsbD_and, BitVec.sshiftRight_eq', BitVec.getLsbD_sshiftRight]
  have h1 : (1 : Int64).toBitVec.getLsbD i = decide (i = 0) := by
    revert i
    decide +kernel
  rw [h1]
  have hr : (if a.testBit k = true then (1 : Int64) else 0).toBitVec.getLsbD i = (a.testBit k && decide (i = 0)) := by
    cases a.testBit k with
    | true =>
      rw [if_pos rfl, h1, Bool.true_and]
    | false =>
      rw [if_neg (by decide), Bool.false_and]
      exact BitVec.getLsbD_zero
  rw [hr]
  by_cases hi0 : i = 0
  · subst hi0
    have hk2 : (BitVec.ofNat 64 k).toNat = k := by
      rw [BitVec.toNat_ofNat]
      exact Nat.mod_eq_of_lt (by omega)
    rw [hk2, Nat.add_zero, if_pos (by omega), BitVec.getLsbD_ofNat, decide_eq_false (by omega), decide_eq_true (show k < 64 by omega)]
    cases a.testBit k <;> rfl
  · rw [decide_eq_false hi0, Bool.and_false, Bool.and_false]
theorem pop64 : ∀ lo, lo < 53 → ∀ n, n < 53 → lo + n ≤ 52 → f_J13_bitCount_95d88 (Int64.ofNat ((2 ^ n - 1) <<< lo)) = some (Int32.ofNat n) := by decide +kernel
/-- the weeks that fit stand side by side -/
theorem fw_int (v : Nat → Nat) : ∀ k, ∃ lo hi, lo ≤ 52 ∧ hi ≤ 52 ∧ ∀ s, s < 52 → ftB (pw s) v k = (decide (lo ≤ s) && decide (s < hi)) := by
  intro k
  induction k with
  | zero =>
    refine ⟨0, 52, by decide, by decide, fun s hs => ?_⟩
    rw [decide_eq_true (Nat.zero_le s), decide_eq_true hs]
    rfl
  | succ k ih =>
    obtain ⟨lo, hi, h1, h2, h3⟩ := ih
    by_cases h4 : v (2 * k + 1) = 1
    · refine ⟨lo, min hi (v (2 * k) + 1), h1, by omega, fun s hs => ?_⟩
      show (ftB (pw s) v k && (pw s (v (2 * k)) == decide (v (2 * k + 1) = 1))) = _
      rw [h3 s hs, decide_eq_true h4]
      unfold pw
      by_cases a1 : v (2 * k) < s
      · rw [decide_eq_true a1, decide_eq_false (show ¬ s < min hi (v (2 * k) + 1) by omega), Bool.and_false]
        exact Bool.and_false _
      · rw [decide_eq_false a1]
        by_cases a2 : s < hi
        · rw [decide_eq_true a2, decide_eq_true (show s < min hi (v (2 * k) + 1) by omega)]
          exact Bool.and_true _
        · rw [decide_eq_false a2, decide_eq_false (show ¬ s < min hi (v (2 * k) + 1) by omega), Bool.and_false]
          rfl
    · refine ⟨min 52 (max lo (v (2 * k) + 1)), hi, by omega, h2, fun s hs => ?_⟩
      show (ftB (pw s) v k && (pw s (v (2 * k)) == decide (v (2 * k + 1) = 1))) = _
      rw [h3 s hs, decide_eq_false h4]
      unfold pw
      by_cases a1 : v (2 * k) < s
      · rw [decide_eq_true a1]
        by_cases a2 : lo ≤ s
        · rw [decide_eq_true a2, decide_eq_true (show min 52 (max lo (v (2 * k) + 1)) ≤ s by omega)]
          exact Bool.and_true _
        · rw [decide_eq_false a2, decide_eq_false (show ¬ min 52 (max lo (v (2 * k) + 1)) ≤ s by omega)]
          rfl
      · rw [decide_eq_false a1, decide_eq_false (show ¬ min 52 (max lo (v (2 * k) + 1)) ≤ s by omega), Bool.false_and]
        exact Bool.and_false _
def cn (p : Nat → Bool) (k : Nat) : Nat := sm k (fun s => if p s = true then 1 else 0)
theorem cn_s (p : Nat → Bool) (k : Nat) : cn p (k + 1) = cn p k + (if p k = true then 1 else 0) := rfl
theorem cn_le (p : Nat → Bool) {j k : Nat} (h : j ≤ k) : cn p j ≤ cn p k := by
  obtain ⟨d, rfl⟩ : ∃ d, k = j + d := ⟨k - j, by omega⟩
  clear h
  induction d with
  | zero => exact Nat.le_refl _
  | succ d ih =>
    refine Nat.le_trans ih ?_
    show cn p (j + d) ≤ cn p (j + d) + _
    omega
theorem cn_b (p : Nat → Bool) (k : Nat) : cn p k ≤ k := by
  induction k with
  | zero => exact Nat.le_refl _
  | succ k ih =>
    rw [cn_s]
    split <;> omega
theorem cn_int {p : Nat → Bool} {lo hi : Nat} (h : ∀ s, s < 52 → p s = (decide (lo ≤ s) && decide (s < hi))) : ∀ k, k ≤ 52 → cn p k = min k hi - lo := by
  intro k
  induction k with
  | zero =>
    intro _
    show 0 = _
    omega
  | succ k ih =>
    intro hk
    rw [cn_s, ih (by omega), h k (by omega)]
    by_cases h1 : lo ≤ k
    · by_cases h2 : k < hi
      · rw [decide_eq_true h1, decide_eq_true h2, if_pos (by rfl)]
        omega
      · rw [decide_eq_false h2, Bool.and_false, if_neg (by decide)]
        omega
    · rw [decide_eq_false h1, Bool.false_and, if_neg (by decide)]
      omega
theorem mk52_lt (p : Nat → Bool) : mk 52 p < 2 ^ 52 := mk_lt 52 p
theorem pop_w (v : Nat → Nat) (t : Nat) : f_J13_bitCount_95d88 (Int64.ofNat (mk 52 (fw v t))) = some (Int32.ofNat (cn (fw v t) 52)) := by
  obtain ⟨lo, hi, h1, h2, h3⟩ := fw_int v (t / 2)
  have ec := cn_int (p := fw v t) (lo := lo) (hi := hi) h3 52 (Nat.le_refl _)
  have em : mk 52 (fw v t) = (2 ^ (hi - lo) - 1) <<< lo := Nat.eq_of_testBit_eq fun k => by
    rw [mk_tb, Nat.testBit_shiftLeft, Nat.testBit_two_pow_sub_one]
    by_cases hk : k < 52
    · have h4 : fw v t k = (decide (lo ≤ k) && decide (k < hi)) := h3 k hk
      rw [h4, decide_eq_true hk, Bool.true_and]
      by_cases h5 : lo ≤ k
      · rw [decide_eq_true h5, Bool.true_and, Bool.true_and]
        by_cases h6 : k < hi
        · rw [decide_eq_true h6, decide_eq_true (by omega)]
        · rw [decide_eq_false h6, decide_eq_false (by omega)]
      · rw [decide_eq_false h5, Bool.false_and, Bool.false_and]
    · rw [decide_eq_false hk, Bool.false_and]
      by_cases h5 : lo ≤ k
      · rw [decide_eq_false (show ¬ k - lo < hi - lo by omega), Bool.and_false]
      · rw [decide_eq_false (show ¬ k ≥ lo from h5), Bool.false_and]
  rw [em, ec, show min 52 hi - lo = hi - lo by omega]
  by_cases h4 : lo ≤ hi
  · exact pop64 lo (by omega) (hi - lo) (by omega) (by omega)
  · rw [show hi - lo = 0 by omega]
    exact pop64 lo (by omega) 0 (by omega) (by omega)
theorem c_fitw {μ : Mem} {v : Nat → Nat} {t : Nat} (T : TP μ v t) {s : Nat} (hs : s < 52) (K : Int32 → Option Int64) : lp_X9_weeksThatFit_16 μ (Int32.ofNat s) K 4096 1 0 = K (bI (ftB (pw s) v (t / 2))) := by
  have T' := T
  obtain ⟨t1, t2, -, t4⟩ := T'
  refine lpF (fun n (q : Int32 × Int32) => lp_X9_weeksThatFit_16 μ (Int32.ofNat s) K n q.1 q.2) (fun k => (bI (ftB (pw s) v k), Int32.ofNat (2 * k))) (t / 2) _ (fun k hk n => ?_) (fun n => ?_) 4096 (by omega)
  · show lp_X9_weeksThatFit_16 μ (Int32.ofNat s) K (n + 1) (bI (ftB (pw s) v k)) (Int32.ofNat (2 * k)) = lp_X9_weeksThatFit_16 μ (Int32.ofNat s) K n (bI (ftB (pw s) v k && (pw s (v (2 * k)) == decide (v (2 * k + 1) = 1)))) (Int32.ofNat (2 * (k + 1)))
    have v1 := (t4 (2 * k) (by omega)).2.2
    have v2 := (t4 (2 * k + 1) (by omega)).2.2
    rw [lp_X9_weeksThatFit_16, t2, i_1, on_a, if_neg (by rw [on_le (by omega) (by omega)]; omega), c_at T (by omega)]
    simp only [bs_q, nm_q]
    rw [c_at T (by omega), i_2, on_a, show 2 * k + 2 = 2 * (k + 1) by omega]
    simp only [bs_q]
    have e1 : (Int32.ofNat (v (2 * k)) < Int32.ofNat s) = (pw s (v (2 * k)) = false) := by
      rw [on_lt (by omega) (by omega)]
      unfold pw
      by_cases h : v (2 * k) < s
      · rw [decide_eq_true h]
        exact (eq_true h).trans (eq_true rfl).symm
      · rw [decide_eq_false h]
        exact (eq_false h).trans (eq_false (by decide)).symm
    have e2 : (Int32.ofNat (v (2 * k + 1)) = Int32.ofNat 1) = (decide (v (2 * k + 1) = 1) = true) := by
      rw [on_eq (by omega) (by decide), decide_eq_true_eq]
    rw [i_0]
    simp only [e1, e2, ite_b0]
    generalize pw s (v (2 * k)) = b1
    generalize decide (v (2 * k + 1) = 1) = b2
    generalize ftB (pw s) v k = b3
    cases b1 <;> cases b2 <;> cases b3 <;> rfl
  · show lp_X9_weeksThatFit_16 μ (Int32.ofNat s) K (n + 1) (bI (ftB (pw s) v (t / 2))) (Int32.ofNat (2 * (t / 2))) = _
    rw [lp_X9_weeksThatFit_16, t2, i_1, on_a, if_pos (by rw [on_le (by omega) (by omega)]; omega)]
theorem c_weeks {μ : Mem} {v : Nat → Nat} {t : Nat} (T : TP μ v t) : f_X9_weeksThatFit μ = some (Int64.ofNat (mk 52 (fw v t))) := by
  unfold f_X9_weeksThatFit
  refine lpF (fun n (q : Int64 × Int32) => lp_X9_weeksThatFit_4 μ n q.1 q.2) (fun k => (Int64.ofNat (mk k (fw v t)), Int32.ofNat k)) 52 _ (fun k hk n => ?_) (fun n => rfl) 4096 (by decide)
  show lp_X9_weeksThatFit_4 μ (n + 1) (Int64.ofNat (mk k (fw v t))) (Int32.ofNat k) = lp_X9_weeksThatFit_4 μ n (Int64.ofNat (mk (k + 1) (fw v t))) (Int32.ofNat (k + 1))
  rw [lp_X9_weeksThatFit_4, i_51, if_neg (by rw [on_lt (by decide) (by omega)]; omega), c_fitw T hk, i_0, ite_b0, i_1, on_a]
  show (if fw v t k = true then _ else _) = _
  by_cases h : fw v t k = true
  · rw [if_pos h, l64_shl k hk, l64_or, mk_s, if_pos h]
  · rw [if_neg h, mk_s, if_neg h, Nat.or_zero]
