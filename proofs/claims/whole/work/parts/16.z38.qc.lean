/-! ===== questions answered alike: keenest, quiet, best, pairs, count ===== -/
def kn (r : Row) : Nat → Option Nat
  | 0 => none
  | k + 1 => if hrC r k = true then (match kn r k with | none => some k | some g => if rkN r k ≤ rkN r g then some g else some k) else kn r k
def oI (o : Option Nat) : Int32 := match o with | none => -1 | some g => Int32.ofNat g
theorem kn_f {r : Row} {k : Nat} (h : ¬ hrC r k = true) : kn r (k + 1) = kn r k := if_neg h
theorem kn_lt {r : Row} {k g : Nat} (h : kn r k = some g) : g < k ∧ g < nv r 3 := by
  induction k generalizing g with
  | zero => cases h
  | succ k ih =>
    unfold kn at h
    split at h
    · rename_i hk
      cases hq : kn r k with
      | none =>
        rw [hq] at h
        cases h
        exact ⟨by omega, hrC_lt hk⟩
      | some g2 =>
        rw [hq] at h
        simp only at h
        split at h
        · cases h
          have := ih hq
          exact ⟨by omega, this.2⟩
        · cases h
          exact ⟨by omega, hrC_lt hk⟩
    · have := ih h
      exact ⟨by omega, this.2⟩
theorem on_neg1 {k : Nat} (h : k < 2147483648) : (Int32.ofNat k = -Int32.ofNat 1) = False := eq_false fun e => by
  have e2 := congrArg Int32.toInt e
  rw [on_i h, show (-Int32.ofNat 1).toInt = -1 from rfl] at e2
  omega
theorem oI_some {o : Option Nat} {g : Nat} (h : o = some g) : oI o = Int32.ofNat g := by rw [h]; rfl
theorem oI_none {o : Option Nat} (h : o = none) : oI o = -Int32.ofNat 1 := by rw [h]; rfl
theorem e_X9_keenest (μ : Mem) : f_X9_keenest μ = lp_X9_keenest_4 μ 4096 (-1) 0 := by
  unfold f_X9_keenest
  rfl
theorem e_X10_keenest (μ : Mem) : f_X10_keenest μ = lp_X10_keenest_9 (upm μ 0 12 0 0) 4096 (-1) 0 := by
  unfold f_X10_keenest
  rw [nm_q]
theorem q_keenest {μ : Mem} (R : Rel μ) : AgQ (f_X9_keenest μ) (f_X10_keenest μ) := by
  have V := R.V
  have H : HC (μ (0 + 1)) (μ 0 13) := R.H
  have h8 := V.c8
  have hc8 : ∀ k, nv (μ 0 13) 3 + k ≤ 8 → kn (μ 0 13) (nv (μ 0 13) 3 + k) = kn (μ 0 13) (nv (μ 0 13) 3) := by
    intro k
    induction k with
    | zero => intro _; rfl
    | succ k ih =>
      intro hk
      rw [← ih (by omega)]
      show (if hrC (μ 0 13) (nv (μ 0 13) 3 + k) = true then _ else kn (μ 0 13) (nv (μ 0 13) 3 + k)) = _
      rw [if_neg]
      intro h
      have := hrC_lt h
      omega
  refine AgQ.a R ⟨oI (kn (μ 0 13) 8), ?_, ?_⟩
  · rw [e_X9_keenest]
    refine lpF (fun n (s : Int32 × Int32) => lp_X9_keenest_4 μ n s.1 s.2) (fun k => (oI (kn (μ 0 13) k), Int32.ofNat k)) 8 _ (fun k hk n => ?_) (fun n => rfl) 4096 (by decide)
    show lp_X9_keenest_4 _ _ _ _ = lp_X9_keenest_4 _ _ _ _
    simp (disch := omega) only [lp_X9_keenest_4, c_here (h := 0) H V hk, nm_q, bs_q, on_a, on_m, on_t, ix_on, le_t, le_f, lt_t, lt_f, eq_t, eq_f, ite_b0, ite_b1, ↓reduceIte, i_0, i_1, i_2, i_3, i_4, i_5, i_6, i_7, i_8, i_9, i_10, i_11, i_12, i_13, i_14, i_15, i_16, i_18, i_20, i_22, i_24, i_30, i_31, i_32, i_40, i_48, i_50, i_51, i_52, i_57, i_60, i_64, i_65, i_66, i_67, i_97, i_99, i_100, i_122, i_239, i_240, i_255, i_256, i_304, i_400, i_401, i_704, i_999, i_1000, i_2304, i_3344, i_3648, i_4096, i_9999, i_32767]
    by_cases h1 : hrC (μ 0 13) k = true
    · rw [if_pos h1]
      cases hq : kn (μ 0 13) k with
      | none =>
        rw [oI_none rfl, if_pos rfl, show kn (μ 0 13) (k + 1) = some k by unfold kn; rw [if_pos h1, hq]]
        rfl
      | some g =>
        have hg := kn_lt hq
        rw [oI_some rfl, if_neg (by rw [on_neg1 (by omega)]; exact id), c_risk H V (hrC_lt h1), c_risk H V hg.2]
        simp only [bs_q]
        have hr1 := V.rk10 hk
        have hr2 := V.rk10 (g := g) (by omega)
        rw [il_le (by omega) (by omega)]
        by_cases h2 : rkN (μ 0 13) k ≤ rkN (μ 0 13) g
        · rw [if_pos h2, show kn (μ 0 13) (k + 1) = some g by unfold kn; rw [if_pos h1, hq]; simp only [if_pos h2]]
          rfl
        · rw [if_neg h2, show kn (μ 0 13) (k + 1) = some k by unfold kn; rw [if_pos h1, hq]; simp only [if_neg h2]]
          rfl
    · rw [if_neg h1, kn_f h1]
  · rw [e_X10_keenest, show (8 : Nat) = nv (μ 0 13) 3 + (8 - nv (μ 0 13) 3) by omega, hc8 _ (by omega)]
    refine lpF (fun n (s : Int32 × Int32) => lp_X10_keenest_9 (upm μ 0 12 0 0) n s.1 s.2) (fun k => (oI (kn (μ 0 13) k), Int32.ofNat k)) (nv (μ 0 13) 3) _ (fun k hk n => ?_) (fun n => ?_) 4096 (by omega)
    · show lp_X10_keenest_9 _ _ _ _ = lp_X10_keenest_9 _ _ _ _
      have hk8 : k < 8 := by omega
      simp (disch := omega) only [lp_X10_keenest_9, up0, V.e3, R_here (up0 _ _) hk8, nm_q, bs_q, on_a, on_m, on_t, ix_on, le_t, le_f, lt_t, lt_f, eq_t, eq_f, ite_b0, ite_b1, ↓reduceIte, i_0, i_1, i_2, i_3, i_4, i_5, i_6, i_7, i_8, i_9, i_10, i_11, i_12, i_13, i_14, i_15, i_16, i_18, i_20, i_22, i_24, i_30, i_31, i_32, i_40, i_48, i_50, i_51, i_52, i_57, i_60, i_64, i_65, i_66, i_67, i_97, i_99, i_100, i_122, i_239, i_240, i_255, i_256, i_304, i_400, i_401, i_704, i_999, i_1000, i_2304, i_3344, i_3648, i_4096, i_9999, i_32767]
      by_cases h1 : hrB (μ 0 13) k = true
      · have h1c : hrC (μ 0 13) k = true := by unfold hrC; rw [h1, decide_eq_true hk]; rfl
        rw [if_pos h1]
        cases hq : kn (μ 0 13) k with
        | none =>
          rw [oI_none rfl, if_pos rfl, show kn (μ 0 13) (k + 1) = some k by unfold kn; rw [if_pos h1c, hq]]
          rfl
        | some g =>
          have hg := kn_lt hq
          rw [oI_some rfl, if_neg (by rw [on_neg1 (by omega)]; exact id), R_risk (up0 _ _) V hk8, R_risk (up0 _ _) V (by omega)]
          simp only [bs_q]
          have hr1 := V.rk10 hk8
          have hr2 := V.rk10 (g := g) (by omega)
          rw [il_le (by omega) (by omega)]
          by_cases h2 : rkN (μ 0 13) k ≤ rkN (μ 0 13) g
          · rw [if_pos h2, show kn (μ 0 13) (k + 1) = some g by unfold kn; rw [if_pos h1c, hq]; simp only [if_pos h2]]
            rfl
          · rw [if_neg h2, show kn (μ 0 13) (k + 1) = some k by unfold kn; rw [if_pos h1c, hq]; simp only [if_neg h2]]
            rfl
      · have h1c : ¬ hrC (μ 0 13) k = true := by unfold hrC; rw [decide_eq_true hk, Bool.true_and]; exact h1
        rw [if_neg h1, kn_f h1c]
    · show lp_X10_keenest_9 _ _ _ _ = _
      simp (disch := omega) only [lp_X10_keenest_9, up0, V.e3, nm_q, bs_q, on_a, on_m, on_t, ix_on, le_t, le_f, lt_t, lt_f, eq_t, eq_f, ite_b0, ite_b1, ↓reduceIte, i_0, i_1, i_2, i_3, i_4, i_5, i_6, i_7, i_8, i_9, i_10, i_11, i_12, i_13, i_14, i_15, i_16, i_18, i_20, i_22, i_24, i_30, i_31, i_32, i_40, i_48, i_50, i_51, i_52, i_57, i_60, i_64, i_65, i_66, i_67, i_97, i_99, i_100, i_122, i_239, i_240, i_255, i_256, i_304, i_400, i_401, i_704, i_999, i_1000, i_2304, i_3344, i_3648, i_4096, i_9999, i_32767]
/-- what all of those here see -/
def orS (r : Row) : Nat → Nat
  | 0 => 0
  | k + 1 => if hrC r k = true then orS r k ||| mk 8 (seB r k) else orS r k
theorem orS_f {r : Row} {k : Nat} (h : ¬ hrC r k = true) : orS r (k + 1) = orS r k := if_neg h
theorem orS_t {r : Row} {k : Nat} (h : hrC r k = true) : orS r (k + 1) = orS r k ||| mk 8 (seB r k) := if_pos h
theorem orS_256 (r : Row) (k : Nat) : orS r k < 256 := by
  induction k with
  | zero => exact (by decide : (0 : Nat) < 256)
  | succ k ih =>
    unfold orS
    split
    · exact or_256 ih (mk_256 _ (Nat.le_refl 8))
    · exact ih
theorem orS_tb (r : Row) (k p : Nat) (hp : p < 8) : (orS r k).testBit p = false ↔ ∀ g, g < k → (hrC r g && seB r g p) = false := by
  induction k with
  | zero => exact ⟨fun _ g hg => by omega, fun _ => Nat.zero_testBit p⟩
  | succ k ih =>
    have step : (orS r (k + 1)).testBit p = ((orS r k).testBit p || (hrC r k && seB r k p)) := by
      conv => lhs; unfold orS
      split
      · rename_i h
        rw [Nat.testBit_or, mk_tb, decide_eq_true hp, h, Bool.true_and]
      · rename_i h
        rw [Bool.not_eq_true] at h
        rw [h, Bool.false_and, Bool.or_false]
    rw [step, Bool.or_eq_false_iff, ih]
    constructor
    · rintro ⟨h1, h2⟩ g hg
      by_cases e : g = k
      · rw [e]; exact h2
      · exact h1 g (by omega)
    · intro h
      exact ⟨fun g hg => h g (by omega), h k (by omega)⟩
theorem mk_zero {n : Nat} {p : Nat → Bool} : mk n p = 0 ↔ ∀ k, k < n → p k = false := by
  constructor
  · intro h k hk
    have := mk_tb n p k
    rw [h, Nat.zero_testBit, decide_eq_true hk, Bool.true_and] at this
    exact this.symm
  · intro h
    apply Nat.eq_of_testBit_eq
    intro k
    rw [mk_tb, Nat.zero_testBit]
    by_cases hk : k < n
    · rw [h k hk, Bool.and_false]
    · rw [decide_eq_false hk, Bool.false_and]
theorem wt_zero {r : Row} (V : Vr r) (p : Nat) : wt r p = 0 ↔ ∀ g, g < 8 → (hrC r g && seB r g p) = false := by
  have h8 := V.c8
  unfold wt
  rw [mk_zero]
  constructor
  · intro h g hg
    by_cases hc : g < nv r 3
    · unfold hrC
      rw [decide_eq_true hc, Bool.true_and]
      exact h g hc
    · unfold hrC
      rw [decide_eq_false hc]
      rfl
  · intro h g hg
    have := h g (by omega)
    unfold hrC at this
    rw [decide_eq_true hg, Bool.true_and] at this
    exact this
theorem e_X9_quiet (μ : Mem) : f_X9_quiet μ = lp_X9_quiet_4 μ 4096 0 0 := by
  unfold f_X9_quiet
  rfl
theorem e_X10_quiet (μ : Mem) : f_X10_quiet μ = lp_X10_quiet_9 (upm μ 0 12 0 0) 4096 0 0 := by
  unfold f_X10_quiet
  rw [nm_q]
set_option maxRecDepth 100000 in
theorem cpl_b : ∀ a, a < 256 → (Int32.ofNat a ^^^ -1) &&& 255 = Int32.ofNat (mk 8 (fun k => !a.testBit k)) := by decide +kernel
theorem q_quiet {μ : Mem} (R : Rel μ) : AgQ (f_X9_quiet μ) (f_X10_quiet μ) := by
  have V := R.V
  have H : HC (μ (0 + 1)) (μ 0 13) := R.H
  have H1 : HC (μ 1) (μ 0 13) := R.H
  have e : mk 8 (fun k => !(orS (μ 0 13) 8).testBit k) = mk 8 (fun p => wt (μ 0 13) p == 0) := mk_cg fun k hk => by
    by_cases h : wt (μ 0 13) k = 0
    · rw [(orS_tb _ _ _ hk).mpr ((wt_zero V k).mp h), h]
      rfl
    · have : (orS (μ 0 13) 8).testBit k = true := by
        rw [← Bool.not_eq_false]
        intro h2
        exact h ((wt_zero V k).mpr ((orS_tb _ _ _ hk).mp h2))
      rw [this]
      simp [h]
  refine AgQ.a R ⟨Int32.ofNat (mk 8 (fun k => !(orS (μ 0 13) 8).testBit k)), ?_, ?_⟩
  · rw [e_X9_quiet]
    refine lpF (fun n (s : Int32 × Int32) => lp_X9_quiet_4 μ n s.1 s.2) (fun k => (Int32.ofNat (orS (μ 0 13) k), Int32.ofNat k)) 8 _ (fun k hk n => ?_) (fun n => ?_) 4096 (by decide)
    · show lp_X9_quiet_4 _ _ _ _ = lp_X9_quiet_4 _ _ _ _
      simp (disch := omega) only [lp_X9_quiet_4, c_here (h := 0) H V hk, nm_q, bs_q, on_a, on_m, on_t, ix_on, le_t, le_f, lt_t, lt_f, eq_t, eq_f, ite_b0, ite_b1, ↓reduceIte, i_0, i_1, i_2, i_3, i_4, i_5, i_6, i_7, i_8, i_9, i_10, i_11, i_12, i_13, i_14, i_15, i_16, i_18, i_20, i_22, i_24, i_30, i_31, i_32, i_40, i_48, i_50, i_51, i_52, i_57, i_60, i_64, i_65, i_66, i_67, i_97, i_99, i_100, i_122, i_239, i_240, i_255, i_256, i_304, i_400, i_401, i_704, i_999, i_1000, i_2304, i_3344, i_3648, i_4096, i_9999, i_32767]
      by_cases h1 : hrC (μ 0 13) k = true
      · rw [if_pos h1, c_spies H V (hrC_lt h1)]
        simp only [bs_q]
        rw [on_or, orS_t h1]
      · rw [if_neg h1, orS_f h1]
    · show lp_X9_quiet_4 _ _ _ _ = _
      unfold lp_X9_quiet_4
      rw [if_pos (show (8 : Int32) ≤ Int32.ofNat 8 by decide), cpl_b _ (orS_256 _ _)]
  · rw [e_X10_quiet, e]
    refine lpF (fun n (s : Int32 × Int32) => lp_X10_quiet_9 (upm μ 0 12 0 0) n s.1 s.2) (fun k => (Int32.ofNat (mk k (fun p => wt (μ 0 13) p == 0)), Int32.ofNat k)) 8 _ (fun k hk n => ?_) (fun n => rfl) 4096 (by decide)
    show lp_X10_quiet_9 _ _ _ _ = lp_X10_quiet_9 _ _ _ _
    have hw := wt_256 V k
    simp (disch := omega) only [lp_X10_quiet_9, R_watchers (up0 _ _) V hk, nm_q, bs_q, on_a, on_m, on_t, ix_on, le_t, le_f, lt_t, lt_f, eq_t, eq_f, ite_b0, ite_b1, ↓reduceIte, i_0, i_1, i_2, i_3, i_4, i_5, i_6, i_7, i_8, i_9, i_10, i_11, i_12, i_13, i_14, i_15, i_16, i_18, i_20, i_22, i_24, i_30, i_31, i_32, i_40, i_48, i_50, i_51, i_52, i_57, i_60, i_64, i_65, i_66, i_67, i_97, i_99, i_100, i_122, i_239, i_240, i_255, i_256, i_304, i_400, i_401, i_704, i_999, i_1000, i_2304, i_3344, i_3648, i_4096, i_9999, i_32767, or_z]
    rw [il_eq (by omega) (by omega)]
    by_cases h1 : wt (μ 0 13) k = 0
    · rw [if_pos h1, or_mk hk (fun p => wt (μ 0 13) p == 0) (by simp [h1])]
    · rw [if_neg h1, or_mk0 (fun p => wt (μ 0 13) p == 0) (by simp [h1])]
set_option maxRecDepth 100000 in
theorem sub_b : ∀ a, a < 9 → ∀ b, b < 9 → ((Int32.ofNat a - Int32.ofNat b = Int32.ofNat 0) = (a = b)) ∧ ((Int32.ofNat a - Int32.ofNat b ≤ Int32.ofNat 0) = (a ≤ b)) ∧ ((Int32.ofNat a - Int32.ofNat b < Int32.ofNat 0) = (a < b)) := by
  have h : ∀ a, a < 9 → ∀ b, b < 9 → (decide (Int32.ofNat a - Int32.ofNat b = Int32.ofNat 0) = decide (a = b)) ∧ (decide (Int32.ofNat a - Int32.ofNat b ≤ Int32.ofNat 0) = decide (a ≤ b)) ∧ (decide (Int32.ofNat a - Int32.ofNat b < Int32.ofNat 0) = decide (a < b)) := by decide +kernel
  intro a ha b hb
  obtain ⟨h1, h2, h3⟩ := h a ha b hb
  exact ⟨propext (decide_eq_decide.mp h1), propext (decide_eq_decide.mp h2), propext (decide_eq_decide.mp h3)⟩
theorem rsk_80 {r : Row} (V : Vr r) (a : Nat) : rsk r a ≤ 80 := by
  unfold rsk
  have := sm_le (n := 8) (b := 10) (f := fun g => if a.testBit g = true then rkN r g else 0) (fun k hk => by
    have := V.rk10 hk
    show (if a.testBit k = true then rkN r k else 0) ≤ 10
    split <;> omega)
  omega
theorem e_X9_best (μ : Mem) : f_X9_best μ = lp_X9_best_4 μ 4096 0 1 := by
  unfold f_X9_best
  rfl
theorem e_X10_best (μ : Mem) : f_X10_best μ = lp_X10_best_9 (upm μ 0 12 0 0) 4096 0 1 := by
  unfold f_X10_best
  rw [nm_q]
theorem q_best {μ : Mem} (R : Rel μ) : AgQ (f_X9_best μ) (f_X10_best μ) := by
  have V := R.V
  have H : HC (μ (0 + 1)) (μ 0 13) := R.H
  refine AgQ.a R ?_
  rw [e_X9_best, e_X10_best]
  refine (lpJ (fun n (s : Int32 × Int32) => lp_X9_best_4 μ n s.1 s.2) (fun n (s : Int32 × Int32) => lp_X10_best_9 (upm μ 0 12 0 0) n s.1 s.2) (AQ (upm μ 0 12 0 0)) (fun k s s' => s = s' ∧ ∃ f, f < 8 ∧ s = (Int32.ofNat f, Int32.ofNat (k + 1))) 7 ?_ 4096 4096 (0, 1) (0, 1) (by decide) (by decide) ⟨rfl, 0, by decide, rfl⟩)
  rintro k s s' hk ⟨rfl, f, hf, rfl⟩ n n'
  by_cases h8 : k = 7
  · left
    subst h8
    exact ⟨Int32.ofNat f, by simp (disch := omega) only [lp_X9_best_4, nm_q, bs_q, on_a, on_m, on_t, ix_on, le_t, le_f, lt_t, lt_f, eq_t, eq_f, ite_b0, ite_b1, ↓reduceIte, i_0, i_1, i_2, i_3, i_4, i_5, i_6, i_7, i_8, i_9, i_10, i_11, i_12, i_13, i_14, i_15, i_16, i_18, i_20, i_22, i_24, i_30, i_31, i_32, i_40, i_48, i_50, i_51, i_52, i_57, i_60, i_64, i_65, i_66, i_67, i_97, i_99, i_100, i_122, i_239, i_240, i_255, i_256, i_304, i_400, i_401, i_704, i_999, i_1000, i_2304, i_3344, i_3648, i_4096, i_9999, i_32767], by simp (disch := omega) only [lp_X10_best_9, nm_q, bs_q, on_a, on_m, on_t, ix_on, le_t, le_f, lt_t, lt_f, eq_t, eq_f, ite_b0, ite_b1, ↓reduceIte, i_0, i_1, i_2, i_3, i_4, i_5, i_6, i_7, i_8, i_9, i_10, i_11, i_12, i_13, i_14, i_15, i_16, i_18, i_20, i_22, i_24, i_30, i_31, i_32, i_40, i_48, i_50, i_51, i_52, i_57, i_60, i_64, i_65, i_66, i_67, i_97, i_99, i_100, i_122, i_239, i_240, i_255, i_256, i_304, i_400, i_401, i_704, i_999, i_1000, i_2304, i_3344, i_3648, i_4096, i_9999, i_32767]⟩
  · right
    have h7 : k + 1 < 8 := by omega
    have hp := pc_le (wt (μ 0 13) (k + 1))
    have hq := pc_le (wt (μ 0 13) f)
    have hr1 := rsk_80 V (wt (μ 0 13) (k + 1))
    have hr2 := rsk_80 V (wt (μ 0 13) f)
    have hs := sub_b (pc (wt (μ 0 13) f)) (by omega) (pc (wt (μ 0 13) (k + 1))) (by omega)
    have hs2 := sub_b (pc (wt (μ 0 13) (k + 1))) (by omega) (pc (wt (μ 0 13) f)) (by omega)
    refine ⟨by omega, ?_⟩
    simp (disch := omega) only [lp_X9_best_4, lp_X10_best_9, f_X9_isBetterBath, c_watchers H V h7, c_watchers H V hf, R_watchers (up0 _ _) V h7, R_watchers (up0 _ _) V hf, bc_b _ (wt_256 V _), bits_b _ (wt_256 V _), c_riskOf H V (wt_256 V _) (fun g _ h => wt_lt h), R_risksOf (up0 _ _) V (wt_256 V _) (fun g _ h => wt_lt h), hs.1, hs.2.1, hs2.1, hs2.2.2, nm_q, bs_q, on_a, on_m, on_t, ix_on, le_t, le_f, lt_t, lt_f, eq_t, eq_f, ite_b0, ite_b1, ↓reduceIte, i_0, i_1, i_2, i_3, i_4, i_5, i_6, i_7, i_8, i_9, i_10, i_11, i_12, i_13, i_14, i_15, i_16, i_18, i_20, i_22, i_24, i_30, i_31, i_32, i_40, i_48, i_50, i_51, i_52, i_57, i_60, i_64, i_65, i_66, i_67, i_97, i_99, i_100, i_122, i_239, i_240, i_255, i_256, i_304, i_400, i_401, i_704, i_999, i_1000, i_2304, i_3344, i_3648, i_4096, i_9999, i_32767]
    by_cases e1 : pc (wt (μ 0 13) f) = pc (wt (μ 0 13) (k + 1))
    · simp only [e1, ↓reduceIte, Nat.lt_irrefl, il_le (show rsk (μ 0 13) (wt (μ 0 13) f) < 2147483648 by omega) (show rsk (μ 0 13) (wt (μ 0 13) (k + 1)) < 2147483648 by omega)]
      by_cases e2 : rsk (μ 0 13) (wt (μ 0 13) f) ≤ rsk (μ 0 13) (wt (μ 0 13) (k + 1))
      · simp only [e2, ↓reduceIte, bs_q]
        exact ⟨(Int32.ofNat f, Int32.ofNat (k + 1 + 1)), _, ⟨rfl, f, hf, rfl⟩, rfl, rfl⟩
      · simp only [e2, ↓reduceIte, bs_q]
        rw [if_neg (by decide)]
        exact ⟨(Int32.ofNat (k + 1), Int32.ofNat (k + 1 + 1)), _, ⟨rfl, k + 1, h7, rfl⟩, rfl, rfl⟩
    · rw [if_neg e1]
      by_cases e3 : pc (wt (μ 0 13) f) ≤ pc (wt (μ 0 13) (k + 1))
      · rw [if_pos e3, if_neg (by omega), if_neg (by omega)]
        simp only [bs_q]
        exact ⟨(Int32.ofNat f, Int32.ofNat (k + 1 + 1)), _, ⟨rfl, f, hf, rfl⟩, rfl, rfl⟩
      · rw [if_neg e3, if_pos (by omega)]
        simp only [bs_q]
        rw [if_neg (by decide)]
        exact ⟨(Int32.ofNat (k + 1), Int32.ofNat (k + 1 + 1)), _, ⟨rfl, k + 1, h7, rfl⟩, rfl, rfl⟩
