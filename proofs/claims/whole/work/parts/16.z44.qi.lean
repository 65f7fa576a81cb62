/-! ===== questions answered alike: ways by holes, ways round, lodgings ===== -/
/-- the rooms that are reached, and those behind their holes -/
def rnk (r : Row) (a : Nat) : Nat → Nat
  | 0 => 0
  | k + 1 => if a.testBit k = true then rnk r a k ||| nv r (16 + k) else rnk r a k
theorem rnk_t {r : Row} {a k : Nat} (h : a.testBit k = true) : rnk r a (k + 1) = rnk r a k ||| nv r (16 + k) := if_pos h
theorem rnk_f {r : Row} {a k : Nat} (h : ¬ a.testBit k = true) : rnk r a (k + 1) = rnk r a k := if_neg h
theorem rnk_256 {r : Row} (V : Vr r) (a k : Nat) (hk : k ≤ 8) : rnk r a k < 256 := by
  induction k with
  | zero => exact (by decide : (0 : Nat) < 256)
  | succ k ih =>
    by_cases h : a.testBit k = true
    · rw [rnk_t h]
      exact or_256 (ih (by omega)) (V.hb (by omega))
    · rw [rnk_f h]
      exact ih (by omega)
theorem c_any {μ : Mem} {r : Row} (H : HC (μ (0 + 1)) r) (V : Vr r) {a : Nat} (ha : a < 256) : f_X2_holesFromAny 0 μ (Int32.ofNat a) = some (Int32.ofNat (rnk r a 8)) := by
  refine lpF (fun n (s : Int32 × Int32) => lp_X2_holesFromAny_4 (Int32.ofNat a) 0 μ n s.1 s.2) (fun k => (Int32.ofNat (rnk r a k), Int32.ofNat k)) 8 _ (fun k hk n => ?_) (fun n => rfl) 4096 (by decide)
  show lp_X2_holesFromAny_4 _ _ _ _ _ _ = lp_X2_holesFromAny_4 _ _ _ _ _ _
  simp (disch := omega) only [lp_X2_holesFromAny_4, hold_b a ha k hk, nm_q, bs_q, on_a, on_m, on_t, ix_on, le_t, le_f, lt_t, lt_f, eq_t, eq_f, ite_b0, ite_b1, ↓reduceIte, i_0, i_1, i_2, i_3, i_4, i_5, i_6, i_7, i_8, i_9, i_10, i_11, i_12, i_13, i_14, i_15, i_16, i_18, i_20, i_22, i_24, i_30, i_31, i_32, i_40, i_48, i_50, i_51, i_52, i_57, i_60, i_64, i_65, i_66, i_67, i_97, i_99, i_100, i_122, i_239, i_240, i_255, i_256, i_304, i_400, i_401, i_704, i_999, i_1000, i_2304, i_3344, i_3648, i_4096, i_9999, i_32767, or_z]
  rw [H.ho hk, V.he hk, on_or]
  by_cases h : a.testBit k = true
  · rw [if_pos h, rnk_t h]
  · rw [if_neg h, rnk_f h]
theorem r_any {μ : Mem} {r : Row} (e : μ 0 13 = r) (V : Vr r) {a : Nat} (ha : a < 256) (K : Int32 → Option (Int32 × Mem)) : lp_X10_line_63 μ (Int32.ofNat a) K 4096 (Int32.ofNat a) 0 = K (Int32.ofNat (a ||| rnk r a 8)) := by
  have h0 : a ||| rnk r a 0 = a := Nat.or_zero a
  suffices h : lp_X10_line_63 μ (Int32.ofNat a) K 4096 (Int32.ofNat (a ||| rnk r a 0)) (Int32.ofNat 0) = K (Int32.ofNat (a ||| rnk r a 8)) by
    rw [h0] at h
    exact h
  refine (lpF (fun n (s : Int32 × Int32) => lp_X10_line_63 μ (Int32.ofNat a) K n s.1 s.2) (fun k => (Int32.ofNat (a ||| rnk r a k), Int32.ofNat k)) 8 (K (Int32.ofNat (a ||| rnk r a 8))) (fun k hk n => ?_) (fun n => ?_) 4096 (by decide))
  · show lp_X10_line_63 _ _ _ _ _ _ = lp_X10_line_63 _ _ _ _ _ _
    simp (disch := omega) only [lp_X10_line_63, isOf_b a ha k hk, e, V.he hk, on_or, nm_q, bs_q, on_a, on_m, on_t, ix_on, le_t, le_f, lt_t, lt_f, eq_t, eq_f, ite_b0, ite_b1, ↓reduceIte, i_0, i_1, i_2, i_3, i_4, i_5, i_6, i_7, i_8, i_9, i_10, i_11, i_12, i_13, i_14, i_15, i_16, i_18, i_20, i_22, i_24, i_30, i_31, i_32, i_40, i_48, i_50, i_51, i_52, i_57, i_60, i_64, i_65, i_66, i_67, i_97, i_99, i_100, i_122, i_239, i_240, i_255, i_256, i_304, i_400, i_401, i_704, i_999, i_1000, i_2304, i_3344, i_3648, i_4096, i_9999, i_32767]
    by_cases h : a.testBit k = true
    · rw [if_pos h, rnk_t h, Nat.or_assoc]
    · rw [if_neg h, rnk_f h]
  · show lp_X10_line_63 _ _ _ _ _ _ = _
    rw [lp_X10_line_63, if_pos (show (8 : Int32) ≤ Int32.ofNat 8 by decide)]
theorem q_line {μ : Mem} (R : Rel μ) (a b : Int32) : AgT [(0, 0), (3, 1)] (f_X9_line μ a b) (fun μ' => f_X10_line μ' a b) := by
  have V := R.V
  have H : HC (μ (0 + 1)) (μ 0 13) := R.H
  rcases room_cases a with ⟨p, hp, rfl⟩ | ⟨h1, h2⟩
  · rcases room_cases b with ⟨q, hq, rfl⟩ | ⟨h1, h2⟩
    · have key : ∀ ν : Mem, ν 0 13 = μ 0 13 → ∃ v, lp_X9_line_31 (Int32.ofNat q) μ 4096 (Int32.ofNat (2 ^ p)) 0 = some (0, v, μ) ∧ lp_X10_line_39 (Int32.ofNat q) ν 4096 (Int32.ofNat (2 ^ p)) 0 = some (v, ν) := by
        intro ν e
        refine lpJ (fun n (s : Int32 × Int32) => lp_X9_line_31 (Int32.ofNat q) μ n s.1 s.2) (fun n (s : Int32 × Int32) => lp_X10_line_39 (Int32.ofNat q) ν n s.1 s.2) (fun o o' => ∃ v, o = some (0, v, μ) ∧ o' = some (v, ν)) (fun k s s' => s = s' ∧ ∃ a, a < 256 ∧ s = (Int32.ofNat a, Int32.ofNat k)) 8 ?_ 4096 4096 (Int32.ofNat (2 ^ p), 0) (Int32.ofNat (2 ^ p), 0) (by decide) (by decide) ⟨rfl, 2 ^ p, pow_256 hp, rfl⟩
        rintro k s s' hk ⟨rfl, a, ha, rfl⟩ n n'
        by_cases h8 : k = 8
        · left
          subst h8
          refine ⟨-1, ?_, ?_⟩
          · show lp_X9_line_31 _ _ _ _ _ = _
            rw [lp_X9_line_31, if_pos (show (8 : Int32) ≤ Int32.ofNat 8 by decide)]
          · show lp_X10_line_39 _ _ _ _ _ = _
            rw [lp_X10_line_39, if_pos (show (8 : Int32) ≤ Int32.ofNat 8 by decide)]
        · have hk8 : k < 8 := by omega
          by_cases h : a.testBit q = true
          · left
            refine ⟨Int32.ofNat k, ?_, ?_⟩
            · simp (disch := omega) only [lp_X9_line_31, hold_b a ha q hq, h, nm_q, bs_q, on_a, on_m, on_t, ix_on, le_t, le_f, lt_t, lt_f, eq_t, eq_f, ite_b0, ite_b1, ↓reduceIte, i_0, i_1, i_2, i_3, i_4, i_5, i_6, i_7, i_8, i_9, i_10, i_11, i_12, i_13, i_14, i_15, i_16, i_18, i_20, i_22, i_24, i_30, i_31, i_32, i_40, i_48, i_50, i_51, i_52, i_57, i_60, i_64, i_65, i_66, i_67, i_97, i_99, i_100, i_122, i_239, i_240, i_255, i_256, i_304, i_400, i_401, i_704, i_999, i_1000, i_2304, i_3344, i_3648, i_4096, i_9999, i_32767]
            · simp (disch := omega) only [lp_X10_line_39, isOf_b a ha q hq, h, nm_q, bs_q, on_a, on_m, on_t, ix_on, le_t, le_f, lt_t, lt_f, eq_t, eq_f, ite_b0, ite_b1, ↓reduceIte, i_0, i_1, i_2, i_3, i_4, i_5, i_6, i_7, i_8, i_9, i_10, i_11, i_12, i_13, i_14, i_15, i_16, i_18, i_20, i_22, i_24, i_30, i_31, i_32, i_40, i_48, i_50, i_51, i_52, i_57, i_60, i_64, i_65, i_66, i_67, i_97, i_99, i_100, i_122, i_239, i_240, i_255, i_256, i_304, i_400, i_401, i_704, i_999, i_1000, i_2304, i_3344, i_3648, i_4096, i_9999, i_32767]
          · right
            refine ⟨hk8, (Int32.ofNat (a ||| rnk (μ 0 13) a 8), Int32.ofNat (k + 1)), (Int32.ofNat (a ||| rnk (μ 0 13) a 8), Int32.ofNat (k + 1)), ⟨rfl, _, or_256 ha (rnk_256 V a 8 (Nat.le_refl 8)), rfl⟩, ?_, ?_⟩
            · simp (disch := omega) only [lp_X9_line_31, hold_b a ha q hq, h, c_any H V ha, on_or, nm_q, bs_q, on_a, on_m, on_t, ix_on, le_t, le_f, lt_t, lt_f, eq_t, eq_f, ite_b0, ite_b1, ↓reduceIte, i_0, i_1, i_2, i_3, i_4, i_5, i_6, i_7, i_8, i_9, i_10, i_11, i_12, i_13, i_14, i_15, i_16, i_18, i_20, i_22, i_24, i_30, i_31, i_32, i_40, i_48, i_50, i_51, i_52, i_57, i_60, i_64, i_65, i_66, i_67, i_97, i_99, i_100, i_122, i_239, i_240, i_255, i_256, i_304, i_400, i_401, i_704, i_999, i_1000, i_2304, i_3344, i_3648, i_4096, i_9999, i_32767]
              rw [if_neg (by decide)]
            · show lp_X10_line_39 _ _ _ _ _ = _
              rw [lp_X10_line_39, i_8, if_neg (by rw [on_le (by omega) (by omega)]; omega), isOf_b a ha q hq, bs_q, i_0, ite_b0, if_neg h, ← i_0, r_any e V ha, i_1, on_a]
    -- both machines are asked
      obtain ⟨v, k1, k2⟩ : ∃ v, lp_X9_line_31 (Int32.ofNat q) μ 4096 (Int32.ofNat (2 ^ p)) 0 = some (0, v, μ) ∧ ∀ ν : Mem, ν 0 13 = μ 0 13 → lp_X10_line_39 (Int32.ofNat q) ν 4096 (Int32.ofNat (2 ^ p)) 0 = some (v, ν) := by
        obtain ⟨v, k1, -⟩ := key μ rfl
        refine ⟨v, k1, fun ν e => ?_⟩
        obtain ⟨w, k3, k4⟩ := key ν e
        rw [k1] at k3
        cases k3
        exact k4
      refine AgT.q R 0 0 v v (by decide) ?_ (fun μ' V' e => ?_) (fun _ => rfl)
      · unfold f_X9_line
        rw [c_isRoom hp, c_isRoom hq]
        simp only [bs_q, nm_q]
        rw [if_neg (by decide), if_neg (by decide), show (1 : Int32) = Int32.ofNat 1 from rfl, shl_b p hp]
        exact k1
      · unfold f_X10_line
        rw [r_isRoom hp, r_isRoom hq]
        simp only [bs_q, nm_q]
        rw [if_neg (by decide), if_neg (by decide), upm_at, if_pos (by decide), show (1 : Int32) = Int32.ofNat 1 from rfl, shl_b p hp]
        exact k2 _ (th_row _ e)
    · refine AgT.q R 3 1 0 0 (by decide) ?_ (fun μ' V' e => ?_) (fun h => by cases h)
      · unfold f_X9_line
        simp (disch := omega) only [c_isRoom hp, h1, nm_q, bs_q, on_a, on_m, on_t, ix_on, le_t, le_f, lt_t, lt_f, eq_t, eq_f, ite_b0, ite_b1, ↓reduceIte, i_0, i_1, i_2, i_3, i_4, i_5, i_6, i_7, i_8, i_9, i_10, i_11, i_12, i_13, i_14, i_15, i_16, i_18, i_20, i_22, i_24, i_30, i_31, i_32, i_40, i_48, i_50, i_51, i_52, i_57, i_60, i_64, i_65, i_66, i_67, i_97, i_99, i_100, i_122, i_239, i_240, i_255, i_256, i_304, i_400, i_401, i_704, i_999, i_1000, i_2304, i_3344, i_3648, i_4096, i_9999, i_32767]
      · unfold f_X10_line
        simp (disch := omega) only [r_isRoom hp, h2, nm_q, bs_q, on_a, on_m, on_t, ix_on, le_t, le_f, lt_t, lt_f, eq_t, eq_f, ite_b0, ite_b1, ↓reduceIte, i_0, i_1, i_2, i_3, i_4, i_5, i_6, i_7, i_8, i_9, i_10, i_11, i_12, i_13, i_14, i_15, i_16, i_18, i_20, i_22, i_24, i_30, i_31, i_32, i_40, i_48, i_50, i_51, i_52, i_57, i_60, i_64, i_65, i_66, i_67, i_97, i_99, i_100, i_122, i_239, i_240, i_255, i_256, i_304, i_400, i_401, i_704, i_999, i_1000, i_2304, i_3344, i_3648, i_4096, i_9999, i_32767, upm_at, bk_b]
  · refine AgT.q R 3 1 0 0 (by decide) ?_ (fun μ' V' e => ?_) (fun h => by cases h)
    · unfold f_X9_line
      simp (disch := omega) only [h1, nm_q, bs_q, on_a, on_m, on_t, ix_on, le_t, le_f, lt_t, lt_f, eq_t, eq_f, ite_b0, ite_b1, ↓reduceIte, i_0, i_1, i_2, i_3, i_4, i_5, i_6, i_7, i_8, i_9, i_10, i_11, i_12, i_13, i_14, i_15, i_16, i_18, i_20, i_22, i_24, i_30, i_31, i_32, i_40, i_48, i_50, i_51, i_52, i_57, i_60, i_64, i_65, i_66, i_67, i_97, i_99, i_100, i_122, i_239, i_240, i_255, i_256, i_304, i_400, i_401, i_704, i_999, i_1000, i_2304, i_3344, i_3648, i_4096, i_9999, i_32767]
    · unfold f_X10_line
      simp (disch := omega) only [h2, nm_q, bs_q, on_a, on_m, on_t, ix_on, le_t, le_f, lt_t, lt_f, eq_t, eq_f, ite_b0, ite_b1, ↓reduceIte, i_0, i_1, i_2, i_3, i_4, i_5, i_6, i_7, i_8, i_9, i_10, i_11, i_12, i_13, i_14, i_15, i_16, i_18, i_20, i_22, i_24, i_30, i_31, i_32, i_40, i_48, i_50, i_51, i_52, i_57, i_60, i_64, i_65, i_66, i_67, i_97, i_99, i_100, i_122, i_239, i_240, i_255, i_256, i_304, i_400, i_401, i_704, i_999, i_1000, i_2304, i_3344, i_3648, i_4096, i_9999, i_32767, upm_at, bk_b]
/-- the n-th room round from p, up (true) or down -/
def rdN (p : Nat) (u : Bool) (n : Nat) : Nat := if u = true then (p + n) % 8 else (p + 8 - n) % 8
def sgI (u : Bool) : Int32 := if u = true then 1 else -1
theorem rd_c : ∀ p, p < 8 → ∀ u : Bool, ∀ n, n < 8 → f_J9_floorMod_7cf53 (Int32.ofNat p + sgI u * Int32.ofNat n) (Int32.ofNat 8) = some (Int32.ofNat (rdN p u n)) ∧ rdN p u n < 8 := by decide +kernel
theorem rd_r : ∀ p, p < 8 → ∀ u : Bool, ∀ n, n < 8 → jrem ((Int32.ofNat (rdN p u n) + sgI u) + Int32.ofNat 8) (Int32.ofNat 8) = Int32.ofNat (rdN p u (n + 1)) := by decide +kernel
theorem rd_0 : ∀ p, p < 8 → ∀ u : Bool, rdN p u 0 = p := by decide
theorem rd_all : ∀ p, p < 8 → ∀ q, q < 8 → p ≠ q → ∀ u : Bool, ∃ n, n < 8 ∧ rdN p u n = q := by decide
/-- the steps from p to q on one way, none if it is barred: looked for from the n-th on -/
def stN (r : Row) (p q : Nat) (u : Bool) : Nat → Nat → Option Nat
  | _, 0 => none
  | n, d + 1 => if (occS r).testBit (rdN p u n) = true then none else if rdN p u n = q then some n else stN r p q u (n + 1) d
theorem stN_s (r : Row) (p q : Nat) (u : Bool) (n d : Nat) : stN r p q u n (d + 1) = if (occS r).testBit (rdN p u n) = true then none else if rdN p u n = q then some n else stN r p q u (n + 1) d := rfl
theorem stN_lt {r : Row} {p q : Nat} {u : Bool} : ∀ d n x, stN r p q u n d = some x → n ≤ x ∧ x < n + d := by
  intro d
  induction d with
  | zero => intro n x h; cases h
  | succ d ih =>
    intro n x h
    rw [stN_s] at h
    split at h
    · cases h
    · split at h
      · cases h
        omega
      · have := ih (n + 1) x h
        omega
theorem c_steps {μ : Mem} {r : Row} (H : HC (μ (0 + 1)) r) (V : Vr r) {p q : Nat} (hp : p < 8) (hq : q < 8) (u : Bool) : f_X9_stepsRound μ (Int32.ofNat p) (Int32.ofNat q) (sgI u) = some (oI (stN r p q u 1 7)) := by
  unfold f_X9_stepsRound
  rw [c_roomsHere H V]
  simp only [bs_q]
  refine lpP (fun n (s : Int32) => lp_X9_stepsRound_15 (Int32.ofNat p) (Int32.ofNat q) (sgI u) (Int32.ofNat (occS r)) n s) (fun o => o = some (oI (stN r p q u 1 7))) (fun k s => s = Int32.ofNat (k + 1) ∧ stN r p q u 1 7 = stN r p q u (k + 1) (7 - k)) 7 ?_ 4096 1 (by decide) ⟨rfl, rfl⟩
  rintro k s hk ⟨rfl, hI⟩ n
  by_cases h8 : k = 7
  · left
    subst h8
    rw [hI, lp_X9_stepsRound_15, if_pos (show (8 : Int32) ≤ Int32.ofNat (7 + 1) by decide)]
    rfl
  · have hr := rd_c p hp u (k + 1) (by omega)
    rw [show 7 - k = 7 - (k + 1) + 1 by omega, stN_s r p q u (k + 1) (7 - (k + 1))] at hI
    rw [lp_X9_stepsRound_15, i_8, if_neg (by rw [on_le (by omega) (by omega)]; omega), hr.1, bs_q, hold_b _ (occ_256 r) _ hr.2, bs_q, i_0, ite_b0, il_eq (by omega) (by omega), i_1, on_a]
    by_cases h1 : (occS r).testBit (rdN p u (k + 1)) = true
    · left
      rw [if_pos h1, hI, if_pos h1]
      rfl
    · rw [if_neg h1]
      rw [if_neg h1] at hI
      by_cases h2 : rdN p u (k + 1) = q
      · left
        rw [if_pos h2, hI, if_pos h2]
        rfl
      · right
        rw [if_neg h2] at hI
        exact ⟨by omega, Int32.ofNat (k + 1 + 1), ⟨rfl, hI⟩, if_neg h2⟩
theorem occ_tb {r : Row} {k : Nat} (hk : k < 8) : (occS r).testBit k = !(giS r k == 0) := by
  unfold occS
  rw [mk_tb, decide_eq_true hk, Bool.true_and]
theorem r_round {μ : Mem} {r : Row} (e : μ 0 13 = r) (V : Vr r) {p q : Nat} (hp : p < 8) (hq : q < 8) (hpq : p ≠ q) (u : Bool) : f_X10_round μ (Int32.ofNat p) (Int32.ofNat q) (sgI u) = some (match stN r p q u 1 7 with | none => 2000000000 | some n => Int32.ofNat n) := by
  unfold f_X10_round
  have hx := rd_all p hp q hq hpq u
  refine lpP (fun n (s : Int32 × Int32) => lp_X10_round_6 (Int32.ofNat q) (sgI u) μ n s.1 s.2) (fun o => o = some (match stN r p q u 1 7 with | none => 2000000000 | some n => Int32.ofNat n)) (fun k s => s = (Int32.ofNat k, Int32.ofNat (rdN p u k)) ∧ (∀ j, j < k → rdN p u j ≠ q) ∧ (stN r p q u 1 7 = if rdN p u k = q then some k else stN r p q u (k + 1) (7 - k))) 7 ?_ 4096 (0, Int32.ofNat p) (by decide) ⟨by rw [rd_0 p hp]; rfl, fun j hj => by omega, by rw [rd_0 p hp, if_neg hpq]⟩
  rintro k s hk ⟨rfl, hn, hI⟩ n
  have hc := (rd_c p hp u k (by omega)).2
  show lp_X10_round_6 _ _ _ _ _ _ = _ ∨ _
  rw [lp_X10_round_6, il_eq (by omega) (by omega)]
  by_cases h1 : rdN p u k = q
  · left
    rw [if_pos h1, hI, if_pos h1]
  · rw [if_neg h1] at hI ⊢
    have hk7 : k < 7 := by
      by_cases h7 : k = 7
      · obtain ⟨j, hj, hjq⟩ := hx
        by_cases hj7 : j = k
        · rw [hj7] at hjq
          exact absurd hjq h1
        · exact absurd hjq (hn j (by omega))
      · omega
    have hc2 := (rd_c p hp u (k + 1) (by omega)).2
    have hg := gi_256 V (rdN p u (k + 1))
    rw [i_8, rd_r p hp u k (by omega), R_guestsIn e V hc2, bs_q, i_0, il_eq (by omega) (by omega), i_1, on_a]
    rw [show 7 - k = 7 - (k + 1) + 1 by omega, stN_s r p q u (k + 1) (7 - (k + 1)), occ_tb hc2] at hI
    by_cases h2 : giS r (rdN p u (k + 1)) = 0
    · right
      refine ⟨hk7, (Int32.ofNat (k + 1), Int32.ofNat (rdN p u (k + 1))), ⟨rfl, fun j hj => ?_, ?_⟩, if_pos h2⟩
      · by_cases hj2 : j = k
        · rw [hj2]
          exact h1
        · exact hn j (by omega)
      · rw [hI, if_neg (by rw [h2]; decide)]
    · left
      rw [if_neg h2, hI, if_pos (by simp [h2])]
theorem q_pass {μ : Mem} (R : Rel μ) (a b : Int32) : AgT [(0, 0), (3, 1)] (f_X9_pass μ a b) (fun μ' => f_X10_pass μ' a b) := by
  have V := R.V
  have H : HC (μ (0 + 1)) (μ 0 13) := R.H
  rcases room_cases a with ⟨p, hp, rfl⟩ | ⟨h1, h2⟩
  · rcases room_cases b with ⟨q, hq, rfl⟩ | ⟨h1, h2⟩
    · by_cases hpq : p = q
      · subst hpq
        refine AgT.q R 0 0 0 0 (by decide) ?_ (fun μ' V' e => ?_) (fun _ => rfl)
        · unfold f_X9_pass
          simp (disch := omega) only [c_isRoom hp, nm_q, bs_q, on_a, on_m, on_t, ix_on, le_t, le_f, lt_t, lt_f, eq_t, eq_f, ite_b0, ite_b1, ↓reduceIte, i_0, i_1, i_2, i_3, i_4, i_5, i_6, i_7, i_8, i_9, i_10, i_11, i_12, i_13, i_14, i_15, i_16, i_18, i_20, i_22, i_24, i_30, i_31, i_32, i_40, i_48, i_50, i_51, i_52, i_57, i_60, i_64, i_65, i_66, i_67, i_97, i_99, i_100, i_122, i_239, i_240, i_255, i_256, i_304, i_400, i_401, i_704, i_999, i_1000, i_2304, i_3344, i_3648, i_4096, i_9999, i_32767]
        · have hr : ∀ u : Bool, f_X10_round (upm μ' 0 12 0 0) (Int32.ofNat p) (Int32.ofNat p) (sgI u) = some (Int32.ofNat 0) := fun u => by
            unfold f_X10_round
            rw [show (4096 : Nat) = 4095 + 1 from rfl, lp_X10_round_6, if_pos rfl]
            rfl
          have hr1 := hr true
          have hr2 := hr false
          simp only [sgI, ↓reduceIte, Bool.false_eq_true] at hr1 hr2
          unfold f_X10_pass
          rw [r_isRoom hp]
          simp only [bs_q, nm_q]
          rw [if_neg (by decide), if_neg (by decide), upm_at, if_pos (by decide), hr1, hr2]
          rfl
      · have s1 := c_steps H V hp hq true
        have s2 := c_steps H V hp hq false
        simp only [sgI, ↓reduceIte, Bool.false_eq_true] at s1 s2
        refine AgT.q R 0 0 (match stN (μ 0 13) p q true 1 7, stN (μ 0 13) p q false 1 7 with | none, none => -1 | some n, none => Int32.ofNat n | none, some n => Int32.ofNat n | some n, some m => Int32.ofNat (min n m)) _ (by decide) ?_ (fun μ' V' e => ?_) (fun _ => rfl)
        · unfold f_X9_pass
          rw [c_isRoom hp, c_isRoom hq]
          simp only [bs_q, nm_q]
          rw [if_neg (by decide), if_neg (by decide), if_neg (by rw [on_eq (by omega) (by omega)]; exact hpq), s1, s2]
          simp only [bs_q]
          cases e1 : stN (μ 0 13) p q true 1 7 with
          | none =>
            cases e2 : stN (μ 0 13) p q false 1 7 with
            | none => rfl
            | some m =>
              have := stN_lt _ _ _ e2
              rw [if_pos (show oI none = -1 from rfl)]
              show some (0, jmax (-1) (Int32.ofNat m), μ) = some (0, Int32.ofNat m, μ)
              rw [show jmax (-1) (Int32.ofNat m) = Int32.ofNat m from if_pos (by rw [Int32.lt_iff_toInt_lt, on_i (by omega)]; show (-1 : Int) < _; omega)]
          | some n =>
            have h1 := stN_lt _ _ _ e1
            cases e2 : stN (μ 0 13) p q false 1 7 with
            | none =>
              rw [if_neg (show ¬ oI (some n) = -1 from fun h => by rw [show oI (some n) = Int32.ofNat n from rfl, show (-1 : Int32) = -Int32.ofNat 1 from rfl, on_neg1 (by omega)] at h; exact h), if_pos (show oI none = -1 from rfl)]
              show some (0, jmax (Int32.ofNat n) (-1), μ) = some (0, Int32.ofNat n, μ)
              rw [show jmax (Int32.ofNat n) (-1) = Int32.ofNat n from if_neg (by rw [Int32.lt_iff_toInt_lt, on_i (by omega)]; show ¬ (_ < (-1 : Int)); omega)]
            | some m =>
              have h2 := stN_lt _ _ _ e2
              rw [if_neg (show ¬ oI (some n) = -1 from fun h => by rw [show oI (some n) = Int32.ofNat n from rfl, show (-1 : Int32) = -Int32.ofNat 1 from rfl, on_neg1 (by omega)] at h; exact h), if_neg (show ¬ oI (some m) = -1 from fun h => by rw [show oI (some m) = Int32.ofNat m from rfl, show (-1 : Int32) = -Int32.ofNat 1 from rfl, on_neg1 (by omega)] at h; exact h)]
              show some (0, jmin (Int32.ofNat n) (Int32.ofNat m), μ) = some (0, Int32.ofNat (min n m), μ)
              rw [on_min (by omega) (by omega)]
        · have t1 := r_round (th_row 0 e) V hp hq hpq true
          have t2 := r_round (th_row 0 e) V hp hq hpq false
          simp only [sgI, ↓reduceIte, Bool.false_eq_true] at t1 t2
          unfold f_X10_pass
          rw [r_isRoom hp, r_isRoom hq]
          simp only [bs_q, nm_q]
          rw [if_neg (by decide), if_neg (by decide), upm_at, if_pos (by decide), t1, t2]
          simp only [bs_q]
          rw [lesser_e]
          simp only [bs_q]
          cases e1 : stN (μ 0 13) p q true 1 7 with
          | none =>
            cases e2 : stN (μ 0 13) p q false 1 7 with
            | none => rfl
            | some m =>
              have h2 := stN_lt _ _ _ e2
              simp only
              rw [show (2000000000 : Int32) = Int32.ofNat 2000000000 from rfl, on_min (by decide) (by omega), show min 2000000000 m = m by omega, if_neg (by rw [on_eq (by omega) (by decide)]; omega)]
          | some n =>
            have h1 := stN_lt _ _ _ e1
            cases e2 : stN (μ 0 13) p q false 1 7 with
            | none =>
              simp only
              rw [show (2000000000 : Int32) = Int32.ofNat 2000000000 from rfl, on_min (by omega) (by decide), show min n 2000000000 = n by omega, if_neg (by rw [on_eq (by omega) (by decide)]; omega)]
            | some m =>
              have h2 := stN_lt _ _ _ e2
              simp only
              rw [show (2000000000 : Int32) = Int32.ofNat 2000000000 from rfl, on_min (by omega) (by omega), if_neg (by rw [on_eq (by omega) (by decide)]; omega)]
    · refine AgT.q R 3 1 0 0 (by decide) ?_ (fun μ' V' e => ?_) (fun h => by cases h)
      · unfold f_X9_pass
        simp (disch := omega) only [c_isRoom hp, h1, nm_q, bs_q, on_a, on_m, on_t, ix_on, le_t, le_f, lt_t, lt_f, eq_t, eq_f, ite_b0, ite_b1, ↓reduceIte, i_0, i_1, i_2, i_3, i_4, i_5, i_6, i_7, i_8, i_9, i_10, i_11, i_12, i_13, i_14, i_15, i_16, i_18, i_20, i_22, i_24, i_30, i_31, i_32, i_40, i_48, i_50, i_51, i_52, i_57, i_60, i_64, i_65, i_66, i_67, i_97, i_99, i_100, i_122, i_239, i_240, i_255, i_256, i_304, i_400, i_401, i_704, i_999, i_1000, i_2304, i_3344, i_3648, i_4096, i_9999, i_32767]
      · unfold f_X10_pass
        simp (disch := omega) only [r_isRoom hp, h2, nm_q, bs_q, on_a, on_m, on_t, ix_on, le_t, le_f, lt_t, lt_f, eq_t, eq_f, ite_b0, ite_b1, ↓reduceIte, i_0, i_1, i_2, i_3, i_4, i_5, i_6, i_7, i_8, i_9, i_10, i_11, i_12, i_13, i_14, i_15, i_16, i_18, i_20, i_22, i_24, i_30, i_31, i_32, i_40, i_48, i_50, i_51, i_52, i_57, i_60, i_64, i_65, i_66, i_67, i_97, i_99, i_100, i_122, i_239, i_240, i_255, i_256, i_304, i_400, i_401, i_704, i_999, i_1000, i_2304, i_3344, i_3648, i_4096, i_9999, i_32767, upm_at, bk_b]
  · refine AgT.q R 3 1 0 0 (by decide) ?_ (fun μ' V' e => ?_) (fun h => by cases h)
    · unfold f_X9_pass
      simp (disch := omega) only [h1, nm_q, bs_q, on_a, on_m, on_t, ix_on, le_t, le_f, lt_t, lt_f, eq_t, eq_f, ite_b0, ite_b1, ↓reduceIte, i_0, i_1, i_2, i_3, i_4, i_5, i_6, i_7, i_8, i_9, i_10, i_11, i_12, i_13, i_14, i_15, i_16, i_18, i_20, i_22, i_24, i_30, i_31, i_32, i_40, i_48, i_50, i_51, i_52, i_57, i_60, i_64, i_65, i_66, i_67, i_97, i_99, i_100, i_122, i_239, i_240, i_255, i_256, i_304, i_400, i_401, i_704, i_999, i_1000, i_2304, i_3344, i_3648, i_4096, i_9999, i_32767]
    · unfold f_X10_pass
      simp (disch := omega) only [h2, nm_q, bs_q, on_a, on_m, on_t, ix_on, le_t, le_f, lt_t, lt_f, eq_t, eq_f, ite_b0, ite_b1, ↓reduceIte, i_0, i_1, i_2, i_3, i_4, i_5, i_6, i_7, i_8, i_9, i_10, i_11, i_12, i_13, i_14, i_15, i_16, i_18, i_20, i_22, i_24, i_30, i_31, i_32, i_40, i_48, i_50, i_51, i_52, i_57, i_60, i_64, i_65, i_66, i_67, i_97, i_99, i_100, i_122, i_239, i_240, i_255, i_256, i_304, i_400, i_401, i_704, i_999, i_1000, i_2304, i_3344, i_3648, i_4096, i_9999, i_32767, upm_at, bk_b]
