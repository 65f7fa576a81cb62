/-! ===== the tape: shifts, ask ===== -/
def tv (μ : Mem) (i : Nat) : Nat := (μ 0 17 i).toNatClampNeg
def alT (v : Nat → Nat) (m : Nat) : Nat → Bool
  | 0 => true
  | k + 1 => alT v m k && decide (v k ≤ if k % 2 = 0 then m else 1)
theorem alT_mono {v : Nat → Nat} {m k : Nat} : ∀ d, alT v m (k + d) = true → alT v m k = true := by
  intro d
  induction d with
  | zero => intro h; exact h
  | succ d ih =>
    intro h
    have e : alT v m (k + (d + 1)) = (alT v m (k + d) && decide (v (k + d) ≤ if (k + d) % 2 = 0 then m else 1)) := rfl
    rw [e, Bool.and_eq_true] at h
    exact ih h.1
theorem alT_f {v : Nat → Nat} {m k t : Nat} (hk : k ≤ t) (h : alT v m k = false) : alT v m t = false := by
  cases hq : alT v m t with
  | false => rfl
  | true =>
    obtain ⟨d, rfl⟩ : ∃ d, t = k + d := ⟨t - k, by omega⟩
    rw [alT_mono d hq] at h
    cases h
def tdB (v : Nat → Nat) (m t : Nat) : Bool := decide (t % 2 = 0) && (decide (t ≤ 40) && alT v m t)
def TP (μ : Mem) (v : Nat → Nat) (t : Nat) : Prop := t ≤ 400 ∧ μ 0 1 1 = Int32.ofNat t ∧ μ 0 12 8 = Int32.ofNat t ∧ ∀ i, i < t → μ 0 2 i = Int32.ofNat (v i) ∧ μ 0 17 i = Int32.ofNat (v i) ∧ v i ≤ 255
theorem TAP.TP {μ : Mem} (T : TAP μ) : ∃ v t, TP μ v t := by
  obtain ⟨t, t1, t2, t3, t4⟩ := T
  refine ⟨fun i => (μ 0 17 i).toNatClampNeg, t, t1, t2, t3, fun i hi => ?_⟩
  obtain ⟨h1, n, h2, h3⟩ := t4 i hi
  refine ⟨?_, ?_, ?_⟩
  · show μ 0 2 i = Int32.ofNat ((μ 0 17 i).toNatClampNeg)
    rw [h1, h3, on_t (by omega)]
  · show μ 0 17 i = Int32.ofNat ((μ 0 17 i).toNatClampNeg)
    rw [h3, on_t (by omega)]
  · show (μ 0 17 i).toNatClampNeg ≤ 255
    rw [h3, on_t (by omega)]
    exact h2
theorem c_at {μ : Mem} {v : Nat → Nat} {t : Nat} (T : TP μ v t) {i : Nat} (hi : i < t) : f_X7_at μ (Int32.ofNat i) = some (Int32.ofNat (v i)) := by
  obtain ⟨t1, t2, -, t4⟩ := T
  unfold f_X7_at
  rw [i_0, if_neg (by rw [on_lt (by omega) (by decide)]; omega), t2, if_neg (by rw [on_le (by omega) (by omega)]; omega), i_400, if_neg (by rw [on_le (by omega) (by omega)]; omega), ix_on (by omega) (by decide), on_t (by omega), (t4 i hi).1]
theorem c_told {μ : Mem} {v : Nat → Nat} {t : Nat} (T : TP μ v t) {m : Nat} (hm : m < 1000) : f_X7_isTold μ (Int32.ofNat m) = some (bI (tdB v m t)) := by
  have T' := T
  obtain ⟨t1, t2, -, t4⟩ := T'
  unfold f_X7_isTold tdB
  rw [t2, i_40, i_2, on_r (by omega) (by decide), i_0, il_lt (by decide) (by omega), il_eq (by omega) (by decide)]
  by_cases h1 : 40 < t
  · rw [if_pos h1, decide_eq_false (show ¬ t ≤ 40 by omega)]
    cases decide (t % 2 = 0) <;> rfl
  · rw [if_neg h1, decide_eq_true (show t ≤ 40 by omega), Bool.true_and]
    by_cases h2 : t % 2 = 0
    · rw [if_pos h2, decide_eq_true h2, Bool.true_and]
      refine lpP (fun n (s : Int32) => lp_X7_isTold_22 (Int32.ofNat m) μ n s) (fun o => o = some (bI (alT v m t))) (fun k s => s = Int32.ofNat (2 * k) ∧ alT v m (2 * k) = true) (t / 2) ?_ 4096 (Int32.ofNat 0) (by omega) ⟨rfl, rfl⟩
      rintro k s hk ⟨rfl, e2⟩ n
      by_cases h3 : k = t / 2
      · left
        show lp_X7_isTold_22 _ _ (n + 1) (Int32.ofNat (2 * k)) = _
        rw [lp_X7_isTold_22, t2, if_pos (by rw [on_le (by omega) (by omega)]; omega), show t = 2 * k by omega, e2]
        rfl
      · have h4 : 2 * k + 1 < t := by omega
        have v1 := (t4 (2 * k) (by omega)).2.2
        have v2 := (t4 (2 * k + 1) (by omega)).2.2
        have es : alT v m (2 * k + 1) = decide (v (2 * k) ≤ m) := by
          show (alT v m (2 * k) && decide (v (2 * k) ≤ if (2 * k) % 2 = 0 then m else 1)) = _
          rw [e2, if_pos (by omega), Bool.true_and]
        have es2 : alT v m (2 * (k + 1)) = (alT v m (2 * k + 1) && decide (v (2 * k + 1) ≤ 1)) := by
          show (alT v m (2 * k + 1) && decide (v (2 * k + 1) ≤ if (2 * k + 1) % 2 = 0 then m else 1)) = _
          rw [if_neg (by omega)]
        have go : lp_X7_isTold_22 (Int32.ofNat m) μ (n + 1) (Int32.ofNat (2 * k)) = if m < v (2 * k) then some 0 else (if v (2 * k + 1) ≤ 1 then lp_X7_isTold_22 (Int32.ofNat m) μ n (Int32.ofNat (2 * (k + 1))) else some 0) := by
          rw [lp_X7_isTold_22, t2, if_neg (by rw [on_le (by omega) (by omega)]; omega), c_at T (by omega)]
          simp only [bs_q]
          rw [i_1, on_a, c_at T h4, il_lt (by omega) (by omega)]
          simp only [bs_q]
          rw [il_le (by omega) (by decide), i_2, on_a]
          rfl
        show lp_X7_isTold_22 (Int32.ofNat m) μ (n + 1) (Int32.ofNat (2 * k)) = _ ∨ _ ∧ ∃ s', _ ∧ lp_X7_isTold_22 (Int32.ofNat m) μ (n + 1) (Int32.ofNat (2 * k)) = lp_X7_isTold_22 (Int32.ofNat m) μ n s'
        rw [go]
        by_cases h5 : m < v (2 * k)
        · left
          rw [if_pos h5, alT_f (k := 2 * k + 1) (by omega) (by rw [es, decide_eq_false (by omega)])]
          rfl
        · rw [if_neg h5]
          by_cases h6 : v (2 * k + 1) ≤ 1
          · right
            rw [if_pos h6]
            refine ⟨by omega, _, ⟨rfl, ?_⟩, rfl⟩
            rw [es2, es, decide_eq_true h6, decide_eq_true (show v (2 * k) ≤ m by omega)]
            rfl
          · left
            rw [if_neg h6, alT_f (k := 2 * (k + 1)) (by omega) (by rw [es2, decide_eq_false h6, Bool.and_false])]
            rfl
    · rw [if_neg h2, decide_eq_false h2]
      rfl
theorem r_heard {μ : Mem} {v : Nat → Nat} {t : Nat} (t1 : t ≤ 400) (t3 : μ 0 12 8 = Int32.ofNat t) (t4 : ∀ i, i < t → μ 0 17 i = Int32.ofNat (v i) ∧ v i ≤ 255) {m : Nat} (hm : m < 1000) : f_X10_heard μ (Int32.ofNat (m + 1)) = some (if tdB v m t = true then Int32.ofNat t else -1, upm μ 0 12 8 0) := by
  have lp : ∀ K : Int32 → Option (Int32 × Mem), lp_X10_heard_31 (Int32.ofNat (m + 1)) μ (upm μ 0 12 8 0) K 4096 (Int32.ofNat 1) (Int32.ofNat 0) = K (bI (alT v m t)) := fun K => by
    refine lpP (fun n (s : Int32 × Int32) => lp_X10_heard_31 (Int32.ofNat (m + 1)) μ (upm μ 0 12 8 0) K n s.1 s.2) (fun o => o = K (bI (alT v m t))) (fun k s => s.1 = bI (alT v m k) ∧ s.2 = Int32.ofNat k) t ?_ 4096 (Int32.ofNat 1, Int32.ofNat 0) (by omega) ⟨rfl, rfl⟩
    rintro k ⟨x, y⟩ hk ⟨e1, e2⟩ n
    simp only at e1 e2
    subst e1 e2
    show lp_X10_heard_31 (Int32.ofNat (m + 1)) μ (upm μ 0 12 8 0) K (n + 1) (bI (alT v m k)) (Int32.ofNat k) = _ ∨ _ ∧ ∃ s', _ ∧ lp_X10_heard_31 (Int32.ofNat (m + 1)) μ (upm μ 0 12 8 0) K (n + 1) (bI (alT v m k)) (Int32.ofNat k) = _
    rw [lp_X10_heard_31, t3, il_le (by omega) (by omega), i_0, ite_b0]
    by_cases h1 : t ≤ k
    · left
      rw [if_pos h1, show k = t by omega]
    · rw [if_neg h1]
      cases h2 : alT v m k with
      | false =>
        left
        rw [if_neg (by decide), alT_f (by omega) h2]
      | true =>
        right
        have v1 := (t4 k (by omega)).2
        refine ⟨by omega, (bI (alT v m (k + 1)), Int32.ofNat (k + 1)), ⟨rfl, rfl⟩, ?_⟩
        have es : alT v m (k + 1) = decide (v k ≤ if k % 2 = 0 then m else 1) := by
          show (alT v m k && decide (v k ≤ if k % 2 = 0 then m else 1)) = _
          rw [h2, Bool.true_and]
        rw [if_pos rfl, ix_on (by omega) (by decide), nm_q, i_2, on_r (by omega) (by decide), upm_ne (by omega), on_t (by omega), (t4 k (by omega)).1, i_1, on_a, il_eq (by omega) (by decide), es]
        by_cases h3 : k % 2 = 0
        · rw [if_pos h3, if_pos h3]
          show (if Int32.ofNat (m + 1) ≤ Int32.ofNat (v k) then _ else _) = _
          rw [il_le (by omega) (by omega)]
          by_cases h4 : v k ≤ m
          · rw [if_neg (by omega), decide_eq_true h4]
            rfl
          · rw [if_pos (by omega), decide_eq_false h4]
            rfl
        · rw [if_neg h3, if_neg h3]
          show (if Int32.ofNat 2 ≤ Int32.ofNat (v k) then _ else _) = _
          rw [il_le (by omega) (by omega)]
          by_cases h4 : v k ≤ 1
          · rw [if_neg (by omega), decide_eq_true h4]
            rfl
          · rw [if_pos (by omega), decide_eq_false h4]
            rfl
  have l0 : ∀ K : Int32 → Option (Int32 × Mem), lp_X10_heard_31 (Int32.ofNat (m + 1)) μ (upm μ 0 12 8 0) K (4095 + 1) (Int32.ofNat 0) (Int32.ofNat 0) = K (Int32.ofNat 0) := fun K => by
    rw [lp_X10_heard_31, i_0, if_pos rfl]
    split <;> rfl
  unfold f_X10_heard tdB
  rw [nm_q]
  simp only [nm_q, t3]
  rw [i_2, on_r (by omega) (by decide), i_40, il_lt (by decide) (by omega)]
  by_cases h2 : t % 2 = 0
  · rw [if_pos (by rw [h2]; rfl), decide_eq_true h2, Bool.true_and]
    by_cases h1 : 40 < t
    · rw [if_pos h1, decide_eq_false (show ¬ t ≤ 40 by omega)]
      refine (l0 _).trans ?_
      rfl
    · rw [if_neg h1, decide_eq_true (show t ≤ 40 by omega), Bool.true_and]
      refine (lp _).trans ?_
      cases alT v m t <;> rfl
  · rw [if_neg (by rw [i_0, on_eq (by omega) (by decide)]; exact h2), decide_eq_false h2]
    refine (l0 _).trans ?_
    rfl
