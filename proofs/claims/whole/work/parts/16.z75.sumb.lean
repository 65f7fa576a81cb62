/-! ===== sums, both at once ===== -/
def kdB (b : Nat → Nat) (t s : Nat) : Prop := kd b t s ≠ 2 ∧ ∀ i, i < 7 → kd b t s ≠ 10 + i
def sG (j : Nat) (acc : Int32) (nr : Nat) (ν : Mem) : Option (Int32 × Mem) := (f_X10_part ν).bind fun q => lp_X10_sum_5 nr (if j = 0 then q.1 else acc + q.1) q.2
/-- what the class does behind a part -/
def sJ (n j : Nat) (μ : Mem) : Option (Int32 × Mem) := (f_X8_take μ 8).bind fun (q7 : Int32 × Mem) => if q7.1 = 0 then (some (1, q7.2)) else (lp_X5_readSum_2 n (Int32.ofNat (j + 1)) q7.2)
theorem sum_bad {b : Nat → Nat} {t m : Nat} {μ : Mem} {k l j n : Nat} (S : CS b t m μ k l) (h : kdB b t (tk b t k)) : lp_X5_readSum_2 (n + 1) (Int32.ofNat j) μ = some (0, μ) := by
  obtain ⟨T, h1, h2, h3, h4⟩ := S
  have hk := kd_le b t (tk b t k)
  rw [lp_X5_readSum_2]
  split
  · rfl
  · rw [c_kind T h1 h2]
    simp only [bs_q]
    rw [i_999, c_takeNumber T h1 h2 (by decide), if_neg (fun q => h.1 q.1)]
    simp only [bs_q, nm_q]
    rw [if_pos trivial, i_10, il_lt (by omega) (by decide), i_16, il_lt (by decide) (by omega)]
    by_cases a1 : kd b t (tk b t k) < 10
    · rw [if_pos a1]
    · rw [if_neg a1, if_pos]
      refine Decidable.byContradiction fun a2 => ?_
      exact h.2 (kd b t (tk b t k) - 10) (by omega) (by omega)
set_option maxHeartbeats 2000000 in
theorem sum_part {b : Nat → Nat} {t m : Nat} {μ : Mem} {k l j n : Nat} (S : CS b t m μ k l) (hj : j ≤ k) (h : ¬ kdB b t (tk b t k)) : k < m ∧ tk b t k < t ∧ ∃ c μ5, c < 1010 ∧ CS b t m μ5 (k + 1) (l + 1) ∧ cF l μ μ5 ∧ μ5 16 8 l = Int32.ofNat c ∧ lp_X5_readSum_2 (n + 1) (Int32.ofNat j) μ = (if Int32.ofNat j ≤ 0 then sJ n j μ5 else ((f_X4_put 15 μ5 1010).bind fun q8 => sJ n j q8)) ∧ ∀ ν p a, RS b t ν k p a → a ≤ 6 → f_X10_part ν = some (if 1000 ≤ c ∧ c < 1009 then factsQ ν (c - 1000) else Int32.ofNat c, upm ν 0 12 11 (Int32.ofNat (en b t (tk b t k)))) := by
  have S0 := S
  obtain ⟨T, h1, h2, h3, h4⟩ := S
  have hk := kd_le b t (tk b t k)
  have tl := tk_lt T h1
  have hm : m ≤ 400 := by
    have := T.1
    have := T.2.1
    omega
  have h0 : kd b t (tk b t k) ≠ 0 := fun q => h ⟨by omega, fun i hi => by omega⟩
  obtain ⟨km, kt⟩ := tl.2 h0
  have hjn : ¬ (400 : Int32) ≤ Int32.ofNat j := by
    rw [i_400, on_le (by omega) (by omega)]
    omega
  refine ⟨km, kt, ?_⟩
  by_cases a1 : kd b t (tk b t k) = 2
  · obtain ⟨-, -, -, hn⟩ := kd2 a1
    have Sa : CS b t m (upm (upm μ 0 3 5 (Int32.ofNat (nbv b t (tk b t k)))) 0 3 4 (Int32.ofNat (k + 1))) (k + 1) l := by
      refine ⟨T.fr fun j i hj => by rw [upm_ne (by omega), upm_ne (by omega)], km, upm_at _ _ _ _ _, ?_, by omega⟩
      rw [upm_ne (by omega), upm_ne (by omega), h3]
    obtain ⟨μ5, p1, p2, p3, p4⟩ := Sa.put (by omega) (nbv b t (tk b t k))
    refine ⟨nbv b t (tk b t k), μ5, by omega, p2, ?_, p4, ?_, fun ν p a R ha => ?_⟩
    · refine cF.trans (l := l) (l2 := l) (fun g j i q1 q2 => ?_) p3 (Nat.le_refl l)
      rw [upm_n3 (by omega), upm_n3 (by omega)]
    · rw [lp_X5_readSum_2, if_neg hjn, c_kind T h1 h2]
      simp only [bs_q]
      rw [i_999, c_takeNumber T h1 h2 (by decide), if_pos ⟨a1, hn⟩]
      simp only [bs_q, nm_q]
      rw [if_neg (show ¬ (1 : Int32) = 0 by decide)]
      have e35 : upm (upm μ 0 3 5 (Int32.ofNat (nbv b t (tk b t k)))) 0 3 4 (Int32.ofNat (k + 1)) 0 3 5 = Int32.ofNat (nbv b t (tk b t k)) := by rw [upm_n3 (by omega), upm_at]
      rw [e35, p1]
      simp only [bs_q]
      unfold sJ
      rw [i_1, on_a]
    · rw [if_neg (by omega)]
      exact (r_part R ha tl.1).1 a1
  · obtain ⟨i, hi, a2⟩ : ∃ i, i < 7 ∧ kd b t (tk b t k) = 10 + i := by
      refine Decidable.byContradiction fun q => h ⟨a1, fun i hi e => q ⟨i, hi, e⟩⟩
    obtain ⟨Sa, fa⟩ := S0.take km
    obtain ⟨μ5, p1, p2, p3, p4⟩ := Sa.put (by omega) (1000 + i)
    refine ⟨1000 + i, μ5, by omega, p2, fa.trans p3 (Nat.le_refl l), p4, ?_, fun ν p a R ha => ?_⟩
    · rw [lp_X5_readSum_2, if_neg hjn, c_kind T h1 h2]
      simp only [bs_q]
      rw [i_999, c_takeNumber T h1 h2 (by decide), if_neg (fun q => a1 q.1)]
      simp only [bs_q, nm_q]
      rw [if_pos trivial, a2, i_10, if_neg (by rw [on_lt (by omega) (by decide)]; omega), i_16, if_neg (by rw [on_lt (by decide) (by omega)]; omega), c_take T h1 h2 (by omega) (by omega), if_pos a2]
      simp only [bs_q]
      rw [if_neg (show ¬ (1 : Int32) = 0 by decide), i_1000, on_a, on_sb (by omega), show 1000 + (10 + i) - 10 = 1000 + i by omega, p1]
      simp only [bs_q]
      unfold sJ
      rw [i_1, on_a]
    · rw [if_pos (by omega), (r_part R ha tl.1).2.1 i hi a2, show 1000 + i - 1000 = i by omega]
      unfold factsQ
      rw [if_pos hi]
