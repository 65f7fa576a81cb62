/-! ===== atoms, both at once: the induction ===== -/
theorem r_plain {b : Nat → Nat} {t : Nat} {ν : Mem} {k p a : Nat} (R : RS b t ν k p a) : f_X10_plain ν = if kd b t (tk b t k) = 17 then some (ν 0 12 15, upm ν 0 12 11 (Int32.ofNat (en b t (tk b t k)))) else if kd b t (tk b t k) = 18 then some (ν 0 12 16, upm ν 0 12 11 (Int32.ofNat (en b t (tk b t k)))) else prC (upm ν 0 12 11 (Int32.ofNat (tk b t k))) := by
  have R1 := R.stay
  have h7 := r_has R.1 R.2.1 R.2.2.1 (a := 48) (by decide) (by decide)
  rw [R.2.2.2.1, show wcd (cwd 48) = 17 from rfl] at h7
  have h8 := r_has R1.1 R1.2.1 R1.2.2.1 (a := 49) (by decide) (by decide)
  rw [R1.2.2.2.1, upm_2, show wcd (cwd 49) = 18 from rfl] at h8
  obtain ⟨⟨c1, q1⟩, c2, q2⟩ := R.2.2.2.2.2.2
  unfold f_X10_plain
  rw [h7]
  simp only [bs_q]
  rw [ite_z]
  by_cases k1 : kd b t (tk b t k) = 17
  · rw [if_pos (decide_eq_true k1), if_pos k1, if_pos k1, upm_n3 (by omega), q1, bk_b]
  · rw [if_neg (by rw [decide_eq_false k1]; decide), if_neg k1, if_neg k1, h8]
    simp only [bs_q]
    rw [ite_z]
    by_cases k2 : kd b t (tk b t k) = 18
    · rw [if_pos (decide_eq_true k2), if_pos k2, if_pos k2, upm_n3 (by omega), q2, bk_b]
    · rw [if_neg (by rw [decide_eq_false k2]; decide), if_neg k2, if_neg k2]
      rfl
theorem r_atomP {b : Nat → Nat} {t : Nat} {ν : Mem} {k p a : Nat} (A : Mem → Option (Int32 × Mem)) (R : RS b t ν k p a) (hk : tk b t k ≤ t) (h1 : ¬ kd b t (tk b t k) = 26) (h2 : ¬ kd b t (tk b t k) = 4) : f_X10_atomS A ν = if kd b t (tk b t k) = 17 then some (ν 0 12 15, upm ν 0 12 11 (Int32.ofNat (en b t (tk b t k)))) else if kd b t (tk b t k) = 18 then some (ν 0 12 16, upm ν 0 12 11 (Int32.ofNat (en b t (tk b t k)))) else (prC (upm ν 0 12 11 (Int32.ofNat (tk b t k)))).bind fun (q17 : Int32 × Mem) => bk q17.1 (some (q17.1, q17.2)) := by
  obtain ⟨⟨c1, q1⟩, c2, q2⟩ := R.2.2.2.2.2.2
  rw [r_atom A R hk, if_neg h1, if_neg h2, r_plain R.stay, upm_2, upm_2, upm_n3 (by omega), upm_n3 (by omega)]
  by_cases k1 : kd b t (tk b t k) = 17
  · rw [if_pos k1, if_pos k1, bs_q, q1, bk_b]
  · rw [if_neg k1, if_neg k1]
    by_cases k2 : kd b t (tk b t k) = 18
    · rw [if_pos k2, if_pos k2, bs_q, q2, bk_b]
    · rw [if_neg k2, if_neg k2]
theorem c_atom {b : Nat → Nat} {t m : Nat} {μ : Mem} {k l : Nat} (S : CS b t m μ k l) (A : Mem → Int32 → Option (Int32 × Mem)) {a : Nat} (ha : a ≤ 6) : f_X5_readAtomS A μ (Int32.ofNat a) = if kd b t (tk b t k) = 17 ∨ kd b t (tk b t k) = 18 then ((f_X4_put 15 μ (Int32.ofNat (1000 + kd b t (tk b t k) - 10))).bind fun (q2 : Mem) => (f_X8_take q2 (Int32.ofNat (kd b t (tk b t k)))).bind fun (q3 : Int32 × Mem) => bk q3.1 (some (q3.1, q3.2))) else if kd b t (tk b t k) = 26 then (if a = 6 then some (0, μ) else (A (upm μ 0 3 4 (Int32.ofNat (k + 1))) (Int32.ofNat (a + 1))).bind fun (q7 : Int32 × Mem) => if q7.1 = 0 then (some (0, q7.2)) else ((f_X4_put 15 q7.2 (Int32.ofNat 1015)).bind fun (q8 : Mem) => some (1, q8))) else if kd b t (tk b t k) = 4 then (if a = 6 then some (0, μ) else (f_X5_readAny A (upm μ 0 3 4 (Int32.ofNat (k + 1))) (Int32.ofNat (a + 1))).bind fun (q5 : Int32 × Mem) => if q5.1 = 0 then (some (0, q5.2)) else ((f_X8_take q5.2 (Int32.ofNat 5)).bind fun (q6 : Int32 × Mem) => if q6.1 = 0 then (some (0, q6.2)) else (some (1, q6.2)))) else pcC μ := by
  have hkd := kd_le b t (tk b t k)
  have e : ∀ n, n < 100 → (Int32.ofNat (kd b t (tk b t k)) = Int32.ofNat n) = (kd b t (tk b t k) = n) := fun n hn => on_eq (by omega) (by omega)
  unfold f_X5_readAtomS
  rw [c_kind S.1 S.2.1 S.2.2.1]
  simp only [bs_q, nm_q]
  rw [show (17 : Int32) = Int32.ofNat 17 from rfl, i_18, show (26 : Int32) = Int32.ofNat 26 from rfl, i_4]
  simp only [e 17 (by decide), e 18 (by decide), e 26 (by decide), e 4 (by decide)]
  have hput : ((f_X4_put 15 μ ((1000 + Int32.ofNat (kd b t (tk b t k))) - 10)).bind fun (q2 : Mem) => (f_X8_take q2 (Int32.ofNat (kd b t (tk b t k)))).bind fun (q3 : Int32 × Mem) => bk q3.1 (some (q3.1, q3.2))) = ((f_X4_put 15 μ (Int32.ofNat (1000 + kd b t (tk b t k) - 10))).bind fun (q2 : Mem) => (f_X8_take q2 (Int32.ofNat (kd b t (tk b t k)))).bind fun (q3 : Int32 × Mem) => bk q3.1 (some (q3.1, q3.2))) := by
    rw [i_1000, on_a, i_10, on_sb (by omega)]
  have h6 : ((6 : Int32) ≤ Int32.ofNat a) = (a = 6) := by
    rw [i_6, on_le (by decide) (by omega)]
    exact propext ⟨fun h => by omega, fun h => by omega⟩
  by_cases k1 : kd b t (tk b t k) = 17
  · rw [if_pos k1, if_pos (.inl k1)]
    exact hput
  rw [if_neg k1]
  by_cases k2 : kd b t (tk b t k) = 18
  · rw [if_pos k2, if_pos (.inr k2)]
    exact hput
  rw [if_neg k2, if_neg (show ¬ (kd b t (tk b t k) = 17 ∨ kd b t (tk b t k) = 18) from fun h => h.elim k1 k2)]
  simp only [h6]
  by_cases k3 : kd b t (tk b t k) = 26
  · rw [if_pos k3, if_pos k3, c_take S.1 S.2.1 S.2.2.1 (by omega) (by omega), if_pos rfl]
    simp only [bs_q]
    rw [if_neg (show ¬ (1 : Int32) = 0 by decide), if_neg (show ¬ kd b t (tk b t k) = 4 by omega), i_1, on_a]
    rfl
  rw [if_neg k3, if_neg k3]
  by_cases k4 : kd b t (tk b t k) = 4
  · rw [if_pos k4, if_pos k4, c_take S.1 S.2.1 S.2.2.1 (by omega) (by omega), if_pos rfl]
    simp only [bs_q]
    rw [if_neg (show ¬ (1 : Int32) = 0 by decide), if_pos k4, i_1, on_a]
    rfl
  rw [if_neg k4, if_neg k4]
  unfold pcC
  rfl
