/-! ===== plain atoms, both at once ===== -/
theorem sum_both {b : Nat → Nat} {t m a : Nat} (ha : a ≤ 6) {μ : Mem} {k l : Nat} (S : CS b t m μ k l) : OutE b t m μ k l a false (f_X5_readSum μ) f_X10_sum ∨ OutK b t m μ k l a false 2 (f_X5_readSum μ) f_X10_sum := by
  have hlen := S.len
  have eq : ∀ ν, f_X10_sum ν = sG 0 0 4096 ν := fun ν => by
    unfold f_X10_sum sG
    congr 1
  rcases sum_loop ha (m - k) μ k l 0 4096 (Nat.le_refl _) (by omega) S (Nat.zero_le k) (.inl rfl) with ⟨kE, μ', r1, r2, r3, r4, r5⟩ | ⟨k', c, μ', r1, r2, r3, r4, r5, r6, r7, r8⟩
  · left
    refine ⟨kE, μ', r1, r2, r3, r4, fun ν p R => ?_⟩
    obtain ⟨x, ν', s1, s2, s3⟩ := r5 ν p 0 4096 R (by omega)
    exact ⟨x, ν', (eq ν).trans s1, (fun h => by cases h), s2, s3⟩
  · right
    refine ⟨k', c, μ', r1, r2, r3, r4, r5, r6, r7, fun ν p R => ?_⟩
    obtain ⟨x, ν', p', s1, s2, s3, s4, s5⟩ := r8 ν p 0 4096 R (by omega)
    exact ⟨x, ν', p', (eq ν).trans s1, (fun h => by cases h), s2, s3, s4, s5⟩
/-- what the class does with a comparison -/
def pcC (μ : Mem) : Option (Int32 × Mem) := (f_X5_readSum μ).bind fun (q9 : Int32 × Mem) => if q9.1 = 0 then (some (0, q9.2)) else ((f_X8_kind q9.2).bind fun (q10 : Int32) => nm (fun (x11 : Int32) => (f_X8_take q9.2 6).bind fun (q12 : Int32 × Mem) => nm (fun (μ13 : Mem) => (f_X5_readSum μ13).bind fun (q14 : Int32 × Mem) => if q14.1 = 0 then (some (0, q14.2)) else ((f_X4_put 15 q14.2 x11).bind fun (q15 : Mem) => some (1, q15))) fun (J185 : Mem → Option (Int32 × Mem)) => if q12.1 = 0 then ((f_X8_take q12.2 7).bind fun (q16 : Int32 × Mem) => if q16.1 = 0 then (some (0, q16.2)) else (J185 q16.2)) else (J185 q12.2)) fun (J160 : Int32 → Option (Int32 × Mem)) => if q10 = 6 then (J160 1011) else (J160 1012))
/-- what the reference does with it -/
def prC (ν : Mem) : Option (Int32 × Mem) := (f_X10_sum ν).bind fun (q3 : Int32 × Mem) => if (q3.2 0 12 12) = (-1) then ((f_X10_isSign q3.2 60).bind fun (q4 : Int32 × Mem) => nm (fun (μ5 : Mem) => nm (upm μ5 0 12 11 ((μ5 0 12 11) + 1)) fun (μ6 : Mem) => (f_X10_sum μ6).bind fun (q7 : Int32 × Mem) => if q4.1 = 0 then (if q3.1 ≤ q7.1 then (some (0, q7.2)) else (some (1, q7.2))) else (if q7.1 ≤ q3.1 then (some (0, q7.2)) else (some (1, q7.2)))) fun (J73 : Mem → Option (Int32 × Mem)) => if q4.1 = 0 then ((f_X10_isSign q4.2 62).bind fun (q8 : Int32 × Mem) => if q8.1 = 0 then ((f_X10_wrong q8.2 (q8.2 0 12 11)).bind fun (q9 : Mem) => some (0, q9)) else (J73 q8.2)) else (J73 q4.2)) else (some (0, q3.2))
theorem fs_ne {b : Nat → Nat} {t : Nat} {ν : Mem} {k a m : Nat} {μ : Mem} (S : FS b t ν k a) (T : TOK μ b t m) (hk : k ≤ m) : ¬ ν 0 12 12 = -1 := by
  have := (tk_lt T hk).1
  have := T.1
  rw [S.2.1, show (-1 : Int32) = -Int32.ofNat 1 from rfl, on_neg1 (by omega)]
  exact id
/-- the reference behind the first sum -/
theorem prC_mid {b : Nat → Nat} {t : Nat} {ν : Mem} {k p a : Nat} {x : Int32} (R : RS b t ν k p a) : (if (ν 0 12 12) = (-1) then ((f_X10_isSign ν 60).bind fun (q4 : Int32 × Mem) => nm (fun (μ5 : Mem) => nm (upm μ5 0 12 11 ((μ5 0 12 11) + 1)) fun (μ6 : Mem) => (f_X10_sum μ6).bind fun (q7 : Int32 × Mem) => if q4.1 = 0 then (if x ≤ q7.1 then (some (0, q7.2)) else (some (1, q7.2))) else (if q7.1 ≤ x then (some (0, q7.2)) else (some (1, q7.2)))) fun (J73 : Mem → Option (Int32 × Mem)) => if q4.1 = 0 then ((f_X10_isSign q4.2 62).bind fun (q8 : Int32 × Mem) => if q8.1 = 0 then ((f_X10_wrong q8.2 (q8.2 0 12 11)).bind fun (q9 : Mem) => some (0, q9)) else (J73 q8.2)) else (J73 q4.2)) else (some (0, ν)) : Option (Int32 × Mem)) = if kd b t (tk b t k) = 6 then ((f_X10_sum (upm ν 0 12 11 (Int32.ofNat (tk b t k + 1)))).bind fun (q7 : Int32 × Mem) => if q7.1 ≤ x then (some (0, q7.2)) else (some (1, q7.2))) else if kd b t (tk b t k) = 7 then ((f_X10_sum (upm ν 0 12 11 (Int32.ofNat (tk b t k + 1)))).bind fun (q7 : Int32 × Mem) => if x ≤ q7.1 then (some (0, q7.2)) else (some (1, q7.2))) else some (0, upm (upm ν 0 12 11 (Int32.ofNat (tk b t k))) 0 12 12 (Int32.ofNat (tk b t k))) := by
  have R1 := R.stay
  have h6 := r_isSign R.1 R.2.1 R.2.2.1 (c := 60) (k := 6) (by omega)
  rw [R.2.2.2.1] at h6
  have h7 := r_isSign R1.1 R1.2.1 R1.2.2.1 (c := 62) (k := 7) (by omega)
  rw [R1.2.2.2.1, upm_2] at h7
  rw [if_pos R.2.2.2.2.1, i_60, h6]
  simp only [bs_q, nm_q]
  rw [ite_z]
  by_cases q6 : kd b t (tk b t k) = 6
  · rw [if_pos q6, if_pos (decide_eq_true q6), upm_at, upm_2, i_1, on_a]
    congr 1
    funext q7
    rw [if_neg (by rw [decide_eq_true q6]; decide)]
  · rw [if_neg q6, if_neg (by rw [decide_eq_false q6]; decide), show (62 : Int32) = Int32.ofNat 62 from rfl, h7]
    simp only [bs_q]
    rw [ite_z]
    by_cases q7 : kd b t (tk b t k) = 7
    · rw [if_pos q7, if_pos (decide_eq_true q7), upm_at, upm_2, i_1, on_a]
      congr 1
      funext q7
      rw [if_pos (by rw [decide_eq_false q6]; rfl)]
    · rw [if_neg q7, if_neg (by rw [decide_eq_false q7]; decide), rs_wrong R1.2.2.2.2.1, upm_at]
      rfl
