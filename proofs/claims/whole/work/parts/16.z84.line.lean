/-! ===== a line of the law, both at once ===== -/
/-- the reference behind `doubt`, `calm` -/
def lJ (q1 : Int32) (μ2 : Mem) : Option Mem := (f_X10_figures μ2 0 30).bind fun (q3 : Int32 × Mem) => if (q3.2 0 12 12) = (-1) then ((f_X10_has 46 q3.2).bind fun (q4 : Int32 × Mem) => nm (fun (x5 : Int32) (μ6 : Mem) => if (μ6 0 12 12) = (-1) then (if x5 = 0 then (some μ6) else (nm (fun (x7 : Int32) => nm (upm μ6 0 12 17 ((μ6 0 12 17) + x7)) fun (μ8 : Mem) => some μ8) fun (J95 : Int32 → Option (Mem)) => if q1 = 0 then (J95 (0 - q3.1)) else (J95 q3.1))) else (some μ6)) fun (J67 : Int32 → Mem → Option (Mem)) => nm (fun (μ9 : Mem) => J67 1 μ9) fun (J62 : Mem → Option (Mem)) => if q4.1 = 0 then (J62 q4.2) else ((f_X10_some (f_X10_atom 10) q4.2).bind fun (q10 : Int32 × Mem) => if q10.1 = 0 then (J67 0 q10.2) else (J62 q10.2))) else (some q3.2)
theorem r_line {b : Nat → Nat} {t : Nat} {ν : Mem} {k p a : Nat} (R : RS b t ν k p a) : f_X10_lawLine ν = if kd b t (tk b t k) = 21 then lJ 1 (upm ν 0 12 11 (Int32.ofNat (en b t (tk b t k)))) else if kd b t (tk b t k) = 22 then lJ 0 (upm ν 0 12 11 (Int32.ofNat (en b t (tk b t k)))) else some (upm (upm ν 0 12 11 (Int32.ofNat (tk b t k))) 0 12 12 (Int32.ofNat (tk b t k))) := by
  have R1 := R.stay
  have h1 := r_has R.1 R.2.1 R.2.2.1 (a := 44) (by decide) (by decide)
  rw [R.2.2.2.1, show wcd (cwd 44) = 21 from rfl] at h1
  have h2 := r_has R1.1 R1.2.1 R1.2.2.1 (a := 45) (by decide) (by decide)
  rw [R1.2.2.2.1, upm_2, show wcd (cwd 45) = 22 from rfl] at h2
  unfold f_X10_lawLine
  rw [h1]
  simp only [bs_q, nm_q]
  rw [ite_z]
  by_cases k1 : kd b t (tk b t k) = 21
  · rw [if_pos (decide_eq_true k1), if_pos k1, if_pos k1, decide_eq_true k1]
    rfl
  · rw [if_neg (by rw [decide_eq_false k1]; decide), if_neg k1, if_neg k1, h2]
    simp only [bs_q]
    rw [ite_z]
    by_cases k2 : kd b t (tk b t k) = 22
    · rw [if_pos (decide_eq_true k2), if_pos k2, if_pos k2, decide_eq_false k1]
      rfl
    · rw [if_neg (by rw [decide_eq_false k2]; decide), if_neg k2, if_neg k2, rs_wrong R1.2.2.2.2.1, upm_at]
      rfl
/-- the class behind `doubt`, `calm` -/
def clJ (x2 : Int32) (μ4 : Mem) : Option (Int32 × Mem) := (f_X8_takeNumber μ4 30).bind fun (q5 : Int32 × Mem) => if q5.1 = 0 then (some (0, q5.2)) else ((f_X8_take q5.2 23).bind fun (q6 : Int32 × Mem) => nm (fun (μ7 : Mem) => (f_X4_put 15 μ7 (x2 + (q5.2 0 3 5))).bind fun (q8 : Mem) => some (1, q8)) fun (J105 : Mem → Option (Int32 × Mem)) => if q6.1 = 0 then ((f_X4_put 15 q6.2 1).bind fun (q9 : Mem) => J105 q9) else ((f_X5_readAny (f_X5_readAtom 10) q6.2 0).bind fun (q10 : Int32 × Mem) => if q10.1 = 0 then (some (0, q10.2)) else (J105 q10.2)))
theorem c_line {b : Nat → Nat} {t m : Nat} {μ : Mem} {k l : Nat} (S : CS b t m μ k l) : f_X5_readLine μ = if kd b t (tk b t k) = 21 then clJ (Int32.ofNat 1100) (upm μ 0 3 4 (Int32.ofNat (k + 1))) else if kd b t (tk b t k) = 22 then clJ (Int32.ofNat 1200) (upm μ 0 3 4 (Int32.ofNat (k + 1))) else some (0, μ) := by
  have hkd := kd_le b t (tk b t k)
  have t1 := c_take S.1 S.2.1 S.2.2.1 (a := 21) (by decide) (by decide)
  have t2 := c_take S.1 S.2.1 S.2.2.1 (a := 22) (by decide) (by decide)
  unfold f_X5_readLine
  rw [c_kind S.1 S.2.1 S.2.2.1]
  simp only [bs_q, nm_q]
  rw [show (21 : Int32) = Int32.ofNat 21 from rfl, t1, il_eq (by omega) (by decide)]
  by_cases k1 : kd b t (tk b t k) = 21
  · rw [if_pos k1, if_pos k1, if_pos k1, bs_q, if_neg (show ¬ (1 : Int32) = 0 by decide)]
    rfl
  · rw [if_neg k1, if_neg k1, if_neg k1, bs_q, if_pos (show (0 : Int32) = 0 from rfl)]
    show (f_X8_take μ (Int32.ofNat 22)).bind _ = _
    rw [t2]
    by_cases k2 : kd b t (tk b t k) = 22
    · rw [if_pos k2, if_pos k2, bs_q, if_neg (show ¬ (1 : Int32) = 0 by decide)]
      rfl
    · rw [if_neg k2, if_neg k2, bs_q, if_pos (show (0 : Int32) = 0 from rfl)]
