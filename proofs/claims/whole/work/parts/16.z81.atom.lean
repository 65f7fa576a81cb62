/-! ===== atoms, both at once ===== -/
theorem RS.deep {b : Nat → Nat} {t : Nat} {ν : Mem} {k p a : Nat} (S : RS b t ν k p a) (d : Nat) : RS b t (upm ν 0 12 13 (Int32.ofNat d)) k p d := by
  obtain ⟨T, hp, e, hs, ef, ed, q1, q2⟩ := S
  refine ⟨T.upm _ (by omega), hp, ?_, hs, ?_, upm_at _ _ _ _ _, ?_, ?_⟩
  · rw [upm_n3 (by omega), e]
  · rw [upm_n3 (by omega), ef]
  · rw [upm_n3 (by omega)]
    exact q1
  · rw [upm_n3 (by omega)]
    exact q2
/-- behind the place where an atom begins: not, (, or a plain one -/
def aJ (A : Mem → Option (Int32 × Mem)) (x1 : Int32) (nt : Bool) (μ3 : Mem) : Option (Int32 × Mem) := if (μ3 0 12 13) = 6 then ((f_X10_wrong μ3 x1).bind fun (q4 : Mem) => some (0, q4)) else (nm (upm μ3 0 12 13 ((μ3 0 12 13) + 1)) fun (μ5 : Mem) => nm (fun (x6 : Int32) (μ7 : Mem) => nm (upm μ7 0 12 13 ((μ7 0 12 13) - 1)) fun (μ8 : Mem) => bk x6 (some (x6, μ8))) fun (J138 : Int32 → Mem → Option (Int32 × Mem)) => if nt = false then (nm (upm μ5 0 12 11 ((μ5 0 12 11) + 1)) fun (μ9 : Mem) => (f_X10_some A μ9).bind fun (q10 : Int32 × Mem) => nm (fun (μ11 : Mem) => nm (upm μ11 0 12 11 ((μ11 0 12 11) + 1)) fun (μ12 : Mem) => J138 q10.1 μ12) fun (J128 : Mem → Option (Int32 × Mem)) => if (q10.2 0 12 12) = (-1) then ((f_X10_isSign q10.2 41).bind fun (q13 : Int32 × Mem) => if q13.1 = 0 then ((f_X10_wrong q13.2 (q13.2 0 12 11)).bind fun (q14 : Mem) => J128 q14) else (J128 q13.2)) else (J128 q10.2)) else ((A μ5).bind fun (q15 : Int32 × Mem) => if q15.1 = 0 then (J138 1 q15.2) else (J138 0 q15.2)))
theorem r_atom {b : Nat → Nat} {t : Nat} {ν : Mem} {k p a : Nat} (A : Mem → Option (Int32 × Mem)) (R : RS b t ν k p a) (hk : tk b t k ≤ t) : f_X10_atomS A ν = if kd b t (tk b t k) = 26 then aJ A (Int32.ofNat (tk b t k)) true (upm ν 0 12 11 (Int32.ofNat (en b t (tk b t k)))) else if kd b t (tk b t k) = 4 then aJ A (Int32.ofNat (tk b t k)) false (upm ν 0 12 11 (Int32.ofNat (tk b t k))) else (f_X10_plain (upm ν 0 12 11 (Int32.ofNat (tk b t k)))).bind fun (q17 : Int32 × Mem) => bk q17.1 (some (q17.1, q17.2)) := by
  have R1 := R.stay
  have hp : f_X10_place ν = some (Int32.ofNat (tk b t k), upm ν 0 12 11 (Int32.ofNat (tk b t k))) := by
    unfold f_X10_place
    rw [r_skip R.1 R.2.1 R.2.2.1, R.2.2.2.1, bs_q, upm_at]
  have hh := r_has R1.1 R1.2.1 R1.2.2.1 (a := 47) (by decide) (by decide)
  rw [R1.2.2.2.1, upm_2, show wcd (cwd 47) = 26 from rfl] at hh
  have h4 := r_isSign R1.1 R1.2.1 R1.2.2.1 (c := 40) (k := 4) (by omega)
  rw [R1.2.2.2.1, upm_2] at h4
  unfold f_X10_atomS
  rw [if_pos R.2.2.2.2.1, hp, bs_q]
  show (f_X10_has 47 (upm ν 0 12 11 (Int32.ofNat (tk b t k)))).bind _ = _
  rw [hh]
  simp only [bs_q, nm_q]
  rw [ite_z]
  by_cases h1 : kd b t (tk b t k) = 26
  · rw [if_pos (decide_eq_true h1), if_pos h1, if_pos h1, decide_eq_true h1]
    rfl
  · rw [if_neg (by rw [decide_eq_false h1]; decide), if_neg h1, if_neg h1, i_40, h4]
    simp only [bs_q]
    rw [ite_z]
    by_cases h2 : kd b t (tk b t k) = 4
    · rw [if_pos (decide_eq_true h2), if_pos h2, decide_eq_false h1]
      rfl
    · rw [if_neg (by rw [decide_eq_false h2]; decide), if_neg h2]
