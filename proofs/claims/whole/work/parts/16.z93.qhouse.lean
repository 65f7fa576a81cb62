/-! ===== house, answered alike ===== -/
/-- the reference's house, read -/
def hoJ (x4 : Int32) (ν : Mem) : Option (Int32 × Mem) := nm (upm ν 0 12 0 x4) fun (μ5 : Mem) => if (μ5 0 12 0) ≤ 0 then (ix 0 704 (ix 0 704 (nm (upm μ5 0 13 (Int32.toNatClampNeg 0) ((μ5 0 13 (Int32.toNatClampNeg 0)) + 1)) fun (μ6 : Mem) => nm (upm μ6 0 12 6 0) fun (μ7 : Mem) => ix 0 704 (some ((μ7 0 13 (Int32.toNatClampNeg 0)), μ7))))) else ((f_X10_comesBack μ5).bind fun (q8 : Mem) => some (0, q8))
theorem hoJ_0 (ν : Mem) : hoJ 0 ν = some (ν 0 13 0 + 1, upm (upm (upm ν 0 12 0 0) 0 13 0 (ν 0 13 0 + 1)) 0 12 6 0) := by
  unfold hoJ
  rw [nm_q, if_pos (by rw [upm_at]; decide), show (Int32.toNatClampNeg 0) = 0 from rfl]
  have i0 : ∀ E : Option (Int32 × Mem), ix 0 704 E = E := fun E => ix_on (k := 0) (by decide) (by decide)
  rw [i0, i0, nm_q, nm_q, i0, upm_ne (by omega), upm_at, upm_ne (by omega)]
theorem hoJ_n {x : Int32} (hx : ¬ x ≤ 0) (ν : Mem) : hoJ x ν = some (0, upA (upm ν 0 12 0 x) 0 13 (fl (ν 0 13) (ν 0 15) 0 304)) := by
  unfold hoJ
  rw [nm_q, if_neg (by rw [upm_at]; exact hx), r_comesBack, bs_q, upm_ne (by omega), upm_ne (by omega)]
theorem r_house {B : Mem} {x : Int32} {ν : Mem} (h : f_X10_read (bgn (upA B 0 15 (fl (B 0 15) (B 0 13) 0 304))) 0 = some (x, ν)) : f_X10_house B = if ν 0 12 12 = -1 then (if ν 0 13 0 = 12 then hoJ 2 ν else hoJ 0 ν) else hoJ 1 ν := by
  have i0 : ∀ E : Option (Int32 × Mem), ix 0 704 E = E := fun E => ix_on (k := 0) (by decide) (by decide)
  unfold f_X10_house
  rw [r_putsAside, bs_q, r_begins, bs_q, h, bs_q, nm_q, i0]
  rfl
set_option maxHeartbeats 4000000 in
theorem q_house {μ : Mem} (R : Rel μ) : AgT [(0, 0), (1, 1), (2, 2)] (f_X9_house μ) f_X10_house := by
  obtain ⟨b, t, C, e8, h17⟩ := tap_ct R.2.1
  have t1 := C.1
  have hbq := R.bq0
  have V := R.V
  have hbt : ∀ i, i < t → b i ≤ 255 := fun i hi => (C.2.2 i hi).2
  obtain ⟨μ1, m, a1, a2, a3, a4⟩ := c_read C
  obtain ⟨ev, HV0, RT⟩ := R.ex
  have T2 : TOK (upm μ1 0 1 1 0) b t m := a2.fr fun j i hj => by rw [upm_ne (by omega)]
  have F2 : ∀ g j i, ¬ (g = 0 ∧ (j = 1 ∧ i = 1 ∨ j = 3 ∨ j = 4 ∨ j = 5 ∨ j = 6)) → (upm μ1 0 1 1 0) g j i = μ g j i := fun g j i h => by
    rw [upm_n3 (by omega), a4 g j i (by unfold fR; omega)]
  have e11 : (upm μ1 0 1 1 0) 0 1 1 = 0 := upm_at _ _ _ _ _
  have e34 : (upm μ1 0 1 1 0) 0 3 4 = 0 := by rw [upm_ne (by omega), a3]
  have hcl : f_X9_house μ = (f_X2_copy 1 0 (upm μ1 0 1 1 0)).bind fun (q3 : Mem) => (f_X3_read 1 q3).bind fun (q4 : Int32 × Mem) => nm (fun (x5 : Int32) => nm (upm q4.2 0 0 10 x5) fun (μ6 : Mem) => if q4.1 = 0 then (some (1, 0, μ6)) else (if (μ6 1 0 16) < 12 then ((f_X2_copy 0 1 μ6).bind fun (q7 : Mem) => nm (upm q7 1 0 16 ((q7 1 0 16) + 1)) fun (μ8 : Mem) => (f_X6_forget μ8).bind fun (q9 : Mem) => some (0, (q9 1 0 16), q9)) else (some (2, 0, μ6)))) fun (J58 : Int32 → Option (Nat × Int32 × Mem)) => if q4.1 = 0 then ((f_X8_begin q4.2).bind fun (q10 : Int32) => J58 q10) else (J58 (-1)) := by
    unfold f_X9_house
    rw [a1, bs_q, nm_q]
  generalize hμ2 : upm μ1 0 1 1 0 = μ2 at T2 F2 e11 e34 hcl
  have H1 : HV ev (μ2 (0 + 1)) (μ 0 13) := by
    rw [show μ2 (0 + 1) = μ 1 from funext fun j => funext fun i => F2 1 j i (by omega)]
    exact HV0
  obtain ⟨μ3, b1, b2, b3⟩ := hv_copy (d := 1) (s := 0) (by decide) H1
  have T3 : TOK μ3 b t m := T2.fr fun j i hj => by rw [b2 0 (by decide)]
  have e34' : μ3 0 3 4 = 0 := by rw [b2 0 (by decide), e34]
  rw [b1, bs_q] at hcl
  -- what the class leaves behind its reading
  have F3 : ∀ μ4 : Mem, hF μ3 μ4 → ∀ g j i, g ≠ 2 → ¬ (g = 0 ∧ (j = 1 ∧ i = 1 ∨ j = 3 ∨ j = 4 ∨ j = 5 ∨ j = 6)) → μ4 g j i = μ g j i := fun μ4 h g j i h2 h3 => by
    rw [h g j i h2 (by omega), b2 g (by omega), F2 g j i h3]
  -- the reference begins
  have RB : ∀ B : Mem, B 0 12 8 = Int32.ofNat t → (∀ i, i < t → B 0 17 i = Int32.ofNat (b i)) → BQ B → B 0 13 = μ 0 13 → RS b t (bgn (upA B 0 15 (fl (B 0 15) (B 0 13) 0 304))) 0 0 0 ∧ (bgn (upA B 0 15 (fl (B 0 15) (B 0 13) 0 304))) 0 13 = μ 0 13 := fun B q1 q2 q3 q4 => by
    refine ⟨bgn_rs t1 (by rw [upA_ne (by omega), q1]) (fun i hi => by rw [upA_ne (by omega)]; exact q2 i hi) hbt (q3.cg (upA_ne (by omega))), funext fun i => ?_⟩
    rw [bgn_fr _ (by omega), upA_ne (by omega), q4]
  -- the reference comes back
  have back : ∀ (B ν : Mem), B 0 13 = μ 0 13 → rG (bgn (upA B 0 15 (fl (B 0 15) (B 0 13) 0 304))) ν → fl (ν 0 13) (ν 0 15) 0 304 = μ 0 13 := fun B ν q1 q2 => funext fun i => by
    by_cases hi : i < 304
    · rw [fl_in (by omega), q2 0 15 i (by omega) (by omega), bgn_fr _ (by omega), upA_at, fl_in (by omega), q1]
    · rw [fl_out (by omega), q2 0 13 i (by omega) (by omega), bgn_fr _ (by omega), upA_ne (by omega), q1]
  rcases house_both T3 e34' (show HV ev (μ3 2) (μ 0 13) from b3) with ⟨kE, μ4, r1, r2, r3, r4, r5⟩ | ⟨μ4, r', r1, r4, r6, r5⟩
  · have T4 : TOK μ4 b t m := T3.fr fun j i hj => r4 0 j i (by decide) (by omega)
    have hE : f_X9_house μ = some (1, 0, upm μ4 0 0 10 (Int32.ofNat (tk b t kE))) := by
      rw [hcl, r1, bs_q, nm_q, if_pos (show (0 : Int32) = 0 from rfl), c_begin T4 r2 r3, bs_q]
      show nm (upm μ4 0 0 10 (Int32.ofNat (tk b t kE))) _ = _
      rw [nm_q, if_pos (show (0 : Int32) = 0 from rfl)]
    have F4 : ∀ g j i, g ≠ 2 → ¬ (g = 0 ∧ (j = 0 ∧ i = 10 ∨ j = 1 ∧ i = 1 ∨ j = 3 ∨ j = 4 ∨ j = 5 ∨ j = 6)) → (upm μ4 0 0 10 (Int32.ofNat (tk b t kE))) g j i = μ g j i := fun g j i h2 h => by
      rw [upm_n3 (by omega), F3 μ4 r4 g j i h2 (by omega)]
    have d10 : (upm μ4 0 0 10 (Int32.ofNat (tk b t kE))) 0 0 10 = Int32.ofNat (tk b t kE) := upm_at _ _ _ _ _
    have d11 : (upm μ4 0 0 10 (Int32.ofNat (tk b t kE))) 0 1 1 = 0 := by rw [upm_ne (by omega), r4 0 1 1 (by decide) (by omega), b2 0 (by decide), e11]
    generalize upm μ4 0 0 10 (Int32.ofNat (tk b t kE)) = μ5 at hE F4 d10 d11
    refine ⟨1, 1, 0, μ5, by decide, hE, fun x hx => ?_⟩
    rw [if_neg (by decide)] at hx
    subst hx
    have erow : x 0 13 = μ 0 13 := funext fun i => F4 0 13 i (by decide) (by omega)
    obtain ⟨RSx, RRx⟩ := RB x (by rw [F4 0 12 8 (by decide) (by omega), e8]) (fun i hi => by rw [F4 0 17 i (by decide) (by omega)]; exact h17 i hi) (BQ.cg (funext fun i => F4 0 12 i (by decide) (by omega)) hbq) erow
    obtain ⟨y, ν, s1, s2, s3⟩ := r5 _ _ RSx RRx
    have hne := fs_ne s2 T4 r2
    have hR := r_house s1
    rw [if_neg hne, hoJ_n (by decide), back x ν erow s3] at hR
    refine ⟨0, _, hR, ?_, fun h => absurd h (by decide), ?_, ?_⟩
    · rw [upA_ne (by omega), upm_at]
    · rw [upA_ne (by omega), upm_ne (by omega), s3 0 22 0 (by omega) (by omega), bgn_fr _ (by omega), upA_ne (by omega)]
    · refine R.tf (fun g j i hs hn => ?_) ⟨0, by decide, ?_, ?_, fun i hi => by omega⟩ ?_
      · obtain ⟨n1, n2, n3⟩ := scr_no hs
        unfold tfc at hn
        by_cases h13 : g = 0 ∧ j = 13
        · obtain ⟨rfl, rfl⟩ := h13
          rw [upA_at]
        · rw [upA_ne h13, upm_n3 (by omega), s3 g j i (by omega) (by omega), bgn_fr _ (by omega), upA_ne (by omega), F4 g j i n2 (by omega)]
      · rw [upA_ne (by omega), upm_ne (by omega), s3 0 1 1 (by omega) (by omega), bgn_fr _ (by omega), upA_ne (by omega), d11]
        rfl
      · rw [upA_ne (by omega), upm_n3 (by omega), s3 0 12 8 (by omega) (by omega), bgn_8]
        rfl
      · rw [upA_ne (by omega), upm_ne (by omega), s3 0 0 10 (by omega) (by omega), bgn_fr _ (by omega), upA_ne (by omega), d10, upA_ne (by omega), upm_n3 (by omega), s2.2.1]
  · have F4 : ∀ g j i, g ≠ 2 → ¬ (g = 0 ∧ (j = 0 ∧ i = 10 ∨ j = 1 ∧ i = 1 ∨ j = 3 ∨ j = 4 ∨ j = 5 ∨ j = 6)) → (upm μ4 0 0 10 (-1)) g j i = μ g j i := fun g j i h2 h => by
      rw [upm_n3 (by omega), F3 μ4 r4 g j i h2 (by omega)]
    have hE : f_X9_house μ = (if ((upm μ4 0 0 10 (-1)) 1 0 16) < 12 then ((f_X2_copy 0 1 (upm μ4 0 0 10 (-1))).bind fun (q7 : Mem) => nm (upm q7 1 0 16 ((q7 1 0 16) + 1)) fun (μ8 : Mem) => (f_X6_forget μ8).bind fun (q9 : Mem) => some (0, (q9 1 0 16), q9)) else (some (2, 0, (upm μ4 0 0 10 (-1))))) := by
      rw [hcl, r1, bs_q, nm_q, if_neg (show ¬ (1 : Int32) = 0 by decide)]
      show nm (upm μ4 0 0 10 (-1)) _ = _
      rw [nm_q, if_neg (show ¬ (1 : Int32) = 0 by decide)]
    have e0 : μ 0 13 0 = Int32.ofNat (nv (μ 0 13) 0) := V.e (i := 0) (by decide)
    have n0 : nv (μ 0 13) 0 ≤ 12 := V.b (i := 0) (by decide)
    have et : (upm μ4 0 0 10 (-1)) 1 0 16 = Int32.ofNat (nv (μ 0 13) 0) := by rw [F4 1 0 16 (by decide) (by omega), HV0.2.1.texts, e0]
    have d10 : (upm μ4 0 0 10 (-1)) 0 0 10 = -1 := upm_at _ _ _ _ _
    have d11 : (upm μ4 0 0 10 (-1)) 0 1 1 = 0 := by rw [upm_ne (by omega), r4 0 1 1 (by decide) (by omega), b2 0 (by decide), e11]
    have H5 : HV ev ((upm μ4 0 0 10 (-1)) (1 + 1)) r' := by
      rw [upm_ng (by decide)]
      exact r6
    generalize upm μ4 0 0 10 (-1) = μ5 at hE F4 d10 d11 et H5
    rw [et, show (12 : Int32) = Int32.ofNat 12 from rfl, il_lt (by omega) (by decide)] at hE
    by_cases hn : nv (μ 0 13) 0 < 12
    · rw [if_pos hn] at hE
      obtain ⟨μ6, c1, c2, c3⟩ := hv_copy (d := 0) (s := 1) (by decide) H5
      have e16 : μ6 1 0 16 = r' 0 := c3.2.1.texts
      have hE2 : f_X9_house μ = some (0, r' 0 + 1, upm (upm μ6 1 0 16 (r' 0 + 1)) 0 9 2 0) := by
        rw [hE, c1, bs_q, nm_q, e16]
        unfold f_X6_forget
        rw [nm_q, bs_q, upm_ng (by decide), upm_at]
      refine ⟨0, 0, r' 0 + 1, _, by decide, hE2, fun x hx => ?_⟩
      rw [if_pos rfl] at hx
      have G4 : ∀ g j i, g ≠ 2 → g ≠ 1 → ¬ (g = 0 ∧ (j = 0 ∧ i = 10 ∨ j = 1 ∧ i = 1 ∨ j = 3 ∨ j = 4 ∨ j = 5 ∨ j = 6 ∨ j = 9 ∧ i = 2 ∨ j = 22)) → x g j i = μ g j i := fun g j i h2 h1 h => by
        rw [hx, upm_n3 (by omega), upm_n3 (by omega), upm_ng h1, c2 g h1, F4 g j i h2 (by omega)]
      have x10 : x 0 0 10 = -1 := by rw [hx, upm_ne (by omega), upm_ne (by omega), upm_ng (by decide), c2 0 (by decide), d10]
      have x11 : x 0 1 1 = 0 := by rw [hx, upm_ne (by omega), upm_ne (by omega), upm_ng (by decide), c2 0 (by decide), d11]
      have x92 : x 0 9 2 = 0 := by rw [hx, upm_ne (by omega), upm_at]
      have x1 : x 1 = (upm μ6 1 0 16 (r' 0 + 1)) 1 := by rw [hx, upm_ng (by decide), upm_ng (by decide)]
      have erow : x 0 13 = μ 0 13 := funext fun i => G4 0 13 i (by decide) (by decide) (by omega)
      have bqx : BQ x := BQ.cg (funext fun i => G4 0 12 i (by decide) (by decide) (by omega)) hbq
      obtain ⟨RSx, RRx⟩ := RB x (by rw [G4 0 12 8 (by decide) (by decide) (by omega), e8]) (fun i hi => by rw [G4 0 17 i (by decide) (by decide) (by omega)]; exact h17 i hi) bqx erow
      obtain ⟨y, ν, s1, s2, s3, s4⟩ := r5 _ _ RSx RRx
      have er0 : r' 0 = Int32.ofNat (nv (μ 0 13) 0) := by rw [← s3, s4 0 13 0 (by omega) (by omega), bgn_fr _ (by omega), upA_ne (by omega), erow, e0]
      have hR := r_house s1
      rw [if_pos s2, s3, er0, if_neg (by rw [show (12 : Int32) = Int32.ofNat 12 from rfl, on_eq (by omega) (by decide)]; omega), hoJ_0, s3, er0] at hR
      have Hn : HV ev ((upm μ6 1 0 16 (r' 0 + 1)) (0 + 1)) (upd r' 0 (r' 0 + 1)) := sc_up (h := 0) c3 (by decide) fun _ => by
        rw [er0, show (1 : Int32) = Int32.ofNat 1 from rfl, on_a]
        exact ⟨_, by show nv (μ 0 13) 0 + 1 ≤ 12; omega, rfl⟩
      have MM : ∀ g j i, ¬ (g = 0 ∧ (j = 13 ∨ j = 15 ∨ j = 12 ∧ (i = 0 ∨ i = 6 ∨ i = 8 ∨ i = 9 ∨ i = 10 ∨ i = 11 ∨ i = 12 ∨ i = 13 ∨ i = 17))) → (upm (upm (upm ν 0 12 0 0) 0 13 0 (Int32.ofNat (nv (μ 0 13) 0) + 1)) 0 12 6 0) g j i = x g j i := fun g j i h => by
        rw [upm_n3 (by omega), upm_n3 (by omega), upm_n3 (by omega), s4 g j i (by omega) (by omega), bgn_fr _ (by omega), upA_ne (by omega)]
      have m13 : (upm (upm (upm ν 0 12 0 0) 0 13 0 (Int32.ofNat (nv (μ 0 13) 0) + 1)) 0 12 6 0) 0 13 = upd r' 0 (r' 0 + 1) := by rw [upm_ne (by omega), upm_row, upm_ne (by omega), s3, er0]
      have m0 : (upm (upm (upm ν 0 12 0 0) 0 13 0 (Int32.ofNat (nv (μ 0 13) 0) + 1)) 0 12 6 0) 0 12 0 = 0 := by rw [upm_n3 (by omega), upm_ne (by omega), upm_at]
      have m6 : (upm (upm (upm ν 0 12 0 0) 0 13 0 (Int32.ofNat (nv (μ 0 13) 0) + 1)) 0 12 6 0) 0 12 6 = 0 := upm_at _ _ _ _ _
      have m8 : (upm (upm (upm ν 0 12 0 0) 0 13 0 (Int32.ofNat (nv (μ 0 13) 0) + 1)) 0 12 6 0) 0 12 8 = 0 := by rw [upm_n3 (by omega), upm_ne (by omega), upm_n3 (by omega), s4 0 12 8 (by omega) (by omega), bgn_8]
      have m12 : (upm (upm (upm ν 0 12 0 0) 0 13 0 (Int32.ofNat (nv (μ 0 13) 0) + 1)) 0 12 6 0) 0 12 12 = -1 := by rw [upm_n3 (by omega), upm_ne (by omega), upm_n3 (by omega), s2]
      generalize (upm (upm (upm ν 0 12 0 0) 0 13 0 (Int32.ofNat (nv (μ 0 13) 0) + 1)) 0 12 6 0) = M at hR MM m13 m0 m6 m8 m12
      refine ⟨_, M, hR, m0, fun _ => by rw [er0], MM 0 22 0 (by omega), ?_⟩
      obtain ⟨⟨k, nx, q1, q2, q3, q4, q5, q6⟩, -, -, h5, -⟩ := RT
      refine Rel.mk (ev := ev) ?_ ⟨⟨0, nx, by decide, q2, ?_, ?_, ?_, fun i hi => by omega⟩, ⟨0, by decide, ?_, ?_, fun i hi => by omega⟩, ?_, ?_, ?_⟩
      · rw [m13, show M 1 = x 1 from funext fun j => funext fun i => MM 1 j i (by omega), x1]
        exact Hn
      · rw [MM 0 9 1 (by omega), G4 0 9 1 (by decide) (by decide) (by omega), q3]
      · rw [MM 0 9 2 (by omega), x92]
        rfl
      · rw [m6]
        rfl
      · rw [MM 0 1 1 (by omega), x11]
        rfl
      · rw [m8]
        rfl
      · rw [MM 0 0 10 (by omega), x10, m12]
      · have e14 : M 0 14 = μ 0 14 := funext fun i => by rw [MM 0 14 i (by omega), G4 0 14 i (by decide) (by decide) (by omega)]
        have e3 : M 3 = μ 3 := funext fun j => funext fun i => by rw [MM 3 j i (by omega), G4 3 j i (by decide) (by decide) (by omega)]
        rw [MM 0 0 9 (by omega), G4 0 0 9 (by decide) (by decide) (by omega), MM 0 12 3 (by omega), G4 0 12 3 (by decide) (by decide) (by omega), e14, e3]
        exact h5
      · obtain ⟨⟨z1, z2⟩, z3, z4⟩ := bqx
        exact ⟨⟨z1, by rw [MM 0 12 15 (by omega)]; exact z2⟩, z3, by rw [MM 0 12 16 (by omega)]; exact z4⟩
    · rw [if_neg hn] at hE
      refine ⟨2, 2, 0, μ5, by decide, hE, fun x hx => ?_⟩
      rw [if_neg (by decide)] at hx
      subst hx
      have erow : x 0 13 = μ 0 13 := funext fun i => F4 0 13 i (by decide) (by omega)
      obtain ⟨RSx, RRx⟩ := RB x (by rw [F4 0 12 8 (by decide) (by omega), e8]) (fun i hi => by rw [F4 0 17 i (by decide) (by omega)]; exact h17 i hi) (BQ.cg (funext fun i => F4 0 12 i (by decide) (by omega)) hbq) erow
      obtain ⟨y, ν, s1, s2, s3, s4⟩ := r5 _ _ RSx RRx
      have er0 : ν 0 13 0 = Int32.ofNat (nv (μ 0 13) 0) := by rw [s4 0 13 0 (by omega) (by omega), bgn_fr _ (by omega), upA_ne (by omega), erow, e0]
      have hR := r_house s1
      rw [if_pos s2, er0, if_pos (by rw [show nv (μ 0 13) 0 = 12 by omega]; rfl), hoJ_n (by decide), back x ν erow s4] at hR
      refine ⟨0, _, hR, ?_, fun h => absurd h (by decide), ?_, ?_⟩
      · rw [upA_ne (by omega), upm_at]
      · rw [upA_ne (by omega), upm_ne (by omega), s4 0 22 0 (by omega) (by omega), bgn_fr _ (by omega), upA_ne (by omega)]
      · refine R.tf (fun g j i hs hn => ?_) ⟨0, by decide, ?_, ?_, fun i hi => by omega⟩ ?_
        · obtain ⟨n1, n2, n3⟩ := scr_no hs
          unfold tfc at hn
          by_cases h13 : g = 0 ∧ j = 13
          · obtain ⟨rfl, rfl⟩ := h13
            rw [upA_at]
          · rw [upA_ne h13, upm_n3 (by omega), s4 g j i (by omega) (by omega), bgn_fr _ (by omega), upA_ne (by omega), F4 g j i n2 (by omega)]
        · rw [upA_ne (by omega), upm_ne (by omega), s4 0 1 1 (by omega) (by omega), bgn_fr _ (by omega), upA_ne (by omega), d11]
          rfl
        · rw [upA_ne (by omega), upm_n3 (by omega), s4 0 12 8 (by omega) (by omega), bgn_8]
          rfl
        · rw [upA_ne (by omega), upm_ne (by omega), s4 0 0 10 (by omega) (by omega), bgn_fr _ (by omega), upA_ne (by omega), d10, upA_ne (by omega), upm_n3 (by omega), s2]
