/-! ===== comparisons, both at once ===== -/
theorem jnd_lt (x y : Int32) : jnd 1011 x y = if y ≤ x then 0 else 1 := by
  unfold jnd
  rw [if_neg (show ¬ 1011 = 1010 by decide), if_pos rfl]
theorem jnd_gt (x y : Int32) : jnd 1012 x y = if x ≤ y then 0 else 1 := by
  unfold jnd
  rw [if_neg (show ¬ 1012 = 1010 by decide), if_neg (show ¬ 1012 = 1011 by decide), if_pos rfl]
set_option maxHeartbeats 4000000 in
theorem cmp_both {b : Nat → Nat} {t m a : Nat} (ha : a ≤ 6) {μ : Mem} {k l : Nat} (S : CS b t m μ k l) : OutE b t m μ k l a true (pcC μ) prC ∨ OutK b t m μ k l a true 3 (pcC μ) prC := by
  have hlen := S.len
  rcases sum_both ha S with ⟨kE, μ1, r1, r2, r3, r4, r5⟩ | ⟨k1, c1, μ1, r1, S1, r3, r4, F1, d1, d2, r8⟩
  · left
    refine ⟨kE, μ1, ?_, r2, r3, r4, fun ν p R => ?_⟩
    · unfold pcC
      rw [r1, bs_q, if_pos (show (0 : Int32) = 0 from rfl)]
    · obtain ⟨x, ν1, s1, -, s2, s3⟩ := r5 ν p R
      refine ⟨0, ν1, ?_, fun _ => ⟨false, rfl⟩, s2, s3⟩
      unfold prC
      rw [s1, bs_q]
      exact if_neg (fs_ne s2 S.1 r2)
  · have hk1 := S1.len
    have tl := tk_lt S1.1 S1.2.1
    have t6 := c_take S1.1 S1.2.1 S1.2.2.1 (a := 6) (by decide) (by decide)
    have t7 := c_take S1.1 S1.2.1 S1.2.2.1 (a := 7) (by decide) (by decide)
    have prE : ∀ ν p, RS b t ν k p a → ∃ x ν1 p1, f_X10_sum ν = some (x, ν1) ∧ RS b t ν1 k1 p1 a ∧ ν1 0 12 17 = ν 0 12 17 ∧ rF ν ν1 ∧ (∀ y s, s.length + 2 ≤ 32 → exl (factsQ ν) (y, s) c1 = (y, x :: s)) ∧ prC ν = if kd b t (tk b t k1) = 6 then ((f_X10_sum (upm ν1 0 12 11 (Int32.ofNat (tk b t k1 + 1)))).bind fun (q7 : Int32 × Mem) => if q7.1 ≤ x then (some (0, q7.2)) else (some (1, q7.2))) else if kd b t (tk b t k1) = 7 then ((f_X10_sum (upm ν1 0 12 11 (Int32.ofNat (tk b t k1 + 1)))).bind fun (q7 : Int32 × Mem) => if x ≤ q7.1 then (some (0, q7.2)) else (some (1, q7.2))) else some (0, upm (upm ν1 0 12 11 (Int32.ofNat (tk b t k1))) 0 12 12 (Int32.ofNat (tk b t k1))) := fun ν p R => by
      obtain ⟨x, ν1, p1, s1, -, s2, s3, s4, s5⟩ := r8 ν p R
      refine ⟨x, ν1, p1, s1, s2, s3, s4, s5, ?_⟩
      unfold prC
      rw [s1, bs_q]
      exact prC_mid s2
    have second : ∀ op kk, (op = 1011 ∧ kk = 6 ∨ op = 1012 ∧ kk = 7) → kd b t (tk b t k1) = kk → pcC μ = ((f_X5_readSum (upm μ1 0 3 4 (Int32.ofNat (k1 + 1)))).bind fun (q14 : Int32 × Mem) => if q14.1 = 0 then (some (0, q14.2)) else ((f_X4_put 15 q14.2 (Int32.ofNat op)).bind fun (q15 : Mem) => some (1, q15))) → (∀ ν p, RS b t ν k p a → ∃ x ν1 p1, f_X10_sum ν = some (x, ν1) ∧ RS b t ν1 k1 p1 a ∧ ν1 0 12 17 = ν 0 12 17 ∧ rF ν ν1 ∧ (∀ y s, s.length + 2 ≤ 32 → exl (factsQ ν) (y, s) c1 = (y, x :: s)) ∧ prC ν = ((f_X10_sum (upm ν1 0 12 11 (Int32.ofNat (tk b t k1 + 1)))).bind fun (q7 : Int32 × Mem) => some (jnd op x q7.1, q7.2))) → OutE b t m μ k l a true (pcC μ) prC ∨ OutK b t m μ k l a true 3 (pcC μ) prC := by
      intro op kk hop hkk eC eR
      obtain ⟨km, kt⟩ := tl.2 (by omega)
      have hen := en_sign (b := b) (t := t) (s := tk b t k1) (by omega) (by omega)
      obtain ⟨S2, F2⟩ := S1.take km
      have R2 : ∀ ν p, RS b t ν k1 p a → RS b t (upm ν 0 12 11 (Int32.ofNat (tk b t k1 + 1))) (k1 + 1) (tk b t k1 + 1) a := fun ν p R => by
        refine R.mv (by omega) ?_
        rw [← hen.1]
        rfl
      have jb : ∀ x y, ∃ c, jnd op x y = bI c := fun x y => by
        unfold jnd
        rw [if_neg (by omega)]
        split
        · split
          · exact ⟨false, rfl⟩
          · exact ⟨true, rfl⟩
        · rw [if_pos (by omega)]
          split
          · exact ⟨false, rfl⟩
          · exact ⟨true, rfl⟩
      rcases sum_both ha S2 with ⟨kE, μ3, u1, u2, u3, u4, u5⟩ | ⟨k2, c2, μ3, u1, S3, u3, u4, F3, e1, e2, u8⟩
      · left
        refine ⟨kE, μ3, ?_, u2, u3, (F1.trans F2 (by omega)).trans u4 (by omega), fun ν p R => ?_⟩
        · rw [eC, u1, bs_q, if_pos (show (0 : Int32) = 0 from rfl)]
        · obtain ⟨x, ν1, p1, s1, s2, s3, s4, s5, s6⟩ := eR ν p R
          obtain ⟨x2, ν2, w1, -, w2, w3⟩ := u5 _ _ (R2 ν1 p1 s2)
          refine ⟨jnd op x x2, ν2, ?_, fun _ => jb _ _, w2, (s4.trans ((rF.refl ν1).upm _ (by omega))).trans w3⟩
          rw [s6, w1, bs_q]
      · right
        have hlk := S.2.2.2.2
        obtain ⟨μ4, v1, S4, F4, v4⟩ := S3.put (by omega) op
        refine ⟨k2, c1 ++ (c2 ++ [op]), μ4, ?_, ?_, by omega, ?_, ((F1.trans F2 (by omega)).trans F3 (by omega)).trans F4 (by omega), ?_, code_bd d2 (code_bd e2 (bd_1 (by omega))), fun ν p R => ?_⟩
        · rw [eC, u1, bs_q, if_neg (show ¬ (1 : Int32) = 0 by decide), v1, bs_q]
        · rw [List.length_append, List.length_append, ← Nat.add_assoc, ← Nat.add_assoc]
          exact S4
        · rw [List.length_append, List.length_append]
          show c1.length + (c2.length + 1) ≤ k2 - k
          omega
        · refine code_app (μ1 := μ1) (fun g j i q1 q2 => ?_) d1 (code_app (μ1 := μ3) F4 e1 (code_1 v4))
          rw [F4 g j i q1 (by omega), F3 g j i q1 (by omega), F2 g j i q1 (by omega)]
        · obtain ⟨x, ν1, p1, s1, s2, s3, s4, s5, s6⟩ := eR ν p R
          obtain ⟨x2, ν2, p2, w1, -, w2, w3, w4, w5⟩ := u8 _ _ (R2 ν1 p1 s2)
          have fx : rF ν (upm ν1 0 12 11 (Int32.ofNat (tk b t k1 + 1))) := s4.trans ((rF.refl ν1).upm _ (by omega))
          refine ⟨jnd op x x2, ν2, p2, ?_, fun _ => jb _ _, w2, by rw [w3, upm_n3 (by omega), s3], fx.trans w4, fun y s hs => ?_⟩
          · rw [s6, w1, bs_q]
          · have w6 := w5 y (x :: s) (by rw [List.length_cons]; omega)
            rw [fx.facts] at w6
            rw [exl_app, s5 y s (by omega), exl_app, w6, exl_join (by omega) (by omega)]
    have hC : pcC μ = (f_X8_take μ1 6).bind fun (q12 : Int32 × Mem) => (fun (x11 : Int32) => nm (fun (μ13 : Mem) => (f_X5_readSum μ13).bind fun (q14 : Int32 × Mem) => if q14.1 = 0 then (some (0, q14.2)) else ((f_X4_put 15 q14.2 x11).bind fun (q15 : Mem) => some (1, q15))) fun (J185 : Mem → Option (Int32 × Mem)) => if q12.1 = 0 then ((f_X8_take q12.2 7).bind fun (q16 : Int32 × Mem) => if q16.1 = 0 then (some (0, q16.2)) else (J185 q16.2)) else (J185 q12.2)) (if kd b t (tk b t k1) = 6 then 1011 else 1012) := by
      have hkd := kd_le b t (tk b t k1)
      unfold pcC
      rw [r1, bs_q, if_neg (show ¬ (1 : Int32) = 0 by decide), c_kind S1.1 S1.2.1 S1.2.2.1, bs_q, nm_q, i_6, il_eq (by omega) (by decide)]
      split <;> rfl
    rw [show (6 : Int32) = Int32.ofNat 6 from rfl, t6] at hC
    by_cases q6 : kd b t (tk b t k1) = 6
    · refine second 1011 6 (.inl ⟨rfl, rfl⟩) q6 ?_ fun ν p R => ?_
      · rw [hC, if_pos q6, bs_q, if_pos q6]
        simp only [nm_q]
        rw [if_neg (show ¬ (1 : Int32) = 0 by decide)]
        rfl
      · obtain ⟨x, ν1, p1, s1, s2, s3, s4, s5, s6⟩ := prE ν p R
        refine ⟨x, ν1, p1, s1, s2, s3, s4, s5, ?_⟩
        rw [s6, if_pos q6]
        congr 1
        funext q7
        rw [jnd_lt]
        split <;> rfl
    · by_cases q7 : kd b t (tk b t k1) = 7
      · refine second 1012 7 (.inr ⟨rfl, rfl⟩) q7 ?_ fun ν p R => ?_
        · rw [hC, if_neg q6, bs_q, if_neg q6]
          simp only [nm_q]
          rw [if_pos trivial, show (7 : Int32) = Int32.ofNat 7 from rfl, t7, if_pos q7, bs_q, if_neg (show ¬ (1 : Int32) = 0 by decide)]
          rfl
        · obtain ⟨x, ν1, p1, s1, s2, s3, s4, s5, s6⟩ := prE ν p R
          refine ⟨x, ν1, p1, s1, s2, s3, s4, s5, ?_⟩
          rw [s6, if_neg q6, if_pos q7]
          congr 1
          funext q7
          rw [jnd_gt]
          split <;> rfl
      · left
        refine ⟨k1, μ1, ?_, S1.2.1, S1.2.2.1, F1, fun ν p R => ?_⟩
        · rw [hC, if_neg q6, bs_q]
          simp only [nm_q]
          rw [if_pos trivial, show (7 : Int32) = Int32.ofNat 7 from rfl, t7, if_neg q7, bs_q, if_pos (show (0 : Int32) = 0 from rfl)]
        · obtain ⟨x, ν1, p1, s1, s2, s3, s4, s5, s6⟩ := prE ν p R
          have hw := s2.wrong (k' := k1) ha (p' := tk b t k1) tl.1
          refine ⟨0, _, ?_, fun _ => ⟨false, rfl⟩, hw.1, s4.trans hw.2⟩
          rw [s6, if_neg q6, if_neg q7]
