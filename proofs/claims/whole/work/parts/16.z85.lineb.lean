/-! ===== a line of the law, both at once: the rest of it ===== -/
def gn (plus : Bool) (N : Nat) (v : Int32) : Int32 := if v = 0 then 0 else if plus = true then Int32.ofNat N else 0 - Int32.ofNat N
def bs (plus : Bool) : Nat := if plus = true then 1100 else 1200
theorem exl_fin {f : Row} {y v : Int32} {plus : Bool} {N : Nat} (hN : N ≤ 30) : exl f (y, [v]) [bs plus + N] = (y + gn plus N v, []) := by
  show stp f (y, [v]) (bs plus + N) = _
  cases plus with
  | true =>
    have h : stp f (y, [v]) (1100 + N) = (y + (if v = 0 then 0 else Int32.ofNat N), []) := by
      unfold stp
      rw [if_neg (show ¬ 1100 + N < 1010 by omega), if_neg (show ¬ 1100 + N = 1015 by omega), if_neg (show ¬ 1100 + N < 1100 by omega), if_pos (show 1100 + N < 1200 by omega), show 1100 + N - 1100 = N by omega]
      rfl
    exact h
  | false =>
    have h : stp f (y, [v]) (1200 + N) = (y - (if v = 0 then 0 else Int32.ofNat N), []) := by
      unfold stp
      rw [if_neg (show ¬ 1200 + N < 1010 by omega), if_neg (show ¬ 1200 + N = 1015 by omega), if_neg (show ¬ 1200 + N < 1100 by omega), if_neg (show ¬ 1200 + N < 1200 by omega), show 1200 + N - 1200 = N by omega]
      rfl
    refine Eq.trans h ?_
    unfold gn
    by_cases h0 : v = 0
    · rw [if_pos h0, if_pos h0, Int32.sub_zero, Int32.add_zero]
    · rw [if_neg h0, if_neg h0, if_neg (show ¬ false = true by decide), Int32.sub_eq_add_neg, Int32.zero_sub]
/-- the reference's end of a line -/
def lE (q1 v : Int32) (x5 : Int32) (μ6 : Mem) : Option Mem := if (μ6 0 12 12) = (-1) then (if x5 = 0 then (some μ6) else (nm (fun (x7 : Int32) => nm (upm μ6 0 12 17 ((μ6 0 12 17) + x7)) fun (μ8 : Mem) => some μ8) fun (J95 : Int32 → Option (Mem)) => if q1 = 0 then (J95 (0 - v)) else (J95 v))) else (some μ6)
theorem lE_f {q1 v x5 : Int32} {M : Mem} (h : ¬ M 0 12 12 = -1) : lE q1 v x5 M = some M := if_neg h
theorem lE_0 {q1 v : Int32} {M : Mem} (h : M 0 12 12 = -1) : lE q1 v 0 M = some M := by
  unfold lE
  rw [if_pos h, if_pos rfl]
theorem lE_1 {plus : Bool} {v : Int32} {M : Mem} (h : M 0 12 12 = -1) : lE (bI plus) v 1 M = some (upm M 0 12 17 (M 0 12 17 + (if plus = true then v else 0 - v))) := by
  unfold lE
  rw [if_pos h, if_neg (by decide), nm_q]
  cases plus <;> rfl
theorem lJ_e (q1 : Int32) (M : Mem) : lJ q1 M = (f_X10_figures M 0 30).bind fun (q3 : Int32 × Mem) => if (q3.2 0 12 12) = (-1) then ((f_X10_has 46 q3.2).bind fun (q4 : Int32 × Mem) => if q4.1 = 0 then lE q1 q3.1 1 q4.2 else ((f_X10_some (f_X10_atom 10) q4.2).bind fun (q10 : Int32 × Mem) => if q10.1 = 0 then lE q1 q3.1 0 q10.2 else lE q1 q3.1 1 q10.2)) else (some q3.2) := rfl
theorem RS.turns {b : Nat → Nat} {t : Nat} {ν : Mem} {k p a : Nat} (S : RS b t ν k p a) (v : Int32) : RS b t (upm ν 0 12 17 v) k p a := by
  obtain ⟨T, hp, e, hs, ef, ed, q1, q2⟩ := S
  refine ⟨T.upm _ (by omega), hp, ?_, hs, ?_, ?_, ?_, ?_⟩
  · rw [upm_n3 (by omega), e]
  · rw [upm_n3 (by omega), ef]
  · rw [upm_n3 (by omega), ed]
  · rw [upm_n3 (by omega)]
    exact q1
  · rw [upm_n3 (by omega)]
    exact q2
def OutL (b : Nat → Nat) (t m : Nat) (μ : Mem) (k l sl : Nat) (C : Option (Int32 × Mem)) (F : Mem → Option Mem) : Prop :=
  (∃ kE μ', C = some (0, μ') ∧ kE ≤ m ∧ μ' 0 3 4 = Int32.ofNat kE ∧ cF l μ μ' ∧ ∀ ν p, RS b t ν k p 0 → ∃ ν', F ν = some ν' ∧ FS b t ν' kE 0 ∧ rF ν ν') ∨
  (∃ k' c μ', C = some (1, μ') ∧ CS b t m μ' k' (l + c.length) ∧ k < k' ∧ c.length ≤ k' - k + sl ∧ cF l μ μ' ∧ (∀ i, i < c.length → μ' 16 8 (l + i) = Int32.ofNat (c.getD i 0)) ∧ (∀ i, i < c.length → c.getD i 0 < 2000) ∧ ∀ ν p, RS b t ν k p 0 → ∃ ν' p' g, F ν = some ν' ∧ RS b t ν' k' p' 0 ∧ ν' 0 12 17 = ν 0 12 17 + g ∧ rF ν ν' ∧ ∀ y, exl (factsQ ν) (y, []) c = (y + g, []))
set_option maxHeartbeats 4000000 in
theorem tail_both {b : Nat → Nat} {t m : Nat} (plus : Bool) {μ : Mem} {k l : Nat} (S : CS b t m μ k l) (hl : l < k) : OutL b t m μ k l 1 (clJ (Int32.ofNat (bs plus)) μ) (lJ (bI plus)) := by
  have hlen := S.len
  have tl := tk_lt S.1 S.2.1
  have tn := c_takeNumber S.1 S.2.1 S.2.2.1 (u := 30) (by decide)
  have hbs : bs plus = 1100 ∨ bs plus = 1200 := by
    unfold bs
    cases plus
    · exact .inr rfl
    · exact .inl rfl
  by_cases hN : kd b t (tk b t k) = 2 ∧ nbv b t (tk b t k) ≤ 30
  · obtain ⟨N, hNe⟩ : ∃ N, N = nbv b t (tk b t k) := ⟨_, rfl⟩
    rw [if_pos hN, ← hNe] at tn
    have hN30 : N ≤ 30 := by rw [hNe]; exact hN.2
    obtain ⟨km, kt⟩ := tl.2 (by omega)
    obtain ⟨μ1, hμ1⟩ : ∃ μ1, μ1 = upm (upm μ 0 3 5 (Int32.ofNat N)) 0 3 4 (Int32.ofNat (k + 1)) := ⟨_, rfl⟩
    rw [← hμ1] at tn
    have S1 : CS b t m μ1 (k + 1) l := by
      rw [hμ1]
      refine ⟨S.1.fr fun j i hj => by rw [upm_ne (by omega), upm_ne (by omega)], km, upm_at _ _ _ _ _, ?_, by omega⟩
      rw [upm_ne (by omega), upm_ne (by omega), S.2.2.2.1]
    have F1 : cF l μ μ1 := fun g j i q1 q2 => by rw [hμ1, upm_n3 (by omega), upm_n3 (by omega)]
    have e35 : μ1 0 3 5 = Int32.ofNat N := by rw [hμ1, upm_n3 (by omega), upm_at]
    have t23 := c_take S1.1 S1.2.1 S1.2.2.1 (a := 23) (by decide) (by decide)
    have hC : clJ (Int32.ofNat (bs plus)) μ = (f_X8_take μ1 23).bind fun (q6 : Int32 × Mem) => if q6.1 = 0 then ((f_X4_put 15 q6.2 1).bind fun (q9 : Mem) => (f_X4_put 15 q9 (Int32.ofNat (bs plus + N))).bind fun (q8 : Mem) => some (1, q8)) else ((f_X5_readAny (f_X5_readAtom 10) q6.2 0).bind fun (q10 : Int32 × Mem) => if q10.1 = 0 then (some (0, q10.2)) else ((f_X4_put 15 q10.2 (Int32.ofNat (bs plus + N))).bind fun (q8 : Mem) => some (1, q8))) := by
      unfold clJ
      rw [i_30, tn, bs_q, if_neg (show ¬ (1 : Int32) = 0 by decide)]
      show (f_X8_take μ1 23).bind (fun (q6 : Int32 × Mem) => nm (fun (μ7 : Mem) => (f_X4_put 15 μ7 (Int32.ofNat (bs plus) + (μ1 0 3 5))).bind fun (q8 : Mem) => some (1, q8)) fun (J105 : Mem → Option (Int32 × Mem)) => if q6.1 = 0 then ((f_X4_put 15 q6.2 1).bind fun (q9 : Mem) => J105 q9) else ((f_X5_readAny (f_X5_readAtom 10) q6.2 0).bind fun (q10 : Int32 × Mem) => if q10.1 = 0 then (some (0, q10.2)) else (J105 q10.2))) = _
      rw [e35, on_a]
      rfl
    have hR : ∀ ν p, RS b t ν k p 0 → lJ (bI plus) ν = if kd b t (tk b t (k + 1)) = 23 then ((f_X10_some (f_X10_atom 10) (upm ν 0 12 11 (Int32.ofNat (en b t (tk b t (k + 1)))))).bind fun (q10 : Int32 × Mem) => if q10.1 = 0 then lE (bI plus) (Int32.ofNat N) 0 q10.2 else lE (bI plus) (Int32.ofNat N) 1 q10.2) else lE (bI plus) (Int32.ofNat N) 1 (upm ν 0 12 11 (Int32.ofNat (tk b t (k + 1)))) := fun ν p R => by
      have hf := (r_figures R.1 R.2.1 R.2.2.1 R.2.2.2.2.1 (u := 30) (by decide)).1
      rw [R.2.2.2.1] at hf
      have R1 := R.adv kt
      have hh := r_has R1.1 R1.2.1 R1.2.2.1 (a := 46) (by decide) (by decide)
      rw [R1.2.2.2.1, upm_2, show wcd (cwd 46) = 23 from rfl] at hh
      rw [lJ_e, i_30, hf hN, bs_q, if_pos R1.2.2.2.2.1]
      show (f_X10_has 46 (upm ν 0 12 11 (Int32.ofNat (en b t (tk b t k))))).bind _ = _
      rw [hh, bs_q]
      show (if bI (decide (kd b t (tk b t (k + 1)) = 23)) = 0 then _ else _) = _
      rw [ite_z, ← hNe]
      by_cases h : kd b t (tk b t (k + 1)) = 23
      · rw [if_pos (decide_eq_true h), if_pos h, if_pos h]
      · rw [if_neg (by rw [decide_eq_false h]; decide), if_neg h, if_neg h]
    rw [show (23 : Int32) = Int32.ofNat 23 from rfl, t23] at hC
    by_cases hi : kd b t (tk b t (k + 1)) = 23
    · have tl1 := tk_lt S1.1 S1.2.1
      obtain ⟨km1, kt1⟩ := tl1.2 (by omega)
      obtain ⟨S2, F2⟩ := S1.take km1
      rw [if_pos hi, bs_q, if_neg (show ¬ (1 : Int32) = 0 by decide)] at hC
      have R2 : ∀ ν p, RS b t ν k p 0 → RS b t (upm ν 0 12 11 (Int32.ofNat (en b t (tk b t (k + 1))))) (k + 1 + 1) (en b t (tk b t (k + 1))) 0 := fun ν p R => R.mv (en_b kt1).2 rfl
      rcases any_both (need := 3 + 2 * (6 - 0)) (show 0 ≤ 6 by omega) (by omega) (atom_both 10 0 (by omega) (by omega)) _ _ _ S2 with ⟨kE, μ3, u1, u2, u3, u4, u5⟩ | ⟨k2, c2, μ3, u1, S3, u3, u4, F3, e1, e2, u8⟩
      · left
        refine ⟨kE, μ3, ?_, u2, u3, (F1.trans F2 (by omega)).trans u4 (by omega), fun ν p R => ?_⟩
        · rw [hC, show f_X5_readAny (f_X5_readAtom 10) (upm μ1 0 3 4 (Int32.ofNat (k + 1 + 1))) 0 = _ from u1, bs_q, if_pos (show (0 : Int32) = 0 from rfl)]
        · obtain ⟨x2, ν2, w1, wb, w2, w3⟩ := u5 _ _ (R2 ν p R)
          refine ⟨ν2, ?_, w2, ((rF.refl ν).upm _ (by omega)).trans w3⟩
          have hne := fs_ne w2 S.1 u2
          rw [hR ν p R, if_pos hi, w1, bs_q]
          show (if x2 = 0 then lE (bI plus) (Int32.ofNat N) 0 ν2 else lE (bI plus) (Int32.ofNat N) 1 ν2) = _
          rw [lE_f hne, lE_f hne]
          split <;> rfl
      · right
        obtain ⟨μ4, v1, S4, F4, v4⟩ := S3.put (by omega) (bs plus + N)
        refine ⟨k2, c2 ++ [bs plus + N], μ4, ?_, ?_, by omega, ?_, ((F1.trans F2 (by omega)).trans F3 (by omega)).trans F4 (by omega), code_app F4 e1 (code_1 v4), code_bd e2 (bd_1 (by omega)), fun ν p R => ?_⟩
        · rw [hC, show f_X5_readAny (f_X5_readAtom 10) (upm μ1 0 3 4 (Int32.ofNat (k + 1 + 1))) 0 = _ from u1, bs_q, if_neg (show ¬ (1 : Int32) = 0 by decide), v1, bs_q]
        · rw [List.length_append, ← Nat.add_assoc]
          exact S4
        · rw [List.length_append]
          show c2.length + 1 ≤ k2 - k + 1
          omega
        · obtain ⟨x2, ν2, p2, w1, wb, w2, w3, w4, w5⟩ := u8 _ _ (R2 ν p R)
          obtain ⟨y, rfl⟩ := wb rfl
          have fx : rF ν (upm ν 0 12 11 (Int32.ofNat (en b t (tk b t (k + 1))))) := (rF.refl ν).upm _ (by omega)
          have e17 : ν2 0 12 17 = ν 0 12 17 := by rw [w3, upm_n3 (by omega)]
          have he : ∀ z, exl (factsQ ν) (z, []) (c2 ++ [bs plus + N]) = (z + gn plus N (bI y), []) := fun z => by
            have w6 := w5 z [] (by show 0 + (3 + 2 * (6 - 0) + 2) ≤ 32; omega)
            rw [fx.facts] at w6
            rw [exl_app, w6, exl_fin hN30]
          cases y with
          | false =>
            refine ⟨ν2, p2, gn plus N (bI false), ?_, w2, ?_, fx.trans w4, he⟩
            · rw [hR ν p R, if_pos hi, w1, bs_q, if_pos (show bI false = 0 from rfl)]
              exact lE_0 w2.2.2.2.2.1
            · rw [e17]
              exact (Int32.add_zero _).symm
          | true =>
            refine ⟨upm ν2 0 12 17 (ν2 0 12 17 + (if plus = true then Int32.ofNat N else 0 - Int32.ofNat N)), p2, gn plus N (bI true), ?_, w2.turns _, ?_, (fx.trans w4).upm _ (by omega), he⟩
            · rw [hR ν p R, if_pos hi, w1, bs_q, if_neg (show ¬ bI true = 0 by decide)]
              exact lE_1 w2.2.2.2.2.1
            · rw [upm_at, e17]
              unfold gn
              rw [if_neg (show ¬ bI true = 0 by decide)]
    · right
      rw [if_neg hi, bs_q, if_pos (show (0 : Int32) = 0 from rfl)] at hC
      obtain ⟨μ2, v1, S2, F2, v4⟩ := S1.put (by omega) 1
      obtain ⟨μ3, x1, S3, F3, x4⟩ := S2.put (by omega) (bs plus + N)
      refine ⟨k + 1, [1] ++ [bs plus + N], μ3, ?_, ?_, by omega, ?_, (F1.trans F2 (by omega)).trans F3 (by omega), code_app (c := [1]) F3 (code_1 v4) (code_1 x4), code_bd (bd_1 (by decide)) (bd_1 (by omega)), fun ν p R => ?_⟩
      · rw [hC, show (f_X4_put 15 μ1 1) = _ from v1, bs_q, x1, bs_q]
      · exact S3
      · show 2 ≤ k + 1 - k + 1
        omega
      · have R1 := (R.adv kt).stay
        rw [upm_2] at R1
        have e17 : (upm ν 0 12 11 (Int32.ofNat (tk b t (k + 1)))) 0 12 17 = ν 0 12 17 := upm_n3 (by omega)
        refine ⟨upm (upm ν 0 12 11 (Int32.ofNat (tk b t (k + 1)))) 0 12 17 ((upm ν 0 12 11 (Int32.ofNat (tk b t (k + 1)))) 0 12 17 + (if plus = true then Int32.ofNat N else 0 - Int32.ofNat N)), tk b t (k + 1), gn plus N (Int32.ofNat 1), ?_, R1.turns _, ?_, ((rF.refl ν).upm _ (by omega)).upm _ (by omega), fun y => ?_⟩
        · rw [hR ν p R, if_neg hi]
          exact lE_1 R1.2.2.2.2.1
        · rw [upm_at, e17]
          unfold gn
          rw [if_neg (show ¬ Int32.ofNat 1 = 0 by decide)]
        · rw [exl_app, show exl (factsQ ν) (y, []) [1] = (y, [Int32.ofNat 1]) from rfl, exl_fin hN30]
  · left
    rw [if_neg hN] at tn
    refine ⟨k, μ, ?_, S.2.1, S.2.2.1, cF.refl l μ, fun ν p R => ?_⟩
    · unfold clJ
      rw [i_30, tn, bs_q, if_pos (show (0 : Int32) = 0 from rfl)]
    · have hf := (r_figures R.1 R.2.1 R.2.2.1 R.2.2.2.2.1 (u := 30) (by decide)).2
      rw [R.2.2.2.1] at hf
      obtain ⟨x, p', h1, h2⟩ := hf hN
      have hw := R.wrong (k' := k) (by omega) h1
      refine ⟨_, ?_, hw.1, hw.2⟩
      rw [lJ_e, i_30, h2, bs_q]
      exact if_neg (fs_ne hw.1 S.1 S.2.1)
theorem line_both {b : Nat → Nat} {t m : Nat} {μ : Mem} {k l : Nat} (S : CS b t m μ k l) : OutL b t m μ k l 0 (f_X5_readLine μ) f_X10_lawLine := by
  have hlen := S.len
  have tl := tk_lt S.1 S.2.1
  have go : ∀ plus : Bool, kd b t (tk b t k) ≠ 0 → f_X5_readLine μ = clJ (Int32.ofNat (bs plus)) (upm μ 0 3 4 (Int32.ofNat (k + 1))) → (∀ ν p, RS b t ν k p 0 → f_X10_lawLine ν = lJ (bI plus) (upm ν 0 12 11 (Int32.ofNat (en b t (tk b t k))))) → OutL b t m μ k l 0 (f_X5_readLine μ) f_X10_lawLine := by
    intro plus h0 hC hR
    obtain ⟨km, kt⟩ := tl.2 h0
    obtain ⟨S1, F1⟩ := S.take km
    have hlk := S.2.2.2.2
    rcases tail_both plus S1 (by omega) with ⟨kE, μ', r1, r2, r3, r4, r5⟩ | ⟨k', c, μ', r1, r2, r3, r4, r5, r6, r7, r8⟩
    · left
      refine ⟨kE, μ', hC.trans r1, r2, r3, F1.trans r4 (by omega), fun ν p R => ?_⟩
      obtain ⟨ν', s1, s2, s3⟩ := r5 _ _ (R.adv kt)
      exact ⟨ν', (hR ν p R).trans s1, s2, ((rF.refl ν).upm _ (by omega)).trans s3⟩
    · right
      refine ⟨k', c, μ', hC.trans r1, r2, by omega, by omega, F1.trans r5 (by omega), r6, r7, fun ν p R => ?_⟩
      obtain ⟨ν', p', g, s1, s2, s3, s4, s5⟩ := r8 _ _ (R.adv kt)
      have fx : rF ν (upm ν 0 12 11 (Int32.ofNat (en b t (tk b t k)))) := (rF.refl ν).upm _ (by omega)
      rw [fx.facts] at s5
      exact ⟨ν', p', g, (hR ν p R).trans s1, s2, by rw [s3, upm_n3 (by omega)], fx.trans s4, s5⟩
  by_cases h21 : kd b t (tk b t k) = 21
  · exact go true (by omega) (by rw [c_line S, if_pos h21]; rfl) fun ν p R => by rw [r_line R, if_pos h21]; rfl
  · by_cases h22 : kd b t (tk b t k) = 22
    · exact go false (by omega) (by rw [c_line S, if_neg h21, if_pos h22]; rfl) fun ν p R => by rw [r_line R, if_neg h21, if_pos h22]; rfl
    · left
      refine ⟨k, μ, by rw [c_line S, if_neg h21, if_neg h22], S.2.1, S.2.2.1, cF.refl l μ, fun ν p R => ?_⟩
      have hw := R.wrong (k' := k) (by omega) (p' := tk b t k) tl.1
      exact ⟨_, by rw [r_line R, if_neg h21, if_neg h22], hw.1, hw.2⟩
