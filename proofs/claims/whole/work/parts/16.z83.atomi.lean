/-! ===== atoms: not, brackets, the induction ===== -/
theorem aJ_6 (A : Mem → Option (Int32 × Mem)) (x : Int32) (nt : Bool) {M : Mem} (h : M 0 12 13 = Int32.ofNat 6) (h2 : M 0 12 12 = -1) : aJ A x nt M = some (0, upm M 0 12 12 x) := by
  unfold aJ
  rw [if_pos (show M 0 12 13 = 6 from h), rs_wrong h2]
  rfl
theorem aJ_not (A : Mem → Option (Int32 × Mem)) (x : Int32) {M : Mem} {a : Nat} (ha : a < 6) (h : M 0 12 13 = Int32.ofNat a) : aJ A x true M = (A (upm M 0 12 13 (Int32.ofNat (a + 1)))).bind fun (q15 : Int32 × Mem) => if q15.1 = 0 then some (1, upm q15.2 0 12 13 ((q15.2 0 12 13) - 1)) else some (0, upm q15.2 0 12 13 ((q15.2 0 12 13) - 1)) := by
  have b1 : ∀ E : Option (Int32 × Mem), bk 1 E = E := fun E => bk_b (b := true)
  have b0 : ∀ E : Option (Int32 × Mem), bk 0 E = E := fun E => bk_b (b := false)
  unfold aJ
  rw [h, if_neg (show ¬ Int32.ofNat a = 6 by rw [i_6, on_eq (by omega) (by decide)]; omega), i_1, on_a]
  simp only [nm_q]
  rw [if_neg (by decide)]
  congr 1
theorem aJ_br (A : Mem → Option (Int32 × Mem)) (x : Int32) {M : Mem} {a s : Nat} (ha : a < 6) (h : M 0 12 13 = Int32.ofNat a) (hs : M 0 12 11 = Int32.ofNat s) : aJ A x false M = (f_X10_some A (upm (upm M 0 12 13 (Int32.ofNat (a + 1))) 0 12 11 (Int32.ofNat (s + 1)))).bind fun (q10 : Int32 × Mem) => if (q10.2 0 12 12) = (-1) then ((f_X10_isSign q10.2 41).bind fun (q13 : Int32 × Mem) => if q13.1 = 0 then ((f_X10_wrong q13.2 (q13.2 0 12 11)).bind fun (q14 : Mem) => bk q10.1 (some (q10.1, upm (upm q14 0 12 11 ((q14 0 12 11) + 1)) 0 12 13 ((q14 0 12 13) - 1)))) else (bk q10.1 (some (q10.1, upm (upm q13.2 0 12 11 ((q13.2 0 12 11) + 1)) 0 12 13 ((q13.2 0 12 13) - 1))))) else (bk q10.1 (some (q10.1, upm (upm q10.2 0 12 11 ((q10.2 0 12 11) + 1)) 0 12 13 ((q10.2 0 12 13) - 1)))) := by
  have e13 : ∀ (N : Mem) (v : Int32), (upm N 0 12 11 v) 0 12 13 = N 0 12 13 := fun N v => upm_n3 (by omega)
  unfold aJ
  rw [h, if_neg (show ¬ Int32.ofNat a = 6 by rw [i_6, on_eq (by omega) (by decide)]; omega), i_1, on_a]
  simp only [nm_q, e13]
  rw [if_pos trivial, upm_n3 (by omega), hs, on_a]
theorem FS.up {b : Nat → Nat} {t : Nat} {ν : Mem} {k a : Nat} (S : FS b t ν k (a + 1)) (v : Int32) : FS b t (upm (upm ν 0 12 11 ((ν 0 12 11) + 1)) 0 12 13 v) k a := by
  obtain ⟨T, h1, p, hp, h2⟩ := S
  refine ⟨(T.upm _ (by omega)).upm _ (by omega), ?_, p + 1, by omega, ?_⟩
  · rw [upm_n3 (by omega), upm_n3 (by omega), h1]
  · rw [upm_n3 (by omega), upm_at, h2, i_1, on_a]
theorem FS.dn {b : Nat → Nat} {t : Nat} {ν : Mem} {k a : Nat} (S : FS b t ν k (a + 1)) (v : Int32) : FS b t (upm ν 0 12 13 v) k a := by
  obtain ⟨T, h1, p, hp, h2⟩ := S
  refine ⟨T.upm _ (by omega), ?_, p, by omega, ?_⟩
  · rw [upm_n3 (by omega), h1]
  · rw [upm_n3 (by omega), h2]
set_option maxHeartbeats 4000000 in
theorem atom_both {b : Nat → Nat} {t m : Nat} : ∀ d a, a ≤ 6 → 7 ≤ d + a → SpA b t m a (3 + 2 * (6 - a)) (fun μ => f_X5_readAtom d μ (Int32.ofNat a)) (f_X10_atom d) := by
  intro d
  induction d with
  | zero => intro a ha hd; omega
  | succ d ih =>
  intro a ha hd μ k l S
  have hlen := S.len
  have tl := tk_lt S.1 S.2.1
  have hC : f_X5_readAtom (d + 1) μ (Int32.ofNat a) = _ := c_atom S (f_X5_readAtom d) ha
  have hF : ∀ ν, f_X10_atom (d + 1) ν = f_X10_atomS (f_X10_atom d) ν := fun ν => rfl
  show OutE b t m μ k l a true (f_X5_readAtom (d + 1) μ (Int32.ofNat a)) (f_X10_atom (d + 1)) ∨ OutK b t m μ k l a true (3 + 2 * (6 - a)) (f_X5_readAtom (d + 1) μ (Int32.ofNat a)) (f_X10_atom (d + 1))
  rw [hC]
  by_cases h78 : kd b t (tk b t k) = 17 ∨ kd b t (tk b t k) = 18
  · right
    obtain ⟨km, kt⟩ := tl.2 (by omega)
    have hlk := S.2.2.2.2
    rw [if_pos h78, c_put4 (by omega) S.2.2.2.1, bs_q]
    obtain ⟨c, hc⟩ : ∃ c, c = 1000 + kd b t (tk b t k) - 10 := ⟨_, rfl⟩
    rw [← hc]
    have T1 : TOK (upm (upm μ 16 8 l (Int32.ofNat c)) 16 7 2 (Int32.ofNat (l + 1))) b t m := S.1.fr fun j i hj => by rw [upm_ne (by omega), upm_ne (by omega)]
    have e1 : (upm (upm μ 16 8 l (Int32.ofNat c)) 16 7 2 (Int32.ofNat (l + 1))) 0 3 4 = Int32.ofNat k := by rw [upm_ne (by omega), upm_ne (by omega), S.2.2.1]
    rw [c_take T1 S.2.1 e1 (by omega) (by omega), if_pos rfl, bs_q]
    refine ⟨k + 1, [c], upm (upm (upm μ 16 8 l (Int32.ofNat c)) 16 7 2 (Int32.ofNat (l + 1))) 0 3 4 (Int32.ofNat (k + 1)), bk_b (b := true), ⟨T1.fr fun j i hj => by rw [upm_ne (by omega)], km, upm_at _ _ _ _ _, ?_, ?_⟩, by omega, ?_, fun g j i q1 q2 => ?_, code_1 ?_, bd_1 (by omega), fun ν p R => ?_⟩
    · rw [upm_ne (by omega), upm_at]
      rfl
    · show l + 1 ≤ k + 1
      omega
    · show 1 ≤ k + 1 - k
      omega
    · rw [upm_n3 (by omega), upm_n3 (by omega), upm_n3 (by omega)]
    · rw [upm_ne (by omega), upm_ne (by omega), upm_at]
    · obtain ⟨⟨c1, q1⟩, c2, q2⟩ := R.2.2.2.2.2.2
      have hp := r_atomP (f_X10_atom d) R tl.1 (by omega) (by omega)
      rcases h78 with h7 | h8
      · rw [if_pos h7] at hp
        refine ⟨_, _, _, hp, fun _ => ⟨c1, q1⟩, R.adv kt, by rw [upm_n3 (by omega)], (rF.refl ν).upm _ (by omega), fun y s hs => ?_⟩
        rw [exl_push (by omega) (by omega), if_pos (by omega), show c - 1000 = 7 by omega]
        rfl
      · rw [if_neg (by omega), if_pos h8] at hp
        refine ⟨_, _, _, hp, fun _ => ⟨c2, q2⟩, R.adv kt, by rw [upm_n3 (by omega)], (rF.refl ν).upm _ (by omega), fun y s hs => ?_⟩
        rw [exl_push (by omega) (by omega), if_pos (by omega), show c - 1000 = 8 by omega]
        rfl
  rw [if_neg h78]
  by_cases h26 : kd b t (tk b t k) = 26
  · rw [if_pos h26]
    obtain ⟨km, kt⟩ := tl.2 (by omega)
    have hR : ∀ ν p, RS b t ν k p a → f_X10_atom (d + 1) ν = aJ (f_X10_atom d) (Int32.ofNat (tk b t k)) true (upm ν 0 12 11 (Int32.ofNat (en b t (tk b t k)))) := fun ν p R => by rw [hF, r_atom (f_X10_atom d) R tl.1, if_pos h26]
    by_cases h6 : a = 6
    · left
      rw [if_pos h6]
      refine ⟨k, μ, rfl, S.2.1, S.2.2.1, cF.refl l μ, fun ν p R => ?_⟩
      have hw := R.wrong (k' := k) ha (en_b (b := b) kt).2
      refine ⟨0, _, ?_, fun _ => ⟨false, rfl⟩, hw.1, hw.2⟩
      rw [hR ν p R]
      exact aJ_6 _ _ _ (by rw [(R.adv kt).2.2.2.2.2.1, h6]) (R.adv kt).2.2.2.2.1
    · rw [if_neg h6]
      obtain ⟨S2, F2⟩ := S.take km
      have hN : ∀ ν p, RS b t ν k p a → f_X10_atom (d + 1) ν = _ := fun ν p R => (hR ν p R).trans (aJ_not (f_X10_atom d) _ (by omega) (R.adv kt).2.2.2.2.2.1)
      rcases ih (a + 1) (by omega) (by omega) _ _ _ S2 with ⟨kE, μ3, u1, u2, u3, u4, u5⟩ | ⟨k2, c2, μ3, u1, S3, u3, u4, F3, e1, e2, u8⟩
      · left
        refine ⟨kE, μ3, ?_, u2, u3, F2.trans u4 (by omega), fun ν p R => ?_⟩
        · rw [show f_X5_readAtom d (upm μ 0 3 4 (Int32.ofNat (k + 1))) (Int32.ofNat (a + 1)) = _ from u1, bs_q, if_pos (show (0 : Int32) = 0 from rfl)]
        · obtain ⟨x2, ν2, w1, wb, w2, w3⟩ := u5 _ _ ((R.adv kt).deep (a + 1))
          obtain ⟨y, rfl⟩ := wb rfl
          refine ⟨bI (!y), upm ν2 0 12 13 ((ν2 0 12 13) - 1), ?_, fun _ => ⟨_, rfl⟩, w2.dn _, (((((rF.refl ν).upm _ (by omega)).upm _ (by omega)).trans w3)).upm _ (by omega)⟩
          rw [hN ν p R, w1, bs_q]
          cases y <;> rfl
      · right
        obtain ⟨μ4, v1, S4, F4, v4⟩ := S3.put (by have := S.2.2.2.2; omega) 1015
        refine ⟨k2, c2 ++ [1015], μ4, ?_, ?_, by omega, ?_, (F2.trans F3 (by omega)).trans F4 (by omega), code_app F4 e1 (code_1 v4), code_bd e2 (bd_1 (by decide)), fun ν p R => ?_⟩
        · rw [show f_X5_readAtom d (upm μ 0 3 4 (Int32.ofNat (k + 1))) (Int32.ofNat (a + 1)) = _ from u1, bs_q, if_neg (show ¬ (1 : Int32) = 0 by decide), v1, bs_q]
        · rw [List.length_append, ← Nat.add_assoc]
          exact S4
        · rw [List.length_append]
          show c2.length + 1 ≤ k2 - k
          omega
        · obtain ⟨x2, ν2, p2, w1, wb, w2, w3, w4, w5⟩ := u8 _ _ ((R.adv kt).deep (a + 1))
          obtain ⟨y, rfl⟩ := wb rfl
          have fx : rF ν (upm (upm ν 0 12 11 (Int32.ofNat (en b t (tk b t k)))) 0 12 13 (Int32.ofNat (a + 1))) := ((rF.refl ν).upm _ (by omega)).upm _ (by omega)
          have ed : upm ν2 0 12 13 ((ν2 0 12 13) - 1) = upm ν2 0 12 13 (Int32.ofNat a) := by rw [w2.2.2.2.2.2.1, i_1, on_sb (by omega), Nat.add_sub_cancel]
          refine ⟨bI (!y), upm ν2 0 12 13 ((ν2 0 12 13) - 1), p2, ?_, fun _ => ⟨_, rfl⟩, by rw [ed]; exact w2.deep a, by rw [upm_n3 (by omega), w3, upm_n3 (by omega), upm_n3 (by omega)], (fx.trans w4).upm _ (by omega), fun z s hs => ?_⟩
          · rw [hN ν p R, w1, bs_q]
            cases y <;> rfl
          · have w6 := w5 z s (by omega)
            rw [fx.facts] at w6
            rw [exl_app, w6, exl_not (by omega)]
            cases y <;> rfl
  rw [if_neg h26]
  by_cases h4 : kd b t (tk b t k) = 4
  · rw [if_pos h4]
    obtain ⟨km, kt⟩ := tl.2 (by omega)
    have hen := en_sign (b := b) (t := t) (s := tk b t k) (by omega) (by omega)
    have hR : ∀ ν p, RS b t ν k p a → f_X10_atom (d + 1) ν = aJ (f_X10_atom d) (Int32.ofNat (tk b t k)) false (upm ν 0 12 11 (Int32.ofNat (tk b t k))) := fun ν p R => by rw [hF, r_atom (f_X10_atom d) R tl.1, if_neg h26, if_pos h4]
    by_cases h6 : a = 6
    · left
      rw [if_pos h6]
      refine ⟨k, μ, rfl, S.2.1, S.2.2.1, cF.refl l μ, fun ν p R => ?_⟩
      have hw := R.wrong (k' := k) ha (p' := tk b t k) tl.1
      refine ⟨0, _, ?_, fun _ => ⟨false, rfl⟩, hw.1, hw.2⟩
      rw [hR ν p R]
      exact aJ_6 _ _ _ (by rw [R.stay.2.2.2.2.2.1, h6]) R.stay.2.2.2.2.1
    · rw [if_neg h6]
      obtain ⟨S2, F2⟩ := S.take km
      have R2 : ∀ ν p, RS b t ν k p a → RS b t (upm (upm (upm ν 0 12 11 (Int32.ofNat (tk b t k))) 0 12 13 (Int32.ofNat (a + 1))) 0 12 11 (Int32.ofNat (tk b t k + 1))) (k + 1) (tk b t k + 1) (a + 1) := fun ν p R => by
        refine (R.stay.deep (a + 1)).mv (by omega) ?_
        rw [← hen.1]
        rfl
      have hN : ∀ ν p, RS b t ν k p a → f_X10_atom (d + 1) ν = _ := fun ν p R => (hR ν p R).trans (aJ_br (f_X10_atom d) _ (by omega) R.stay.2.2.2.2.2.1 R.stay.2.2.1)
      have F0 : ∀ ν, rF ν (upm (upm (upm ν 0 12 11 (Int32.ofNat (tk b t k))) 0 12 13 (Int32.ofNat (a + 1))) 0 12 11 (Int32.ofNat (tk b t k + 1))) := fun ν => (((rF.refl ν).upm _ (by omega)).upm _ (by omega)).upm _ (by omega)
      rcases any_both (need := 3 + 2 * (6 - (a + 1))) (show a + 1 ≤ 6 by omega) (by omega) (ih (a + 1) (by omega) (by omega)) _ _ _ S2 with ⟨kE, μ3, u1, u2, u3, u4, u5⟩ | ⟨k2, c2, μ3, u1, S3, u3, u4, F3, e1, e2, u8⟩
      · left
        refine ⟨kE, μ3, ?_, u2, u3, F2.trans u4 (by omega), fun ν p R => ?_⟩
        · rw [show f_X5_readAny (f_X5_readAtom d) (upm μ 0 3 4 (Int32.ofNat (k + 1))) (Int32.ofNat (a + 1)) = _ from u1, bs_q, if_pos (show (0 : Int32) = 0 from rfl)]
        · obtain ⟨x2, ν2, w1, wb, w2, w3⟩ := u5 _ _ (R2 ν p R)
          obtain ⟨y, rfl⟩ := wb rfl
          refine ⟨bI y, upm (upm ν2 0 12 11 ((ν2 0 12 11) + 1)) 0 12 13 ((ν2 0 12 13) - 1), ?_, fun _ => ⟨_, rfl⟩, w2.up _, (((F0 ν).trans w3).upm _ (by omega)).upm _ (by omega)⟩
          rw [hN ν p R, w1, bs_q, if_neg (fs_ne w2 S.1 u2), bk_b]
      · have tl2 := tk_lt S3.1 S3.2.1
        have t5 := c_take S3.1 S3.2.1 S3.2.2.1 (a := 5) (by decide) (by decide)
        have hs5 : ∀ ν2 p2, RS b t ν2 k2 p2 (a + 1) → f_X10_isSign ν2 41 = some (bI (decide (kd b t (tk b t k2) = 5)), upm ν2 0 12 11 (Int32.ofNat (tk b t k2))) := fun ν2 p2 Q => by
          have := r_isSign Q.1 Q.2.1 Q.2.2.1 (c := 41) (k := 5) (by omega)
          rwa [Q.2.2.2.1] at this
        by_cases k5 : kd b t (tk b t k2) = 5
        · right
          obtain ⟨km2, kt2⟩ := tl2.2 (by omega)
          have hen2 := en_sign (b := b) (t := t) (s := tk b t k2) (by omega) (by omega)
          obtain ⟨S4, F4⟩ := S3.take km2
          refine ⟨k2 + 1, c2, _, ?_, S4, by omega, by omega, (F2.trans F3 (by omega)).trans F4 (by omega), fun i hi => ?_, e2, fun ν p R => ?_⟩
          · rw [show f_X5_readAny (f_X5_readAtom d) (upm μ 0 3 4 (Int32.ofNat (k + 1))) (Int32.ofNat (a + 1)) = _ from u1, bs_q, if_neg (show ¬ (1 : Int32) = 0 by decide), t5, if_pos k5, bs_q, if_neg (show ¬ (1 : Int32) = 0 by decide)]
          · rw [upm_ne (by omega)]
            exact e1 i hi
          · obtain ⟨x2, ν2, p2, w1, wb, w2, w3, w4, w5⟩ := u8 _ _ (R2 ν p R)
            obtain ⟨y, rfl⟩ := wb rfl
            have Q := (w2.mv (p' := tk b t k2 + 1) (k' := k2 + 1) (by omega) (by rw [← hen2.1]; rfl)).deep a
            refine ⟨bI y, _, _, ?_, fun _ => ⟨y, rfl⟩, Q, by rw [upm_n3 (by omega), upm_n3 (by omega), w3, upm_n3 (by omega), upm_n3 (by omega), upm_n3 (by omega)], (((F0 ν).trans w4).upm _ (by omega)).upm _ (by omega), fun z s hs => ?_⟩
            · rw [hN ν p R, w1, bs_q, if_pos w2.2.2.2.2.1, hs5 ν2 p2 w2, bs_q, if_neg (by rw [decide_eq_true k5]; show ¬ bI true = 0; decide), bk_b]
              show some (bI y, upm (upm (upm ν2 0 12 11 (Int32.ofNat (tk b t k2))) 0 12 11 ((upm ν2 0 12 11 (Int32.ofNat (tk b t k2))) 0 12 11 + 1)) 0 12 13 ((upm ν2 0 12 11 (Int32.ofNat (tk b t k2))) 0 12 13 - 1)) = _
              rw [upm_2, upm_at, upm_n3 (by omega), w2.2.2.2.2.2.1, i_1, on_a, on_sb (by omega), Nat.add_sub_cancel]
            · have w6 := w5 z s (by omega)
              rw [(F0 ν).facts] at w6
              exact w6
        · left
          refine ⟨k2, μ3, ?_, S3.2.1, S3.2.2.1, F2.trans F3 (by omega), fun ν p R => ?_⟩
          · rw [show f_X5_readAny (f_X5_readAtom d) (upm μ 0 3 4 (Int32.ofNat (k + 1))) (Int32.ofNat (a + 1)) = _ from u1, bs_q, if_neg (show ¬ (1 : Int32) = 0 by decide), t5, if_neg k5, bs_q, if_pos (show (0 : Int32) = 0 from rfl)]
          · obtain ⟨x2, ν2, p2, w1, wb, w2, w3, w4, w5⟩ := u8 _ _ (R2 ν p R)
            obtain ⟨y, rfl⟩ := wb rfl
            have hw := w2.wrong (k' := k2) (show a + 1 ≤ 6 by omega) (p' := tk b t k2) tl2.1
            have ww : f_X10_wrong (upm ν2 0 12 11 (Int32.ofNat (tk b t k2))) (Int32.ofNat (tk b t k2)) = some (upm (upm ν2 0 12 11 (Int32.ofNat (tk b t k2))) 0 12 12 (Int32.ofNat (tk b t k2))) := rs_wrong w2.stay.2.2.2.2.1
            obtain ⟨M, hM⟩ : ∃ M, M = upm (upm ν2 0 12 11 (Int32.ofNat (tk b t k2))) 0 12 12 (Int32.ofNat (tk b t k2)) := ⟨_, rfl⟩
            rw [← hM] at hw ww
            refine ⟨bI y, upm (upm M 0 12 11 ((M 0 12 11) + 1)) 0 12 13 ((M 0 12 13) - 1), ?_, fun _ => ⟨y, rfl⟩, hw.1.up _, ((((F0 ν).trans w4).trans hw.2).upm _ (by omega)).upm _ (by omega)⟩
            rw [hN ν p R, w1, bs_q, if_pos w2.2.2.2.2.1, hs5 ν2 p2 w2, bs_q, if_pos (by rw [decide_eq_false k5]; rfl)]
            show ((f_X10_wrong (upm ν2 0 12 11 (Int32.ofNat (tk b t k2))) ((upm ν2 0 12 11 (Int32.ofNat (tk b t k2))) 0 12 11)).bind _) = _
            rw [upm_at, ww, bs_q, bk_b]
  · rw [if_neg h4]
    have hR : ∀ ν p, RS b t ν k p a → f_X10_atom (d + 1) ν = (prC (upm ν 0 12 11 (Int32.ofNat (tk b t k)))).bind fun (q17 : Int32 × Mem) => bk q17.1 (some (q17.1, q17.2)) := fun ν p R => by rw [hF, r_atomP (f_X10_atom d) R tl.1 h26 h4, if_neg (fun h => h78 (.inl h)), if_neg (fun h => h78 (.inr h))]
    rcases cmp_both ha S with ⟨kE, μ3, u1, u2, u3, u4, u5⟩ | ⟨k2, c2, μ3, u1, S3, u3, u4, F3, e1, e2, u8⟩
    · left
      refine ⟨kE, μ3, u1, u2, u3, u4, fun ν p R => ?_⟩
      obtain ⟨x2, ν2, w1, wb, w2, w3⟩ := u5 _ _ R.stay
      obtain ⟨y, rfl⟩ := wb rfl
      refine ⟨bI y, ν2, ?_, fun _ => ⟨y, rfl⟩, w2, ((rF.refl ν).upm _ (by omega)).trans w3⟩
      rw [hR ν p R, w1, bs_q, bk_b]
    · right
      refine ⟨k2, c2, μ3, u1, S3, u3, u4, F3, e1, e2, fun ν p R => ?_⟩
      obtain ⟨x2, ν2, p2, w1, wb, w2, w3, w4, w5⟩ := u8 _ _ R.stay
      obtain ⟨y, rfl⟩ := wb rfl
      have fx : rF ν (upm ν 0 12 11 (Int32.ofNat (tk b t k))) := (rF.refl ν).upm _ (by omega)
      refine ⟨bI y, ν2, p2, ?_, fun _ => ⟨y, rfl⟩, w2, by rw [w3, upm_n3 (by omega)], fx.trans w4, fun z s hs => ?_⟩
      · rw [hR ν p R, w1, bs_q, bk_b]
      · have w6 := w5 z s (by omega)
        rw [fx.facts] at w6
        exact w6
