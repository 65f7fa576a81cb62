/-! ===== chains of and, of or: both at once ===== -/
set_option maxHeartbeats 4000000 in
theorem chain_both {b : Nat → Nat} {t m a : Nat} (ha : a ≤ 6) {tc op w need : Nat} (gb : Bool → Bool → Bool) (hop : 1010 ≤ op ∧ op < 1015) (htc : 0 < tc ∧ tc < 100) (hw : w < 68 ∧ 43 < w ∧ wcd (cwd w) = tc) (hn1 : 1 ≤ need) (hg : ∀ x y, jnd op (bI x) (bI y) = bI (gb x y))
    {C F : Mem → Option (Int32 × Mem)} {L : Nat → Int32 → Mem → Option (Int32 × Mem)} {R : Nat → Int32 → Mem → Option (Int32 × Mem)}
    (hsub : ∀ μ k l, CS b t m μ k l → OutE b t m μ k l a true (C μ) F ∨ OutK b t m μ k l a true need (C μ) F)
    (hL : ∀ n j μ, j < 400 → L (n + 1) (Int32.ofNat j) μ = (f_X8_take μ (Int32.ofNat tc)).bind fun (q4 : Int32 × Mem) => if q4.1 = 0 then some (1, q4.2) else (C q4.2).bind fun (q5 : Int32 × Mem) => if q5.1 = 0 then some (0, q5.2) else (f_X4_put 15 q5.2 (Int32.ofNat op)).bind fun (q6 : Mem) => L n (Int32.ofNat (j + 1)) q6)
    (hR1 : ∀ n x ν, ¬ ν 0 12 12 = -1 → R (n + 1) (bI x) ν = some (bI x, ν))
    (hR2 : ∀ n x ν, ν 0 12 12 = -1 → R (n + 1) (bI x) ν = (f_X10_has w ν).bind fun (q4 : Int32 × Mem) => if q4.1 = 0 then some (bI x, q4.2) else (F q4.2).bind fun (q5 : Int32 × Mem) => R n (if q5.1 = 0 then bI (gb x false) else bI (gb x true)) q5.2) :
    ∀ e μ k l j n, m - k ≤ e → e < n → CS b t m μ k l → j < k →
    (∃ kE μ', L n (Int32.ofNat j) μ = some (0, μ') ∧ kE ≤ m ∧ μ' 0 3 4 = Int32.ofNat kE ∧ cF l μ μ' ∧ ∀ ν p x nr, RS b t ν k p a → e + 1 < nr → ∃ y ν', R nr (bI x) ν = some (bI y, ν') ∧ FS b t ν' kE a ∧ rF ν ν') ∨
    (∃ k' c μ', L n (Int32.ofNat j) μ = some (1, μ') ∧ CS b t m μ' k' (l + c.length) ∧ k ≤ k' ∧ c.length ≤ k' - k ∧ cF l μ μ' ∧ (∀ i, i < c.length → μ' 16 8 (l + i) = Int32.ofNat (c.getD i 0)) ∧ (∀ i, i < c.length → c.getD i 0 < 2000) ∧ ∀ ν p x nr, RS b t ν k p a → e + 1 < nr → ∃ y ν' p', R nr (bI x) ν = some (bI y, ν') ∧ RS b t ν' k' p' a ∧ ν' 0 12 17 = ν 0 12 17 ∧ rF ν ν' ∧ ∀ z s, s.length + 1 + need ≤ 32 → exl (factsQ ν) (z, bI x :: s) c = (z, bI y :: s)) := by
  intro e
  induction e using Nat.strongRecOn with
  | ind e ih =>
  intro μ k l j n he hn S hj
  obtain ⟨n, rfl⟩ : ∃ n', n = n' + 1 := ⟨n - 1, by omega⟩
  have hlen := S.len
  have tl := tk_lt S.1 S.2.1
  have tt := c_take S.1 S.2.1 S.2.2.1 htc.1 htc.2
  rw [hL n j μ (by omega), tt]
  have hh : ∀ ν p, RS b t ν k p a → f_X10_has w ν = some (bI (decide (kd b t (tk b t k) = tc)), upm ν 0 12 11 (Int32.ofNat (if kd b t (tk b t k) = tc then en b t (tk b t k) else tk b t k))) := fun ν p Q => by
    have := r_has Q.1 Q.2.1 Q.2.2.1 hw.1 hw.2.1
    rwa [Q.2.2.2.1, hw.2.2] at this
  by_cases hk : kd b t (tk b t k) = tc
  · rw [if_pos hk, bs_q, if_neg (show ¬ (1 : Int32) = 0 by decide)]
    obtain ⟨km, kt⟩ := tl.2 (by omega)
    obtain ⟨S2, F2⟩ := S.take km
    have hR : ∀ ν p x nr, RS b t ν k p a → R (nr + 1) (bI x) ν = (F (upm ν 0 12 11 (Int32.ofNat (en b t (tk b t k))))).bind fun (q5 : Int32 × Mem) => R nr (if q5.1 = 0 then bI (gb x false) else bI (gb x true)) q5.2 := fun ν p x nr Q => by
      rw [hR2 nr x ν Q.2.2.2.2.1, hh ν p Q, bs_q, if_neg, if_pos hk]
      show ¬ bI (decide (kd b t (tk b t k) = tc)) = 0
      rw [decide_eq_true hk]
      decide
    have gi : ∀ x y : Bool, (if bI y = 0 then bI (gb x false) else bI (gb x true)) = bI (gb x y) := fun x y => by cases y <;> rfl
    rcases hsub _ _ _ S2 with ⟨kE, μ3, u1, u2, u3, u4, u5⟩ | ⟨k2, c2, μ3, u1, S3, u3, u4, F3, e1, e2, u8⟩
    · left
      refine ⟨kE, μ3, ?_, u2, u3, F2.trans u4 (by omega), fun ν p x nr Q hnr => ?_⟩
      · rw [u1, bs_q, if_pos (show (0 : Int32) = 0 from rfl)]
      · obtain ⟨nr, rfl⟩ : ∃ n', nr = n' + 1 + 1 := ⟨nr - 2, by omega⟩
        obtain ⟨x2, ν2, w1, wb, w2, w3⟩ := u5 _ _ (Q.adv kt)
        obtain ⟨y, rfl⟩ := wb rfl
        refine ⟨gb x y, ν2, ?_, w2, ((rF.refl ν).upm _ (by omega)).trans w3⟩
        rw [hR ν p x (nr + 1) Q, w1, bs_q, gi]
        exact hR1 nr _ ν2 (fs_ne w2 S.1 u2)
    · obtain ⟨μ4, v1, S4, F4, v4⟩ := S3.put (by have := S.2.2.2.2; omega) op
      rw [u1, bs_q, if_neg (show ¬ (1 : Int32) = 0 by decide), v1, bs_q]
      have F24 : cF l μ μ4 := (F2.trans F3 (by omega)).trans F4 (by omega)
      rcases ih (e - 1) (by omega) μ4 k2 (l + c2.length + 1) (j + 1) n (by omega) (by omega) S4 (by omega) with ⟨kE, μ5, r1, r2, r3, r4, r5⟩ | ⟨k', c, μ5, r1, r2, r3, r4, r5, r6, r7, r8⟩
      · left
        refine ⟨kE, μ5, r1, r2, r3, F24.trans r4 (by omega), fun ν p x nr Q hnr => ?_⟩
        obtain ⟨nr, rfl⟩ : ∃ n', nr = n' + 1 := ⟨nr - 1, by omega⟩
        obtain ⟨x2, ν2, p2, w1, wb, w2, w3, w4, w5⟩ := u8 _ _ (Q.adv kt)
        obtain ⟨y, rfl⟩ := wb rfl
        obtain ⟨y2, ν', s1, s2, s3⟩ := r5 ν2 p2 (gb x y) nr w2 (by omega)
        refine ⟨y2, ν', ?_, s2, (((rF.refl ν).upm _ (by omega)).trans w4).trans s3⟩
        rw [hR ν p x nr Q, w1, bs_q, gi]
        exact s1
      · right
        refine ⟨k', c2 ++ ([op] ++ c), μ5, r1, ?_, by omega, ?_, F24.trans r5 (by omega), ?_, code_bd e2 (code_bd (bd_1 (by omega)) r7), fun ν p x nr Q hnr => ?_⟩
        · rw [List.length_append, List.length_append, ← Nat.add_assoc, ← Nat.add_assoc]
          exact r2
        · rw [List.length_append, List.length_append]
          show c2.length + (1 + c.length) ≤ k' - k
          omega
        · refine code_app (μ1 := μ3) (F4.trans r5 (by omega)) e1 (code_app (μ1 := μ4) (c := [op]) (fun g j i q1 q2 => ?_) (code_1 v4) r6)
          exact r5 g j i q1 q2
        · obtain ⟨nr, rfl⟩ : ∃ n', nr = n' + 1 := ⟨nr - 1, by omega⟩
          obtain ⟨x2, ν2, p2, w1, wb, w2, w3, w4, w5⟩ := u8 _ _ (Q.adv kt)
          obtain ⟨y, rfl⟩ := wb rfl
          obtain ⟨y2, ν', p', s1, s2, s3, s4, s5⟩ := r8 ν2 p2 (gb x y) nr w2 (by omega)
          have fx : rF ν (upm ν 0 12 11 (Int32.ofNat (en b t (tk b t k)))) := (rF.refl ν).upm _ (by omega)
          refine ⟨y2, ν', p', ?_, s2, by rw [s3, w3, upm_n3 (by omega)], (fx.trans w4).trans s4, fun z s hs => ?_⟩
          · rw [hR ν p x nr Q, w1, bs_q, gi]
            exact s1
          · have w6 := w5 z (bI x :: s) (by rw [List.length_cons]; omega)
            rw [fx.facts] at w6
            have s6 := s5 z s hs
            rw [(fx.trans w4).facts] at s6
            rw [exl_app, w6, exl_app, exl_join hop (by omega), hg]
            exact s6
  · right
    rw [if_neg hk, bs_q, if_pos (show (0 : Int32) = 0 from rfl)]
    refine ⟨k, [], μ, rfl, S, Nat.le_refl k, Nat.zero_le _, cF.refl l μ, (fun i hi => by cases hi), (fun i hi => by cases hi), fun ν p x nr Q hnr => ?_⟩
    obtain ⟨nr, rfl⟩ : ∃ n', nr = n' + 1 := ⟨nr - 1, by omega⟩
    refine ⟨x, _, _, ?_, Q.stay, by rw [upm_n3 (by omega)], (rF.refl ν).upm _ (by omega), fun z s hs => rfl⟩
    rw [hR2 nr x ν Q.2.2.2.2.1, hh ν p Q, bs_q, if_pos, if_neg hk]
    show bI (decide (kd b t (tk b t k) = tc)) = 0
    rw [decide_eq_false hk]
    rfl
