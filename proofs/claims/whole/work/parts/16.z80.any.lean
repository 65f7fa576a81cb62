/-! ===== all, any: both at once ===== -/
def SpA (b : Nat → Nat) (t m a need : Nat) (C : Mem → Option (Int32 × Mem)) (F : Mem → Option (Int32 × Mem)) : Prop := ∀ μ k l, CS b t m μ k l → OutE b t m μ k l a true (C μ) F ∨ OutK b t m μ k l a true need (C μ) F
set_option maxHeartbeats 4000000 in
theorem first_chain {b : Nat → Nat} {t m a : Nat} (ha : a ≤ 6) {tc op w need : Nat} (gb : Bool → Bool → Bool) (hop : 1010 ≤ op ∧ op < 1015) (htc : 0 < tc ∧ tc < 100) (hw : w < 68 ∧ 43 < w ∧ wcd (cwd w) = tc) (hn1 : 1 ≤ need) (hg : ∀ x y, jnd op (bI x) (bI y) = bI (gb x y))
    {C F : Mem → Option (Int32 × Mem)} {L : Nat → Int32 → Mem → Option (Int32 × Mem)} {R : Nat → Int32 → Mem → Option (Int32 × Mem)}
    (hsub : SpA b t m a need C F)
    (hL : ∀ n j μ, j < 400 → L (n + 1) (Int32.ofNat j) μ = (f_X8_take μ (Int32.ofNat tc)).bind fun (q4 : Int32 × Mem) => if q4.1 = 0 then some (1, q4.2) else (C q4.2).bind fun (q5 : Int32 × Mem) => if q5.1 = 0 then some (0, q5.2) else (f_X4_put 15 q5.2 (Int32.ofNat op)).bind fun (q6 : Mem) => L n (Int32.ofNat (j + 1)) q6)
    (hR1 : ∀ n x ν, ¬ ν 0 12 12 = -1 → R (n + 1) (bI x) ν = some (bI x, ν))
    (hR2 : ∀ n x ν, ν 0 12 12 = -1 → R (n + 1) (bI x) ν = (f_X10_has w ν).bind fun (q4 : Int32 × Mem) => if q4.1 = 0 then some (bI x, q4.2) else (F q4.2).bind fun (q5 : Int32 × Mem) => R n (if q5.1 = 0 then bI (gb x false) else bI (gb x true)) q5.2) :
    SpA b t m a (need + 1) (fun μ => (C μ).bind fun (q1 : Int32 × Mem) => if q1.1 = 0 then (some (0, q1.2)) else L 4096 0 q1.2) (fun ν => (F ν).bind fun (q1 : Int32 × Mem) => R 4096 q1.1 q1.2) := by
  intro μ k l S
  rcases hsub _ _ _ S with ⟨kE, μ3, u1, u2, u3, u4, u5⟩ | ⟨k2, c2, μ3, u1, S3, u3, u4, F3, e1, e2, u8⟩
  · left
    refine ⟨kE, μ3, ?_, u2, u3, u4, fun ν p Q => ?_⟩
    · show (C μ).bind _ = _
      rw [u1, bs_q, if_pos (show (0 : Int32) = 0 from rfl)]
    · obtain ⟨x2, ν2, w1, wb, w2, w3⟩ := u5 _ _ Q
      obtain ⟨y, rfl⟩ := wb rfl
      refine ⟨bI y, ν2, ?_, fun _ => ⟨y, rfl⟩, w2, w3⟩
      show (F ν).bind _ = _
      rw [w1, bs_q]
      exact hR1 4095 y ν2 (fs_ne w2 S.1 u2)
  · have hl2 := S3.len
    have st : ∀ (X : Option (Int32 × Mem)), L 4096 0 μ3 = X → ((C μ).bind fun (q1 : Int32 × Mem) => if q1.1 = 0 then (some (0, q1.2)) else L 4096 0 q1.2) = X := fun X h => by
      rw [u1, bs_q, if_neg (show ¬ (1 : Int32) = 0 by decide)]
      exact h
    rcases chain_both ha gb hop htc hw hn1 hg hsub hL hR1 hR2 (m - k2) μ3 k2 (l + c2.length) 0 4096 (Nat.le_refl _) (by omega) S3 (by omega) with ⟨kE, μ5, r1, r2, r3, r4, r5⟩ | ⟨k', c, μ5, r1, r2, r3, r4, r5, r6, r7, r8⟩
    · left
      refine ⟨kE, μ5, st _ r1, r2, r3, F3.trans r4 (by omega), fun ν p Q => ?_⟩
      obtain ⟨x2, ν2, p2, w1, wb, w2, w3, w4, w5⟩ := u8 _ _ Q
      obtain ⟨y, rfl⟩ := wb rfl
      obtain ⟨y2, ν', s1, s2, s3⟩ := r5 ν2 p2 y 4096 w2 (by omega)
      refine ⟨bI y2, ν', ?_, fun _ => ⟨y2, rfl⟩, s2, w4.trans s3⟩
      show (F ν).bind _ = _
      rw [w1, bs_q]
      exact s1
    · right
      refine ⟨k', c2 ++ c, μ5, st _ r1, ?_, by omega, ?_, F3.trans r5 (by omega), code_app r5 e1 r6, code_bd e2 r7, fun ν p Q => ?_⟩
      · rw [List.length_append, ← Nat.add_assoc]
        exact r2
      · rw [List.length_append]
        omega
      · obtain ⟨x2, ν2, p2, w1, wb, w2, w3, w4, w5⟩ := u8 _ _ Q
        obtain ⟨y, rfl⟩ := wb rfl
        obtain ⟨y2, ν', p', s1, s2, s3, s4, s5⟩ := r8 ν2 p2 y 4096 w2 (by omega)
        refine ⟨bI y2, ν', p', ?_, fun _ => ⟨y2, rfl⟩, s2, by rw [s3, w3], w4.trans s4, fun z s hs => ?_⟩
        · show (F ν).bind _ = _
          rw [w1, bs_q]
          exact s1
        · have s6 := s5 z s (by omega)
          rw [w4.facts] at s6
          rw [exl_app, w5 z s (by omega)]
          exact s6
theorem jnd_and (x y : Bool) : jnd 1013 (bI x) (bI y) = bI (x && y) := by cases x <;> cases y <;> rfl
theorem jnd_or (x y : Bool) : jnd 1014 (bI x) (bI y) = bI (x || y) := by cases x <;> cases y <;> rfl
theorem all_both {b : Nat → Nat} {t m a need : Nat} (ha : a ≤ 6) (hn1 : 1 ≤ need) {A : Mem → Int32 → Option (Int32 × Mem)} {B : Mem → Option (Int32 × Mem)} (hs : SpA b t m a need (fun μ => A μ (Int32.ofNat a)) B) : SpA b t m a (need + 1) (fun μ => f_X5_readAll A μ (Int32.ofNat a)) (f_X10_every B) := by
  refine first_chain ha (tc := 25) (op := 1013) (w := 57) (fun x y => x && y) (by decide) (by decide) (by decide) hn1 jnd_and (L := fun n x μ => lp_X5_readAll_12 A (Int32.ofNat a) n x μ) (R := fun n x ν => lp_X10_every_5 B n x ν) hs (fun n j μ hj => ?_) (fun n x ν h => ?_) (fun n x ν h => ?_)
  · show lp_X5_readAll_12 A (Int32.ofNat a) (n + 1) (Int32.ofNat j) μ = _
    rw [lp_X5_readAll_12, i_400, if_neg (by rw [on_le (by omega) (by omega)]; omega), i_1, on_a]
    rfl
  · show lp_X10_every_5 B (n + 1) (bI x) ν = _
    rw [lp_X10_every_5, if_neg h, bk_b]
  · show lp_X10_every_5 B (n + 1) (bI x) ν = _
    rw [lp_X10_every_5, if_pos h]
    congr 1
    funext q4
    rw [bk_b]
    split
    · rfl
    · congr 1
      funext q5
      cases x
      · rw [if_pos (show bI false = 0 from rfl)]
        split <;> rfl
      · rw [if_neg (show ¬ bI true = 0 by decide)]
        split <;> rfl
theorem any_both {b : Nat → Nat} {t m a need : Nat} (ha : a ≤ 6) (hn1 : 1 ≤ need) {A : Mem → Int32 → Option (Int32 × Mem)} {B : Mem → Option (Int32 × Mem)} (hs : SpA b t m a need (fun μ => A μ (Int32.ofNat a)) B) : SpA b t m a (need + 2) (fun μ => f_X5_readAny A μ (Int32.ofNat a)) (f_X10_some B) := by
  refine first_chain ha (tc := 24) (op := 1014) (w := 58) (fun x y => x || y) (by decide) (by decide) (by decide) (by omega) jnd_or (C := fun μ => f_X5_readAll A μ (Int32.ofNat a)) (F := f_X10_every B) (L := fun n x μ => lp_X5_readAny_12 A (Int32.ofNat a) n x μ) (R := fun n x ν => lp_X10_some_5 B n x ν) (all_both ha hn1 hs) (fun n j μ hj => ?_) (fun n x ν h => ?_) (fun n x ν h => ?_)
  · show lp_X5_readAny_12 A (Int32.ofNat a) (n + 1) (Int32.ofNat j) μ = _
    rw [lp_X5_readAny_12, i_400, if_neg (by rw [on_le (by omega) (by omega)]; omega), i_1, on_a]
    rfl
  · show lp_X10_some_5 B (n + 1) (bI x) ν = _
    rw [lp_X10_some_5, if_neg h, bk_b]
  · show lp_X10_some_5 B (n + 1) (bI x) ν = _
    rw [lp_X10_some_5, if_pos h]
    congr 1
    funext q4
    rw [bk_b]
    split
    · rfl
    · congr 1
      funext q5
      cases x
      · rw [if_pos (show bI false = 0 from rfl)]
        split <;> rfl
      · rw [if_neg (show ¬ bI true = 0 by decide)]
        split <;> rfl
