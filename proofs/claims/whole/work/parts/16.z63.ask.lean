/-! ===== ask ===== -/
theorem tape_q {μ : Mem} (R : Rel μ) {t : Nat} {E : Option (Nat × Int32 × Mem)} {F : Mem → Option (Int32 × Mem)} (t3 : μ 0 12 8 = Int32.ofNat t) (td : Bool) (v : Int32) (hE : E = if td = true then some (0, v, upm μ 0 1 1 0) else some (1, 0, upm μ 0 1 1 0)) (rf : ∀ x : Mem, x 0 12 8 = Int32.ofNat t → (∀ i, i < t → x 0 17 i = μ 0 17 i) → ∃ w τ x', F x = some (w, x') ∧ FrS (upm x 0 12 8 0) x' ∧ x' 0 12 0 = τ ∧ x' 0 22 0 = x 0 22 0 ∧ (td = true → w = v ∧ τ = 0) ∧ (¬ td = true → τ = 1)) : AgT [(0, 0), (1, 1)] E F := by
  cases td with
  | true =>
    rw [if_pos rfl] at hE
    obtain ⟨w, τ, x', b1, b2, b3, b4, b5, -⟩ := rf (upm (upm μ 0 1 1 0) 0 22 0 v) (by rw [upm_ne (by omega), upm_ne (by omega), t3]) (fun i hi => by rw [upm_ne (by omega), upm_ne (by omega)])
    obtain ⟨rfl, rfl⟩ := b5 rfl
    refine AgT.ok _ _ (by decide) hE ⟨x', b1, b3, by rw [b4, upm_at], ?_⟩
    exact TP.rel R (((((FrT.refl μ).upm _ (by decide)).upm _ (by decide)).upm _ (by decide)).trans b2.T) (by rw [b2 0 1 1 rfl, upm_ne (by omega), upm_ne (by omega), upm_at]) (by rw [b2 0 12 8 rfl, upm_at])
  | false =>
    rw [if_neg (by decide)] at hE
    refine ⟨1, 1, 0, _, by decide, hE, fun x hx => ?_⟩
    rw [if_neg (by decide)] at hx
    subst hx
    obtain ⟨w, τ, x', b1, b2, b3, b4, -, b5⟩ := rf (upm μ 0 1 1 0) (by rw [upm_ne (by omega), t3]) (fun i hi => by rw [upm_ne (by omega)])
    obtain rfl := b5 (by decide)
    refine ⟨w, _, b1, b3, (fun h => absurd h (by decide)), b4, ?_⟩
    exact TP.rel R ((((FrT.refl μ).upm _ (by decide)).upm _ (by decide)).trans b2.T) (by rw [b2 0 1 1 rfl, upm_ne (by omega), upm_at]) (by rw [b2 0 12 8 rfl, upm_at])
theorem fr_th (x : Mem) (τ : Int32) : FrS (upm x 0 12 8 0) (upm (upm x 0 12 8 0) 0 12 0 τ) := (FrS.refl _).upm τ rfl
theorem mk7_256 (p : Nat → Bool) : mk 7 p < 256 := mk_256 p (by decide)
set_option maxHeartbeats 2000000 in
theorem ask_loop (M N : Mem) {a : Nat} (ha : a < 256) : ∃ v, lp_X9_ask_54 (Int32.ofNat a) M (Int32.ofNat (pc a)) 4096 (-1) (Int32.ofNat (pc a + 1)) 0 = some (0, v, M) ∧ lp_X10_ask_46 N (Int32.ofNat a) 4096 (-1) 2000000000 0 = some (v, N) := by
  have hp := pc_le a
  refine lpJ (fun n (s : Int32 × Int32 × Int32) => lp_X9_ask_54 (Int32.ofNat a) M (Int32.ofNat (pc a)) n s.1 s.2.1 s.2.2) (fun n (s : Int32 × Int32 × Int32) => lp_X10_ask_46 N (Int32.ofNat a) n s.1 s.2.1 s.2.2) (fun o o' => ∃ v, o = some (0, v, M) ∧ o' = some (v, N)) (fun k s s' => s.1 = s'.1 ∧ s.2.2 = Int32.ofNat k ∧ s'.2.2 = Int32.ofNat k ∧ ∃ z z', s.2.1 = Int32.ofNat z ∧ s'.2.1 = Int32.ofNat z' ∧ ((z = pc a + 1 ∧ z' = 2000000000) ∨ (z = z' ∧ z ≤ 8))) 7 ?_ 4096 4096 (-1, Int32.ofNat (pc a + 1), 0) (-1, 2000000000, 0) (by decide) (by decide) ⟨rfl, rfl, rfl, _, _, rfl, rfl, .inl ⟨rfl, rfl⟩⟩
  rintro k ⟨x, y, w⟩ ⟨x', y', w'⟩ hk ⟨e1, e2, e3, z, z', e4, e5, hz⟩ n n'
  simp only at e1 e2 e3 e4 e5
  subst e1 e2 e3 e4 e5
  by_cases h1 : k = 7 ∨ pc a ≤ 1
  · left
    refine ⟨x, ?_, ?_⟩
    · show lp_X9_ask_54 _ _ _ (n + 1) x (Int32.ofNat z) (Int32.ofNat k) = _
      rw [lp_X9_ask_54, i_7, il_le (by decide) (by omega), i_1, il_le (by omega) (by decide)]
      rcases h1 with h1 | h1
      · rw [if_pos (by omega)]
      · rw [if_pos h1]
        split <;> rfl
    · show lp_X10_ask_46 _ _ (n' + 1) x (Int32.ofNat z') (Int32.ofNat k) = _
      rw [lp_X10_ask_46, i_7, il_le (by decide) (by omega), bits_b a ha]
      simp only [bs_q]
      rw [i_1, il_le (by omega) (by decide)]
      rcases h1 with h1 | h1
      · rw [if_pos (by omega)]
      · rw [if_pos h1]
        split <;> rfl
  · right
    have hk7 : k < 7 := by omega
    have hc : 1 < pc a := by omega
    obtain ⟨b, hb⟩ : ∃ b, b = (if a.testBit (6 - k) = true then 1 else 0) := ⟨_, rfl⟩
    have hb1 : b ≤ 1 := by
      rw [hb]
      split <;> omega
    obtain ⟨m, hm⟩ : ∃ m, m = max b (pc a - b) := ⟨_, rfl⟩
    have hm8 : m ≤ 8 := by omega
    have em : jmax (Int32.ofNat b) (Int32.ofNat (pc a) - Int32.ofNat b) = Int32.ofNat m := by
      rw [on_sb (by omega), on_max (by omega) (by omega), hm]
    have stC : lp_X9_ask_54 (Int32.ofNat a) M (Int32.ofNat (pc a)) (n + 1) x (Int32.ofNat z) (Int32.ofNat k) = if z ≤ m then lp_X9_ask_54 (Int32.ofNat a) M (Int32.ofNat (pc a)) n x (Int32.ofNat z) (Int32.ofNat (k + 1)) else lp_X9_ask_54 (Int32.ofNat a) M (Int32.ofNat (pc a)) n (Int32.ofNat k) (Int32.ofNat m) (Int32.ofNat (k + 1)) := by
      have key : ∀ c : Nat, c = b → (if Int32.ofNat z ≤ jmax (Int32.ofNat c) (Int32.ofNat (pc a) - Int32.ofNat c) then lp_X9_ask_54 (Int32.ofNat a) M (Int32.ofNat (pc a)) n x (Int32.ofNat z) (Int32.ofNat k + 1) else lp_X9_ask_54 (Int32.ofNat a) M (Int32.ofNat (pc a)) n (Int32.ofNat k) (jmax (Int32.ofNat c) (Int32.ofNat (pc a) - Int32.ofNat c)) (Int32.ofNat k + 1)) = if z ≤ m then lp_X9_ask_54 (Int32.ofNat a) M (Int32.ofNat (pc a)) n x (Int32.ofNat z) (Int32.ofNat (k + 1)) else lp_X9_ask_54 (Int32.ofNat a) M (Int32.ofNat (pc a)) n (Int32.ofNat k) (Int32.ofNat m) (Int32.ofNat (k + 1)) := fun c hc => by
        rw [hc, em, il_le (by omega) (by omega), i_1, on_a]
      rw [lp_X9_ask_54, i_7, if_neg (by rw [on_le (by decide) (by omega)]; omega), i_1, if_neg (by rw [on_le (by omega) (by decide)]; omega), show (6 : Int32) = Int32.ofNat 6 from rfl, on_sb (by omega), hold_b a ha _ (by omega)]
      simp only [bs_q, nm_q]
      rw [i_0, ite_b0]
      by_cases h2 : a.testBit (6 - k) = true
      · rw [if_pos h2]
        exact key 1 (by rw [hb, if_pos h2])
      · rw [if_neg h2]
        exact key 0 (by rw [hb, if_neg h2])
    have stR : lp_X10_ask_46 N (Int32.ofNat a) (n' + 1) x (Int32.ofNat z') (Int32.ofNat k) = if z' ≤ m then lp_X10_ask_46 N (Int32.ofNat a) n' x (Int32.ofNat z') (Int32.ofNat (k + 1)) else lp_X10_ask_46 N (Int32.ofNat a) n' (Int32.ofNat k) (Int32.ofNat m) (Int32.ofNat (k + 1)) := by
      have key : ∀ c : Nat, c = b → ((f_X10_greater (Int32.ofNat c) (Int32.ofNat (pc a) - Int32.ofNat c)).bind fun (q12 : Int32) => if q12 < Int32.ofNat z' then ((f_X10_greater (Int32.ofNat c) (Int32.ofNat (pc a) - Int32.ofNat c)).bind fun (q14 : Int32) => lp_X10_ask_46 N (Int32.ofNat a) n' (Int32.ofNat k) q14 (Int32.ofNat k + Int32.ofNat 1)) else (lp_X10_ask_46 N (Int32.ofNat a) n' x (Int32.ofNat z') (Int32.ofNat k + Int32.ofNat 1))) = if z' ≤ m then lp_X10_ask_46 N (Int32.ofNat a) n' x (Int32.ofNat z') (Int32.ofNat (k + 1)) else lp_X10_ask_46 N (Int32.ofNat a) n' (Int32.ofNat k) (Int32.ofNat m) (Int32.ofNat (k + 1)) := fun c hc => by
        rw [hc, greater_e, em]
        simp only [bs_q]
        rw [il_lt (by omega) (by omega), on_a]
        by_cases h3 : z' ≤ m
        · rw [if_pos h3, if_neg (by omega)]
        · rw [if_neg h3, if_pos (by omega)]
      have e67 : (13 - k) % 7 = 6 - k := by omega
      rw [lp_X10_ask_46, i_7, if_neg (by rw [on_le (by decide) (by omega)]; omega), bits_b a ha]
      simp only [bs_q]
      rw [i_1, if_neg (by rw [on_le (by omega) (by decide)]; omega), show (13 : Int32) = Int32.ofNat 13 from rfl, on_sb (by omega), on_r (by omega) (by decide), e67, isOf_b a ha _ (by omega)]
      simp only [bs_q, nm_q]
      rw [i_0, ite_b0]
      by_cases h2 : a.testBit (6 - k) = true
      · rw [if_pos h2]
        exact key 1 (by rw [hb, if_pos h2])
      · rw [if_neg h2]
        exact key 0 (by rw [hb, if_neg h2])
    show _ ∧ ∃ t t', _ ∧ lp_X9_ask_54 (Int32.ofNat a) M (Int32.ofNat (pc a)) (n + 1) x (Int32.ofNat z) (Int32.ofNat k) = _ ∧ lp_X10_ask_46 N (Int32.ofNat a) (n' + 1) x (Int32.ofNat z') (Int32.ofNat k) = _
    rw [stC, stR]
    by_cases h4 : z ≤ m
    · rw [if_pos h4, if_pos (show z' ≤ m by omega)]
      exact ⟨hk7, (x, Int32.ofNat z, Int32.ofNat (k + 1)), (x, Int32.ofNat z', Int32.ofNat (k + 1)), ⟨rfl, rfl, rfl, _, _, rfl, rfl, hz⟩, rfl, rfl⟩
    · rw [if_neg h4, if_neg (show ¬ z' ≤ m by omega)]
      exact ⟨hk7, (Int32.ofNat k, Int32.ofNat m, Int32.ofNat (k + 1)), (Int32.ofNat k, Int32.ofNat m, Int32.ofNat (k + 1)), ⟨rfl, rfl, rfl, m, m, rfl, rfl, .inr ⟨rfl, hm8⟩⟩, rfl, rfl⟩
theorem q_ask {μ : Mem} (R : Rel μ) : AgT [(0, 0), (1, 1)] (f_X9_ask μ) (fun μ' => f_X10_ask μ') := by
  obtain ⟨v, t, T⟩ := TAP.TP R.2.1
  have T' := T
  obtain ⟨t1, t2, t3, t4⟩ := T'
  obtain ⟨u, hu, -⟩ := ask_loop (upm μ 0 1 1 0) μ (mk7_256 (f7 v t))
  refine tape_q R (t := t) t3 (tdB v 6 t) u ?_ fun x x8 x17 => ?_
  · unfold f_X9_ask
    rw [show (6 : Int32) = Int32.ofNat 6 from rfl, c_told T (by decide)]
    simp only [bs_q, c_shifts T, nm_q]
    cases htd : tdB v 6 t with
    | true =>
      rw [if_neg (by decide), bc_b _ (mk7_256 _)]
      simp only [bs_q]
      rw [show Int32.ofNat (pc (mk 7 (f7 v t))) + 1 = Int32.ofNat (pc (mk 7 (f7 v t)) + 1) from on_a _ 1, hu]
      rfl
    | false =>
      rfl
  · have h17 : ∀ i, i < t → x 0 17 i = Int32.ofNat (v i) ∧ v i ≤ 255 := fun i hi => by rw [x17 i hi]; exact (t4 i hi).2
    have hh := r_heard (m := 6) t1 x8 h17 (by decide)
    unfold f_X10_ask
    rw [show (7 : Int32) = Int32.ofNat (6 + 1) from rfl, hh]
    simp only [bs_q, nm_q]
    by_cases htd : tdB v 6 t = true
    · have hev : t % 2 = 0 := by
        unfold tdB at htd
        rw [Bool.and_eq_true, decide_eq_true_eq] at htd
        exact htd.1
      rw [if_pos htd, if_neg (by rw [show (-1 : Int32) = -Int32.ofNat 1 from rfl, on_neg1 (by omega)]; exact id), upm_at, if_pos (by decide), r_shifts t1 (v := v) (fun i hi => by rw [upm_ne (by omega), upm_ne (by omega)]; exact h17 i hi) hev]
      simp only [bs_q]
      obtain ⟨u2, hu1, hu2⟩ := ask_loop (upm μ 0 1 1 0) (upm (upm x 0 12 8 0) 0 12 0 0) (mk7_256 (f7 v t))
      rw [hu] at hu1
      cases hu1
      exact ⟨_, 0, _, hu2, fr_th x 0, upm_at _ _ _ _ _, by rw [upm_ne (by omega), upm_ne (by omega)], fun _ => ⟨rfl, rfl⟩, fun h => absurd htd h⟩
    · rw [if_neg htd, if_pos rfl, upm_at, if_neg (by decide)]
      exact ⟨0, 1, _, rfl, fr_th x 1, upm_at _ _ _ _ _, by rw [upm_ne (by omega), upm_ne (by omega)], fun h => absurd h htd, fun _ => rfl⟩
