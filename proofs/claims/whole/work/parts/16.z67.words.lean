/-! ===== texts: the class's words ===== -/
theorem ite_z {τ : Type} {b : Bool} {X Y : τ} : (if bI b = (0 : Int32) then X else Y) = (if b = true then Y else X) := by cases b <;> rfl
theorem run_all (P : Nat → Bool) (b : Nat → Nat) : ∀ e i k, i ≤ k → k < run P b e i → P (b k) = true := by
  intro e
  induction e with
  | zero =>
    intro i k h1 h2
    have : k < i := h2
    omega
  | succ e ih =>
    intro i k h1 h2
    have h3 : k < if P (b i) = true then run P b e (i + 1) else i := h2
    by_cases h : P (b i) = true
    · rw [if_pos h] at h3
      by_cases h4 : k = i
      · rw [h4]
        exact h
      · exact ih (i + 1) k (by omega) h3
    · rw [if_neg h] at h3
      omega
theorem wk_e (b : Nat → Nat) (s e : Nat) : wk b s e 24 0 = (if isw b s e 0 = true then wcd 0 else (if isw b s e 1 = true then wcd 1 else (if isw b s e 2 = true then wcd 2 else (if isw b s e 3 = true then wcd 3 else (if isw b s e 4 = true then wcd 4 else (if isw b s e 5 = true then wcd 5 else (if isw b s e 6 = true then wcd 6 else (if isw b s e 7 = true then wcd 7 else (if isw b s e 8 = true then wcd 8 else (if isw b s e 9 = true then wcd 9 else (if isw b s e 10 = true then wcd 10 else (if isw b s e 11 = true then wcd 11 else (if isw b s e 12 = true then wcd 12 else (if isw b s e 13 = true then wcd 13 else (if isw b s e 14 = true then wcd 14 else (if isw b s e 15 = true then wcd 15 else (if isw b s e 16 = true then wcd 16 else (if isw b s e 17 = true then wcd 17 else (if isw b s e 18 = true then wcd 18 else (if isw b s e 19 = true then wcd 19 else (if isw b s e 20 = true then wcd 20 else (if isw b s e 21 = true then wcd 21 else (if isw b s e 22 = true then wcd 22 else (if isw b s e 23 = true then wcd 23 else 1)))))))))))))))))))))))) := rfl
theorem c_wordOf {μ : Mem} {b : Nat → Nat} {t : Nat} (T : CT μ b t) {s e : Nat} (hse : s ≤ e) (he : e ≤ t) : f_X8_wordOf μ (Int32.ofNat s) (Int32.ofNat e) = some (Int32.ofNat (wk b s e 24 0)) := by
  have h : ∀ a, a < 24 → f_X8_isWord a μ (Int32.ofNat s) (Int32.ofNat e) = some (bI (isw b s e a)) := fun a ha => c_isWord T ha hse he
  rw [wk_e]
  unfold f_X8_wordOf
  rw [h 0 (by decide), bs_q, ite_z]
  by_cases g0 : isw b s e 0 = true
  · rw [if_pos g0, if_pos g0]
    rfl
  rw [if_neg g0, if_neg g0]
  rw [h 1 (by decide), bs_q, ite_z]
  by_cases g1 : isw b s e 1 = true
  · rw [if_pos g1, if_pos g1]
    rfl
  rw [if_neg g1, if_neg g1]
  rw [h 2 (by decide), bs_q, ite_z]
  by_cases g2 : isw b s e 2 = true
  · rw [if_pos g2, if_pos g2]
    rfl
  rw [if_neg g2, if_neg g2]
  rw [h 3 (by decide), bs_q, ite_z]
  by_cases g3 : isw b s e 3 = true
  · rw [if_pos g3, if_pos g3]
    rfl
  rw [if_neg g3, if_neg g3]
  rw [h 4 (by decide), bs_q, ite_z]
  by_cases g4 : isw b s e 4 = true
  · rw [if_pos g4, if_pos g4]
    rfl
  rw [if_neg g4, if_neg g4]
  rw [h 5 (by decide), bs_q, ite_z]
  by_cases g5 : isw b s e 5 = true
  · rw [if_pos g5, if_pos g5]
    rfl
  rw [if_neg g5, if_neg g5]
  rw [h 6 (by decide), bs_q, ite_z]
  by_cases g6 : isw b s e 6 = true
  · rw [if_pos g6, if_pos g6]
    rfl
  rw [if_neg g6, if_neg g6]
  rw [h 7 (by decide), bs_q, ite_z]
  by_cases g7 : isw b s e 7 = true
  · rw [if_pos g7, if_pos g7]
    rfl
  rw [if_neg g7, if_neg g7]
  rw [h 8 (by decide), bs_q, ite_z]
  by_cases g8 : isw b s e 8 = true
  · rw [if_pos g8, if_pos g8]
    rfl
  rw [if_neg g8, if_neg g8]
  rw [h 9 (by decide), bs_q, ite_z]
  by_cases g9 : isw b s e 9 = true
  · rw [if_pos g9, if_pos g9]
    rfl
  rw [if_neg g9, if_neg g9]
  rw [h 10 (by decide), bs_q, ite_z]
  by_cases g10 : isw b s e 10 = true
  · rw [if_pos g10, if_pos g10]
    rfl
  rw [if_neg g10, if_neg g10]
  rw [h 11 (by decide), bs_q, ite_z]
  by_cases g11 : isw b s e 11 = true
  · rw [if_pos g11, if_pos g11]
    rfl
  rw [if_neg g11, if_neg g11]
  rw [h 12 (by decide), bs_q, ite_z]
  by_cases g12 : isw b s e 12 = true
  · rw [if_pos g12, if_pos g12]
    rfl
  rw [if_neg g12, if_neg g12]
  rw [h 13 (by decide), bs_q, ite_z]
  by_cases g13 : isw b s e 13 = true
  · rw [if_pos g13, if_pos g13]
    rfl
  rw [if_neg g13, if_neg g13]
  rw [h 14 (by decide), bs_q, ite_z]
  by_cases g14 : isw b s e 14 = true
  · rw [if_pos g14, if_pos g14]
    rfl
  rw [if_neg g14, if_neg g14]
  rw [h 15 (by decide), bs_q, ite_z]
  by_cases g15 : isw b s e 15 = true
  · rw [if_pos g15, if_pos g15]
    rfl
  rw [if_neg g15, if_neg g15]
  rw [h 16 (by decide), bs_q, ite_z]
  by_cases g16 : isw b s e 16 = true
  · rw [if_pos g16, if_pos g16]
    rfl
  rw [if_neg g16, if_neg g16]
  rw [h 17 (by decide), bs_q, ite_z]
  by_cases g17 : isw b s e 17 = true
  · rw [if_pos g17, if_pos g17]
    rfl
  rw [if_neg g17, if_neg g17]
  rw [h 18 (by decide), bs_q, ite_z]
  by_cases g18 : isw b s e 18 = true
  · rw [if_pos g18, if_pos g18]
    rfl
  rw [if_neg g18, if_neg g18]
  rw [h 19 (by decide), bs_q, ite_z]
  by_cases g19 : isw b s e 19 = true
  · rw [if_pos g19, if_pos g19]
    rfl
  rw [if_neg g19, if_neg g19]
  rw [h 20 (by decide), bs_q, ite_z]
  by_cases g20 : isw b s e 20 = true
  · rw [if_pos g20, if_pos g20]
    rfl
  rw [if_neg g20, if_neg g20]
  rw [h 21 (by decide), bs_q, ite_z]
  by_cases g21 : isw b s e 21 = true
  · rw [if_pos g21, if_pos g21]
    rfl
  rw [if_neg g21, if_neg g21]
  rw [h 22 (by decide), bs_q, ite_z]
  by_cases g22 : isw b s e 22 = true
  · rw [if_pos g22, if_pos g22]
    rfl
  rw [if_neg g22, if_neg g22]
  rw [h 23 (by decide), bs_q, ite_z]
  by_cases g23 : isw b s e 23 = true
  · rw [if_pos g23, if_pos g23]
    rfl
  rw [if_neg g23, if_neg g23]
  rfl
theorem isD_b {c : Nat} (h : isD c = true) : 48 ≤ c ∧ c ≤ 57 := by
  unfold isD at h
  rwa [Bool.and_eq_true, decide_eq_true_eq, decide_eq_true_eq] at h
theorem n3_b {b : Nat → Nat} {s : Nat} : ∀ k, (∀ j, j < k → isD (b (s + j)) = true) → n3 b s k < 10 ^ k := by
  intro k
  induction k with
  | zero => intro _; exact Nat.zero_lt_one
  | succ k ih =>
    intro h
    have h1 := ih fun j hj => h j (by omega)
    have h2 := isD_b (h k (by omega))
    show n3 b s k * 10 + b (s + k) - 48 < 10 ^ (k + 1)
    rw [Nat.pow_succ]
    omega
theorem en_D {b : Nat → Nat} {t s : Nat} (hL : isL (b s) = false) (hD : isD (b s) = true) {j : Nat} (h : s + j < en b t s) : isD (b (s + j)) = true := by
  unfold en at h
  rw [if_neg (by rw [hL]; decide), if_pos hD] at h
  by_cases h0 : j = 0
  · rw [h0]
    exact hD
  · exact run_all isD b (t - (s + 1)) (s + 1) (s + j) (by omega) h
theorem nb_le {b : Nat → Nat} {t s : Nat} (hL : isL (b s) = false) (hD : isD (b s) = true) : nbv b t s ≤ 999 := by
  have h := n3_b (b := b) (s := s) (min (en b t s) (s + 3) - s) fun j hj => en_D (t := t) hL hD (by omega)
  have h2 : 10 ^ (min (en b t s) (s + 3) - s) ≤ 10 ^ 3 := Nat.pow_le_pow_right (by decide) (by omega)
  have h3 : (10 : Nat) ^ 3 = 1000 := rfl
  unfold nbv
  omega
theorem c_numberOf {μ : Mem} {b : Nat → Nat} {t : Nat} (T : CT μ b t) {s : Nat} (hs : s < t) (hL : isL (b s) = false) (hD : isD (b s) = true) : f_X8_numberOf μ (Int32.ofNat s) (jmin (Int32.ofNat (en b t s)) (Int32.ofNat s + 3)) = some (Int32.ofNat (nbv b t s)) := by
  have he := en_b (b := b) hs
  have t1 := T.1
  rw [show (3 : Int32) = Int32.ofNat 3 from rfl, on_a, on_min (by omega) (by omega)]
  obtain ⟨m, hm⟩ : ∃ m, m = min (en b t s) (s + 3) - s := ⟨_, rfl⟩
  have em : min (en b t s) (s + 3) = s + m := by omega
  have hd : ∀ j, j < m → isD (b (s + j)) = true := fun j hj => en_D (t := t) hL hD (by omega)
  unfold f_X8_numberOf nbv
  rw [← hm, em]
  refine lpF (fun n (q : Int32 × Int32) => lp_X8_numberOf_5 (Int32.ofNat (s + m)) μ n q.1 q.2) (fun k => (Int32.ofNat (n3 b s k), Int32.ofNat (s + k))) m _ (fun k hk n => ?_) (fun n => ?_) 4096 (by omega)
  · show lp_X8_numberOf_5 (Int32.ofNat (s + m)) μ (n + 1) (Int32.ofNat (n3 b s k)) (Int32.ofNat (s + k)) = lp_X8_numberOf_5 (Int32.ofNat (s + m)) μ n (Int32.ofNat (n3 b s k * 10 + b (s + k) - 48)) (Int32.ofNat (s + k + 1))
    have h1 := isD_b (hd k hk)
    rw [lp_X8_numberOf_5, if_neg (by rw [on_le (by omega) (by omega)]; omega), ct_at T (by omega)]
    simp only [bs_q]
    rw [i_10, on_m, on_a, i_48, on_sb (by omega), i_1, on_a]
  · show lp_X8_numberOf_5 (Int32.ofNat (s + m)) μ (n + 1) (Int32.ofNat (n3 b s m)) (Int32.ofNat (s + m)) = _
    rw [lp_X8_numberOf_5, if_pos (by rw [on_le (by omega) (by omega)]; omega)]
theorem c_signOf {c : Nat} (h : c ≤ 255) : f_X8_signOf (Int32.ofNat c) = some (Int32.ofNat (sg c)) := by
  unfold f_X8_signOf sg
  have e : ∀ k, k < 256 → (Int32.ofNat c = Int32.ofNat k) = (c = k) := fun k hk => on_eq (by omega) (by omega)
  rw [i_40, show (41 : Int32) = Int32.ofNat 41 from rfl, show (43 : Int32) = Int32.ofNat 43 from rfl, show (59 : Int32) = Int32.ofNat 59 from rfl, i_60, show (62 : Int32) = Int32.ofNat 62 from rfl]
  simp only [e 40 (by decide), e 41 (by decide), e 43 (by decide), e 59 (by decide), e 60 (by decide), e 62 (by decide)]
  split
  · rfl
  · split
    · rfl
    · split
      · rfl
      · split
        · rfl
        · split
          · rfl
          · split <;> rfl
theorem CT.upm {μ : Mem} {b : Nat → Nat} {t : Nat} (T : CT μ b t) {g j i : Nat} (v : Int32) (h : ¬ (g = 0 ∧ (j = 1 ∨ j = 2))) : CT (upm μ g j i v) b t := by
  obtain ⟨t1, t2, t4⟩ := T
  refine ⟨t1, ?_, fun k hk => ?_⟩
  · rw [upm_ne (by omega)]
    exact t2
  · rw [upm_ne (by omega)]
    exact t4 k hk
set_option maxHeartbeats 2000000 in
theorem c_tokAdd {μ : Mem} {b : Nat → Nat} {t n : Nat} (T : CT μ b t) {s : Nat} (hs : s < t) (hn : n < 400) (e3 : μ 0 3 3 = Int32.ofNat n) : ∃ μ', f_X8_add μ (Int32.ofNat s) (Int32.ofNat (en b t s)) = some μ' ∧ μ' 0 3 3 = Int32.ofNat (n + 1) ∧ μ' 0 4 n = Int32.ofNat (kd b t s) ∧ μ' 0 5 n = Int32.ofNat s ∧ (kd b t s = 2 → μ' 0 6 n = Int32.ofNat (nbv b t s)) ∧ (∀ j k, k ≠ n → j = 4 ∨ j = 5 ∨ j = 6 → μ' 0 j k = μ 0 j k) ∧ ∀ g j i, ¬ (g = 0 ∧ (j = 4 ∨ j = 5 ∨ j = 6 ∨ (j = 3 ∧ i = 3))) → μ' g j i = μ g j i := by
  have T' := T
  obtain ⟨t1, t2, t4⟩ := T'
  have hb := (t4 s hs).2
  have he := en_b (b := b) hs
  have T5 : CT (upm μ 0 5 n (Int32.ofNat s)) b t := T.upm _ (by omega)
  have e35 : (upm μ 0 5 n (Int32.ofNat s)) 0 3 3 = Int32.ofNat n := by rw [upm_ne (by omega), e3]
  have ixn : ∀ E : Option Mem, ix (Int32.ofNat n) 401 E = E := fun E => ix_on (by omega) (by decide)
  have tn : (Int32.ofNat n).toNatClampNeg = n := on_t (by omega)
  have go : f_X8_add μ (Int32.ofNat s) (Int32.ofNat (en b t s)) = nm (fun (μ4 : Mem) => nm (upm μ4 0 3 3 ((μ4 0 3 3) + 1)) fun (μ5 : Mem) => some μ5) fun (J123 : Mem → Option (Mem)) => if isL (b s) = true then J123 (upm (upm μ 0 5 n (Int32.ofNat s)) 0 4 n (Int32.ofNat (wk b s (en b t s) 24 0))) else (if isD (b s) = true then J123 (upm (upm (upm μ 0 5 n (Int32.ofNat s)) 0 4 n (Int32.ofNat (if 3 < en b t s - s then 1 else 2))) 0 6 n (Int32.ofNat (nbv b t s))) else J123 (upm (upm μ 0 5 n (Int32.ofNat s)) 0 4 n (Int32.ofNat (sg (b s))))) := by
    unfold f_X8_add
    rw [e3, if_pos (by rw [show (401 : Int32) = Int32.ofNat 401 from rfl, on_lt (by omega) (by decide)]; omega), ct_at T hs]
    simp only [bs_q]
    rw [ixn, tn, nm_q, c_isL hb]
    simp only [bs_q, nm_q]
    rw [ite_z]
    by_cases hL : isL (b s) = true
    · rw [if_pos hL, if_pos hL, c_wordOf T5 (by omega) he.2]
      simp only [bs_q]
      rw [e35, ixn, tn]
    · rw [if_neg hL, if_neg hL, c_isD hb]
      simp only [bs_q]
      rw [ite_z]
      have hL' : isL (b s) = false := by cases hq : isL (b s); rfl; exact absurd hq hL
      by_cases hD : isD (b s) = true
      · rw [if_pos hD, if_pos hD]
        have key : ∀ v : Nat, ix ((upm μ 0 5 n (Int32.ofNat s)) 0 3 3) 401 (nm (upm (upm μ 0 5 n (Int32.ofNat s)) 0 4 ((upm μ 0 5 n (Int32.ofNat s)) 0 3 3).toNatClampNeg (Int32.ofNat v)) fun (μ10 : Mem) => (f_X8_numberOf μ10 (Int32.ofNat s) (jmin (Int32.ofNat (en b t s)) (Int32.ofNat s + 3))).bind fun (q11 : Int32) => ix (μ10 0 3 3) 401 (nm (upm μ10 0 6 (μ10 0 3 3).toNatClampNeg q11) fun (μ12 : Mem) => (some (upm μ12 0 3 3 ((μ12 0 3 3) + 1)) : Option Mem))) = some (upm (upm (upm (upm μ 0 5 n (Int32.ofNat s)) 0 4 n (Int32.ofNat v)) 0 6 n (Int32.ofNat (nbv b t s))) 0 3 3 ((upm (upm (upm μ 0 5 n (Int32.ofNat s)) 0 4 n (Int32.ofNat v)) 0 6 n (Int32.ofNat (nbv b t s))) 0 3 3 + 1)) := fun v => by
          rw [e35, ixn, tn, nm_q, c_numberOf (T5.upm _ (by omega)) hs hL' hD]
          simp only [bs_q]
          rw [show upm (upm μ 0 5 n (Int32.ofNat s)) 0 4 n (Int32.ofNat v) 0 3 3 = Int32.ofNat n by rw [upm_ne (by omega), e35], ixn, tn, nm_q]
        rw [show (3 : Int32) = Int32.ofNat 3 from rfl, on_sb (by omega), il_lt (by omega) (by omega)]
        by_cases h3 : 3 < en b t s - s
        · rw [if_pos h3, if_pos h3]
          exact key 1
        · rw [if_neg h3, if_neg h3]
          exact key 2
      · rw [if_neg hD, if_neg hD, c_signOf hb]
        simp only [bs_q]
        rw [e35, ixn, tn]
  have fin : ∀ M : Mem, (∀ g j i, ¬ (g = 0 ∧ (j = 4 ∨ j = 5 ∨ j = 6)) → M g j i = μ g j i) → (nm (upm M 0 3 3 ((M 0 3 3) + 1)) fun (μ5 : Mem) => some μ5) = some (upm M 0 3 3 (Int32.ofNat (n + 1))) := fun M hM => by
    rw [nm_q, hM 0 3 3 (by omega), e3, i_1, on_a]
  rw [go, nm_q]
  have hk : kd b t s = if isL (b s) = true then wk b s (en b t s) 24 0 else if isD (b s) = true then (if 3 < en b t s - s then 1 else 2) else sg (b s) := by
    unfold kd
    rw [if_neg (by omega)]
  by_cases hL : isL (b s) = true
  · rw [if_pos hL] at hk ⊢
    rw [hk]
    refine ⟨_, fin _ (fun g j i h => by rw [upm_ne (by omega), upm_ne (by omega)]), upm_at _ _ _ _ _, by rw [upm_ne (by omega), upm_at], by rw [upm_ne (by omega), upm_ne (by omega), upm_at], fun h2 => ?_, fun j k h1 h2 => by rw [upm_ne (by omega), upm_n3 (by omega), upm_n3 (by omega)], fun g j i h => by rw [upm_n3 (by omega), upm_ne (by omega), upm_ne (by omega)]⟩
    exfalso
    have : ∀ f a, wk b s (en b t s) f a ≠ 2 := by
      intro f
      induction f with
      | zero => intro a; show 1 ≠ 2; decide
      | succ f ih =>
        intro a
        show (if isw b s (en b t s) a = true then wcd a else wk b s (en b t s) f (a + 1)) ≠ 2
        split
        · unfold wcd
          split <;> omega
        · exact ih (a + 1)
    exact this 24 0 h2
  · rw [if_neg hL] at hk ⊢
    by_cases hD : isD (b s) = true
    · rw [if_pos hD] at hk ⊢
      rw [hk]
      exact ⟨_, fin _ (fun g j i h => by rw [upm_ne (by omega), upm_ne (by omega), upm_ne (by omega)]), upm_at _ _ _ _ _, by rw [upm_ne (by omega), upm_ne (by omega), upm_at], by rw [upm_ne (by omega), upm_ne (by omega), upm_ne (by omega), upm_at], fun h2 => by rw [upm_ne (by omega), upm_at], fun j k h1 h2 => by rw [upm_ne (by omega), upm_n3 (by omega), upm_n3 (by omega), upm_n3 (by omega)], fun g j i h => by rw [upm_n3 (by omega), upm_ne (by omega), upm_ne (by omega), upm_ne (by omega)]⟩
    · rw [if_neg hD] at hk ⊢
      rw [hk]
      refine ⟨_, fin _ (fun g j i h => by rw [upm_ne (by omega), upm_ne (by omega)]), upm_at _ _ _ _ _, by rw [upm_ne (by omega), upm_at], by rw [upm_ne (by omega), upm_ne (by omega), upm_at], fun h2 => ?_, fun j k h1 h2 => by rw [upm_ne (by omega), upm_n3 (by omega), upm_n3 (by omega)], fun g j i h => by rw [upm_n3 (by omega), upm_ne (by omega), upm_ne (by omega)]⟩
      exfalso
      revert h2
      unfold sg
      split
      · decide
      · split
        · decide
        · split
          · decide
          · split
            · decide
            · split
              · decide
              · split <;> decide
