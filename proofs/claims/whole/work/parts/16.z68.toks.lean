/-! ===== texts: the class's row of words ===== -/
def TOK (μ : Mem) (b : Nat → Nat) (t m : Nat) : Prop := t ≤ 400 ∧ m ≤ t ∧ tk b t m = t ∧ (∀ k, k < m → tk b t k < t) ∧ ∀ k, k ≤ m → μ 0 4 k = Int32.ofNat (kd b t (tk b t k)) ∧ μ 0 5 k = Int32.ofNat (tk b t k) ∧ (kd b t (tk b t k) = 2 → μ 0 6 k = Int32.ofNat (nbv b t (tk b t k)))
theorem kd_t (b : Nat → Nat) (t : Nat) : kd b t t = 0 := if_pos (Nat.le_refl t)
def fR (g j i : Nat) : Prop := g = 0 ∧ (j = 4 ∨ j = 5 ∨ j = 6 ∨ (j = 3 ∧ (i = 3 ∨ i = 4)))
theorem CT.fr {μ μ' : Mem} {b : Nat → Nat} {t : Nat} (T : CT μ b t) (h : ∀ g j i, ¬ fR g j i → μ' g j i = μ g j i) : CT μ' b t := by
  obtain ⟨t1, t2, t4⟩ := T
  refine ⟨t1, ?_, fun k hk => ?_⟩
  · rw [h 0 1 1 (by unfold fR; omega)]
    exact t2
  · rw [h 0 2 k (by unfold fR; omega)]
    exact t4 k hk
set_option maxHeartbeats 2000000 in
theorem c_read {μ : Mem} {b : Nat → Nat} {t : Nat} (T : CT μ b t) : ∃ μ' m, f_X8_read μ = some μ' ∧ TOK μ' b t m ∧ μ' 0 3 4 = 0 ∧ ∀ g j i, ¬ fR g j i → μ' g j i = μ g j i := by
  have t1 := T.1
  unfold f_X8_read
  rw [nm_q, nm_q]
  refine lpP (fun n (q : Int32 × Mem) => lp_X8_read_14 (fun (μ3 : Mem) => if 401 ≤ (μ3 0 3 3) then (some μ3) else (ix (μ3 0 3 3) 401 (nm (upm μ3 0 4 (μ3 0 3 3).toNatClampNeg 0) fun (μ9 : Mem) => ix (μ9 0 3 3) 401 (nm (upm μ9 0 5 (μ9 0 3 3).toNatClampNeg (μ9 0 1 1)) fun (μ10 : Mem) => nm (upm μ10 0 3 3 ((μ10 0 3 3) + 1)) fun (μ11 : Mem) => some μ11)))) n q.1 q.2) (fun o => ∃ μ' m, o = some μ' ∧ TOK μ' b t m ∧ μ' 0 3 4 = 0 ∧ ∀ g j i, ¬ fR g j i → μ' g j i = μ g j i) (fun k q => ∃ p n, q.1 = Int32.ofNat p ∧ k ≤ p ∧ p ≤ t ∧ n ≤ p ∧ tk b t n = skp b t p ∧ q.2 0 3 3 = Int32.ofNat n ∧ q.2 0 3 4 = 0 ∧ (∀ g j i, ¬ fR g j i → q.2 g j i = μ g j i) ∧ ∀ k, k < n → tk b t k < t ∧ q.2 0 4 k = Int32.ofNat (kd b t (tk b t k)) ∧ q.2 0 5 k = Int32.ofNat (tk b t k) ∧ (kd b t (tk b t k) = 2 → q.2 0 6 k = Int32.ofNat (nbv b t (tk b t k)))) t ?_ 4096 (0, upm (upm μ 0 3 3 0) 0 3 4 0) (by omega) ⟨0, 0, rfl, Nat.le_refl _, Nat.zero_le _, Nat.le_refl _, rfl, (by show upm (upm μ 0 3 3 0) 0 3 4 0 0 3 3 = _; rw [upm_n3 (by omega), upm_at]; rfl), (by show upm (upm μ 0 3 3 0) 0 3 4 0 0 3 4 = _; rw [upm_at]), fun g j i h => by show upm (upm μ 0 3 3 0) 0 3 4 0 g j i = _; unfold fR at h; rw [upm_n3 (by omega), upm_n3 (by omega)], fun k hk => by omega⟩
  rintro k ⟨x, ξ⟩ hk ⟨p, n, e1, h1, h2, h3, h4, e3, e4, hF, hT⟩ F
  simp only at e1 e3 e4 hF hT
  subst e1
  have Tξ : CT ξ b t := T.fr hF
  have T' := Tξ
  obtain ⟨-, t2, t4⟩ := T'
  by_cases h6 : p = t
  · left
    subst h6
    refine ⟨upm (upm (upm ξ 0 4 n 0) 0 5 n (Int32.ofNat p)) 0 3 3 (Int32.ofNat (n + 1)), n, ?_, ⟨t1, h3, by rw [h4, skp_t], fun k hk => (hT k hk).1, fun k hk => ?_⟩, ?_, fun g j i h => ?_⟩
    · show lp_X8_read_14 _ (F + 1) (Int32.ofNat p) ξ = _
      rw [lp_X8_read_14, t2, if_pos (by rw [on_le (by omega) (by omega)]; omega), e3, if_neg (by rw [show (401 : Int32) = Int32.ofNat 401 from rfl, on_le (by omega) (by omega)]; omega), ix_on (by omega) (by decide), on_t (by omega), nm_q, upm_ne (by omega), e3, ix_on (by omega) (by decide), on_t (by omega), nm_q, upm_ne (by omega), t2, nm_q, upm_ne (by omega), upm_ne (by omega), e3, i_1, on_a]
    · by_cases h7 : k = n
      · subst h7
        rw [h4, skp_t, kd_t]
        refine ⟨?_, ?_, fun h => by omega⟩
        · rw [upm_ne (by omega), upm_ne (by omega), upm_at]
          rfl
        · rw [upm_ne (by omega), upm_at]
      · obtain ⟨-, q1, q2, q3⟩ := hT k (by omega)
        refine ⟨?_, ?_, fun h => ?_⟩
        · rw [upm_ne (by omega), upm_ne (by omega), upm_n3 (by omega), q1]
        · rw [upm_ne (by omega), upm_n3 (by omega), upm_ne (by omega), q2]
        · rw [upm_ne (by omega), upm_ne (by omega), upm_ne (by omega), q3 h]
    · rw [upm_n3 (by omega), upm_ne (by omega), upm_ne (by omega), e4]
    · have h' := h
      unfold fR at h'
      rw [upm_n3 (by omega), upm_n3 (by omega), upm_n3 (by omega), hF g j i h]
  · right
    have hp : p < t := by omega
    refine ⟨by omega, ?_⟩
    have he := en_b (b := b) hp
    have st : ∀ K : Mem → Option Mem, lp_X8_read_14 K (F + 1) (Int32.ofNat p) ξ = if b p = 32 then lp_X8_read_14 K F (Int32.ofNat (en b t p)) ξ else ((f_X8_add ξ (Int32.ofNat p) (Int32.ofNat (en b t p))).bind fun (q8 : Mem) => lp_X8_read_14 K F (Int32.ofNat (en b t p)) q8) := fun K => by
      rw [lp_X8_read_14, t2, if_neg (by rw [on_le (by omega) (by omega)]; omega), c_endOf Tξ hp]
      simp only [bs_q]
      rw [ct_at Tξ hp]
      simp only [bs_q]
      have hb := (t4 p hp).2
      rw [i_32, il_eq (by omega) (by decide), i_1, on_a, on_max (by omega) (by omega), show max (p + 1) (en b t p) = en b t p by omega]
    by_cases h7 : b p = 32
    · have ee : en b t p = p + 1 := by
        unfold en
        rw [h7, if_neg (by decide), if_neg (by decide)]
      refine ⟨(Int32.ofNat (p + 1), ξ), ⟨p + 1, n, rfl, by omega, hp, by omega, by rw [h4, skp_32 hp h7], e3, e4, hF, hT⟩, ?_⟩
      refine (st _).trans ?_
      rw [if_pos h7, ee]
    · have es : skp b t p = p := skp_no hp h7
      rw [es] at h4
      obtain ⟨ξ2, a1, a2, a3, a4, a5, a6, a7⟩ := c_tokAdd Tξ hp (show n < 400 by omega) e3
      refine ⟨(Int32.ofNat (en b t p), ξ2), ⟨en b t p, n + 1, rfl, by omega, he.2, by omega, ?_, a2, ?_, fun g j i h => ?_, fun k hk => ?_⟩, ?_⟩
      · show skp b t (en b t (tk b t n)) = _
        rw [h4]
      · show ξ2 0 3 4 = 0
        rw [a7 0 3 4 (by omega), e4]
      · show ξ2 g j i = _
        have h' := h
        unfold fR at h'
        rw [a7 g j i (by omega), hF g j i h]
      · show tk b t k < t ∧ ξ2 0 4 k = _ ∧ ξ2 0 5 k = _ ∧ (_ → ξ2 0 6 k = _)
        by_cases h8 : k = n
        · subst h8
          rw [h4]
          exact ⟨hp, a3, a4, a5⟩
        · obtain ⟨q0, q1, q2, q3⟩ := hT k (by omega)
          refine ⟨q0, ?_, ?_, fun h => ?_⟩
          · rw [a6 4 k h8 (by omega), q1]
          · rw [a6 5 k h8 (by omega), q2]
          · rw [a6 6 k h8 (by omega), q3 h]
      · refine (st _).trans ?_
        rw [if_neg h7, a1]
        simp only [bs_q]
/-! the class reads the row -/
theorem TOK.fr {μ μ' : Mem} {b : Nat → Nat} {t m : Nat} (T : TOK μ b t m) (h : ∀ j i, j = 4 ∨ j = 5 ∨ j = 6 → μ' 0 j i = μ 0 j i) : TOK μ' b t m := by
  obtain ⟨t1, t2, t3, t4, t5⟩ := T
  refine ⟨t1, t2, t3, t4, fun k hk => ?_⟩
  rw [h 4 k (by omega), h 5 k (by omega), h 6 k (by omega)]
  exact t5 k hk
theorem kd_le (b : Nat → Nat) (t s : Nat) : kd b t s ≤ 34 := by
  unfold kd
  split
  · omega
  · split
    · have : ∀ f a, f + a ≤ 24 → wk b s (en b t s) f a ≤ 34 := by
        intro f
        induction f with
        | zero => intro a _; show 1 ≤ 34; omega
        | succ f ih =>
          intro a ha
          show (if isw b s (en b t s) a = true then wcd a else wk b s (en b t s) f (a + 1)) ≤ 34
          split
          · unfold wcd
            split <;> omega
          · exact ih (a + 1) (by omega)
      exact this 24 0 (by omega)
    · split
      · split <;> omega
      · unfold sg
        split
        · omega
        · split
          · omega
          · split
            · omega
            · split
              · omega
              · split
                · omega
                · split <;> omega
theorem c_kind {μ : Mem} {b : Nat → Nat} {t m k : Nat} (T : TOK μ b t m) (hk : k ≤ m) (e : μ 0 3 4 = Int32.ofNat k) : f_X8_kind μ = some (Int32.ofNat (kd b t (tk b t k))) := by
  obtain ⟨t1, t2, t3, t4, t5⟩ := T
  unfold f_X8_kind
  rw [e, i_0, if_neg (by rw [on_lt (by omega) (by decide)]; omega), if_neg (by rw [show (401 : Int32) = Int32.ofNat 401 from rfl, on_le (by omega) (by omega)]; omega), ix_on (by omega) (by decide), on_t (by omega), (t5 k hk).1]
theorem c_begin {μ : Mem} {b : Nat → Nat} {t m k : Nat} (T : TOK μ b t m) (hk : k ≤ m) (e : μ 0 3 4 = Int32.ofNat k) : f_X8_begin μ = some (Int32.ofNat (tk b t k)) := by
  obtain ⟨t1, t2, t3, t4, t5⟩ := T
  unfold f_X8_begin
  rw [e, i_0, if_neg (by rw [on_lt (by omega) (by decide)]; omega), if_neg (by rw [show (401 : Int32) = Int32.ofNat 401 from rfl, on_le (by omega) (by omega)]; omega), ix_on (by omega) (by decide), on_t (by omega), (t5 k hk).2.1]
theorem c_take {μ : Mem} {b : Nat → Nat} {t m k : Nat} (T : TOK μ b t m) (hk : k ≤ m) (e : μ 0 3 4 = Int32.ofNat k) {a : Nat} (ha0 : 0 < a) (ha : a < 100) : f_X8_take μ (Int32.ofNat a) = if kd b t (tk b t k) = a then some (1, upm μ 0 3 4 (Int32.ofNat (k + 1))) else some (0, μ) := by
  have hkd := kd_le b t (tk b t k)
  obtain ⟨t1, t2, t3, t4, t5⟩ := T
  unfold f_X8_take
  rw [i_0, if_neg (by rw [on_eq (by omega) (by decide)]; omega), e, if_neg (by rw [on_lt (by omega) (by decide)]; omega), if_neg (by rw [show (401 : Int32) = Int32.ofNat 401 from rfl, on_le (by omega) (by omega)]; omega), ix_on (by omega) (by decide), on_t (by omega), (t5 k hk).1, il_eq (by omega) (by omega), nm_q, i_1, on_a]
theorem c_takeNumber {μ : Mem} {b : Nat → Nat} {t m k : Nat} (T : TOK μ b t m) (hk : k ≤ m) (e : μ 0 3 4 = Int32.ofNat k) {u : Nat} (hu : u ≤ 999) : f_X8_takeNumber μ (Int32.ofNat u) = if kd b t (tk b t k) = 2 ∧ nbv b t (tk b t k) ≤ u then some (1, upm (upm μ 0 3 5 (Int32.ofNat (nbv b t (tk b t k)))) 0 3 4 (Int32.ofNat (k + 1))) else some (0, μ) := by
  have hkd := kd_le b t (tk b t k)
  obtain ⟨t1, t2, t3, t4, t5⟩ := T
  obtain ⟨q1, q2, q3⟩ := t5 k hk
  have i401 : ∀ E : Option (Int32 × Mem), ix (Int32.ofNat k) 401 E = E := fun E => ix_on (by omega) (by decide)
  unfold f_X8_takeNumber
  rw [e, i_0, if_neg (by rw [on_lt (by omega) (by decide)]; omega), if_neg (by rw [show (401 : Int32) = Int32.ofNat 401 from rfl, on_le (by omega) (by omega)]; omega), if_neg (by rw [show (401 : Int32) = Int32.ofNat 401 from rfl, on_le (by omega) (by omega)]; omega), i401, i401, i401, on_t (by omega), q1, i_2, il_eq (by omega) (by decide)]
  by_cases h1 : kd b t (tk b t k) = 2
  · have hn : nbv b t (tk b t k) ≤ 999 := by
      unfold kd at h1
      by_cases a1 : t ≤ tk b t k
      · rw [if_pos a1] at h1
        omega
      · rw [if_neg a1] at h1
        by_cases a2 : isL (b (tk b t k)) = true
        · rw [if_pos a2] at h1
          exfalso
          have : ∀ f a, wk b (tk b t k) (en b t (tk b t k)) f a ≠ 2 := by
            intro f
            induction f with
            | zero => intro a; show 1 ≠ 2; decide
            | succ f ih =>
              intro a
              show (if isw b (tk b t k) (en b t (tk b t k)) a = true then wcd a else wk b (tk b t k) (en b t (tk b t k)) f (a + 1)) ≠ 2
              split
              · unfold wcd
                split <;> omega
              · exact ih (a + 1)
          exact this 24 0 h1
        · have a2' : isL (b (tk b t k)) = false := by cases hq : isL (b (tk b t k)); rfl; exact absurd hq a2
          rw [if_neg a2] at h1
          by_cases a3 : isD (b (tk b t k)) = true
          · exact nb_le a2' a3
          · rw [if_neg a3] at h1
            exfalso
            revert h1
            unfold sg
            split
            · decide
            · split
              · decide
              · split
                · decide
                · split
                  · decide
                  · split
                    · decide
                    · split <;> decide
    rw [if_pos h1, q3 h1, il_le (by omega) (by omega)]
    by_cases h2 : nbv b t (tk b t k) ≤ u
    · rw [if_pos h2, if_pos ⟨h1, h2⟩, nm_q, nm_q, upm_n3 (by omega), e, i_1, on_a]
    · rw [if_neg h2, if_neg (fun h => h2 h.2)]
  · rw [if_neg h1, if_neg (fun h => h1 h.1)]
