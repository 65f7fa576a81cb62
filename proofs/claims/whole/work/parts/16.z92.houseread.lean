/-! ===== a house's whole text, both at once ===== -/
def hK (μ2 : Mem) : Option (Int32 × Mem) := (f_X8_kind μ2).bind fun (q7 : Int32) => if q7 = 0 then (some (1, μ2)) else (some (0, μ2))
def OutH (ev : Row → Int32) (b : Nat → Nat) (t m : Nat) (μ : Mem) (k : Nat) (r : Row) (C : Option (Int32 × Mem)) (F : Mem → Option (Int32 × Mem)) : Prop :=
  (∃ kE μ', C = some (0, μ') ∧ kE ≤ m ∧ μ' 0 3 4 = Int32.ofNat kE ∧ hF μ μ' ∧ ∀ ν p, RS b t ν k p 0 → ν 0 13 = r → ∃ x ν', F ν = some (x, ν') ∧ FS b t ν' kE 0 ∧ rG ν ν') ∨
  (∃ μ' r', C = some (1, μ') ∧ hF μ μ' ∧ HV ev (μ' 2) r' ∧ ∀ ν p, RS b t ν k p 0 → ν 0 13 = r → ∃ x ν', F ν = some (x, ν') ∧ ν' 0 12 12 = -1 ∧ ν' 0 13 = r' ∧ rG ν ν')
theorem house_step (N L : Nat) (ν : Mem) : lp_X10_read_23 0 (N + 1) 1 (Int32.ofNat L) ν = if ν 0 12 12 = (-1) then ((f_X10_skip ν).bind fun (q6 : Mem) => nm (fun (μ8 : Mem) => (f_X10_skip μ8).bind fun (q9 : Mem) => if (q9 0 12 12) = (-1) then (if (q9 0 12 11) = (q9 0 12 10) then (lp_X10_read_23 0 N 0 (Int32.ofNat L + 1) q9) else ((f_X10_isSign q9 59).bind fun (q10 : Int32 × Mem) => if q10.1 = 0 then ((f_X10_wrong q10.2 (q10.2 0 12 11)).bind fun (q11 : Mem) => lp_X10_read_23 0 N 1 (Int32.ofNat L + 1) q11) else (nm (upm q10.2 0 12 11 ((q10.2 0 12 11) + 1)) fun (μ12 : Mem) => lp_X10_read_23 0 N 1 (Int32.ofNat L + 1) μ12))) else (lp_X10_read_23 0 N 0 (Int32.ofNat L + 1) q9)) fun (J80 : Mem → Option (Int32 × Mem)) => if Int32.ofNat L = 14 then ((f_X10_wrong q6 (q6 0 12 11)).bind fun (q13 : Mem) => J80 q13) else ((f_X10_houseLine q6).bind fun (q14 : Mem) => J80 q14)) else (some (Int32.ofNat L, ν)) := rfl
theorem house_end (N : Nat) (x : Int32) (ν : Mem) : lp_X10_read_23 0 (N + 1) 0 x ν = some (x, ν) := rfl
theorem house_stop {N L : Nat} {ν : Mem} (h : ¬ ν 0 12 12 = -1) : lp_X10_read_23 0 (N + 1) 1 (Int32.ofNat L) ν = some (Int32.ofNat L, ν) := by
  rw [house_step, if_neg h]
theorem OutH.pre {ev : Row → Int32} {b : Nat → Nat} {t m : Nat} {μ μ1 : Mem} {k k1 : Nat} {r r1 : Row} {C : Option (Int32 × Mem)} {F F1 : Mem → Option (Int32 × Mem)} (h : OutH ev b t m μ1 k1 r1 C F1) (hμ : hF μ μ1) (hR : ∀ ν p, RS b t ν k p 0 → ν 0 13 = r → ∃ ν1 p1, F ν = F1 ν1 ∧ RS b t ν1 k1 p1 0 ∧ ν1 0 13 = r1 ∧ rG ν ν1) : OutH ev b t m μ k r C F := by
  rcases h with ⟨kE, μ', h1, h2, h3, h4, h5⟩ | ⟨μ', r', h1, h3, h4, h5⟩
  · refine .inl ⟨kE, μ', h1, h2, h3, hμ.trans h4, fun ν p R er => ?_⟩
    obtain ⟨ν1, p1, g1, g2, g3, g4⟩ := hR ν p R er
    obtain ⟨x, ν', f1, f2, f3⟩ := h5 ν1 p1 g2 g3
    exact ⟨x, ν', g1.trans f1, f2, g4.trans f3⟩
  · refine .inr ⟨μ', r', h1, hμ.trans h3, h4, fun ν p R er => ?_⟩
    obtain ⟨ν1, p1, g1, g2, g3, g4⟩ := hR ν p R er
    obtain ⟨x, ν', f1, f2, f3, f4⟩ := h5 ν1 p1 g2 g3
    exact ⟨x, ν', g1.trans f1, f2, f3, g4.trans f4⟩
set_option maxHeartbeats 4000000 in
theorem house_loop {ev : Row → Int32} {b : Nat → Nat} {t m : Nat} : ∀ d L, L + d = 14 → ∀ k μ r n N, d + 1 < n → d + 2 < N → CH b t m μ k → HV ev (μ 2) r → OutH ev b t m μ k r (lp_X3_read_14 1 hK n (Int32.ofNat L) μ) (fun ν => lp_X10_read_23 0 N 1 (Int32.ofNat L) ν) := by
  intro d
  induction d with
  | zero =>
    intro L hL k μ r n N hn hN S H
    obtain ⟨n, rfl⟩ : ∃ k, n = k + 1 := ⟨n - 1, by omega⟩
    obtain ⟨N, rfl⟩ : ∃ k, N = k + 1 + 1 := ⟨N - 2, by omega⟩
    obtain rfl : L = 14 := by omega
    have hlen := S.len
    left
    refine ⟨k, μ, ?_, S.2.1, S.2.2, hF.refl μ, fun ν p R er => ?_⟩
    · rw [lp_X3_read_14, if_pos (by decide)]
    · have hs := r_skip R.1 R.2.1 R.2.2.1
      rw [R.2.2.2.1] at hs
      have tl := tk_lt S.1 S.2.1
      have hw := R.wrong (k' := k) (by omega) tl.1
      obtain ⟨p', g1, g2⟩ := fs_skip hw.1
      refine ⟨Int32.ofNat 14 + 1, _, ?_, g2, hw.2.g.upm _ (by omega)⟩
      show lp_X10_read_23 0 (N + 1 + 1) 1 (Int32.ofNat 14) ν = _
      rw [house_step, if_pos R.2.2.2.2.1, hs, bs_q, nm_q, if_pos (by decide), rs_wrong R.stay.2.2.2.2.1, upm_at, bs_q]
      show (f_X10_skip (upm (upm ν 0 12 11 (Int32.ofNat (tk b t k))) 0 12 12 (Int32.ofNat (tk b t k)))).bind _ = _
      rw [g1, bs_q, if_neg (fs_ne g2 S.1 S.2.1), house_end]
  | succ d ih =>
    intro L hL k μ r n N hn hN S H
    obtain ⟨n, rfl⟩ : ∃ k, n = k + 1 := ⟨n - 1, by omega⟩
    obtain ⟨N, rfl⟩ : ∃ k, N = k + 1 := ⟨N - 1, by omega⟩
    have hlen := S.len
    have hC : lp_X3_read_14 1 hK (n + 1) (Int32.ofNat L) μ = ((f_X3_readLine 1 μ).bind fun (q5 : Int32 × Mem) => if q5.1 = 0 then (some (0, q5.2)) else ((f_X8_take q5.2 3).bind fun (q6 : Int32 × Mem) => if q6.1 = 0 then (hK q6.2) else (lp_X3_read_14 1 hK n (Int32.ofNat (L + 1)) q6.2))) := by
      rw [lp_X3_read_14, if_neg (by rw [show (14 : Int32) = Int32.ofNat 14 from rfl, on_le (by omega) (by omega)]; omega), show Int32.ofNat L + 1 = Int32.ofNat (L + 1) from on_a L 1]
    have hR : ∀ ν p, RS b t ν k p 0 → ∀ ν1, f_X10_houseLine (upm ν 0 12 11 (Int32.ofNat (tk b t k))) = some ν1 → lp_X10_read_23 0 (N + 1) 1 (Int32.ofNat L) ν = (f_X10_skip ν1).bind fun (q9 : Mem) => if (q9 0 12 12) = (-1) then (if (q9 0 12 11) = (q9 0 12 10) then (lp_X10_read_23 0 N 0 (Int32.ofNat L + 1) q9) else ((f_X10_isSign q9 59).bind fun (q10 : Int32 × Mem) => if q10.1 = 0 then ((f_X10_wrong q10.2 (q10.2 0 12 11)).bind fun (q11 : Mem) => lp_X10_read_23 0 N 1 (Int32.ofNat L + 1) q11) else (nm (upm q10.2 0 12 11 ((q10.2 0 12 11) + 1)) fun (μ12 : Mem) => lp_X10_read_23 0 N 1 (Int32.ofNat L + 1) μ12))) else (lp_X10_read_23 0 N 0 (Int32.ofNat L + 1) q9) := fun ν p R ν1 h1 => by
      have hs := r_skip R.1 R.2.1 R.2.2.1
      rw [R.2.2.2.1] at hs
      rw [house_step, if_pos R.2.2.2.2.1, hs, bs_q, nm_q, if_neg (by rw [show (14 : Int32) = Int32.ofNat 14 from rfl, on_eq (by omega) (by omega)]; omega), h1, bs_q]
    obtain ⟨N, rfl⟩ : ∃ k, N = k + 1 := ⟨N - 1, by omega⟩
    have rowst : ∀ ν : Mem, ν 0 13 = r → (upm ν 0 12 11 (Int32.ofNat (tk b t k))) 0 13 = r := fun ν er => by rw [upm_ne (by omega), er]
    rcases hline_both S H with ⟨kE, μ1, r1, r2, r3, r4, r5⟩ | ⟨k1, μ1, r', r1, S1, r4, r6, r7⟩
    · left
      refine ⟨kE, μ1, ?_, r2, r3, r4, fun ν p R er => ?_⟩
      · rw [hC, r1, bs_q, if_pos (show (0 : Int32) = 0 from rfl)]
      · obtain ⟨ν1, w1, w2, w3⟩ := r5 _ _ R.stay (rowst ν er)
        obtain ⟨p', g1, g2⟩ := fs_skip w2
        refine ⟨Int32.ofNat L + 1, _, ?_, g2, (((rG.refl ν).upm _ (by omega)).trans w3).upm _ (by omega)⟩
        show lp_X10_read_23 0 (N + 1 + 1) 1 (Int32.ofNat L) ν = _
        rw [hR ν p R ν1 w1, g1, bs_q, if_neg (fs_ne g2 S.1 r2), house_end]
    · have hlen2 := S1.len
      have t3 := c_take S1.1 S1.2.1 S1.2.2 (a := 3) (by decide) (by decide)
      have hC2 : lp_X3_read_14 1 hK (n + 1) (Int32.ofNat L) μ = (f_X8_take μ1 3).bind fun (q6 : Int32 × Mem) => if q6.1 = 0 then (hK q6.2) else (lp_X3_read_14 1 hK n (Int32.ofNat (L + 1)) q6.2) := by
        rw [hC, r1, bs_q, if_neg (show ¬ (1 : Int32) = 0 by decide)]
      rw [show (3 : Int32) = Int32.ofNat 3 from rfl, t3] at hC2
      have tl1 := tk_lt S1.1 S1.2.1
      have hR2 : ∀ ν p, RS b t ν k p 0 → ν 0 13 = r → ∃ ν1 p1, RS b t ν1 k1 p1 0 ∧ ν1 0 13 = r' ∧ rG ν ν1 ∧ lp_X10_read_23 0 (N + 1 + 1) 1 (Int32.ofNat L) ν = if tk b t k1 = t then some (Int32.ofNat (L + 1), upm ν1 0 12 11 (Int32.ofNat (tk b t k1))) else if kd b t (tk b t k1) = 3 then lp_X10_read_23 0 (N + 1) 1 (Int32.ofNat (L + 1)) (upm ν1 0 12 11 (Int32.ofNat (en b t (tk b t k1)))) else some (Int32.ofNat (L + 1), upm (upm ν1 0 12 11 (Int32.ofNat (tk b t k1))) 0 12 12 (Int32.ofNat (tk b t k1))) := fun ν p R er => by
        obtain ⟨ν1, p1, s1, s2, s3, s4⟩ := r7 _ _ R.stay (rowst ν er)
        refine ⟨ν1, p1, s2, s3, ((rG.refl ν).upm _ (by omega)).trans s4, ?_⟩
        have hs := r_skip s2.1 s2.2.1 s2.2.2.1
        rw [s2.2.2.2.1] at hs
        have st := s2.stay
        have hsg := r_isSign st.1 st.2.1 st.2.2.1 (c := 59) (k := 3) (by omega)
        rw [st.2.2.2.1, upm_2] at hsg
        have t1 := st.1.1
        rw [hR ν p R ν1 s1, hs, bs_q, if_pos st.2.2.2.2.1, upm_at, st.1.2.1, il_eq (by omega) (by omega), show Int32.ofNat L + 1 = Int32.ofNat (L + 1) from on_a L 1]
        by_cases h1 : tk b t k1 = t
        · rw [if_pos h1, if_pos h1, house_end]
        · rw [if_neg h1, if_neg h1, show (59 : Int32) = Int32.ofNat 59 from rfl, hsg, bs_q]
          show (if bI (decide (kd b t (tk b t k1) = 3)) = 0 then _ else _) = _
          rw [ite_z]
          by_cases h2 : kd b t (tk b t k1) = 3
          · rw [if_pos (decide_eq_true h2), if_pos h2, nm_q]
            show lp_X10_read_23 0 (N + 1) 1 _ (upm (upm ν1 0 12 11 (Int32.ofNat (tk b t k1))) 0 12 11 ((upm ν1 0 12 11 (Int32.ofNat (tk b t k1))) 0 12 11 + Int32.ofNat 1)) = _
            rw [upm_2, upm_at, on_a, (en_sign (by omega) (by omega)).1]
          · rw [if_neg (by rw [decide_eq_false h2]; decide), if_neg h2]
            show (f_X10_wrong (upm ν1 0 12 11 (Int32.ofNat (tk b t k1))) ((upm ν1 0 12 11 (Int32.ofNat (tk b t k1))) 0 12 11)).bind _ = _
            have hw := s2.wrong (k' := k1) (by omega) tl1.1
            rw [upm_at, rs_wrong st.2.2.2.2.1, bs_q, house_stop (fs_ne hw.1 S1.1 S1.2.1)]
      by_cases h3 : kd b t (tk b t k1) = 3
      · obtain ⟨km, kt⟩ := tl1.2 (by omega)
        have fr : hF μ1 (upm μ1 0 3 4 (Int32.ofNat (k1 + 1))) := fun g j i q1 q2 => upm_n3 (by omega)
        have S3 : CH b t m (upm μ1 0 3 4 (Int32.ofNat (k1 + 1))) (k1 + 1) := ⟨S1.1.fr fun j i hj => by rw [upm_ne (by omega)], km, upm_at _ _ _ _ _⟩
        rw [if_pos h3, bs_q, if_neg (show ¬ (1 : Int32) = 0 by decide)] at hC2
        rw [hC2]
        refine (ih (L + 1) (by omega) (k1 + 1) _ r' n (N + 1) (by omega) (by omega) S3 (by rw [upm_ng (by decide)]; exact r6)).pre (r4.trans fr) fun ν p R er => ?_
        obtain ⟨ν1, p1, s1, s2, s3, s5⟩ := hR2 ν p R er
        exact ⟨_, _, s5.trans ((if_neg (by omega)).trans (if_pos h3)), s1.adv kt, by rw [upm_ne (by omega), s2], s3.upm _ (by omega)⟩
      · rw [if_neg h3, bs_q, if_pos (show (0 : Int32) = 0 from rfl)] at hC2
        have hk := c_kind S1.1 S1.2.1 S1.2.2
        have hkd := kd_le b t (tk b t k1)
        have hC3 : lp_X3_read_14 1 hK (n + 1) (Int32.ofNat L) μ = if kd b t (tk b t k1) = 0 then some (1, μ1) else some (0, μ1) := by
          rw [hC2]
          show hK μ1 = _
          unfold hK
          rw [hk, bs_q, i_0, il_eq (by omega) (by decide)]
        by_cases h0 : kd b t (tk b t k1) = 0
        · right
          have ht := kd_0 h0
          rw [if_pos h0] at hC3
          refine ⟨μ1, r', hC3, r4, r6, fun ν p R er => ?_⟩
          obtain ⟨ν1, p1, s1, s2, s3, s5⟩ := hR2 ν p R er
          exact ⟨_, _, s5.trans (if_pos (by omega)), s1.stay.2.2.2.2.1, by rw [upm_ne (by omega), s2], s3.upm _ (by omega)⟩
        · left
          have ht := tl1.2 h0
          rw [if_neg h0] at hC3
          refine ⟨k1, μ1, hC3, S1.2.1, S1.2.2, r4, fun ν p R er => ?_⟩
          obtain ⟨ν1, p1, s1, s2, s3, s5⟩ := hR2 ν p R er
          have hw := s1.wrong (k' := k1) (by omega) tl1.1
          exact ⟨_, _, s5.trans ((if_neg (by omega)).trans (if_neg h3)), hw.1, s3.trans hw.2.g⟩
theorem house_both {ev : Row → Int32} {b : Nat → Nat} {t m : Nat} {μ : Mem} {r : Row} (T : TOK μ b t m) (e : μ 0 3 4 = 0) (H : HV ev (μ 2) r) : OutH ev b t m μ 0 r (f_X3_read 1 μ) (fun ν => f_X10_read ν 0) := by
  have S : CH b t m μ 0 := ⟨T, Nat.zero_le _, e⟩
  have hk := c_kind S.1 S.2.1 S.2.2
  have hkd := kd_le b t (tk b t 0)
  have tl := tk_lt S.1 S.2.1
  have hC : f_X3_read 1 μ = if kd b t (tk b t 0) = 0 then some (1, μ) else lp_X3_read_14 1 hK 4096 (Int32.ofNat 0) μ := by
    unfold f_X3_read
    rw [hk, bs_q, i_0, il_eq (by omega) (by decide)]
    rfl
  have hR : ∀ ν p, RS b t ν 0 p 0 → f_X10_read ν 0 = if kd b t (tk b t 0) = 0 then some (Int32.ofNat 0, upm ν 0 12 11 (Int32.ofNat (tk b t 0))) else lp_X10_read_23 0 4096 1 (Int32.ofNat 0) (upm ν 0 12 11 (Int32.ofNat (tk b t 0))) := fun ν p R => by
    have hs := r_skip R.1 R.2.1 R.2.2.1
    rw [R.2.2.2.1] at hs
    have t1 := R.1.1
    unfold f_X10_read
    rw [hs, bs_q, nm_q, upm_n3 (by omega), R.1.2.1, upm_at, il_le (by omega) (by omega)]
    by_cases h0 : kd b t (tk b t 0) = 0
    · rw [if_pos (kd_0 h0), if_pos h0]
      exact house_end 4095 0 _
    · rw [if_neg (by have := tl.2 h0; omega), if_neg h0]
      rfl
  by_cases h0 : kd b t (tk b t 0) = 0
  · right
    rw [if_pos h0] at hC
    refine ⟨μ, r, hC, hF.refl μ, H, fun ν p R er => ?_⟩
    exact ⟨_, _, (hR ν p R).trans (if_pos h0), R.stay.2.2.2.2.1, by rw [upm_ne (by omega), er], (rG.refl ν).upm _ (by omega)⟩
  · rw [if_neg h0] at hC
    rw [hC]
    refine (house_loop (b := b) (t := t) (m := m) 14 0 rfl 0 μ r 4096 4096 (by decide) (by decide) S H).pre (hF.refl μ) fun ν p R er => ?_
    exact ⟨_, _, (hR ν p R).trans (if_neg h0), R.stay, by rw [upm_ne (by omega), er], (rG.refl ν).upm _ (by omega)⟩
