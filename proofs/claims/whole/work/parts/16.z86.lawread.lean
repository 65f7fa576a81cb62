/-! ===== the whole law, both at once ===== -/
theorem code_app2 {l : Nat} {μ1 μ2 : Mem} {c d : List Nat} (hF : ∀ i, i < l + c.length → μ2 16 8 i = μ1 16 8 i) (h1 : ∀ i, i < c.length → μ1 16 8 (l + i) = Int32.ofNat (c.getD i 0)) (h2 : ∀ i, i < d.length → μ2 16 8 (l + c.length + i) = Int32.ofNat (d.getD i 0)) : ∀ i, i < (c ++ d).length → μ2 16 8 (l + i) = Int32.ofNat ((c ++ d).getD i 0) := by
  intro i hi
  rw [List.length_append] at hi
  rw [getD_app]
  by_cases h : i < c.length
  · rw [if_pos h, hF _ (by omega), h1 i h]
  · rw [if_neg h, ← h2 (i - c.length) (by omega), show l + c.length + (i - c.length) = l + i by omega]
theorem kd_0 {b : Nat → Nat} {t s : Nat} (h : kd b t s = 0) : t ≤ s := by
  by_cases h1 : t ≤ s
  · exact h1
  · exfalso
    unfold kd at h
    rw [if_neg h1] at h
    by_cases h2 : isL (b s) = true
    · rw [if_pos h2] at h
      have h4 := wk_big (b := b) (s := s) (e := en b t s)
      omega
    · rw [if_neg h2] at h
      by_cases h3 : isD (b s) = true
      · rw [if_pos h3] at h
        split at h <;> omega
      · rw [if_neg h3] at h
        have := sg_s (c := b s)
        omega
theorem fs_skip {b : Nat → Nat} {t : Nat} {ν : Mem} {k : Nat} (S : FS b t ν k 0) : ∃ p', f_X10_skip ν = some (upm ν 0 12 11 (Int32.ofNat p')) ∧ FS b t (upm ν 0 12 11 (Int32.ofNat p')) k 0 := by
  obtain ⟨T, h1, p, h2, h3⟩ := S
  have t1 := T.1
  by_cases h : p ≤ t
  · have hb := skp_b (b := b) h
    exact ⟨_, r_skip T h h3, T.upm _ (by omega), by rw [upm_n3 (by omega), h1], _, by omega, upm_at _ _ _ _ _⟩
  · refine ⟨p, ?_, T.upm _ (by omega), by rw [upm_n3 (by omega), h1], p, h2, upm_at _ _ _ _ _⟩
    rw [r_skip_far T (by omega) (by omega) h3, upm_id h3]
def cL (l : Nat) (μ μ' : Mem) : Prop := ∀ g j i, ¬ (g = 0 ∧ j = 3 ∧ (i = 4 ∨ i = 5)) → ¬ (g = 16 ∧ (j = 8 ∧ l ≤ i ∨ j = 7 ∧ (i = 2 ∨ i = 4))) → μ' g j i = μ g j i
theorem cL.refl (l : Nat) (μ : Mem) : cL l μ μ := fun _ _ _ _ _ => rfl
theorem cF.L {l : Nat} {μ μ' : Mem} (h : cF l μ μ') : cL l μ μ' := fun g j i q1 q2 => h g j i q1 (by omega)
theorem cL.trans {l l2 : Nat} {μ μ1 μ2 : Mem} (h : cL l μ μ1) (h2 : cL l2 μ1 μ2) (hl : l ≤ l2) : cL l μ μ2 := fun g j i q1 q2 => (h2 g j i q1 (by omega)).trans (h g j i q1 q2)
/-- the class behind the last line -/
def cK (μ4 : Mem) : Option (Int32 × Mem) := (f_X8_kind μ4).bind fun (q9 : Int32) => if q9 = 0 then (some (1, μ4)) else (some (0, μ4))
def OutW (b : Nat → Nat) (t m : Nat) (μ : Mem) (k l : Nat) (C : Option (Int32 × Mem)) (F : Mem → Option (Int32 × Mem)) : Prop :=
  (∃ kE μ', C = some (0, μ') ∧ kE ≤ m ∧ μ' 0 3 4 = Int32.ofNat kE ∧ cL l μ μ' ∧ ∀ ν p, RS b t ν k p 0 → ∃ x ν', F ν = some (x, ν') ∧ FS b t ν' kE 0 ∧ rF ν ν') ∨
  (∃ L c μ', C = some (1, μ') ∧ L ≤ 12 ∧ l + c.length ≤ 400 ∧ μ' 16 7 2 = Int32.ofNat (l + c.length) ∧ μ' 16 7 4 = Int32.ofNat L ∧ cL l μ μ' ∧ (∀ i, i < c.length → μ' 16 8 (l + i) = Int32.ofNat (c.getD i 0)) ∧ (∀ i, i < c.length → c.getD i 0 < 2000) ∧ ∀ ν p, RS b t ν k p 0 → ∃ ν' g, F ν = some (Int32.ofNat L, ν') ∧ ν' 0 12 12 = -1 ∧ ν' 0 12 17 = ν 0 12 17 + g ∧ rF ν ν' ∧ ∀ y, exl (factsQ ν) (y, []) c = (y + g, []))
theorem law_step (N L : Nat) (ν : Mem) : lp_X10_read_23 1 (N + 1) 1 (Int32.ofNat L) ν = if ν 0 12 12 = (-1) then ((f_X10_skip ν).bind fun (q6 : Mem) => nm (fun (μ8 : Mem) => (f_X10_skip μ8).bind fun (q9 : Mem) => if (q9 0 12 12) = (-1) then (if (q9 0 12 11) = (q9 0 12 10) then (lp_X10_read_23 1 N 0 (Int32.ofNat L + 1) q9) else ((f_X10_isSign q9 59).bind fun (q10 : Int32 × Mem) => if q10.1 = 0 then ((f_X10_wrong q10.2 (q10.2 0 12 11)).bind fun (q11 : Mem) => lp_X10_read_23 1 N 1 (Int32.ofNat L + 1) q11) else (nm (upm q10.2 0 12 11 ((q10.2 0 12 11) + 1)) fun (μ12 : Mem) => lp_X10_read_23 1 N 1 (Int32.ofNat L + 1) μ12))) else (lp_X10_read_23 1 N 0 (Int32.ofNat L + 1) q9)) fun (J80 : Mem → Option (Int32 × Mem)) => if Int32.ofNat L = 12 then ((f_X10_wrong q6 (q6 0 12 11)).bind fun (q13 : Mem) => J80 q13) else ((f_X10_lawLine q6).bind fun (q15 : Mem) => J80 q15)) else (some (Int32.ofNat L, ν)) := rfl
theorem law_end (N : Nat) (x : Int32) (ν : Mem) : lp_X10_read_23 1 (N + 1) 0 x ν = some (x, ν) := rfl
/-- a fault: both loops end -/
theorem law_stop {N L : Nat} {ν : Mem} (h : ¬ ν 0 12 12 = -1) : lp_X10_read_23 1 (N + 1) 1 (Int32.ofNat L) ν = some (Int32.ofNat L, ν) := by
  rw [law_step, if_neg h]
set_option maxHeartbeats 4000000 in
theorem law_loop {b : Nat → Nat} {t m : Nat} : ∀ d L, L + d = 12 → ∀ k l μ n N, d + 1 < n → d + 2 < N → CS b t m μ k l → μ 16 7 4 = Int32.ofNat L → OutW b t m μ k l (lp_X5_read_28 cK n μ) (fun ν => lp_X10_read_23 1 N 1 (Int32.ofNat L) ν) := by
  intro d
  induction d with
  | zero =>
    intro L hL k l μ n N hn hN S e4
    obtain ⟨n, rfl⟩ : ∃ k, n = k + 1 := ⟨n - 1, by omega⟩
    obtain ⟨N, rfl⟩ : ∃ k, N = k + 1 + 1 := ⟨N - 2, by omega⟩
    obtain rfl : L = 12 := by omega
    have hlen := S.len
    left
    refine ⟨k, μ, ?_, S.2.1, S.2.2.1, cL.refl l μ, fun ν p R => ?_⟩
    · rw [lp_X5_read_28, e4, if_pos (by decide)]
    · have hs := r_skip R.1 R.2.1 R.2.2.1
      rw [R.2.2.2.1] at hs
      have tl := tk_lt S.1 S.2.1
      have hw := R.wrong (k' := k) (by omega) tl.1
      obtain ⟨p', g1, g2⟩ := fs_skip hw.1
      refine ⟨Int32.ofNat 12 + 1, _, ?_, g2, hw.2.upm _ (by omega)⟩
      show lp_X10_read_23 1 (N + 1 + 1) 1 (Int32.ofNat 12) ν = _
      rw [law_step, if_pos R.2.2.2.2.1, hs, bs_q, nm_q, if_pos (by decide), rs_wrong R.stay.2.2.2.2.1, upm_at, bs_q]
      show (f_X10_skip (upm (upm ν 0 12 11 (Int32.ofNat (tk b t k))) 0 12 12 (Int32.ofNat (tk b t k)))).bind _ = _
      rw [g1, bs_q, if_neg (fs_ne g2 S.1 S.2.1), law_end]
  | succ d ih =>
    intro L hL k l μ n N hn hN S e4
    obtain ⟨n, rfl⟩ : ∃ k, n = k + 1 := ⟨n - 1, by omega⟩
    obtain ⟨N, rfl⟩ : ∃ k, N = k + 1 := ⟨N - 1, by omega⟩
    have hlen := S.len
    have hC : lp_X5_read_28 cK (n + 1) μ = ((f_X5_readLine μ).bind fun (q6 : Int32 × Mem) => if q6.1 = 0 then (some (0, q6.2)) else (nm (upm q6.2 16 7 4 ((q6.2 16 7 4) + 1)) fun (μ7 : Mem) => (f_X8_take μ7 3).bind fun (q8 : Int32 × Mem) => if q8.1 = 0 then (cK q8.2) else (lp_X5_read_28 cK n q8.2))) := by
      rw [lp_X5_read_28, e4, if_neg (by rw [show (12 : Int32) = Int32.ofNat 12 from rfl, on_le (by omega) (by omega)]; omega)]
    have hR : ∀ ν p, RS b t ν k p 0 → ∀ ν1, f_X10_lawLine (upm ν 0 12 11 (Int32.ofNat (tk b t k))) = some ν1 → lp_X10_read_23 1 (N + 1) 1 (Int32.ofNat L) ν = (f_X10_skip ν1).bind fun (q9 : Mem) => if (q9 0 12 12) = (-1) then (if (q9 0 12 11) = (q9 0 12 10) then (lp_X10_read_23 1 N 0 (Int32.ofNat L + 1) q9) else ((f_X10_isSign q9 59).bind fun (q10 : Int32 × Mem) => if q10.1 = 0 then ((f_X10_wrong q10.2 (q10.2 0 12 11)).bind fun (q11 : Mem) => lp_X10_read_23 1 N 1 (Int32.ofNat L + 1) q11) else (nm (upm q10.2 0 12 11 ((q10.2 0 12 11) + 1)) fun (μ12 : Mem) => lp_X10_read_23 1 N 1 (Int32.ofNat L + 1) μ12))) else (lp_X10_read_23 1 N 0 (Int32.ofNat L + 1) q9) := fun ν p R ν1 h1 => by
      have hs := r_skip R.1 R.2.1 R.2.2.1
      rw [R.2.2.2.1] at hs
      rw [law_step, if_pos R.2.2.2.2.1, hs, bs_q, nm_q, if_neg (by rw [show (12 : Int32) = Int32.ofNat 12 from rfl, on_eq (by omega) (by omega)]; omega), h1, bs_q]
    obtain ⟨N, rfl⟩ : ∃ k, N = k + 1 := ⟨N - 1, by omega⟩
    rcases line_both S with ⟨kE, μ1, r1, r2, r3, r4, r5⟩ | ⟨k1, c1, μ1, r1, S1, r3, r4, r5, r6, r7, r8⟩
    · left
      refine ⟨kE, μ1, ?_, r2, r3, r4.L, fun ν p R => ?_⟩
      · rw [hC, r1, bs_q, if_pos (show (0 : Int32) = 0 from rfl)]
      · obtain ⟨ν1, w1, w2, w3⟩ := r5 _ _ R.stay
        obtain ⟨p', g1, g2⟩ := fs_skip w2
        refine ⟨Int32.ofNat L + 1, _, ?_, g2, (((rF.refl ν).upm _ (by omega)).trans w3).upm _ (by omega)⟩
        show lp_X10_read_23 1 (N + 1 + 1) 1 (Int32.ofNat L) ν = _
        rw [hR ν p R ν1 w1, g1, bs_q, if_neg (fs_ne g2 S.1 r2), law_end]
    · obtain ⟨μ2, hμ2⟩ : ∃ μ2, μ2 = upm μ1 16 7 4 (Int32.ofNat (L + 1)) := ⟨_, rfl⟩
      have e41 : μ1 16 7 4 = Int32.ofNat L := by rw [r5 16 7 4 (by omega) (by omega), e4]
      have S2 : CS b t m μ2 k1 (l + c1.length) := by
        rw [hμ2]
        refine ⟨S1.1.fr fun j i hj => by rw [upm_ne (by omega)], S1.2.1, ?_, ?_, S1.2.2.2.2⟩
        · rw [upm_n3 (by omega), S1.2.2.1]
        · rw [upm_n3 (by omega), S1.2.2.2.1]
      have F2 : cL l μ μ2 := fun g j i q1 q2 => by rw [hμ2, upm_n3 (by omega), r5 g j i q1 (by omega)]
      have e42 : μ2 16 7 4 = Int32.ofNat (L + 1) := by rw [hμ2, upm_at]
      have code2 : ∀ i, μ2 16 8 i = μ1 16 8 i := fun i => by rw [hμ2, upm_n3 (by omega)]
      have hlen2 := S2.len
      have hlk := S2.2.2.2.2
      have t3 := c_take S2.1 S2.2.1 S2.2.2.1 (a := 3) (by decide) (by decide)
      have hC2 : lp_X5_read_28 cK (n + 1) μ = (f_X8_take μ2 3).bind fun (q8 : Int32 × Mem) => if q8.1 = 0 then (cK q8.2) else (lp_X5_read_28 cK n q8.2) := by
        rw [hC, r1, bs_q, if_neg (show ¬ (1 : Int32) = 0 by decide)]
        show nm (upm μ1 16 7 4 (μ1 16 7 4 + 1)) _ = _
        rw [e41, i_1, on_a, ← hμ2, nm_q]
      rw [show (3 : Int32) = Int32.ofNat 3 from rfl, t3] at hC2
      have tl1 := tk_lt S2.1 S2.2.1
      have hR2 : ∀ ν p, RS b t ν k p 0 → ∃ ν1 p1 g, RS b t ν1 k1 p1 0 ∧ ν1 0 12 17 = ν 0 12 17 + g ∧ rF ν ν1 ∧ (∀ y, exl (factsQ ν) (y, []) c1 = (y + g, [])) ∧ lp_X10_read_23 1 (N + 1 + 1) 1 (Int32.ofNat L) ν = if tk b t k1 = t then some (Int32.ofNat (L + 1), upm ν1 0 12 11 (Int32.ofNat (tk b t k1))) else if kd b t (tk b t k1) = 3 then lp_X10_read_23 1 (N + 1) 1 (Int32.ofNat (L + 1)) (upm ν1 0 12 11 (Int32.ofNat (en b t (tk b t k1)))) else some (Int32.ofNat (L + 1), upm (upm ν1 0 12 11 (Int32.ofNat (tk b t k1))) 0 12 12 (Int32.ofNat (tk b t k1))) := fun ν p R => by
        obtain ⟨ν1, p1, g, s1, s2, s3, s4, s5⟩ := r8 _ _ R.stay
        have fx : rF ν (upm ν 0 12 11 (Int32.ofNat (tk b t k))) := (rF.refl ν).upm _ (by omega)
        rw [fx.facts] at s5
        refine ⟨ν1, p1, g, s2, by rw [s3, upm_n3 (by omega)], fx.trans s4, s5, ?_⟩
        have hs := r_skip s2.1 s2.2.1 s2.2.2.1
        rw [s2.2.2.2.1] at hs
        have st := s2.stay
        have hsg := r_isSign st.1 st.2.1 st.2.2.1 (c := 59) (k := 3) (by omega)
        rw [st.2.2.2.1, upm_2] at hsg
        have t1 := st.1.1
        rw [hR ν p R ν1 s1, hs, bs_q, if_pos st.2.2.2.2.1, upm_at, st.1.2.1, il_eq (by omega) (by omega), show Int32.ofNat L + 1 = Int32.ofNat (L + 1) from on_a L 1]
        by_cases h1 : tk b t k1 = t
        · rw [if_pos h1, if_pos h1, law_end]
        · rw [if_neg h1, if_neg h1, show (59 : Int32) = Int32.ofNat 59 from rfl, hsg, bs_q]
          show (if bI (decide (kd b t (tk b t k1) = 3)) = 0 then _ else _) = _
          rw [ite_z]
          by_cases h2 : kd b t (tk b t k1) = 3
          · rw [if_pos (decide_eq_true h2), if_pos h2, nm_q]
            show lp_X10_read_23 1 (N + 1) 1 _ (upm (upm ν1 0 12 11 (Int32.ofNat (tk b t k1))) 0 12 11 ((upm ν1 0 12 11 (Int32.ofNat (tk b t k1))) 0 12 11 + Int32.ofNat 1)) = _
            rw [upm_2, upm_at, on_a, (en_sign (by omega) (by omega)).1]
          · rw [if_neg (by rw [decide_eq_false h2]; decide), if_neg h2]
            show (f_X10_wrong (upm ν1 0 12 11 (Int32.ofNat (tk b t k1))) ((upm ν1 0 12 11 (Int32.ofNat (tk b t k1))) 0 12 11)).bind _ = _
            have hw := s2.wrong (k' := k1) (by omega) tl1.1
            rw [upm_at, rs_wrong st.2.2.2.2.1, bs_q, law_stop (fs_ne hw.1 S2.1 S2.2.1)]
      by_cases h3 : kd b t (tk b t k1) = 3
      · obtain ⟨km, kt⟩ := tl1.2 (by omega)
        obtain ⟨S3, F3⟩ := S2.take km
        rw [if_pos h3, bs_q, if_neg (show ¬ (1 : Int32) = 0 by decide)] at hC2
        have e43 : (upm μ2 0 3 4 (Int32.ofNat (k1 + 1))) 16 7 4 = Int32.ofNat (L + 1) := by rw [upm_n3 (by omega), e42]
        rcases ih (L + 1) (by omega) (k1 + 1) _ _ n (N + 1) (by omega) (by omega) S3 e43 with ⟨kE, μ3, u1, u2, u3, u4, u5⟩ | ⟨L3, c3, μ3, u1, u2, u3, u4, u5, u6, u7, u8, u9⟩
        · left
          refine ⟨kE, μ3, hC2.trans u1, u2, u3, (F2.trans F3.L (by omega)).trans u4 (by omega), fun ν p R => ?_⟩
          obtain ⟨ν1, p1, g, s1, s2, s3, s4, s5⟩ := hR2 ν p R
          obtain ⟨x, ν3, w1, w2, w3⟩ := u5 _ _ (s1.adv kt)
          refine ⟨x, ν3, ?_, w2, (s3.upm _ (by omega)).trans w3⟩
          show lp_X10_read_23 1 (N + 1 + 1) 1 (Int32.ofNat L) ν = _
          rw [s5, if_neg (by omega), if_pos h3]
          exact w1
        · right
          refine ⟨L3, c1 ++ c3, μ3, hC2.trans u1, u2, ?_, ?_, u5, (F2.trans F3.L (by omega)).trans u6 (by omega), fun i hi => ?_, code_bd r7 u8, fun ν p R => ?_⟩
          · rw [List.length_append]
            omega
          · rw [List.length_append, ← Nat.add_assoc]
            exact u4
          · exact code_app2 (fun i hi => by rw [u6 16 8 i (by omega) (by omega), upm_n3 (by omega), code2]) r6 u7 i hi
          · obtain ⟨ν1, p1, g, s1, s2, s3, s4, s5⟩ := hR2 ν p R
            obtain ⟨ν3, g3, w1, w2, w3, w4, w5⟩ := u9 _ _ (s1.adv kt)
            have fx := s3.upm (i := 11) (Int32.ofNat (en b t (tk b t k1))) (by omega)
            rw [fx.facts] at w5
            refine ⟨ν3, g + g3, ?_, w2, ?_, fx.trans w4, fun y => ?_⟩
            · show lp_X10_read_23 1 (N + 1 + 1) 1 (Int32.ofNat L) ν = _
              rw [s5, if_neg (by omega), if_pos h3]
              exact w1
            · rw [w3, upm_n3 (by omega), s2, Int32.add_assoc]
            · rw [exl_app, s4, w5, Int32.add_assoc]
      · rw [if_neg h3, bs_q, if_pos (show (0 : Int32) = 0 from rfl)] at hC2
        have hk := c_kind S2.1 S2.2.1 S2.2.2.1
        have hkd := kd_le b t (tk b t k1)
        have hC3 : lp_X5_read_28 cK (n + 1) μ = if kd b t (tk b t k1) = 0 then some (1, μ2) else some (0, μ2) := by
          rw [hC2]
          show cK μ2 = _
          unfold cK
          rw [hk, bs_q, i_0, il_eq (by omega) (by decide)]
        by_cases h0 : kd b t (tk b t k1) = 0
        · right
          have ht := kd_0 h0
          rw [if_pos h0] at hC3
          refine ⟨L + 1, c1, μ2, hC3, by omega, by omega, S2.2.2.2.1, e42, F2, fun i hi => by rw [code2, r6 i hi], r7, fun ν p R => ?_⟩
          obtain ⟨ν1, p1, g, s1, s2, s3, s4, s5⟩ := hR2 ν p R
          refine ⟨_, g, s5.trans (if_pos (by omega)), s1.stay.2.2.2.2.1, ?_, s3.upm _ (by omega), s4⟩
          rw [upm_n3 (by omega), s2]
        · left
          have ht := tl1.2 h0
          rw [if_neg h0] at hC3
          refine ⟨k1, μ2, hC3, S2.2.1, S2.2.2.1, F2, fun ν p R => ?_⟩
          obtain ⟨ν1, p1, g, s1, s2, s3, s4, s5⟩ := hR2 ν p R
          have hw := s1.wrong (k' := k1) (by omega) tl1.1
          exact ⟨_, _, s5.trans ((if_neg (by omega)).trans (if_neg h3)), hw.1, s3.trans hw.2⟩
/-- the whole text -/
theorem law_both {b : Nat → Nat} {t m : Nat} {μ : Mem} (T : TOK μ b t m) (e : μ 0 3 4 = 0) : OutW b t m μ 0 0 (f_X5_read μ) (fun ν => f_X10_read ν 1) := by
  obtain ⟨μ2, hμ2⟩ : ∃ μ2, μ2 = upm (upm μ 16 7 2 0) 16 7 4 0 := ⟨_, rfl⟩
  have S : CS b t m μ2 0 0 := by
    rw [hμ2]
    refine ⟨T.fr fun j i hj => by rw [upm_ne (by omega), upm_ne (by omega)], Nat.zero_le _, ?_, ?_, Nat.le_refl _⟩
    · rw [upm_n3 (by omega), upm_n3 (by omega), e]
      rfl
    · rw [upm_n3 (by omega), upm_at]
      rfl
  have e4 : μ2 16 7 4 = Int32.ofNat 0 := by
    rw [hμ2, upm_at]
    rfl
  have F2 : cL 0 μ μ2 := fun g j i q1 q2 => by rw [hμ2, upm_n3 (by omega), upm_n3 (by omega)]
  have hk := c_kind S.1 S.2.1 S.2.2.1
  have hkd := kd_le b t (tk b t 0)
  have tl := tk_lt S.1 S.2.1
  have hC : f_X5_read μ = if kd b t (tk b t 0) = 0 then some (1, μ2) else lp_X5_read_28 cK 4096 μ2 := by
    unfold f_X5_read
    rw [nm_q, nm_q, ← hμ2, hk, bs_q, i_0, il_eq (by omega) (by decide)]
    rfl
  have hR : ∀ ν p, RS b t ν 0 p 0 → f_X10_read ν 1 = if kd b t (tk b t 0) = 0 then some (Int32.ofNat 0, upm ν 0 12 11 (Int32.ofNat (tk b t 0))) else lp_X10_read_23 1 4096 1 (Int32.ofNat 0) (upm ν 0 12 11 (Int32.ofNat (tk b t 0))) := fun ν p R => by
    have hs := r_skip R.1 R.2.1 R.2.2.1
    rw [R.2.2.2.1] at hs
    have t1 := R.1.1
    unfold f_X10_read
    rw [hs, bs_q, nm_q, upm_n3 (by omega), R.1.2.1, upm_at, il_le (by omega) (by omega)]
    by_cases h0 : kd b t (tk b t 0) = 0
    · rw [if_pos (kd_0 h0), if_pos h0]
      exact law_end 4095 0 _
    · rw [if_neg (by have := tl.2 h0; omega), if_neg h0]
      rfl
  by_cases h0 : kd b t (tk b t 0) = 0
  · right
    rw [if_pos h0] at hC
    refine ⟨0, [], μ2, hC, by omega, by decide, S.2.2.2.1, e4, F2, fun i hi => absurd hi (Nat.not_lt_zero i), fun i hi => absurd hi (Nat.not_lt_zero i), fun ν p R => ?_⟩
    refine ⟨_, 0, (hR ν p R).trans (if_pos h0), R.stay.2.2.2.2.1, ?_, (rF.refl ν).upm _ (by omega), fun y => ?_⟩
    · rw [upm_n3 (by omega), Int32.add_zero]
    · rw [Int32.add_zero]
      rfl
  · rw [if_neg h0] at hC
    rcases law_loop (b := b) (t := t) (m := m) 12 0 rfl 0 0 μ2 4096 4096 (by decide) (by decide) S e4 with ⟨kE, μ3, u1, u2, u3, u4, u5⟩ | ⟨L3, c3, μ3, u1, u2, u3, u4, u5, u6, u7, u8, u9⟩
    · left
      refine ⟨kE, μ3, hC.trans u1, u2, u3, F2.trans u4 (by omega), fun ν p R => ?_⟩
      obtain ⟨x, ν3, w1, w2, w3⟩ := u5 _ _ R.stay
      exact ⟨x, ν3, ((hR ν p R).trans (if_neg h0)).trans w1, w2, ((rF.refl ν).upm _ (by omega)).trans w3⟩
    · right
      refine ⟨L3, c3, μ3, hC.trans u1, u2, u3, u4, u5, F2.trans u6 (by omega), u7, u8, fun ν p R => ?_⟩
      obtain ⟨ν3, g3, w1, w2, w3, w4, w5⟩ := u9 _ _ R.stay
      have fx : rF ν (upm ν 0 12 11 (Int32.ofNat (tk b t 0))) := (rF.refl ν).upm _ (by omega)
      rw [fx.facts] at w5
      exact ⟨ν3, g3, ((hR ν p R).trans (if_neg h0)).trans w1, w2, by rw [w3, upm_n3 (by omega)], fx.trans w4, w5⟩
