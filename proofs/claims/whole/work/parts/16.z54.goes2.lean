/-! ===== the reference's days, led on ===== -/
set_option maxHeartbeats 2000000 in
theorem r_lk {ev : Row → Int32} {μ : Mem} (H : HVx ev (μ 0 13)) {w : Nat} (hw : w < 256) (hb : ∀ g, g < 8 → w.testBit g = true → g < nv (μ 0 13) 3) : ∃ μ', FQ μ μ' ∧ μ' 0 13 = lkA w (μ 0 13) 8 ∧ HVx ev (μ' 0 13) ∧ ∀ K, lp_X10_goes_119 (Int32.ofNat w) K 4096 0 μ = K μ' := by
  have V := H.V
  have h8 := V.c8
  obtain ⟨s', f, ⟨i1, i2, i3, i4⟩, e⟩ := lpK (fun (K : Mem → Option (Int32 × Mem)) n (s : Int32 × Mem) => lp_X10_goes_119 (Int32.ofNat w) K n s.1 s.2) (fun k s => s.1 = Int32.ofNat k ∧ FQ μ s.2 ∧ s.2 0 13 = lkA w (μ 0 13) k ∧ HVx ev (s.2 0 13)) (nv (μ 0 13) 3) (by
    rintro k ⟨x, ν⟩ hk ⟨hx, hF, hr, hX⟩
    simp only at hx hF hr hX
    subst hx
    have hk8 : k < 8 := by omega
    have V2 := hX.V
    have hc8 := V2.c8
    have hn3 : nv (ν 0 13) 3 = nv (μ 0 13) 3 := by rw [hr, lkA_3]
    have hk2 : k < nv (ν 0 13) 3 := by omega
    have hlt : ¬ (ν 0 13 3 ≤ Int32.ofNat k) := by
      rw [V2.e3, on_le (by omega) (by omega)]
      omega
    have hX1 := hvx_draw hX
    have hrk := R_risk (upm_row ν 0 13 15 (drS (ν 0 13))) hX1.V hk8
    rw [rk_15] at hrk
    have rk := V2.rk10 hk8
    have hdr := r_draw (μ := ν) (n := 10) (by decide) (by decide)
    have dm : dvN (ν 0 13) % 10 < 10 := Nat.mod_lt _ (by decide)
    by_cases h1 : w.testBit k = true
    · by_cases h2 : rkN (ν 0 13) k ≤ dvN (ν 0 13) % 10
      · refine ⟨(Int32.ofNat (k + 1), upm ν 0 13 15 (drS (ν 0 13))), ⟨rfl, hF.row _ _, ?_, ?_⟩, fun K n => ?_⟩
        · show upm ν 0 13 _ _ 0 13 = lkS w (lkA w (μ 0 13) k) k
          unfold lkS
          rw [← hr, if_pos h1, if_pos h2, upm_row]
        · show HVx ev (upm ν 0 13 _ _ 0 13)
          rw [upm_row]
          exact hX1
        · show lp_X10_goes_119 _ _ _ _ _ = lp_X10_goes_119 _ _ _ _ _
          simp (disch := omega) only [lp_X10_goes_119, isOf_b w hw k hk8, hdr, hrk, hlt, h1, nm_q, bs_q, on_a, on_m, on_t, ix_on, le_t, le_f, lt_t, lt_f, eq_t, eq_f, ite_b0, ite_b1, ↓reduceIte, i_0, i_1, i_2, i_3, i_4, i_5, i_6, i_7, i_8, i_9, i_10, i_11, i_12, i_13, i_14, i_15, i_16, i_18, i_20, i_22, i_24, i_30, i_31, i_32, i_40, i_48, i_50, i_51, i_52, i_57, i_60, i_64, i_65, i_66, i_67, i_97, i_99, i_100, i_122, i_239, i_240, i_255, i_256, i_304, i_400, i_401, i_704, i_999, i_1000, i_2304, i_3344, i_3648, i_4096, i_9999, i_32767]
      · obtain ⟨ν2, m1, m2, m3⟩ := r_looks (upm ν 0 13 15 (drS (ν 0 13))) hk8
        rw [upm_row] at m3
        refine ⟨(Int32.ofNat (k + 1), ν2), ⟨rfl, (hF.row _ _).trans m2, ?_, ?_⟩, fun K n => ?_⟩
        · show ν2 0 13 = lkS w (lkA w (μ 0 13) k) k
          unfold lkS
          rw [← hr, if_pos h1, if_neg h2, m3]
        · show HVx ev (ν2 0 13)
          rw [m3]
          exact hvx_looks hX1 (by rw [nv_ne (by decide)]; exact hk2)
        · show lp_X10_goes_119 _ _ _ _ _ = lp_X10_goes_119 _ _ _ _ _
          simp (disch := omega) only [lp_X10_goes_119, isOf_b w hw k hk8, hdr, hrk, hlt, h1, m1, nm_q, bs_q, on_a, on_m, on_t, ix_on, le_t, le_f, lt_t, lt_f, eq_t, eq_f, ite_b0, ite_b1, ↓reduceIte, i_0, i_1, i_2, i_3, i_4, i_5, i_6, i_7, i_8, i_9, i_10, i_11, i_12, i_13, i_14, i_15, i_16, i_18, i_20, i_22, i_24, i_30, i_31, i_32, i_40, i_48, i_50, i_51, i_52, i_57, i_60, i_64, i_65, i_66, i_67, i_97, i_99, i_100, i_122, i_239, i_240, i_255, i_256, i_304, i_400, i_401, i_704, i_999, i_1000, i_2304, i_3344, i_3648, i_4096, i_9999, i_32767]
    · refine ⟨(Int32.ofNat (k + 1), ν), ⟨rfl, hF, ?_, hX⟩, fun K n => ?_⟩
      · show ν 0 13 = lkS w (lkA w (μ 0 13) k) k
        unfold lkS
        rw [if_neg h1]
        exact hr
      · show lp_X10_goes_119 _ _ _ _ _ = lp_X10_goes_119 _ _ _ _ _
        simp (disch := omega) only [lp_X10_goes_119, isOf_b w hw k hk8, hlt, h1, nm_q, bs_q, on_a, on_m, on_t, ix_on, le_t, le_f, lt_t, lt_f, eq_t, eq_f, ite_b0, ite_b1, ↓reduceIte, i_0, i_1, i_2, i_3, i_4, i_5, i_6, i_7, i_8, i_9, i_10, i_11, i_12, i_13, i_14, i_15, i_16, i_18, i_20, i_22, i_24, i_30, i_31, i_32, i_40, i_48, i_50, i_51, i_52, i_57, i_60, i_64, i_65, i_66, i_67, i_97, i_99, i_100, i_122, i_239, i_240, i_255, i_256, i_304, i_400, i_401, i_704, i_999, i_1000, i_2304, i_3344, i_3648, i_4096, i_9999, i_32767]
        rw [if_neg (by decide)]) 4096 (0, μ) (by omega) ⟨rfl, FQ.refl μ, rfl, H⟩
  have e8 : lkA w (μ 0 13) 8 = lkA w (μ 0 13) (nv (μ 0 13) 3) := by
    have : ∀ d, nv (μ 0 13) 3 + d ≤ 8 → lkA w (μ 0 13) (nv (μ 0 13) 3 + d) = lkA w (μ 0 13) (nv (μ 0 13) 3) := by
      intro d
      induction d with
      | zero => intro _; rfl
      | succ d ih =>
        intro hd
        rw [← ih (by omega)]
        show lkS w (lkA w (μ 0 13) (nv (μ 0 13) 3 + d)) (nv (μ 0 13) 3 + d) = _
        unfold lkS
        rw [if_neg]
        intro h
        have := hb _ (by omega) h
        omega
    have := this (8 - nv (μ 0 13) 3) (by omega)
    rwa [show nv (μ 0 13) 3 + (8 - nv (μ 0 13) 3) = 8 by omega] at this
  refine ⟨s'.2, i2, by rw [e8]; exact i3, i4, fun K => ?_⟩
  rw [show lp_X10_goes_119 (Int32.ofNat w) K 4096 0 μ = lp_X10_goes_119 (Int32.ofNat w) K (f + 1) s'.1 s'.2 from e K, i1, lp_X10_goes_119, show (3 : Int32) = Int32.ofNat 3 from rfl, ix_on (by decide) (by decide), on_t (by decide), i4.V.e3, i3, lkA_3, if_pos (Int32.le_refl _)]
theorem r_builds {μ : Mem} : f_X10_builds μ = some (upm (upm μ 0 13 8 (jmin 9999 (μ 0 13 8 + jmin (μ 0 13 6) (μ 0 13 7)))) 0 13 7 (μ 0 13 7 - jmin (μ 0 13 6) (μ 0 13 7))) ∧ (upm (upm μ 0 13 8 (jmin 9999 (μ 0 13 8 + jmin (μ 0 13 6) (μ 0 13 7)))) 0 13 7 (μ 0 13 7 - jmin (μ 0 13 6) (μ 0 13 7))) 0 13 = bdS (μ 0 13) := by
  refine ⟨?_, ?_⟩
  · unfold f_X10_builds
    simp (disch := omega) only [lesser_e, upm_n3, nm_q, bs_q, on_a, on_m, on_t, ix_on, le_t, le_f, lt_t, lt_f, eq_t, eq_f, ite_b0, ite_b1, ↓reduceIte, i_0, i_1, i_2, i_3, i_4, i_5, i_6, i_7, i_8, i_9, i_10, i_11, i_12, i_13, i_14, i_15, i_16, i_18, i_20, i_22, i_24, i_30, i_31, i_32, i_40, i_48, i_50, i_51, i_52, i_57, i_60, i_64, i_65, i_66, i_67, i_97, i_99, i_100, i_122, i_239, i_240, i_255, i_256, i_304, i_400, i_401, i_704, i_999, i_1000, i_2304, i_3344, i_3648, i_4096, i_9999, i_32767]
  · rw [upm_row, upm_row]
    rfl
set_option maxHeartbeats 2000000 in
/-- one day of the reference -/
theorem r_day {ev : Row → Int32} {μ : Mem} (H : HVx ev (μ 0 13)) (b : Bool) {m k : Nat} (hk : k < m) (hm : m ≤ 400) : ∃ μ', FQ μ μ' ∧ μ' 0 13 = (if b = true then dyL ev (μ 0 13) else dyF ev (hrC (μ 0 13)) (μ 0 13)) ∧ HVx ev (μ' 0 13) ∧ ∀ K n, lp_X10_goes_11 (Int32.ofNat m) (bI b) K (n + 1) (Int32.ofNat k) μ = lp_X10_goes_11 (Int32.ofNat m) (bI b) K n (Int32.ofNat (k + 1)) μ' := by
  obtain ⟨ν, t1, t2, t3, t4⟩ := r_td H
  have V1 := t3.V
  have h81 := V1.c8
  have hlt : ¬ Int32.ofNat m ≤ Int32.ofNat k := by
    rw [on_le (by omega) (by omega)]
    omega
  have hb0 : ¬ Int32.ofNat 1 = 0 := by decide
  -- who is to be drawn for
  have hq : ∃ w, w < 256 ∧ (∀ g, g < 8 → w.testBit g = true → g < nv (ν 0 13) 3) ∧ (lkA w (ν 0 13) 8 = if b = true then lkB2 (ν 0 13) else ν 0 13) ∧ ∀ X : Int32 → Option (Int32 × Mem), (nm (X 0) fun (J113 : Option (Int32 × Mem)) => if bI b = 0 then (J113) else (ix 5 704 (ix 10 704 ((f_X10_isSaturday ν (ν 0 13 (Int32.toNatClampNeg 5)) (ν 0 13 (Int32.toNatClampNeg 10))).bind fun (q29 : Int32) => if q29 = 0 then (J113) else (ix 4 704 ((f_X10_watchers ν (ν 0 13 (Int32.toNatClampNeg 4))).bind fun (q30 : Int32) => X q30)))))) = X (Int32.ofNat w) := by
    have z0 : ∀ k, lkA 0 (ν 0 13) k = ν 0 13 := by
      intro k
      induction k with
      | zero => rfl
      | succ k ih =>
        show lkS 0 (lkA 0 (ν 0 13) k) k = _
        unfold lkS
        rw [if_neg (by rw [Nat.zero_testBit]; decide), ih]
    cases b
    · refine ⟨0, by decide, fun g _ h => absurd ((Nat.zero_testBit g).symm.trans h) (by decide), by rw [z0, if_neg (by decide)], fun X => ?_⟩
      rw [nm_q, bI_f, if_pos rfl] <;> rfl
    · by_cases hs : satI (ν 0 13) (nv (ν 0 13) 5) (ν 0 13 10) = true
      · refine ⟨wt (ν 0 13) (nv (ν 0 13) 4), wt_256 V1 _, fun g _ h => wt_lt h, ?_, fun X => ?_⟩
        · unfold lkB2
          rw [if_pos rfl, if_pos hs]
        · rw [nm_q, bI_t, if_neg (by decide)]
          simp (disch := omega) only [V1.e5, V1.e4, r_isSat (rfl : ν 0 13 = ν 0 13) V1.b5, r_watchers V1 V1.b4, hs, nm_q, bs_q, on_a, on_m, on_t, ix_on, le_t, le_f, lt_t, lt_f, eq_t, eq_f, ite_b0, ite_b1, ↓reduceIte, i_0, i_1, i_2, i_3, i_4, i_5, i_6, i_7, i_8, i_9, i_10, i_11, i_12, i_13, i_14, i_15, i_16, i_18, i_20, i_22, i_24, i_30, i_31, i_32, i_40, i_48, i_50, i_51, i_52, i_57, i_60, i_64, i_65, i_66, i_67, i_97, i_99, i_100, i_122, i_239, i_240, i_255, i_256, i_304, i_400, i_401, i_704, i_999, i_1000, i_2304, i_3344, i_3648, i_4096, i_9999, i_32767]
      · refine ⟨0, by decide, fun g _ h => absurd ((Nat.zero_testBit g).symm.trans h) (by decide), ?_, fun X => ?_⟩
        · unfold lkB2
          rw [z0, if_pos rfl, if_neg hs]
        · rw [nm_q, bI_t, if_neg (by decide)]
          simp (disch := omega) only [V1.e5, V1.e4, r_isSat (rfl : ν 0 13 = ν 0 13) V1.b5, hs, nm_q, bs_q, on_a, on_m, on_t, ix_on, le_t, le_f, lt_t, lt_f, eq_t, eq_f, ite_b0, ite_b1, ↓reduceIte, i_0, i_1, i_2, i_3, i_4, i_5, i_6, i_7, i_8, i_9, i_10, i_11, i_12, i_13, i_14, i_15, i_16, i_18, i_20, i_22, i_24, i_30, i_31, i_32, i_40, i_48, i_50, i_51, i_52, i_57, i_60, i_64, i_65, i_66, i_67, i_97, i_99, i_100, i_122, i_239, i_240, i_255, i_256, i_304, i_400, i_401, i_704, i_999, i_1000, i_2304, i_3344, i_3648, i_4096, i_9999, i_32767]
          rw [if_neg (by decide)]
  obtain ⟨w, w1, w2, w3, w4⟩ := hq
  obtain ⟨ν2, l1, l2, l3, l4⟩ := r_lk t3 w1 w2
  obtain ⟨b1, b2⟩ := r_builds (μ := ν2)
  generalize hν3 : (upm (upm ν2 0 13 8 (jmin 9999 (ν2 0 13 8 + jmin (ν2 0 13 6) (ν2 0 13 7)))) 0 13 7 (ν2 0 13 7 - jmin (ν2 0 13 6) (ν2 0 13 7))) = ν3 at b1 b2
  have F3 : FQ μ ν3 := by
    rw [← hν3]
    exact ((t1.trans l1).row _ _).row _ _
  have X3 : HVx ev (ν3 0 13) := by
    rw [b2]
    exact hvx_bd l3
  have V3 := X3.V
  -- the night
  have hn : ∃ ν4 : Mem, FQ μ ν4 ∧ ν4 0 13 = (if b = true then brS (ν3 0 13) else ν3 0 13) ∧ ∀ Y : Mem → Option (Int32 × Mem), (if bI b = 0 then (Y ν3) else ((f_X10_draw ν3 100).bind fun (q26 : Int32 × Mem) => ix 9 704 (if (q26.2 0 13 (Int32.toNatClampNeg 9)) ≤ q26.1 then (Y q26.2) else ((f_X10_draw q26.2 8).bind fun (q27 : Int32 × Mem) => ix (16 + q27.1) 704 (ix (16 + q27.1) 704 (nm (upm q27.2 0 13 (16 + q27.1).toNatClampNeg ((q27.2 0 13 (16 + q27.1).toNatClampNeg) ||| (jshl 1 (jrem (q27.1 + 1) 8)))) fun (μ28 : Mem) => Y μ28)))))) = Y ν4 := by
    cases b
    · exact ⟨ν3, F3, by rw [if_neg (by decide)], fun Y => by rw [bI_f, if_pos rfl]⟩
    · have hd1 := r_draw (μ := ν3) (n := 100) (by decide) (by decide)
      have dm : dvN (ν3 0 13) % 100 < 100 := Nat.mod_lt _ (by decide)
      have e9 : ν3 0 13 9 = Int32.ofNat (nv (ν3 0 13) 9) := V3.e (i := 9) (by decide)
      have b9 : nv (ν3 0 13) 9 ≤ 100 := V3.b (i := 9) (by decide)
      by_cases h2 : nv (ν3 0 13) 9 ≤ dvN (ν3 0 13) % 100
      · refine ⟨upm ν3 0 13 15 (drS (ν3 0 13)), F3.row _ _, ?_, fun Y => ?_⟩
        · rw [if_pos rfl, upm_row]
          unfold brS
          rw [if_pos h2]
        · rw [bI_t, if_neg (by decide), show (100 : Int32) = Int32.ofNat 100 from rfl, hd1]
          simp (disch := omega) only [upm_n3, e9, nm_q, bs_q, on_a, on_m, on_t, ix_on, le_t, le_f, lt_t, lt_f, eq_t, eq_f, ite_b0, ite_b1, ↓reduceIte, i_0, i_1, i_2, i_3, i_4, i_5, i_6, i_7, i_8, i_9, i_10, i_11, i_12, i_13, i_14, i_15, i_16, i_18, i_20, i_22, i_24, i_30, i_31, i_32, i_40, i_48, i_50, i_51, i_52, i_57, i_60, i_64, i_65, i_66, i_67, i_97, i_99, i_100, i_122, i_239, i_240, i_255, i_256, i_304, i_400, i_401, i_704, i_999, i_1000, i_2304, i_3344, i_3648, i_4096, i_9999, i_32767]
      · have hd2 := r_draw (μ := upm ν3 0 13 15 (drS (ν3 0 13))) (n := 8) (by decide) (by decide)
        rw [upm_row] at hd2
        have hP : dvN (upd (ν3 0 13) 15 (drS (ν3 0 13))) % 8 < 8 := Nat.mod_lt _ (by decide)
        generalize hPe : dvN (upd (ν3 0 13) 15 (drS (ν3 0 13))) % 8 = P at hP hd2
        have hP2 : (P + 1) % 8 < 8 := Nat.mod_lt _ (by decide)
        refine ⟨upm (upm (upm ν3 0 13 15 (drS (ν3 0 13))) 0 13 15 (drS (upd (ν3 0 13) 15 (drS (ν3 0 13))))) 0 13 (16 + P) (Int32.ofNat (nv (ν3 0 13) (16 + P) ||| 2 ^ ((P + 1) % 8))), ((F3.row _ _).row _ _).row _ _, ?_, fun Y => ?_⟩
        · rw [if_pos rfl, upm_row, upm_row, upm_row]
          unfold brS
          rw [if_neg h2, hPe]
        · rw [bI_t, if_neg (by decide), show (100 : Int32) = Int32.ofNat 100 from rfl, hd1, show (8 : Int32) = Int32.ofNat 8 from rfl]
          simp (disch := omega) only [upm_n3, e9, hd2, on_r, V3.he hP, or_b _ (V3.hb hP) _ hP2, nm_q, bs_q, on_a, on_m, on_t, ix_on, le_t, le_f, lt_t, lt_f, eq_t, eq_f, ite_b0, ite_b1, ↓reduceIte, i_0, i_1, i_2, i_3, i_4, i_5, i_6, i_7, i_8, i_9, i_10, i_11, i_12, i_13, i_14, i_15, i_16, i_18, i_20, i_22, i_24, i_30, i_31, i_32, i_40, i_48, i_50, i_51, i_52, i_57, i_60, i_64, i_65, i_66, i_67, i_97, i_99, i_100, i_122, i_239, i_240, i_255, i_256, i_304, i_400, i_401, i_704, i_999, i_1000, i_2304, i_3344, i_3648, i_4096, i_9999, i_32767]
  obtain ⟨ν4, n1, n2, n3⟩ := hn
  have X4 : HVx ev (ν4 0 13) := by
    rw [n2]
    split
    · exact hvx_br X3
    · exact X3
  refine ⟨upm ν4 0 13 10 (jmin 9999 (ν4 0 13 10 + 1)), n1.row _ _, ?_, ?_, fun K n => ?_⟩
  · rw [upm_row, n2, b2, l2, w3, t2]
    unfold dyL dyF
    cases b
    · rw [if_neg (by decide), if_neg (by decide), if_neg (by decide)]
      rfl
    · rw [if_pos rfl, if_pos rfl, if_pos rfl]
      rfl
  · rw [upm_row]
    exact hvx_dy X4
  · rw [lp_X10_goes_11, if_neg hlt, t4, nm_q]
    refine Eq.trans (w4 (fun (x14 : Int32) => lp_X10_goes_119 x14 (fun (μ15 : Mem) => (f_X10_builds μ15).bind fun (q22 : Mem) => nm (fun (μ23 : Mem) => ix 10 704 ((f_X10_lesser 9999 ((μ23 0 13 (Int32.toNatClampNeg 10)) + 1)).bind fun (q24 : Int32) => ix 10 704 (nm (upm μ23 0 13 (Int32.toNatClampNeg 10) q24) fun (μ25 : Mem) => lp_X10_goes_11 (Int32.ofNat m) (bI b) K n (Int32.ofNat k + 1) μ25))) fun (J221 : Mem → Option (Int32 × Mem)) => if bI b = 0 then (J221 q22) else ((f_X10_draw q22 100).bind fun (q26 : Int32 × Mem) => ix 9 704 (if (q26.2 0 13 (Int32.toNatClampNeg 9)) ≤ q26.1 then (J221 q26.2) else ((f_X10_draw q26.2 8).bind fun (q27 : Int32 × Mem) => ix (16 + q27.1) 704 (ix (16 + q27.1) 704 (nm (upm q27.2 0 13 (16 + q27.1).toNatClampNeg ((q27.2 0 13 (16 + q27.1).toNatClampNeg) ||| (jshl 1 (jrem (q27.1 + 1) 8)))) fun (μ28 : Mem) => J221 μ28)))))) 4096 0 ν)) ?_
    rw [l4, b1]
    simp only [bs_q]
    rw [nm_q]
    refine Eq.trans (n3 (fun (μ23 : Mem) => ix 10 704 ((f_X10_lesser 9999 ((μ23 0 13 (Int32.toNatClampNeg 10)) + 1)).bind fun (q24 : Int32) => ix 10 704 (nm (upm μ23 0 13 (Int32.toNatClampNeg 10) q24) fun (μ25 : Mem) => lp_X10_goes_11 (Int32.ofNat m) (bI b) K n (Int32.ofNat k + 1) μ25)))) ?_
    rw [show (10 : Int32) = Int32.ofNat 10 from rfl, ix_on (by decide) (by decide), on_t (by decide), lesser_e]
    simp only [bs_q]
    rw [ix_on (by decide) (by decide), nm_q, show (1 : Int32) = Int32.ofNat 1 from rfl, on_a]
theorem hvx_dayB {ev : Row → Int32} {r : Row} (H : HVx ev r) : HVx ev (dyL ev r) ∧ HVx ev (dyF ev (hrC r) r) := by
  obtain ⟨c, h⟩ := H
  have h8 := h.1.c8
  obtain ⟨μ1, -, m1, -⟩ := c_liveDay (h := 0) (μ := fun _ => c) h
  obtain ⟨μ2, -, m2, -⟩ := c_foresee (h := 0) (μ := fun _ => c) h (mk_256 (hrB r) h8)
  rw [Nat.and_self, hrC_tb h8] at m2
  exact ⟨⟨_, m1⟩, ⟨_, m2⟩⟩
def dyG (ev : Row → Int32) (b : Bool) (r : Row) : Row := if b = true then dyL ev r else dyF ev (hrC r) r
/-- so many days of the reference -/
theorem r_goes {ev : Row → Int32} {μ : Mem} (H : HVx ev (μ 0 13)) (b : Bool) {m : Nat} (hm : m ≤ 400) : ∃ μ', f_X10_goes μ (Int32.ofNat m) (bI b) = some (itR (dyG ev b) (μ 0 13) m 11 - μ 0 13 11, μ') ∧ FQ μ μ' ∧ μ' 0 13 = itR (dyG ev b) (μ 0 13) m ∧ HVx ev (μ' 0 13) := by
  obtain ⟨s', f, ⟨i1, i2, i3, i4⟩, e⟩ := lpK (fun (K : Mem → Option (Int32 × Mem)) n (s : Int32 × Mem) => lp_X10_goes_11 (Int32.ofNat m) (bI b) K n s.1 s.2) (fun k s => s.1 = Int32.ofNat k ∧ FQ μ s.2 ∧ s.2 0 13 = itR (dyG ev b) (μ 0 13) k ∧ HVx ev (s.2 0 13)) m (by
    rintro k ⟨x, ν⟩ hk ⟨hx, hF, hr, hX⟩
    simp only at hx hF hr hX
    subst hx
    obtain ⟨ν2, a1, a2, a3, a4⟩ := r_day hX b hk hm
    refine ⟨(Int32.ofNat (k + 1), ν2), ⟨rfl, hF.trans a1, ?_, a3⟩, fun K n => a4 K n⟩
    show ν2 0 13 = dyG ev b (itR (dyG ev b) (μ 0 13) k)
    rw [a2, hr]
    rfl) 4096 (0, μ) (by omega) ⟨rfl, FQ.refl μ, rfl, H⟩
  refine ⟨s'.2, ?_, i2, i3, i4⟩
  unfold f_X10_goes
  rw [show (11 : Int32) = Int32.ofNat 11 from rfl, ix_on (by decide) (by decide), on_t (by decide), nm_q]
  refine Eq.trans (e _) ?_
  show lp_X10_goes_11 _ _ _ _ s'.1 s'.2 = _
  rw [i1, lp_X10_goes_11, if_pos (Int32.le_refl _), ix_on (by decide) (by decide), i3]
