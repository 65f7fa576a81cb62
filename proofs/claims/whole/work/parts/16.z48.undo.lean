/-! ===== the seed, acts undone, the image ===== -/
theorem HV.cr {ev : Row → Int32} {c : Nat → Nat → Int32} {r r' : Row} (h : ∀ i, i < 704 → r' i = r i) (H : HV ev c r) : HV ev c r' := by
  have V : Vr r' := fun i hi => by
    rw [h i (okI_lt hi)]
    exact H.1 i hi
  have h8 := H.1.c8
  have hn : ∀ i, i < 704 → nv r' i = nv r i := fun i hi => by unfold nv; rw [h i hi]
  have hk : ∀ g, g < 8 → kyB r' g = kyB r g := fun g hg => by unfold kyB; rw [h _ (by omega)]
  have hh : ∀ g, g < 8 → hrB r' g = hrB r g := fun g hg => by unfold hrB; rw [h _ (by omega)]
  have hl := lg_b H.1
  refine ⟨V, ?_, ?_, ?_, H.2.2.2.2.cg (h 1 (by decide)) (h 2 (by decide)) (fun i _ hi => h i hi)⟩
  · obtain ⟨⟨b1, b2, b3, b4, b5, b6, b7, b8, b9, b10, b11, b12, b13⟩, k1, k2, k3, k4⟩ := H.2.1
    refine ⟨⟨?_, ?_, ?_, ?_, ?_, ?_, ?_, ?_, ?_, ?_, ?_, ?_, ?_⟩, ?_, ?_, fun g hg => ?_, fun k hk => ?_⟩
    all_goals first | (rw [h _ (by decide)]; assumption) | skip
    · rw [hn 3 (by decide), k1, mk_cg fun k hk9 => hk k (by omega)]
    · rw [hn 3 (by decide), k2, mk_cg fun k hk9 => hh k (by omega)]
    · rw [hn 3 (by decide)] at hg
      rw [h _ (by omega), h _ (by omega), h _ (by omega)]
      exact k3 g hg
    · rw [h _ (by omega)]
      exact k4 k hk
  · obtain ⟨b1, nx, b2, b3, b4⟩ := H.2.2.1
    refine ⟨by rw [h 14 (by decide)]; exact b1, nx, b2, b3, fun ago ha w hw => ?_⟩
    rw [hn 14 (by decide)] at ha
    rw [h _ (by omega)]
    exact b4 ago ha w hw
  · unfold LWr
    rw [h 1 (by decide)]
    exact H.2.2.2.1
theorem q_seed {μ : Mem} (R : Rel μ) (a : Int32) : AgN (f_X9_seed μ a) (fun μ' => f_X10_seed μ' a) := by
  obtain ⟨ev, H, T⟩ := R.ex
  have es : μ 1 0 15 = μ 0 13 15 := R.H.seed
  refine ⟨μ 0 13 15, upm μ 1 0 15 a, upm (upm (upm μ 1 0 15 a) 0 12 0 0) 0 13 15 a, ?_, ?_, ?_⟩
  · unfold f_X9_seed
    rw [nm_q, es]
  · show f_X10_seed _ a = _
    unfold f_X10_seed
    simp (disch := omega) only [upm_ne, upm_ng, ne_eq, Nat.zero_ne_one, not_false_eq_true, nm_q, show (15 : Int32) = Int32.ofNat 15 from rfl, ix_on, on_t, show (0 : Nat) ≠ 1 from by decide]
  · refine Rel.mk (ev := ev) ?_ (T.fr fun g j i hs hg hn => ?_)
    · have e1 : (upm (upm (upm μ 1 0 15 a) 0 12 0 0) 0 13 15 a) 1 = (upm μ 1 0 15 a) 1 := by rw [upm_ng (by decide), upm_ng (by decide)]
      rw [e1, upm_row, upm_ne (by omega), upm_ng (show (0 : Nat) ≠ 1 by decide)]
      exact setc_cl (ci := 15) H (by decide) (fun h => by cases h) (by rw [upm_at]) (fun j i h => by rw [upm_n3 (by omega)])
    · rw [upm_n3 (by omega), upm_n3 (by rintro ⟨rfl, rfl, rfl⟩; cases hs), upm_ng hg]
theorem r_undo26 {μ : Mem} {a : Nat} (ha : a < 12) (hm : μ 0 12 6 = Int32.ofNat a) : lp_X10_undo_26 4096 0 μ = some (1, upA μ 0 13 (fl (μ 0 13) (fun i => μ 0 16 (304 * a + i)) 0 304)) := by
  suffices h : lp_X10_undo_26 4096 (Int32.ofNat 0) (upA μ 0 13 (fl (μ 0 13) (fun i => μ 0 16 (304 * a + i)) 0 0)) = some (1, upA μ 0 13 (fl (μ 0 13) (fun i => μ 0 16 (304 * a + i)) 0 304)) by
    rw [fl_0, upA_id] at h
    exact h
  refine lpF (fun n (s : Int32 × Mem) => lp_X10_undo_26 n s.1 s.2) (fun k => (Int32.ofNat k, upA μ 0 13 (fl (μ 0 13) (fun i => μ 0 16 (304 * a + i)) 0 k))) 304 _ (fun k hk n => ?_) (fun n => ?_) 4096 (by decide)
  · show lp_X10_undo_26 _ _ _ = lp_X10_undo_26 _ _ _
    simp (disch := omega) only [lp_X10_undo_26, upA_ne, hm, nm_q, bs_q, on_a, on_m, on_t, ix_on, le_t, le_f, lt_t, lt_f, eq_t, eq_f, ite_b0, ite_b1, ↓reduceIte, i_0, i_1, i_2, i_3, i_4, i_5, i_6, i_7, i_8, i_9, i_10, i_11, i_12, i_13, i_14, i_15, i_16, i_18, i_20, i_22, i_24, i_30, i_31, i_32, i_40, i_48, i_50, i_51, i_52, i_57, i_60, i_64, i_65, i_66, i_67, i_97, i_99, i_100, i_122, i_239, i_240, i_255, i_256, i_304, i_400, i_401, i_704, i_999, i_1000, i_2304, i_3344, i_3648, i_4096, i_9999, i_32767]
    rw [upm_upA, ← fl_s, Nat.zero_add]
  · show lp_X10_undo_26 _ _ _ = _
    rw [lp_X10_undo_26, if_pos (show (304 : Int32) ≤ Int32.ofNat 304 by decide)]
theorem q_undo {μ : Mem} (R : Rel μ) : AgN (f_X9_undo μ) f_X10_undo := by
  obtain ⟨ev, H, ⟨k, nx, a1, a2, a3, a4, a5, a6⟩, T2, T3, T4⟩ := R.ex
  have hx : jrem ((Int32.ofNat nx + Int32.ofNat 12) - Int32.ofNat 1) (Int32.ofNat 12) = Int32.ofNat ((nx + 11) % 12) := by
    rw [on_a, on_sb (by omega), on_r (by omega) (by decide), show nx + 12 - 1 = nx + 11 by omega]
  have hm : (nx + 11) % 12 < 12 := Nat.mod_lt _ (by decide)
  by_cases hk : k = 0
  · subst hk
    refine ⟨0, μ, upm μ 0 12 0 0, ?_, ?_, R.fr ((FrS.refl μ).upm 0 rfl)⟩
    · unfold f_X9_undo f_X6_takeBack
      simp only [nm_q]
      rw [a3, a4, show (12 : Int32) = Int32.ofNat 12 from rfl, show (1 : Int32) = Int32.ofNat 1 from rfl, show (0 : Int32) = Int32.ofNat 0 from rfl, hx, if_neg (by rw [on_lt (by omega) (by decide)]; omega), if_neg (by rw [on_le (by decide) (by omega)]; omega), ix_on hm (by decide), if_pos rfl]
      rfl
    · unfold f_X10_undo
      simp only [nm_q]
      rw [upm_n3 (by omega), a5, if_pos (show Int32.ofNat 0 = 0 from rfl)]
  · obtain ⟨k, rfl⟩ : ∃ j, k = j + 1 := ⟨k - 1, by omega⟩
    have h0 := a6 0 (by omega)
    rw [show 4 + (nx + 11 - 0) % 12 = (nx + 11) % 12 + 3 + 1 by omega, show k + 1 - 1 - 0 = k by omega] at h0
    obtain ⟨ν, b1, b2, b3⟩ := hv_copy (d := 0) (s := (nx + 11) % 12 + 3) (by omega) h0
    have hν : ∀ j, ν 0 j = μ 0 j := fun j => by rw [b2 0 (by omega)]
    refine ⟨1, upm (upm ν 0 9 1 (Int32.ofNat ((nx + 11) % 12))) 0 9 2 (Int32.ofNat k), upA (upm (upm (upm (upm ν 0 9 1 (Int32.ofNat ((nx + 11) % 12))) 0 9 2 (Int32.ofNat k)) 0 12 0 0) 0 12 6 (Int32.ofNat k)) 0 13 (fl (μ 0 13) (fun i => μ 0 16 (304 * k + i)) 0 304), ?_, ?_, ?_⟩
    · unfold f_X9_undo f_X6_takeBack
      simp only [nm_q]
      rw [a3, a4, show (12 : Int32) = Int32.ofNat 12 from rfl, show (1 : Int32) = Int32.ofNat 1 from rfl, show (0 : Int32) = Int32.ofNat 0 from rfl, hx, if_neg (by rw [on_lt (by omega) (by decide)]; omega), if_neg (by rw [on_le (by decide) (by omega)]; omega), ix_on hm (by decide), if_neg (by rw [on_eq (by omega) (by decide)]; omega), on_t (by omega), b1]
      simp only [bs_q]
      rw [upm_n3 (by omega), hν, a4, on_sb (by omega)]
      rfl
    · unfold f_X10_undo
      simp only [nm_q]
      have e6 : (upm (upm (upm ν 0 9 1 (Int32.ofNat ((nx + 11) % 12))) 0 9 2 (Int32.ofNat k)) 0 12 0 0) 0 12 6 = Int32.ofNat (k + 1) := by
        rw [upm_n3 (by omega), upm_ne (by omega), upm_ne (by omega), hν, a5]
      rw [e6, if_neg (by rw [show (0 : Int32) = Int32.ofNat 0 from rfl, on_eq (by omega) (by decide)]; omega), show (1 : Int32) = Int32.ofNat 1 from rfl, on_sb (by omega), show k + 1 - 1 = k by omega, r_undo26 (show k < 12 by omega) (upm_at _ _ _ _ _)]
      rw [upm_ne (by omega), upm_ne (by omega), upm_ne (by omega), upm_ne (by omega), upm_ne (by omega), upm_ne (by omega), upm_ne (by omega), upm_ne (by omega), hν, hν]
      rfl
    · have erow : fl (μ 0 13) (fun i => μ 0 16 (304 * k + i)) 0 304 = pastR μ k := funext fun j => by
        unfold fl pastR
        by_cases hj : j < 304
        · rw [if_pos (by omega), if_pos hj]
        · rw [if_neg (by omega), if_neg hj]
      rw [erow]
      have hg : ∀ g, g ≠ 0 → (upA (upm (upm (upm (upm ν 0 9 1 (Int32.ofNat ((nx + 11) % 12))) 0 9 2 (Int32.ofNat k)) 0 12 0 0) 0 12 6 (Int32.ofNat k)) 0 13 (pastR μ k)) g = ν g := fun g hg => funext fun j => by
        rw [upA_ne (by omega), upm_ng hg, upm_ng hg, upm_ng hg, upm_ng hg]
      have h0j : ∀ j, j ≠ 9 → j ≠ 12 → j ≠ 13 → (upA (upm (upm (upm (upm ν 0 9 1 (Int32.ofNat ((nx + 11) % 12))) 0 9 2 (Int32.ofNat k)) 0 12 0 0) 0 12 6 (Int32.ofNat k)) 0 13 (pastR μ k)) 0 j = μ 0 j := fun j h1 h2 h3 => by
        rw [upA_ne (by omega), upm_ne (by omega), upm_ne (by omega), upm_ne (by omega), upm_ne (by omega), hν]
      have h12 : ∀ i, i ≠ 0 → i ≠ 6 → (upA (upm (upm (upm (upm ν 0 9 1 (Int32.ofNat ((nx + 11) % 12))) 0 9 2 (Int32.ofNat k)) 0 12 0 0) 0 12 6 (Int32.ofNat k)) 0 13 (pastR μ k)) 0 12 i = μ 0 12 i := fun i h1 h2 => by
        rw [upA_ne (by omega), upm_n3 (by omega), upm_n3 (by omega), upm_ne (by omega), upm_ne (by omega), hν]
      generalize hM : (upA (upm (upm (upm (upm ν 0 9 1 (Int32.ofNat ((nx + 11) % 12))) 0 9 2 (Int32.ofNat k)) 0 12 0 0) 0 12 6 (Int32.ofNat k)) 0 13 (pastR μ k)) = M at hg h0j h12 ⊢
      refine Rel.mk (ev := ev) ?_ ⟨⟨k, (nx + 11) % 12, by omega, hm, ?_, ?_, ?_, fun i hi => ?_⟩, ?_, ?_, ?_⟩
      · rw [hg 1 (by decide), ← hM, upA_at]
        exact b3
      · rw [← hM, upA_ne (by omega), upm_ne (by omega), upm_ne (by omega), upm_n3 (by omega), upm_at]
      · rw [← hM, upA_ne (by omega), upm_ne (by omega), upm_ne (by omega), upm_at]
      · rw [← hM, upA_ne (by omega), upm_at]
      · have e1 : pastR M (k - 1 - i) = pastR μ (k + 1 - 1 - (i + 1)) := funext fun j => by
          unfold pastR
          by_cases hj : j < 304
          · rw [if_pos hj, if_pos hj, h0j 16 (by decide) (by decide) (by decide), show k + 1 - 1 - (i + 1) = k - 1 - i by omega]
          · rw [if_neg hj, if_neg hj, ← hM, upA_at]
            unfold pastR
            rw [if_neg hj]
        rw [e1, show 4 + ((nx + 11) % 12 + 11 - i) % 12 = 4 + (nx + 11 - (i + 1)) % 12 by omega, hg _ (by omega), b2 _ (by omega)]
        exact a6 (i + 1) (by omega)
      · obtain ⟨t, d1, d2, d3, d4⟩ := T2
        refine ⟨t, d1, by rw [h0j 1 (by decide) (by decide) (by decide)]; exact d2, by rw [h12 8 (by decide) (by decide)]; exact d3, fun i hi => ?_⟩
        rw [h0j 2 (by decide) (by decide) (by decide), h0j 17 (by decide) (by decide) (by decide)]
        exact d4 i hi
      · rw [h0j 0 (by decide) (by decide) (by decide), h12 12 (by decide) (by decide)]
        exact T3
      · unfold IMG BQ
        rw [h12 15 (by decide) (by decide), h12 16 (by decide) (by decide), h0j 0 (by decide) (by decide) (by decide), h12 3 (by decide) (by decide), h0j 14 (by decide) (by decide) (by decide), hg 3 (by decide), b2 3 (by decide)]
        exact T4
theorem r_image7 (μ : Mem) (K : Mem → Option Mem) : lp_X10_image_7 K 4096 0 μ = K (upA μ 0 14 (fl (μ 0 14) (μ 0 13) 0 704)) := by
  suffices h : lp_X10_image_7 K 4096 (Int32.ofNat 0) (upA μ 0 14 (fl (μ 0 14) (μ 0 13) 0 0)) = K (upA μ 0 14 (fl (μ 0 14) (μ 0 13) 0 704)) by
    rw [fl_0, upA_id] at h
    exact h
  refine lpF (fun n (s : Int32 × Mem) => lp_X10_image_7 K n s.1 s.2) (fun k => (Int32.ofNat k, upA μ 0 14 (fl (μ 0 14) (μ 0 13) 0 k))) 704 _ (fun k hk n => ?_) (fun n => ?_) 4096 (by decide)
  · show lp_X10_image_7 _ _ _ _ = lp_X10_image_7 _ _ _ _
    simp (disch := omega) only [lp_X10_image_7, upA_ne, nm_q, bs_q, on_a, on_m, on_t, ix_on, le_t, le_f, lt_t, lt_f, eq_t, eq_f, ite_b0, ite_b1, ↓reduceIte, i_0, i_1, i_2, i_3, i_4, i_5, i_6, i_7, i_8, i_9, i_10, i_11, i_12, i_13, i_14, i_15, i_16, i_18, i_20, i_22, i_24, i_30, i_31, i_32, i_40, i_48, i_50, i_51, i_52, i_57, i_60, i_64, i_65, i_66, i_67, i_97, i_99, i_100, i_122, i_239, i_240, i_255, i_256, i_304, i_400, i_401, i_704, i_999, i_1000, i_2304, i_3344, i_3648, i_4096, i_9999, i_32767]
    rw [upm_upA, ← fl_s, Nat.zero_add]
  · show lp_X10_image_7 _ _ _ _ = _
    rw [lp_X10_image_7, if_pos (show (704 : Int32) ≤ Int32.ofNat 704 by decide)]
theorem r_back16 (μ : Mem) (K : Mem → Option (Int32 × Mem)) : lp_X10_back_16 K 4096 0 μ = K (upA μ 0 13 (fl (μ 0 13) (μ 0 14) 0 704)) := by
  suffices h : lp_X10_back_16 K 4096 (Int32.ofNat 0) (upA μ 0 13 (fl (μ 0 13) (μ 0 14) 0 0)) = K (upA μ 0 13 (fl (μ 0 13) (μ 0 14) 0 704)) by
    rw [fl_0, upA_id] at h
    exact h
  refine lpF (fun n (s : Int32 × Mem) => lp_X10_back_16 K n s.1 s.2) (fun k => (Int32.ofNat k, upA μ 0 13 (fl (μ 0 13) (μ 0 14) 0 k))) 704 _ (fun k hk n => ?_) (fun n => ?_) 4096 (by decide)
  · show lp_X10_back_16 _ _ _ _ = lp_X10_back_16 _ _ _ _
    simp (disch := omega) only [lp_X10_back_16, upA_ne, nm_q, bs_q, on_a, on_m, on_t, ix_on, le_t, le_f, lt_t, lt_f, eq_t, eq_f, ite_b0, ite_b1, ↓reduceIte, i_0, i_1, i_2, i_3, i_4, i_5, i_6, i_7, i_8, i_9, i_10, i_11, i_12, i_13, i_14, i_15, i_16, i_18, i_20, i_22, i_24, i_30, i_31, i_32, i_40, i_48, i_50, i_51, i_52, i_57, i_60, i_64, i_65, i_66, i_67, i_97, i_99, i_100, i_122, i_239, i_240, i_255, i_256, i_304, i_400, i_401, i_704, i_999, i_1000, i_2304, i_3344, i_3648, i_4096, i_9999, i_32767]
    rw [upm_upA, ← fl_s, Nat.zero_add]
  · show lp_X10_back_16 _ _ _ _ = _
    rw [lp_X10_back_16, if_pos (show (704 : Int32) ≤ Int32.ofNat 704 by decide)]
/-- the image is kept by both -/
theorem q_image {μ : Mem} (R : Rel μ) : ∃ μ1 μ2, f_X9_image μ = some μ1 ∧ f_X10_image μ1 = some μ2 ∧ Rel μ2 := by
  obtain ⟨ev, H, T1, T2, T3, T4⟩ := R.ex
  obtain ⟨ν, b1, b2, b3⟩ := hv_copy (d := 2) (s := 0) (by omega) H
  have hν : ∀ j, ν 0 j = μ 0 j := fun j => by rw [b2 0 (by omega)]
  have e1 : f_X9_image μ = some (upm ν 0 0 9 1) := by
    unfold f_X9_image
    rw [b1]
    simp only [bs_q, nm_q]
    rfl
  have e2 : f_X10_image (upm ν 0 0 9 1) = some (upm (upA (upm (upm ν 0 0 9 1) 0 12 0 0) 0 14 (fl (μ 0 14) (μ 0 13) 0 704)) 0 12 3 1) := by
    unfold f_X10_image
    simp only [nm_q]
    rw [r_image7, upm_ne (by omega), upm_ne (by omega), upm_ne (by omega), upm_ne (by omega), hν, hν]
    rfl
  refine ⟨_, _, e1, e2, ?_⟩
  generalize hM : (upm (upA (upm (upm ν 0 0 9 1) 0 12 0 0) 0 14 (fl (μ 0 14) (μ 0 13) 0 704)) 0 12 3 1) = M
  have hg : ∀ g, g ≠ 0 → g ≠ 3 → M g = μ g := fun g h1 h2 => funext fun j => by
    rw [← hM, upm_ng h1, upA_ne (by omega), upm_ng h1, upm_ng h1, b2 g h2]
  have h0j : ∀ j, j ≠ 0 → j ≠ 12 → j ≠ 14 → M 0 j = μ 0 j := fun j h1 h2 h3 => by
    rw [← hM, upm_ne (by omega), upA_ne (by omega), upm_ne (by omega), upm_ne (by omega), hν]
  have h12 : ∀ i, i ≠ 0 → i ≠ 3 → M 0 12 i = μ 0 12 i := fun i h1 h2 => by
    rw [← hM, upm_n3 (by omega), upA_ne (by omega), upm_n3 (by omega), upm_ne (by omega), hν]
  have h10 : M 0 0 10 = μ 0 0 10 := by
    rw [← hM, upm_ne (by omega), upA_ne (by omega), upm_ne (by omega), upm_n3 (by omega), hν]
  refine Rel.mk (ev := ev) ?_ ⟨?_, ?_, ?_, Or.inr ⟨?_, ?_, ev, ?_⟩, by unfold BQ; rw [h12 15 (by decide) (by decide), h12 16 (by decide) (by decide)]; exact T4.2⟩
  · rw [hg 1 (by decide) (by decide), h0j 13 (by decide) (by decide) (by decide)]
    exact H
  · obtain ⟨k, nx, a1, a2, a3, a4, a5, a6⟩ := T1
    refine ⟨k, nx, a1, a2, by rw [h0j 9 (by decide) (by decide) (by decide)]; exact a3, by rw [h0j 9 (by decide) (by decide) (by decide)]; exact a4, by rw [h12 6 (by decide) (by decide)]; exact a5, fun i hi => ?_⟩
    have e3 : pastR M (k - 1 - i) = pastR μ (k - 1 - i) := funext fun j => by
      unfold pastR
      rw [h0j 16 (by decide) (by decide) (by decide), h0j 13 (by decide) (by decide) (by decide)]
    rw [e3, hg _ (by omega) (by omega)]
    exact a6 i hi
  · obtain ⟨t, d1, d2, d3, d4⟩ := T2
    refine ⟨t, d1, by rw [h0j 1 (by decide) (by decide) (by decide)]; exact d2, by rw [h12 8 (by decide) (by decide)]; exact d3, fun i hi => ?_⟩
    rw [h0j 2 (by decide) (by decide) (by decide), h0j 17 (by decide) (by decide) (by decide)]
    exact d4 i hi
  · rw [h10, h12 12 (by decide) (by decide)]
    exact T3
  · rw [← hM, upm_ne (by omega), upA_ne (by omega), upm_ne (by omega), upm_at]
  · rw [← hM, upm_at]
  · have e4 : M 3 = ν 3 := funext fun j => by
      rw [← hM, upm_ng (by decide), upA_ne (by omega), upm_ng (by decide), upm_ng (by decide)]
    have e5 : M 0 14 = fl (μ 0 14) (μ 0 13) 0 704 := by
      rw [← hM, upm_ne (by omega), upA_at]
    rw [e4, e5]
    exact b3.cr fun i hi => fl_in (by omega)
theorem q_back {μ : Mem} (R : Rel μ) : AgN (f_X9_back μ) f_X10_back := by
  obtain ⟨ev, H, T1, T2, T3, T4⟩ := R.ex
  obtain ⟨T4, T5⟩ := T4
  rcases T4 with ⟨t1, t2⟩ | ⟨t1, t2, ev', t3⟩
  · refine ⟨0, μ, upm μ 0 12 0 0, ?_, ?_, R.fr ((FrS.refl μ).upm 0 rfl)⟩
    · unfold f_X9_back
      rw [t1, if_pos rfl]
    · unfold f_X10_back
      simp only [nm_q]
      rw [upm_n3 (by omega), t2, if_pos rfl]
  · obtain ⟨ν, b1, b2, b3⟩ := hv_copy (d := 0) (s := 2) (by omega) t3
    have hν : ∀ j, ν 0 j = μ 0 j := fun j => by rw [b2 0 (by omega)]
    have e1 : f_X9_back μ = some (1, upm ν 0 9 2 0) := by
      unfold f_X9_back f_X6_forget
      rw [t1, if_neg (by decide), b1]
      simp only [bs_q, nm_q]
    have e2 : f_X10_back (upm ν 0 9 2 0) = some (1, upm (upA (upm (upm ν 0 9 2 0) 0 12 0 0) 0 13 (fl (μ 0 13) (μ 0 14) 0 704)) 0 12 6 0) := by
      unfold f_X10_back
      simp only [nm_q]
      rw [upm_n3 (by omega), upm_ne (by omega), hν, t2, if_neg (by decide), r_back16, upm_ne (by omega), upm_ne (by omega), upm_ne (by omega), upm_ne (by omega), hν, hν]
    refine ⟨1, _, _, e1, e2, ?_⟩
    generalize hM : (upm (upA (upm (upm ν 0 9 2 0) 0 12 0 0) 0 13 (fl (μ 0 13) (μ 0 14) 0 704)) 0 12 6 0) = M
    have hg : ∀ g, g ≠ 0 → M g = ν g := fun g h1 => funext fun j => by
      rw [← hM, upm_ng h1, upA_ne (by omega), upm_ng h1, upm_ng h1]
    have h0j : ∀ j, j ≠ 9 → j ≠ 12 → j ≠ 13 → M 0 j = μ 0 j := fun j h1 h2 h3 => by
      rw [← hM, upm_ne (by omega), upA_ne (by omega), upm_ne (by omega), upm_ne (by omega), hν]
    have h12 : ∀ i, i ≠ 0 → i ≠ 6 → M 0 12 i = μ 0 12 i := fun i h1 h2 => by
      rw [← hM, upm_n3 (by omega), upA_ne (by omega), upm_n3 (by omega), upm_ne (by omega), hν]
    refine Rel.mk (ev := ev') ?_ ⟨?_, ?_, ?_, Or.inr ⟨?_, ?_, ev', ?_⟩, by unfold BQ; rw [h12 15 (by decide) (by decide), h12 16 (by decide) (by decide)]; exact T5⟩
    · rw [hg 1 (by decide), ← hM, upm_ne (by omega), upA_at]
      exact b3.cr fun i hi => fl_in (by omega)
    · obtain ⟨k, nx, a1, a2, a3, a4, a5, a6⟩ := T1
      refine ⟨0, nx, by decide, a2, ?_, ?_, ?_, fun i hi => by omega⟩
      · rw [← hM, upm_ne (by omega), upA_ne (by omega), upm_ne (by omega), upm_n3 (by omega), hν, a3]
      · rw [← hM, upm_ne (by omega), upA_ne (by omega), upm_ne (by omega), upm_at]
        rfl
      · rw [← hM, upm_at]
        rfl
    · obtain ⟨t, d1, d2, d3, d4⟩ := T2
      refine ⟨t, d1, by rw [h0j 1 (by decide) (by decide) (by decide)]; exact d2, by rw [h12 8 (by decide) (by decide)]; exact d3, fun i hi => ?_⟩
      rw [h0j 2 (by decide) (by decide) (by decide), h0j 17 (by decide) (by decide) (by decide)]
      exact d4 i hi
    · rw [h0j 0 (by decide) (by decide) (by decide), h12 12 (by decide) (by decide)]
      exact T3
    · rw [h0j 0 (by decide) (by decide) (by decide)]
      exact t1
    · rw [h12 3 (by decide) (by decide)]
      exact t2
    · rw [hg 3 (by decide), h0j 14 (by decide) (by decide) (by decide), b2 3 (by decide)]
      exact t3
