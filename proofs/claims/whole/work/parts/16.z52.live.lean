/-! ===== the class's day, led on ===== -/
theorem add_b : ∀ nx, nx < 60 → Int32.ofNat nx * Int32.ofNat 4 = Int32.ofNat (nx * 4) := fun nx _ => on_m nx 4
set_option maxHeartbeats 2000000 in
theorem c_add {h : Nat} {μ : Mem} {nx : Nat} (hnx : nx < 60) (hn2 : μ (h + 1) 5 2 = Int32.ofNat nx) (a b c d : Int32) : ∃ μ', f_X0_add h μ a b c d = some μ' ∧ (∀ g, g ≠ h + 1 → μ' g = μ g) ∧ (∀ j, j ≠ 5 → j ≠ 6 → μ' (h + 1) j = μ (h + 1) j) ∧ μ' (h + 1) 6 (nx * 4) = a ∧ μ' (h + 1) 6 (nx * 4 + 1) = b ∧ μ' (h + 1) 6 (nx * 4 + 2) = c ∧ μ' (h + 1) 6 (nx * 4 + 3) = d ∧ μ' (h + 1) 5 2 = Int32.ofNat ((nx + 1) % 60) ∧ μ' (h + 1) 5 1 = jmin 60 (μ (h + 1) 5 1 + 1) ∧ ∀ i, ¬ (nx * 4 ≤ i ∧ i < nx * 4 + 4) → μ' (h + 1) 6 i = μ (h + 1) 6 i := by
  refine ⟨upm (upm (upm (upm (upm (upm μ (h + 1) 6 (nx * 4) a) (h + 1) 6 (nx * 4 + 1) b) (h + 1) 6 (nx * 4 + 2) c) (h + 1) 6 (nx * 4 + 3) d) (h + 1) 5 2 (Int32.ofNat ((nx + 1) % 60))) (h + 1) 5 1 (jmin 60 (μ (h + 1) 5 1 + 1)), ?_, ?_, ?_, ?_, ?_, ?_, ?_, ?_, ?_, ?_⟩
  · unfold f_X0_add
    simp (disch := omega) only [upm_n3, hn2, on_r, nm_q, bs_q, on_a, on_m, on_t, ix_on, le_t, le_f, lt_t, lt_f, eq_t, eq_f, ite_b0, ite_b1, ↓reduceIte, i_0, i_1, i_2, i_3, i_4, i_5, i_6, i_7, i_8, i_9, i_10, i_11, i_12, i_13, i_14, i_15, i_16, i_18, i_20, i_22, i_24, i_30, i_31, i_32, i_40, i_48, i_50, i_51, i_52, i_57, i_60, i_64, i_65, i_66, i_67, i_97, i_99, i_100, i_122, i_239, i_240, i_255, i_256, i_304, i_400, i_401, i_704, i_999, i_1000, i_2304, i_3344, i_3648, i_4096, i_9999, i_32767]
  · intro g hg
    simp only [upm_ng hg]
  · intro j h5 h6
    simp (disch := omega) only [upm_ne]
  · simp (disch := omega) only [upm_n3, upm_at]
  · simp (disch := omega) only [upm_n3, upm_at]
  · simp (disch := omega) only [upm_n3, upm_at]
  · simp (disch := omega) only [upm_n3, upm_at]
  · simp (disch := omega) only [upm_n3, upm_at]
  · simp (disch := omega) only [upm_at]
  · intro i hi
    simp (disch := omega) only [upm_n3]
theorem nv_lk1 {r : Row} {g : Nat} {i : Nat} (hi : i < 64) (h14 : i ≠ 14) (h11 : i ≠ 11) (hd : i ≠ 24 + 5 * g + 2) : looksR r g i = r i := by
  unfold looksR logR
  rw [upd_ne (by omega), upd_ne (by omega), upd_ne (by omega), upd_ne (by omega), upd_ne (by omega), L1_ne (by omega), upd_ne (by omega), upd_ne (by omega)]
theorem lkS_ne {w : Nat} {r : Row} {g i : Nat} (hi : i < 64) (h14 : i ≠ 14) (h11 : i ≠ 11) (h15 : i ≠ 15) (hd : i ≠ 24 + 5 * g + 2) : lkS w r g i = r i := by
  unfold lkS
  split
  · split
    · exact upd_ne h15
    · rw [nv_lk1 hi h14 h11 hd, upd_ne h15]
  · rfl
theorem lkA_ne {w : Nat} {r : Row} {i : Nat} (k : Nat) (hi : i < 64) (h14 : i ≠ 14) (h11 : i ≠ 11) (h15 : i ≠ 15) (hd : ∀ g, g < k → i ≠ 24 + 5 * g + 2) : lkA w r k i = r i := by
  induction k with
  | zero => rfl
  | succ k ih =>
    show lkS w (lkA w r k) k i = r i
    rw [lkS_ne hi h14 h11 h15 (hd k (by omega))]
    exact ih fun g hg => hd g (by omega)
theorem lkA_3 {w : Nat} {r : Row} (k : Nat) : nv (lkA w r k) 3 = nv r 3 := by
  unfold nv
  rw [lkA_ne k (by decide) (by decide) (by decide) (by decide) fun g _ => by omega]
/-- a look is noted -/
theorem c_looks {ev : Row → Int32} {h : Nat} {μ : Mem} {r : Row} (H : HV ev (μ (h + 1)) r) {g : Nat} (hg : g < nv r 3) : ∃ μ', HV ev (μ' (h + 1)) (looksR r g) ∧ (∀ g', g' ≠ h + 1 → μ' g' = μ g') ∧ ∀ K : Mem → Option Mem, (nm (upm μ (h + 1) 0 14 ((μ (h + 1) 0 14) + 1)) fun (μ7 : Mem) => (f_X1_setDoubt h μ7 (Int32.ofNat g) 99).bind fun (q8 : Mem) => (f_X1_roomOf h q8 (Int32.ofNat g)).bind fun (q9 : Int32) => (f_X0_add h q8 (q8 (h + 1) 0 13) (Int32.ofNat g) q9 (q8 (h + 1) 0 8)).bind K) = K μ' := by
  have h8 := H.1.c8
  have hg8 : g < 8 := by omega
  have H7 : HV ev ((upm μ (h + 1) 0 14 (r 11 + 1)) (h + 1)) (upd r 11 (r 11 + 1)) := sc_up H (by decide) fun h => by cases h
  have hg7 : g < nv (upd r 11 (r 11 + 1)) 3 := by rw [nv_ne (by decide)]; exact hg
  have H8 : HV ev ((upm (upm μ (h + 1) 0 14 (r 11 + 1)) (h + 1) 4 g 99) (h + 1)) (upd (upd r 11 (r 11 + 1)) (24 + 5 * g + 2) 99) := hv_up H7 (by omega) (fun _ => by rw [(okg g hg8 2 (by decide)).2]; exact ⟨99, Nat.le_refl _, rfl⟩) (fun j k h => upm_n3 (by omega)) (hc_gw (Or.inr ⟨rfl, rfl⟩) H7.2.1 (upm_at _ _ _ _ _) fun j i hn => upm_n3 (by omega))
  have hg8' : g < nv (upd (upd r 11 (r 11 + 1)) (24 + 5 * g + 2) 99) 3 := by rw [nv_ne (by omega)]; exact hg7
  obtain ⟨b1, nx, b2, b3, b4⟩ := H8.2.2.1
  have e13 := H8.2.1.day
  have e8 := H8.2.1.bath
  have e2 := (H8.2.1.g hg8').1
  obtain ⟨μ', m1, m2, m3, m4, m5, m6, m7, m8, m9, m10⟩ := c_add b2 b3 ((upm (upm μ (h + 1) 0 14 (r 11 + 1)) (h + 1) 4 g 99) (h + 1) 0 13) (Int32.ofNat g) ((upm (upm μ (h + 1) 0 14 (r 11 + 1)) (h + 1) 4 g 99) (h + 1) 2 g) ((upm (upm μ (h + 1) 0 14 (r 11 + 1)) (h + 1) 4 g 99) (h + 1) 0 8)
  refine ⟨μ', ?_, fun g' hg' => ?_, fun K => ?_⟩
  · exact hv_log H8 hg8' b2 b3 (m4.trans e13) m5 (m6.trans e2) (m7.trans e8) m8 (by rw [m9, b1]) m10 fun j h5 h6 => m3 j h5 h6
  · rw [m2 g' hg', upm_ng hg', upm_ng hg']
  · have sd : f_X1_setDoubt h (upm μ (h + 1) 0 14 (r 11 + 1)) (Int32.ofNat g) 99 = some (upm (upm μ (h + 1) 0 14 (r 11 + 1)) (h + 1) 4 g 99) := by
      unfold f_X1_setDoubt
      rw [c_isNum hg8]
      simp only [bs_q]
      rw [if_neg (by decide), ix_on hg8 (by decide), nm_q, on_t (by omega)]
      rfl
    rw [H.2.1.seen, nm_q, sd]
    simp only [bs_q]
    rw [c_room hg8]
    simp only [bs_q]
    rw [m1]
    simp only [bs_q]
set_option maxHeartbeats 2000000 in
/-- one watcher's draw, and his look -/
theorem c_look1 {ev : Row → Int32} {h : Nat} {μ : Mem} {r : Row} (H : HV ev (μ (h + 1)) r) {g : Nat} (hg8 : g < 8) {w : Nat} (hw : w < 256) (hb : w.testBit g = true → g < nv r 3) : ∃ μ', HV ev (μ' (h + 1)) (lkS w r g) ∧ (∀ g', g' ≠ h + 1 → μ' g' = μ g') ∧ ∀ n, lp_X2_lookAtBath_11 h (Int32.ofNat w) (n + 1) (Int32.ofNat g) μ = lp_X2_lookAtBath_11 h (Int32.ofNat w) n (Int32.ofNat (g + 1)) μ' := by
  have hlt : ¬ (8 : Int32) ≤ Int32.ofNat g := by
    rw [show (8 : Int32) = Int32.ofNat 8 from rfl, on_le (by omega) (by omega)]
    omega
  by_cases h1 : w.testBit g = true
  · have hg := hb h1
    obtain ⟨d1, d2⟩ := c_draw H
    have db := (dv_e r).2
    have rk := H.1.rk10 hg8
    have hg1 : g < nv (upd r 15 (drS r)) 3 := by rw [nv_ne (by decide)]; exact hg
    have hr := c_risk d2.2.1 d2.1 hg1
    rw [rk_15] at hr
    by_cases hq : rkN r g ≤ dvN r % 10
    · refine ⟨upm μ (h + 1) 0 15 (drS r), ?_, fun g' hg' => upm_ng hg', fun n => ?_⟩
      · unfold lkS
        rw [if_pos h1, if_pos hq]
        exact d2
      · rw [lp_X2_lookAtBath_11, if_neg hlt, hold_b w hw g hg8]
        simp only [bs_q, i_0, i_1, on_a, ite_b0]
        rw [if_pos h1, d1]
        simp only [bs_q]
        rw [hr]
        simp only [bs_q]
        rw [show (10 : Int32) = Int32.ofNat 10 from rfl, on_r (by omega) (by decide), il_le (by omega) (by omega), if_pos hq]
    · obtain ⟨μ', m1, m2, m3⟩ := c_looks d2 hg1
      refine ⟨μ', ?_, fun g' hg' => by rw [m2 g' hg', upm_ng hg'], fun n => ?_⟩
      · unfold lkS
        rw [if_pos h1, if_neg hq]
        exact m1
      · rw [lp_X2_lookAtBath_11, if_neg hlt, hold_b w hw g hg8]
        simp only [bs_q, i_0, ite_b0]
        rw [if_pos h1, d1]
        simp only [bs_q]
        rw [hr]
        simp only [bs_q]
        rw [show (10 : Int32) = Int32.ofNat 10 from rfl, on_r (by omega) (by decide), il_le (by omega) (by omega), if_neg hq, m3, i_1, on_a]
  · refine ⟨μ, ?_, fun _ _ => rfl, fun n => ?_⟩
    · unfold lkS
      rw [if_neg h1]
      exact H
    · rw [lp_X2_lookAtBath_11, if_neg hlt, hold_b w hw g hg8]
      simp only [bs_q, i_0, i_1, on_a, ite_b0]
      rw [if_neg h1]
theorem c_lookAt {ev : Row → Int32} {h : Nat} {μ : Mem} {r : Row} (H : HV ev (μ (h + 1)) r) : ∃ μ', f_X2_lookAtBath h μ = some μ' ∧ HV ev (μ' (h + 1)) (lkA (wt r (nv r 4)) r 8) ∧ ∀ g', g' ≠ h + 1 → μ' g' = μ g' := by
  have hw := wt_256 H.1 (nv r 4)
  have eb : μ (h + 1) 0 8 = Int32.ofNat (nv r 4) := H.2.1.bath.trans H.1.e4
  unfold f_X2_lookAtBath
  rw [eb, c_watchers H.2.1 H.1 H.1.b4]
  simp only [bs_q]
  refine lpP (fun n (s : Int32 × Mem) => lp_X2_lookAtBath_11 h (Int32.ofNat (wt r (nv r 4))) n s.1 s.2) (fun o => ∃ μ', o = some μ' ∧ HV ev (μ' (h + 1)) (lkA (wt r (nv r 4)) r 8) ∧ ∀ g', g' ≠ h + 1 → μ' g' = μ g') (fun k s => s.1 = Int32.ofNat k ∧ HV ev (s.2 (h + 1)) (lkA (wt r (nv r 4)) r k) ∧ ∀ g', g' ≠ h + 1 → s.2 g' = μ g') 8 ?_ 4096 (0, μ) (by decide) ⟨rfl, H, fun _ _ => rfl⟩
  rintro k ⟨x, ν⟩ hk ⟨hx, hI, hF⟩ n
  simp only at hx hI hF
  subst hx
  by_cases h8 : k = 8
  · left
    subst h8
    refine ⟨ν, ?_, hI, hF⟩
    show lp_X2_lookAtBath_11 _ _ _ _ _ = _
    rw [lp_X2_lookAtBath_11, if_pos (show (8 : Int32) ≤ Int32.ofNat 8 by decide)]
  · right
    have hk8 : k < 8 := by omega
    obtain ⟨ν2, m1, m2, m3⟩ := c_look1 hI hk8 hw (fun h1 => by rw [lkA_3]; exact wt_lt h1)
    exact ⟨hk8, (Int32.ofNat (k + 1), ν2), ⟨rfl, m1, fun g' hg' => (m2 g' hg').trans (hF g' hg')⟩, m3 n⟩
theorem Nb.i {r : Row} (V : Vr r) {i : Nat} (h : okI i = true) : Nb (r i) (bd i) := V i h
theorem bdS_num {r : Row} (V : Vr r) : r 6 = Int32.ofNat (nv r 6) ∧ r 7 = Int32.ofNat (nv r 7) ∧ r 8 = Int32.ofNat (nv r 8) ∧ nv r 6 ≤ 9 ∧ nv r 7 ≤ 9999 ∧ nv r 8 ≤ 9999 ∧ jmin (r 6) (r 7) = Int32.ofNat (min (nv r 6) (nv r 7)) := by
  have e6 := V.e (i := 6) (by decide)
  have e7 := V.e (i := 7) (by decide)
  have b6 : nv r 6 ≤ 9 := V.b (i := 6) (by decide)
  have b7 : nv r 7 ≤ 9999 := V.b (i := 7) (by decide)
  have b8 : nv r 8 ≤ 9999 := V.b (i := 8) (by decide)
  exact ⟨e6, e7, V.e (i := 8) (by decide), b6, b7, b8, by rw [e6, e7, on_min (by omega) (by omega)]⟩
theorem c_build {ev : Row → Int32} {h : Nat} {μ : Mem} {r : Row} (H : HV ev (μ (h + 1)) r) : ∃ μ', f_X2_build h μ = some μ' ∧ HV ev (μ' (h + 1)) (bdS r) ∧ ∀ g', g' ≠ h + 1 → μ' g' = μ g' := by
  obtain ⟨e6, e7, e8, b6, b7, b8, em⟩ := bdS_num H.1
  have H1 : HV ev ((upm μ (h + 1) 0 11 (jmin 9999 (r 8 + jmin (r 6) (r 7)))) (h + 1)) (upd r 8 (jmin 9999 (r 8 + jmin (r 6) (r 7)))) := sc_up H (by decide) fun _ => by
    rw [em, e8, on_a, show (9999 : Int32) = Int32.ofNat 9999 from rfl, on_min (by decide) (by omega)]
    exact ⟨_, Nat.min_le_left _ _, rfl⟩
  have H2 := sc_up (ci := 10) (ri := 7) (v := r 7 - jmin (r 6) (r 7)) H1 (by decide) fun _ => by
    rw [em, e7, on_sb (Nat.min_le_right _ _)]
    exact ⟨_, by show nv r 7 - min (nv r 6) (nv r 7) ≤ 9999; omega, rfl⟩
  refine ⟨_, ?_, H2, fun g' hg' => by rw [upm_ng hg', upm_ng hg']⟩
  unfold f_X2_build
  rw [nm_q, nm_q, nm_q, H.2.1.masons, H.2.1.stones, H.2.1.towers, upm_n3 (by omega), H.2.1.stones]
theorem c_bore {ev : Row → Int32} {h : Nat} {μ : Mem} {r : Row} (H : HV ev (μ (h + 1)) r) : ∃ μ', f_X2_boreByNight h μ = some μ' ∧ HV ev (μ' (h + 1)) (brS r) ∧ ∀ g', g' ≠ h + 1 → μ' g' = μ g' := by
  obtain ⟨d1, d2⟩ := c_draw H
  have db := (dv_e r).2
  have e9 : r 9 = Int32.ofNat (nv r 9) := H.1.e (i := 9) (by decide)
  have b9 : nv r 9 ≤ 100 := H.1.b (i := 9) (by decide)
  have ebo : (upm μ (h + 1) 0 15 (drS r)) (h + 1) 0 12 = Int32.ofNat (nv r 9) := by
    rw [upm_n3 (by omega), H.2.1.bore, e9]
  unfold f_X2_boreByNight
  rw [d1]
  simp only [bs_q]
  rw [ebo, show (100 : Int32) = Int32.ofNat 100 from rfl, on_r (by omega) (by decide), il_le (by omega) (by omega)]
  by_cases hq : nv r 9 ≤ dvN r % 100
  · rw [if_pos hq]
    refine ⟨_, rfl, ?_, fun g' hg' => upm_ng hg'⟩
    unfold brS
    rw [if_pos hq]
    exact d2
  · rw [if_neg hq]
    obtain ⟨d3, d4⟩ := c_draw d2
    have db2 := (dv_e (upd r 15 (drS r))).2
    rw [d3]
    simp only [bs_q]
    have hp : dvN (upd r 15 (drS r)) % 8 < 8 := Nat.mod_lt _ (by decide)
    have hp2 : (dvN (upd r 15 (drS r)) % 8 + 1) % 8 < 8 := Nat.mod_lt _ (by decide)
    generalize hP : dvN (upd r 15 (drS r)) % 8 = P at hp hp2
    have eho : (upm (upm μ (h + 1) 0 15 (drS r)) (h + 1) 0 15 (drS (upd r 15 (drS r)))) (h + 1) 10 P = Int32.ofNat (nv r (16 + P)) := by
      rw [upm_n3 (by omega), upm_n3 (by omega), H.2.1.ho hp, H.1.he hp]
    have hb := H.1.hb hp
    have hwm := wm_b _ hb ((P + 1) % 8) hp2 true
    unfold stb at hwm
    rw [if_pos rfl, bI_t] at hwm
    refine ⟨upm (upm (upm μ (h + 1) 0 15 (drS r)) (h + 1) 0 15 (drS (upd r 15 (drS r)))) (h + 1) 10 P (Int32.ofNat (nv r (16 + P) ||| 2 ^ ((P + 1) % 8))), ?_, ?_, fun g' hg' => by rw [upm_ng hg', upm_ng hg', upm_ng hg']⟩
    · unfold f_X2_setHole
      rw [show (8 : Int32) = Int32.ofNat 8 from rfl, on_r (by omega) (by decide), hP, show (1 : Int32) = Int32.ofNat 1 from rfl, on_a, on_r (by omega) (by decide), c_isRoom hp, c_isRoom hp2]
      simp only [bs_q]
      rw [if_neg (by decide), if_neg (by decide), ix_on hp (by decide), on_t (by omega), eho, show Int32.ofNat 1 = (1 : Int32) from rfl, hwm]
      simp only [bs_q]
      rw [ix_on hp (by decide), nm_q]
      simp only [bs_q]
    · unfold brS
      rw [if_neg hq, hP]
      refine hv_up d4 (by omega) (fun _ => by rw [(okh P hp).2]; exact ⟨_, Nat.le_of_lt_succ (or_256 hb (pow_256 hp2)), rfl⟩) (fun j k h => upm_n3 (by omega)) (hc_hole hp d4.2.1 (upm_at _ _ _ _ _) fun j i hn => upm_n3 (by omega))
theorem c_day {ev : Row → Int32} {h : Nat} {μ : Mem} {r : Row} (H : HV ev (μ (h + 1)) r) : HV ev ((upm μ (h + 1) 0 13 (jmin 9999 ((μ (h + 1) 0 13) + 1))) (h + 1)) (dyS r) := by
  have hd := dy_b H.1
  rw [H.2.1.day]
  refine sc_up H (by decide) fun _ => ?_
  rw [hd.1, show (1 : Int32) = Int32.ofNat 1 from rfl, on_a, show (9999 : Int32) = Int32.ofNat 9999 from rfl, on_min (by decide) (by omega)]
  exact ⟨_, Nat.min_le_left _ _, rfl⟩
theorem c_foresee {ev : Row → Int32} {h : Nat} {μ : Mem} {r : Row} (H : HV ev (μ (h + 1)) r) {a : Nat} (ha : a < 256) : ∃ μ', f_X2_foreseeDay h μ (Int32.ofNat a) = some μ' ∧ HV ev (μ' (h + 1)) (dyF ev (mk (nv r 3) (hrB r) &&& a).testBit r) ∧ ∀ g', g' ≠ h + 1 → μ' g' = μ g' := by
  have h8 := H.1.c8
  have hm := mk_256 (hrB r) h8
  have hma : mk (nv r 3) (hrB r) &&& a < 256 := Nat.lt_of_le_of_lt Nat.and_le_left hm
  obtain ⟨μ1, a1, a2, a3⟩ := c_turnDoubts H hma (fun g hg hb => by
    rw [Nat.testBit_and, mk_tb, Bool.and_eq_true, Bool.and_eq_true, decide_eq_true_eq] at hb
    exact hb.1.1)
  obtain ⟨μ2, b1, b2, b3⟩ := c_build a2
  refine ⟨_, ?_, c_day b2, fun g' hg' => by rw [upm_ng hg', b3 g' hg', a3 g' hg']⟩
  unfold f_X2_foreseeDay
  rw [H.2.1.hr, on_and _ _ ha hm, a1]
  simp only [bs_q]
  rw [b1]
  simp only [bs_q, nm_q]
theorem hrC_tb {r : Row} (h8 : nv r 3 ≤ 8) : (mk (nv r 3) (hrB r)).testBit = hrC r := funext fun k => by
  rw [mk_tb]
  rfl
theorem c_liveDay {ev : Row → Int32} {h : Nat} {μ : Mem} {r : Row} (H : HV ev (μ (h + 1)) r) : ∃ μ', f_X2_liveDay h μ = some μ' ∧ HV ev (μ' (h + 1)) (dyL ev r) ∧ ∀ g', g' ≠ h + 1 → μ' g' = μ g' := by
  have h8 := H.1.c8
  have hm := mk_256 (hrB r) h8
  obtain ⟨μ1, a1, a2, a3⟩ := c_turnDoubts H hm (fun g hg hb => by
    rw [mk_tb, Bool.and_eq_true, decide_eq_true_eq] at hb
    exact hb.1)
  rw [hrC_tb h8] at a2
  unfold f_X2_liveDay
  rw [H.2.1.hr, a1]
  simp only [bs_q, nm_q]
  have ek : μ1 (h + 1) 0 7 = Int32.ofNat (nv (tdA ev (hrC r) r 8) 5) := a2.2.1.kept.trans a2.1.e5
  rw [ek, a2.2.1.day, c_isSat a2.2.1 a2.1.b5]
  simp only [bs_q, i_0, ite_b0]
  by_cases hs : satI (tdA ev (hrC r) r 8) (nv (tdA ev (hrC r) r 8) 5) (tdA ev (hrC r) r 8 10) = true
  · rw [if_pos hs]
    obtain ⟨μ2, b1, b2, b3⟩ := c_lookAt a2
    obtain ⟨μ3, c1, c2, c3⟩ := c_build b2
    obtain ⟨μ4, d1, d2, d3⟩ := c_bore c2
    rw [b1]
    simp only [bs_q]
    rw [c1]
    simp only [bs_q]
    rw [d1]
    simp only [bs_q]
    refine ⟨_, rfl, ?_, fun g' hg' => by rw [upm_ng hg', d3 g' hg', c3 g' hg', b3 g' hg', a3 g' hg']⟩
    unfold dyL lkB2
    rw [if_pos hs]
    exact c_day d2
  · rw [if_neg hs]
    obtain ⟨μ3, c1, c2, c3⟩ := c_build a2
    obtain ⟨μ4, d1, d2, d3⟩ := c_bore c2
    rw [c1]
    simp only [bs_q]
    rw [d1]
    simp only [bs_q]
    refine ⟨_, rfl, ?_, fun g' hg' => by rw [upm_ng hg', d3 g' hg', c3 g' hg', a3 g' hg']⟩
    unfold dyL lkB2
    rw [if_neg hs]
    exact c_day d2
def itR (f : Row → Row) (r : Row) : Nat → Row
  | 0 => r
  | k + 1 => f (itR f r k)
theorem c_live {ev : Row → Int32} {h : Nat} {μ : Mem} {r : Row} (H : HV ev (μ (h + 1)) r) {m : Nat} (hm : m ≤ 400) : ∃ μ', f_X9_live h μ (Int32.ofNat m) = some (itR (dyL ev) r m 11 - r 11, μ') ∧ HV ev (μ' (h + 1)) (itR (dyL ev) r m) ∧ ∀ g', g' ≠ h + 1 → μ' g' = μ g' := by
  unfold f_X9_live
  refine lpP (fun n (s : Int32 × Mem) => lp_X9_live_7 (Int32.ofNat m) h μ n s.1 s.2) (fun o => ∃ μ', o = some (itR (dyL ev) r m 11 - r 11, μ') ∧ HV ev (μ' (h + 1)) (itR (dyL ev) r m) ∧ ∀ g', g' ≠ h + 1 → μ' g' = μ g') (fun k s => s.1 = Int32.ofNat k ∧ HV ev (s.2 (h + 1)) (itR (dyL ev) r k) ∧ ∀ g', g' ≠ h + 1 → s.2 g' = μ g') m ?_ 4096 (0, μ) (by omega) ⟨rfl, H, fun _ _ => rfl⟩
  rintro k ⟨x, ν⟩ hk ⟨hx, hI, hF⟩ n
  simp only at hx hI hF
  subst hx
  by_cases hkm : k = m
  · left
    subst hkm
    refine ⟨ν, ?_, hI, hF⟩
    show lp_X9_live_7 _ _ _ _ _ _ = _
    rw [lp_X9_live_7, if_pos (Int32.le_refl _)]
    show some (ν (h + 1) 0 14 - μ (h + 1) 0 14, ν) = _
    rw [hI.2.1.seen, H.2.1.seen]
  · right
    obtain ⟨ν2, m1, m2, m3⟩ := c_liveDay hI
    refine ⟨by omega, (Int32.ofNat (k + 1), ν2), ⟨rfl, m2, fun g' hg' => (m3 g' hg').trans (hF g' hg')⟩, ?_⟩
    show lp_X9_live_7 _ _ _ _ _ _ = lp_X9_live_7 _ _ _ _ _ _
    rw [lp_X9_live_7, if_neg (by rw [on_le (by omega) (by omega)]; omega), m1]
    simp only [bs_q, i_1, on_a]
