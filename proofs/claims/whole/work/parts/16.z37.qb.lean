/-! ===== questions answered alike: more ===== -/
theorem up0 (μ : Mem) (t : Int32) : (upm μ 0 12 0 t) 0 13 = μ 0 13 := upm_ne (by omega)
theorem pc_sm : ∀ a, a < 256 → pc a = sm 8 (fun k => if a.testBit k = true then 1 else 0) := by
  set_option maxRecDepth 100000 in
  decide +kernel
theorem on_and (a b : Nat) (hb : b < 256) (ha : a < 256) : Int32.ofNat a &&& Int32.ofNat b = Int32.ofNat (a &&& b) := by
  apply Int32.toBitVec_inj.mp
  rw [Int32.toBitVec_and]
  show BitVec.ofNat 32 a &&& BitVec.ofNat 32 b = BitVec.ofNat 32 (a &&& b)
  apply BitVec.eq_of_getLsbD_eq
  intro i hi
  simp [BitVec.getLsbD_ofNat, hi]
theorem on_or (a b : Nat) : Int32.ofNat a ||| Int32.ofNat b = Int32.ofNat (a ||| b) := by
  apply Int32.toBitVec_inj.mp
  rw [Int32.toBitVec_or]
  show BitVec.ofNat 32 a ||| BitVec.ofNat 32 b = BitVec.ofNat 32 (a ||| b)
  apply BitVec.eq_of_getLsbD_eq
  intro i hi
  simp [BitVec.getLsbD_ofNat, hi]
theorem e_X9_crowd (μ : Mem) : f_X9_crowd μ = lp_X9_crowd_6 μ 4096 (-1) 0 0 := by
  unfold f_X9_crowd
  rfl
theorem e_X10_crowd (μ : Mem) : f_X10_crowd μ = lp_X10_crowd_11 (upm μ 0 12 0 0) 4096 (-1) 0 0 := by
  unfold f_X10_crowd
  rw [nm_q]
theorem q_crowd {μ : Mem} (R : Rel μ) : AgQ (f_X9_crowd μ) (f_X10_crowd μ) := by
  have V := R.V
  have H : HC (μ (0 + 1)) (μ 0 13) := R.H
  refine AgQ.a R ?_
  rw [e_X9_crowd, e_X10_crowd]
  refine (lpJ (fun n (s : Int32 × Int32 × Int32) => lp_X9_crowd_6 μ n s.1 s.2.1 s.2.2) (fun n (s : Int32 × Int32 × Int32) => lp_X10_crowd_11 (upm μ 0 12 0 0) n s.1 s.2.1 s.2.2) (AQ (upm μ 0 12 0 0)) (fun k s s' => s = s' ∧ ∃ f, f ≤ 8 ∧ s.2 = (Int32.ofNat f, Int32.ofNat k)) 8 ?_ 4096 4096 (-1, 0, 0) (-1, 0, 0) (by decide) (by decide) ⟨rfl, 0, by decide, rfl⟩)
  rintro k ⟨z, y, x⟩ s' hk ⟨rfl, f, hf, he⟩ n n'
  obtain ⟨rfl, rfl⟩ := Prod.mk.inj he
  by_cases h8 : k = 8
  · left
    subst h8
    exact ⟨z, by simp (disch := omega) only [lp_X9_crowd_6, nm_q, bs_q, on_a, on_m, on_t, ix_on, le_t, le_f, lt_t, lt_f, eq_t, eq_f, ite_b0, ite_b1, ↓reduceIte, i_0, i_1, i_2, i_3, i_4, i_5, i_6, i_7, i_8, i_9, i_10, i_11, i_12, i_13, i_14, i_15, i_16, i_18, i_20, i_22, i_24, i_30, i_31, i_32, i_40, i_48, i_50, i_51, i_52, i_57, i_60, i_64, i_65, i_66, i_67, i_97, i_99, i_100, i_122, i_239, i_240, i_255, i_256, i_304, i_400, i_401, i_704, i_999, i_1000, i_2304, i_3344, i_3648, i_4096, i_9999, i_32767], by simp (disch := omega) only [lp_X10_crowd_11, nm_q, bs_q, on_a, on_m, on_t, ix_on, le_t, le_f, lt_t, lt_f, eq_t, eq_f, ite_b0, ite_b1, ↓reduceIte, i_0, i_1, i_2, i_3, i_4, i_5, i_6, i_7, i_8, i_9, i_10, i_11, i_12, i_13, i_14, i_15, i_16, i_18, i_20, i_22, i_24, i_30, i_31, i_32, i_40, i_48, i_50, i_51, i_52, i_57, i_60, i_64, i_65, i_66, i_67, i_97, i_99, i_100, i_122, i_239, i_240, i_255, i_256, i_304, i_400, i_401, i_704, i_999, i_1000, i_2304, i_3344, i_3648, i_4096, i_9999, i_32767]⟩
  · right
    have h7 : k < 8 := by omega
    have hp := pc_le (giS (μ 0 13) k)
    refine ⟨h7, ?_⟩
    simp (disch := omega) only [lp_X9_crowd_6, lp_X10_crowd_11, c_hereIn H V h7, R_guestsIn (up0 _ _) V h7, bc_b _ (gi_256 V _), bits_b _ (gi_256 V _), nm_q, bs_q, on_a, on_m, on_t, ix_on, le_t, le_f, lt_t, lt_f, eq_t, eq_f, ite_b0, ite_b1, ↓reduceIte, i_0, i_1, i_2, i_3, i_4, i_5, i_6, i_7, i_8, i_9, i_10, i_11, i_12, i_13, i_14, i_15, i_16, i_18, i_20, i_22, i_24, i_30, i_31, i_32, i_40, i_48, i_50, i_51, i_52, i_57, i_60, i_64, i_65, i_66, i_67, i_97, i_99, i_100, i_122, i_239, i_240, i_255, i_256, i_304, i_400, i_401, i_704, i_999, i_1000, i_2304, i_3344, i_3648, i_4096, i_9999, i_32767]
    rw [il_le (by omega) (by omega), il_lt (by omega) (by omega)]
    by_cases h : pc (giS (μ 0 13) k) ≤ f
    · rw [if_pos h, if_neg (by omega)]
      exact ⟨(z, Int32.ofNat f, Int32.ofNat (k + 1)), (z, Int32.ofNat f, Int32.ofNat (k + 1)), ⟨rfl, f, hf, rfl⟩, rfl, rfl⟩
    · rw [if_neg h, if_pos (by omega)]
      exact ⟨(_, _, Int32.ofNat (k + 1)), (_, _, Int32.ofNat (k + 1)), ⟨rfl, _, hp, rfl⟩, rfl, rfl⟩
theorem q_fault {μ : Mem} (R : Rel μ) : AgQ (f_X9_fault μ) (f_X10_fault μ) := by
  refine AgQ.q R (μ 0 0 10) rfl ?_
  unfold f_X10_fault
  rw [nm_q, upm_n3 (by omega), R.2.2.1]
theorem occ_256 (r : Row) : occS r < 256 := mk_256 _ (Nat.le_refl 8)
theorem e_X10_mend (μ : Mem) : f_X10_mend μ = lp_X10_mend_9 (upm μ 0 12 0 0) 4096 0 0 := by
  unfold f_X10_mend
  rw [nm_q]
theorem q_mend {μ : Mem} (R : Rel μ) : AgQ (f_X9_mend μ) (f_X10_mend μ) := by
  have V := R.V
  have H : HC (μ (0 + 1)) (μ 0 13) := R.H
  have hb : μ 1 0 8 = Int32.ofNat (nv (μ 0 13) 4) := H.bath.trans V.e4
  refine AgQ.a R ⟨Int32.ofNat (pc (inS (μ 0 13) (nv (μ 0 13) 4) &&& occS (μ 0 13))), ?_, ?_⟩
  · unfold f_X9_mend
    rw [hb, c_holesInto H V V.b4]
    simp only [bs_q]
    rw [c_roomsHere H V]
    simp only [bs_q]
    rw [on_and _ _ (occ_256 _) (in_256 _ _), bc_b _ (Nat.lt_of_le_of_lt Nat.and_le_left (in_256 _ _))]
    simp only [bs_q]
  · rw [e_X10_mend, pc_sm _ (Nat.lt_of_le_of_lt Nat.and_le_left (in_256 _ _))]
    have e : ∀ k, k < 8 → (inS (μ 0 13) (nv (μ 0 13) 4) &&& occS (μ 0 13)).testBit k = ((nv (μ 0 13) (16 + k)).testBit (nv (μ 0 13) 4) && !(giS (μ 0 13) k == 0)) := fun k hk => by
      unfold inS occS
      rw [Nat.testBit_and, mk_tb, mk_tb, decide_eq_true hk, Bool.true_and, Bool.true_and]
    rw [sm_cg (g := fun k => if ((nv (μ 0 13) (16 + k)).testBit (nv (μ 0 13) 4) && !(giS (μ 0 13) k == 0)) = true then 1 else 0) (fun k hk => by rw [e k hk])]
    refine lpF (fun n (s : Int32 × Int32) => lp_X10_mend_9 (upm μ 0 12 0 0) n s.1 s.2) (fun k => (Int32.ofNat (sm k _), Int32.ofNat k)) 8 _ (fun k hk n => ?_) (fun n => rfl) 4096 (by decide)
    show lp_X10_mend_9 _ _ _ _ = lp_X10_mend_9 _ _ _ _
    have hg := gi_256 V k
    simp (disch := omega) only [lp_X10_mend_9, up0, V.e4, R_isHole (up0 _ _) V hk V.b4, R_guestsIn (up0 _ _) V hk, nm_q, bs_q, on_a, on_m, on_t, ix_on, le_t, le_f, lt_t, lt_f, eq_t, eq_f, ite_b0, ite_b1, ↓reduceIte, i_0, i_1, i_2, i_3, i_4, i_5, i_6, i_7, i_8, i_9, i_10, i_11, i_12, i_13, i_14, i_15, i_16, i_18, i_20, i_22, i_24, i_30, i_31, i_32, i_40, i_48, i_50, i_51, i_52, i_57, i_60, i_64, i_65, i_66, i_67, i_97, i_99, i_100, i_122, i_239, i_240, i_255, i_256, i_304, i_400, i_401, i_704, i_999, i_1000, i_2304, i_3344, i_3648, i_4096, i_9999, i_32767]
    rw [il_eq (by omega) (by omega), sm_s]
    cases h1 : (nv (μ 0 13) (16 + k)).testBit (nv (μ 0 13) 4)
    · rw [if_neg (by decide)]
      rfl
    · rw [if_pos rfl]
      by_cases h2 : giS (μ 0 13) k = 0
      · rw [if_pos h2, h2]
        rfl
      · rw [if_neg h2]
        simp [h2]
theorem e_X9_locked (μ : Mem) : f_X9_locked μ = lp_X9_locked_4 μ 4096 0 0 := by
  unfold f_X9_locked
  rfl
theorem e_X10_locked (μ : Mem) : f_X10_locked μ = lp_X10_locked_9 (upm μ 0 12 0 0) 4096 0 0 := by
  unfold f_X10_locked
  rw [nm_q]
theorem wt_lt {r : Row} {p g : Nat} (h : (wt r p).testBit g = true) : g < nv r 3 := by
  unfold wt at h
  rw [mk_tb, Bool.and_eq_true, decide_eq_true_eq] at h
  exact h.1
def lkB (r : Row) (g : Nat) : Bool := (wt r (nv r 4)).testBit g && !sB r (rm r g) false (nv r 4)
theorem q_locked {μ : Mem} (R : Rel μ) : AgQ (f_X9_locked μ) (f_X10_locked μ) := by
  have V := R.V
  have H : HC (μ (0 + 1)) (μ 0 13) := R.H
  have h8 := V.c8
  have hb : μ 1 0 8 = Int32.ofNat (nv (μ 0 13) 4) := H.bath.trans V.e4
  refine AgQ.a R ⟨Int32.ofNat (mk 8 (lkB (μ 0 13))), ?_, ?_⟩
  · rw [e_X9_locked]
    refine lpF (fun n (s : Int32 × Int32) => lp_X9_locked_4 μ n s.1 s.2) (fun k => (Int32.ofNat (mk k (lkB (μ 0 13))), Int32.ofNat k)) 8 _ (fun k hk n => ?_) (fun n => rfl) 4096 (by decide)
    show lp_X9_locked_4 _ _ _ _ = lp_X9_locked_4 _ _ _ _
    simp (disch := omega) only [lp_X9_locked_4, hb, c_watchers H V V.b4, hold_b _ (wt_256 V _) k hk, nm_q, bs_q, on_a, on_m, on_t, ix_on, le_t, le_f, lt_t, lt_f, eq_t, eq_f, ite_b0, ite_b1, ↓reduceIte, i_0, i_1, i_2, i_3, i_4, i_5, i_6, i_7, i_8, i_9, i_10, i_11, i_12, i_13, i_14, i_15, i_16, i_18, i_20, i_22, i_24, i_30, i_31, i_32, i_40, i_48, i_50, i_51, i_52, i_57, i_60, i_64, i_65, i_66, i_67, i_97, i_99, i_100, i_122, i_239, i_240, i_255, i_256, i_304, i_400, i_401, i_704, i_999, i_1000, i_2304, i_3344, i_3648, i_4096, i_9999, i_32767]
    cases h1 : (wt (μ 0 13) (nv (μ 0 13) 4)).testBit k
    · rw [if_neg (by decide), or_mk0 (lkB (μ 0 13)) (by unfold lkB; rw [h1]; rfl)]
    · rw [if_pos rfl, c_room hk, (H.g (wt_lt h1)).1, V.rme hk]
      have hs := c_sight H V (V.rm8 hk) false
      rw [bI_f, i_0] at hs
      simp only [bs_q, hs]
      rw [hold_b _ (mk_256 _ (Nat.le_refl 8)) _ V.b4, mk_tb, decide_eq_true V.b4, Bool.true_and]
      simp only [bs_q, ite_b0]
      cases h2 : sB (μ 0 13) (rm (μ 0 13) k) false (nv (μ 0 13) 4)
      · rw [if_neg (by decide), or_mk hk (lkB (μ 0 13)) (by unfold lkB; rw [h1, h2]; rfl)]
      · rw [if_pos rfl, or_mk0 (lkB (μ 0 13)) (by unfold lkB; rw [h1, h2]; rfl)]
  · rw [e_X10_locked]
    have e : mk 8 (lkB (μ 0 13)) = mk (nv (μ 0 13) 3) (lkB (μ 0 13)) := mk_ext fun k => by
      unfold lkB
      cases h1 : (wt (μ 0 13) (nv (μ 0 13) 4)).testBit k
      · simp
      · have := wt_lt h1
        rw [decide_eq_true this, decide_eq_true (by omega)]
    rw [e]
    refine lpF (fun n (s : Int32 × Int32) => lp_X10_locked_9 (upm μ 0 12 0 0) n s.1 s.2) (fun k => (Int32.ofNat (mk k (lkB (μ 0 13))), Int32.ofNat k)) (nv (μ 0 13) 3) _ (fun k hk n => ?_) (fun n => ?_) 4096 (by omega)
    · show lp_X10_locked_9 _ _ _ _ = lp_X10_locked_9 _ _ _ _
      have hk8 : k < 8 := by omega
      have hs := R_seesFrom (up0 μ (Int32.ofNat 0)) V (V.rm8 hk8) V.b4 false
      rw [bI_f, i_0] at hs
      simp (disch := omega) only [lp_X10_locked_9, up0, V.e3, V.e4, R_watchers (up0 _ _) V V.b4, isOf_b _ (wt_256 V _) k hk8, R_of0 (up0 _ _) hk8, V.rme hk8, hs, nm_q, bs_q, on_a, on_m, on_t, ix_on, le_t, le_f, lt_t, lt_f, eq_t, eq_f, ite_b0, ite_b1, ↓reduceIte, i_0, i_1, i_2, i_3, i_4, i_5, i_6, i_7, i_8, i_9, i_10, i_11, i_12, i_13, i_14, i_15, i_16, i_18, i_20, i_22, i_24, i_30, i_31, i_32, i_40, i_48, i_50, i_51, i_52, i_57, i_60, i_64, i_65, i_66, i_67, i_97, i_99, i_100, i_122, i_239, i_240, i_255, i_256, i_304, i_400, i_401, i_704, i_999, i_1000, i_2304, i_3344, i_3648, i_4096, i_9999, i_32767, or_z]
      cases h1 : (wt (μ 0 13) (nv (μ 0 13) 4)).testBit k
      · rw [if_neg (by decide), or_mk0 (lkB (μ 0 13)) (by unfold lkB; rw [h1]; rfl)]
      · rw [if_pos rfl]
        cases h2 : sB (μ 0 13) (rm (μ 0 13) k) false (nv (μ 0 13) 4)
        · rw [if_neg (by decide), or_mk hk8 (lkB (μ 0 13)) (by unfold lkB; rw [h1, h2]; rfl)]
        · rw [if_pos rfl, or_mk0 (lkB (μ 0 13)) (by unfold lkB; rw [h1, h2]; rfl)]
    · show lp_X10_locked_9 _ _ _ _ = _
      simp (disch := omega) only [lp_X10_locked_9, up0, V.e3, nm_q, bs_q, on_a, on_m, on_t, ix_on, le_t, le_f, lt_t, lt_f, eq_t, eq_f, ite_b0, ite_b1, ↓reduceIte, i_0, i_1, i_2, i_3, i_4, i_5, i_6, i_7, i_8, i_9, i_10, i_11, i_12, i_13, i_14, i_15, i_16, i_18, i_20, i_22, i_24, i_30, i_31, i_32, i_40, i_48, i_50, i_51, i_52, i_57, i_60, i_64, i_65, i_66, i_67, i_97, i_99, i_100, i_122, i_239, i_240, i_255, i_256, i_304, i_400, i_401, i_704, i_999, i_1000, i_2304, i_3344, i_3648, i_4096, i_9999, i_32767]
