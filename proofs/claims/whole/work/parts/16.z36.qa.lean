/-! ===== questions answered alike: the plain ones ===== -/
theorem th_row {μ μ' : Mem} (t : Int32) (e : μ' 0 13 = μ 0 13) : (upm μ' 0 12 0 t) 0 13 = μ 0 13 := (upm_ne (by omega)).trans e
theorem R_of {μ : Mem} {r : Row} (e : μ 0 13 = r) {g w : Nat} (hg : g < 8) (hw : w < 5) : f_X10_of μ (Int32.ofNat g) (Int32.ofNat w) = some (r (24 + 5 * g + w)) := by rw [r_of hg hw, e]
theorem R_of0 {μ : Mem} {r : Row} (e : μ 0 13 = r) {g : Nat} (hg : g < 8) : f_X10_of μ (Int32.ofNat g) (Int32.ofNat 0) = some (r (24 + 5 * g)) := by rw [r_of0 hg, e]
theorem R_here {μ : Mem} {r : Row} (e : μ 0 13 = r) {g : Nat} (hg : g < 8) : f_X10_isHere μ (Int32.ofNat g) = some (bI (hrB r g)) := by rw [r_here hg, e]
theorem R_risk {μ : Mem} {r : Row} (e : μ 0 13 = r) (V : Vr r) {g : Nat} (hg : g < 8) : f_X10_risk μ (Int32.ofNat g) = some (Int32.ofNat (rkN r g)) := by subst e; exact r_risk V hg
theorem R_isHole {μ : Mem} {r : Row} (e : μ 0 13 = r) (V : Vr r) {p k : Nat} (hp : p < 8) (hk : k < 8) : f_X10_isHole μ (Int32.ofNat p) (Int32.ofNat k) = some (bI ((nv r (16 + p)).testBit k)) := by subst e; exact r_isHole V hp hk
theorem R_seesFrom {μ : Mem} {r : Row} (e : μ 0 13 = r) (V : Vr r) {p k : Nat} (hp : p < 8) (hk : k < 8) (b : Bool) : f_X10_seesFrom μ (Int32.ofNat p) (bI b) (Int32.ofNat k) = some (bI (sB r p b k)) := by subst e; exact r_seesFrom V hp hk b
theorem R_sees {μ : Mem} {r : Row} (e : μ 0 13 = r) (V : Vr r) {g k : Nat} (hg : g < 8) (hk : k < 8) : f_X10_sees μ (Int32.ofNat g) (Int32.ofNat k) = some (bI (seB r g k)) := by subst e; exact r_sees V hg hk
theorem R_watchers {μ : Mem} {r : Row} (e : μ 0 13 = r) (V : Vr r) {p : Nat} (hp : p < 8) : f_X10_watchers μ (Int32.ofNat p) = some (Int32.ofNat (wt r p)) := by subst e; exact r_watchers V hp
theorem R_from {μ : Mem} {r : Row} (e : μ 0 13 = r) (V : Vr r) {p : Nat} (hp : p < 8) : f_X10_from μ (Int32.ofNat p) = some (Int32.ofNat (inS r p)) := by subst e; exact r_from V hp
theorem R_guestsIn {μ : Mem} {r : Row} (e : μ 0 13 = r) (V : Vr r) {p : Nat} (hp : p < 8) : f_X10_guestsIn μ (Int32.ofNat p) = some (Int32.ofNat (giS r p)) := by subst e; exact r_guestsIn V hp
theorem R_risksOf {μ : Mem} {r : Row} (e : μ 0 13 = r) (V : Vr r) {a : Nat} (ha : a < 256) (hb : ∀ g, g < 8 → a.testBit g = true → g < nv r 3) : f_X10_risksOf μ (Int32.ofNat a) = some (Int32.ofNat (rsk r a)) := by subst e; exact r_risksOf V ha hb
theorem R_doubts {μ : Mem} {r : Row} (e : μ 0 13 = r) (V : Vr r) : f_X10_doubts μ = some (Int32.ofNat (dbH r)) := by subst e; exact r_doubts V
theorem R_holes {μ : Mem} {r : Row} (e : μ 0 13 = r) (V : Vr r) : f_X10_holes μ = some (Int32.ofNat (hoA r)) := by subst e; exact r_holes V
def satI (r : Row) (c : Nat) (d : Int32) : Bool := decide (jrem (d + r (12 + c)) (Int32.ofNat 7) = Int32.ofNat 6)
theorem c_isSat {h : Nat} {μ : Mem} {r : Row} (H : HC (μ (h + 1)) r) {c : Nat} (hc : c < 2) (d : Int32) : f_X2_isSaturday h μ (Int32.ofNat c) d = some (bI (satI r c d)) := by
  have e : f_X2_shiftOf h μ (Int32.ofNat c) = some (r (12 + c)) := by
    unfold f_X2_shiftOf
    rw [i_0, il_eq (by omega) (by decide)]
    by_cases h0 : c = 0
    · rw [if_pos h0, H.sh0, h0]
    · rw [if_neg h0, H.sh1, show c = 1 by omega]
  unfold f_X2_isSaturday satI
  rw [e]
  simp only [bs_q, i_7, i_6, i_1, i_0]
  split
  · rename_i h1
    rw [decide_eq_true h1]
    rfl
  · rename_i h1
    rw [decide_eq_false h1]
    rfl
theorem r_isSat {μ : Mem} {r : Row} (e : μ 0 13 = r) {c : Nat} (hc : c < 2) (d : Int32) : f_X10_isSaturday μ (Int32.ofNat c) d = some (bI (satI r c d)) := by
  unfold f_X10_isSaturday satI
  rw [i_12, on_a, ix_on (by omega) (by decide), on_t (by omega), e]
  simp only [i_7, i_6, i_1, i_0]
  split
  · rename_i h1
    rw [decide_eq_true h1]
    rfl
  · rename_i h1
    rw [decide_eq_false h1]
    rfl
theorem q_room {μ : Mem} (R : Rel μ) (a b : Int32) : AgT [(0, 0), (3, 1), (4, 2)] (f_X9_room μ a b) (fun μ' => f_X10_room μ' a b) := by
  have V := R.V
  have H : HC (μ (0 + 1)) (μ 0 13) := R.H
  rcases room_cases a with ⟨k, hk, rfl⟩ | ⟨h1, h2⟩
  · rcases in_cases b 0 3 (by decide) (by decide) with ⟨w, -, hw, rfl⟩ | ⟨h3, h4⟩
    · rcases (show w = 0 ∨ w = 1 ∨ w = 2 ∨ w = 3 by omega) with rfl | rfl | rfl | rfl
      · refine AgT.q R 0 0 (μ 0 13 (16 + k)) _ (by decide) ?_ (fun μ' V' e => ?_) (fun _ => rfl)
        · unfold f_X9_room
          simp (disch := omega) only [nm_q, bs_q, on_a, on_m, on_t, ix_on, le_t, le_f, lt_t, lt_f, eq_t, eq_f, ite_b0, ite_b1, ↓reduceIte, i_0, i_1, i_2, i_3, i_4, i_5, i_6, i_7, i_8, i_9, i_10, i_11, i_12, i_13, i_14, i_15, i_16, i_18, i_20, i_22, i_24, i_30, i_31, i_32, i_40, i_48, i_50, i_51, i_52, i_57, i_60, i_64, i_65, i_66, i_67, i_97, i_99, i_100, i_122, i_239, i_240, i_255, i_256, i_304, i_400, i_401, i_704, i_999, i_1000, i_2304, i_3344, i_3648, i_4096, i_9999, i_32767, upm_at, bk_b, c_isRoom hk, c_holesFrom H hk]
        · unfold f_X10_room
          simp (disch := omega) only [nm_q, bs_q, on_a, on_m, on_t, ix_on, le_t, le_f, lt_t, lt_f, eq_t, eq_f, ite_b0, ite_b1, ↓reduceIte, i_0, i_1, i_2, i_3, i_4, i_5, i_6, i_7, i_8, i_9, i_10, i_11, i_12, i_13, i_14, i_15, i_16, i_18, i_20, i_22, i_24, i_30, i_31, i_32, i_40, i_48, i_50, i_51, i_52, i_57, i_60, i_64, i_65, i_66, i_67, i_97, i_99, i_100, i_122, i_239, i_240, i_255, i_256, i_304, i_400, i_401, i_704, i_999, i_1000, i_2304, i_3344, i_3648, i_4096, i_9999, i_32767, upm_at, bk_b, r_isRoom hk, isIn_t, th_row _ e]
      · refine AgT.q R 0 0 (Int32.ofNat (inS (μ 0 13) k)) _ (by decide) ?_ (fun μ' V' e => ?_) (fun _ => rfl)
        · unfold f_X9_room
          simp (disch := omega) only [nm_q, bs_q, on_a, on_m, on_t, ix_on, le_t, le_f, lt_t, lt_f, eq_t, eq_f, ite_b0, ite_b1, ↓reduceIte, i_0, i_1, i_2, i_3, i_4, i_5, i_6, i_7, i_8, i_9, i_10, i_11, i_12, i_13, i_14, i_15, i_16, i_18, i_20, i_22, i_24, i_30, i_31, i_32, i_40, i_48, i_50, i_51, i_52, i_57, i_60, i_64, i_65, i_66, i_67, i_97, i_99, i_100, i_122, i_239, i_240, i_255, i_256, i_304, i_400, i_401, i_704, i_999, i_1000, i_2304, i_3344, i_3648, i_4096, i_9999, i_32767, upm_at, bk_b, c_isRoom hk, c_holesInto H V hk]
        · unfold f_X10_room
          simp (disch := omega) only [nm_q, bs_q, on_a, on_m, on_t, ix_on, le_t, le_f, lt_t, lt_f, eq_t, eq_f, ite_b0, ite_b1, ↓reduceIte, i_0, i_1, i_2, i_3, i_4, i_5, i_6, i_7, i_8, i_9, i_10, i_11, i_12, i_13, i_14, i_15, i_16, i_18, i_20, i_22, i_24, i_30, i_31, i_32, i_40, i_48, i_50, i_51, i_52, i_57, i_60, i_64, i_65, i_66, i_67, i_97, i_99, i_100, i_122, i_239, i_240, i_255, i_256, i_304, i_400, i_401, i_704, i_999, i_1000, i_2304, i_3344, i_3648, i_4096, i_9999, i_32767, upm_at, bk_b, r_isRoom hk, isIn_t, R_from (th_row _ e) V hk]
      · refine AgT.q R 0 0 (Int32.ofNat (giS (μ 0 13) k)) _ (by decide) ?_ (fun μ' V' e => ?_) (fun _ => rfl)
        · unfold f_X9_room
          simp (disch := omega) only [nm_q, bs_q, on_a, on_m, on_t, ix_on, le_t, le_f, lt_t, lt_f, eq_t, eq_f, ite_b0, ite_b1, ↓reduceIte, i_0, i_1, i_2, i_3, i_4, i_5, i_6, i_7, i_8, i_9, i_10, i_11, i_12, i_13, i_14, i_15, i_16, i_18, i_20, i_22, i_24, i_30, i_31, i_32, i_40, i_48, i_50, i_51, i_52, i_57, i_60, i_64, i_65, i_66, i_67, i_97, i_99, i_100, i_122, i_239, i_240, i_255, i_256, i_304, i_400, i_401, i_704, i_999, i_1000, i_2304, i_3344, i_3648, i_4096, i_9999, i_32767, upm_at, bk_b, c_isRoom hk, c_hereIn H V hk]
        · unfold f_X10_room
          simp (disch := omega) only [nm_q, bs_q, on_a, on_m, on_t, ix_on, le_t, le_f, lt_t, lt_f, eq_t, eq_f, ite_b0, ite_b1, ↓reduceIte, i_0, i_1, i_2, i_3, i_4, i_5, i_6, i_7, i_8, i_9, i_10, i_11, i_12, i_13, i_14, i_15, i_16, i_18, i_20, i_22, i_24, i_30, i_31, i_32, i_40, i_48, i_50, i_51, i_52, i_57, i_60, i_64, i_65, i_66, i_67, i_97, i_99, i_100, i_122, i_239, i_240, i_255, i_256, i_304, i_400, i_401, i_704, i_999, i_1000, i_2304, i_3344, i_3648, i_4096, i_9999, i_32767, upm_at, bk_b, r_isRoom hk, isIn_t, R_guestsIn (th_row _ e) V hk]
      · refine AgT.q R 0 0 (Int32.ofNat (wt (μ 0 13) k)) _ (by decide) ?_ (fun μ' V' e => ?_) (fun _ => rfl)
        · unfold f_X9_room
          simp (disch := omega) only [nm_q, bs_q, on_a, on_m, on_t, ix_on, le_t, le_f, lt_t, lt_f, eq_t, eq_f, ite_b0, ite_b1, ↓reduceIte, i_0, i_1, i_2, i_3, i_4, i_5, i_6, i_7, i_8, i_9, i_10, i_11, i_12, i_13, i_14, i_15, i_16, i_18, i_20, i_22, i_24, i_30, i_31, i_32, i_40, i_48, i_50, i_51, i_52, i_57, i_60, i_64, i_65, i_66, i_67, i_97, i_99, i_100, i_122, i_239, i_240, i_255, i_256, i_304, i_400, i_401, i_704, i_999, i_1000, i_2304, i_3344, i_3648, i_4096, i_9999, i_32767, upm_at, bk_b, c_isRoom hk, c_watchers H V hk]
        · unfold f_X10_room
          simp (disch := omega) only [nm_q, bs_q, on_a, on_m, on_t, ix_on, le_t, le_f, lt_t, lt_f, eq_t, eq_f, ite_b0, ite_b1, ↓reduceIte, i_0, i_1, i_2, i_3, i_4, i_5, i_6, i_7, i_8, i_9, i_10, i_11, i_12, i_13, i_14, i_15, i_16, i_18, i_20, i_22, i_24, i_30, i_31, i_32, i_40, i_48, i_50, i_51, i_52, i_57, i_60, i_64, i_65, i_66, i_67, i_97, i_99, i_100, i_122, i_239, i_240, i_255, i_256, i_304, i_400, i_401, i_704, i_999, i_1000, i_2304, i_3344, i_3648, i_4096, i_9999, i_32767, upm_at, bk_b, r_isRoom hk, isIn_t, R_watchers (th_row _ e) V hk]
    · refine AgT.q R 4 2 0 0 (by decide) ?_ (fun μ' V' e => ?_) (fun h => by cases h)
      · have n0 : ¬ b = Int32.ofNat 0 := fun h => by rw [h] at h3; rcases h3 with h3 | ⟨-, h3⟩ <;> exact absurd h3 (by decide)
        have n1 : ¬ b = Int32.ofNat 1 := fun h => by rw [h] at h3; rcases h3 with h3 | ⟨-, h3⟩ <;> exact absurd h3 (by decide)
        have n2 : ¬ b = Int32.ofNat 2 := fun h => by rw [h] at h3; rcases h3 with h3 | ⟨-, h3⟩ <;> exact absurd h3 (by decide)
        have n3 : ¬ b = Int32.ofNat 3 := fun h => by rw [h] at h3; rcases h3 with h3 | ⟨-, h3⟩ <;> exact absurd h3 (by decide)
        unfold f_X9_room
        simp (disch := omega) only [nm_q, bs_q, on_a, on_m, on_t, ix_on, le_t, le_f, lt_t, lt_f, eq_t, eq_f, ite_b0, ite_b1, ↓reduceIte, i_0, i_1, i_2, i_3, i_4, i_5, i_6, i_7, i_8, i_9, i_10, i_11, i_12, i_13, i_14, i_15, i_16, i_18, i_20, i_22, i_24, i_30, i_31, i_32, i_40, i_48, i_50, i_51, i_52, i_57, i_60, i_64, i_65, i_66, i_67, i_97, i_99, i_100, i_122, i_239, i_240, i_255, i_256, i_304, i_400, i_401, i_704, i_999, i_1000, i_2304, i_3344, i_3648, i_4096, i_9999, i_32767, upm_at, bk_b, c_isRoom hk, n0, n1, n2, n3]
      · unfold f_X10_room
        simp (disch := omega) only [nm_q, bs_q, on_a, on_m, on_t, ix_on, le_t, le_f, lt_t, lt_f, eq_t, eq_f, ite_b0, ite_b1, ↓reduceIte, i_0, i_1, i_2, i_3, i_4, i_5, i_6, i_7, i_8, i_9, i_10, i_11, i_12, i_13, i_14, i_15, i_16, i_18, i_20, i_22, i_24, i_30, i_31, i_32, i_40, i_48, i_50, i_51, i_52, i_57, i_60, i_64, i_65, i_66, i_67, i_97, i_99, i_100, i_122, i_239, i_240, i_255, i_256, i_304, i_400, i_401, i_704, i_999, i_1000, i_2304, i_3344, i_3648, i_4096, i_9999, i_32767, upm_at, bk_b, r_isRoom hk, h4]
  · refine AgT.q R 3 1 0 0 (by decide) ?_ (fun μ' V' e => ?_) (fun h => by cases h)
    · unfold f_X9_room
      simp (disch := omega) only [nm_q, bs_q, on_a, on_m, on_t, ix_on, le_t, le_f, lt_t, lt_f, eq_t, eq_f, ite_b0, ite_b1, ↓reduceIte, i_0, i_1, i_2, i_3, i_4, i_5, i_6, i_7, i_8, i_9, i_10, i_11, i_12, i_13, i_14, i_15, i_16, i_18, i_20, i_22, i_24, i_30, i_31, i_32, i_40, i_48, i_50, i_51, i_52, i_57, i_60, i_64, i_65, i_66, i_67, i_97, i_99, i_100, i_122, i_239, i_240, i_255, i_256, i_304, i_400, i_401, i_704, i_999, i_1000, i_2304, i_3344, i_3648, i_4096, i_9999, i_32767, upm_at, bk_b, h1]
    · unfold f_X10_room
      simp (disch := omega) only [nm_q, bs_q, on_a, on_m, on_t, ix_on, le_t, le_f, lt_t, lt_f, eq_t, eq_f, ite_b0, ite_b1, ↓reduceIte, i_0, i_1, i_2, i_3, i_4, i_5, i_6, i_7, i_8, i_9, i_10, i_11, i_12, i_13, i_14, i_15, i_16, i_18, i_20, i_22, i_24, i_30, i_31, i_32, i_40, i_48, i_50, i_51, i_52, i_57, i_60, i_64, i_65, i_66, i_67, i_97, i_99, i_100, i_122, i_239, i_240, i_255, i_256, i_304, i_400, i_401, i_704, i_999, i_1000, i_2304, i_3344, i_3648, i_4096, i_9999, i_32767, upm_at, bk_b, h2]
theorem q_odds_w {μ : Mem} {r : Row} (H : HC (μ (0 + 1)) r) (V : Vr r) : f_X2_watchers 0 μ (μ 1 0 8) = some (Int32.ofNat (wt r (nv r 4))) := by
  have e : μ 1 0 8 = r 4 := H.bath
  rw [e, V.e4]
  exact c_watchers H V V.b4
theorem q_send {μ : Mem} (R : Rel μ) : AgQ (f_X9_send μ) (f_X10_send μ) := by
  have V := R.V
  have H : HC (μ (0 + 1)) (μ 0 13) := R.H
  refine AgQ.q R (Int32.ofNat (wt (μ 0 13) (nv (μ 0 13) 4))) ?_ ?_
  · unfold f_X9_send
    rw [q_odds_w H V]
    rfl
  · unfold f_X10_send
    simp (disch := omega) only [nm_q, bs_q, on_a, on_m, on_t, ix_on, le_t, le_f, lt_t, lt_f, eq_t, eq_f, ite_b0, ite_b1, ↓reduceIte, i_0, i_1, i_2, i_3, i_4, i_5, i_6, i_7, i_8, i_9, i_10, i_11, i_12, i_13, i_14, i_15, i_16, i_18, i_20, i_22, i_24, i_30, i_31, i_32, i_40, i_48, i_50, i_51, i_52, i_57, i_60, i_64, i_65, i_66, i_67, i_97, i_99, i_100, i_122, i_239, i_240, i_255, i_256, i_304, i_400, i_401, i_704, i_999, i_1000, i_2304, i_3344, i_3648, i_4096, i_9999, i_32767, upm_at, bk_b, th_row _ (rfl : μ 0 13 = μ 0 13), V.e4, R_watchers (th_row _ (rfl : μ 0 13 = μ 0 13)) V V.b4]
/-- two answers of a question -/
def AQ (ν : Mem) (o : Option Int32) (o' : Option (Int32 × Mem)) : Prop := ∃ v, o = some v ∧ o' = some (v, ν)
theorem AgQ.a {μ : Mem} {E : Option Int32} {F : Option (Int32 × Mem)} (R : Rel μ) (h : AQ (upm μ 0 12 0 0) E F) : AgQ E F := by
  obtain ⟨v, h1, h2⟩ := h
  exact AgQ.q R v h1 h2
theorem e_X9_well (μ : Mem) : f_X9_well μ = lp_X9_well_6 μ 4096 (-1) 0 0 := by
  unfold f_X9_well
  rfl
theorem e_X10_well (μ : Mem) : f_X10_well μ = lp_X10_well_11 (upm μ 0 12 0 0) 4096 (-1) 0 0 := by
  unfold f_X10_well
  rw [nm_q]
theorem q_well {μ : Mem} (R : Rel μ) : AgQ (f_X9_well μ) (f_X10_well μ) := by
  have V := R.V
  have H : HC (μ (0 + 1)) (μ 0 13) := R.H
  refine AgQ.a R ?_
  rw [e_X9_well, e_X10_well]
  refine (lpJ (fun n (s : Int32 × Int32 × Int32) => lp_X9_well_6 μ n s.1 s.2.1 s.2.2) (fun n (s : Int32 × Int32 × Int32) => lp_X10_well_11 (upm μ 0 12 0 0) n s.1 s.2.1 s.2.2) (AQ (upm μ 0 12 0 0)) (fun k s s' => s = s' ∧ ∃ f, f ≤ 8 ∧ s.2 = (Int32.ofNat f, Int32.ofNat k)) 8 ?_ 4096 4096 (-1, 0, 0) (-1, 0, 0) (by decide) (by decide) ⟨rfl, 0, by decide, rfl⟩)
  rintro k ⟨z, y, x⟩ s' hk ⟨rfl, f, hf, he⟩ n n'
  obtain ⟨rfl, rfl⟩ := Prod.mk.inj he
  by_cases h8 : k = 8
  · left
    subst h8
    exact ⟨z, by simp (disch := omega) only [lp_X9_well_6, nm_q, bs_q, on_a, on_m, on_t, ix_on, le_t, le_f, lt_t, lt_f, eq_t, eq_f, ite_b0, ite_b1, ↓reduceIte, i_0, i_1, i_2, i_3, i_4, i_5, i_6, i_7, i_8, i_9, i_10, i_11, i_12, i_13, i_14, i_15, i_16, i_18, i_20, i_22, i_24, i_30, i_31, i_32, i_40, i_48, i_50, i_51, i_52, i_57, i_60, i_64, i_65, i_66, i_67, i_97, i_99, i_100, i_122, i_239, i_240, i_255, i_256, i_304, i_400, i_401, i_704, i_999, i_1000, i_2304, i_3344, i_3648, i_4096, i_9999, i_32767], by simp (disch := omega) only [lp_X10_well_11, nm_q, bs_q, on_a, on_m, on_t, ix_on, le_t, le_f, lt_t, lt_f, eq_t, eq_f, ite_b0, ite_b1, ↓reduceIte, i_0, i_1, i_2, i_3, i_4, i_5, i_6, i_7, i_8, i_9, i_10, i_11, i_12, i_13, i_14, i_15, i_16, i_18, i_20, i_22, i_24, i_30, i_31, i_32, i_40, i_48, i_50, i_51, i_52, i_57, i_60, i_64, i_65, i_66, i_67, i_97, i_99, i_100, i_122, i_239, i_240, i_255, i_256, i_304, i_400, i_401, i_704, i_999, i_1000, i_2304, i_3344, i_3648, i_4096, i_9999, i_32767]⟩
  · right
    have h7 : k < 8 := by omega
    have hp := pc_le (inS (μ 0 13) k)
    refine ⟨h7, ?_⟩
    simp (disch := omega) only [lp_X9_well_6, lp_X10_well_11, c_holesInto H V h7, R_from (th_row _ (rfl : μ 0 13 = μ 0 13)) V h7, bc_b _ (in_256 _ _), bits_b _ (in_256 _ _), nm_q, bs_q, on_a, on_m, on_t, ix_on, le_t, le_f, lt_t, lt_f, eq_t, eq_f, ite_b0, ite_b1, ↓reduceIte, i_0, i_1, i_2, i_3, i_4, i_5, i_6, i_7, i_8, i_9, i_10, i_11, i_12, i_13, i_14, i_15, i_16, i_18, i_20, i_22, i_24, i_30, i_31, i_32, i_40, i_48, i_50, i_51, i_52, i_57, i_60, i_64, i_65, i_66, i_67, i_97, i_99, i_100, i_122, i_239, i_240, i_255, i_256, i_304, i_400, i_401, i_704, i_999, i_1000, i_2304, i_3344, i_3648, i_4096, i_9999, i_32767]
    rw [il_le (by omega) (by omega), il_lt (by omega) (by omega)]
    by_cases h : pc (inS (μ 0 13) k) ≤ f
    · rw [if_pos h, if_neg (by omega)]
      exact ⟨(z, Int32.ofNat f, Int32.ofNat (k + 1)), (z, Int32.ofNat f, Int32.ofNat (k + 1)), ⟨rfl, f, hf, rfl⟩, rfl, rfl⟩
    · rw [if_neg h, if_pos (by omega)]
      exact ⟨(_, _, Int32.ofNat (k + 1)), (_, _, Int32.ofNat (k + 1)), ⟨rfl, _, hp, rfl⟩, rfl, rfl⟩
