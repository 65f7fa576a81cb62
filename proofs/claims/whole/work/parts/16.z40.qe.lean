/-! ===== questions answered alike: the least set of the fewest ===== -/
def shB (r : Row) (a : Nat) : Bool := (List.range 8).all fun k => a.testBit k || decide (Int32.ofNat (nv r (16 + k)) &&& (Int32.ofNat a ^^^ -1) = 0)
theorem shB_iff {r : Row} {a : Nat} : shB r a = true ↔ ∀ k, k < 8 → a.testBit k = true ∨ Int32.ofNat (nv r (16 + k)) &&& (Int32.ofNat a ^^^ -1) = 0 := by
  unfold shB
  rw [List.all_eq_true]
  constructor
  · intro h k hk
    have := h k (List.mem_range.mpr hk)
    rw [Bool.or_eq_true, decide_eq_true_eq] at this
    exact this
  · intro h k hk
    rw [Bool.or_eq_true, decide_eq_true_eq]
    exact h k (List.mem_range.mp hk)
theorem c_shuts {μ : Mem} {r : Row} (H : HC (μ (0 + 1)) r) (V : Vr r) {a : Nat} (ha : a < 256) : f_X9_shutsAll μ (Int32.ofNat a) = some (bI (shB r a)) := by
  refine lpP (fun n (s : Int32) => lp_X9_shutsAll_2 (Int32.ofNat a) μ n s) (fun o => o = some (bI (shB r a))) (fun k s => s = Int32.ofNat k ∧ ∀ j, j < k → a.testBit j = true ∨ Int32.ofNat (nv r (16 + j)) &&& (Int32.ofNat a ^^^ -1) = 0) 8 ?_ 4096 0 (by decide) ⟨rfl, fun j hj => by omega⟩
  rintro k s hk ⟨rfl, hI⟩ n
  by_cases h8 : k = 8
  · left
    subst h8
    rw [shB_iff.mpr hI, lp_X9_shutsAll_2, if_pos (by decide)]
    rfl
  · have hk8 : k < 8 := by omega
    simp (disch := omega) only [lp_X9_shutsAll_2, hold_b a ha k hk8, c_holesFrom H hk8, V.he hk8, nm_q, bs_q, on_a, on_m, on_t, ix_on, le_t, le_f, lt_t, lt_f, eq_t, eq_f, ite_b0, ite_b1, ↓reduceIte, i_0, i_1, i_2, i_3, i_4, i_5, i_6, i_7, i_8, i_9, i_10, i_11, i_12, i_13, i_14, i_15, i_16, i_18, i_20, i_22, i_24, i_30, i_31, i_32, i_40, i_48, i_50, i_51, i_52, i_57, i_60, i_64, i_65, i_66, i_67, i_97, i_99, i_100, i_122, i_239, i_240, i_255, i_256, i_304, i_400, i_401, i_704, i_999, i_1000, i_2304, i_3344, i_3648, i_4096, i_9999, i_32767]
    by_cases h1 : a.testBit k = true
    · right
      refine ⟨hk8, Int32.ofNat (k + 1), ⟨rfl, fun j hj => ?_⟩, if_pos h1⟩
      by_cases e : j = k
      · rw [e]
        exact Or.inl h1
      · exact hI j (by omega)
    · rw [if_neg h1]
      by_cases h2 : Int32.ofNat (nv r (16 + k)) &&& (Int32.ofNat a ^^^ -1) = 0
      · right
        refine ⟨hk8, Int32.ofNat (k + 1), ⟨rfl, fun j hj => ?_⟩, if_pos h2⟩
        by_cases e : j = k
        · rw [e]
          exact Or.inr h2
        · exact hI j (by omega)
      · left
        have hn : shB r a = false := by
          rw [← Bool.not_eq_true, shB_iff]
          intro h
          rcases h k hk8 with h | h
          · exact h1 h
          · exact h2 h
        rw [hn]
        exact if_neg h2
theorem r_shuts {μ : Mem} {r : Row} (e : μ 0 13 = r) (V : Vr r) {a : Nat} (ha : a < 256) : f_X10_shuts μ (Int32.ofNat a) = some (bI (shB r a)) := by
  refine lpP (fun n (s : Int32) => lp_X10_shuts_2 (Int32.ofNat a) μ n s) (fun o => o = some (bI (shB r a))) (fun k s => s = Int32.ofNat k ∧ ∀ j, j < k → a.testBit j = true ∨ Int32.ofNat (nv r (16 + j)) &&& (Int32.ofNat a ^^^ -1) = 0) 8 ?_ 4096 0 (by decide) ⟨rfl, fun j hj => by omega⟩
  rintro k s hk ⟨rfl, hI⟩ n
  by_cases h8 : k = 8
  · left
    subst h8
    rw [shB_iff.mpr hI, lp_X10_shuts_2, if_pos (by decide)]
    rfl
  · have hk8 : k < 8 := by omega
    simp (disch := omega) only [lp_X10_shuts_2, e, isOf_b a ha k hk8, V.he hk8, nm_q, bs_q, on_a, on_m, on_t, ix_on, le_t, le_f, lt_t, lt_f, eq_t, eq_f, ite_b0, ite_b1, ↓reduceIte, i_0, i_1, i_2, i_3, i_4, i_5, i_6, i_7, i_8, i_9, i_10, i_11, i_12, i_13, i_14, i_15, i_16, i_18, i_20, i_22, i_24, i_30, i_31, i_32, i_40, i_48, i_50, i_51, i_52, i_57, i_60, i_64, i_65, i_66, i_67, i_97, i_99, i_100, i_122, i_239, i_240, i_255, i_256, i_304, i_400, i_401, i_704, i_999, i_1000, i_2304, i_3344, i_3648, i_4096, i_9999, i_32767]
    by_cases h1 : a.testBit k = true
    · right
      refine ⟨hk8, Int32.ofNat (k + 1), ⟨rfl, fun j hj => ?_⟩, if_pos h1⟩
      by_cases e : j = k
      · rw [e]
        exact Or.inl h1
      · exact hI j (by omega)
    · rw [if_neg h1]
      by_cases h2 : Int32.ofNat (nv r (16 + k)) &&& (Int32.ofNat a ^^^ -1) = 0
      · right
        refine ⟨hk8, Int32.ofNat (k + 1), ⟨rfl, fun j hj => ?_⟩, if_pos h2⟩
        by_cases e : j = k
        · rw [e]
          exact Or.inr h2
        · exact hI j (by omega)
      · left
        have hn : shB r a = false := by
          rw [← Bool.not_eq_true, shB_iff]
          intro h
          rcases h k hk8 with h | h
          · exact h1 h
          · exact h2 h
        rw [hn]
        exact if_neg h2
/-- a is before b -/
def bef (a b : Nat) : Prop := pc a < pc b ∨ (pc a = pc b ∧ a ≤ b)
theorem bef_anti {a b : Nat} (h : bef a b) (h2 : bef b a) : a = b := by
  unfold bef at h h2
  omega
theorem e_X9_shut (μ : Mem) : f_X9_shut μ = lp_X9_shut_8 μ 4096 255 255 := by
  unfold f_X9_shut
  rfl
theorem e_X10_shut (μ : Mem) : f_X10_shut μ = lp_X10_shut_9 (upm μ 0 12 0 0) 4096 (-1) 0 := by
  unfold f_X10_shut
  rw [nm_q]
theorem dec_1 {k : Nat} : Int32.ofNat (k + 1) + (-1) = Int32.ofNat k := by
  rw [Int32.ofNat_add]
  exact (Int32.sub_eq_add_neg _ _).symm.trans (Int32.add_sub_cancel _ _)
theorem c_shut {μ : Mem} {r : Row} (H : HC (μ (0 + 1)) r) (V : Vr r) : ∃ a, a < 256 ∧ f_X9_shut μ = some (Int32.ofNat a) ∧ shB r a = true ∧ ∀ b, b < 256 → shB r b = true → bef a b := by
  have h255 : shB r 255 = true := shB_iff.mpr fun k hk => Or.inl ((by decide : ∀ k, k < 8 → (255 : Nat).testBit k = true) k hk)
  rw [e_X9_shut]
  refine lpP (fun n (s : Int32 × Int32) => lp_X9_shut_8 μ n s.1 s.2) (fun o => ∃ a, a < 256 ∧ o = some (Int32.ofNat a) ∧ shB r a = true ∧ ∀ b, b < 256 → shB r b = true → bef a b) (fun k s => ∃ a, a < 256 ∧ s = (Int32.ofNat a, Int32.ofNat (256 - k) + (-1)) ∧ shB r a = true ∧ 256 - k ≤ a + 1 ∧ ∀ b, 256 - k ≤ b → b < 256 → shB r b = true → bef a b) 256 ?_ 4096 (255, 255) (by decide) ⟨255, by decide, rfl, h255, by decide, fun b h1 h2 _ => by omega⟩
  rintro k s hk ⟨a, ha, rfl, hs, hak, hb⟩ n
  by_cases h8 : k = 256
  · left
    subst h8
    refine ⟨a, ha, ?_, hs, fun b hb2 hb3 => hb b (by omega) hb2 hb3⟩
    show lp_X9_shut_8 _ _ _ _ = _
    rw [lp_X9_shut_8, if_pos (show Int32.ofNat (256 - 256) + (-1) < (0 : Int32) by decide)]
  · right
    refine ⟨by omega, ?_⟩
    obtain ⟨j, hj⟩ : ∃ j, 256 - k = j + 1 := ⟨255 - k, by omega⟩
    have hj2 : j < 256 := by omega
    have p1 := pc_le j
    have p2 := pc_le a
    simp only [hj] at hak hb
    have hj3 : 256 - (k + 1) = j := by omega
    simp only [hj, dec_1, hj3]
    have hneg : ¬ Int32.ofNat j < 0 := by
      rw [i_0, on_lt (by omega) (by decide)]
      omega
    rw [lp_X9_shut_8, if_neg hneg, bc_b j hj2, bc_b a ha]
    simp only [bs_q]
    rw [il_lt (by omega) (by omega), c_shuts H V hj2]
    simp only [bs_q, i_0, ite_b0]
    by_cases h1 : pc a < pc j
    · rw [if_pos h1]
      refine ⟨_, ⟨a, ha, rfl, hs, by omega, fun b h2 h3 h4 => ?_⟩, rfl⟩
      by_cases e : b = j
      · rw [e]
        exact Or.inl h1
      · exact hb b (by omega) h3 h4
    · rw [if_neg h1]
      by_cases h2 : shB r j = true
      · rw [if_pos h2]
        refine ⟨_, ⟨j, hj2, rfl, h2, by omega, fun b h3 h4 h5 => ?_⟩, rfl⟩
        by_cases e : b = j
        · rw [e]
          exact Or.inr ⟨rfl, Nat.le_refl _⟩
        · have := hb b (by omega) h4 h5
          unfold bef at this ⊢
          omega
      · rw [if_neg h2]
        refine ⟨_, ⟨a, ha, rfl, hs, by omega, fun b h3 h4 h5 => ?_⟩, rfl⟩
        by_cases e : b = j
        · rw [e] at h5
          exact absurd h5 h2
        · exact hb b (by omega) h4 h5
theorem r_shut {μ : Mem} {r : Row} (e : μ 0 13 = r) (V : Vr r) : ∃ a, a < 256 ∧ lp_X10_shut_9 μ 4096 (-1) 0 = some (Int32.ofNat a, μ) ∧ shB r a = true ∧ ∀ b, b < 256 → shB r b = true → bef a b := by
  have h255 : shB r 255 = true := shB_iff.mpr fun k hk => Or.inl ((by decide : ∀ k, k < 8 → (255 : Nat).testBit k = true) k hk)
  refine lpP (fun n (s : Int32 × Int32) => lp_X10_shut_9 μ n s.1 s.2) (fun o => ∃ a, a < 256 ∧ o = some (Int32.ofNat a, μ) ∧ shB r a = true ∧ ∀ b, b < 256 → shB r b = true → bef a b) (fun k s => (s = (-Int32.ofNat 1, Int32.ofNat k) ∧ ∀ b, b < k → shB r b = false) ∨ ∃ a, a < k ∧ s = (Int32.ofNat a, Int32.ofNat k) ∧ shB r a = true ∧ ∀ b, b < k → shB r b = true → bef a b) 256 ?_ 4096 (-1, 0) (by decide) (Or.inl ⟨rfl, fun b hb => by omega⟩)
  rintro k s hk hI n
  by_cases h8 : k = 256
  · left
    subst h8
    rcases hI with ⟨rfl, hb⟩ | ⟨a, ha, rfl, hs, hb⟩
    · have := hb 255 (by decide)
      rw [h255] at this
      cases this
    · refine ⟨a, ha, ?_, hs, hb⟩
      show lp_X10_shut_9 _ _ _ _ = _
      rw [lp_X10_shut_9, if_pos (show (256 : Int32) ≤ Int32.ofNat 256 by decide)]
  · right
    have hk2 : k < 256 := by omega
    refine ⟨hk2, ?_⟩
    have p1 := pc_le k
    have take : shB r k = true → ∀ J : Option (Int32 × Mem), J = lp_X10_shut_9 μ n (Int32.ofNat k) (Int32.ofNat (k + 1)) → (∀ b, b < k → shB r b = true → bef k b) → ∃ s', ((s' = (-Int32.ofNat 1, Int32.ofNat (k + 1)) ∧ ∀ b, b < k + 1 → shB r b = false) ∨ ∃ a, a < k + 1 ∧ s' = (Int32.ofNat a, Int32.ofNat (k + 1)) ∧ shB r a = true ∧ ∀ b, b < k + 1 → shB r b = true → bef a b) ∧ J = lp_X10_shut_9 μ n s'.1 s'.2 := by
      intro h J hJ hb
      refine ⟨(Int32.ofNat k, Int32.ofNat (k + 1)), Or.inr ⟨k, by omega, rfl, h, fun b h2 h3 => ?_⟩, hJ⟩
      by_cases e2 : b = k
      · rw [e2]
        exact Or.inr ⟨rfl, Nat.le_refl _⟩
      · exact hb b (by omega) h3
    rcases hI with ⟨rfl, hb⟩ | ⟨a, ha, rfl, hs, hb⟩
    · simp (disch := omega) only [lp_X10_shut_9, r_shuts e V hk2, nm_q, bs_q, on_a, on_m, on_t, ix_on, le_t, le_f, lt_t, lt_f, eq_t, eq_f, ite_b0, ite_b1, ↓reduceIte, i_0, i_1, i_2, i_3, i_4, i_5, i_6, i_7, i_8, i_9, i_10, i_11, i_12, i_13, i_14, i_15, i_16, i_18, i_20, i_22, i_24, i_30, i_31, i_32, i_40, i_48, i_50, i_51, i_52, i_57, i_60, i_64, i_65, i_66, i_67, i_97, i_99, i_100, i_122, i_239, i_240, i_255, i_256, i_304, i_400, i_401, i_704, i_999, i_1000, i_2304, i_3344, i_3648, i_4096, i_9999, i_32767]
      by_cases h2 : shB r k = true
      · rw [if_pos h2]
        exact take h2 _ rfl fun b h3 h4 => by rw [hb b h3] at h4; cases h4
      · rw [if_neg h2]
        refine ⟨(-Int32.ofNat 1, Int32.ofNat (k + 1)), Or.inl ⟨rfl, fun b h3 => ?_⟩, rfl⟩
        by_cases e2 : b = k
        · rw [e2]
          exact Bool.not_eq_true _ ▸ h2
        · exact hb b (by omega)
    · have p2 := pc_le a
      simp (disch := omega) only [lp_X10_shut_9, r_shuts e V hk2, bits_b k hk2, bits_b a (by omega), on_neg1, nm_q, bs_q, on_a, on_m, on_t, ix_on, le_t, le_f, lt_t, lt_f, eq_t, eq_f, ite_b0, ite_b1, ↓reduceIte, i_0, i_1, i_2, i_3, i_4, i_5, i_6, i_7, i_8, i_9, i_10, i_11, i_12, i_13, i_14, i_15, i_16, i_18, i_20, i_22, i_24, i_30, i_31, i_32, i_40, i_48, i_50, i_51, i_52, i_57, i_60, i_64, i_65, i_66, i_67, i_97, i_99, i_100, i_122, i_239, i_240, i_255, i_256, i_304, i_400, i_401, i_704, i_999, i_1000, i_2304, i_3344, i_3648, i_4096, i_9999, i_32767]
      rw [il_le (by omega) (by omega)]
      by_cases h1 : pc a ≤ pc k
      · rw [if_pos h1]
        refine ⟨(Int32.ofNat a, Int32.ofNat (k + 1)), Or.inr ⟨a, by omega, rfl, hs, fun b h3 h4 => ?_⟩, rfl⟩
        by_cases e2 : b = k
        · rw [e2]
          unfold bef
          omega
        · exact hb b (by omega) h4
      · rw [if_neg h1]
        by_cases h2 : shB r k = true
        · rw [if_pos h2]
          refine take h2 _ rfl fun b h3 h4 => ?_
          have := hb b h3 h4
          unfold bef at this ⊢
          omega
        · rw [if_neg h2]
          refine ⟨(Int32.ofNat a, Int32.ofNat (k + 1)), Or.inr ⟨a, by omega, rfl, hs, fun b h3 h4 => ?_⟩, rfl⟩
          by_cases e2 : b = k
          · rw [e2] at h4
            exact absurd h4 h2
          · exact hb b (by omega) h4
theorem q_shut {μ : Mem} (R : Rel μ) : AgQ (f_X9_shut μ) (f_X10_shut μ) := by
  have V := R.V
  have H : HC (μ (0 + 1)) (μ 0 13) := R.H
  obtain ⟨a, ha, h1, h2, h3⟩ := c_shut H V
  obtain ⟨b, hb, k1, k2, k3⟩ := r_shut (up0 μ 0) V
  have e : a = b := bef_anti (h3 b hb k2) (k3 a ha h2)
  subst e
  exact AgQ.q R _ h1 (by rw [e_X10_shut]; exact k1)
