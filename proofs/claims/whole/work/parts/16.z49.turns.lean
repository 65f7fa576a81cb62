/-! ===== what a guest turns by ===== -/
def factR (r : Row) (g : Nat) : Row := fun i => match i with
  | 0 => Int32.ofNat g
  | 1 => r (24 + 5 * g)
  | 2 => r (24 + 5 * g + 1)
  | 3 => r (24 + 5 * g + 2)
  | 4 => r 8
  | 5 => Int32.ofNat (pc (nv r (16 + rm r g)))
  | 6 => r 10 / Int32.ofNat 7
  | 7 => bI (kyB r g)
  | _ => bI (satI r (nv r 5) (r 10 + Int32.ofNat 1))
def tnS (ev : Row → Int32) (r : Row) (g : Nat) : Int32 := if r 1 = -1 then 1 else ev (factR r g)
theorem c_hf {h : Nat} {μ : Mem} {k : Nat} (hk : k < 8) : f_X2_holesFrom h μ (Int32.ofNat k) = some (μ (h + 1) 10 k) := by
  unfold f_X2_holesFrom
  rw [c_isRoom hk]
  simp (disch := omega) only [nm_q, bs_q, on_a, on_m, on_t, ix_on, le_t, le_f, lt_t, lt_f, eq_t, eq_f, ite_b0, ite_b1, ↓reduceIte, i_0, i_1, i_2, i_3, i_4, i_5, i_6, i_7, i_8, i_9, i_10, i_11, i_12, i_13, i_14, i_15, i_16, i_18, i_20, i_22, i_24, i_30, i_31, i_32, i_40, i_48, i_50, i_51, i_52, i_57, i_60, i_64, i_65, i_66, i_67, i_97, i_99, i_100, i_122, i_239, i_240, i_255, i_256, i_304, i_400, i_401, i_704, i_999, i_1000, i_2304, i_3344, i_3648, i_4096, i_9999, i_32767]
theorem bI_ite {τ : Type} (b : Bool) (f : Int32 → τ) : (if b = true then f (Int32.ofNat 1) else f (Int32.ofNat 0)) = f (bI b) := by cases b <;> rfl
set_option maxHeartbeats 4000000 in
theorem c_turns {ev : Row → Int32} {h : Nat} {μ : Mem} {r : Row} (H : HV ev (μ (h + 1)) r) {g : Nat} (hg : g < nv r 3) : ∃ μ', f_X2_turns h μ (Int32.ofNat g) = some (tnS ev r g, μ') ∧ (∀ g', g' ≠ h + 1 → μ' g' = μ g') ∧ ∀ j i, scH j i = false → μ' (h + 1) j i = μ (h + 1) j i := by
  have V := H.1
  have HH := H.2.1
  have h8 := V.c8
  have hg8 : g < 8 := by omega
  obtain ⟨e2, e3, e4⟩ := HH.g hg
  have hr8 := V.rm8 hg8
  have e10 : μ (h + 1) 10 (rm r g) = Int32.ofNat (nv r (16 + rm r g)) := (HH.ho hr8).trans (V.he hr8)
  have eky := HH.ky
  have eke : μ (h + 1) 0 7 = Int32.ofNat (nv r 5) := HH.kept.trans V.e5
  rw [V.rme hg8] at e2
  have key : ∃ ν : Mem, f_X2_turns h μ (Int32.ofNat g) = (f_X4_turnsBy h ν).bind (fun q : Int32 × Mem => some (q.1, q.2)) ∧ (∀ g', g' ≠ h + 1 → ν g' = μ g') ∧ (∀ j, j ≠ 11 → ν (h + 1) j = μ (h + 1) j) ∧ ∀ i, i < 9 → ν (h + 1) 11 i = factR r g i := by
    have hsat : ∀ ν : Mem, (∀ j, j ≠ 11 → ν (h + 1) j = μ (h + 1) j) → f_X2_isSaturday h ν (Int32.ofNat (nv r 5)) (r 10 + Int32.ofNat 1) = some (bI (satI r (nv r 5) (r 10 + Int32.ofNat 1))) := fun ν hν => c_isSat (HH.cg fun j i hs => by rw [hν j (by rintro rfl; cases hs)]) V.b5 _
    refine ⟨upm (upm (upm (upm (upm (upm (upm (upm (upm μ (h + 1) 11 0 (Int32.ofNat g)) (h + 1) 11 1 (Int32.ofNat (rm r g))) (h + 1) 11 2 (r (24 + 5 * g + 1))) (h + 1) 11 3 (r (24 + 5 * g + 2))) (h + 1) 11 4 (r 8)) (h + 1) 11 5 (Int32.ofNat (pc (nv r (16 + rm r g))))) (h + 1) 11 6 (r 10 / Int32.ofNat 7)) (h + 1) 11 7 (bI (kyB r g))) (h + 1) 11 8 (bI (satI r (nv r 5) (r 10 + Int32.ofNat 1))), ?_, ?_, ?_, ?_⟩
    · unfold f_X2_turns
      simp (disch := omega) only [c_room hg8, c_wish hg8, c_doubt hg8, upm_n3, e2, e3, e4, c_hf hr8, e10, bc_b _ (V.hb hr8), HH.towers, HH.day, eky, hold_b _ (mk_256 _ h8) g hg8, mk_tb, hg, decide_true, Bool.true_and, eke, nm_q, bs_q, on_a, on_m, on_t, ix_on, le_t, le_f, lt_t, lt_f, eq_t, eq_f, ite_b0, ite_b1, ↓reduceIte, i_0, i_1, i_2, i_3, i_4, i_5, i_6, i_7, i_8, i_9, i_10, i_11, i_12, i_13, i_14, i_15, i_16, i_18, i_20, i_22, i_24, i_30, i_31, i_32, i_40, i_48, i_50, i_51, i_52, i_57, i_60, i_64, i_65, i_66, i_67, i_97, i_99, i_100, i_122, i_239, i_240, i_255, i_256, i_304, i_400, i_401, i_704, i_999, i_1000, i_2304, i_3344, i_3648, i_4096, i_9999, i_32767]
      rw [← ite_b0 (b := kyB r g)]
      have two : ∀ (b : Bool) (f : Int32 → Option (Int32 × Mem)), (if bI b = Int32.ofNat 0 then f (Int32.ofNat 0) else f (Int32.ofNat 1)) = f (bI b) := fun b f => by cases b <;> rfl
      rw [two (kyB r g) (fun x => (f_X2_isSaturday h (upm (upm (upm (upm (upm (upm (upm (upm μ (h + 1) 11 0 (Int32.ofNat g)) (h + 1) 11 1 (Int32.ofNat (rm r g))) (h + 1) 11 2 (r (24 + 5 * g + 1))) (h + 1) 11 3 (r (24 + 5 * g + 2))) (h + 1) 11 4 (r 8)) (h + 1) 11 5 (Int32.ofNat (pc (nv r (16 + rm r g))))) (h + 1) 11 6 (r 10 / Int32.ofNat 7)) (h + 1) 11 7 x) (Int32.ofNat (nv r 5)) (r 10 + Int32.ofNat 1)).bind fun q17 => if q17 = Int32.ofNat 0 then (f_X4_turnsBy h (upm (upm (upm (upm (upm (upm (upm (upm (upm μ (h + 1) 11 0 (Int32.ofNat g)) (h + 1) 11 1 (Int32.ofNat (rm r g))) (h + 1) 11 2 (r (24 + 5 * g + 1))) (h + 1) 11 3 (r (24 + 5 * g + 2))) (h + 1) 11 4 (r 8)) (h + 1) 11 5 (Int32.ofNat (pc (nv r (16 + rm r g))))) (h + 1) 11 6 (r 10 / Int32.ofNat 7)) (h + 1) 11 7 x) (h + 1) 11 8 (Int32.ofNat 0))).bind (fun q20 => some (q20.1, q20.2)) else (f_X4_turnsBy h (upm (upm (upm (upm (upm (upm (upm (upm (upm μ (h + 1) 11 0 (Int32.ofNat g)) (h + 1) 11 1 (Int32.ofNat (rm r g))) (h + 1) 11 2 (r (24 + 5 * g + 1))) (h + 1) 11 3 (r (24 + 5 * g + 2))) (h + 1) 11 4 (r 8)) (h + 1) 11 5 (Int32.ofNat (pc (nv r (16 + rm r g))))) (h + 1) 11 6 (r 10 / Int32.ofNat 7)) (h + 1) 11 7 x) (h + 1) 11 8 (Int32.ofNat 1))).bind (fun q20 => some (q20.1, q20.2)))]
      rw [hsat _ (fun j hj => by simp (disch := omega) only [upm_ne])]
      simp only [bs_q]
      rw [two (satI r (nv r 5) (r 10 + Int32.ofNat 1)) (fun y => (f_X4_turnsBy h (upm (upm (upm (upm (upm (upm (upm (upm (upm μ (h + 1) 11 0 (Int32.ofNat g)) (h + 1) 11 1 (Int32.ofNat (rm r g))) (h + 1) 11 2 (r (24 + 5 * g + 1))) (h + 1) 11 3 (r (24 + 5 * g + 2))) (h + 1) 11 4 (r 8)) (h + 1) 11 5 (Int32.ofNat (pc (nv r (16 + rm r g))))) (h + 1) 11 6 (r 10 / Int32.ofNat 7)) (h + 1) 11 7 (bI (kyB r g))) (h + 1) 11 8 y)).bind (fun q20 => some (q20.1, q20.2)))]
    · intro g' hg'
      simp only [upm_ng hg']
    · intro j hj
      simp (disch := omega) only [upm_ne]
    · intro i hi
      rcases (show i = 0 ∨ i = 1 ∨ i = 2 ∨ i = 3 ∨ i = 4 ∨ i = 5 ∨ i = 6 ∨ i = 7 ∨ i = 8 by omega) with rfl | rfl | rfl | rfl | rfl | rfl | rfl | rfl | rfl <;> simp (disch := omega) only [upm_at, upm_n3] <;> first | rfl | exact (V.rme hg8).symm
  obtain ⟨ν, k1, k2, k3, k4⟩ := key
  have hl : ν (h + 1) 7 4 = r 1 := by
    rw [k3 7 (by decide)]
    exact H.2.2.2.1.1
  by_cases hn : r 1 = -1
  · refine ⟨ν, ?_, k2, fun j i hs => by rw [k3 j (by rintro rfl; cases hs)]⟩
    rw [k1]
    unfold f_X4_turnsBy tnS
    rw [hl, if_pos hn, if_pos hn]
    rfl
  · obtain ⟨len, d1, d2, d3⟩ := H.2.2.2.1.2 hn
    obtain ⟨μ', m1, m2⟩ := d3.2 h ν (fun i _ => by rw [k3 8 (by decide)]) (by rw [k3 7 (by decide)]; exact d2) (by rw [hl]; exact hn)
    refine ⟨μ', ?_, fun g' hg' => ?_, fun j i hs => ?_⟩
    · rw [k1, m1]
      unfold tnS
      rw [if_neg hn, d3.1 _ (factR r g) k4]
      rfl
    · rw [← k2 g' hg']
      funext j i
      exact m2 g' j i (by omega)
    · rw [m2 (h + 1) j i (by
        unfold scH at hs
        simp only [Bool.or_eq_false_iff, beq_eq_false_iff_ne, Bool.and_eq_false_iff, decide_eq_false_iff_not] at hs
        omega), k3 j (by rintro rfl; cases hs)]
