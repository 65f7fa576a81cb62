/-! ===== a house and its row changed alike ===== -/
theorem nv_ne {r : Row} {i k : Nat} {v : Int32} (h : k ≠ i) : nv (upd r i v) k = nv r k := by
  unfold nv
  rw [upd_ne h]
theorem ky_lo {r : Row} {i : Nat} {v : Int32} (h : i < 24) : kyB (upd r i v) = kyB r := funext fun g => by
  unfold kyB
  rw [upd_ne (by omega)]
theorem hr_lo {r : Row} {i : Nat} {v : Int32} (h : i < 24) : hrB (upd r i v) = hrB r := funext fun g => by
  unfold hrB
  rw [upd_ne (by omega)]
def SCL : List (Nat × Nat) := [(5, 12), (6, 13), (7, 5), (8, 4), (9, 6), (10, 7), (11, 8), (12, 9), (13, 10), (14, 11), (15, 15), (16, 0)]
set_option maxHeartbeats 2000000 in
theorem hc_sc {c c' : Nat → Nat → Int32} {r : Row} {ci ri : Nat} (hm : (ci, ri) ∈ SCL) (H : HC c r) {v : Int32} (h0 : c' 0 ci = v) (hc : ∀ j i, ¬ (j = 0 ∧ i = ci) → c' j i = c j i) : HC c' (upd r ri v) := by
  obtain ⟨⟨b1, b2, b3, b4, b5, b6, b7, b8, b9, b10, b11, b12, b13⟩, k1, k2, k3, k4⟩ := H
  have hri : ri < 16 ∧ ri ≠ 3 := by
    have : ∀ q ∈ SCL, q.2 < 16 ∧ q.2 ≠ 3 := by decide
    exact this _ hm
  have e3 : nv (upd r ri v) 3 = nv r 3 := nv_ne (by omega)
  refine ⟨?_, ?_, ?_, ?_, ?_⟩
  · have hm2 : (ci = 5 ∧ ri = 12) ∨ (ci = 6 ∧ ri = 13) ∨ (ci = 7 ∧ ri = 5) ∨ (ci = 8 ∧ ri = 4) ∨ (ci = 9 ∧ ri = 6) ∨ (ci = 10 ∧ ri = 7) ∨ (ci = 11 ∧ ri = 8) ∨ (ci = 12 ∧ ri = 9) ∨ (ci = 13 ∧ ri = 10) ∨ (ci = 14 ∧ ri = 11) ∨ (ci = 15 ∧ ri = 15) ∨ (ci = 16 ∧ ri = 0) := by
      simp only [SCL, List.mem_cons, Prod.mk.injEq, List.not_mem_nil, or_false] at hm
      exact hm
    rcases hm2 with ⟨rfl, rfl⟩ | ⟨rfl, rfl⟩ | ⟨rfl, rfl⟩ | ⟨rfl, rfl⟩ | ⟨rfl, rfl⟩ | ⟨rfl, rfl⟩ | ⟨rfl, rfl⟩ | ⟨rfl, rfl⟩ | ⟨rfl, rfl⟩ | ⟨rfl, rfl⟩ | ⟨rfl, rfl⟩ | ⟨rfl, rfl⟩ <;> refine ⟨?_, ?_, ?_, ?_, ?_, ?_, ?_, ?_, ?_, ?_, ?_, ?_, ?_⟩ <;> first | (rw [hc _ _ (by omega), upd_ne (by omega)]; assumption) | (rw [upd_at]; exact h0)
  · rw [hc _ _ (by omega), e3, ky_lo (by omega)]
    exact k1
  · rw [hc _ _ (by omega), e3, hr_lo (by omega)]
    exact k2
  · intro g hg
    rw [e3] at hg
    rw [hc _ _ (by omega), hc _ _ (by omega), hc _ _ (by omega), upd_ne (by omega), upd_ne (by omega), upd_ne (by omega)]
    exact k3 g hg
  · intro k hk
    rw [hc _ _ (by omega), upd_ne (by omega)]
    exact k4 k hk
theorem RLaw.cg {ev : Row → Int32} {r r' : Row} (h1 : r' 1 = r 1) (h2 : r' 2 = r 2) (h3 : ∀ i, 304 ≤ i → i < 704 → r' i = r i) (H : RLaw ev r) : RLaw ev r' := by
  unfold RLaw at H ⊢
  rw [h1, h2]
  intro hn μ g1
  exact H hn μ fun i a b => (g1 i a b).trans (h3 i a b)
/-- all of a house's relation from its part of scalars, guests and holes -/
theorem hv_up {ev : Row → Int32} {c c' : Nat → Nat → Int32} {r : Row} {i : Nat} {v : Int32} (H : HV ev c r) (hi : i < 64 ∧ i ≠ 1 ∧ i ≠ 2 ∧ i ≠ 14) (hv : okI i = true → Nb v (bd i)) (hc : ∀ j k, (j = 5 ∨ j = 6 ∨ j = 8 ∨ (j = 7 ∧ k ≠ 3)) → c' j k = c j k) (hH : HC c' (upd r i v)) : HV ev c' (upd r i v) := by
  refine ⟨H.1.set i v hv, hH, ?_, ?_, ?_⟩
  · obtain ⟨b1, nx, b2, b3, b4⟩ := H.2.2.1
    refine ⟨by rw [hc 5 1 (by omega), upd_ne (by omega)]; exact b1, nx, b2, by rw [hc 5 2 (by omega)]; exact b3, fun ago ha w hw => ?_⟩
    rw [nv_ne (by omega)] at ha
    rw [hc 6 _ (by omega), upd_ne (by omega)]
    exact b4 ago ha w hw
  · obtain ⟨b1, b2⟩ := H.2.2.2.1
    refine ⟨by rw [hc 7 4 (by omega), upd_ne (by omega)]; exact b1, fun hn => ?_⟩
    rw [upd_ne (by omega)] at hn
    obtain ⟨len, d1, d2, d3⟩ := b2 hn
    exact ⟨len, d1, by rw [hc 7 2 (by omega)]; exact d2, d3.cg fun i _ => hc 8 i (by omega)⟩
  · exact H.2.2.2.2.cg (upd_ne (by omega)) (upd_ne (by omega)) (fun k hk _ => upd_ne (by omega))
theorem ky_g {r : Row} {g w : Nat} {v : Int32} (hw : w < 5) (h : w ≠ 3) : kyB (upd r (24 + 5 * g + w) v) = kyB r := funext fun g' => by
  unfold kyB
  rw [upd_ne (by omega)]
theorem hr_g {r : Row} {g w : Nat} {v : Int32} (hw : w < 5) (h : w ≠ 4) : hrB (upd r (24 + 5 * g + w) v) = hrB r := funext fun g' => by
  unfold hrB
  rw [upd_ne (by omega)]
theorem hc_lo {c c' : Nat → Nat → Int32} {r : Row} {i : Nat} {v : Int32} (H : HC c r) (hi : 16 ≤ i) (hc : ∀ j, j < 2 → (∀ k, ¬ (j = 1 ∧ (k = 4 ∨ k = 5)) → c' j k = c j k)) : (c' 0 5 = upd r i v 12 ∧ c' 0 6 = upd r i v 13 ∧ c' 0 7 = upd r i v 5 ∧ c' 0 8 = upd r i v 4 ∧ c' 0 9 = upd r i v 6 ∧ c' 0 10 = upd r i v 7 ∧ c' 0 11 = upd r i v 8 ∧ c' 0 12 = upd r i v 9 ∧ c' 0 13 = upd r i v 10 ∧ c' 0 14 = upd r i v 11 ∧ c' 0 15 = upd r i v 15 ∧ c' 0 16 = upd r i v 0 ∧ c' 1 3 = upd r i v 3) := by
  obtain ⟨⟨b1, b2, b3, b4, b5, b6, b7, b8, b9, b10, b11, b12, b13⟩, -⟩ := H
  refine ⟨?_, ?_, ?_, ?_, ?_, ?_, ?_, ?_, ?_, ?_, ?_, ?_, ?_⟩ <;> (rw [hc _ (by omega) _ (by omega), upd_ne (by omega)]; assumption)
/-- a guest's room (w 0) or doubt (w 2) -/
theorem hc_gw {c c' : Nat → Nat → Int32} {r : Row} {g w jw : Nat} {v : Int32} (hw : (w = 0 ∧ jw = 2) ∨ (w = 2 ∧ jw = 4)) (H : HC c r) (h0 : c' jw g = v) (hc : ∀ j i, ¬ (j = jw ∧ i = g) → c' j i = c j i) : HC c' (upd r (24 + 5 * g + w) v) := by
  have e3 : nv (upd r (24 + 5 * g + w) v) 3 = nv r 3 := nv_ne (by omega)
  refine ⟨hc_lo H (by omega) fun j hj k _ => hc j k (by omega), ?_, ?_, ?_, ?_⟩
  · rw [hc _ _ (by omega), e3, ky_g (by omega) (by omega)]
    exact H.2.1
  · rw [hc _ _ (by omega), e3, hr_g (by omega) (by omega)]
    exact H.2.2.1
  · intro g' hg'
    rw [e3] at hg'
    obtain ⟨q1, q2, q3⟩ := H.2.2.2.1 g' hg'
    rcases hw with ⟨rfl, rfl⟩ | ⟨rfl, rfl⟩
    · by_cases e : g' = g
      · subst e
        exact ⟨by rw [h0]; exact (upd_at r _ v).symm, by rw [hc _ _ (by omega), upd_ne (by omega)]; exact q2, by rw [hc _ _ (by omega), upd_ne (by omega)]; exact q3⟩
      · exact ⟨by rw [hc _ _ (by omega), upd_ne (by omega)]; exact q1, by rw [hc _ _ (by omega), upd_ne (by omega)]; exact q2, by rw [hc _ _ (by omega), upd_ne (by omega)]; exact q3⟩
    · by_cases e : g' = g
      · subst e
        exact ⟨by rw [hc _ _ (by omega), upd_ne (by omega)]; exact q1, by rw [hc _ _ (by omega), upd_ne (by omega)]; exact q2, by rw [h0, upd_at]⟩
      · exact ⟨by rw [hc _ _ (by omega), upd_ne (by omega)]; exact q1, by rw [hc _ _ (by omega), upd_ne (by omega)]; exact q2, by rw [hc _ _ (by omega), upd_ne (by omega)]; exact q3⟩
  · intro k hk
    rw [hc _ _ (by omega), upd_ne (by omega)]
    exact H.2.2.2.2 k hk
theorem bI_1 (b : Bool) : decide (bI b = Int32.ofNat 1) = b := by cases b <;> rfl
theorem hr_up {r : Row} {g : Nat} (b : Bool) (g' : Nat) : hrB (upd r (24 + 5 * g + 4) (bI b)) g' = if g' = g then b else hrB r g' := by
  unfold hrB
  by_cases e : g' = g
  · rw [e, upd_at, if_pos rfl, bI_1]
  · rw [if_neg e, upd_ne (by omega)]
theorem ky_up {r : Row} {g : Nat} (b : Bool) (g' : Nat) : kyB (upd r (24 + 5 * g + 3) (bI b)) g' = if g' = g then b else kyB r g' := by
  unfold kyB
  by_cases e : g' = g
  · rw [e, upd_at, if_pos rfl, bI_1]
  · rw [if_neg e, upd_ne (by omega)]
theorem mk_stb {n g : Nat} (hn : n ≤ 8) (hg : g < n) (p : Nat → Bool) (b : Bool) : stb (mk n p) g b = mk n (fun k => if k = g then b else p k) := Nat.eq_of_testBit_eq fun k => by
  rw [stb_tb (mk_256 p hn) (by omega), mk_tb, mk_tb]
  by_cases e : k = g
  · rw [if_pos e, if_pos e, e, decide_eq_true hg, Bool.true_and]
  · rw [if_neg e, if_neg e]
theorem hc_here {c c' : Nat → Nat → Int32} {r : Row} (V : Vr r) {g : Nat} (hg : g < nv r 3) (b : Bool) (H : HC c r) (h0 : c' 1 5 = Int32.ofNat (stb (mk (nv r 3) (hrB r)) g b)) (hc : ∀ j i, ¬ (j = 1 ∧ i = 5) → c' j i = c j i) : HC c' (upd r (24 + 5 * g + 4) (bI b)) := by
  have e3 : nv (upd r (24 + 5 * g + 4) (bI b)) 3 = nv r 3 := nv_ne (by omega)
  refine ⟨hc_lo H (by omega) fun j hj k h => hc j k (by omega), ?_, ?_, ?_, ?_⟩
  · rw [hc _ _ (by omega), e3, ky_g (by omega) (by omega)]
    exact H.2.1
  · rw [h0, e3, mk_stb V.c8 hg]
    congr 1
    exact mk_cg fun k _ => (hr_up b k).symm
  · intro g' hg'
    rw [e3] at hg'
    obtain ⟨q1, q2, q3⟩ := H.2.2.2.1 g' hg'
    exact ⟨by rw [hc _ _ (by omega), upd_ne (by omega)]; exact q1, by rw [hc _ _ (by omega), upd_ne (by omega)]; exact q2, by rw [hc _ _ (by omega), upd_ne (by omega)]; exact q3⟩
  · intro k hk
    rw [hc _ _ (by omega), upd_ne (by omega)]
    exact H.2.2.2.2 k hk
theorem hc_key {c c' : Nat → Nat → Int32} {r : Row} (V : Vr r) {g : Nat} (hg : g < nv r 3) (b : Bool) (H : HC c r) (h0 : c' 1 4 = Int32.ofNat (stb (mk (nv r 3) (kyB r)) g b)) (hc : ∀ j i, ¬ (j = 1 ∧ i = 4) → c' j i = c j i) : HC c' (upd r (24 + 5 * g + 3) (bI b)) := by
  have e3 : nv (upd r (24 + 5 * g + 3) (bI b)) 3 = nv r 3 := nv_ne (by omega)
  refine ⟨hc_lo H (by omega) fun j hj k h => hc j k (by omega), ?_, ?_, ?_, ?_⟩
  · rw [h0, e3, mk_stb V.c8 hg]
    congr 1
    exact mk_cg fun k _ => (ky_up b k).symm
  · rw [hc _ _ (by omega), e3, hr_g (by omega) (by omega)]
    exact H.2.2.1
  · intro g' hg'
    rw [e3] at hg'
    obtain ⟨q1, q2, q3⟩ := H.2.2.2.1 g' hg'
    exact ⟨by rw [hc _ _ (by omega), upd_ne (by omega)]; exact q1, by rw [hc _ _ (by omega), upd_ne (by omega)]; exact q2, by rw [hc _ _ (by omega), upd_ne (by omega)]; exact q3⟩
  · intro k hk
    rw [hc _ _ (by omega), upd_ne (by omega)]
    exact H.2.2.2.2 k hk
theorem hc_hole {c c' : Nat → Nat → Int32} {r : Row} {p : Nat} (hp : p < 8) {v : Int32} (H : HC c r) (h0 : c' 10 p = v) (hc : ∀ j i, ¬ (j = 10 ∧ i = p) → c' j i = c j i) : HC c' (upd r (16 + p) v) := by
  have e3 : nv (upd r (16 + p) v) 3 = nv r 3 := nv_ne (by omega)
  refine ⟨hc_lo H (by omega) fun j hj k _ => hc j k (by omega), ?_, ?_, ?_, ?_⟩
  · rw [hc _ _ (by omega), e3, ky_lo (by omega)]
    exact H.2.1
  · rw [hc _ _ (by omega), e3, hr_lo (by omega)]
    exact H.2.2.1
  · intro g' hg'
    rw [e3] at hg'
    obtain ⟨q1, q2, q3⟩ := H.2.2.2.1 g' hg'
    exact ⟨by rw [hc _ _ (by omega), upd_ne (by omega)]; exact q1, by rw [hc _ _ (by omega), upd_ne (by omega)]; exact q2, by rw [hc _ _ (by omega), upd_ne (by omega)]; exact q3⟩
  · intro k hk
    by_cases e : k = p
    · rw [e, h0, upd_at]
    · rw [hc _ _ (by omega), upd_ne (by omega)]
      exact H.2.2.2.2 k hk
/-! ===== acts answered alike ===== -/
/-- what is common to the acts that tell a number of the row -/
theorem act {μ : Mem} (R : Rel μ) : ∃ μ1, f_X6_remember 0 μ = some μ1 ∧ μ1 1 = μ 1 ∧ μ1 0 13 = μ 0 13 ∧ ∀ (μ2 : Mem) (i : Nat) (v w : Int32) (t : Int32), (∀ g, g ≠ 1 → μ2 g = μ1 g) → i < 304 → (∀ ev, HV ev (μ 1) (μ 0 13) → HV ev (μ2 1) (upd (μ 0 13) i w)) → ∃ μ6, f_X10_sets (upm (upm μ2 0 22 0 v) 0 12 0 t) (Int32.ofNat i) w = some (μ 0 13 i, μ6) ∧ μ6 0 12 0 = t ∧ μ6 0 22 0 = v ∧ μ6 0 13 = upd (μ 0 13) i w ∧ Rel μ6 := by
  obtain ⟨ev, H, T⟩ := R.ex
  obtain ⟨μ1, a1, a2, a3, a4⟩ := remember H T
  refine ⟨μ1, a1, a2, a3, fun μ2 i v w t h2 hi hw => ?_⟩
  have hq : ∀ g j k, scr g j k = false → g ≠ 1 → (upm (upm μ2 0 22 0 v) 0 12 0 t) g j k = μ1 g j k := fun g j k hs hg => by
    rw [upm_n3 (by rintro ⟨rfl, rfl, rfl⟩; cases hs), upm_n3 (by rintro ⟨rfl, rfl, rfl⟩; cases hs), h2 g hg]
  obtain ⟨μ5, b1, b2, b3, b4⟩ := a4 _ hq
  have hrow : μ5 0 13 = μ 0 13 := by
    rw [b3 0 13 (by omega), upm_ne (by omega), upm_ne (by omega), h2 0 (by omega), a3]
  have hrow1 : μ5 1 = μ2 1 := funext fun j => by rw [b3 1 j (by omega), upm_ng (by decide), upm_ng (by decide)]
  refine ⟨upm μ5 0 13 i w, ?_, ?_, ?_, ?_, ?_⟩
  · unfold f_X10_sets
    rw [b1]
    simp only [bs_q, nm_q]
    rw [ix_on (by omega) (by decide), ix_on (by omega) (by decide), on_t (by omega), hrow]
  · rw [upm_ne (by omega), b4 0 (by decide), upm_at]
  · rw [upm_ne (by omega), b3 0 22 (by omega), upm_ne (by omega), upm_at]
  · rw [upm_row, hrow]
  · refine Rel.mk (ev := ev) ?_ (b2.fr fun g j k hs hg hn => ?_)
    · rw [upm_ng (by decide), upm_row, hrow, hrow1]
      exact hw ev H
    · rw [upm_n3 (by omega)]
theorem setc_cl {c c' : Nat → Nat → Int32} {ev : Row → Int32} {r : Row} {ci ri : Nat} {v : Int32} (H : HV ev c r) (hm : (ci, ri) ∈ SCL) (hv : okI ri = true → Nb v (bd ri)) (h0 : c' 0 ci = v) (hc : ∀ j i, ¬ (j = 0 ∧ i = ci) → c' j i = c j i) : HV ev c' (upd r ri v) := by
  have hri : ri < 16 ∧ ri ≠ 1 ∧ ri ≠ 2 ∧ ri ≠ 14 := by
    have : ∀ q ∈ SCL, q.2 < 16 ∧ q.2 ≠ 1 ∧ q.2 ≠ 2 ∧ q.2 ≠ 14 := by decide
    exact this _ hm
  exact hv_up H (by omega) hv (fun j k h => hc j k (by omega)) (hc_sc hm H.2.1 h0 hc)
theorem AgT.ok {cm : List (Nat × Int32)} {E : Option (Nat × Int32 × Mem)} {F : Mem → Option (Int32 × Mem)} (v : Int32) (μ1 : Mem) (hm : (0, 0) ∈ cm) (hE : E = some (0, v, μ1)) (hF : ∃ μ6, F (upm μ1 0 22 0 v) = some (v, μ6) ∧ μ6 0 12 0 = 0 ∧ μ6 0 22 0 = v ∧ Rel μ6) : AgT cm E F := by
  obtain ⟨μ6, h1, h2, h3, h4⟩ := hF
  refine ⟨0, 0, v, μ1, hm, hE, fun μ1' h => ?_⟩
  rw [if_pos rfl] at h
  subst h
  exact ⟨v, μ6, h1, h2, fun _ => rfl, by rw [h3, upm_at], h4⟩
theorem q_bath {μ : Mem} (R : Rel μ) (a : Int32) : AgT [(0, 0), (3, 1)] (f_X9_bath μ a) (fun μ' => f_X10_bath μ' a) := by
  rcases room_cases a with ⟨p, hp, rfl⟩ | ⟨h1, h2⟩
  · obtain ⟨μ1, a1, a2, a3, a4⟩ := act R
    obtain ⟨μ6, b1, b2, b3, b4, b5⟩ := a4 (upm μ1 1 0 8 (Int32.ofNat p)) 4 (μ 0 13 4) (Int32.ofNat p) 0 (fun g hg => upm_ng hg) (by decide) (fun ev H => setc_cl (ci := 8) H (by decide) (fun _ => ⟨p, by show p ≤ 7; omega, rfl⟩) (by rw [upm_at]) (fun j i h => by rw [upm_n3 (by omega), a2]))
    have ev : μ1 1 0 8 = μ 0 13 4 := by
      rw [a2]
      exact R.H.bath
    refine AgT.ok (μ 0 13 4) (upm μ1 1 0 8 (Int32.ofNat p)) (by decide) ?_ ⟨μ6, ?_, b2, b3, b5⟩
    · unfold f_X9_bath
      simp (disch := omega) only [c_isRoom hp, a1, ev, nm_q, bs_q, on_a, on_m, on_t, ix_on, le_t, le_f, lt_t, lt_f, eq_t, eq_f, ite_b0, ite_b1, ↓reduceIte, i_0, i_1, i_2, i_3, i_4, i_5, i_6, i_7, i_8, i_9, i_10, i_11, i_12, i_13, i_14, i_15, i_16, i_18, i_20, i_22, i_24, i_30, i_31, i_32, i_40, i_48, i_50, i_51, i_52, i_57, i_60, i_64, i_65, i_66, i_67, i_97, i_99, i_100, i_122, i_239, i_240, i_255, i_256, i_304, i_400, i_401, i_704, i_999, i_1000, i_2304, i_3344, i_3648, i_4096, i_9999, i_32767]
    · show f_X10_bath _ (Int32.ofNat p) = _
      unfold f_X10_bath
      simp only [r_isRoom hp, bs_q, nm_q]
      rw [if_neg (by decide), upm_at, if_pos (by decide), show (4 : Int32) = Int32.ofNat 4 from rfl, b1]
      simp only [bs_q]
  · refine AgT.q R 3 1 0 0 (by decide) ?_ (fun μ' V' e => ?_) (fun h => by cases h)
    · unfold f_X9_bath
      simp (disch := omega) only [h1, nm_q, bs_q, on_a, on_m, on_t, ix_on, le_t, le_f, lt_t, lt_f, eq_t, eq_f, ite_b0, ite_b1, ↓reduceIte, i_0, i_1, i_2, i_3, i_4, i_5, i_6, i_7, i_8, i_9, i_10, i_11, i_12, i_13, i_14, i_15, i_16, i_18, i_20, i_22, i_24, i_30, i_31, i_32, i_40, i_48, i_50, i_51, i_52, i_57, i_60, i_64, i_65, i_66, i_67, i_97, i_99, i_100, i_122, i_239, i_240, i_255, i_256, i_304, i_400, i_401, i_704, i_999, i_1000, i_2304, i_3344, i_3648, i_4096, i_9999, i_32767]
    · unfold f_X10_bath
      simp (disch := omega) only [h2, nm_q, bs_q, on_a, on_m, on_t, ix_on, le_t, le_f, lt_t, lt_f, eq_t, eq_f, ite_b0, ite_b1, ↓reduceIte, i_0, i_1, i_2, i_3, i_4, i_5, i_6, i_7, i_8, i_9, i_10, i_11, i_12, i_13, i_14, i_15, i_16, i_18, i_20, i_22, i_24, i_30, i_31, i_32, i_40, i_48, i_50, i_51, i_52, i_57, i_60, i_64, i_65, i_66, i_67, i_97, i_99, i_100, i_122, i_239, i_240, i_255, i_256, i_304, i_400, i_401, i_704, i_999, i_1000, i_2304, i_3344, i_3648, i_4096, i_9999, i_32767, upm_at, bk_b]
theorem q_keep {μ : Mem} (R : Rel μ) (a : Int32) : AgT [(0, 0), (3, 1)] (f_X9_keep μ a) (fun μ' => f_X10_keep μ' a) := by
  rcases cal_cases a with ⟨p, hp, rfl, h3, h4⟩ | ⟨h3, h4⟩
  · obtain ⟨μ1, a1, a2, a3, a4⟩ := act R
    obtain ⟨μ6, b1, b2, b3, b4, b5⟩ := a4 (upm μ1 1 0 7 (Int32.ofNat p)) 5 (μ 0 13 5) (Int32.ofNat p) 0 (fun g hg => upm_ng hg) (by decide) (fun ev H => setc_cl (ci := 7) H (by decide) (fun _ => ⟨p, by show p ≤ 1; omega, rfl⟩) (by rw [upm_at]) (fun j i h => by rw [upm_n3 (by omega), a2]))
    have ev : μ1 1 0 7 = μ 0 13 5 := by
      rw [a2]
      exact R.H.kept
    refine AgT.ok (μ 0 13 5) (upm μ1 1 0 7 (Int32.ofNat p)) (by decide) ?_ ⟨μ6, ?_, b2, b3, b5⟩
    · unfold f_X9_keep
      simp (disch := omega) only [h3, a1, ev, nm_q, bs_q, on_a, on_m, on_t, ix_on, le_t, le_f, lt_t, lt_f, eq_t, eq_f, ite_b0, ite_b1, ↓reduceIte, i_0, i_1, i_2, i_3, i_4, i_5, i_6, i_7, i_8, i_9, i_10, i_11, i_12, i_13, i_14, i_15, i_16, i_18, i_20, i_22, i_24, i_30, i_31, i_32, i_40, i_48, i_50, i_51, i_52, i_57, i_60, i_64, i_65, i_66, i_67, i_97, i_99, i_100, i_122, i_239, i_240, i_255, i_256, i_304, i_400, i_401, i_704, i_999, i_1000, i_2304, i_3344, i_3648, i_4096, i_9999, i_32767]
    · show f_X10_keep _ (Int32.ofNat p) = _
      unfold f_X10_keep
      rw [show f_X10_isIn (Int32.ofNat p) 0 1 = some (Int32.ofNat 1) from h4]
      simp only [bs_q, nm_q]
      rw [if_neg (by decide), upm_at, if_pos (by decide), show (5 : Int32) = Int32.ofNat 5 from rfl, b1]
      simp only [bs_q]
  · refine AgT.q R 3 1 0 0 (by decide) ?_ (fun μ' V' e => ?_) (fun h => by cases h)
    · unfold f_X9_keep
      simp (disch := omega) only [h3, nm_q, bs_q, on_a, on_m, on_t, ix_on, le_t, le_f, lt_t, lt_f, eq_t, eq_f, ite_b0, ite_b1, ↓reduceIte, i_0, i_1, i_2, i_3, i_4, i_5, i_6, i_7, i_8, i_9, i_10, i_11, i_12, i_13, i_14, i_15, i_16, i_18, i_20, i_22, i_24, i_30, i_31, i_32, i_40, i_48, i_50, i_51, i_52, i_57, i_60, i_64, i_65, i_66, i_67, i_97, i_99, i_100, i_122, i_239, i_240, i_255, i_256, i_304, i_400, i_401, i_704, i_999, i_1000, i_2304, i_3344, i_3648, i_4096, i_9999, i_32767]
    · unfold f_X10_keep
      simp (disch := omega) only [h4, nm_q, bs_q, on_a, on_m, on_t, ix_on, le_t, le_f, lt_t, lt_f, eq_t, eq_f, ite_b0, ite_b1, ↓reduceIte, i_0, i_1, i_2, i_3, i_4, i_5, i_6, i_7, i_8, i_9, i_10, i_11, i_12, i_13, i_14, i_15, i_16, i_18, i_20, i_22, i_24, i_30, i_31, i_32, i_40, i_48, i_50, i_51, i_52, i_57, i_60, i_64, i_65, i_66, i_67, i_97, i_99, i_100, i_122, i_239, i_240, i_255, i_256, i_304, i_400, i_401, i_704, i_999, i_1000, i_2304, i_3344, i_3648, i_4096, i_9999, i_32767, upm_at, bk_b]
theorem q_masons {μ : Mem} (R : Rel μ) (a : Int32) : AgT [(0, 0), (1, 1)] (f_X9_masons μ a) (fun μ' => f_X10_masons μ' a) := by
  rcases in_cases a 0 9 (by decide) (by decide) with ⟨p, -, hp, rfl⟩ | ⟨h3, h4⟩
  · obtain ⟨μ1, a1, a2, a3, a4⟩ := act R
    obtain ⟨μ6, b1, b2, b3, b4, b5⟩ := a4 (upm μ1 1 0 9 (Int32.ofNat p)) 6 (μ 0 13 6) (Int32.ofNat p) 0 (fun g hg => upm_ng hg) (by decide) (fun ev H => setc_cl (ci := 9) H (by decide) (fun _ => ⟨p, by show p ≤ 9; omega, rfl⟩) (by rw [upm_at]) (fun j i h => by rw [upm_n3 (by omega), a2]))
    have ev : μ1 1 0 9 = μ 0 13 6 := by
      rw [a2]
      exact R.H.masons
    refine AgT.ok (μ 0 13 6) (upm μ1 1 0 9 (Int32.ofNat p)) (by decide) ?_ ⟨μ6, ?_, b2, b3, b5⟩
    · unfold f_X9_masons
      simp (disch := omega) only [a1, ev, nm_q, bs_q, on_a, on_m, on_t, ix_on, le_t, le_f, lt_t, lt_f, eq_t, eq_f, ite_b0, ite_b1, ↓reduceIte, i_0, i_1, i_2, i_3, i_4, i_5, i_6, i_7, i_8, i_9, i_10, i_11, i_12, i_13, i_14, i_15, i_16, i_18, i_20, i_22, i_24, i_30, i_31, i_32, i_40, i_48, i_50, i_51, i_52, i_57, i_60, i_64, i_65, i_66, i_67, i_97, i_99, i_100, i_122, i_239, i_240, i_255, i_256, i_304, i_400, i_401, i_704, i_999, i_1000, i_2304, i_3344, i_3648, i_4096, i_9999, i_32767]
    · show f_X10_masons _ (Int32.ofNat p) = _
      unfold f_X10_masons
      rw [show f_X10_isIn (Int32.ofNat p) 0 9 = some (Int32.ofNat 1) from isIn_t (Nat.zero_le p) hp (by decide)]
      simp only [bs_q, nm_q]
      rw [if_neg (by decide), upm_at, if_pos (by decide), show (6 : Int32) = Int32.ofNat 6 from rfl, b1]
      simp only [bs_q]
  · refine AgT.q R 1 1 0 0 (by decide) ?_ (fun μ' V' e => ?_) (fun h => by cases h)
    · unfold f_X9_masons
      simp only [nm_q, i_0, i_9]
      rcases h3 with h3 | ⟨h3, h5⟩
      · rw [if_pos h3]
      · rw [if_neg h3, if_neg (by rw [Int32.not_le]; exact h5)]
    · unfold f_X10_masons
      simp (disch := omega) only [h4, nm_q, bs_q, on_a, on_m, on_t, ix_on, le_t, le_f, lt_t, lt_f, eq_t, eq_f, ite_b0, ite_b1, ↓reduceIte, i_0, i_1, i_2, i_3, i_4, i_5, i_6, i_7, i_8, i_9, i_10, i_11, i_12, i_13, i_14, i_15, i_16, i_18, i_20, i_22, i_24, i_30, i_31, i_32, i_40, i_48, i_50, i_51, i_52, i_57, i_60, i_64, i_65, i_66, i_67, i_97, i_99, i_100, i_122, i_239, i_240, i_255, i_256, i_304, i_400, i_401, i_704, i_999, i_1000, i_2304, i_3344, i_3648, i_4096, i_9999, i_32767, upm_at, bk_b]
theorem q_buy {μ : Mem} (R : Rel μ) (a : Int32) : AgT [(0, 0), (1, 1)] (f_X9_buy μ a) (fun μ' => f_X10_buy μ' a) := by
  have V := R.V
  have e7 : μ 0 13 7 = Int32.ofNat (nv (μ 0 13) 7) := V.e (i := 7) (by decide)
  have b7 : nv (μ 0 13) 7 ≤ 9999 := V.b (i := 7) (by decide)
  rcases in_cases a 1 999 (by decide) (by decide) with ⟨p, hp1, hp, rfl⟩ | ⟨h3, h4⟩
  · obtain ⟨μ1, a1, a2, a3, a4⟩ := act R
    have es : μ1 1 0 10 = μ 0 13 7 := by
      rw [a2]
      exact R.H.stones
    obtain ⟨μ6, b1, b2, b3, b4, b5⟩ := a4 (upm μ1 1 0 10 (Int32.ofNat (min 9999 (nv (μ 0 13) 7 + p)))) 7 (Int32.ofNat (min 9999 (nv (μ 0 13) 7 + p))) (Int32.ofNat (min 9999 (nv (μ 0 13) 7 + p))) 0 (fun g hg => upm_ng hg) (by decide) (fun ev H => setc_cl (ci := 10) H (by decide) (fun _ => ⟨_, by show min 9999 (nv (μ 0 13) 7 + p) ≤ 9999; omega, rfl⟩) (by rw [upm_at]) (fun j i h => by rw [upm_n3 (by omega), a2]))
    refine AgT.ok (Int32.ofNat (min 9999 (nv (μ 0 13) 7 + p))) (upm μ1 1 0 10 (Int32.ofNat (min 9999 (nv (μ 0 13) 7 + p)))) (by decide) ?_ ⟨μ6, ?_, b2, b3, b5⟩
    · unfold f_X9_buy
      simp (disch := omega) only [a1, es, e7, on_min, upm_at, nm_q, bs_q, on_a, on_m, on_t, ix_on, le_t, le_f, lt_t, lt_f, eq_t, eq_f, ite_b0, ite_b1, ↓reduceIte, i_0, i_1, i_2, i_3, i_4, i_5, i_6, i_7, i_8, i_9, i_10, i_11, i_12, i_13, i_14, i_15, i_16, i_18, i_20, i_22, i_24, i_30, i_31, i_32, i_40, i_48, i_50, i_51, i_52, i_57, i_60, i_64, i_65, i_66, i_67, i_97, i_99, i_100, i_122, i_239, i_240, i_255, i_256, i_304, i_400, i_401, i_704, i_999, i_1000, i_2304, i_3344, i_3648, i_4096, i_9999, i_32767]
    · show f_X10_buy _ (Int32.ofNat p) = _
      unfold f_X10_buy
      rw [show f_X10_isIn (Int32.ofNat p) 1 999 = some (Int32.ofNat 1) from isIn_t hp1 hp (by decide)]
      simp only [bs_q, nm_q]
      rw [if_neg (by decide), upm_at, if_pos (by decide), show (7 : Int32) = Int32.ofNat 7 from rfl, ix_on (by decide) (by decide), on_t (by decide), upm_ne (by omega), upm_ne (by omega), upm_ng (by decide), a3, e7, show (9999 : Int32) = Int32.ofNat 9999 from rfl, on_a, lesser_e, on_min (by decide) (by omega)]
      simp only [bs_q]
      rw [b1]
      simp only [bs_q]
      rw [ix_on (by decide) (by decide), b4, upd_at]
  · refine AgT.q R 1 1 0 0 (by decide) ?_ (fun μ' V' e => ?_) (fun h => by cases h)
    · unfold f_X9_buy
      simp only [nm_q, i_1, i_999]
      rcases h3 with h3 | ⟨h3, h5⟩
      · rw [if_pos h3]
      · rw [if_neg h3, if_neg (by rw [Int32.not_le]; exact h5)]
    · unfold f_X10_buy
      simp (disch := omega) only [h4, nm_q, bs_q, on_a, on_m, on_t, ix_on, le_t, le_f, lt_t, lt_f, eq_t, eq_f, ite_b0, ite_b1, ↓reduceIte, i_0, i_1, i_2, i_3, i_4, i_5, i_6, i_7, i_8, i_9, i_10, i_11, i_12, i_13, i_14, i_15, i_16, i_18, i_20, i_22, i_24, i_30, i_31, i_32, i_40, i_48, i_50, i_51, i_52, i_57, i_60, i_64, i_65, i_66, i_67, i_97, i_99, i_100, i_122, i_239, i_240, i_255, i_256, i_304, i_400, i_401, i_704, i_999, i_1000, i_2304, i_3344, i_3648, i_4096, i_9999, i_32767, upm_at, bk_b]
/-- a guest of the row that stands, behind what is thrown and told -/
theorem gst {μ μ1 : Mem} (e : μ1 0 13 = μ 0 13) {g : Nat} (h2 : ∀ μ' : Mem, μ' 0 13 = μ 0 13 → f_X10_isGuest μ' (Int32.ofNat g) = some (Int32.ofNat 1)) (v : Int32) (j i : Nat) (w : Int32) : f_X10_isGuest (upm (upm μ1 1 j i w) 0 22 0 v) (Int32.ofNat g) = some (Int32.ofNat 1) := h2 _ (by rw [upm_ne (by omega), upm_ng (by decide), e])
theorem q_go {μ : Mem} (R : Rel μ) (a b : Int32) : AgT [(0, 0), (3, 1)] (f_X9_go μ a b) (fun μ' => f_X10_go μ' a b) := by
  have V := R.V
  have h8 := V.c8
  rcases guest_cases R.H V a with ⟨g, hg, rfl, h1, h2⟩ | ⟨h1, h2⟩
  · rcases room_cases b with ⟨p, hp, rfl⟩ | ⟨h3, h4⟩
    · have hg8 : g < 8 := by omega
      obtain ⟨μ1, a1, a2, a3, a4⟩ := act R
      obtain ⟨μ6, b1, b2, b3, b4, b5⟩ := a4 (upm μ1 1 2 g (Int32.ofNat p)) (24 + 5 * g + 0) (μ 0 13 (24 + 5 * g + 0)) (Int32.ofNat p) 0 (fun g hg => upm_ng hg) (by omega) (fun ev H => hv_up H (by omega) (fun _ => by rw [(okg g hg8 0 (by decide)).2]; exact ⟨p, by show p ≤ 7; omega, rfl⟩) (fun j k h => by rw [upm_n3 (by omega), a2]) (hc_gw (Or.inl ⟨rfl, rfl⟩) H.2.1 (by rw [upm_at]) (fun j i h => by rw [upm_n3 (by omega), a2])))
      have ev : μ1 1 2 g = μ 0 13 (24 + 5 * g + 0) := by
        rw [a2]
        exact (R.H.g hg).1
      refine AgT.ok (μ 0 13 (24 + 5 * g + 0)) (upm μ1 1 2 g (Int32.ofNat p)) (by decide) ?_ ⟨μ6, ?_, b2, b3, b5⟩
      · unfold f_X9_go f_X1_put
        simp (disch := omega) only [h1, c_isRoom hp, a1, c_room, c_isNum, ev, nm_q, bs_q, on_a, on_m, on_t, ix_on, le_t, le_f, lt_t, lt_f, eq_t, eq_f, ite_b0, ite_b1, ↓reduceIte, i_0, i_1, i_2, i_3, i_4, i_5, i_6, i_7, i_8, i_9, i_10, i_11, i_12, i_13, i_14, i_15, i_16, i_18, i_20, i_22, i_24, i_30, i_31, i_32, i_40, i_48, i_50, i_51, i_52, i_57, i_60, i_64, i_65, i_66, i_67, i_97, i_99, i_100, i_122, i_239, i_240, i_255, i_256, i_304, i_400, i_401, i_704, i_999, i_1000, i_2304, i_3344, i_3648, i_4096, i_9999, i_32767]
      · show f_X10_go _ (Int32.ofNat g) (Int32.ofNat p) = _
        unfold f_X10_go
        rw [gst a3 h2, r_isRoom hp]
        simp only [bs_q, nm_q]
        rw [if_neg (by decide), if_neg (by decide), upm_at, if_pos (by decide), show (24 + 5 * Int32.ofNat g) + 0 = Int32.ofNat (24 + 5 * g + 0) by rw [show (24 : Int32) = Int32.ofNat 24 from rfl, show (5 : Int32) = Int32.ofNat 5 from rfl, show (0 : Int32) = Int32.ofNat 0 from rfl, on_m, on_a, on_a], b1]
        simp only [bs_q]
    · refine AgT.q R 3 1 0 0 (by decide) ?_ (fun μ' V' e => ?_) (fun h => by cases h)
      · unfold f_X9_go
        simp (disch := omega) only [h1, h3, nm_q, bs_q, on_a, on_m, on_t, ix_on, le_t, le_f, lt_t, lt_f, eq_t, eq_f, ite_b0, ite_b1, ↓reduceIte, i_0, i_1, i_2, i_3, i_4, i_5, i_6, i_7, i_8, i_9, i_10, i_11, i_12, i_13, i_14, i_15, i_16, i_18, i_20, i_22, i_24, i_30, i_31, i_32, i_40, i_48, i_50, i_51, i_52, i_57, i_60, i_64, i_65, i_66, i_67, i_97, i_99, i_100, i_122, i_239, i_240, i_255, i_256, i_304, i_400, i_401, i_704, i_999, i_1000, i_2304, i_3344, i_3648, i_4096, i_9999, i_32767]
      · unfold f_X10_go
        simp (disch := omega) only [h2 _ e, h4, nm_q, bs_q, on_a, on_m, on_t, ix_on, le_t, le_f, lt_t, lt_f, eq_t, eq_f, ite_b0, ite_b1, ↓reduceIte, i_0, i_1, i_2, i_3, i_4, i_5, i_6, i_7, i_8, i_9, i_10, i_11, i_12, i_13, i_14, i_15, i_16, i_18, i_20, i_22, i_24, i_30, i_31, i_32, i_40, i_48, i_50, i_51, i_52, i_57, i_60, i_64, i_65, i_66, i_67, i_97, i_99, i_100, i_122, i_239, i_240, i_255, i_256, i_304, i_400, i_401, i_704, i_999, i_1000, i_2304, i_3344, i_3648, i_4096, i_9999, i_32767, upm_at, bk_b]
  · refine AgT.q R 3 1 0 0 (by decide) ?_ (fun μ' V' e => ?_) (fun h => by cases h)
    · unfold f_X9_go
      simp (disch := omega) only [h1, nm_q, bs_q, on_a, on_m, on_t, ix_on, le_t, le_f, lt_t, lt_f, eq_t, eq_f, ite_b0, ite_b1, ↓reduceIte, i_0, i_1, i_2, i_3, i_4, i_5, i_6, i_7, i_8, i_9, i_10, i_11, i_12, i_13, i_14, i_15, i_16, i_18, i_20, i_22, i_24, i_30, i_31, i_32, i_40, i_48, i_50, i_51, i_52, i_57, i_60, i_64, i_65, i_66, i_67, i_97, i_99, i_100, i_122, i_239, i_240, i_255, i_256, i_304, i_400, i_401, i_704, i_999, i_1000, i_2304, i_3344, i_3648, i_4096, i_9999, i_32767]
    · unfold f_X10_go
      simp (disch := omega) only [h2 _ e, nm_q, bs_q, on_a, on_m, on_t, ix_on, le_t, le_f, lt_t, lt_f, eq_t, eq_f, ite_b0, ite_b1, ↓reduceIte, i_0, i_1, i_2, i_3, i_4, i_5, i_6, i_7, i_8, i_9, i_10, i_11, i_12, i_13, i_14, i_15, i_16, i_18, i_20, i_22, i_24, i_30, i_31, i_32, i_40, i_48, i_50, i_51, i_52, i_57, i_60, i_64, i_65, i_66, i_67, i_97, i_99, i_100, i_122, i_239, i_240, i_255, i_256, i_304, i_400, i_401, i_704, i_999, i_1000, i_2304, i_3344, i_3648, i_4096, i_9999, i_32767, upm_at, bk_b]
theorem gix (g w : Nat) : (24 + 5 * Int32.ofNat g) + Int32.ofNat w = Int32.ofNat (24 + 5 * g + w) := by rw [show (24 : Int32) = Int32.ofNat 24 from rfl, show (5 : Int32) = Int32.ofNat 5 from rfl, on_m, on_a, on_a]
theorem bw_b {x : Int32} {b : Bool} (h : ∃ n : Nat, n ≤ 1 ∧ x = Int32.ofNat n) : (if x = bI b then (0 : Int32) else 1) = bI (decide (x = Int32.ofNat 1) != b) := by
  obtain ⟨n, hn, rfl⟩ := h
  rcases (show n = 0 ∨ n = 1 by omega) with rfl | rfl <;> cases b <;> rfl
theorem q_come {μ : Mem} (R : Rel μ) (a : Int32) (b : Bool) : AgT [(0, 0), (3, 1)] (f_X9_come μ a (bI b)) (fun μ' => f_X10_come μ' a (bI b)) := by
  have V := R.V
  have h8 := V.c8
  rcases guest_cases R.H V a with ⟨g, hg, rfl, h1, h2⟩ | ⟨h1, h2⟩
  · have hg8 : g < 8 := by omega
    obtain ⟨μ1, a1, a2, a3, a4⟩ := act R
    obtain ⟨μ6, b1, b2, b3, b4, b5⟩ := a4 (upm μ1 1 1 5 (Int32.ofNat (stb (mk (nv (μ 0 13) 3) (hrB (μ 0 13))) g b))) (24 + 5 * g + 4) (bI (hrB (μ 0 13) g != b)) (bI b) 0 (fun g hg => upm_ng hg) (by omega) (fun ev H => hv_up H (by omega) (fun _ => by rw [(okg g hg8 4 (by decide)).2]; exact Nb.bI b) (fun j k h => by rw [upm_n3 (by omega), a2]) (hc_here V hg b H.2.1 (by rw [upm_at]) (fun j i h => by rw [upm_n3 (by omega), a2])))
    have ev : μ1 1 1 5 = Int32.ofNat (mk (nv (μ 0 13) 3) (hrB (μ 0 13))) := by
      rw [a2]
      exact R.H.hr
    refine AgT.ok (bI (hrB (μ 0 13) g != b)) (upm μ1 1 1 5 (Int32.ofNat (stb (mk (nv (μ 0 13) 3) (hrB (μ 0 13))) g b))) (by decide) ?_ ⟨μ6, ?_, b2, b3, b5⟩
    · unfold f_X9_come
      simp (disch := omega) only [h1, a1, ev, hold_b _ (mk_256 _ h8) g hg8, wm_b _ (mk_256 _ h8) g hg8, mk_tb, hg, decide_true, Bool.true_and, nm_q, bs_q, on_a, on_m, on_t, ix_on, le_t, le_f, lt_t, lt_f, eq_t, eq_f, ite_b0, ite_b1, ↓reduceIte, i_0, i_1, i_2, i_3, i_4, i_5, i_6, i_7, i_8, i_9, i_10, i_11, i_12, i_13, i_14, i_15, i_16, i_18, i_20, i_22, i_24, i_30, i_31, i_32, i_40, i_48, i_50, i_51, i_52, i_57, i_60, i_64, i_65, i_66, i_67, i_97, i_99, i_100, i_122, i_239, i_240, i_255, i_256, i_304, i_400, i_401, i_704, i_999, i_1000, i_2304, i_3344, i_3648, i_4096, i_9999, i_32767]
      cases hrB (μ 0 13) g <;> cases b <;> rfl
    · show f_X10_come _ (Int32.ofNat g) (bI b) = _
      unfold f_X10_come
      rw [gst a3 h2]
      have hb : ∃ n : Nat, n ≤ 1 ∧ μ 0 13 (24 + 5 * g + 4) = Int32.ofNat n := ⟨_, V.gb hg8 4 (by decide), V.ge hg8 4 (by decide)⟩
      have hbb := bw_b (b := b) hb
      simp only [bs_q, nm_q]
      rw [if_neg (by decide), upm_at, if_pos (by decide), show (4 : Int32) = Int32.ofNat 4 from rfl, gix]
      cases b
      · rw [if_pos (by decide)]
        rw [bI_f] at b1
        rw [b1]
        simp only [bs_q]
        rw [if_pos (by decide)]
        show _ = some (bI (hrB (μ 0 13) g != false), μ6)
        unfold hrB
        rw [← hbb, bI_f]
        split <;> rfl
      · rw [if_neg (by decide)]
        rw [bI_t] at b1
        rw [b1]
        simp only [bs_q]
        rw [if_neg (by decide)]
        show _ = some (bI (hrB (μ 0 13) g != true), μ6)
        unfold hrB
        rw [← hbb, bI_t]
        split <;> rfl
  · refine AgT.q R 3 1 0 0 (by decide) ?_ (fun μ' V' e => ?_) (fun h => by cases h)
    · unfold f_X9_come
      simp (disch := omega) only [h1, nm_q, bs_q, on_a, on_m, on_t, ix_on, le_t, le_f, lt_t, lt_f, eq_t, eq_f, ite_b0, ite_b1, ↓reduceIte, i_0, i_1, i_2, i_3, i_4, i_5, i_6, i_7, i_8, i_9, i_10, i_11, i_12, i_13, i_14, i_15, i_16, i_18, i_20, i_22, i_24, i_30, i_31, i_32, i_40, i_48, i_50, i_51, i_52, i_57, i_60, i_64, i_65, i_66, i_67, i_97, i_99, i_100, i_122, i_239, i_240, i_255, i_256, i_304, i_400, i_401, i_704, i_999, i_1000, i_2304, i_3344, i_3648, i_4096, i_9999, i_32767]
    · unfold f_X10_come
      simp (disch := omega) only [h2 _ e, nm_q, bs_q, on_a, on_m, on_t, ix_on, le_t, le_f, lt_t, lt_f, eq_t, eq_f, ite_b0, ite_b1, ↓reduceIte, i_0, i_1, i_2, i_3, i_4, i_5, i_6, i_7, i_8, i_9, i_10, i_11, i_12, i_13, i_14, i_15, i_16, i_18, i_20, i_22, i_24, i_30, i_31, i_32, i_40, i_48, i_50, i_51, i_52, i_57, i_60, i_64, i_65, i_66, i_67, i_97, i_99, i_100, i_122, i_239, i_240, i_255, i_256, i_304, i_400, i_401, i_704, i_999, i_1000, i_2304, i_3344, i_3648, i_4096, i_9999, i_32767, upm_at, bk_b]
theorem q_key {μ : Mem} (R : Rel μ) (a : Int32) (b : Bool) : AgT [(0, 0), (3, 1)] (f_X9_key μ a (bI b)) (fun μ' => f_X10_key μ' a (bI b)) := by
  have V := R.V
  have h8 := V.c8
  rcases guest_cases R.H V a with ⟨g, hg, rfl, h1, h2⟩ | ⟨h1, h2⟩
  · have hg8 : g < 8 := by omega
    obtain ⟨μ1, a1, a2, a3, a4⟩ := act R
    obtain ⟨μ6, b1, b2, b3, b4, b5⟩ := a4 (upm μ1 1 1 4 (Int32.ofNat (stb (mk (nv (μ 0 13) 3) (kyB (μ 0 13))) g b))) (24 + 5 * g + 3) (bI (kyB (μ 0 13) g != b)) (bI b) 0 (fun g hg => upm_ng hg) (by omega) (fun ev H => hv_up H (by omega) (fun _ => by rw [(okg g hg8 3 (by decide)).2]; exact Nb.bI b) (fun j k h => by rw [upm_n3 (by omega), a2]) (hc_key V hg b H.2.1 (by rw [upm_at]) (fun j i h => by rw [upm_n3 (by omega), a2])))
    have ev : μ1 1 1 4 = Int32.ofNat (mk (nv (μ 0 13) 3) (kyB (μ 0 13))) := by
      rw [a2]
      exact R.H.ky
    refine AgT.ok (bI (kyB (μ 0 13) g != b)) (upm μ1 1 1 4 (Int32.ofNat (stb (mk (nv (μ 0 13) 3) (kyB (μ 0 13))) g b))) (by decide) ?_ ⟨μ6, ?_, b2, b3, b5⟩
    · unfold f_X9_key
      simp (disch := omega) only [h1, a1, ev, hold_b _ (mk_256 _ h8) g hg8, wm_b _ (mk_256 _ h8) g hg8, mk_tb, hg, decide_true, Bool.true_and, nm_q, bs_q, on_a, on_m, on_t, ix_on, le_t, le_f, lt_t, lt_f, eq_t, eq_f, ite_b0, ite_b1, ↓reduceIte, i_0, i_1, i_2, i_3, i_4, i_5, i_6, i_7, i_8, i_9, i_10, i_11, i_12, i_13, i_14, i_15, i_16, i_18, i_20, i_22, i_24, i_30, i_31, i_32, i_40, i_48, i_50, i_51, i_52, i_57, i_60, i_64, i_65, i_66, i_67, i_97, i_99, i_100, i_122, i_239, i_240, i_255, i_256, i_304, i_400, i_401, i_704, i_999, i_1000, i_2304, i_3344, i_3648, i_4096, i_9999, i_32767]
      cases kyB (μ 0 13) g <;> cases b <;> rfl
    · show f_X10_key _ (Int32.ofNat g) (bI b) = _
      unfold f_X10_key
      rw [gst a3 h2]
      have hb : ∃ n : Nat, n ≤ 1 ∧ μ 0 13 (24 + 5 * g + 3) = Int32.ofNat n := ⟨_, V.gb hg8 3 (by decide), V.ge hg8 3 (by decide)⟩
      have hbb := bw_b (b := b) hb
      simp only [bs_q, nm_q]
      rw [if_neg (by decide), upm_at, if_pos (by decide), show (3 : Int32) = Int32.ofNat 3 from rfl, gix]
      cases b
      · rw [if_pos (by decide)]
        rw [bI_f] at b1
        rw [b1]
        simp only [bs_q]
        rw [if_pos (by decide)]
        show _ = some (bI (kyB (μ 0 13) g != false), μ6)
        unfold kyB
        rw [← hbb, bI_f]
        split <;> rfl
      · rw [if_neg (by decide)]
        rw [bI_t] at b1
        rw [b1]
        simp only [bs_q]
        rw [if_neg (by decide)]
        show _ = some (bI (kyB (μ 0 13) g != true), μ6)
        unfold kyB
        rw [← hbb, bI_t]
        split <;> rfl
  · refine AgT.q R 3 1 0 0 (by decide) ?_ (fun μ' V' e => ?_) (fun h => by cases h)
    · unfold f_X9_key
      simp (disch := omega) only [h1, nm_q, bs_q, on_a, on_m, on_t, ix_on, le_t, le_f, lt_t, lt_f, eq_t, eq_f, ite_b0, ite_b1, ↓reduceIte, i_0, i_1, i_2, i_3, i_4, i_5, i_6, i_7, i_8, i_9, i_10, i_11, i_12, i_13, i_14, i_15, i_16, i_18, i_20, i_22, i_24, i_30, i_31, i_32, i_40, i_48, i_50, i_51, i_52, i_57, i_60, i_64, i_65, i_66, i_67, i_97, i_99, i_100, i_122, i_239, i_240, i_255, i_256, i_304, i_400, i_401, i_704, i_999, i_1000, i_2304, i_3344, i_3648, i_4096, i_9999, i_32767]
    · unfold f_X10_key
      simp (disch := omega) only [h2 _ e, nm_q, bs_q, on_a, on_m, on_t, ix_on, le_t, le_f, lt_t, lt_f, eq_t, eq_f, ite_b0, ite_b1, ↓reduceIte, i_0, i_1, i_2, i_3, i_4, i_5, i_6, i_7, i_8, i_9, i_10, i_11, i_12, i_13, i_14, i_15, i_16, i_18, i_20, i_22, i_24, i_30, i_31, i_32, i_40, i_48, i_50, i_51, i_52, i_57, i_60, i_64, i_65, i_66, i_67, i_97, i_99, i_100, i_122, i_239, i_240, i_255, i_256, i_304, i_400, i_401, i_704, i_999, i_1000, i_2304, i_3344, i_3648, i_4096, i_9999, i_32767, upm_at, bk_b]
theorem q_calm {μ : Mem} (R : Rel μ) (a : Int32) : AgT [(0, 0), (3, 1)] (f_X9_calm μ a) (fun μ' => f_X10_calm μ' a) := by
  have V := R.V
  have h8 := V.c8
  rcases guest_cases R.H V a with ⟨g, hg, rfl, h1, h2⟩ | ⟨h1, h2⟩
  · have hg8 : g < 8 := by omega
    have ed := V.ge hg8 2 (by decide)
    have bd2 : nv (μ 0 13) (24 + 5 * g + 2) ≤ 99 := V.gb hg8 2 (by decide)
    obtain ⟨μ1, a1, a2, a3, a4⟩ := act R
    obtain ⟨μ6, b1, b2, b3, b4, b5⟩ := a4 (upm μ1 1 4 g (Int32.ofNat (nv (μ 0 13) (24 + 5 * g + 2) / 2))) (24 + 5 * g + 2) (Int32.ofNat (nv (μ 0 13) (24 + 5 * g + 2) / 2)) (Int32.ofNat (nv (μ 0 13) (24 + 5 * g + 2) / 2)) 0 (fun g hg => upm_ng hg) (by omega) (fun ev H => hv_up H (by omega) (fun _ => by rw [(okg g hg8 2 (by decide)).2]; exact ⟨_, by show nv (μ 0 13) (24 + 5 * g + 2) / 2 ≤ 99; omega, rfl⟩) (fun j k h => by rw [upm_n3 (by omega), a2]) (hc_gw (Or.inr ⟨rfl, rfl⟩) H.2.1 (by rw [upm_at]) (fun j i h => by rw [upm_n3 (by omega), a2])))
    have ev : μ1 1 4 g = Int32.ofNat (nv (μ 0 13) (24 + 5 * g + 2)) := by
      rw [a2, ← ed]
      exact (R.H.g hg).2.2
    have e4 : max 0 (min 99 (nv (μ 0 13) (24 + 5 * g + 2) / 2)) = nv (μ 0 13) (24 + 5 * g + 2) / 2 := by omega
    refine AgT.ok (Int32.ofNat (nv (μ 0 13) (24 + 5 * g + 2) / 2)) (upm μ1 1 4 g (Int32.ofNat (nv (μ 0 13) (24 + 5 * g + 2) / 2))) (by decide) ?_ ⟨μ6, ?_, b2, b3, b5⟩
    · unfold f_X9_calm f_X1_setDoubt
      simp (disch := omega) only [h1, a1, c_doubt, c_isNum, ev, on_d, on_min, on_max, e4, upm_at, nm_q, bs_q, on_a, on_m, on_t, ix_on, le_t, le_f, lt_t, lt_f, eq_t, eq_f, ite_b0, ite_b1, ↓reduceIte, i_0, i_1, i_2, i_3, i_4, i_5, i_6, i_7, i_8, i_9, i_10, i_11, i_12, i_13, i_14, i_15, i_16, i_18, i_20, i_22, i_24, i_30, i_31, i_32, i_40, i_48, i_50, i_51, i_52, i_57, i_60, i_64, i_65, i_66, i_67, i_97, i_99, i_100, i_122, i_239, i_240, i_255, i_256, i_304, i_400, i_401, i_704, i_999, i_1000, i_2304, i_3344, i_3648, i_4096, i_9999, i_32767]
    · show f_X10_calm _ (Int32.ofNat g) = _
      unfold f_X10_calm
      rw [gst a3 h2]
      simp only [bs_q, nm_q]
      rw [if_neg (by decide), upm_at, if_pos (by decide), show (2 : Int32) = Int32.ofNat 2 from rfl, R_of (r := μ 0 13) (by rw [upm_ne (by omega), upm_ne (by omega), upm_ng (by decide), a3]) hg8 (by decide), ed]
      simp only [bs_q]
      rw [gix, on_d (by omega) (by decide), b1]
      simp only [bs_q]
      rw [R_of b4 hg8 (by decide), upd_at]
      simp only [bs_q]
  · refine AgT.q R 3 1 0 0 (by decide) ?_ (fun μ' V' e => ?_) (fun h => by cases h)
    · unfold f_X9_calm
      simp (disch := omega) only [h1, nm_q, bs_q, on_a, on_m, on_t, ix_on, le_t, le_f, lt_t, lt_f, eq_t, eq_f, ite_b0, ite_b1, ↓reduceIte, i_0, i_1, i_2, i_3, i_4, i_5, i_6, i_7, i_8, i_9, i_10, i_11, i_12, i_13, i_14, i_15, i_16, i_18, i_20, i_22, i_24, i_30, i_31, i_32, i_40, i_48, i_50, i_51, i_52, i_57, i_60, i_64, i_65, i_66, i_67, i_97, i_99, i_100, i_122, i_239, i_240, i_255, i_256, i_304, i_400, i_401, i_704, i_999, i_1000, i_2304, i_3344, i_3648, i_4096, i_9999, i_32767]
    · unfold f_X10_calm
      simp (disch := omega) only [h2 _ e, nm_q, bs_q, on_a, on_m, on_t, ix_on, le_t, le_f, lt_t, lt_f, eq_t, eq_f, ite_b0, ite_b1, ↓reduceIte, i_0, i_1, i_2, i_3, i_4, i_5, i_6, i_7, i_8, i_9, i_10, i_11, i_12, i_13, i_14, i_15, i_16, i_18, i_20, i_22, i_24, i_30, i_31, i_32, i_40, i_48, i_50, i_51, i_52, i_57, i_60, i_64, i_65, i_66, i_67, i_97, i_99, i_100, i_122, i_239, i_240, i_255, i_256, i_304, i_400, i_401, i_704, i_999, i_1000, i_2304, i_3344, i_3648, i_4096, i_9999, i_32767, upm_at, bk_b]
theorem q_hole {μ : Mem} (R : Rel μ) (a o : Int32) (b : Bool) : AgT [(0, 0), (3, 1), (1, 2)] (f_X9_hole μ a o (bI b)) (fun μ' => f_X10_hole μ' a o (bI b)) := by
  have V := R.V
  rcases room_cases a with ⟨p, hp, rfl⟩ | ⟨h1, h2⟩
  · rcases room_cases o with ⟨q, hq, rfl⟩ | ⟨h1, h2⟩
    · by_cases hpq : p = q
      · refine AgT.q R 1 2 0 0 (by decide) ?_ (fun μ' V' e => ?_) (fun h => by cases h)
        · unfold f_X9_hole
          simp (disch := omega) only [c_isRoom hp, c_isRoom hq, nm_q, bs_q, on_a, on_m, on_t, ix_on, le_t, le_f, lt_t, lt_f, eq_t, eq_f, ite_b0, ite_b1, ↓reduceIte, i_0, i_1, i_2, i_3, i_4, i_5, i_6, i_7, i_8, i_9, i_10, i_11, i_12, i_13, i_14, i_15, i_16, i_18, i_20, i_22, i_24, i_30, i_31, i_32, i_40, i_48, i_50, i_51, i_52, i_57, i_60, i_64, i_65, i_66, i_67, i_97, i_99, i_100, i_122, i_239, i_240, i_255, i_256, i_304, i_400, i_401, i_704, i_999, i_1000, i_2304, i_3344, i_3648, i_4096, i_9999, i_32767]
        · unfold f_X10_hole
          simp (disch := omega) only [r_isRoom hp, r_isRoom hq, nm_q, bs_q, on_a, on_m, on_t, ix_on, le_t, le_f, lt_t, lt_f, eq_t, eq_f, ite_b0, ite_b1, ↓reduceIte, i_0, i_1, i_2, i_3, i_4, i_5, i_6, i_7, i_8, i_9, i_10, i_11, i_12, i_13, i_14, i_15, i_16, i_18, i_20, i_22, i_24, i_30, i_31, i_32, i_40, i_48, i_50, i_51, i_52, i_57, i_60, i_64, i_65, i_66, i_67, i_97, i_99, i_100, i_122, i_239, i_240, i_255, i_256, i_304, i_400, i_401, i_704, i_999, i_1000, i_2304, i_3344, i_3648, i_4096, i_9999, i_32767, upm_at, bk_b]
      · have hb := V.hb hp
        have he := V.he hp
        obtain ⟨μ1, a1, a2, a3, a4⟩ := act R
        obtain ⟨μ6, b1, b2, b3, b4, b5⟩ := a4 (upm μ1 1 10 p (Int32.ofNat (stb (nv (μ 0 13) (16 + p)) q b))) (16 + p) (bI ((nv (μ 0 13) (16 + p)).testBit q != b)) (Int32.ofNat (stb (nv (μ 0 13) (16 + p)) q b)) 0 (fun g hg => upm_ng hg) (by omega) (fun ev H => hv_up H (by omega) (fun _ => by rw [(okh p hp).2]; exact ⟨_, Nat.le_of_lt_succ (stb_256 hb hq), rfl⟩) (fun j k h => by rw [upm_n3 (by omega), a2]) (hc_hole hp H.2.1 (by rw [upm_at]) (fun j i h => by rw [upm_n3 (by omega), a2])))
        have ev : μ1 1 10 p = Int32.ofNat (nv (μ 0 13) (16 + p)) := by
          rw [a2, ← he]
          exact R.H.ho hp
        refine AgT.ok (bI ((nv (μ 0 13) (16 + p)).testBit q != b)) (upm μ1 1 10 p (Int32.ofNat (stb (nv (μ 0 13) (16 + p)) q b))) (by decide) ?_ ⟨μ6, ?_, b2, b3, b5⟩
        · unfold f_X9_hole f_X2_setHole f_X2_holesFrom
          simp (disch := omega) only [c_isRoom hp, c_isRoom hq, a1, ev, hold_b _ hb q hq, wm_b _ hb q hq, nm_q, bs_q, on_a, on_m, on_t, ix_on, le_t, le_f, lt_t, lt_f, eq_t, eq_f, ite_b0, ite_b1, ↓reduceIte, i_0, i_1, i_2, i_3, i_4, i_5, i_6, i_7, i_8, i_9, i_10, i_11, i_12, i_13, i_14, i_15, i_16, i_18, i_20, i_22, i_24, i_30, i_31, i_32, i_40, i_48, i_50, i_51, i_52, i_57, i_60, i_64, i_65, i_66, i_67, i_97, i_99, i_100, i_122, i_239, i_240, i_255, i_256, i_304, i_400, i_401, i_704, i_999, i_1000, i_2304, i_3344, i_3648, i_4096, i_9999, i_32767]
          cases (nv (μ 0 13) (16 + p)).testBit q <;> cases b <;> rfl
        · show f_X10_hole _ (Int32.ofNat p) (Int32.ofNat q) (bI b) = _
          have hr : (upm (upm (upm μ1 1 10 p (Int32.ofNat (stb (nv (μ 0 13) (16 + p)) q b))) 0 22 0 (bI ((nv (μ 0 13) (16 + p)).testBit q != b))) 0 12 0 0) 0 13 = μ 0 13 := by rw [upm_ne (by omega), upm_ne (by omega), upm_ng (by decide), a3]
          have hwm := wm_b _ hb q hq b
          unfold f_X9_withMember at hwm
          unfold f_X10_hole
          rw [r_isRoom hp, r_isRoom hq]
          simp only [bs_q, nm_q]
          rw [if_neg (by decide), if_neg (by decide), if_neg (by rw [on_eq (by omega) (by omega)]; exact hpq), upm_at, if_pos (by decide), R_isHole hr V hp hq]
          simp only [bs_q]
          rw [show (16 : Int32) = Int32.ofNat 16 from rfl, on_a, ix_on (by omega) (by decide), ix_on (by omega) (by decide), on_t (by omega), hr, he]
          cases b
          · rw [bI_f, if_pos rfl] at hwm
            rw [bI_f, if_pos rfl, Option.some.inj hwm, b1]
            simp only [bs_q]
            cases (nv (μ 0 13) (16 + p)).testBit q <;> rfl
          · rw [bI_t, if_neg (by decide)] at hwm
            rw [bI_t, if_neg (by decide), Option.some.inj hwm, b1]
            simp only [bs_q]
            cases (nv (μ 0 13) (16 + p)).testBit q <;> rfl
    · refine AgT.q R 3 1 0 0 (by decide) ?_ (fun μ' V' e => ?_) (fun h => by cases h)
      · unfold f_X9_hole
        simp (disch := omega) only [c_isRoom hp, h1, nm_q, bs_q, on_a, on_m, on_t, ix_on, le_t, le_f, lt_t, lt_f, eq_t, eq_f, ite_b0, ite_b1, ↓reduceIte, i_0, i_1, i_2, i_3, i_4, i_5, i_6, i_7, i_8, i_9, i_10, i_11, i_12, i_13, i_14, i_15, i_16, i_18, i_20, i_22, i_24, i_30, i_31, i_32, i_40, i_48, i_50, i_51, i_52, i_57, i_60, i_64, i_65, i_66, i_67, i_97, i_99, i_100, i_122, i_239, i_240, i_255, i_256, i_304, i_400, i_401, i_704, i_999, i_1000, i_2304, i_3344, i_3648, i_4096, i_9999, i_32767]
      · unfold f_X10_hole
        simp (disch := omega) only [r_isRoom hp, h2, nm_q, bs_q, on_a, on_m, on_t, ix_on, le_t, le_f, lt_t, lt_f, eq_t, eq_f, ite_b0, ite_b1, ↓reduceIte, i_0, i_1, i_2, i_3, i_4, i_5, i_6, i_7, i_8, i_9, i_10, i_11, i_12, i_13, i_14, i_15, i_16, i_18, i_20, i_22, i_24, i_30, i_31, i_32, i_40, i_48, i_50, i_51, i_52, i_57, i_60, i_64, i_65, i_66, i_67, i_97, i_99, i_100, i_122, i_239, i_240, i_255, i_256, i_304, i_400, i_401, i_704, i_999, i_1000, i_2304, i_3344, i_3648, i_4096, i_9999, i_32767, upm_at, bk_b]
  · refine AgT.q R 3 1 0 0 (by decide) ?_ (fun μ' V' e => ?_) (fun h => by cases h)
    · unfold f_X9_hole
      simp (disch := omega) only [h1, nm_q, bs_q, on_a, on_m, on_t, ix_on, le_t, le_f, lt_t, lt_f, eq_t, eq_f, ite_b0, ite_b1, ↓reduceIte, i_0, i_1, i_2, i_3, i_4, i_5, i_6, i_7, i_8, i_9, i_10, i_11, i_12, i_13, i_14, i_15, i_16, i_18, i_20, i_22, i_24, i_30, i_31, i_32, i_40, i_48, i_50, i_51, i_52, i_57, i_60, i_64, i_65, i_66, i_67, i_97, i_99, i_100, i_122, i_239, i_240, i_255, i_256, i_304, i_400, i_401, i_704, i_999, i_1000, i_2304, i_3344, i_3648, i_4096, i_9999, i_32767]
    · unfold f_X10_hole
      simp (disch := omega) only [h2, nm_q, bs_q, on_a, on_m, on_t, ix_on, le_t, le_f, lt_t, lt_f, eq_t, eq_f, ite_b0, ite_b1, ↓reduceIte, i_0, i_1, i_2, i_3, i_4, i_5, i_6, i_7, i_8, i_9, i_10, i_11, i_12, i_13, i_14, i_15, i_16, i_18, i_20, i_22, i_24, i_30, i_31, i_32, i_40, i_48, i_50, i_51, i_52, i_57, i_60, i_64, i_65, i_66, i_67, i_97, i_99, i_100, i_122, i_239, i_240, i_255, i_256, i_304, i_400, i_401, i_704, i_999, i_1000, i_2304, i_3344, i_3648, i_4096, i_9999, i_32767, upm_at, bk_b]
