/-! ===== the tape: end, feed ===== -/
def FrT (μ μ' : Mem) : Prop := ∀ g j i, scr g j i = false → ¬ (g = 0 ∧ ((j = 1 ∧ i = 1) ∨ j = 2 ∨ (j = 12 ∧ i = 8) ∨ j = 17)) → μ' g j i = μ g j i
theorem FrT.refl (μ : Mem) : FrT μ μ := fun _ _ _ _ _ => rfl
theorem FrS.T {μ μ' : Mem} (h : FrS μ μ') : FrT μ μ' := fun g j i hs _ => h g j i hs
theorem FrT.trans {μ μ1 μ2 : Mem} (h : FrT μ μ1) (h2 : FrT μ1 μ2) : FrT μ μ2 := fun g j i hs hn => (h2 g j i hs hn).trans (h g j i hs hn)
theorem FrT.upm {μ μ' : Mem} (h : FrT μ μ') {g j i : Nat} (v : Int32) (hs : scr g j i = true ∨ (g = 0 ∧ ((j = 1 ∧ i = 1) ∨ j = 2 ∨ (j = 12 ∧ i = 8) ∨ j = 17))) : FrT μ (upm μ' g j i v) := fun a b c hq hn => by
  rw [upm_n3]
  · exact h a b c hq hn
  · rintro ⟨rfl, rfl, rfl⟩
    rcases hs with hs | hs
    · rw [hs] at hq
      cases hq
    · exact hn hs
theorem Rel.tape {μ μ' : Mem} (R : Rel μ) (h : FrT μ μ') (T : TAP μ') : Rel μ' := by
  have hs : FrS μ (fun g j i => if g = 0 ∧ ((j = 1 ∧ i = 1) ∨ j = 2 ∨ (j = 12 ∧ i = 8) ∨ j = 17) then μ g j i else μ' g j i) := fun g j i hq => by
    show (if g = 0 ∧ ((j = 1 ∧ i = 1) ∨ j = 2 ∨ (j = 12 ∧ i = 8) ∨ j = 17) then μ g j i else μ' g j i) = _
    split
    · rfl
    · rename_i hn
      exact h g j i hq hn
  have R2 := R.fr hs
  have eg : ∀ g j i, ¬ (g = 0 ∧ ((j = 1 ∧ i = 1) ∨ j = 2 ∨ (j = 12 ∧ i = 8) ∨ j = 17)) → (fun g j i => if g = 0 ∧ ((j = 1 ∧ i = 1) ∨ j = 2 ∨ (j = 12 ∧ i = 8) ∨ j = 17) then μ g j i else μ' g j i : Mem) g j i = μ' g j i := fun g j i hn => if_neg hn
  generalize (fun g j i => if g = 0 ∧ ((j = 1 ∧ i = 1) ∨ j = 2 ∨ (j = 12 ∧ i = 8) ∨ j = 17) then μ g j i else μ' g j i : Mem) = ξ at R2 eg
  have g1 : ∀ g, g ≠ 0 → ξ g = μ' g := fun g hg => funext fun j => funext fun i => eg g j i (by omega)
  have g2 : ∀ j, j = 13 ∨ j = 14 ∨ j = 16 → ξ 0 j = μ' 0 j := fun j hj => funext fun i => eg 0 j i (by omega)
  obtain ⟨⟨ev, h1, k, nx, q1, q2, q3, q4, q5, q6⟩, -, h4, h5⟩ := R2
  rw [g1 1 (by decide), g2 13 (by decide)] at h1
  rw [eg 0 9 1 (by omega)] at q3
  rw [eg 0 9 2 (by omega)] at q4
  rw [eg 0 12 6 (by omega)] at q5
  rw [eg 0 0 10 (by omega), eg 0 12 12 (by omega)] at h4
  refine ⟨⟨ev, h1, k, nx, q1, q2, q3, q4, q5, fun i hi => ?_⟩, T, h4, ?_⟩
  · have h6 := q6 i hi
    have ep : pastR ξ (k - 1 - i) = pastR μ' (k - 1 - i) := by
      unfold pastR
      rw [g2 16 (by decide), g2 13 (by decide)]
    rw [ep, g1 _ (by omega)] at h6
    exact h6
  · unfold IMG at h5 ⊢
    unfold BQ at h5 ⊢
    rw [eg 0 0 9 (by omega), eg 0 12 3 (by omega), g1 3 (by decide), g2 14 (by decide), eg 0 12 15 (by omega), eg 0 12 16 (by omega)] at h5
    exact h5
theorem q_end {μ : Mem} (R : Rel μ) (a : Int32) : AgN (f_X9_end μ a) (fun μ' => f_X10_end μ' a) := by
  obtain ⟨t, t1, t2, t3, t4⟩ := R.2.1
  show ∃ v μ1 μ2, f_X9_end μ a = some (v, μ1) ∧ f_X10_end μ1 a = some (v, μ2) ∧ Rel μ2
  rcases in_cases a 0 t (by decide) (by omega) with ⟨k, -, hk, rfl⟩ | ⟨h3, h4⟩
  · refine ⟨1, upm μ 0 1 1 (Int32.ofNat k), upm (upm (upm μ 0 1 1 (Int32.ofNat k)) 0 12 0 0) 0 12 8 (Int32.ofNat k), ?_, ?_, R.tape (((((FrT.refl μ).upm _ (by decide)).upm _ (by decide))).upm _ (by decide)) ⟨k, by omega, ?_, upm_at _ _ _ _ _, fun i hi => ?_⟩⟩
    · unfold f_X9_end
      rw [i_0, if_neg (by rw [on_lt (by omega) (by decide)]; omega), t2, if_pos (by rw [on_le (by omega) (by omega)]; exact hk), nm_q]
    · unfold f_X10_end
      rw [nm_q, upm_n3 (by omega), upm_ne (by omega), t3, i_0, isIn_t (Nat.zero_le k) hk (by omega)]
      simp only [bs_q]
      rw [if_neg (by decide), nm_q]
    · rw [upm_ne (by omega), upm_ne (by omega), upm_at]
    · have := t4 i (by omega)
      rw [upm_ne (by omega), upm_ne (by omega), upm_ne (by omega), upm_ne (by omega), upm_ne (by omega), upm_ne (by omega)]
      exact this
  · refine ⟨0, μ, upm μ 0 12 0 0, ?_, ?_, R.fr ((FrS.refl μ).upm 0 rfl)⟩
    · unfold f_X9_end
      rcases h3 with h3 | ⟨h3, h5⟩
      · rw [if_pos (show a < 0 from h3)]
      · rw [if_neg (show ¬ a < 0 from h3), t2, if_neg (by rw [Int32.not_le]; exact h5)]
    · unfold f_X10_end
      rw [nm_q, upm_n3 (by omega), t3, i_0, h4]
      simp only [bs_q]
      rw [if_pos trivial]
theorem nb_255 (x : Int32) : Nb (x &&& 255) 255 := by
  refine ⟨(x &&& 255).toBitVec.toNat, ?_, ?_⟩
  · rw [Int32.toBitVec_and, BitVec.toNat_and]
    exact Nat.le_trans Nat.and_le_right (by decide)
  · rw [← Int32.toBitVec_inj, Int32.toBitVec_ofNat', BitVec.ofNat_toNat, BitVec.setWidth_eq]
def bySel (a1 a2 a3 a4 a5 : Int32) (k : Nat) : Int32 := if k < 4 then a1 else if k < 8 then a2 else if k < 12 then a3 else if k < 16 then a4 else a5
def by8 (a : Int32) (k : Nat) : Int32 := (jushr a (Int32.ofNat (24 - 8 * k))) &&& 255
theorem c_put {μ : Mem} (a : Int32) {t : Nat} (ht : t + 4 ≤ 400) (e : μ 0 1 1 = Int32.ofNat t) : ∃ ν, f_X7_putNumber μ a = some ν ∧ ν 0 1 1 = Int32.ofNat (t + 4) ∧ (∀ i, i < 4 → ν 0 2 (t + i) = by8 a i) ∧ (∀ i, ¬ (t ≤ i ∧ i < t + 4) → ν 0 2 i = μ 0 2 i) ∧ ∀ g j i, ¬ (g = 0 ∧ ((j = 1 ∧ i = 1) ∨ j = 2)) → ν g j i = μ g j i := by
  unfold f_X7_putNumber
  refine lpP (fun n (s : Int32 × Mem) => lp_X7_putNumber_3 a n s.1 s.2) (fun o => ∃ ν, o = some ν ∧ ν 0 1 1 = Int32.ofNat (t + 4) ∧ (∀ i, i < 4 → ν 0 2 (t + i) = by8 a i) ∧ (∀ i, ¬ (t ≤ i ∧ i < t + 4) → ν 0 2 i = μ 0 2 i) ∧ ∀ g j i, ¬ (g = 0 ∧ ((j = 1 ∧ i = 1) ∨ j = 2)) → ν g j i = μ g j i) (fun k s => s.1 = Int32.ofNat (32 - 8 * k) + (-8) ∧ s.2 0 1 1 = Int32.ofNat (t + k) ∧ (∀ i, i < k → s.2 0 2 (t + i) = by8 a i) ∧ (∀ i, ¬ (t ≤ i ∧ i < t + k) → s.2 0 2 i = μ 0 2 i) ∧ ∀ g j i, ¬ (g = 0 ∧ ((j = 1 ∧ i = 1) ∨ j = 2)) → s.2 g j i = μ g j i) 4 ?_ 4096 (24, μ) (by decide) ⟨rfl, e, fun i hi => by omega, fun _ _ => rfl, fun _ _ _ _ => rfl⟩
  rintro k ⟨x, ξ⟩ hk ⟨e1, e2, e3, e4, e5⟩ n
  simp only at e1 e2 e3 e4 e5
  subst e1
  by_cases h6 : k = 4
  · left
    subst h6
    refine ⟨ξ, ?_, e2, e3, e4, e5⟩
    show lp_X7_putNumber_3 _ (n + 1) (Int32.ofNat (32 - 8 * 4) + (-8)) ξ = _
    rw [lp_X7_putNumber_3, if_pos (by decide)]
  · right
    have ex : Int32.ofNat (32 - 8 * k) + (-8) = Int32.ofNat (24 - 8 * k) := by
      rw [show 32 - 8 * k = 24 - 8 * k + 8 by omega, ← on_a, Int32.add_assoc, show Int32.ofNat 8 + -8 = 0 from by decide, Int32.add_zero]
    refine ⟨by omega, (Int32.ofNat (32 - 8 * (k + 1)) + (-8), upm (upm ξ 0 2 (t + k) (by8 a k)) 0 1 1 (Int32.ofNat (t + (k + 1)))), ⟨rfl, (by show upm (upm ξ 0 2 (t + k) (by8 a k)) 0 1 1 (Int32.ofNat (t + (k + 1))) 0 1 1 = _; exact upm_at _ _ _ _ _), fun i hi => ?_, fun i hi => ?_, fun g j i hn => ?_⟩, ?_⟩
    · show upm (upm ξ 0 2 (t + k) (by8 a k)) 0 1 1 (Int32.ofNat (t + (k + 1))) 0 2 (t + i) = _
      rw [upm_ne (by omega)]
      by_cases h7 : i = k
      · subst h7
        rw [upm_at]
      · rw [upm_n3 (by omega), e3 i (by omega)]
    · show upm (upm ξ 0 2 (t + k) (by8 a k)) 0 1 1 (Int32.ofNat (t + (k + 1))) 0 2 i = _
      rw [upm_ne (by omega), upm_n3 (by omega), e4 i (by omega)]
    · show upm (upm ξ 0 2 (t + k) (by8 a k)) 0 1 1 (Int32.ofNat (t + (k + 1))) g j i = _
      rw [upm_n3 (by omega), upm_n3 (by omega), e5 g j i hn]
    · show lp_X7_putNumber_3 a (n + 1) (Int32.ofNat (32 - 8 * k) + (-8)) ξ = lp_X7_putNumber_3 a n (Int32.ofNat (32 - 8 * (k + 1)) + (-8)) (upm (upm ξ 0 2 (t + k) (by8 a k)) 0 1 1 (Int32.ofNat (t + (k + 1))))
      rw [ex, show 32 - 8 * (k + 1) = 24 - 8 * k by omega, lp_X7_putNumber_3, i_0, if_neg (by rw [on_lt (by omega) (by decide)]; omega), e2, i_400, if_neg (by rw [on_le (by decide) (by omega)]; omega), ix_on (by omega) (by decide), on_t (by omega), nm_q, nm_q, upm_ne (by omega), e2, i_1, on_a]
      rfl
theorem r_feed {B : Mem} (a1 a2 a3 a4 a5 : Int32) {t : Nat} (ht : t + 20 ≤ 400) (e : B 0 12 8 = Int32.ofNat t) : ∃ ν, lp_X10_feed_23 a1 a2 a3 a4 a5 4096 0 B = some (Int32.ofNat (t + 20), ν) ∧ ν 0 12 8 = Int32.ofNat (t + 20) ∧ (∀ i, i < 20 → ν 0 17 (t + i) = by8 (bySel a1 a2 a3 a4 a5 i) (i % 4)) ∧ (∀ i, ¬ (t ≤ i ∧ i < t + 20) → ν 0 17 i = B 0 17 i) ∧ ∀ g j i, ¬ (g = 0 ∧ ((j = 12 ∧ i = 8) ∨ j = 17)) → ν g j i = B g j i := by
  refine lpP (fun n (s : Int32 × Mem) => lp_X10_feed_23 a1 a2 a3 a4 a5 n s.1 s.2) (fun o => ∃ ν, o = some (Int32.ofNat (t + 20), ν) ∧ ν 0 12 8 = Int32.ofNat (t + 20) ∧ (∀ i, i < 20 → ν 0 17 (t + i) = by8 (bySel a1 a2 a3 a4 a5 i) (i % 4)) ∧ (∀ i, ¬ (t ≤ i ∧ i < t + 20) → ν 0 17 i = B 0 17 i) ∧ ∀ g j i, ¬ (g = 0 ∧ ((j = 12 ∧ i = 8) ∨ j = 17)) → ν g j i = B g j i) (fun k s => s.1 = Int32.ofNat k ∧ s.2 0 12 8 = Int32.ofNat (t + k) ∧ (∀ i, i < k → s.2 0 17 (t + i) = by8 (bySel a1 a2 a3 a4 a5 i) (i % 4)) ∧ (∀ i, ¬ (t ≤ i ∧ i < t + k) → s.2 0 17 i = B 0 17 i) ∧ ∀ g j i, ¬ (g = 0 ∧ ((j = 12 ∧ i = 8) ∨ j = 17)) → s.2 g j i = B g j i) 20 ?_ 4096 (0, B) (by decide) ⟨rfl, e, fun i hi => by omega, fun _ _ => rfl, fun _ _ _ _ => rfl⟩
  rintro k ⟨x, ξ⟩ hk ⟨e1, e2, e3, e4, e5⟩ n
  simp only at e1 e2 e3 e4 e5
  subst e1
  by_cases h6 : k = 20
  · left
    subst h6
    refine ⟨ξ, ?_, e2, e3, e4, e5⟩
    show lp_X10_feed_23 _ _ _ _ _ (n + 1) (Int32.ofNat 20) ξ = _
    rw [lp_X10_feed_23, if_pos (by decide), e2]
  · right
    refine ⟨by omega, (Int32.ofNat (k + 1), upm (upm ξ 0 17 (t + k) (by8 (bySel a1 a2 a3 a4 a5 k) (k % 4))) 0 12 8 (Int32.ofNat (t + (k + 1)))), ⟨rfl, (by show upm (upm ξ 0 17 (t + k) (by8 (bySel a1 a2 a3 a4 a5 k) (k % 4))) 0 12 8 (Int32.ofNat (t + (k + 1))) 0 12 8 = _; exact upm_at _ _ _ _ _), fun i hi => ?_, fun i hi => ?_, fun g j i hn => ?_⟩, ?_⟩
    · show upm (upm ξ 0 17 (t + k) (by8 (bySel a1 a2 a3 a4 a5 k) (k % 4))) 0 12 8 (Int32.ofNat (t + (k + 1))) 0 17 (t + i) = _
      rw [upm_ne (by omega)]
      by_cases h7 : i = k
      · subst h7
        rw [upm_at]
      · rw [upm_n3 (by omega), e3 i (by omega)]
    · show upm (upm ξ 0 17 (t + k) (by8 (bySel a1 a2 a3 a4 a5 k) (k % 4))) 0 12 8 (Int32.ofNat (t + (k + 1))) 0 17 i = _
      rw [upm_ne (by omega), upm_n3 (by omega), e4 i (by omega)]
    · show upm (upm ξ 0 17 (t + k) (by8 (bySel a1 a2 a3 a4 a5 k) (k % 4))) 0 12 8 (Int32.ofNat (t + (k + 1))) g j i = _
      rw [upm_n3 (by omega), upm_n3 (by omega), e5 g j i hn]
    · show lp_X10_feed_23 _ _ _ _ _ (n + 1) (Int32.ofNat k) ξ = lp_X10_feed_23 _ _ _ _ _ n (Int32.ofNat (k + 1)) (upm (upm ξ 0 17 (t + k) (by8 (bySel a1 a2 a3 a4 a5 k) (k % 4))) 0 12 8 (Int32.ofNat (t + (k + 1))))
      have key : ∀ a, a = bySel a1 a2 a3 a4 a5 k → (ix (ξ 0 12 8) 400 (nm (upm ξ 0 17 (ξ 0 12 8).toNatClampNeg ((jushr a (24 - (8 * (jrem (Int32.ofNat k) 4)))) &&& 255)) fun (μ5 : Mem) => nm (upm μ5 0 12 8 ((μ5 0 12 8) + 1)) fun (μ6 : Mem) => lp_X10_feed_23 a1 a2 a3 a4 a5 n (Int32.ofNat k + 1) μ6)) = lp_X10_feed_23 a1 a2 a3 a4 a5 n (Int32.ofNat (k + 1)) (upm (upm ξ 0 17 (t + k) (by8 (bySel a1 a2 a3 a4 a5 k) (k % 4))) 0 12 8 (Int32.ofNat (t + (k + 1)))) := fun a ha => by
        have h4 : k % 4 < 4 := Nat.mod_lt _ (by decide)
        rw [e2, ix_on (by omega) (by decide), on_t (by omega), nm_q, nm_q, upm_ne (by omega), e2, i_4, i_24, i_8, on_r (by omega) (by decide), on_m, on_sb (by omega), i_1, on_a, on_a, ha]
        rfl
      have c4 : ((4 : Int32) ≤ Int32.ofNat k) = (4 ≤ k) := on_le (a := 4) (by decide) (by omega)
      have c8 : ((8 : Int32) ≤ Int32.ofNat k) = (8 ≤ k) := on_le (a := 8) (by decide) (by omega)
      have c12 : ((12 : Int32) ≤ Int32.ofNat k) = (12 ≤ k) := on_le (a := 12) (by decide) (by omega)
      have c16 : ((16 : Int32) ≤ Int32.ofNat k) = (16 ≤ k) := on_le (a := 16) (by decide) (by omega)
      rw [lp_X10_feed_23, i_20, if_neg (by rw [on_le (by decide) (by omega)]; omega), nm_q]
      simp only [c4, c8, c12, c16]
      by_cases h4 : 4 ≤ k
      · rw [if_pos h4]
        by_cases h8 : 8 ≤ k
        · rw [if_pos h8]
          by_cases h12 : 12 ≤ k
          · rw [if_pos h12]
            by_cases h16 : 16 ≤ k
            · rw [if_pos h16]
              refine key a5 ?_
              unfold bySel
              rw [if_neg (by omega), if_neg (by omega), if_neg (by omega), if_neg (by omega)]
            · rw [if_neg h16]
              refine key a4 ?_
              unfold bySel
              rw [if_neg (by omega), if_neg (by omega), if_neg (by omega), if_pos (by omega)]
          · rw [if_neg h12]
            refine key a3 ?_
            unfold bySel
            rw [if_neg (by omega), if_neg (by omega), if_pos (by omega)]
        · rw [if_neg h8]
          refine key a2 ?_
          unfold bySel
          rw [if_neg (by omega), if_pos (by omega)]
      · rw [if_neg h4]
        refine key a1 ?_
        unfold bySel
        rw [if_pos (by omega)]
theorem q_feed {μ : Mem} (R : Rel μ) (a1 a2 a3 a4 a5 : Int32) : AgN (f_X9_feed μ a1 a2 a3 a4 a5) (fun μ' => f_X10_feed μ' a1 a2 a3 a4 a5) := by
  obtain ⟨t, t1, t2, t3, t4⟩ := R.2.1
  show ∃ v μ1 μ2, f_X9_feed μ a1 a2 a3 a4 a5 = some (v, μ1) ∧ f_X10_feed μ1 a1 a2 a3 a4 a5 = some (v, μ2) ∧ Rel μ2
  by_cases ht : t + 20 ≤ 400
  · obtain ⟨m1, b1, b2, b3, b4, b5⟩ := c_put a1 (t := t) (by omega) t2
    obtain ⟨m2, c1, c2, c3, c4, c5⟩ := c_put a2 (t := t + 4) (by omega) b2
    obtain ⟨m3, d1, d2, d3, d4, d5⟩ := c_put a3 (t := t + 4 + 4) (by omega) c2
    obtain ⟨m4, f1, f2, f3, f4, f5⟩ := c_put a4 (t := t + 4 + 4 + 4) (by omega) d2
    obtain ⟨m5, g1, g2, g3, g4, g5⟩ := c_put a5 (t := t + 4 + 4 + 4 + 4) (by omega) f2
    have fr : ∀ g j i, ¬ (g = 0 ∧ ((j = 1 ∧ i = 1) ∨ j = 2)) → m5 g j i = μ g j i := fun g j i hn => by rw [g5 g j i hn, f5 g j i hn, d5 g j i hn, c5 g j i hn, b5 g j i hn]
    obtain ⟨ν, r1, r2, r3, r4, r5⟩ := r_feed (B := upm m5 0 12 0 0) a1 a2 a3 a4 a5 ht (by rw [upm_n3 (by omega), fr 0 12 8 (by omega), t3])
    refine ⟨Int32.ofNat (t + 20), m5, ν, ?_, ?_, R.tape (fun g j i hs hn => ?_) ⟨t + 20, ht, ?_, r2, fun i hi => ?_⟩⟩
    · unfold f_X9_feed
      rw [t2, i_20, on_a, i_400, if_pos (by rw [on_le (by omega) (by decide)]; exact ht)]
      simp only [b1, c1, d1, f1, g1, bs_q]
      rw [g2]
    · unfold f_X10_feed
      rw [nm_q, upm_n3 (by omega), fr 0 12 8 (by omega), t3, i_20, on_a, i_400, if_pos (by rw [on_le (by omega) (by decide)]; exact ht)]
      exact r1
    · rw [r5 g j i (by omega), upm_n3, fr g j i (by omega)]
      rintro ⟨rfl, rfl, rfl⟩
      cases hs
    · rw [r5 0 1 1 (by omega), upm_ne (by omega), g2]
    · by_cases hl : i < t
      · rw [r4 i (by omega), upm_ne (by omega), fr 0 17 i (by omega), r5 0 2 i (by omega), upm_ne (by omega), g4 i (by omega), f4 i (by omega), d4 i (by omega), c4 i (by omega), b4 i (by omega)]
        exact t4 i hl
      · obtain ⟨k, rfl⟩ : ∃ k, i = t + k := ⟨i - t, by omega⟩
        have hk : k < 20 := by omega
        rw [r3 k hk]
        refine ⟨?_, nb_255 _⟩
        rw [r5 0 2 _ (by omega), upm_ne (by omega)]
        by_cases q1 : k < 4
        · rw [g4 _ (by omega), f4 _ (by omega), d4 _ (by omega), c4 _ (by omega), b3 k q1, show k % 4 = k by omega]
          unfold bySel
          rw [if_pos q1]
        · by_cases q2 : k < 8
          · rw [g4 _ (by omega), f4 _ (by omega), d4 _ (by omega), show t + k = t + 4 + (k - 4) by omega, c3 _ (by omega), show k % 4 = k - 4 by omega]
            unfold bySel
            rw [if_neg q1, if_pos q2]
          · by_cases q3 : k < 12
            · rw [g4 _ (by omega), f4 _ (by omega), show t + k = t + 4 + 4 + (k - 8) by omega, d3 _ (by omega), show k % 4 = k - 8 by omega]
              unfold bySel
              rw [if_neg q1, if_neg q2, if_pos q3]
            · by_cases q4 : k < 16
              · rw [g4 _ (by omega), show t + k = t + 4 + 4 + 4 + (k - 12) by omega, f3 _ (by omega), show k % 4 = k - 12 by omega]
                unfold bySel
                rw [if_neg q1, if_neg q2, if_neg q3, if_pos q4]
              · rw [show t + k = t + 4 + 4 + 4 + 4 + (k - 16) by omega, g3 _ (by omega), show k % 4 = k - 16 by omega]
                unfold bySel
                rw [if_neg q1, if_neg q2, if_neg q3, if_neg q4]
  · refine ⟨-1, μ, upm μ 0 12 0 0, ?_, ?_, R.fr ((FrS.refl μ).upm 0 rfl)⟩
    · unfold f_X9_feed
      rw [t2, i_20, on_a, i_400, if_neg (by rw [on_le (by omega) (by decide)]; exact ht)]
    · unfold f_X10_feed
      rw [nm_q, upm_n3 (by omega), t3, i_20, on_a, i_400, if_neg (by rw [on_le (by omega) (by decide)]; exact ht)]
