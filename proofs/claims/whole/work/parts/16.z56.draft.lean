/-! ===== what is tried on a draft, answered alike ===== -/
/-- the reference puts aside, goes, and comes back -/
theorem back_to {μa μc : Mem} (hF : FQ (upA μa 0 15 (fl (μa 0 15) (μa 0 13) 0 304)) μc) (hi : ∀ i, 304 ≤ i → μc 0 13 i = μa 0 13 i) : ∃ μd, f_X10_comesBack μc = some μd ∧ FrW μa μd ∧ μd 0 12 0 = μa 0 12 0 ∧ μd 0 22 0 = μa 0 22 0 ∧ μd 0 15 = μc 0 15 ∧ μd 0 13 = μa 0 13 ∧ (∀ g j, ¬ (g = 0 ∧ j = 13) → μd g j = μc g j) := by
  have e15 : μc 0 15 = fl (μa 0 15) (μa 0 13) 0 304 := by rw [hF.1 0 15 (by omega), upA_at]
  have erow : fl (μc 0 13) (μc 0 15) 0 304 = μa 0 13 := funext fun i => by
    by_cases h : i < 304
    · rw [fl_in (by omega), e15, fl_in (by omega)]
    · rw [fl_out (by omega), hi i (by omega)]
  refine ⟨_, r_comesBack μc, ⟨fun g j i hs hn => ?_, fun H => (hF.2.2 (H.cg (upA_ne (by omega)))).cg (upA_ne (by omega))⟩, ?_, ?_, ?_, ?_, fun g j h => upA_ne h⟩
  · by_cases h13 : g = 0 ∧ j = 13
    · obtain ⟨rfl, rfl⟩ := h13
      rw [upA_at, erow]
    · rw [upA_ne h13]
      have h15 : ¬ (g = 0 ∧ j = 15) := fun h => by
        rw [h.1, h.2] at hs
        cases hs
      by_cases h18 : g = 0 ∧ j = 18
      · obtain ⟨rfl, rfl⟩ := h18
        cases hs
      · by_cases h12 : g = 0 ∧ j = 12
        · obtain ⟨rfl, rfl⟩ := h12
          rw [hF.2.1 i (by
            unfold scr at hs
            unfold qf
            simp only [Bool.or_eq_false_iff, beq_eq_false_iff_ne, Bool.and_eq_false_iff, decide_eq_false_iff_not] at hs ⊢
            omega), upA_ne (by omega)]
        · rw [hF.1 g j (by omega), upA_ne h15]
  · rw [upA_ne (by omega), hF.2.1 0 rfl, upA_ne (by omega)]
  · rw [upA_ne (by omega), hF.1 0 22 (by omega), upA_ne (by omega)]
  · rw [upA_ne (by omega)]
  · rw [upA_at, erow]
theorem AgT.d {cm : List (Nat × Int32)} {μ : Mem} {E : Option (Nat × Int32 × Mem)} {F : Mem → Option (Int32 × Mem)} (R : Rel μ) (v : Int32) (μ1 : Mem) (hm : (0, 0) ∈ cm) (hE : E = some (0, v, μ1)) (h1 : FrS μ μ1) (hF : ∀ x : Mem, FrS μ x → ∃ μ6, F x = some (v, μ6) ∧ FrW x μ6 ∧ μ6 0 12 0 = 0 ∧ μ6 0 22 0 = x 0 22 0) : AgT cm E F := by
  obtain ⟨μ6, a1, a2, a3, a4⟩ := hF (upm μ1 0 22 0 v) (h1.upm v rfl)
  exact AgT.ok v μ1 hm hE ⟨μ6, a1, a3, by rw [a4, upm_at], R.fw ((h1.upm v rfl).w.trans a2)⟩
theorem th22 (x : Mem) (t : Int32) : (upm x 0 12 0 t) 0 22 0 = x 0 22 0 := by rw [upm_ne (by omega)]
/-- a try of the reference's: behind what is thrown it puts aside, goes, and comes back -/
theorem r_try {ev : Row → Int32} {μ x : Mem} (HX : HVx ev (μ 0 13)) (hx : FrS μ x) (b : Bool) {m : Nat} (hm : m ≤ 400) : ∃ μb μc μd, f_X10_putsAside (upm x 0 12 0 0) = some μb ∧ f_X10_goes μb (Int32.ofNat m) (bI b) = some (itR (dyG ev b) (μ 0 13) m 11 - μ 0 13 11, μc) ∧ μc 0 13 = itR (dyG ev b) (μ 0 13) m ∧ HVx ev (μc 0 13) ∧ f_X10_comesBack μc = some μd ∧ FrW x μd ∧ μd 0 12 0 = 0 ∧ μd 0 22 0 = x 0 22 0 := by
  have er : (upm x 0 12 0 0) 0 13 = μ 0 13 := th_row 0 hx.row
  have eb : (upA (upm x 0 12 0 0) 0 15 (fl ((upm x 0 12 0 0) 0 15) ((upm x 0 12 0 0) 0 13) 0 304)) 0 13 = μ 0 13 := by rw [upA_ne (by omega), er]
  obtain ⟨μc, c1, c2, c3, c4⟩ := r_goes (ev := ev) (μ := upA (upm x 0 12 0 0) 0 15 (fl ((upm x 0 12 0 0) 0 15) ((upm x 0 12 0 0) 0 13) 0 304)) (by rw [eb]; exact HX) b hm
  rw [eb] at c1 c3
  obtain ⟨μd, d1, d2, d3, d4, -⟩ := back_to c2 (fun i hi => by rw [c3, itR_hi hi, er])
  exact ⟨_, μc, μd, r_putsAside _, c1, c3, c4, d1, ((FrS.refl x).upm 0 rfl).w.trans d2, by rw [d3, upm_at], by rw [d4, th22]⟩
theorem q_trial {μ : Mem} (R : Rel μ) (a : Int32) (b : Bool) : AgT [(0, 0), (1, 1)] (f_X9_trial μ a (bI b)) (fun μ' => f_X10_trial μ' a (bI b)) := by
  rcases in_cases a 0 60 (by decide) (by decide) with ⟨m, -, hm, rfl⟩ | ⟨h3, h4⟩
  · obtain ⟨ev, H, T⟩ := R.ex
    obtain ⟨ν, a1, a2, a3⟩ := hv_copy (d := 1) (s := 0) (by omega) H
    obtain ⟨ν2, b1, b2, b3⟩ := c_live (h := 1) a3 (m := m) (by omega)
    have fr : FrS μ ν2 := frs_cls fun g hg => (b3 g hg).trans (a2 g hg)
    refine AgT.d R (if b = true then Int32.ofNat (hoA (itR (dyL ev) (μ 0 13) m)) else itR (dyL ev) (μ 0 13) m 11 - μ 0 13 11) ν2 (by decide) ?_ fr fun x hx => ?_
    · unfold f_X9_trial
      simp only [nm_q, i_0, i_60]
      rw [if_neg (by rw [on_lt (by omega) (by decide)]; omega), if_pos (by rw [on_le (by omega) (by decide)]; exact hm), a1]
      simp only [bs_q]
      rw [b1]
      simp only [bs_q]
      rw [c_allHoles b2.2.1 b2.1]
      simp only [bs_q]
      cases b <;> rfl
    · obtain ⟨μb, μc, μd, c1, c2, c3, c4, c5, c6, c7, c8⟩ := r_try (ev := ev) ⟨_, H⟩ hx true (m := m) (by omega)
      rw [show dyG ev true = dyL ev from rfl] at c2 c3
      refine ⟨μd, ?_, c6, c7, c8⟩
      show f_X10_trial x (Int32.ofNat m) (bI b) = _
      unfold f_X10_trial
      rw [show f_X10_isIn (Int32.ofNat m) 0 60 = some (Int32.ofNat 1) from isIn_t (Nat.zero_le m) hm (by decide)]
      simp only [bs_q, nm_q]
      rw [bI_t] at c2
      rw [if_neg (by decide), upm_at, if_pos (by decide), c1]
      simp only [bs_q]
      rw [c2]
      simp only [bs_q]
      rw [R_holes c3 (c3 ▸ c4.V), c5]
      simp only [bs_q]
      cases b <;> rfl
  · refine AgT.q R 1 1 0 0 (by decide) ?_ (fun μ' V' e => ?_) (fun h => by cases h)
    · unfold f_X9_trial
      simp only [nm_q, i_0, i_60]
      rcases h3 with h3 | ⟨h3, h5⟩
      · rw [if_pos h3]
      · rw [if_neg h3, if_neg (by rw [Int32.not_le]; exact h5)]
    · unfold f_X10_trial
      simp (disch := omega) only [h4, nm_q, bs_q, on_a, on_m, on_t, ix_on, le_t, le_f, lt_t, lt_f, eq_t, eq_f, ite_b0, ite_b1, ↓reduceIte, i_0, i_1, i_2, i_3, i_4, i_5, i_6, i_7, i_8, i_9, i_10, i_11, i_12, i_13, i_14, i_15, i_16, i_18, i_20, i_22, i_24, i_30, i_31, i_32, i_40, i_48, i_50, i_51, i_52, i_57, i_60, i_64, i_65, i_66, i_67, i_97, i_99, i_100, i_122, i_239, i_240, i_255, i_256, i_304, i_400, i_401, i_704, i_999, i_1000, i_2304, i_3344, i_3648, i_4096, i_9999, i_32767, upm_at, bk_b]
theorem lh_c {r : Row} (h8 : nv r 3 ≤ 8) : lh r 8 = lh r (nv r 3) := by
  have : ∀ d, nv r 3 + d ≤ 8 → lh r (nv r 3 + d) = lh r (nv r 3) := by
    intro d
    induction d with
    | zero => intro _; rfl
    | succ d ih =>
      intro hd
      rw [← ih (by omega)]
      show (if hrC r (nv r 3 + d) = true then _ else lh r (nv r 3 + d)) = _
      rw [if_neg]
      intro h
      have := hrC_lt h
      omega
  have := this (8 - nv r 3) (by omega)
  rwa [show nv r 3 + (8 - nv r 3) = 8 by omega] at this
theorem r_spr {q : Int32 × Mem} {r : Row} (e : q.2 0 13 = r) (V : Vr r) (K : Int32 → Int32 → Int32 → Option (Int32 × Mem)) : lp_X10_spread_52 q K 4096 99 0 0 0 = K (Int32.ofNat (lh r 8).1) (Int32.ofNat (lh r 8).2) (if mk (nv r 3) (hrB r) = 0 then 0 else 1) := by
  have h8 := V.c8
  rw [lh_c h8]
  refine lpF (fun n (s : Int32 × Int32 × Int32 × Int32) => lp_X10_spread_52 q K n s.1 s.2.1 s.2.2.1 s.2.2.2) (fun k => (Int32.ofNat (lh r k).1, Int32.ofNat (lh r k).2, (if mk k (hrB r) = 0 then 0 else 1), Int32.ofNat k)) (nv r 3) _ (fun k hk n => ?_) (fun n => ?_) 4096 (by omega)
  · show lp_X10_spread_52 _ _ _ _ _ _ _ = lp_X10_spread_52 _ _ _ _ _ _ _
    have hk8 : k < 8 := by omega
    have hb := lh_b V k (by omega)
    have h2 : nv r (24 + 5 * k + 2) ≤ 99 := V.gb hk8 2 (by decide)
    have hC : hrC r k = hrB r k := by
      unfold hrC
      rw [decide_eq_true hk, Bool.true_and]
    rw [lp_X10_spread_52, show (3 : Int32) = Int32.ofNat 3 from rfl, ix_on (by decide) (by decide), on_t (by decide), e, V.e3, if_neg (by rw [on_le (by omega) (by omega)]; omega), R_here e hk8]
    simp only [bs_q, i_0, i_1, i_2, on_a, ite_b0]
    by_cases h1 : hrB r k = true
    · rw [if_pos h1, R_of e hk8 (by decide), V.ge hk8 2 (by decide)]
      simp only [bs_q, lesser_e, greater_e]
      rw [on_min (by omega) (by omega), on_max (by omega) (by omega)]
      have el : lh r (k + 1) = (min (lh r k).1 (nv r (24 + 5 * k + 2)), max (lh r k).2 (nv r (24 + 5 * k + 2))) := if_pos (hC.trans h1)
      rw [el, if_neg (show ¬ mk (k + 1) (hrB r) = 0 from fun h => by
        have := mk_zero.mp h k (by omega)
        rw [h1] at this
        cases this)]
    · rw [if_neg h1]
      have el : lh r (k + 1) = lh r k := if_neg (by rw [hC]; exact h1)
      rw [el, ← or_mk0 (hrB r) (Bool.not_eq_true _ ▸ h1)]
  · show lp_X10_spread_52 _ _ _ _ _ _ _ = _
    rw [lp_X10_spread_52, show (3 : Int32) = Int32.ofNat 3 from rfl, ix_on (by decide) (by decide), on_t (by decide), e, V.e3, if_pos (Int32.le_refl _)]
theorem q_spread {μ : Mem} (R : Rel μ) (a : Int32) : AgT [(0, 0), (1, 1)] (f_X9_spread μ a) (fun μ' => f_X10_spread μ' a) := by
  rcases far_cases a with ⟨m, hm, rfl, h3, h4⟩ | ⟨h3, h4⟩
  · obtain ⟨ev, H, T⟩ := R.ex
    obtain ⟨ν, a1, a2, a3⟩ := hv_copy (d := 1) (s := 0) (by omega) H
    have lp : ∃ ν2, (∀ K, ∃ f, lp_X9_spread_31 (Int32.ofNat m) K 4096 0 ν = lp_X9_spread_31 (Int32.ofNat m) K (f + 1) (Int32.ofNat m) ν2) ∧ HV ev (ν2 (1 + 1)) (itR (dyG ev false) (μ 0 13) m) ∧ ∀ g, g ≠ 2 → ν2 g = ν g := by
      obtain ⟨s', f, ⟨i1, i2, i3⟩, e⟩ := lpK (fun (K : Mem → Option (Nat × Int32 × Mem)) n (s : Int32 × Mem) => lp_X9_spread_31 (Int32.ofNat m) K n s.1 s.2) (fun k s => s.1 = Int32.ofNat k ∧ HV ev (s.2 (1 + 1)) (itR (dyG ev false) (μ 0 13) k) ∧ ∀ g, g ≠ 2 → s.2 g = ν g) m (by
        rintro k ⟨x, ξ⟩ hk ⟨hx, hI, hF⟩
        simp only at hx hI hF
        subst hx
        have h8 := hI.1.c8
        have hmk := mk_256 (hrB (itR (dyG ev false) (μ 0 13) k)) h8
        obtain ⟨ξ2, b1, b2, b3⟩ := c_foresee hI hmk
        rw [Nat.and_self, hrC_tb h8] at b2
        refine ⟨(Int32.ofNat (k + 1), ξ2), ⟨rfl, b2, fun g hg => (b3 g hg).trans (hF g hg)⟩, fun K n => ?_⟩
        show lp_X9_spread_31 _ _ (n + 1) (Int32.ofNat k) ξ = lp_X9_spread_31 _ _ n (Int32.ofNat (k + 1)) ξ2
        have em : ξ 2 1 5 = Int32.ofNat (mk (nv (itR (dyG ev false) (μ 0 13) k) 3) (hrB (itR (dyG ev false) (μ 0 13) k))) := hI.2.1.hr
        rw [lp_X9_spread_31, if_neg (by rw [on_le (by omega) (by omega)]; omega), em, b1]
        simp only [bs_q, i_1, on_a]) 4096 (0, ν) (by omega) ⟨rfl, a3, fun _ _ => rfl⟩
      refine ⟨s'.2, fun K => ⟨f, ?_⟩, i2, i3⟩
      rw [show lp_X9_spread_31 (Int32.ofNat m) K 4096 0 ν = lp_X9_spread_31 (Int32.ofNat m) K (f + 1) s'.1 s'.2 from e K, i1]
    obtain ⟨ν2, l1, l2, l3⟩ := lp
    have fr : FrS μ ν2 := frs_cls fun g hg => (l3 g hg).trans (a2 g hg)
    have hl := lh_b l2.1 8 (Nat.le_refl 8)
    refine AgT.d R (if mk (nv (itR (dyG ev false) (μ 0 13) m) 3) (hrB (itR (dyG ev false) (μ 0 13) m)) = 0 then Int32.ofNat 0 else Int32.ofNat (lh (itR (dyG ev false) (μ 0 13) m) 8).2 - Int32.ofNat (lh (itR (dyG ev false) (μ 0 13) m) 8).1) ν2 (by decide) ?_ fr fun x hx => ?_
    · unfold f_X9_spread
      rw [h3]
      simp only [bs_q]
      rw [if_neg (by decide), a1]
      simp only [bs_q]
      obtain ⟨f, e⟩ := l1 (fun (μ3 : Mem) => (f_X1_spreadHere 1 μ3).bind fun (q7 : Int32) => some (0, q7, μ3))
      rw [e, lp_X9_spread_31, if_pos (Int32.le_refl _), c_spreadHere l2.2.1 l2.1]
      simp only [bs_q]
    · obtain ⟨μb, μc, μd, c1, c2, c3, c4, c5, c6, c7, c8⟩ := r_try (ev := ev) ⟨_, H⟩ hx false (m := m) hm
      refine ⟨μd, ?_, c6, c7, c8⟩
      show f_X10_spread x (Int32.ofNat m) = _
      unfold f_X10_spread
      rw [show f_X10_isIn (Int32.ofNat m) 0 400 = some (Int32.ofNat 1) from h4]
      simp only [bs_q, nm_q]
      rw [bI_f] at c2
      rw [if_neg (by decide), upm_at, if_pos (by decide), c1]
      simp only [bs_q]
      rw [c2]
      simp only [bs_q]
      rw [r_spr (show (itR (dyG ev false) (μ 0 13) m 11 - μ 0 13 11, μc).2 0 13 = _ from c3) (c3 ▸ c4.V)]
      simp only [c5, bs_q]
      by_cases hz : mk (nv (itR (dyG ev false) (μ 0 13) m) 3) (hrB (itR (dyG ev false) (μ 0 13) m)) = 0
      · rw [if_pos hz, if_pos hz, if_pos rfl]
        rfl
      · rw [if_neg hz, if_neg hz, if_neg (by decide)]
  · refine AgT.q R 1 1 0 0 (by decide) ?_ (fun μ' V' e => ?_) (fun h => by cases h)
    · unfold f_X9_spread
      rw [h3, bs_q, if_pos (show Int32.ofNat 0 = 0 from rfl)]
    · unfold f_X10_spread
      rw [show f_X10_isIn a 0 400 = some (Int32.ofNat 0) from h4, bs_q, nm_q, if_pos (show Int32.ofNat 0 = 0 from rfl)]
      show nm (upm μ' 0 12 0 1) _ = _
      rw [nm_q, upm_at, if_neg (by decide)]
/-- the first of the numbers from k on that is so, of d; none -/
def ff (P : Nat → Bool) : Nat → Nat → Int32
  | _, 0 => -1
  | k, d + 1 => if P k = true then Int32.ofNat k else ff P (k + 1) d
theorem ff_s (P : Nat → Bool) (k d : Nat) : ff P k (d + 1) = if P k = true then Int32.ofNat k else ff P (k + 1) d := rfl
/-- building on, both ways; a: how many towers, or none for the stones' end -/
def bdP (r : Row) (a : Nat) (k : Nat) : Bool := if a = 0 then decide (itR bdS r k 7 = 0) else !decide (itR bdS r k 8 < Int32.ofNat a)
theorem hvx_itb {ev : Row → Int32} {r : Row} (H : HVx ev r) (k : Nat) : HVx ev (itR bdS r k) := by
  induction k with
  | zero => exact H
  | succ k ih => exact hvx_bd ih
theorem itb_hi {r : Row} {i : Nat} (h : 304 ≤ i) (k : Nat) : itR bdS r k i = r i := by
  induction k with
  | zero => rfl
  | succ k ih => exact (bdS_hi (by omega) (by omega)).trans ih
theorem itb_num {r : Row} (V : ∀ k, Vr (itR bdS r k)) (k : Nat) : itR bdS r k 7 = Int32.ofNat (nv (itR bdS r k) 7) ∧ itR bdS r k 8 = Int32.ofNat (nv (itR bdS r k) 8) ∧ nv (itR bdS r k) 7 ≤ 9999 ∧ nv (itR bdS r k) 8 ≤ 9999 := by
  obtain ⟨-, e7, e8, -, b7, b8, -⟩ := bdS_num (V k)
  exact ⟨e7, e8, b7, b8⟩
set_option maxHeartbeats 2000000 in
theorem r_built {ev : Row → Int32} {x : Mem} {r : Row} (HX : HVx ev r) (er : x 0 13 = r) {a : Nat} (ha : a ≤ 9999) : ∃ μ6, f_X10_builtBy x (Int32.ofNat a) = some (ff (bdP r a) 0 401, μ6) ∧ FrW x μ6 ∧ μ6 0 12 0 = x 0 12 0 ∧ μ6 0 22 0 = x 0 22 0 := by
  have eb : (upA x 0 15 (fl (x 0 15) (x 0 13) 0 304)) 0 13 = r := by rw [upA_ne (by omega), er]
  generalize hB : upA x 0 15 (fl (x 0 15) (x 0 13) 0 304) = B at eb
  have gen : ∀ d k F (ν : Mem), k + d = 401 → d < F → FQ B ν → ν 0 13 = itR bdS r k → ∃ ν' : Mem, FQ B ν' ∧ (∀ i, 304 ≤ i → ν' 0 13 i = r i) ∧ ∀ K : Int32 → Mem → Option (Int32 × Mem), lp_X10_builtBy_8 (Int32.ofNat a) K F (-1) (Int32.ofNat k) ν = K (ff (bdP r a) k d) ν' := by
    intro d
    induction d with
    | zero =>
      intro k F ν hk hF hQ hr
      obtain ⟨f, rfl⟩ : ∃ f, F = f + 1 := ⟨F - 1, by omega⟩
      refine ⟨ν, hQ, fun i hi => by rw [hr, itb_hi hi], fun K => ?_⟩
      rw [lp_X10_builtBy_8, if_pos (by rw [show (400 : Int32) = Int32.ofNat 400 from rfl, on_lt (by decide) (by omega)]; omega)]
      rfl
    | succ d ih =>
      intro k F ν hk hF hQ hr
      obtain ⟨f, rfl⟩ : ∃ f, F = f + 1 + 1 := ⟨F - 2, by omega⟩
      obtain ⟨e7, e8, b7, b8⟩ := itb_num (fun k => (hvx_itb HX k).V) k
      obtain ⟨c1, c2⟩ := r_builds (μ := ν)
      have hlt : ¬ (400 : Int32) < Int32.ofNat k := by
        rw [show (400 : Int32) = Int32.ofNat 400 from rfl, on_lt (by decide) (by omega)]
        omega
      generalize hν2 : (upm (upm ν 0 13 8 (jmin 9999 (ν 0 13 8 + jmin (ν 0 13 6) (ν 0 13 7)))) 0 13 7 (ν 0 13 7 - jmin (ν 0 13 6) (ν 0 13 7))) = ν2 at c1 c2
      have hQ2 : FQ B ν2 := by
        rw [← hν2]
        exact (hQ.row _ _).row _ _
      have hr2 : ν2 0 13 = itR bdS r (k + 1) := by
        rw [c2, hr]
        rfl
      have step : ∀ K : Int32 → Mem → Option (Int32 × Mem), lp_X10_builtBy_8 (Int32.ofNat a) K (f + 1 + 1) (-1) (Int32.ofNat k) ν = if bdP r a k = true then lp_X10_builtBy_8 (Int32.ofNat a) K (f + 1) (Int32.ofNat k) (Int32.ofNat (k + 1)) ν2 else lp_X10_builtBy_8 (Int32.ofNat a) K (f + 1) (-1) (Int32.ofNat (k + 1)) ν2 := fun K => by
        rw [lp_X10_builtBy_8, if_neg hlt, if_pos rfl]
        simp only [nm_q]
        rw [c1]
        simp only [bs_q]
        rw [show (7 : Int32) = Int32.ofNat 7 from rfl, show (8 : Int32) = Int32.ofNat 8 from rfl, show (0 : Int32) = Int32.ofNat 0 from rfl, ix_on (by decide) (by decide), ix_on (by decide) (by decide), on_t (by decide), on_t (by decide), hr, show Int32.ofNat k + 1 = Int32.ofNat (k + 1) from on_a k 1]
        unfold bdP
        by_cases h0 : a = 0
        · rw [if_pos (by rw [h0]), if_pos h0]
          by_cases h7 : itR bdS r k 7 = Int32.ofNat 0
          · rw [if_pos h7, if_pos (show decide (itR bdS r k 7 = 0) = true from decide_eq_true h7)]
          · rw [if_neg h7, if_neg (show ¬ decide (itR bdS r k 7 = 0) = true from by rw [decide_eq_true_eq]; exact h7)]
        · rw [if_neg (by rw [on_eq (by omega) (by decide)]; exact h0), if_neg h0]
          by_cases h8 : itR bdS r k 8 < Int32.ofNat a
          · rw [if_pos h8, decide_eq_true h8, if_neg (by decide)]
          · rw [if_neg h8, decide_eq_false h8, if_pos (by decide)]
      by_cases hP : bdP r a k = true
      · refine ⟨ν2, hQ2, fun i hi => by rw [hr2, itb_hi hi], fun K => ?_⟩
        rw [step K, if_pos hP, ff_s, if_pos hP, lp_X10_builtBy_8]
        by_cases h4 : (400 : Int32) < Int32.ofNat (k + 1)
        · rw [if_pos h4]
        · rw [if_neg h4, if_neg (show ¬ Int32.ofNat k = -1 from fun h => by
            rw [show (-1 : Int32) = -Int32.ofNat 1 from rfl, on_neg1 (by omega)] at h
            exact h)]
      · obtain ⟨ν', m1, m2, m3⟩ := ih (k + 1) (f + 1) ν2 (by omega) (by omega) hQ2 hr2
        refine ⟨ν', m1, m2, fun K => ?_⟩
        rw [step K, if_neg hP, ff_s, if_neg hP, m3 K]
  obtain ⟨ν', m1, m2, m3⟩ := gen 401 0 4096 B (by decide) (by decide) (FQ.refl B) eb
  rw [← hB] at m1
  obtain ⟨μd, d1, d2, d3, d4, -⟩ := back_to m1 (fun i hi => by rw [m2 i hi, er])
  refine ⟨μd, ?_, d2, d3, d4⟩
  unfold f_X10_builtBy
  rw [r_putsAside]
  simp only [bs_q]
  rw [hB]
  refine Eq.trans (m3 _) ?_
  simp only [d1, bs_q]
theorem q_gone {μ : Mem} (R : Rel μ) : AgN (f_X9_gone μ) f_X10_gone := by
  obtain ⟨ev, H, T⟩ := R.ex
  obtain ⟨ν, a1, a2, a3⟩ := hv_copy (d := 1) (s := 0) (by omega) H
  have hc : ∃ ν2, f_X9_gone μ = some (ff (bdP (μ 0 13) 0) 0 401, ν2) ∧ ∀ g, g ≠ 2 → ν2 g = ν g := by
    unfold f_X9_gone
    rw [a1]
    simp only [bs_q]
    refine lpP (fun n (s : Int32 × Mem) => lp_X9_gone_13 n s.1 s.2) (fun o => ∃ ν2, o = some (ff (bdP (μ 0 13) 0) 0 401, ν2) ∧ ∀ g, g ≠ 2 → ν2 g = ν g) (fun k s => s.1 = Int32.ofNat k ∧ HV ev (s.2 (1 + 1)) (itR bdS (μ 0 13) k) ∧ (∀ g, g ≠ 2 → s.2 g = ν g) ∧ ff (bdP (μ 0 13) 0) 0 401 = ff (bdP (μ 0 13) 0) k (401 - k)) 401 ?_ 4096 (0, ν) (by decide) ⟨rfl, a3, fun _ _ => rfl, rfl⟩
    rintro k ⟨x, ξ⟩ hk ⟨hx, hI, hF, hf⟩ n
    simp only at hx hI hF hf
    subst hx
    by_cases h4 : k = 401
    · left
      refine ⟨ξ, ?_, hF⟩
      show lp_X9_gone_13 (n + 1) (Int32.ofNat k) ξ = _
      rw [hf, h4, lp_X9_gone_13, if_pos (by decide)]
      rfl
    · have es : ξ 2 0 10 = itR bdS (μ 0 13) k 7 := hI.2.1.stones
      have hlt : ¬ (400 : Int32) < Int32.ofNat k := by
        rw [show (400 : Int32) = Int32.ofNat 400 from rfl, on_lt (by decide) (by omega)]
        omega
      rw [show 401 - k = 401 - (k + 1) + 1 by omega, ff_s (bdP (μ 0 13) 0) k (401 - (k + 1))] at hf
      by_cases h7 : itR bdS (μ 0 13) k 7 = 0
      · left
        refine ⟨ξ, ?_, hF⟩
        show lp_X9_gone_13 (n + 1) (Int32.ofNat k) ξ = _
        rw [hf, lp_X9_gone_13, if_neg hlt, es, if_pos h7, if_pos (show bdP (μ 0 13) 0 k = true from decide_eq_true h7)]
      · right
        obtain ⟨ξ2, b1, b2, b3⟩ := c_build hI
        refine ⟨by omega, (Int32.ofNat (k + 1), ξ2), ⟨rfl, b2, fun g hg => (b3 g hg).trans (hF g hg), ?_⟩, ?_⟩
        · rw [hf, if_neg (show ¬ bdP (μ 0 13) 0 k = true from by unfold bdP; rw [if_pos rfl, decide_eq_true_eq]; exact h7)]
        · show lp_X9_gone_13 (n + 1) (Int32.ofNat k) ξ = lp_X9_gone_13 n (Int32.ofNat (k + 1)) ξ2
          rw [lp_X9_gone_13, if_neg hlt, es, if_neg h7, b1]
          simp only [bs_q, i_1, on_a]
  obtain ⟨ν2, c1, c2⟩ := hc
  have fr : FrS μ ν2 := frs_cls fun g hg => (c2 g hg).trans (a2 g hg)
  obtain ⟨μ6, d1, d2, -, -⟩ := r_built (ev := ev) (x := upm ν2 0 12 0 0) (r := μ 0 13) ⟨_, H⟩ (th_row 0 fr.row) (a := 0) (by decide)
  refine ⟨_, ν2, μ6, c1, ?_, R.fw ((fr.upm 0 rfl).w.trans d2)⟩
  unfold f_X10_gone
  rw [nm_q, show (0 : Int32) = Int32.ofNat 0 from rfl]
  rw [show (upm ν2 0 12 0 (Int32.ofNat 0)) = upm ν2 0 12 0 0 from rfl, d1]
  simp only [bs_q]
theorem q_stand {μ : Mem} (R : Rel μ) (a : Int32) : AgT [(0, 0), (1, 1)] (f_X9_stand μ a) (fun μ' => f_X10_stand μ' a) := by
  rcases tow_cases a with ⟨a, ha1, ha, rfl, h3, h4⟩ | ⟨h3, h4⟩
  · obtain ⟨ev, H, T⟩ := R.ex
    obtain ⟨ν, a1, a2, a3⟩ := hv_copy (d := 1) (s := 0) (by omega) H
    have hc : ∃ ν2, f_X9_stand μ (Int32.ofNat a) = some (0, ff (bdP (μ 0 13) a) 0 401, ν2) ∧ ∀ g, g ≠ 2 → ν2 g = ν g := by
      unfold f_X9_stand
      rw [h3]
      simp only [bs_q]
      rw [if_neg (by decide), a1]
      simp only [bs_q]
      refine lpP (fun n (s : Int32 × Mem) => lp_X9_stand_31 (Int32.ofNat a) n s.1 s.2) (fun o => ∃ ν2, o = some (0, ff (bdP (μ 0 13) a) 0 401, ν2) ∧ ∀ g, g ≠ 2 → ν2 g = ν g) (fun k s => s.1 = Int32.ofNat k ∧ HV ev (s.2 (1 + 1)) (itR bdS (μ 0 13) k) ∧ (∀ g, g ≠ 2 → s.2 g = ν g) ∧ ff (bdP (μ 0 13) a) 0 401 = ff (bdP (μ 0 13) a) k (401 - k)) 401 ?_ 4096 (0, ν) (by decide) ⟨rfl, a3, fun _ _ => rfl, rfl⟩
      rintro k ⟨x, ξ⟩ hk ⟨hx, hI, hF, hf⟩ n
      simp only at hx hI hF hf
      subst hx
      by_cases h4 : k = 401
      · left
        refine ⟨ξ, ?_, hF⟩
        show lp_X9_stand_31 _ (n + 1) (Int32.ofNat k) ξ = _
        rw [hf, h4, lp_X9_stand_31, if_pos (by decide)]
        rfl
      · have es : ξ 2 0 11 = itR bdS (μ 0 13) k 8 := hI.2.1.towers
        have hlt : ¬ (400 : Int32) < Int32.ofNat k := by
          rw [show (400 : Int32) = Int32.ofNat 400 from rfl, on_lt (by decide) (by omega)]
          omega
        rw [show 401 - k = 401 - (k + 1) + 1 by omega, ff_s (bdP (μ 0 13) a) k (401 - (k + 1))] at hf
        by_cases h7 : itR bdS (μ 0 13) k 8 < Int32.ofNat a
        · right
          obtain ⟨ξ2, b1, b2, b3⟩ := c_build hI
          refine ⟨by omega, (Int32.ofNat (k + 1), ξ2), ⟨rfl, b2, fun g hg => (b3 g hg).trans (hF g hg), ?_⟩, ?_⟩
          · rw [hf, if_neg (show ¬ bdP (μ 0 13) a k = true from by unfold bdP; rw [if_neg (by omega), decide_eq_true h7]; decide)]
          · show lp_X9_stand_31 _ (n + 1) (Int32.ofNat k) ξ = lp_X9_stand_31 _ n (Int32.ofNat (k + 1)) ξ2
            rw [lp_X9_stand_31, if_neg hlt, es, if_pos h7, b1]
            simp only [bs_q, i_1, on_a]
        · left
          refine ⟨ξ, ?_, hF⟩
          show lp_X9_stand_31 _ (n + 1) (Int32.ofNat k) ξ = _
          rw [hf, lp_X9_stand_31, if_neg hlt, es, if_neg h7, if_pos (show bdP (μ 0 13) a k = true from by unfold bdP; rw [if_neg (by omega), decide_eq_false h7]; rfl)]
    obtain ⟨ν2, c1, c2⟩ := hc
    have fr : FrS μ ν2 := frs_cls fun g hg => (c2 g hg).trans (a2 g hg)
    refine AgT.d R _ ν2 (by decide) c1 fr fun x hx => ?_
    obtain ⟨μ6, d1, d2, d3, d4⟩ := r_built (ev := ev) (x := upm x 0 12 0 0) (r := μ 0 13) ⟨_, H⟩ (th_row 0 hx.row) ha
    refine ⟨μ6, ?_, ((FrS.refl x).upm 0 rfl).w.trans d2, by rw [d3, upm_at], by rw [d4, th22]⟩
    show f_X10_stand x (Int32.ofNat a) = _
    unfold f_X10_stand
    rw [show f_X10_isIn (Int32.ofNat a) 1 9999 = some (Int32.ofNat 1) from h4]
    simp only [bs_q, nm_q]
    rw [if_neg (by decide), upm_at, if_pos (by decide), d1]
    simp only [bs_q]
  · refine AgT.q R 1 1 0 0 (by decide) ?_ (fun μ' V' e => ?_) (fun h => by cases h)
    · unfold f_X9_stand
      rw [h3, bs_q, if_pos (show Int32.ofNat 0 = 0 from rfl)]
    · unfold f_X10_stand
      simp (disch := omega) only [h4, nm_q, bs_q, on_a, on_m, on_t, ix_on, le_t, le_f, lt_t, lt_f, eq_t, eq_f, ite_b0, ite_b1, ↓reduceIte, i_0, i_1, i_2, i_3, i_4, i_5, i_6, i_7, i_8, i_9, i_10, i_11, i_12, i_13, i_14, i_15, i_16, i_18, i_20, i_22, i_24, i_30, i_31, i_32, i_40, i_48, i_50, i_51, i_52, i_57, i_60, i_64, i_65, i_66, i_67, i_97, i_99, i_100, i_122, i_239, i_240, i_255, i_256, i_304, i_400, i_401, i_704, i_999, i_1000, i_2304, i_3344, i_3648, i_4096, i_9999, i_32767, upm_at, bk_b]
