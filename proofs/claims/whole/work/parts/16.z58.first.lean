/-! ===== first, and span ===== -/
def fsP (ev : Row → Int32) (r : Row) (g d : Nat) (k : Nat) : Bool := !decide (itR (dyG ev false) r k (24 + 5 * g + 2) < Int32.ofNat d)
set_option maxHeartbeats 2000000 in
theorem r_first {ev : Row → Int32} {B : Mem} {r : Row} (HX : HVx ev r) (eb : B 0 13 = r) {g d : Nat} (hg8 : g < 8) : ∀ e k F (ν : Mem), k + e = 401 → e < F → FQ B ν → ν 0 13 = itR (dyG ev false) r k → ∃ ν' : Mem, FQ B ν' ∧ (∀ i, 304 ≤ i → ν' 0 13 i = r i) ∧ ∀ K : Int32 → Mem → Option (Int32 × Mem), lp_X10_first_49 (Int32.ofNat g) (Int32.ofNat d) K F (-1) (Int32.ofNat k) ν = K (ff (fsP ev r g d) k e) ν' := by
  intro e
  induction e with
  | zero =>
    intro k F ν hk hF hQ hr
    obtain ⟨f, rfl⟩ : ∃ f, F = f + 1 := ⟨F - 1, by omega⟩
    refine ⟨ν, hQ, fun i hi => by rw [hr, itR_hi hi], fun K => ?_⟩
    rw [lp_X10_first_49, if_pos (by rw [show (400 : Int32) = Int32.ofNat 400 from rfl, on_lt (by decide) (by omega)]; omega)]
    rfl
  | succ e ih =>
    intro k F ν hk hF hQ hr
    obtain ⟨f, rfl⟩ : ∃ f, F = f + 1 + 1 := ⟨F - 2, by omega⟩
    have hlt : ¬ (400 : Int32) < Int32.ofNat k := by
      rw [show (400 : Int32) = Int32.ofNat 400 from rfl, on_lt (by decide) (by omega)]
      omega
    obtain ⟨ν2, c1, c2, c3, c4⟩ := r_goes (ev := ev) (μ := ν) (by rw [hr]; exact hvx_itG HX false k) false (m := 1) (by decide)
    have hr2 : ν2 0 13 = itR (dyG ev false) r (k + 1) := by
      rw [c3, hr]
      rfl
    have hQ2 := hQ.trans c2
    rw [bI_f] at c1
    have step : ∀ K : Int32 → Mem → Option (Int32 × Mem), lp_X10_first_49 (Int32.ofNat g) (Int32.ofNat d) K (f + 1 + 1) (-1) (Int32.ofNat k) ν = if fsP ev r g d k = true then lp_X10_first_49 (Int32.ofNat g) (Int32.ofNat d) K (f + 1) (Int32.ofNat k) (Int32.ofNat (k + 1)) ν2 else lp_X10_first_49 (Int32.ofNat g) (Int32.ofNat d) K (f + 1) (-1) (Int32.ofNat (k + 1)) ν2 := fun K => by
      rw [lp_X10_first_49, if_neg hlt, if_pos rfl, show (2 : Int32) = Int32.ofNat 2 from rfl, R_of hr hg8 (by decide)]
      simp only [bs_q, nm_q]
      rw [show f_X10_goes ν 1 0 = _ from c1]
      simp only [bs_q]
      rw [show Int32.ofNat k + 1 = Int32.ofNat (k + 1) from on_a k 1]
      unfold fsP
      by_cases h8 : itR (dyG ev false) r k (24 + 5 * g + 2) < Int32.ofNat d
      · rw [if_pos h8, decide_eq_true h8, if_neg (by decide)]
      · rw [if_neg h8, decide_eq_false h8, if_pos (by decide)]
    by_cases hP : fsP ev r g d k = true
    · refine ⟨ν2, hQ2, fun i hi => by rw [hr2, itR_hi hi], fun K => ?_⟩
      rw [step K, if_pos hP, ff_s, if_pos hP, lp_X10_first_49]
      by_cases h4 : (400 : Int32) < Int32.ofNat (k + 1)
      · rw [if_pos h4]
      · rw [if_neg h4, if_neg (show ¬ Int32.ofNat k = -1 from fun h => by
          rw [show (-1 : Int32) = -Int32.ofNat 1 from rfl, on_neg1 (by omega)] at h
          exact h)]
    · obtain ⟨ν', m1, m2, m3⟩ := ih (k + 1) (f + 1) ν2 (by omega) (by omega) hQ2 hr2
      refine ⟨ν', m1, m2, fun K => ?_⟩
      rw [step K, if_neg hP, ff_s, if_neg hP, m3 K]
theorem nv3_one {ev : Row → Int32} {g : Nat} {r : Row} (k : Nat) : nv (itR (dyO1 ev g) r k) 3 = nv r 3 := by
  induction k with
  | zero => rfl
  | succ k ih =>
    rw [← ih]
    show nv (dyF ev _ (itR (dyO1 ev g) r k)) 3 = _
    unfold dyF dyS
    rw [nv_ne (by decide)]
    unfold nv
    rw [bdS_hi (by decide) (by decide), tdA_ne 8 fun g' _ => by omega]
set_option maxHeartbeats 2000000 in
theorem q_first {μ : Mem} (R : Rel μ) (a b : Int32) : AgT [(0, 0), (3, 1), (1, 2)] (f_X9_first μ a b) (fun μ' => f_X10_first μ' a b) := by
  have V := R.V
  have h8 := V.c8
  rcases guest_cases R.H V a with ⟨g, hg, rfl, h1, h2⟩ | ⟨h1, h2⟩
  · have hg8 : g < 8 := by omega
    rcases in_cases b 1 99 (by decide) (by decide) with ⟨d, hd1, hd, rfl⟩ | ⟨h5, h6⟩
    · obtain ⟨ev, H, T⟩ := R.ex
      obtain ⟨ν, a1, a2, a3⟩ := hv_copy (d := 1) (s := 0) (by omega) H
      have hc : ∃ ν2, lp_X9_first_53 (Int32.ofNat g) (Int32.ofNat d) 4096 0 ν = some (0, ff (fsP ev (μ 0 13) g d) 0 401, ν2) ∧ ∀ g, g ≠ 2 → ν2 g = ν g := by
        refine lpP (fun n (s : Int32 × Mem) => lp_X9_first_53 (Int32.ofNat g) (Int32.ofNat d) n s.1 s.2) (fun o => ∃ ν2, o = some (0, ff (fsP ev (μ 0 13) g d) 0 401, ν2) ∧ ∀ g, g ≠ 2 → ν2 g = ν g) (fun k s => s.1 = Int32.ofNat k ∧ HV ev (s.2 (1 + 1)) (itR (dyO1 ev g) (μ 0 13) k) ∧ (∀ g, g ≠ 2 → s.2 g = ν g) ∧ ff (fsP ev (μ 0 13) g d) 0 401 = ff (fsP ev (μ 0 13) g d) k (401 - k)) 401 ?_ 4096 (0, ν) (by decide) ⟨rfl, a3, fun _ _ => rfl, rfl⟩
        rintro k ⟨x, ξ⟩ hk ⟨hx, hI, hF, hf⟩ n
        simp only at hx hI hF hf
        subst hx
        by_cases h4 : k = 401
        · left
          refine ⟨ξ, ?_, hF⟩
          show lp_X9_first_53 _ _ (n + 1) (Int32.ofNat k) ξ = _
          rw [hf, h4, lp_X9_first_53, if_pos (by decide)]
          rfl
        · have hlt : ¬ (400 : Int32) < Int32.ofNat k := by
            rw [show (400 : Int32) = Int32.ofNat 400 from rfl, on_lt (by decide) (by omega)]
            omega
          have ed : ξ (1 + 1) 4 g = itR (dyG ev false) (μ 0 13) k (24 + 5 * g + 2) := ((hI.2.1.g (by rw [nv3_one]; exact hg)).2.2).trans (one_all (ev := ev) ⟨_, H⟩ hg8 k _ (by omega) fun g' _ hn => by omega)
          rw [show 401 - k = 401 - (k + 1) + 1 by omega, ff_s (fsP ev (μ 0 13) g d) k (401 - (k + 1))] at hf
          by_cases h7 : itR (dyG ev false) (μ 0 13) k (24 + 5 * g + 2) < Int32.ofNat d
          · right
            obtain ⟨ξ2, b1, b2, b3⟩ := c_foresee hI (pow_256 hg8)
            refine ⟨by omega, (Int32.ofNat (k + 1), ξ2), ⟨rfl, b2, fun g hg => (b3 g hg).trans (hF g hg), ?_⟩, ?_⟩
            · rw [hf, if_neg (show ¬ fsP ev (μ 0 13) g d k = true from by unfold fsP; rw [decide_eq_true h7]; decide)]
            · show lp_X9_first_53 _ _ (n + 1) (Int32.ofNat k) ξ = lp_X9_first_53 _ _ n (Int32.ofNat (k + 1)) ξ2
              rw [lp_X9_first_53, if_neg hlt, c_doubt hg8, ed]
              simp only [bs_q]
              rw [if_pos h7, i_1, shl_b g hg8, b1]
              simp only [bs_q, on_a]
          · left
            refine ⟨ξ, ?_, hF⟩
            show lp_X9_first_53 _ _ (n + 1) (Int32.ofNat k) ξ = _
            rw [hf, lp_X9_first_53, if_neg hlt, c_doubt hg8, ed]
            simp only [bs_q]
            rw [if_neg h7, if_pos (show fsP ev (μ 0 13) g d k = true from by unfold fsP; rw [decide_eq_false h7]; rfl)]
      obtain ⟨ν2, c1, c2⟩ := hc
      have fr : FrS μ ν2 := frs_cls fun g hg => (c2 g hg).trans (a2 g hg)
      refine AgT.d R (ff (fsP ev (μ 0 13) g d) 0 401) ν2 (by decide) ?_ fr fun x hx => ?_
      · unfold f_X9_first
        rw [h1]
        simp only [bs_q, nm_q]
        rw [if_neg (by decide), show (1 : Int32) = Int32.ofNat 1 from rfl, show (99 : Int32) = Int32.ofNat 99 from rfl, if_neg (by rw [on_lt (by omega) (by decide)]; omega), if_pos (by rw [on_le (by omega) (by decide)]; exact hd), a1]
        simp only [bs_q]
        exact c1
      · have er : (upm x 0 12 0 0) 0 13 = μ 0 13 := th_row 0 hx.row
        have eb : (upA (upm x 0 12 0 0) 0 15 (fl ((upm x 0 12 0 0) 0 15) ((upm x 0 12 0 0) 0 13) 0 304)) 0 13 = μ 0 13 := by rw [upA_ne (by omega), er]
        obtain ⟨ν', m1, m2, m3⟩ := r_first (ev := ev) (d := d) ⟨_, H⟩ eb hg8 401 0 4096 _ (by decide) (by decide) (FQ.refl _) eb
        obtain ⟨μd, d1, d2, d3, d4, -⟩ := back_to m1 (fun i hi => by rw [m2 i hi, er])
        refine ⟨μd, ?_, ((FrS.refl x).upm 0 rfl).w.trans d2, by rw [d3, upm_at], by rw [d4, th22]⟩
        show f_X10_first x (Int32.ofNat g) (Int32.ofNat d) = _
        unfold f_X10_first
        rw [h2 x hx.row, show f_X10_isIn (Int32.ofNat d) 1 99 = some (Int32.ofNat 1) from isIn_t hd1 hd (by decide)]
        simp only [bs_q, nm_q]
        rw [if_neg (by decide), if_neg (by decide), upm_at, if_pos (by decide), r_putsAside]
        simp only [bs_q]
        refine Eq.trans (m3 _) ?_
        simp only [d1, bs_q]
    · refine AgT.q R 1 2 0 0 (by decide) ?_ (fun μ' V' e => ?_) (fun h => by cases h)
      · unfold f_X9_first
        rw [h1]
        simp only [bs_q, nm_q]
        rw [if_neg (by decide), show (1 : Int32) = Int32.ofNat 1 from rfl, show (99 : Int32) = Int32.ofNat 99 from rfl]
        rcases h5 with h5 | ⟨h5, h7⟩
        · rw [if_pos h5]
        · rw [if_neg h5, if_neg (by rw [Int32.not_le]; exact h7)]
      · unfold f_X10_first
        rw [h2 _ e, show f_X10_isIn b 1 99 = some (Int32.ofNat 0) from h6]
        simp only [bs_q, nm_q]
        rw [if_neg (by decide), if_pos (show Int32.ofNat 0 = 0 from rfl), upm_at, if_neg (by decide)]
  · refine AgT.q R 3 1 0 0 (by decide) ?_ (fun μ' V' e => ?_) (fun h => by cases h)
    · unfold f_X9_first
      rw [h1, bs_q, if_pos (show Int32.ofNat 0 = 0 from rfl)]
    · unfold f_X10_first
      rw [h2 _ e]
      simp only [bs_q, nm_q]
      rw [if_pos (show Int32.ofNat 0 = 0 from rfl), upm_at, if_neg (by decide)]
theorem FQ.rowA {μ μ' : Mem} (h : FQ μ μ') (f : Row) : FQ μ (upA μ' 0 13 f) := ⟨fun g j hg => by rw [upA_ne (by omega)]; exact h.1 g j hg, fun k hk => by rw [upA_ne (by omega)]; exact h.2.1 k hk, fun H => (h.2.2 H).cg (upA_ne (by omega))⟩
theorem sp_lo (x q : Int32) : (if q ≤ x then q else x) = (if x ≤ q then x else q) := by
  by_cases h1 : q ≤ x
  · by_cases h2 : x ≤ q
    · rw [if_pos h1, if_pos h2, Int32.le_antisymm h1 h2]
    · rw [if_pos h1, if_neg h2]
  · rw [if_neg h1, if_pos (Int32.le_of_lt (Int32.not_le.mp h1))]
theorem sp_hi (x q : Int32) : (if x ≤ q then q else x) = (if q ≤ x then x else q) := by
  by_cases h1 : x ≤ q
  · by_cases h2 : q ≤ x
    · rw [if_pos h1, if_pos h2, Int32.le_antisymm h2 h1]
    · rw [if_pos h1, if_neg h2]
  · rw [if_neg h1, if_pos (Int32.le_of_lt (Int32.not_le.mp h1))]
set_option maxHeartbeats 2000000 in
theorem span_key {ev : Row → Int32} {μ B : Mem} {r : Row} (H : HV ev (μ 1) r) (eb : B 0 13 = r) (ea : B 0 15 = fl (B 0 15) r 0 304) {m : Nat} (hm : m ≤ 60) (b : Bool) : ∃ v ν ν', lp_X9_span_26 (Int32.ofNat m) (bI b) 4096 (-1) 1 μ = some (0, v, ν) ∧ (∀ g, g ≠ 2 → ν g = μ g) ∧ lp_X10_span_37 (Int32.ofNat m) (bI b) 4096 (-1) 1 B = some (v, ν') ∧ FQ B ν' ∧ ν' 0 13 = r := by
  refine lpJ (fun n (s : Int32 × Int32 × Mem) => lp_X9_span_26 (Int32.ofNat m) (bI b) n s.1 s.2.1 s.2.2) (fun n (s : Int32 × Int32 × Mem) => lp_X10_span_37 (Int32.ofNat m) (bI b) n s.1 s.2.1 s.2.2) (fun o o' => ∃ v ν ν', o = some (0, v, ν) ∧ (∀ g, g ≠ 2 → ν g = μ g) ∧ o' = some (v, ν') ∧ FQ B ν' ∧ ν' 0 13 = r) (fun k s s' => s.1 = s'.1 ∧ s.2.1 = Int32.ofNat (k + 1) ∧ s'.2.1 = Int32.ofNat (k + 1) ∧ (∀ g, g ≠ 2 → s.2.2 g = μ g) ∧ FQ B s'.2.2 ∧ s'.2.2 0 13 = r) 6 ?_ 4096 4096 (-1, 1, μ) (-1, 1, B) (by decide) (by decide) ⟨rfl, rfl, rfl, fun _ _ => rfl, FQ.refl B, eb⟩
  rintro k ⟨x, y, ξ⟩ ⟨x', y', η⟩ hk ⟨e1, e2, e3, hF, hQ, hr⟩ n n'
  simp only at e1 e2 e3 hF hQ hr
  subst e1 e2 e3
  by_cases h6 : k = 6
  · left
    subst h6
    refine ⟨x, ξ, η, ?_, hF, ?_, hQ, hr⟩
    · show lp_X9_span_26 _ _ (n + 1) x (Int32.ofNat (6 + 1)) ξ = _
      rw [lp_X9_span_26, if_pos (by decide)]
    · show lp_X10_span_37 _ _ (n' + 1) x (Int32.ofNat (6 + 1)) η = _
      rw [lp_X10_span_37, if_pos (by decide)]
  · right
    have hlt : ¬ (6 : Int32) < Int32.ofNat (k + 1) := by
      rw [show (6 : Int32) = Int32.ofNat 6 from rfl, on_lt (by decide) (by omega)]
      omega
    have Hx : HV ev (ξ (0 + 1)) r := by
      show HV ev (ξ 1) r
      rw [hF 1 (by decide)]
      exact H
    obtain ⟨ν, a1, a2, a3⟩ := hv_copy (d := 1) (s := 0) (by omega) Hx
    have a4 : HV ev ((upm ν 2 0 15 (Int32.ofNat (k + 1))) (1 + 1)) (upd r 15 (Int32.ofNat (k + 1))) := sc_up (h := 1) a3 (by decide) fun h => by cases h
    obtain ⟨ν2, b1, b2, b3⟩ := c_live (h := 1) a4 (m := m) (by omega)
    have er : (upm η 0 13 15 (Int32.ofNat (k + 1))) 0 13 = upd r 15 (Int32.ofNat (k + 1)) := by rw [upm_row, hr]
    obtain ⟨η2, c1, c2, c3, c4⟩ := r_goes (ev := ev) (μ := upm η 0 13 15 (Int32.ofNat (k + 1))) (by rw [er]; exact ⟨_, a4⟩) true (m := m) (by omega)
    rw [er, show dyG ev true = dyL ev from rfl, bI_t] at c1
    rw [er] at c3
    have cb := r_comesBack η2
    have erow : fl (η2 0 13) (η2 0 15) 0 304 = r := funext fun i => by
      have h15 : η2 0 15 = B 0 15 := by rw [c2.1 0 15 (by omega), upm_ne (by omega), hQ.1 0 15 (by omega)]
      by_cases hi : i < 304
      · rw [fl_in (by omega), h15, ea, fl_in (by omega)]
      · rw [fl_out (by omega), c3, itR_hi (by omega), upd_ne (by omega)]
    rw [erow] at cb
    have hq : FQ B (upA η2 0 13 r) := ((hQ.row _ _).trans c2).rowA r
    refine ⟨by omega, (if x = -1 then (itR (dyL ev) (upd r 15 (Int32.ofNat (k + 1))) m 11 - upd r 15 (Int32.ofNat (k + 1)) 11) else if bI b = 0 then (if x ≤ (itR (dyL ev) (upd r 15 (Int32.ofNat (k + 1))) m 11 - upd r 15 (Int32.ofNat (k + 1)) 11) then x else (itR (dyL ev) (upd r 15 (Int32.ofNat (k + 1))) m 11 - upd r 15 (Int32.ofNat (k + 1)) 11)) else (if (itR (dyL ev) (upd r 15 (Int32.ofNat (k + 1))) m 11 - upd r 15 (Int32.ofNat (k + 1)) 11) ≤ x then x else (itR (dyL ev) (upd r 15 (Int32.ofNat (k + 1))) m 11 - upd r 15 (Int32.ofNat (k + 1)) 11)), Int32.ofNat (k + 1 + 1), ν2), (if x = -1 then (itR (dyL ev) (upd r 15 (Int32.ofNat (k + 1))) m 11 - upd r 15 (Int32.ofNat (k + 1)) 11) else if bI b = 0 then (if x ≤ (itR (dyL ev) (upd r 15 (Int32.ofNat (k + 1))) m 11 - upd r 15 (Int32.ofNat (k + 1)) 11) then x else (itR (dyL ev) (upd r 15 (Int32.ofNat (k + 1))) m 11 - upd r 15 (Int32.ofNat (k + 1)) 11)) else (if (itR (dyL ev) (upd r 15 (Int32.ofNat (k + 1))) m 11 - upd r 15 (Int32.ofNat (k + 1)) 11) ≤ x then x else (itR (dyL ev) (upd r 15 (Int32.ofNat (k + 1))) m 11 - upd r 15 (Int32.ofNat (k + 1)) 11)), Int32.ofNat (k + 1 + 1), upA η2 0 13 r), ⟨rfl, rfl, rfl, fun g hg => ?_, hq, (by show upA η2 0 13 r 0 13 = r; exact upA_at _ _ _ _)⟩, ?_, ?_⟩
    · show ν2 g = μ g
      rw [b3 g hg, upm_ng hg, a2 g hg, hF g hg]
    · show lp_X9_span_26 _ _ (n + 1) x (Int32.ofNat (k + 1)) ξ = lp_X9_span_26 _ _ n _ (Int32.ofNat (k + 1 + 1)) ν2
      rw [lp_X9_span_26, if_neg hlt, a1]
      simp only [bs_q, nm_q]
      rw [b1]
      simp only [bs_q]
      rw [show Int32.ofNat (k + 1) + 1 = Int32.ofNat (k + 1 + 1) from on_a (k + 1) 1]
      split
      · rfl
      · split
        · split <;> rfl
        · split <;> rfl
    · show lp_X10_span_37 _ _ (n' + 1) x (Int32.ofNat (k + 1)) η = lp_X10_span_37 _ _ n' _ (Int32.ofNat (k + 1 + 1)) (upA η2 0 13 r)
      rw [lp_X10_span_37, if_neg hlt, show (15 : Int32) = Int32.ofNat 15 from rfl, ix_on (by decide) (by decide), on_t (by decide), nm_q, show f_X10_goes (upm η 0 13 15 (Int32.ofNat (k + 1))) (Int32.ofNat m) 1 = _ from c1]
      simp only [bs_q]
      rw [cb]
      simp only [bs_q]
      rw [show Int32.ofNat (k + 1) + 1 = Int32.ofNat (k + 1 + 1) from on_a (k + 1) 1]
      unfold f_X10_lesser f_X10_greater
      split
      · rfl
      · split
        · rw [← sp_lo]
          split <;> simp only [bs_q]
        · rw [← sp_hi]
          split <;> simp only [bs_q]
theorem q_span {μ : Mem} (R : Rel μ) (a : Int32) (b : Bool) : AgT [(0, 0), (1, 1)] (f_X9_span μ a (bI b)) (fun μ' => f_X10_span μ' a (bI b)) := by
  rcases in_cases a 0 60 (by decide) (by decide) with ⟨m, -, hm, rfl⟩ | ⟨h3, h4⟩
  · obtain ⟨ev, H, T⟩ := R.ex
    have key : ∀ x : Mem, FrS μ x → ∃ v ν ν', lp_X9_span_26 (Int32.ofNat m) (bI b) 4096 (-1) 1 μ = some (0, v, ν) ∧ (∀ g, g ≠ 2 → ν g = μ g) ∧ f_X10_span x (Int32.ofNat m) (bI b) = some (v, ν') ∧ FrW x ν' ∧ ν' 0 12 0 = 0 ∧ ν' 0 22 0 = x 0 22 0 := by
      intro x hx
      have er : (upm x 0 12 0 0) 0 13 = μ 0 13 := th_row 0 hx.row
      obtain ⟨v, ν, ν', k1, k2, k3, k4, k5⟩ := span_key (ev := ev) (B := upA (upm x 0 12 0 0) 0 15 (fl ((upm x 0 12 0 0) 0 15) ((upm x 0 12 0 0) 0 13) 0 304)) H (by rw [upA_ne (by omega), er]) (by
        rw [upA_at, er]
        funext i
        by_cases hi : i < 304
        · rw [fl_in (by omega), fl_in (by omega)]
        · rw [fl_out (by omega), fl_out (by omega), fl_out (by omega)]) hm b
      refine ⟨v, ν, ν', k1, k2, ?_, ?_, ?_, ?_⟩
      · unfold f_X10_span
        rw [show f_X10_isIn (Int32.ofNat m) 0 60 = some (Int32.ofNat 1) from isIn_t (Nat.zero_le m) hm (by decide)]
        simp only [bs_q, nm_q]
        rw [if_neg (by decide), upm_at, if_pos (by decide), r_putsAside]
        simp only [bs_q]
        exact k3
      · refine ((FrS.refl x).upm (g := 0) (j := 12) (i := 0) 0 rfl).w.trans ?_
        have f1 : FrS (upm x 0 12 0 0) (upA (upm x 0 12 0 0) 0 15 (fl ((upm x 0 12 0 0) 0 15) ((upm x 0 12 0 0) 0 13) 0 304)) := fun g j i hs => by
          rw [upA_ne]
          rintro ⟨rfl, rfl⟩
          cases hs
        exact f1.w.trans (k4.S (by rw [k5, upA_ne (by omega), er]))
      · rw [k4.2.1 0 rfl, upA_ne (by omega), upm_at]
      · rw [k4.1 0 22 (by omega), upA_ne (by omega), th22]
    obtain ⟨v, ν, -, k1, k2, -⟩ := key μ (FrS.refl μ)
    have fr : FrS μ ν := frs_cls k2
    refine AgT.d R v ν (by decide) ?_ fr fun x hx => ?_
    · unfold f_X9_span
      simp only [nm_q, i_0, i_60]
      rw [if_neg (by rw [on_lt (by omega) (by decide)]; omega), if_pos (by rw [on_le (by omega) (by decide)]; exact hm)]
      exact k1
    · obtain ⟨w, ν2, ν', j1, -, j3, j4, j5, j6⟩ := key x hx
      rw [k1] at j1
      cases j1
      exact ⟨ν', j3, j4, j5, j6⟩
  · refine AgT.q R 1 1 0 0 (by decide) ?_ (fun μ' V' e => ?_) (fun h => by cases h)
    · unfold f_X9_span
      simp only [nm_q, i_0, i_60]
      rcases h3 with h3 | ⟨h3, h5⟩
      · rw [if_pos h3]
      · rw [if_neg h3, if_neg (by rw [Int32.not_le]; exact h5)]
    · unfold f_X10_span
      rw [show f_X10_isIn a 0 60 = some (Int32.ofNat 0) from h4]
      simp only [bs_q, nm_q]
      rw [if_pos (show Int32.ofNat 0 = 0 from rfl), upm_at, if_neg (by decide)]
