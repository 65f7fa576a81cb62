/-! ===== one guest's doubt ahead ===== -/
/-- rows alike but for the others' doubts, and the log -/
def EqX (g : Nat) (r r' : Row) : Prop := ∀ i, i < 64 → (∀ g', g' < 8 → g' ≠ g → i ≠ 24 + 5 * g' + 2) → r i = r' i
theorem EqX.n {g : Nat} {r r' : Row} (h : EqX g r r') {i : Nat} (hi : i < 64) (hd : ∀ g', g' < 8 → g' ≠ g → i ≠ 24 + 5 * g' + 2) : nv r i = nv r' i := by
  unfold nv
  rw [h i hi hd]
theorem EqX.tn {ev : Row → Int32} {g : Nat} {r r' : Row} (h : EqX g r r') (hg : g < 8) (hm : rm r g < 8) (h5 : nv r 5 < 2) : tnS ev r g = tnS ev r' g := by
  have e1 : r 1 = r' 1 := h 1 (by decide) fun g' _ _ => by omega
  have erm : rm r g = rm r' g := h.n (by omega) fun g' _ _ => by omega
  have e5 : nv r 5 = nv r' 5 := h.n (by decide) fun g' _ _ => by omega
  have ef : factR r g = factR r' g := funext fun i => by
    match i with
    | 0 => rfl
    | 1 => exact h (24 + 5 * g) (by omega) fun g' _ _ => by omega
    | 2 => exact h (24 + 5 * g + 1) (by omega) fun g' _ _ => by omega
    | 3 => exact h (24 + 5 * g + 2) (by omega) fun g' _ hn => by omega
    | 4 => exact h 8 (by decide) fun g' _ _ => by omega
    | 5 =>
      show Int32.ofNat (pc (nv r (16 + rm r g))) = Int32.ofNat (pc (nv r' (16 + rm r' g)))
      rw [← erm, h.n (i := 16 + rm r g) (by omega) fun g' _ _ => by omega]
    | 6 =>
      show r 10 / _ = r' 10 / _
      rw [h 10 (by decide) fun g' _ _ => by omega]
    | 7 =>
      show bI (kyB r g) = bI (kyB r' g)
      unfold kyB
      rw [h (24 + 5 * g + 3) (by omega) fun g' _ _ => by omega]
    | k + 8 =>
      show bI (satI r (nv r 5) (r 10 + Int32.ofNat 1)) = bI (satI r' (nv r' 5) (r' 10 + Int32.ofNat 1))
      unfold satI
      rw [← e5, h 10 (by decide) fun g' _ _ => by omega, h (12 + nv r 5) (by omega) fun g' _ _ => by omega]
  unfold tnS
  rw [e1, ef]
theorem EqX.refl (g : Nat) (r : Row) : EqX g r r := fun _ _ _ => rfl
theorem EqX.trans {g : Nat} {r r1 r2 : Row} (h : EqX g r r1) (h2 : EqX g r1 r2) : EqX g r r2 := fun i hi hd => (h i hi hd).trans (h2 i hi hd)
theorem EqX.symm {g : Nat} {r r1 : Row} (h : EqX g r r1) : EqX g r1 r := fun i hi hd => (h i hi hd).symm
/-- what the doubts' turn makes of it, whoever else is turned: the one guest's doubt -/
theorem EqX.td {ev : Row → Int32} {g : Nat} {p : Nat → Bool} {r : Row} (V : Vr r) (hg : g < 8) : EqX g (tdA ev p r 8) (if p g = true then tdS ev r g else r) := by
  have lo : ∀ k, k ≤ g → EqX g (tdA ev p r k) r := by
    intro k
    induction k with
    | zero => intro _; exact EqX.refl g r
    | succ k ih =>
      intro hk
      show EqX g (if p k = true then tdS ev (tdA ev p r k) k else tdA ev p r k) r
      split
      · exact fun i hi hd => (tdS_ne (hd k (by omega) (by omega))).trans (ih (by omega) i hi hd)
      · exact ih (by omega)
  have mid : EqX g (tdA ev p r (g + 1)) (if p g = true then tdS ev r g else r) := by
    show EqX g (if p g = true then tdS ev (tdA ev p r g) g else tdA ev p r g) _
    have hl := lo g (Nat.le_refl g)
    by_cases h1 : p g = true
    · rw [if_pos h1, if_pos h1]
      intro i hi hd
      have hd1 : tdA ev p r g (24 + 5 * g + 2) = r (24 + 5 * g + 2) := hl _ (by omega) fun g' _ hn => by omega
      have et : tnS ev (tdA ev p r g) g = tnS ev r g := (hl.symm.tn hg (V.rm8 hg) V.b5).symm
      unfold tdS
      rw [hd1, et]
      by_cases e : i = 24 + 5 * g + 2
      · rw [e, upd_at, upd_at]
      · rw [upd_ne e, upd_ne e]
        exact hl i hi hd
    · rw [if_neg h1, if_neg h1]
      exact hl
  have hi : ∀ k, g + 1 + k ≤ 8 → EqX g (tdA ev p r (g + 1 + k)) (if p g = true then tdS ev r g else r) := by
    intro k
    induction k with
    | zero => intro _; exact mid
    | succ k ih =>
      intro hk
      show EqX g (if p (g + 1 + k) = true then tdS ev (tdA ev p r (g + 1 + k)) (g + 1 + k) else tdA ev p r (g + 1 + k)) _
      split
      · exact fun i hi hd => (tdS_ne (hd (g + 1 + k) (by omega) (by omega))).trans (ih (by omega) i hi hd)
      · exact ih (by omega)
  have := hi (7 - g) (by omega)
  rwa [show g + 1 + (7 - g) = 8 by omega] at this
theorem EqX.up {g : Nat} {r r' : Row} (h : EqX g r r') (k : Nat) (v : Int32) : EqX g (upd r k v) (upd r' k v) := fun i hi hd => by
  by_cases e : i = k
  · rw [e, upd_at, upd_at]
  · rw [upd_ne e, upd_ne e]
    exact h i hi hd
theorem EqX.bd {g : Nat} {r r' : Row} (h : EqX g r r') : EqX g (bdS r) (bdS r') := by
  have e6 := h 6 (by decide) fun g' _ _ => by omega
  have e7 := h 7 (by decide) fun g' _ _ => by omega
  have e8 := h 8 (by decide) fun g' _ _ => by omega
  unfold bdS
  rw [e6, e7, e8]
  exact (h.up _ _).up _ _
theorem EqX.dy {g : Nat} {r r' : Row} (h : EqX g r r') : EqX g (dyS r) (dyS r') := by
  unfold dyS
  rw [h 10 (by decide) fun g' _ _ => by omega]
  exact h.up _ _
/-- a day ahead of the class's draft, and of the reference -/
theorem EqX.day {ev : Row → Int32} {g : Nat} {p : Nat → Bool} {r r' : Row} (V : Vr r) (V' : Vr r') (hg : g < 8) (h : EqX g r r') (hp : p g = hrC r' g) : EqX g (dyF ev p r) (dyF ev (hrC r') r') := by
  unfold dyF
  refine (EqX.bd ?_).dy
  refine (EqX.td V hg).trans (EqX.trans ?_ (EqX.td V' hg).symm)
  rw [hp]
  split
  · intro i hi hd
    unfold tdS
    rw [h (24 + 5 * g + 2) (by omega) fun g' _ hn => by omega, h.tn hg (V.rm8 hg) V.b5]
    exact h.up _ _ i hi hd
  · exact h
def dyO1 (ev : Row → Int32) (g : Nat) (r : Row) : Row := dyF ev (mk (nv r 3) (hrB r) &&& 2 ^ g).testBit r
theorem p_one {r : Row} (h8 : nv r 3 ≤ 8) (g : Nat) : (mk (nv r 3) (hrB r) &&& 2 ^ g).testBit g = hrC r g := by
  rw [Nat.testBit_and, hrC_tb h8, Nat.testBit_two_pow, decide_eq_true rfl, Bool.and_true]
theorem hvx_one {ev : Row → Int32} {r : Row} (H : HVx ev r) {g : Nat} (hg : g < 8) : HVx ev (dyO1 ev g r) := by
  obtain ⟨c, h⟩ := H
  obtain ⟨μ', -, m1, -⟩ := c_foresee (h := 0) (μ := fun _ => c) h (pow_256 hg)
  exact ⟨_, m1⟩
theorem hvx_it1 {ev : Row → Int32} {r : Row} (H : HVx ev r) {g : Nat} (hg : g < 8) (k : Nat) : HVx ev (itR (dyO1 ev g) r k) := by
  induction k with
  | zero => exact H
  | succ k ih => exact hvx_one ih hg
theorem hvx_G {ev : Row → Int32} {r : Row} (H : HVx ev r) (b : Bool) : HVx ev (dyG ev b r) := by
  cases b
  · exact (hvx_dayB H).2
  · exact (hvx_dayB H).1
theorem hvx_itG {ev : Row → Int32} {r : Row} (H : HVx ev r) (b : Bool) (k : Nat) : HVx ev (itR (dyG ev b) r k) := by
  induction k with
  | zero => exact H
  | succ k ih => exact hvx_G ih b
theorem hrC_X {g : Nat} {r r' : Row} (h : EqX g r r') (hg : g < 8) : hrC r g = hrC r' g := by
  unfold hrC hrB
  rw [h.n (i := 3) (by decide) fun g' _ _ => by omega, h (24 + 5 * g + 4) (by omega) fun g' _ _ => by omega]
theorem one_all {ev : Row → Int32} {r : Row} (H : HVx ev r) {g : Nat} (hg : g < 8) (k : Nat) : EqX g (itR (dyO1 ev g) r k) (itR (dyG ev false) r k) := by
  induction k with
  | zero => exact EqX.refl g r
  | succ k ih =>
    have V1 := (hvx_it1 H hg k).V
    have V2 := (hvx_itG H false k).V
    show EqX g (dyO1 ev g (itR (dyO1 ev g) r k)) (dyF ev (hrC (itR (dyG ev false) r k)) (itR (dyG ev false) r k))
    exact EqX.day V1 V2 hg ih (by rw [p_one V1.c8, hrC_X ih hg])
theorem q_ahead {μ : Mem} (R : Rel μ) (a b c : Int32) : AgT [(0, 0), (3, 1), (1, 2), (4, 3)] (f_X9_ahead μ a b c) (fun μ' => f_X10_ahead μ' a b c) := by
  have V := R.V
  have h8 := V.c8
  rcases guest_cases R.H V a with ⟨g, hg, rfl, h1, h2⟩ | ⟨h1, h2⟩
  · have hg8 : g < 8 := by omega
    rcases far_cases b with ⟨m, hm, rfl, h3, h4⟩ | ⟨h3, h4⟩
    · rcases in_cases c 0 2 (by decide) (by decide) with ⟨w, -, hw, rfl⟩ | ⟨h5, h6⟩
      · obtain ⟨ev, H, T⟩ := R.ex
        obtain ⟨ν, a1, a2, a3⟩ := hv_copy (d := 1) (s := 0) (by omega) H
        have X := one_all (ev := ev) ⟨_, H⟩ hg8 m
        have lp : ∃ ν2, (∀ K, ∃ f, lp_X9_ahead_70 (Int32.ofNat g) (Int32.ofNat m) K 4096 0 ν = lp_X9_ahead_70 (Int32.ofNat g) (Int32.ofNat m) K (f + 1) (Int32.ofNat m) ν2) ∧ HV ev (ν2 (1 + 1)) (itR (dyO1 ev g) (μ 0 13) m) ∧ ∀ g, g ≠ 2 → ν2 g = ν g := by
          obtain ⟨s', f, ⟨i1, i2, i3⟩, e⟩ := lpK (fun (K : Mem → Option (Nat × Int32 × Mem)) n (s : Int32 × Mem) => lp_X9_ahead_70 (Int32.ofNat g) (Int32.ofNat m) K n s.1 s.2) (fun k s => s.1 = Int32.ofNat k ∧ HV ev (s.2 (1 + 1)) (itR (dyO1 ev g) (μ 0 13) k) ∧ ∀ g, g ≠ 2 → s.2 g = ν g) m (by
            rintro k ⟨x, ξ⟩ hk ⟨hx, hI, hF⟩
            simp only at hx hI hF
            subst hx
            obtain ⟨ξ2, b1, b2, b3⟩ := c_foresee hI (pow_256 hg8)
            refine ⟨(Int32.ofNat (k + 1), ξ2), ⟨rfl, b2, fun g hg => (b3 g hg).trans (hF g hg)⟩, fun K n => ?_⟩
            show lp_X9_ahead_70 _ _ _ (n + 1) (Int32.ofNat k) ξ = lp_X9_ahead_70 _ _ _ n (Int32.ofNat (k + 1)) ξ2
            rw [lp_X9_ahead_70, if_neg (by rw [on_le (by omega) (by omega)]; omega), i_1, shl_b g hg8, b1]
            simp only [bs_q, on_a]) 4096 (0, ν) (by omega) ⟨rfl, a3, fun _ _ => rfl⟩
          refine ⟨s'.2, fun K => ⟨f, ?_⟩, i2, i3⟩
          rw [show lp_X9_ahead_70 (Int32.ofNat g) (Int32.ofNat m) K 4096 0 ν = lp_X9_ahead_70 (Int32.ofNat g) (Int32.ofNat m) K (f + 1) s'.1 s'.2 from e K, i1]
        obtain ⟨ν2, l1, l2, l3⟩ := lp
        have fr : FrS μ ν2 := frs_cls fun g hg => (l3 g hg).trans (a2 g hg)
        have hg2 : g < nv (itR (dyO1 ev g) (μ 0 13) m) 3 := by
          have : ∀ k, nv (itR (dyO1 ev g) (μ 0 13) k) 3 = nv (μ 0 13) 3 := by
            intro k
            induction k with
            | zero => rfl
            | succ k ih =>
              rw [← ih]
              show nv (dyF ev _ (itR (dyO1 ev g) (μ 0 13) k)) 3 = _
              unfold dyF dyS
              rw [nv_ne (by decide)]
              unfold nv
              rw [bdS_hi (by decide) (by decide), tdA_ne 8 fun g' _ => by omega]
          rw [this]
          exact hg
        have e2 : ν2 2 4 g = itR (dyG ev false) (μ 0 13) m (24 + 5 * g + 2) := ((l2.2.1.g hg2).2.2).trans (X _ (by omega) fun g' _ hn => by omega)
        have e11 : ν2 2 0 11 = itR (dyG ev false) (μ 0 13) m 8 := (l2.2.1.towers).trans (X 8 (by decide) fun g' _ _ => by omega)
        have e10 : ν2 2 0 10 = itR (dyG ev false) (μ 0 13) m 7 := (l2.2.1.stones).trans (X 7 (by decide) fun g' _ _ => by omega)
        refine AgT.d R (if w = 0 then itR (dyG ev false) (μ 0 13) m (24 + 5 * g + 2) else if w = 1 then itR (dyG ev false) (μ 0 13) m 8 else itR (dyG ev false) (μ 0 13) m 7) ν2 (by decide) ?_ fr fun x hx => ?_
        · unfold f_X9_ahead
          rw [h1, h3]
          simp only [bs_q, nm_q]
          rw [if_neg (by decide), if_neg (by decide), show (0 : Int32) = Int32.ofNat 0 from rfl, show (2 : Int32) = Int32.ofNat 2 from rfl, if_neg (by rw [on_lt (by omega) (by decide)]; omega), if_pos (by rw [on_le (by omega) (by decide)]; exact hw), a1]
          simp only [bs_q]
          obtain ⟨f, e⟩ := l1 (fun (μ4 : Mem) => if Int32.ofNat w = Int32.ofNat 0 then ((f_X1_doubtOf 1 μ4 (Int32.ofNat g)).bind fun (q8 : Int32) => some (0, q8, μ4)) else (if Int32.ofNat w = 1 then (some (0, (μ4 2 0 11), μ4)) else (some (0, (μ4 2 0 10), μ4))))
          refine Eq.trans e ?_
          rw [lp_X9_ahead_70, if_pos (Int32.le_refl _), c_doubt hg8, show (1 : Int32) = Int32.ofNat 1 from rfl]
          simp only [bs_q]
          rw [e11, e10, show ν2 (1 + 1) 4 g = _ from e2]
          rcases (show w = 0 ∨ w = 1 ∨ w = 2 by omega) with rfl | rfl | rfl <;> rfl
        · obtain ⟨μb, μc, μd, c1, c2, c3, c4, c5, c6, c7, c8⟩ := r_try (ev := ev) ⟨_, H⟩ hx false (m := m) hm
          refine ⟨μd, ?_, c6, c7, c8⟩
          show f_X10_ahead x (Int32.ofNat g) (Int32.ofNat m) (Int32.ofNat w) = _
          unfold f_X10_ahead
          rw [h2 x hx.row, show f_X10_isIn (Int32.ofNat m) 0 400 = some (Int32.ofNat 1) from h4, show f_X10_isIn (Int32.ofNat w) 0 2 = some (Int32.ofNat 1) from isIn_t (Nat.zero_le w) hw (by decide)]
          simp only [bs_q, nm_q]
          rw [bI_f] at c2
          rw [if_neg (by decide), if_neg (by decide), if_neg (by decide), upm_at, if_pos (by decide), c1]
          simp only [bs_q]
          rw [c2]
          simp only [bs_q]
          rw [show (2 : Int32) = Int32.ofNat 2 from rfl, R_of c3 hg8 (by decide), show (8 : Int32) = Int32.ofNat 8 from rfl, show (7 : Int32) = Int32.ofNat 7 from rfl, ix_on (by decide) (by decide), ix_on (by decide) (by decide), on_t (by decide), on_t (by decide), c3, c5]
          simp only [bs_q]
          rcases (show w = 0 ∨ w = 1 ∨ w = 2 by omega) with rfl | rfl | rfl <;> rfl
      · refine AgT.q R 4 3 0 0 (by decide) ?_ (fun μ' V' e => ?_) (fun h => by cases h)
        · unfold f_X9_ahead
          rw [h1, h3]
          simp only [bs_q, nm_q]
          rw [if_neg (by decide), if_neg (by decide), show (0 : Int32) = Int32.ofNat 0 from rfl, show (2 : Int32) = Int32.ofNat 2 from rfl]
          rcases h5 with h5 | ⟨h5, h7⟩
          · rw [if_pos h5]
          · rw [if_neg h5, if_neg (by rw [Int32.not_le]; exact h7)]
        · unfold f_X10_ahead
          rw [h2 _ e, show f_X10_isIn (Int32.ofNat m) 0 400 = some (Int32.ofNat 1) from h4, show f_X10_isIn c 0 2 = some (Int32.ofNat 0) from h6]
          simp only [bs_q, nm_q]
          rw [if_neg (by decide), if_neg (by decide), if_pos (show Int32.ofNat 0 = 0 from rfl), upm_at, if_neg (by decide)]
    · refine AgT.q R 1 2 0 0 (by decide) ?_ (fun μ' V' e => ?_) (fun h => by cases h)
      · unfold f_X9_ahead
        rw [h1, h3]
        simp only [bs_q, nm_q]
        rw [if_neg (by decide), if_pos (show Int32.ofNat 0 = 0 from rfl)]
      · unfold f_X10_ahead
        rw [h2 _ e, show f_X10_isIn b 0 400 = some (Int32.ofNat 0) from h4]
        simp only [bs_q, nm_q]
        rw [if_neg (by decide), if_pos (show Int32.ofNat 0 = 0 from rfl), upm_at, if_neg (by decide)]
  · refine AgT.q R 3 1 0 0 (by decide) ?_ (fun μ' V' e => ?_) (fun h => by cases h)
    · unfold f_X9_ahead
      rw [h1, bs_q, if_pos (show Int32.ofNat 0 = 0 from rfl)]
    · unfold f_X10_ahead
      rw [h2 _ e]
      simp only [bs_q, nm_q]
      rw [if_pos (show Int32.ofNat 0 = 0 from rfl), upm_at, if_neg (by decide)]
