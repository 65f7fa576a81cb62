/-! ===== shifts, ask ===== -/
def ftB (P : Nat → Bool) (v : Nat → Nat) : Nat → Bool
  | 0 => true
  | k + 1 => ftB P v k && (P (v (2 * k)) == decide (v (2 * k + 1) = 1))
def p7 (s x : Nat) : Bool := decide ((x + s) % 7 = 6)
theorem c_fit7 {μ : Mem} {v : Nat → Nat} {t : Nat} (T : TP μ v t) {s : Nat} (hs : s < 7) (K : Int32 → Option Int32) : lp_X9_shiftsThatFit_15 μ (Int32.ofNat s) K 4096 1 0 = K (bI (ftB (p7 s) v (t / 2))) := by
  have T' := T
  obtain ⟨t1, t2, -, t4⟩ := T'
  refine lpF (fun n (q : Int32 × Int32) => lp_X9_shiftsThatFit_15 μ (Int32.ofNat s) K n q.1 q.2) (fun k => (bI (ftB (p7 s) v k), Int32.ofNat (2 * k))) (t / 2) _ (fun k hk n => ?_) (fun n => ?_) 4096 (by omega)
  · show lp_X9_shiftsThatFit_15 μ (Int32.ofNat s) K (n + 1) (bI (ftB (p7 s) v k)) (Int32.ofNat (2 * k)) = lp_X9_shiftsThatFit_15 μ (Int32.ofNat s) K n (bI (ftB (p7 s) v k && (p7 s (v (2 * k)) == decide (v (2 * k + 1) = 1)))) (Int32.ofNat (2 * (k + 1)))
    have v1 := (t4 (2 * k) (by omega)).2.2
    have v2 := (t4 (2 * k + 1) (by omega)).2.2
    rw [lp_X9_shiftsThatFit_15, t2, i_1, on_a, if_neg (by rw [on_le (by omega) (by omega)]; omega), c_at T (by omega)]
    simp only [bs_q, nm_q]
    rw [c_at T (by omega), on_a, i_7, on_r (by omega) (by decide), i_2, on_a, show 2 * k + 2 = 2 * (k + 1) by omega]
    simp only [bs_q]
    have e1 : (Int32.ofNat ((v (2 * k) + s) % 7) = 6) = (p7 s (v (2 * k)) = true) := by
      rw [i_6, on_eq (by omega) (by decide)]
      unfold p7
      rw [decide_eq_true_eq]
    have e2 : (Int32.ofNat (v (2 * k + 1)) = Int32.ofNat 1) = (decide (v (2 * k + 1) = 1) = true) := by
      rw [on_eq (by omega) (by decide), decide_eq_true_eq]
    rw [i_0]
    simp only [e1, e2, ite_b0]
    generalize p7 s (v (2 * k)) = b1
    generalize decide (v (2 * k + 1) = 1) = b2
    generalize ftB (p7 s) v k = b3
    cases b1 <;> cases b2 <;> cases b3 <;> rfl
  · show lp_X9_shiftsThatFit_15 μ (Int32.ofNat s) K (n + 1) (bI (ftB (p7 s) v (t / 2))) (Int32.ofNat (2 * (t / 2))) = _
    rw [lp_X9_shiftsThatFit_15, t2, i_1, on_a, if_pos (by rw [on_le (by omega) (by omega)]; omega)]
def f7 (v : Nat → Nat) (t s : Nat) : Bool := ftB (p7 s) v (t / 2)
theorem c_shifts {μ : Mem} {v : Nat → Nat} {t : Nat} (T : TP μ v t) : f_X9_shiftsThatFit μ = some (Int32.ofNat (mk 7 (f7 v t))) := by
  unfold f_X9_shiftsThatFit
  refine lpF (fun n (q : Int32 × Int32) => lp_X9_shiftsThatFit_4 μ n q.1 q.2) (fun k => (Int32.ofNat (mk k (f7 v t)), Int32.ofNat k)) 7 _ (fun k hk n => ?_) (fun n => rfl) 4096 (by decide)
  show lp_X9_shiftsThatFit_4 μ (n + 1) (Int32.ofNat (mk k (f7 v t))) (Int32.ofNat k) = lp_X9_shiftsThatFit_4 μ n (Int32.ofNat (mk (k + 1) (f7 v t))) (Int32.ofNat (k + 1))
  rw [lp_X9_shiftsThatFit_4, i_7, if_neg (by rw [on_le (by decide) (by omega)]; omega), c_fit7 T hk, show f_X9_withMember (Int32.ofNat (mk k (f7 v t))) (Int32.ofNat k) (bI (ftB (p7 k) v (t / 2))) = _ from wm_mk (by omega) (f7 v t) _ rfl]
  simp only [bs_q]
  rw [i_1, on_a]
theorem r_fit7 {μ : Mem} {v : Nat → Nat} {t : Nat} (t1 : t ≤ 400) (t4 : ∀ i, i < t → μ 0 17 i = Int32.ofNat (v i) ∧ v i ≤ 255) (ev : t % 2 = 0) {s : Nat} (hs : s < 7) (K : Int32 → Option Int32) : lp_X10_shiftsBy_16 (Int32.ofNat t) μ (Int32.ofNat s) K 4096 1 0 = K (bI (ftB (p7 s) v (t / 2))) := by
  have mono : ∀ d k, ftB (p7 s) v k = false → ftB (p7 s) v (k + d) = false := by
    intro d
    induction d with
    | zero => intro k h; exact h
    | succ d ih =>
      intro k h
      show (ftB (p7 s) v (k + d) && _) = false
      rw [ih k h]
      rfl
  refine lpP (fun n (q : Int32 × Int32) => lp_X10_shiftsBy_16 (Int32.ofNat t) μ (Int32.ofNat s) K n q.1 q.2) (fun o => o = K (bI (ftB (p7 s) v (t / 2)))) (fun k q => q = (bI (ftB (p7 s) v k), Int32.ofNat (2 * k))) (t / 2) ?_ 4096 (1, 0) (by omega) rfl
  rintro k q hk rfl n
  show lp_X10_shiftsBy_16 (Int32.ofNat t) μ (Int32.ofNat s) K (n + 1) (bI (ftB (p7 s) v k)) (Int32.ofNat (2 * k)) = _ ∨ _ ∧ ∃ s', _ ∧ lp_X10_shiftsBy_16 (Int32.ofNat t) μ (Int32.ofNat s) K (n + 1) (bI (ftB (p7 s) v k)) (Int32.ofNat (2 * k)) = _
  rw [lp_X10_shiftsBy_16, il_le (by omega) (by omega), i_0, ite_b0]
  by_cases h1 : t ≤ 2 * k
  · left
    rw [if_pos h1, show k = t / 2 by omega]
  · rw [if_neg h1]
    cases h2 : ftB (p7 s) v k with
    | false =>
      left
      have := mono (t / 2 - k) k h2
      rw [show k + (t / 2 - k) = t / 2 by omega] at this
      rw [if_neg (by decide), this]
    | true =>
      right
      have v1 := (t4 (2 * k) (by omega)).2
      have v2 := (t4 (2 * k + 1) (by omega)).2
      refine ⟨by omega, _, rfl, ?_⟩
      show _ = lp_X10_shiftsBy_16 (Int32.ofNat t) μ (Int32.ofNat s) K n (bI (ftB (p7 s) v k && (p7 s (v (2 * k)) == decide (v (2 * k + 1) = 1)))) (Int32.ofNat (2 * (k + 1)))
      rw [if_pos rfl, ix_on (by omega) (by decide), i_1, on_a, on_t (by omega), on_t (by omega), (t4 (2 * k) (by omega)).1, (t4 (2 * k + 1) (by omega)).1, on_a, i_7, on_r (by omega) (by decide), i_2, on_a, show 2 * k + 2 = 2 * (k + 1) by omega]
      simp only [nm_q]
      have e1 : (Int32.ofNat ((v (2 * k) + s) % 7) = 6) = (p7 s (v (2 * k)) = true) := by
        rw [i_6, on_eq (by omega) (by decide)]
        unfold p7
        rw [decide_eq_true_eq]
      have e2 : (Int32.ofNat (v (2 * k + 1)) = Int32.ofNat 1) = (decide (v (2 * k + 1) = 1) = true) := by
        rw [on_eq (by omega) (by decide), decide_eq_true_eq]
      have ei : ∀ E : Option Int32, ix (Int32.ofNat (2 * k + 1)) 400 E = E := fun E => ix_on (by omega) (by decide)
      rw [h2]
      simp only [e1, e2, ei]
      generalize p7 s (v (2 * k)) = b1
      generalize decide (v (2 * k + 1) = 1) = b2
      cases b1 <;> cases b2 <;> rfl
theorem r_shifts {μ : Mem} {v : Nat → Nat} {t : Nat} (t1 : t ≤ 400) (t4 : ∀ i, i < t → μ 0 17 i = Int32.ofNat (v i) ∧ v i ≤ 255) (ev : t % 2 = 0) : f_X10_shiftsBy μ (Int32.ofNat t) = some (Int32.ofNat (mk 7 (f7 v t))) := by
  unfold f_X10_shiftsBy
  refine lpF (fun n (q : Int32 × Int32) => lp_X10_shiftsBy_4 (Int32.ofNat t) μ n q.1 q.2) (fun k => (Int32.ofNat (mk k (f7 v t)), Int32.ofNat k)) 7 _ (fun k hk n => ?_) (fun n => rfl) 4096 (by decide)
  show lp_X10_shiftsBy_4 (Int32.ofNat t) μ (n + 1) (Int32.ofNat (mk k (f7 v t))) (Int32.ofNat k) = lp_X10_shiftsBy_4 (Int32.ofNat t) μ n (Int32.ofNat (mk (k + 1) (f7 v t))) (Int32.ofNat (k + 1))
  rw [lp_X10_shiftsBy_4, i_7, if_neg (by rw [on_le (by decide) (by omega)]; omega), r_fit7 t1 t4 ev hk, i_0, ite_b0, i_1, on_a]
  show (if f7 v t k = true then _ else _) = _
  by_cases h : f7 v t k = true
  · rw [if_pos h, or_mk (by omega) _ h]
  · rw [if_neg h, or_z, or_mk0 _ (by cases hq : f7 v t k; rfl; exact absurd hq h)]
/-- what the tape is when its questions are asked and answered -/
theorem TP.rel {μ μ' : Mem} (R : Rel μ) (h : FrT μ μ') (e1 : μ' 0 1 1 = 0) (e2 : μ' 0 12 8 = 0) : Rel μ' := R.tape h ⟨0, by decide, e1, e2, fun i hi => by omega⟩
theorem q_shifts {μ : Mem} (R : Rel μ) : AgT [(0, 0), (1, 1)] (f_X9_shifts μ) (fun μ' => f_X10_shifts μ') := by
  obtain ⟨v, t, T⟩ := TAP.TP R.2.1
  have T' := T
  obtain ⟨t1, t2, t3, t4⟩ := T'
  have hE : f_X9_shifts μ = if tdB v 6 t = true then some (0, Int32.ofNat (mk 7 (f7 v t)), upm μ 0 1 1 0) else some (1, 0, upm μ 0 1 1 0) := by
    unfold f_X9_shifts
    rw [show (6 : Int32) = Int32.ofNat 6 from rfl, c_told T (by decide)]
    simp only [bs_q, c_shifts T, nm_q]
    cases tdB v 6 t <;> rfl
  have rf : ∀ x : Mem, x 0 12 8 = Int32.ofNat t → (∀ i, i < t → x 0 17 i = μ 0 17 i) → ∃ w τ, f_X10_shifts x = some (w, upm (upm x 0 12 8 0) 0 12 0 τ) ∧ (tdB v 6 t = true → w = Int32.ofNat (mk 7 (f7 v t)) ∧ τ = 0) ∧ (¬ tdB v 6 t = true → τ = 1) := fun x x8 x17 => by
    have h17 : ∀ i, i < t → x 0 17 i = Int32.ofNat (v i) ∧ v i ≤ 255 := fun i hi => by rw [x17 i hi]; exact (t4 i hi).2
    have hh := r_heard (m := 6) t1 x8 h17 (by decide)
    unfold f_X10_shifts
    rw [show (7 : Int32) = Int32.ofNat (6 + 1) from rfl, hh]
    simp only [bs_q, nm_q]
    by_cases htd : tdB v 6 t = true
    · have hev : t % 2 = 0 := by
        unfold tdB at htd
        rw [Bool.and_eq_true, decide_eq_true_eq] at htd
        exact htd.1
      rw [if_pos htd, if_neg (by rw [show (-1 : Int32) = -Int32.ofNat 1 from rfl, on_neg1 (by omega)]; exact id), upm_at, if_pos (by decide), r_shifts t1 (v := v) (fun i hi => by rw [upm_ne (by omega), upm_ne (by omega)]; exact h17 i hi) hev]
      exact ⟨_, 0, rfl, fun _ => ⟨rfl, rfl⟩, fun h => absurd htd h⟩
    · rw [if_neg htd, if_pos rfl, upm_at, if_neg (by decide)]
      exact ⟨0, 1, rfl, fun h => absurd h htd, fun _ => rfl⟩
  by_cases htd : tdB v 6 t = true
  · rw [if_pos htd] at hE
    obtain ⟨w, τ, b1, b2, -⟩ := rf (upm (upm μ 0 1 1 0) 0 22 0 (Int32.ofNat (mk 7 (f7 v t)))) (by rw [upm_ne (by omega), upm_ne (by omega), t3]) (fun i hi => by rw [upm_ne (by omega), upm_ne (by omega)])
    obtain ⟨rfl, rfl⟩ := b2 htd
    refine AgT.ok _ _ (by decide) hE ⟨_, b1, upm_at _ _ _ _ _, by rw [upm_ne (by omega), upm_ne (by omega), upm_at], ?_⟩
    exact TP.rel R (((((FrT.refl μ).upm _ (by decide)).upm _ (by decide)).upm _ (by decide)).upm _ (by decide)) (by rw [upm_ne (by omega), upm_ne (by omega), upm_ne (by omega), upm_at]) (by rw [upm_n3 (by omega), upm_at])
  · rw [if_neg htd] at hE
    refine ⟨1, 1, 0, _, by decide, hE, fun x hx => ?_⟩
    rw [if_neg (by decide)] at hx
    subst hx
    obtain ⟨w, τ, b1, -, b2⟩ := rf (upm μ 0 1 1 0) (by rw [upm_ne (by omega), t3]) (fun i hi => by rw [upm_ne (by omega)])
    obtain rfl := b2 htd
    refine ⟨w, _, b1, upm_at _ _ _ _ _, (fun h => absurd h (by decide)), (by rw [upm_ne (by omega), upm_ne (by omega)]), ?_⟩
    exact TP.rel R ((((FrT.refl μ).upm _ (by decide)).upm _ (by decide)).upm _ (by decide)) (by rw [upm_ne (by omega), upm_ne (by omega), upm_at]) (by rw [upm_n3 (by omega), upm_at])
