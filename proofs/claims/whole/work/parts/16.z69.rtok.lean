/-! ===== texts: the reference's words ===== -/
def LT (μ : Mem) (b : Nat → Nat) (t : Nat) : Prop := t ≤ 400 ∧ μ 0 12 10 = Int32.ofNat t ∧ ((μ 0 12 9 = -1 ∧ ∀ i, i < t → μ 0 17 i = Int32.ofNat (b i)) ∨ (μ 0 12 9 = Int32.ofNat 304 ∧ ∀ i, i < t → μ 0 13 (304 + i) = Int32.ofNat (b i))) ∧ ∀ i, i < t → b i ≤ 255
theorem r_letter {μ : Mem} {b : Nat → Nat} {t : Nat} (T : LT μ b t) {i : Nat} (hi : i < t) : f_X10_letter μ (Int32.ofNat i) = some (Int32.ofNat (b i)) := by
  obtain ⟨t1, t2, t3, t4⟩ := T
  unfold f_X10_letter
  rcases t3 with ⟨h1, h2⟩ | ⟨h1, h2⟩
  · rw [if_pos h1, ix_on (by omega) (by decide), on_t (by omega), h2 i hi]
  · rw [h1, if_neg (by decide), on_a, ix_on (by omega) (by decide), on_t (by omega), h2 i hi]
theorem LT.cg {μ μ' : Mem} {b : Nat → Nat} {t : Nat} (T : LT μ b t) (h1 : μ' 0 12 10 = μ 0 12 10) (h2 : μ' 0 12 9 = μ 0 12 9) (h3 : μ' 0 17 = μ 0 17) (h4 : ∀ i, 304 ≤ i → μ' 0 13 i = μ 0 13 i) : LT μ' b t := by
  obtain ⟨t1, t2, t3, t4⟩ := T
  refine ⟨t1, by rw [h1, t2], ?_, t4⟩
  rw [h2, h3]
  rcases t3 with ⟨q1, q2⟩ | ⟨q1, q2⟩
  · exact .inl ⟨q1, q2⟩
  · exact .inr ⟨q1, fun i hi => by rw [h4 _ (by omega)]; exact q2 i hi⟩
theorem LT.upm {μ : Mem} {b : Nat → Nat} {t : Nat} (T : LT μ b t) {j i : Nat} (v : Int32) (h : j = 12 ∧ i ≠ 9 ∧ i ≠ 10 ∨ j = 13 ∧ i < 304) : LT (upm μ 0 j i v) b t := by
  refine T.cg ?_ ?_ ?_ fun k hk => ?_
  · rw [upm_n3 (by omega)]
  · rw [upm_n3 (by omega)]
  · rw [upm_ne (by omega)]
  · rw [upm_n3 (by omega)]
theorem upm_id {μ : Mem} {g j i : Nat} {v : Int32} (h : μ g j i = v) : upm μ g j i v = μ := by
  subst h
  funext a b c
  by_cases h : a = g ∧ b = j ∧ c = i
  · obtain ⟨rfl, rfl, rfl⟩ := h
    rw [upm_at]
  · rw [upm_n3 h]
theorem upm_2 (μ : Mem) (g j i : Nat) (v w : Int32) : upm (upm μ g j i v) g j i w = upm μ g j i w := by
  funext a b c
  by_cases h : a = g ∧ b = j ∧ c = i
  · obtain ⟨rfl, rfl, rfl⟩ := h
    rw [upm_at, upm_at]
  · rw [upm_n3 h, upm_n3 h, upm_n3 h]
theorem r_skip {μ : Mem} {b : Nat → Nat} {t : Nat} (T : LT μ b t) {p : Nat} (hp : p ≤ t) (ep : μ 0 12 11 = Int32.ofNat p) : f_X10_skip μ = some (upm μ 0 12 11 (Int32.ofNat (skp b t p))) := by
  have T' := T
  obtain ⟨t1, t2, t3, t4⟩ := T'
  unfold f_X10_skip
  have gen : ∀ e i n, i + e = t → e < n → lp_X10_skip_0 n (upm μ 0 12 11 (Int32.ofNat i)) = some (upm μ 0 12 11 (Int32.ofNat (run isB b e i))) := by
    intro e
    induction e with
    | zero =>
      intro i n hi hn
      obtain ⟨m, rfl⟩ : ∃ m, n = m + 1 := ⟨n - 1, by omega⟩
      rw [lp_X10_skip_0, upm_n3 (by omega), t2, upm_at, if_pos (by rw [on_le (by omega) (by omega)]; omega)]
      rfl
    | succ e ih =>
      intro i n hi hn
      obtain ⟨m, rfl⟩ : ∃ m, n = m + 1 := ⟨n - 1, by omega⟩
      rw [lp_X10_skip_0, upm_n3 (by omega), t2, upm_at, if_neg (by rw [on_le (by omega) (by omega)]; omega), r_letter (T.upm _ (by omega)) (by omega)]
      simp only [bs_q]
      have hb := t4 i (by omega)
      rw [i_32, il_eq (by omega) (by decide)]
      show _ = some (upm μ 0 12 11 (Int32.ofNat (if isB (b i) = true then run isB b e (i + 1) else i)))
      by_cases h : b i = 32
      · rw [if_pos h, if_pos (by unfold isB; rw [decide_eq_true h]), nm_q, upm_2, i_1, on_a]
        exact ih (i + 1) m (by omega) (by omega)
      · rw [if_neg h, if_neg (by unfold isB; rw [decide_eq_false h]; decide)]
  have := gen (t - p) p 4096 (by omega) (by omega)
  rwa [upm_id ep] at this
theorem r_skip_far {μ : Mem} {b : Nat → Nat} {t : Nat} (T : LT μ b t) {p : Nat} (hp : t ≤ p) (hp2 : p < 1000) (ep : μ 0 12 11 = Int32.ofNat p) : f_X10_skip μ = some μ := by
  obtain ⟨t1, t2, t3, t4⟩ := T
  unfold f_X10_skip
  show lp_X10_skip_0 (4095 + 1) μ = _
  rw [lp_X10_skip_0, t2, ep, if_pos (by rw [on_le (by omega) (by omega)]; omega)]
/-- class's word number of the reference's words -/
def cwd (a : Nat) : Nat := [10, 11, 12, 15, 7, 8, 0, 1, 2, 3, 4, 5, 6, 14, 13, 9, 16, 17, 18, 19, 20, 21, 22, 23].getD (a - 44) 0
theorem cwd_s : ∀ a, a < 68 → 43 < a → strB.getD a [] = strB.getD (cwd a) [] ∧ cwd a < 24 := by decide +kernel
theorem w_inj : ∀ a, a < 24 → ∀ c, c < 24 → wl a = wl c → (∀ k, k < 7 → k < wl a → wch a k = wch c k) → a = c := by decide +kernel
theorem isp_all {b : Nat → Nat} {s a : Nat} : ∀ k, isp b s a k = true → ∀ j, j < k → Int32.ofNat (b (s + j)) = wch a j := by
  intro k
  induction k with
  | zero => intro _ j hj; omega
  | succ k ih =>
    intro h j hj
    have h2 : (isp b s a k && decide (Int32.ofNat (b (s + k)) = wch a k)) = true := h
    rw [Bool.and_eq_true, decide_eq_true_eq] at h2
    by_cases e : j = k
    · rw [e]
      exact h2.2
    · exact ih h2.1 j (by omega)
theorem isw_inj {b : Nat → Nat} {s e a c : Nat} (ha : a < 24) (hc : c < 24) (h1 : isw b s e a = true) (h2 : isw b s e c = true) : a = c := by
  unfold isw at h1 h2
  rw [Bool.and_eq_true, decide_eq_true_eq] at h1 h2
  refine w_inj a ha c hc (h1.1.symm.trans h2.1) fun k _ hk => ?_
  rw [← isp_all _ h1.2 k hk, ← isp_all _ h2.2 k (by omega)]
theorem wcd_inj {a c : Nat} (h : wcd a = wcd c) : a = c := by
  unfold wcd at h
  split at h <;> split at h <;> omega
theorem wk_iff {b : Nat → Nat} {s e a : Nat} (ha : a < 24) : wk b s e 24 0 = wcd a ↔ isw b s e a = true := by
  have gen : ∀ f c, f + c = 24 → (∀ j, j < c → isw b s e j = false) → (wk b s e f c = wcd a ↔ isw b s e a = true) := by
    intro f
    induction f with
    | zero =>
      intro c hc h
      constructor
      · intro h1
        have h2 : 1 = wcd a := h1
        unfold wcd at h2
        split at h2 <;> omega
      · intro h1
        rw [h a (by omega)] at h1
        cases h1
    | succ f ih =>
      intro c hc h
      show (if isw b s e c = true then wcd c else wk b s e f (c + 1)) = wcd a ↔ _
      by_cases h1 : isw b s e c = true
      · rw [if_pos h1]
        constructor
        · intro h2
          rw [← wcd_inj h2]
          exact h1
        · intro h2
          rw [isw_inj (by omega) ha h1 h2]
      · rw [if_neg h1]
        refine ih (c + 1) (by omega) fun j hj => ?_
        by_cases h2 : j = c
        · rw [h2]
          cases hq : isw b s e c
          · rfl
          · exact absurd hq h1
        · exact h j (by omega)
  exact gen 24 0 rfl fun j hj => by omega
theorem kd_word {b : Nat → Nat} {t s a : Nat} (ha : a < 24) : kd b t s = wcd a ↔ s < t ∧ isL (b s) = true ∧ isw b s (en b t s) a = true := by
  have hw : 10 ≤ wcd a := by
    unfold wcd
    split <;> omega
  unfold kd
  by_cases h1 : t ≤ s
  · rw [if_pos h1]
    constructor
    · intro h; omega
    · intro h; omega
  · rw [if_neg h1]
    by_cases h2 : isL (b s) = true
    · rw [if_pos h2, wk_iff ha]
      exact ⟨fun h => ⟨by omega, h2, h⟩, fun h => h.2.2⟩
    · rw [if_neg h2]
      constructor
      · intro h
        exfalso
        revert h
        split
        · split <;> omega
        · unfold sg
          split
          · omega
          · split
            · omega
            · split
              · omega
              · split
                · omega
                · split
                  · omega
                  · split <;> omega
      · intro h
        exact absurd h.2.1 h2
theorem w_sub {a : Nat} (ha : a < 68) (h : 43 < a) : wl a = wl (cwd a) ∧ ∀ k, wch a k = wch (cwd a) k := by
  have e := (cwd_s a ha h).1
  refine ⟨?_, fun k => ?_⟩
  · unfold wl
    rw [e]
  · unfold wch
    rw [e]
theorem isw_sub {b : Nat → Nat} {s e a : Nat} (ha : a < 68) (h : 43 < a) : isw b s e a = isw b s e (cwd a) := by
  obtain ⟨h1, h2⟩ := w_sub ha h
  have : ∀ k, isp b s a k = isp b s (cwd a) k := by
    intro k
    induction k with
    | zero => rfl
    | succ k ih =>
      show (isp b s a k && decide (Int32.ofNat (b (s + k)) = wch a k)) = (isp b s (cwd a) k && decide (Int32.ofNat (b (s + k)) = wch (cwd a) k))
      rw [ih, h2]
  unfold isw
  rw [h1, this]
set_option maxHeartbeats 2000000 in
theorem r_has {μ : Mem} {b : Nat → Nat} {t : Nat} (T : LT μ b t) {p a : Nat} (hp : p ≤ t) (ep : μ 0 12 11 = Int32.ofNat p) (ha : a < 68) (ha2 : 43 < a) : f_X10_has a μ = some (bI (decide (kd b t (skp b t p) = wcd (cwd a))), upm μ 0 12 11 (Int32.ofNat (if kd b t (skp b t p) = wcd (cwd a) then en b t (skp b t p) else skp b t p))) := by
  have T' := T
  obtain ⟨t1, t2, t3, t4⟩ := T'
  obtain ⟨s, hs⟩ : ∃ s, s = skp b t p := ⟨_, rfl⟩
  have hsb := skp_b (b := b) hp
  have hw := w_b a ha (.inr ha2)
  have hcw := (cwd_s a ha ha2).2
  rw [← hs] at hsb ⊢
  unfold f_X10_has
  rw [r_skip T hp ep, ← hs]
  simp only [bs_q]
  have TS : LT (upm μ 0 12 11 (Int32.ofNat s)) b t := T.upm _ (by omega)
  have eS : (upm μ 0 12 11 (Int32.ofNat s)) 0 12 11 = Int32.ofNat s := upm_at _ _ _ _ _
  have e10 : (upm μ 0 12 11 (Int32.ofNat s)) 0 12 10 = Int32.ofNat t := by rw [upm_n3 (by omega), t2]
  have hrun := run_b isL b (t - s) s
  have lp9 : ∀ K : Int32 → Option (Int32 × Mem), lp_X10_has_9 (upm μ 0 12 11 (Int32.ofNat s)) K 4096 (Int32.ofNat s) = K (Int32.ofNat (run isL b (t - s) s)) := fun K => by
    refine run_lp (fun n x => lp_X10_has_9 (upm μ 0 12 11 (Int32.ofNat s)) K n x) K isL b t t1 (fun n i hi => ?_) (fun n => ?_) (t - s) s 4096 (by omega) (by omega)
    · show lp_X10_has_9 _ K (n + 1) (Int32.ofNat i) = if isL (b i) = true then lp_X10_has_9 _ K n (Int32.ofNat (i + 1)) else K (Int32.ofNat i)
      have hb := t4 i hi
      rw [lp_X10_has_9, e10, if_neg (by rw [on_le (by omega) (by omega)]; omega), r_letter TS hi]
      simp only [bs_q]
      rw [i_97, i_122, r_isIn (by omega) (by decide) (by decide)]
      simp only [bs_q]
      rw [ite_z, i_1, on_a]
      rfl
    · show lp_X10_has_9 _ K (n + 1) (Int32.ofNat t) = K (Int32.ofNat t)
      rw [lp_X10_has_9, e10, if_pos (by rw [on_le (by omega) (by omega)]; omega)]
  rw [eS, lp9, w_len a ha]
  simp only [bs_q]
  rw [on_sb (by omega), il_eq (by omega) (by omega)]
  by_cases hL : s < t ∧ isL (b s) = true
  · have hen : run isL b (t - s) s = en b t s := by
      unfold en
      rw [if_pos hL.2, show t - s = t - (s + 1) + 1 by omega]
      show (if isL (b s) = true then run isL b (t - (s + 1)) (s + 1) else s) = _
      rw [if_pos hL.2]
    rw [hen] at hrun ⊢
    have hk : (kd b t s = wcd (cwd a)) = (isw b s (en b t s) a = true) := by
      rw [isw_sub ha ha2]
      exact propext ⟨fun h => ((kd_word hcw).mp h).2.2, fun h => (kd_word hcw).mpr ⟨hL.1, hL.2, h⟩⟩
    have mono : ∀ d k, isp b s a k = false → isp b s a (k + d) = false := by
      intro d
      induction d with
      | zero => intro k h; exact h
      | succ d ih =>
        intro k h
        show (isp b s a (k + d) && _) = false
        rw [ih k h]
        rfl
    by_cases h1 : en b t s - s = wl a
    · rw [if_pos h1]
      have hi2 : isw b s (en b t s) a = isp b s a (wl a) := by
        unfold isw
        rw [decide_eq_true h1, Bool.true_and]
      have l55 : ∀ K : Option (Int32 × Mem), lp_X10_has_55 a (upm μ 0 12 11 (Int32.ofNat s)) K 4096 0 = if isp b s a (wl a) = true then K else some (0, upm μ 0 12 11 (Int32.ofNat s)) := fun K => by
        refine lpP (fun n (x : Int32) => lp_X10_has_55 a (upm μ 0 12 11 (Int32.ofNat s)) K n x) (fun o => o = if isp b s a (wl a) = true then K else some (0, upm μ 0 12 11 (Int32.ofNat s))) (fun k x => x = Int32.ofNat k ∧ isp b s a k = true) (wl a) ?_ 4096 0 (by omega) ⟨rfl, rfl⟩
        rintro k x hk ⟨rfl, h2⟩ n
        show lp_X10_has_55 a (upm μ 0 12 11 (Int32.ofNat s)) K (n + 1) (Int32.ofNat k) = _ ∨ _ ∧ ∃ s', _ ∧ lp_X10_has_55 a (upm μ 0 12 11 (Int32.ofNat s)) K (n + 1) (Int32.ofNat k) = lp_X10_has_55 a (upm μ 0 12 11 (Int32.ofNat s)) K n s'
        rw [lp_X10_has_55, w_len a ha]
        simp only [bs_q]
        rw [il_le (by omega) (by omega)]
        by_cases h3 : k = wl a
        · left
          rw [if_pos (by omega), ← h3, if_pos h2]
        · rw [if_neg (by omega), eS, on_a, r_letter TS (by omega), w_ch ha (.inr ha2) _ (by omega)]
          simp only [bs_q]
          by_cases h4 : Int32.ofNat (b (s + k)) = wch a k
          · right
            rw [if_pos h4]
            refine ⟨by omega, _, ⟨rfl, ?_⟩, by rw [i_1, on_a]⟩
            show (isp b s a k && decide (Int32.ofNat (b (s + k)) = wch a k)) = true
            rw [h2, decide_eq_true h4]
            rfl
          · left
            have h5 : isp b s a (k + 1) = false := by
              show (isp b s a k && decide (Int32.ofNat (b (s + k)) = wch a k)) = false
              rw [decide_eq_false h4, Bool.and_false]
            have h6 := mono (wl a - (k + 1)) (k + 1) h5
            rw [show k + 1 + (wl a - (k + 1)) = wl a by omega] at h6
            rw [if_neg h4, h6]
            rfl
      rw [l55, nm_q, upm_2]
      simp only [hk, hi2]
      by_cases h7 : isp b s a (wl a) = true
      · rw [if_pos h7, if_pos h7, decide_eq_true h7]
        rfl
      · rw [if_neg h7, if_neg h7, decide_eq_false h7]
        rfl
    · have hi2 : isw b s (en b t s) a = false := by
        unfold isw
        rw [decide_eq_false h1]
        rfl
      have hne : ¬ kd b t s = wcd (cwd a) := by
        rw [hk, hi2]
        decide
      rw [if_neg h1, if_neg hne, decide_eq_false hne]
      rfl
  · have hen : run isL b (t - s) s = s := by
      by_cases h1 : s < t
      · rw [show t - s = t - (s + 1) + 1 by omega]
        show (if isL (b s) = true then run isL b (t - (s + 1)) (s + 1) else s) = _
        rw [if_neg (fun h => hL ⟨h1, h⟩)]
      · rw [show t - s = 0 by omega]
        rfl
    have hne : ¬ kd b t s = wcd (cwd a) := fun h => by
      obtain ⟨h1, h2, -⟩ := (kd_word hcw).mp h
      exact hL ⟨h1, h2⟩
    rw [hen, Nat.sub_self, if_neg (by omega), if_neg hne, decide_eq_false hne]
    rfl
