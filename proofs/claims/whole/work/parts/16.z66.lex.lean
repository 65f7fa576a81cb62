/-! ===== texts: their words ===== -/
def wl (a : Nat) : Nat := (strB.getD a []).length
def wch (a k : Nat) : Int32 := (strB.getD a []).getD k 0
theorem w_len : ∀ a, a < 68 → f_J0_length_8abf5 a = some (Int32.ofNat (wl a)) := by decide +kernel
theorem w_b : ∀ a, a < 68 → (a < 24 ∨ 43 < a) → wl a ≤ 7 ∧ 2 ≤ wl a := by decide +kernel
theorem w_ch0 : ∀ a, a < 68 → (a < 24 ∨ 43 < a) → ∀ k, k < wl a → f_J0_charAt_5068e a (fun _ _ _ => 0) (Int32.ofNat k) = some (wch a k) := by decide +kernel
theorem w_mu (a : Nat) (μ μ' : Mem) (k : Int32) : f_J0_charAt_5068e a μ k = f_J0_charAt_5068e a μ' k := by
  unfold f_J0_charAt_5068e f_J1_charAt
  by_cases h1 : k < 0
  · rw [if_pos h1]
    rfl
  · rw [if_neg h1]
    by_cases h2 : k < Int32.ofNat (strB.getD a []).length
    · rw [if_pos h2]
      rfl
    · rw [if_neg h2]
      rfl
theorem w_ch {a : Nat} (ha : a < 68) (h : a < 24 ∨ 43 < a) (μ : Mem) {k : Nat} (hk : k < wl a) : f_J0_charAt_5068e a μ (Int32.ofNat k) = some (wch a k) := (w_mu a μ _ _).trans (w_ch0 a ha h k hk)
def isL (c : Nat) : Bool := decide (97 ≤ c) && decide (c ≤ 122)
def isD (c : Nat) : Bool := decide (48 ≤ c) && decide (c ≤ 57)
def run (P : Nat → Bool) (b : Nat → Nat) : Nat → Nat → Nat
  | 0, i => i
  | e + 1, i => if P (b i) = true then run P b e (i + 1) else i
theorem run_b (P : Nat → Bool) (b : Nat → Nat) : ∀ e i, i ≤ run P b e i ∧ run P b e i ≤ i + e := by
  intro e
  induction e with
  | zero => intro i; exact ⟨Nat.le_refl _, Nat.le_refl _⟩
  | succ e ih =>
    intro i
    show i ≤ (if P (b i) = true then run P b e (i + 1) else i) ∧ (if P (b i) = true then run P b e (i + 1) else i) ≤ i + (e + 1)
    have := ih (i + 1)
    split <;> omega
def isB (c : Nat) : Bool := decide (c = 32)
def skp (b : Nat → Nat) (t i : Nat) : Nat := run isB b (t - i) i
def en (b : Nat → Nat) (t s : Nat) : Nat := if isL (b s) = true then run isL b (t - (s + 1)) (s + 1) else if isD (b s) = true then run isD b (t - (s + 1)) (s + 1) else s + 1
theorem en_b {b : Nat → Nat} {t s : Nat} (h : s < t) : s + 1 ≤ en b t s ∧ en b t s ≤ t := by
  have h1 := run_b isL b (t - (s + 1)) (s + 1)
  have h2 := run_b isD b (t - (s + 1)) (s + 1)
  unfold en
  split
  · omega
  · split <;> omega
theorem skp_b {b : Nat → Nat} {t i : Nat} (h : i ≤ t) : i ≤ skp b t i ∧ skp b t i ≤ t := by
  have h1 := run_b isB b (t - i) i
  unfold skp
  omega
theorem skp_t (b : Nat → Nat) (t : Nat) : skp b t t = t := by
  unfold skp
  rw [Nat.sub_self]
  rfl
theorem skp_32 {b : Nat → Nat} {t i : Nat} (h : i < t) (h2 : b i = 32) : skp b t i = skp b t (i + 1) := by
  unfold skp
  rw [show t - i = t - (i + 1) + 1 by omega]
  show (if isB (b i) = true then run isB b (t - (i + 1)) (i + 1) else i) = _
  rw [if_pos (by unfold isB; rw [decide_eq_true h2])]
theorem skp_no {b : Nat → Nat} {t i : Nat} (h : i < t) (h2 : b i ≠ 32) : skp b t i = i := by
  unfold skp
  rw [show t - i = t - (i + 1) + 1 by omega]
  show (if isB (b i) = true then run isB b (t - (i + 1)) (i + 1) else i) = _
  rw [if_neg (by unfold isB; rw [decide_eq_false h2]; decide)]
theorem skp_nb (b : Nat → Nat) (t : Nat) : ∀ e i, i + e = t → skp b t i < t → b (skp b t i) ≠ 32 := by
  intro e
  induction e with
  | zero =>
    intro i hi h
    obtain rfl : i = t := by omega
    rw [skp_t] at h
    omega
  | succ e ih =>
    intro i hi h
    by_cases h2 : b i = 32
    · rw [skp_32 (by omega) h2] at h ⊢
      exact ih (i + 1) (by omega) h
    · rw [skp_no (by omega) h2] at h ⊢
      exact h2
theorem skp_id {b : Nat → Nat} {t i : Nat} (h : i ≤ t) : skp b t (skp b t i) = skp b t i := by
  have hb := skp_b (b := b) h
  by_cases h1 : skp b t i = t
  · rw [h1, skp_t]
  · exact skp_no (by omega) (skp_nb b t (t - i) i (by omega) (by omega))
def isp (b : Nat → Nat) (s a : Nat) : Nat → Bool
  | 0 => true
  | k + 1 => isp b s a k && decide (Int32.ofNat (b (s + k)) = wch a k)
def isw (b : Nat → Nat) (s e a : Nat) : Bool := decide (e - s = wl a) && isp b s a (wl a)
def wcd (a : Nat) : Nat := if a < 9 then 10 + a else 11 + a
/-- the first word that it is -/
def wk (b : Nat → Nat) (s e : Nat) : Nat → Nat → Nat
  | 0, _ => 1
  | f + 1, a => if isw b s e a = true then wcd a else wk b s e f (a + 1)
def sg (c : Nat) : Nat := if c = 40 then 4 else if c = 41 then 5 else if c = 43 then 8 else if c = 59 then 3 else if c = 60 then 6 else if c = 62 then 7 else 1
def kd (b : Nat → Nat) (t s : Nat) : Nat := if t ≤ s then 0 else if isL (b s) = true then wk b s (en b t s) 24 0 else if isD (b s) = true then (if 3 < en b t s - s then 1 else 2) else sg (b s)
def n3 (b : Nat → Nat) (s : Nat) : Nat → Nat
  | 0 => 0
  | k + 1 => n3 b s k * 10 + b (s + k) - 48
def nbv (b : Nat → Nat) (t s : Nat) : Nat := n3 b s (min (en b t s) (s + 3) - s)
def tk (b : Nat → Nat) (t : Nat) : Nat → Nat
  | 0 => skp b t 0
  | n + 1 => skp b t (en b t (tk b t n))
/-- the text as the class has it -/
def CT (μ : Mem) (b : Nat → Nat) (t : Nat) : Prop := t ≤ 400 ∧ μ 0 1 1 = Int32.ofNat t ∧ ∀ i, i < t → μ 0 2 i = Int32.ofNat (b i) ∧ b i ≤ 255
theorem ct_at {μ : Mem} {b : Nat → Nat} {t : Nat} (T : CT μ b t) {i : Nat} (hi : i < t) : f_X7_at μ (Int32.ofNat i) = some (Int32.ofNat (b i)) := by
  obtain ⟨t1, t2, t4⟩ := T
  unfold f_X7_at
  rw [i_0, if_neg (by rw [on_lt (by omega) (by decide)]; omega), t2, if_neg (by rw [on_le (by omega) (by omega)]; omega), i_400, if_neg (by rw [on_le (by omega) (by omega)]; omega), ix_on (by omega) (by decide), on_t (by omega), (t4 i hi).1]
theorem c_isL {c : Nat} (h : c ≤ 255) : f_X8_isLetter (Int32.ofNat c) = some (bI (isL c)) := by
  unfold f_X8_isLetter isL
  rw [i_97, il_lt (by omega) (by decide), i_122, il_lt (by decide) (by omega)]
  by_cases h1 : 97 ≤ c
  · rw [if_neg (by omega), decide_eq_true h1, Bool.true_and]
    by_cases h2 : c ≤ 122
    · rw [if_neg (by omega), decide_eq_true h2]
      rfl
    · rw [if_pos (by omega), decide_eq_false h2]
      rfl
  · rw [if_pos (by omega), decide_eq_false h1]
    rfl
theorem c_isD {c : Nat} (h : c ≤ 255) : f_X8_isDigit (Int32.ofNat c) = some (bI (isD c)) := by
  unfold f_X8_isDigit isD
  rw [i_48, il_lt (by omega) (by decide), i_57, il_lt (by decide) (by omega)]
  by_cases h1 : 48 ≤ c
  · rw [if_neg (by omega), decide_eq_true h1, Bool.true_and]
    by_cases h2 : c ≤ 57
    · rw [if_neg (by omega), decide_eq_true h2]
      rfl
    · rw [if_pos (by omega), decide_eq_false h2]
      rfl
  · rw [if_pos (by omega), decide_eq_false h1]
    rfl
theorem isLD {c : Nat} (h : isL c = true) : isD c = false := by
  unfold isL at h
  unfold isD
  rw [Bool.and_eq_true, decide_eq_true_eq, decide_eq_true_eq] at h
  rw [decide_eq_false (show ¬ c ≤ 57 by omega), Bool.and_false]
/-- a run, read as the class reads it -/
theorem run_lp {τ : Type} (L : Nat → Int32 → Option τ) (K : Int32 → Option τ) (P : Nat → Bool) (b : Nat → Nat) (t : Nat) (ht : t ≤ 400) (h1 : ∀ n i, i < t → L (n + 1) (Int32.ofNat i) = if P (b i) = true then L n (Int32.ofNat (i + 1)) else K (Int32.ofNat i)) (h2 : ∀ n, L (n + 1) (Int32.ofNat t) = K (Int32.ofNat t)) : ∀ e i n, i + e = t → e < n → L n (Int32.ofNat i) = K (Int32.ofNat (run P b e i)) := by
  intro e
  induction e with
  | zero =>
    intro i n hi hn
    obtain ⟨m, rfl⟩ : ∃ m, n = m + 1 := ⟨n - 1, by omega⟩
    obtain rfl : i = t := by omega
    exact h2 m
  | succ e ih =>
    intro i n hi hn
    obtain ⟨m, rfl⟩ : ∃ m, n = m + 1 := ⟨n - 1, by omega⟩
    rw [h1 m i (by omega)]
    show _ = K (Int32.ofNat (if P (b i) = true then run P b e (i + 1) else i))
    by_cases h : P (b i) = true
    · rw [if_pos h, if_pos h]
      exact ih (i + 1) m (by omega) (by omega)
    · rw [if_neg h, if_neg h]
theorem c_endOf {μ : Mem} {b : Nat → Nat} {t : Nat} (T : CT μ b t) {s : Nat} (hs : s < t) : f_X8_endOf μ (Int32.ofNat s) = some (Int32.ofNat (en b t s)) := by
  have T' := T
  obtain ⟨t1, t2, t4⟩ := T'
  have hb := (t4 s hs).2
  unfold f_X8_endOf en
  rw [ct_at T hs]
  simp only [bs_q]
  rw [c_isL hb]
  simp only [bs_q]
  rw [c_isD hb]
  simp only [bs_q]
  rw [i_1, on_a]
  by_cases h1 : isL (b s) = true
  · rw [if_pos h1, h1, isLD h1]
    refine run_lp (fun n x => lp_X8_endOf_23 μ (bI true) (bI false) n x) some isL b t t1 (fun n i hi => ?_) (fun n => ?_) (t - (s + 1)) (s + 1) 4096 (by omega) (by omega)
    · show lp_X8_endOf_23 μ (bI true) (bI false) (n + 1) (Int32.ofNat i) = if isL (b i) = true then lp_X8_endOf_23 μ (bI true) (bI false) n (Int32.ofNat (i + 1)) else some (Int32.ofNat i)
      rw [lp_X8_endOf_23, t2, if_neg (by rw [on_le (by omega) (by omega)]; omega), nm_q, if_neg (show ¬ bI true = 0 by decide), ct_at T hi]
      simp only [bs_q]
      rw [c_isL (t4 i hi).2]
      simp only [bs_q]
      rw [i_0, ite_b0, i_1, on_a, if_pos (show bI false = Int32.ofNat 0 from rfl)]
    · show lp_X8_endOf_23 μ (bI true) (bI false) (n + 1) (Int32.ofNat t) = _
      rw [lp_X8_endOf_23, t2, if_pos (by rw [on_le (by omega) (by omega)]; omega)]
  · have h1' : isL (b s) = false := by cases hq : isL (b s); rfl; exact absurd hq h1
    rw [if_neg h1, h1']
    by_cases h2 : isD (b s) = true
    · rw [if_pos h2, h2]
      refine run_lp (fun n x => lp_X8_endOf_23 μ (bI false) (bI true) n x) some isD b t t1 (fun n i hi => ?_) (fun n => ?_) (t - (s + 1)) (s + 1) 4096 (by omega) (by omega)
      · show lp_X8_endOf_23 μ (bI false) (bI true) (n + 1) (Int32.ofNat i) = if isD (b i) = true then lp_X8_endOf_23 μ (bI false) (bI true) n (Int32.ofNat (i + 1)) else some (Int32.ofNat i)
        rw [lp_X8_endOf_23, t2, if_neg (by rw [on_le (by omega) (by omega)]; omega), nm_q, if_pos (show bI false = 0 from rfl), if_neg (show ¬ bI true = 0 by decide), ct_at T hi]
        simp only [bs_q]
        rw [c_isD (t4 i hi).2]
        simp only [bs_q]
        rw [i_0, ite_b0, i_1, on_a]
      · show lp_X8_endOf_23 μ (bI false) (bI true) (n + 1) (Int32.ofNat t) = _
        rw [lp_X8_endOf_23, t2, if_pos (by rw [on_le (by omega) (by omega)]; omega)]
    · have h2' : isD (b s) = false := by cases hq : isD (b s); rfl; exact absurd hq h2
      rw [if_neg h2, h2']
      show lp_X8_endOf_23 μ (bI false) (bI false) (4095 + 1) (Int32.ofNat (s + 1)) = _
      rw [lp_X8_endOf_23, nm_q, if_pos (show bI false = 0 from rfl), if_pos (show bI false = 0 from rfl)]
      split <;> rfl
theorem c_isWord {μ : Mem} {b : Nat → Nat} {t : Nat} (T : CT μ b t) {s e a : Nat} (ha : a < 24) (hse : s ≤ e) (he : e ≤ t) : f_X8_isWord a μ (Int32.ofNat s) (Int32.ofNat e) = some (bI (isw b s e a)) := by
  have T' := T
  obtain ⟨t1, t2, t4⟩ := T'
  have hw := w_b a (by omega) (by omega)
  have mono : ∀ d k, isp b s a k = false → isp b s a (k + d) = false := by
    intro d
    induction d with
    | zero => intro k h; exact h
    | succ d ih =>
      intro k h
      show (isp b s a (k + d) && _) = false
      rw [ih k h]
      rfl
  unfold f_X8_isWord isw
  rw [w_len a (by omega)]
  simp only [bs_q]
  rw [on_sb hse, il_eq (by omega) (by omega)]
  by_cases h1 : e - s = wl a
  · rw [if_pos h1, decide_eq_true h1, Bool.true_and]
    refine lpP (fun n (x : Int32) => lp_X8_isWord_15 a (Int32.ofNat s) μ n x) (fun o => o = some (bI (isp b s a (wl a)))) (fun k x => x = Int32.ofNat k ∧ isp b s a k = true) (wl a) ?_ 4096 0 (by omega) ⟨rfl, rfl⟩
    rintro k x hk ⟨rfl, h2⟩ n
    show lp_X8_isWord_15 a (Int32.ofNat s) μ (n + 1) (Int32.ofNat k) = _ ∨ _ ∧ ∃ s', _ ∧ lp_X8_isWord_15 a (Int32.ofNat s) μ (n + 1) (Int32.ofNat k) = lp_X8_isWord_15 a (Int32.ofNat s) μ n s'
    rw [lp_X8_isWord_15, w_len a (by omega)]
    simp only [bs_q]
    rw [il_le (by omega) (by omega)]
    by_cases h3 : k = wl a
    · left
      rw [if_pos (by omega), ← h3, h2]
      rfl
    · rw [if_neg (by omega), on_a, ct_at T (by omega), w_ch (by omega) (by omega) μ (by omega)]
      simp only [bs_q]
      by_cases h4 : Int32.ofNat (b (s + k)) = wch a k
      · right
        rw [if_pos h4]
        refine ⟨by omega, _, ⟨rfl, ?_⟩, by rw [i_1, on_a]⟩
        show (isp b s a k && decide (Int32.ofNat (b (s + k)) = wch a k)) = true
        rw [h2, decide_eq_true h4]
        rfl
      · left
        have h5 : isp b s a (k + 1) = false := by
          show (isp b s a k && decide (Int32.ofNat (b (s + k)) = wch a k)) = false
          rw [decide_eq_false h4, Bool.and_false]
        have h6 := mono (wl a - (k + 1)) (k + 1) h5
        rw [show k + 1 + (wl a - (k + 1)) = wl a by omega] at h6
        rw [if_neg h4, h6]
        rfl
  · rw [if_neg h1, decide_eq_false h1]
    rfl
