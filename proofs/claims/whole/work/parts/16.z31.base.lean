/-! ===== numbers ===== -/
abbrev Row : Type := Nat → Int32
def bI (b : Bool) : Int32 := if b then 1 else 0
theorem on_t {k : Nat} (h : k < 2147483648) : (Int32.ofNat k).toNatClampNeg = k := Int32.toNatClampNeg_ofNat_of_lt h
theorem on_i {k : Nat} (h : k < 2147483648) : (Int32.ofNat k).toInt = (k : Int) := Int32.toInt_ofNat_of_lt h
theorem on_a (a b : Nat) : Int32.ofNat a + Int32.ofNat b = Int32.ofNat (a + b) := (Int32.ofNat_add a b).symm
theorem on_m (a b : Nat) : Int32.ofNat a * Int32.ofNat b = Int32.ofNat (a * b) := (Int32.ofNat_mul a b).symm
theorem on_sb {a b : Nat} (h : b ≤ a) : Int32.ofNat a - Int32.ofNat b = Int32.ofNat (a - b) := (Int32.ofNat_sub a b h).symm
theorem on_le {a b : Nat} (ha : a < 2147483648) (hb : b < 2147483648) : (Int32.ofNat a ≤ Int32.ofNat b) = (a ≤ b) := propext (Int32.ofNat_le_iff_le ha hb)
theorem on_lt {a b : Nat} (ha : a < 2147483648) (hb : b < 2147483648) : (Int32.ofNat a < Int32.ofNat b) = (a < b) := propext (Int32.ofNat_lt_iff_lt ha hb)
theorem on_eq {a b : Nat} (ha : a < 2147483648) (hb : b < 2147483648) : (Int32.ofNat a = Int32.ofNat b) = (a = b) :=
  propext ⟨fun h => by have h2 := congrArg Int32.toNatClampNeg h; rwa [on_t ha, on_t hb] at h2, fun h => h ▸ rfl⟩
theorem le_t {a b : Nat} (h : a ≤ b) (hb : b < 2147483648) : (Int32.ofNat a ≤ Int32.ofNat b) = True := eq_true (by rw [on_le (by omega) hb]; exact h)
theorem le_f {a b : Nat} (h : b < a) (hb : a < 2147483648) : (Int32.ofNat a ≤ Int32.ofNat b) = False := eq_false (by rw [on_le hb (by omega)]; omega)
theorem lt_t {a b : Nat} (h : a < b) (hb : b < 2147483648) : (Int32.ofNat a < Int32.ofNat b) = True := eq_true (by rw [on_lt (by omega) hb]; exact h)
theorem lt_f {a b : Nat} (h : b ≤ a) (hb : a < 2147483648) : (Int32.ofNat a < Int32.ofNat b) = False := eq_false (by rw [on_lt hb (by omega)]; omega)
theorem eq_t {a b : Nat} (h : a = b) : (Int32.ofNat a = Int32.ofNat b) = True := eq_true (by rw [h])
theorem eq_f {a b : Nat} (h : a ≠ b) (ha : a < 2147483648) (hb : b < 2147483648) : (Int32.ofNat a = Int32.ofNat b) = False := eq_false (by rw [on_eq ha hb]; exact h)
theorem il_lt {τ : Type} {a b : Nat} {X Y : τ} (ha : a < 2147483648) (hb : b < 2147483648) : (if Int32.ofNat a < Int32.ofNat b then X else Y) = (if a < b then X else Y) := by simp only [on_lt ha hb]
theorem il_le {τ : Type} {a b : Nat} {X Y : τ} (ha : a < 2147483648) (hb : b < 2147483648) : (if Int32.ofNat a ≤ Int32.ofNat b then X else Y) = (if a ≤ b then X else Y) := by simp only [on_le ha hb]
theorem il_eq {τ : Type} {a b : Nat} {X Y : τ} (ha : a < 2147483648) (hb : b < 2147483648) : (if Int32.ofNat a = Int32.ofNat b then X else Y) = (if a = b then X else Y) := by simp only [on_eq ha hb]
theorem i_0 : (0 : Int32) = Int32.ofNat 0 := rfl
theorem i_1 : (1 : Int32) = Int32.ofNat 1 := rfl
theorem i_2 : (2 : Int32) = Int32.ofNat 2 := rfl
theorem i_3 : (3 : Int32) = Int32.ofNat 3 := rfl
theorem i_4 : (4 : Int32) = Int32.ofNat 4 := rfl
theorem i_5 : (5 : Int32) = Int32.ofNat 5 := rfl
theorem i_6 : (6 : Int32) = Int32.ofNat 6 := rfl
theorem i_7 : (7 : Int32) = Int32.ofNat 7 := rfl
theorem i_8 : (8 : Int32) = Int32.ofNat 8 := rfl
theorem i_9 : (9 : Int32) = Int32.ofNat 9 := rfl
theorem i_10 : (10 : Int32) = Int32.ofNat 10 := rfl
theorem i_11 : (11 : Int32) = Int32.ofNat 11 := rfl
theorem i_12 : (12 : Int32) = Int32.ofNat 12 := rfl
theorem i_13 : (13 : Int32) = Int32.ofNat 13 := rfl
theorem i_14 : (14 : Int32) = Int32.ofNat 14 := rfl
theorem i_15 : (15 : Int32) = Int32.ofNat 15 := rfl
theorem i_16 : (16 : Int32) = Int32.ofNat 16 := rfl
theorem i_18 : (18 : Int32) = Int32.ofNat 18 := rfl
theorem i_20 : (20 : Int32) = Int32.ofNat 20 := rfl
theorem i_22 : (22 : Int32) = Int32.ofNat 22 := rfl
theorem i_24 : (24 : Int32) = Int32.ofNat 24 := rfl
theorem i_30 : (30 : Int32) = Int32.ofNat 30 := rfl
theorem i_31 : (31 : Int32) = Int32.ofNat 31 := rfl
theorem i_32 : (32 : Int32) = Int32.ofNat 32 := rfl
theorem i_40 : (40 : Int32) = Int32.ofNat 40 := rfl
theorem i_48 : (48 : Int32) = Int32.ofNat 48 := rfl
theorem i_50 : (50 : Int32) = Int32.ofNat 50 := rfl
theorem i_51 : (51 : Int32) = Int32.ofNat 51 := rfl
theorem i_52 : (52 : Int32) = Int32.ofNat 52 := rfl
theorem i_57 : (57 : Int32) = Int32.ofNat 57 := rfl
theorem i_60 : (60 : Int32) = Int32.ofNat 60 := rfl
theorem i_64 : (64 : Int32) = Int32.ofNat 64 := rfl
theorem i_65 : (65 : Int32) = Int32.ofNat 65 := rfl
theorem i_66 : (66 : Int32) = Int32.ofNat 66 := rfl
theorem i_67 : (67 : Int32) = Int32.ofNat 67 := rfl
theorem i_97 : (97 : Int32) = Int32.ofNat 97 := rfl
theorem i_99 : (99 : Int32) = Int32.ofNat 99 := rfl
theorem i_100 : (100 : Int32) = Int32.ofNat 100 := rfl
theorem i_122 : (122 : Int32) = Int32.ofNat 122 := rfl
theorem i_239 : (239 : Int32) = Int32.ofNat 239 := rfl
theorem i_240 : (240 : Int32) = Int32.ofNat 240 := rfl
theorem i_255 : (255 : Int32) = Int32.ofNat 255 := rfl
theorem i_256 : (256 : Int32) = Int32.ofNat 256 := rfl
theorem i_304 : (304 : Int32) = Int32.ofNat 304 := rfl
theorem i_400 : (400 : Int32) = Int32.ofNat 400 := rfl
theorem i_401 : (401 : Int32) = Int32.ofNat 401 := rfl
theorem i_704 : (704 : Int32) = Int32.ofNat 704 := rfl
theorem i_999 : (999 : Int32) = Int32.ofNat 999 := rfl
theorem i_1000 : (1000 : Int32) = Int32.ofNat 1000 := rfl
theorem i_2304 : (2304 : Int32) = Int32.ofNat 2304 := rfl
theorem i_3344 : (3344 : Int32) = Int32.ofNat 3344 := rfl
theorem i_3648 : (3648 : Int32) = Int32.ofNat 3648 := rfl
theorem i_4096 : (4096 : Int32) = Int32.ofNat 4096 := rfl
theorem i_9999 : (9999 : Int32) = Int32.ofNat 9999 := rfl
theorem i_32767 : (32767 : Int32) = Int32.ofNat 32767 := rfl
theorem on_d {a b : Nat} (ha : a < 2147483648) (hb : b < 2147483648) : Int32.ofNat a / Int32.ofNat b = Int32.ofNat (a / b) := (Int32.ofNat_div ha hb).symm
theorem on_r {a b : Nat} (ha : a < 2147483648) (hb : b < 2147483648) : jrem (Int32.ofNat a) (Int32.ofNat b) = Int32.ofNat (a % b) := by
  unfold jrem
  rw [on_d ha hb, on_m, on_sb (Nat.div_mul_le_self a b)]
  congr 1
  have h := Nat.div_add_mod a b
  rw [Nat.mul_comm] at h
  omega
theorem on_min {a b : Nat} (ha : a < 2147483648) (hb : b < 2147483648) : jmin (Int32.ofNat a) (Int32.ofNat b) = Int32.ofNat (min a b) := by
  unfold jmin
  rw [il_lt hb ha, Nat.min_def]
  by_cases h : b < a
  · rw [if_pos h, if_neg (by omega)]
  · rw [if_neg h, if_pos (by omega)]
theorem on_max {a b : Nat} (ha : a < 2147483648) (hb : b < 2147483648) : jmax (Int32.ofNat a) (Int32.ofNat b) = Int32.ofNat (max a b) := by
  unfold jmax
  rw [il_lt ha hb, Nat.max_def]
  by_cases h : a < b
  · rw [if_pos h, if_pos (by omega)]
  · rw [if_neg h]
    by_cases h2 : a ≤ b
    · rw [if_pos h2, show a = b by omega]
    · rw [if_neg h2]
theorem lesser_e (a b : Int32) : f_X10_lesser a b = some (jmin a b) := by
  unfold f_X10_lesser jmin
  by_cases h : b < a
  · rw [if_pos h, if_pos (Int32.le_of_lt h)]
  · rw [if_neg h]
    by_cases h2 : b ≤ a
    · rw [if_pos h2, Int32.le_antisymm h2 (Int32.not_lt.mp h)]
    · rw [if_neg h2]
theorem greater_e (a b : Int32) : f_X10_greater a b = some (jmax a b) := by
  unfold f_X10_greater jmax
  by_cases h : a < b
  · rw [if_pos h, if_pos (Int32.le_of_lt h)]
  · rw [if_neg h]
    by_cases h2 : a ≤ b
    · rw [if_pos h2, Int32.le_antisymm h2 (Int32.not_lt.mp h)]
    · rw [if_neg h2]
theorem nm_q {τ α : Type} (x : α) (k : α → Option τ) : nm x k = k x := by
  have h : nm x k = k x := rfl
  rw [h]
theorem bs_q {τ α : Type} (x : α) (k : α → Option τ) : (some x).bind k = k x := by
  have h : (some x).bind k = k x := rfl
  rw [h]
theorem ix_on {τ : Type} {k n : Nat} {E : Option τ} (h : k < n) (hn : n < 5000) : ix (Int32.ofNat k) n E = E := by
  unfold ix
  rw [on_i (by omega)]
  exact if_pos ⟨by omega, by omega⟩
theorem ite_b0 {τ : Type} {b : Bool} {X Y : τ} : (if bI b = Int32.ofNat 0 then X else Y) = (if b = true then Y else X) := by cases b <;> rfl
theorem ite_b1 {τ : Type} {b : Bool} {X Y : τ} : (if bI b = Int32.ofNat 1 then X else Y) = (if b = true then X else Y) := by cases b <;> rfl
theorem bk_b {τ : Type} {b : Bool} {E : Option τ} : bk (bI b) E = E := by cases b <;> rfl
theorem bI_t : bI true = 1 := rfl
theorem bI_f : bI false = 0 := rfl
theorem bI_inj {a b : Bool} : (bI a = bI b) = (a = b) := by cases a <;> cases b <;> simp [bI]
theorem nat_of {x : Int32} {m : Nat} (h0 : ¬ x < 0) (h1 : x ≤ Int32.ofNat m) (hm : m < 2147483648) : ∃ k, k ≤ m ∧ x = Int32.ofNat k := by
  have h := Int32.not_lt.mp h0
  refine ⟨x.toNatClampNeg, ?_, (Int32.ofNat_toNatClampNeg x h).symm⟩
  have e : x = Int32.ofNat x.toNatClampNeg := (Int32.ofNat_toNatClampNeg x h).symm
  rw [e, on_le (Int32.toNatClampNeg_lt x) hm] at h1
  exact h1
/-! ===== memories ===== -/
theorem upm_at (μ : Mem) (g j i : Nat) (v : Int32) : upm μ g j i v g j i = v := if_pos ⟨rfl, rfl, rfl⟩
theorem upm_ne {μ : Mem} {g j i : Nat} {v : Int32} {a b : Nat} (h : ¬ (a = g ∧ b = j)) : upm μ g j i v a b = μ a b := funext fun _ => if_neg fun q => h ⟨q.1, q.2.1⟩
theorem upm_n3 {μ : Mem} {g j i : Nat} {v : Int32} {a b c : Nat} (h : ¬ (a = g ∧ b = j ∧ c = i)) : upm μ g j i v a b c = μ a b c := if_neg h
theorem upm_ng {μ : Mem} {g j i : Nat} {v : Int32} {a : Nat} (h : a ≠ g) : upm μ g j i v a = μ a := funext fun _ => funext fun _ => if_neg fun q => h q.1
theorem upm_row (μ : Mem) (g j i : Nat) (v : Int32) : upm μ g j i v g j = upd (μ g j) i v := by
  funext c
  simp only [upm, upd, true_and]
theorem upd_at (f : Row) (k : Nat) (x : Int32) : upd f k x k = x := if_pos rfl
theorem upd_ne {f : Row} {k j : Nat} {x : Int32} (h : j ≠ k) : upd f k x j = f j := if_neg h
/-! ===== loops ===== -/
theorem lpF {σ τ : Type} (L : Nat → σ → Option τ) (S : Nat → σ) (N : Nat) (r : Option τ) (hs : ∀ k, k < N → ∀ n, L (n + 1) (S k) = L n (S (k + 1))) (he : ∀ n, L (n + 1) (S N) = r) (F : Nat) (hF : N < F) : L F (S 0) = r := by
  have h : ∀ d k, N - k = d → k ≤ N → ∀ F, d < F → L F (S k) = r := by
    intro d
    induction d with
    | zero =>
      intro k hd hk F hF
      obtain ⟨f, rfl⟩ : ∃ f, F = f + 1 := ⟨F - 1, by omega⟩
      have e : k = N := by omega
      subst e
      exact he f
    | succ d ih =>
      intro k hd hk F hF
      obtain ⟨f, rfl⟩ : ∃ f, F = f + 1 := ⟨F - 1, by omega⟩
      rw [hs k (by omega)]
      exact ih (k + 1) (by omega) (by omega) f (by omega)
  exact h N 0 (by omega) (by omega) F hF
theorem lpP {σ τ : Type} (L : Nat → σ → Option τ) (P : Option τ → Prop) (I : Nat → σ → Prop) (N : Nat) (hs : ∀ k s, k ≤ N → I k s → ∀ n, P (L (n + 1) s) ∨ (k < N ∧ ∃ s', I (k + 1) s' ∧ L (n + 1) s = L n s')) (F : Nat) (s : σ) (hF : N < F) (h0 : I 0 s) : P (L F s) := by
  have h : ∀ d k, N - k = d → k ≤ N → ∀ F s, d < F → I k s → P (L F s) := by
    intro d
    induction d with
    | zero =>
      intro k hd hk F s hF hI
      obtain ⟨f, rfl⟩ : ∃ f, F = f + 1 := ⟨F - 1, by omega⟩
      rcases hs k s hk hI f with h | ⟨h, -⟩
      · exact h
      · omega
    | succ d ih =>
      intro k hd hk F s hF hI
      obtain ⟨f, rfl⟩ : ∃ f, F = f + 1 := ⟨F - 1, by omega⟩
      rcases hs k s hk hI f with h | ⟨h, s', hI', e⟩
      · exact h
      · rw [e]
        exact ih (k + 1) (by omega) (by omega) f s' (by omega) hI'
  exact h N 0 (by omega) (by omega) F s hF h0
theorem lpJ {σ τ σ' τ' : Type} (L : Nat → σ → Option τ) (L' : Nat → σ' → Option τ') (P : Option τ → Option τ' → Prop) (I : Nat → σ → σ' → Prop) (N : Nat) (hs : ∀ k s s', k ≤ N → I k s s' → ∀ n n', P (L (n + 1) s) (L' (n' + 1) s') ∨ (k < N ∧ ∃ t t', I (k + 1) t t' ∧ L (n + 1) s = L n t ∧ L' (n' + 1) s' = L' n' t')) (F F' : Nat) (s : σ) (s' : σ') (hF : N < F) (hF' : N < F') (h0 : I 0 s s') : P (L F s) (L' F' s') := by
  have h : ∀ d k, N - k = d → k ≤ N → ∀ F F' s s', d < F → d < F' → I k s s' → P (L F s) (L' F' s') := by
    intro d
    induction d with
    | zero =>
      intro k hd hk F F' s s' hF hF' hI
      obtain ⟨f, rfl⟩ : ∃ f, F = f + 1 := ⟨F - 1, by omega⟩
      obtain ⟨f', rfl⟩ : ∃ f, F' = f + 1 := ⟨F' - 1, by omega⟩
      rcases hs k s s' hk hI f f' with h | ⟨h, -⟩
      · exact h
      · omega
    | succ d ih =>
      intro k hd hk F F' s s' hF hF' hI
      obtain ⟨f, rfl⟩ : ∃ f, F = f + 1 := ⟨F - 1, by omega⟩
      obtain ⟨f', rfl⟩ : ∃ f, F' = f + 1 := ⟨F' - 1, by omega⟩
      rcases hs k s s' hk hI f f' with h | ⟨h, t, t', hI', e, e'⟩
      · exact h
      · rw [e, e']
        exact ih (k + 1) (by omega) (by omega) f f' t t' (by omega) (by omega) hI'
  exact h N 0 (by omega) (by omega) F F' s s' hF hF' h0
/-! ===== sets ===== -/
def mk : Nat → (Nat → Bool) → Nat
  | 0, _ => 0
  | n + 1, p => mk n p ||| (if p n = true then 2 ^ n else 0)
theorem mk_s (n : Nat) (p : Nat → Bool) : mk (n + 1) p = mk n p ||| (if p n = true then 2 ^ n else 0) := rfl
theorem mk_tb (n : Nat) (p : Nat → Bool) (k : Nat) : (mk n p).testBit k = (decide (k < n) && p k) := by
  induction n with
  | zero => simp [mk]
  | succ n ih =>
    rw [mk_s, Nat.testBit_or, ih]
    by_cases hk : k = n
    · subst hk
      cases hp : p k <;> simp [Nat.testBit_two_pow]
    · cases hp : p n
      · simp only [Bool.false_eq_true, ↓reduceIte, Nat.zero_testBit, Bool.or_false]
        congr 1
        exact decide_eq_decide.mpr (by omega)
      · simp only [↓reduceIte, Nat.testBit_two_pow]
        rw [decide_eq_false (show ¬ n = k from fun h => hk h.symm), Bool.or_false]
        congr 1
        exact decide_eq_decide.mpr (by omega)
theorem mk_lt (n : Nat) (p : Nat → Bool) : mk n p < 2 ^ n := by
  induction n with
  | zero => simp [mk]
  | succ n ih =>
    rw [mk_s]
    apply Nat.or_lt_two_pow
    · exact Nat.lt_trans ih (Nat.pow_lt_pow_right (by omega) (by omega))
    · split
      · exact Nat.pow_lt_pow_right (by omega) (by omega)
      · exact Nat.two_pow_pos _
theorem mk_256 {n : Nat} (p : Nat → Bool) (h : n ≤ 8) : mk n p < 256 := Nat.lt_of_lt_of_le (mk_lt n p) (Nat.pow_le_pow_right (by omega) h)
theorem mk_ext {n m : Nat} {p q : Nat → Bool} (h : ∀ k, (decide (k < n) && p k) = (decide (k < m) && q k)) : mk n p = mk m q := Nat.eq_of_testBit_eq fun k => by rw [mk_tb, mk_tb, h]
theorem mk_cg {n : Nat} {p q : Nat → Bool} (h : ∀ k, k < n → p k = q k) : mk n p = mk n q := mk_ext fun k => by
  by_cases hk : k < n
  · rw [h k hk]
  · simp [hk]
theorem mk_of {a : Nat} (h : a < 256) : a = mk 8 a.testBit := Nat.eq_of_testBit_eq fun k => by
  rw [mk_tb]
  by_cases hk : k < 8
  · simp [hk]
  · simp only [hk, decide_false, Bool.false_and]
    exact Nat.testBit_lt_two_pow (Nat.lt_of_lt_of_le h (Nat.pow_le_pow_right (n := 2) (by omega) (show 8 ≤ k by omega)))
def stb (a k : Nat) (b : Bool) : Nat := if b = true then a ||| 2 ^ k else a &&& (255 ^^^ 2 ^ k)
def pc (a : Nat) : Nat := ((List.range 8).filter a.testBit).length
set_option maxRecDepth 100000 in
theorem hold_b : ∀ a, a < 256 → ∀ k, k < 8 → f_X9_holds (Int32.ofNat a) (Int32.ofNat k) = some (bI (a.testBit k)) := by decide +kernel
set_option maxRecDepth 100000 in
theorem isOf_b : ∀ a, a < 256 → ∀ k, k < 8 → f_X10_isOf (Int32.ofNat a) (Int32.ofNat k) = some (bI (a.testBit k)) := by decide +kernel
set_option maxRecDepth 100000 in
theorem wm_b : ∀ a, a < 256 → ∀ k, k < 8 → ∀ b : Bool, f_X9_withMember (Int32.ofNat a) (Int32.ofNat k) (bI b) = some (Int32.ofNat (stb a k b)) := by decide +kernel
set_option maxRecDepth 100000 in
theorem or_b : ∀ a, a < 256 → ∀ k, k < 8 → Int32.ofNat a ||| jshl (Int32.ofNat 1) (Int32.ofNat k) = Int32.ofNat (a ||| 2 ^ k) := by decide +kernel
set_option maxRecDepth 100000 in
theorem bc_b : ∀ a, a < 256 → f_J6_bitCount_0f7a4 (Int32.ofNat a) = some (Int32.ofNat (pc a)) := by decide +kernel
set_option maxRecDepth 100000 in
theorem bits_b : ∀ a, a < 256 → f_X10_bits (Int32.ofNat a) = some (Int32.ofNat (pc a)) := by decide +kernel
theorem shl_b : ∀ k, k < 8 → jshl (Int32.ofNat 1) (Int32.ofNat k) = Int32.ofNat (2 ^ k) := by decide +kernel
theorem pc_le (a : Nat) : pc a ≤ 8 := Nat.le_trans (List.length_filter_le _ _) (by rw [List.length_range]; exact Nat.le_refl _)
theorem pow_256 {k : Nat} (h : k < 8) : 2 ^ k < 256 := Nat.pow_lt_pow_right (a := 2) (m := k) (n := 8) (by omega) h
theorem or_256 {a b : Nat} (ha : a < 256) (hb : b < 256) : a ||| b < 256 := Nat.or_lt_two_pow (n := 8) ha hb
theorem stb_256 {a k : Nat} {b : Bool} (ha : a < 256) (hk : k < 8) : stb a k b < 256 := by
  unfold stb
  split
  · exact or_256 ha (pow_256 hk)
  · exact Nat.lt_of_le_of_lt Nat.and_le_left ha
theorem stb_tb {a k : Nat} {b : Bool} (ha : a < 256) (hk : k < 8) (j : Nat) : (stb a k b).testBit j = if j = k then b else a.testBit j := by
  unfold stb
  cases b
  · simp only [Bool.false_eq_true, ↓reduceIte, Nat.testBit_and, Nat.testBit_xor, Nat.testBit_two_pow]
    by_cases hj : j = k
    · subst hj
      have h8 : ∀ j, j < 8 → (255 : Nat).testBit j = true := by decide
      simp [h8 j hk]
    · rw [if_neg hj, decide_eq_false (fun h => hj h.symm), Bool.xor_false]
      by_cases h8 : j < 8
      · have h8' : ∀ j, j < 8 → (255 : Nat).testBit j = true := by decide
        rw [h8' j h8, Bool.and_true]
      · rw [Nat.testBit_lt_two_pow (Nat.lt_of_lt_of_le ha (Nat.pow_le_pow_right (n := 2) (by omega) (show 8 ≤ j by omega))), Bool.false_and]
  · simp only [↓reduceIte, Nat.testBit_or, Nat.testBit_two_pow]
    by_cases hj : j = k
    · subst hj
      simp
    · rw [if_neg hj, decide_eq_false (fun h => hj h.symm), Bool.or_false]
theorem tb_big {a : Nat} (ha : a < 256) {j : Nat} (hj : ¬ j < 8) : a.testBit j = false := Nat.testBit_lt_two_pow (Nat.lt_of_lt_of_le ha (Nat.pow_le_pow_right (n := 2) (by omega) (show 8 ≤ j by omega)))
theorem stb_mk {k : Nat} (hk : k < 8) (p : Nat → Bool) : stb (mk k p) k (p k) = mk (k + 1) p := Nat.eq_of_testBit_eq fun j => by
  rw [stb_tb (mk_256 p (by omega)) hk, mk_tb, mk_tb]
  by_cases hj : j = k
  · subst hj
    simp
  · rw [if_neg hj]
    congr 1
    exact decide_eq_decide.mpr (by omega)
theorem wm_mk {k : Nat} (hk : k < 8) (p : Nat → Bool) (b : Bool) (hb : b = p k) : f_X9_withMember (Int32.ofNat (mk k p)) (Int32.ofNat k) (bI b) = some (Int32.ofNat (mk (k + 1) p)) := by
  rw [wm_b _ (mk_256 p (by omega)) k hk, hb, stb_mk hk]
theorem or_mk {k : Nat} (hk : k < 8) (p : Nat → Bool) (hp : p k = true) : Int32.ofNat (mk k p) ||| jshl (Int32.ofNat 1) (Int32.ofNat k) = Int32.ofNat (mk (k + 1) p) := by
  rw [or_b _ (mk_256 p (by omega)) k hk, mk_s, if_pos hp]
theorem or_mk0 {k : Nat} (p : Nat → Bool) (hp : p k = false) : mk k p = mk (k + 1) p := by
  rw [mk_s, if_neg (by simp [hp]), Nat.or_zero]
theorem or_z (x : Int32) : x ||| Int32.ofNat 0 = x := Int32.or_zero
theorem add_z (x : Int32) : x + Int32.ofNat 0 = x := Int32.add_zero x
theorem pc_mk (n : Nat) (p : Nat → Bool) (h : n ≤ 8) : pc (mk n p) = ((List.range n).filter p).length := by
  have e : pc (mk n p) = ((List.range 8).filter (fun k => decide (k < n) && p k)).length := by
    unfold pc
    congr 1
    exact List.filter_congr fun k _ => mk_tb n p k
  rw [e]
  have h9 : ∀ n, n ≤ 8 → (List.range 8).filter (fun k => decide (k < n)) = List.range n := by decide
  rw [← h9 n h, List.filter_filter]
  congr 1
  exact List.filter_congr fun k _ => Bool.and_comm _ _
