/-! ===== lodge ===== -/
def nh (r : Row) (k : Nat) : Nat := sm k (fun j => if hrC r j = true then 1 else 0)
theorem nh_t {r : Row} {k : Nat} (h : hrC r k = true) : nh r (k + 1) = nh r k + 1 := by
  show nh r k + (if hrC r k = true then 1 else 0) = _
  rw [if_pos h]
theorem nh_f {r : Row} {k : Nat} (h : ¬ hrC r k = true) : nh r (k + 1) = nh r k := by
  show nh r k + (if hrC r k = true then 1 else 0) = _
  rw [if_neg h]
  rfl
theorem nh_mono {r : Row} {j k : Nat} (h : j ≤ k) : nh r j ≤ nh r k := by
  obtain ⟨d, rfl⟩ : ∃ d, k = j + d := ⟨k - j, by omega⟩
  clear h
  induction d with
  | zero => exact Nat.le_refl _
  | succ d ih =>
    refine Nat.le_trans ih ?_
    show nh r (j + d) ≤ nh r (j + d) + _
    omega
theorem nh_le (r : Row) (k : Nat) : nh r k ≤ k := by
  have := sm_le (n := k) (b := 1) (f := fun j => if hrC r j = true then 1 else 0) fun j _ => by
    show (if hrC r j = true then 1 else 0) ≤ 1
    split <;> omega
  rwa [Nat.mul_one] at this
theorem nh_pad {r : Row} {d : Nat} : nh r (nv r 3 + d) = nh r (nv r 3) := by
  induction d with
  | zero => rfl
  | succ d ih =>
    rw [← ih]
    refine nh_f fun h => ?_
    have q : nv r 3 + d < nv r 3 := hrC_lt h
    omega
def La (r : Row) (a : Nat) : Nat → Nat
  | 0 => 0
  | k + 1 => if hrC r k = true ∧ nh r k = a then k else La r a k
theorem La_at {r : Row} {a j : Nat} (hh : hrC r j = true) (ha : nh r j = a) : ∀ k, j < k → La r a k = j := by
  intro k
  induction k with
  | zero => intro h; omega
  | succ k ih =>
    intro h
    show (if hrC r k = true ∧ nh r k = a then k else La r a k) = j
    by_cases e : j = k
    · subst e
      rw [if_pos ⟨hh, ha⟩]
    · have h1 := nh_mono (r := r) (show j + 1 ≤ k by omega)
      rw [nh_t hh] at h1
      rw [if_neg (fun q => by omega)]
      exact ih (by omega)
theorem La_ex {r : Row} {a : Nat} : ∀ k, a < nh r k → ∃ j, j < k ∧ hrC r j = true ∧ nh r j = a := by
  intro k
  induction k with
  | zero => intro h; exact absurd h (Nat.not_lt_zero _)
  | succ k ih =>
    intro h
    by_cases h1 : hrC r k = true
    · rw [nh_t h1] at h
      by_cases h2 : a = nh r k
      · exact ⟨k, by omega, h1, h2.symm⟩
      · obtain ⟨j, a1, a2, a3⟩ := ih (by omega)
        exact ⟨j, by omega, a2, a3⟩
    · rw [nh_f h1] at h
      obtain ⟨j, a1, a2, a3⟩ := ih h
      exact ⟨j, by omega, a2, a3⟩
theorem c_lodger {h : Nat} {μ : Mem} {r : Row} (H : HC (μ (h + 1)) r) (V : Vr r) {a : Nat} (ha : a < nh r 8) : f_X1_lodger h μ (Int32.ofNat a) = some (Int32.ofNat (La r a 8)) := by
  obtain ⟨j, j1, j2, j3⟩ := La_ex 8 ha
  rw [La_at j2 j3 8 j1]
  have hl := nh_le r 8
  unfold f_X1_lodger
  refine lpF (fun n (s : Int32 × Int32) => lp_X1_lodger_4 (Int32.ofNat a) h μ n s.1 s.2) (fun k => (Int32.ofNat (nh r k), Int32.ofNat k)) j _ (fun k hk n => ?_) (fun n => ?_) 4096 (by omega)
  · show lp_X1_lodger_4 _ _ _ _ (Int32.ofNat (nh r k)) (Int32.ofNat k) = lp_X1_lodger_4 _ _ _ _ (Int32.ofNat (nh r (k + 1))) (Int32.ofNat (k + 1))
    have h1 := nh_mono (r := r) (show k + 1 ≤ j by omega)
    rw [lp_X1_lodger_4, i_8, if_neg (by rw [on_le (by decide) (by omega)]; omega), c_here H V (by omega)]
    simp only [bs_q, i_0, ite_b0, i_1, on_a]
    by_cases h2 : hrC r k = true
    · rw [nh_t h2] at h1
      rw [if_pos h2, if_neg (by rw [on_eq (by omega) (by omega)]; omega), nh_t h2]
    · rw [if_neg h2, nh_f h2]
  · show lp_X1_lodger_4 _ _ _ _ (Int32.ofNat (nh r j)) (Int32.ofNat j) = _
    rw [lp_X1_lodger_4, i_8, if_neg (by rw [on_le (by decide) (by omega)]; omega), c_here H V (by omega)]
    simp only [bs_q, i_0, ite_b0]
    rw [if_pos j2, if_pos (by rw [j3])]
/-- the moves that a lodging of the rest costs -/
def wn (f : Nat → Nat) : Nat → Nat
  | 0 => 100
  | k + 1 => min (wn f k) (f k)
def wc (r : Row) (g : Nat) (W : Nat → Nat) (t p : Nat) : Nat := if t.testBit p = true then 100 else if sB r p (kyB r g) (nv r 4) = true then 100 else W (t ||| 2 ^ p) + (if rm r g = p then 0 else 1)
def wW (r : Row) : Nat → Nat → Nat
  | 0, _ => 0
  | e + 1, t => wn (wc r (La r (nh r 8 - (e + 1)) 8) (wW r e) t) 8
theorem wn_le (f : Nat → Nat) (k : Nat) : wn f k ≤ 100 := by
  induction k with
  | zero => exact Nat.le_refl _
  | succ k ih => exact Nat.le_trans (Nat.min_le_left _ _) ih
theorem wn_ex (f : Nat → Nat) (k : Nat) : wn f k = 100 ∨ ∃ j, j < k ∧ wn f k = f j := by
  induction k with
  | zero => exact .inl rfl
  | succ k ih =>
    have e : wn f (k + 1) = min (wn f k) (f k) := rfl
    by_cases h : wn f k ≤ f k
    · rw [e, Nat.min_eq_left h]
      rcases ih with h1 | ⟨j, h1, h2⟩
      · exact .inl h1
      · exact .inr ⟨j, by omega, h2⟩
    · exact .inr ⟨k, by omega, by rw [e]; omega⟩
theorem wW_b (r : Row) : ∀ e t, wW r e t ≤ e ∨ wW r e t = 100 := by
  intro e
  induction e with
  | zero => intro t; exact .inl (Nat.le_refl _)
  | succ e ih =>
    intro t
    have q : wW r (e + 1) t = wn (wc r (La r (nh r 8 - (e + 1)) 8) (wW r e) t) 8 := rfl
    have q2 := wn_le (wc r (La r (nh r 8 - (e + 1)) 8) (wW r e) t) 8
    rcases wn_ex (wc r (La r (nh r 8 - (e + 1)) 8) (wW r e) t) 8 with h | ⟨j, -, h⟩
    · exact .inr (q.trans h)
    · rw [q]
      rw [h] at q2 ⊢
      revert q2
      unfold wc
      split
      · intro _; exact .inr rfl
      · split
        · intro _; exact .inr rfl
        · intro h2
          rcases ih (t ||| 2 ^ j) with h3 | h3
          · left
            split <;> omega
          · right
            omega
theorem or_pc : ∀ t, t < 256 → ∀ p, p < 8 → t.testBit p = false → pc (t ||| 2 ^ p) = pc t + 1 ∧ t < t ||| 2 ^ p := by decide +kernel
theorem wc_b (r : Row) (g e : Nat) (he : e ≤ 8) (t p : Nat) : wc r g (wW r e) t p ≤ 101 := by
  unfold wc
  split
  · omega
  · split
    · omega
    · rcases wW_b r e (t ||| 2 ^ p) with h | h
      · split <;> omega
      · split <;> omega
theorem c_moves {μ : Mem} {r : Row} (H : HC (μ (0 + 1)) r) (V : Vr r) {e t p : Nat} (he : e + 1 ≤ nh r 8) (ht : t < 256) (hp : p < 8) (hw : t.testBit p = false → μ 0 11 (t ||| 2 ^ p) = Int32.ofNat (wW r e (t ||| 2 ^ p))) : f_X9_movesBy μ (Int32.ofNat (nh r 8 - (e + 1))) (Int32.ofNat p) (Int32.ofNat t) = some (Int32.ofNat (wc r (La r (nh r 8 - (e + 1)) 8) (wW r e) t p)) := by
  obtain ⟨j, j1, j2, j3⟩ := La_ex (r := r) (a := nh r 8 - (e + 1)) 8 (by omega)
  have hg := hrC_lt j2
  unfold f_X9_movesBy
  rw [c_lodger H V (by omega), La_at j2 j3 8 j1]
  simp only [bs_q]
  have hw1 := wm_b t ht p hp true
  rw [bI_t] at hw1
  have e1 : stb t p true = t ||| 2 ^ p := rfl
  rw [e1] at hw1
  rw [hw1, hold_b t ht p hp]
  simp only [bs_q, i_0, ite_b0]
  unfold wc
  by_cases h1 : t.testBit p = true
  · rw [if_pos h1, if_pos h1, i_100]
  · have h256 := or_256 ht (pow_256 hp)
    rw [if_neg h1, if_neg h1, if_neg (by rw [on_lt (by omega) (by decide)]; omega), i_256, if_neg (by rw [on_le (by decide) (by omega)]; omega), show μ 1 1 4 = μ (0 + 1) 1 4 from rfl, c_key H V hg]
    simp only [bs_q]
    rw [c_sight H V hp]
    simp only [bs_q]
    rw [show μ 1 0 8 = μ (0 + 1) 0 8 from rfl, H.bath, V.e4, hold_b _ (mk_256 _ (Nat.le_refl 8)) _ V.b4, mk_tb, decide_eq_true V.b4, Bool.true_and]
    simp only [bs_q, ite_b0]
    by_cases h2 : sB r p (kyB r j) (nv r 4) = true
    · rw [if_pos h2, if_pos h2, i_100]
    · rw [if_neg h2, if_neg h2, ix_on h256 (by decide), c_room (by omega), (H.g hg).1, V.rme (by omega)]
      simp only [bs_q]
      have h8 := V.rm8 (g := j) (by omega)
      rw [il_eq (by omega) (by omega), on_t (by omega), hw (by cases hq : t.testBit p; rfl; exact absurd hq h1)]
      by_cases h3 : rm r j = p
      · rw [if_pos h3, if_pos h3, on_a]
      · rw [if_neg h3, if_neg h3, i_1, on_a]
def wT (r : Row) (t : Nat) : Nat := if pc t ≤ nh r 8 then wW r (nh r 8 - pc t) t else 100
theorem wT_b (r : Row) (t : Nat) : wT r t ≤ 100 := by
  have := nh_le r 8
  unfold wT
  split
  · rcases wW_b r (nh r 8 - pc t) t with h | h <;> omega
  · omega
set_option maxHeartbeats 2000000 in
theorem c_weigh {μ : Mem} {r : Row} (H : HC (μ (0 + 1)) r) (V : Vr r) : ∃ ν, f_X9_weighLodgings μ (Int32.ofNat (nh r 8)) = some ν ∧ (∀ g j, ¬ (g = 0 ∧ j = 11) → ν g j = μ g j) ∧ ∀ t, t < 256 → ν 0 11 t = Int32.ofNat (wT r t) := by
  unfold f_X9_weighLodgings
  have hl := nh_le r 8
  refine lpP (fun n (s : Int32 × Mem) => lp_X9_weighLodgings_4 (Int32.ofNat (nh r 8)) n s.1 s.2) (fun o => ∃ ν, o = some ν ∧ (∀ g j, ¬ (g = 0 ∧ j = 11) → ν g j = μ g j) ∧ ∀ t, t < 256 → ν 0 11 t = Int32.ofNat (wT r t)) (fun k s => s.1 = Int32.ofNat (256 - k) + (-1) ∧ (∀ g j, ¬ (g = 0 ∧ j = 11) → s.2 g j = μ g j) ∧ ∀ t, 256 - k ≤ t → t < 256 → s.2 0 11 t = Int32.ofNat (wT r t)) 256 ?_ 4096 (255, μ) (by decide) ⟨rfl, fun _ _ _ => rfl, fun t (h1 : 256 - 0 ≤ t) (h2 : t < 256) => by omega⟩
  rintro k ⟨x, ξ⟩ hk ⟨e1, hF, hT⟩ n
  simp only at e1 hF hT
  subst e1
  by_cases h6 : k = 256
  · left
    subst h6
    refine ⟨ξ, ?_, hF, fun t ht => hT t (by omega) ht⟩
    show lp_X9_weighLodgings_4 _ (n + 1) (Int32.ofNat (256 - 256) + (-1)) ξ = _
    rw [lp_X9_weighLodgings_4, if_pos (by decide)]
  · right
    obtain ⟨t, ht, rfl⟩ : ∃ t, t < 256 ∧ k = 255 - t := ⟨255 - k, by omega, by omega⟩
    have ek : 256 - (255 - t) = t + 1 := by omega
    rw [ek] at hT
    refine ⟨by omega, (Int32.ofNat (256 - (255 - t + 1)) + (-1), upm ξ 0 11 t (Int32.ofNat (wT r t))), ⟨rfl, fun g j hg => ?_, fun s h1 h2 => ?_⟩, ?_⟩
    · show upm ξ 0 11 t _ g j = _
      rw [upm_ne (by omega), hF g j hg]
    · show upm ξ 0 11 t _ 0 11 s = _
      by_cases h3 : s = t
      · subst h3
        rw [upm_at]
      · rw [upm_n3 (by omega), hT s (by omega) h2]
    · show lp_X9_weighLodgings_4 _ (n + 1) (Int32.ofNat (256 - (255 - t)) + (-1)) ξ = lp_X9_weighLodgings_4 _ n _ (upm ξ 0 11 t (Int32.ofNat (wT r t)))
      have hb := pc_le t
      have hH : HC (ξ (0 + 1)) r := by
        rw [show ξ (0 + 1) = μ (0 + 1) from funext fun j => hF (0 + 1) j (by omega)]
        exact H
      rw [ek, dec_1, show 256 - (255 - t + 1) = t by omega, lp_X9_weighLodgings_4, i_0, if_neg (by rw [on_lt (by omega) (by decide)]; omega), bc_b t ht]
      simp only [bs_q, nm_q]
      have inn : ∀ K : Int32 → Option Mem, ∀ e, e + 1 ≤ nh r 8 → pc t = nh r 8 - (e + 1) → lp_X9_weighLodgings_34 (Int32.ofNat t) ξ (Int32.ofNat (pc t)) K 4096 100 (Int32.ofNat 0) = K (Int32.ofNat (wW r (e + 1) t)) := by
        intro K e he hp
        refine lpF (fun n (s : Int32 × Int32) => lp_X9_weighLodgings_34 (Int32.ofNat t) ξ (Int32.ofNat (pc t)) K n s.1 s.2) (fun k => (Int32.ofNat (wn (wc r (La r (nh r 8 - (e + 1)) 8) (wW r e) t) k), Int32.ofNat k)) 8 _ (fun k hk n => ?_) (fun n => rfl) 4096 (by decide)
        show lp_X9_weighLodgings_34 _ _ _ _ _ (Int32.ofNat (wn (wc r (La r (nh r 8 - (e + 1)) 8) (wW r e) t) k)) (Int32.ofNat k) = lp_X9_weighLodgings_34 _ _ _ _ _ (Int32.ofNat (min (wn (wc r (La r (nh r 8 - (e + 1)) 8) (wW r e) t) k) (wc r (La r (nh r 8 - (e + 1)) 8) (wW r e) t k))) (Int32.ofNat (k + 1))
        have q1 := wn_le (wc r (La r (nh r 8 - (e + 1)) 8) (wW r e) t) k
        have q2 := wc_b r (La r (nh r 8 - (e + 1)) 8) e (by omega) t k
        rw [lp_X9_weighLodgings_34, i_8, if_neg (by rw [on_le (by decide) (by omega)]; omega), hp, c_moves hH V he ht hk fun hq => ?_]
        · simp only [bs_q]
          rw [on_min (by omega) (by omega), i_1, on_a]
        · obtain ⟨o1, o2⟩ := or_pc t ht k hk hq
          rw [hT _ (by omega) (or_256 ht (pow_256 hk))]
          unfold wT
          rw [o1, if_pos (by omega), show nh r 8 - (pc t + 1) = e by omega]
      have cE : (Int32.ofNat (pc t) = Int32.ofNat (nh r 8)) = (pc t = nh r 8) := on_eq (by omega) (by omega)
      have cL : (Int32.ofNat (nh r 8) ≤ Int32.ofNat (pc t)) = (nh r 8 ≤ pc t) := on_le (by omega) (by omega)
      simp only [cE, cL, ix_on ht (show 256 < 5000 by decide), on_t (show t < 2147483648 by omega), i_1]
      by_cases c1 : pc t = nh r 8
      · rw [if_pos c1, if_pos (Nat.le_of_eq c1.symm)]
        unfold wT
        rw [if_pos (Nat.le_of_eq c1), c1, Nat.sub_self]
        rfl
      · rw [if_neg c1]
        by_cases c2 : nh r 8 ≤ pc t
        · rw [if_pos c2]
          unfold wT
          rw [if_neg (by omega)]
          rfl
        · rw [if_neg c2, inn _ (nh r 8 - pc t - 1) (by omega) (by omega), show nh r 8 - pc t - 1 + 1 = nh r 8 - pc t by omega]
          unfold wT
          rw [if_pos (by omega)]
/-! the reference's lodging -/
def enc (v : Nat) : Nat := if v = 100 then 2000000000 else v
theorem i_2e9 : (2000000000 : Int32) = Int32.ofNat 2000000000 := rfl
theorem i_19 : (19 : Int32) = Int32.ofNat 19 := rfl
theorem enc_b {v : Nat} (h : v ≤ 101) : enc v ≤ 2000000000 := by
  unfold enc
  split <;> omega
theorem enc_min {a b : Nat} (ha : a ≤ 100) (hb : b ≤ 101) : f_X10_lesser (Int32.ofNat (enc a)) (Int32.ofNat (enc (min 100 b))) = some (Int32.ofNat (enc (min a b))) := by
  have h1 := enc_b (v := a) (by omega)
  have h2 := enc_b (v := min 100 b) (by omega)
  rw [lesser_e, on_min (by omega) (by omega)]
  congr 2
  unfold enc
  split <;> split <;> split <;> omega
theorem enc_100 : enc 100 = 2000000000 := rfl
theorem r_by {ν : Mem} {r : Row} (er : ν 0 13 = r) (V : Vr r) {i g e t p : Nat} (hi : i < 8) (hg : g < 8) (he : e ≤ 8) (hl : ν 0 19 i = Int32.ofNat g) (ht : t < 256) (hp : p < 8) (hw : ν 0 20 (256 * (i + 1) + (t ||| 2 ^ p)) = Int32.ofNat (enc (wW r e (t ||| 2 ^ p)))) : f_X10_by ν (Int32.ofNat i) (Int32.ofNat t) (Int32.ofNat p) = some (Int32.ofNat (enc (min 100 (wc r g (wW r e) t p)))) := by
  have h256 := or_256 ht (pow_256 hp)
  unfold f_X10_by
  rw [ix_on hi (by decide), isOf_b t ht p hp]
  simp only [bs_q, i_0, ite_b0]
  unfold wc
  by_cases h1 : t.testBit p = true
  · rw [if_pos h1, if_pos h1, i_2e9]
    rfl
  · rw [if_neg h1, if_neg h1, on_t (by omega), hl, show (3 : Int32) = Int32.ofNat 3 from rfl, R_of er hg (by decide)]
    simp only [bs_q, nm_q]
    have k4 : ν 0 13 (Int32.toNatClampNeg 4) = Int32.ofNat (nv r 4) := by
      rw [er]
      exact V.e4
    have ei : 256 * (Int32.ofNat i + 1) + (Int32.ofNat t ||| jshl 1 (Int32.ofNat p)) = Int32.ofNat (256 * (i + 1) + (t ||| 2 ^ p)) := by
      rw [i_1, or_b t ht p hp, i_256, on_a, on_m, on_a]
    rw [ei, k4, on_t (by omega), hw]
    have hk : (r (24 + 5 * g + 3) = (1 : Int32) ∧ kyB r g = true) ∨ (¬ r (24 + 5 * g + 3) = (1 : Int32) ∧ kyB r g = false) := by
      unfold kyB
      by_cases h2 : r (24 + 5 * g + 3) = Int32.ofNat 1
      · exact .inl ⟨h2, decide_eq_true h2⟩
      · exact .inr ⟨h2, decide_eq_false h2⟩
    have s1 := R_seesFrom er V hp V.b4 true
    have s0 := R_seesFrom er V hp V.b4 false
    rw [bI_t] at s1
    rw [bI_f] at s0
    have h8 := V.rm8 hg
    have hb := wW_b r e (t ||| 2 ^ p)
    have fin : ∀ b : Bool, (ix 4 704 ((some (bI (sB r p b (nv r 4)))).bind fun q4 : Int32 => if q4 = Int32.ofNat 0 then ix (Int32.ofNat (256 * (i + 1) + (t ||| 2 ^ p))) 2304 (if Int32.ofNat (enc (wW r e (t ||| 2 ^ p))) = 2000000000 then some 2000000000 else ix (Int32.ofNat (256 * (i + 1) + (t ||| 2 ^ p))) 2304 ((f_X10_of ν (Int32.ofNat g) (Int32.ofNat 0)).bind fun q5 : Int32 => if q5 = Int32.ofNat p then some (Int32.ofNat (enc (wW r e (t ||| 2 ^ p))) + Int32.ofNat 0) else some (Int32.ofNat (enc (wW r e (t ||| 2 ^ p))) + 1))) else some 2000000000)) = some (Int32.ofNat (enc (min 100 (if sB r p b (nv r 4) = true then 100 else wW r e (t ||| 2 ^ p) + if rm r g = p then 0 else 1)))) := by
      intro b
      rw [show (4 : Int32) = Int32.ofNat 4 from rfl, ix_on (by decide) (by decide)]
      simp only [bs_q, ite_b0]
      by_cases h2 : sB r p b (nv r 4) = true
      · rw [if_pos h2, if_pos h2, i_2e9]
        rfl
      · rw [if_neg h2, if_neg h2, ix_on (by omega) (by decide), i_2e9, il_eq (by have := enc_b (v := wW r e (t ||| 2 ^ p)) (by omega); omega) (by decide)]
        by_cases h3 : wW r e (t ||| 2 ^ p) = 100
        · rw [h3, if_pos enc_100, Nat.min_eq_left (by omega), enc_100]
        · have h4 : enc (wW r e (t ||| 2 ^ p)) = wW r e (t ||| 2 ^ p) := if_neg h3
          have h5 : wW r e (t ||| 2 ^ p) ≤ e := by omega
          rw [h4, if_neg (by omega), ix_on (by omega) (by decide), R_of0 er hg, V.rme hg]
          simp only [bs_q]
          rw [il_eq (by omega) (by omega)]
          by_cases h6 : rm r g = p
          · rw [if_pos h6, if_pos h6, Nat.min_eq_right (by omega), on_a]
            congr 2
            exact (if_neg (by omega)).symm
          · rw [if_neg h6, if_neg h6, Nat.min_eq_right (by omega), i_1, on_a]
            congr 2
            exact (if_neg (by omega)).symm
    rcases hk with ⟨k1, k2⟩ | ⟨k1, k2⟩
    · rw [if_pos k1, k2, s1]
      exact fin true
    · rw [if_neg k1, k2, show Int32.ofNat 0 = (0 : Int32) from rfl, s0]
      exact fin false
def wF (r : Row) : Row := fun idx => Int32.ofNat (enc (wW r (nh r 8 - idx / 256) (idx % 256)))
theorem wF_at {r : Row} {i t : Nat} (ht : t < 256) : wF r (256 * i + t) = Int32.ofNat (enc (wW r (nh r 8 - i) t)) := by
  unfold wF
  rw [show (256 * i + t) / 256 = i by omega, show (256 * i + t) % 256 = t by omega]
set_option maxHeartbeats 2000000 in
theorem r_level {ν : Mem} {r : Row} (er : ν 0 13 = r) (V : Vr r) (em : ν 0 12 19 = Int32.ofNat (nh r 8)) (hl : ∀ a, a < nh r 8 → ν 0 19 a = Int32.ofNat (La r a 8)) {i : Nat} (hi : i ≤ nh r 8) (hw : i < nh r 8 → ∀ t, t < 256 → ν 0 20 (256 * (i + 1) + t) = wF r (256 * (i + 1) + t)) (K : Mem → Option (Int32 × Mem)) : lp_X10_lodge_70 (Int32.ofNat i) K 4096 0 ν = K (upA ν 0 20 (fl (ν 0 20) (wF r) (256 * i) 256)) := by
  have hm := nh_le r 8
  refine Eq.trans ?_ (lpF (fun n (s : Int32 × Mem) => lp_X10_lodge_70 (Int32.ofNat i) K n s.1 s.2) (fun k => (Int32.ofNat k, upA ν 0 20 (fl (ν 0 20) (wF r) (256 * i) k))) 256 _ (fun k hk n => ?_) (fun n => rfl) 4096 (by decide))
  · show _ = lp_X10_lodge_70 (Int32.ofNat i) K 4096 0 (upA ν 0 20 (fl (ν 0 20) (wF r) (256 * i) 0))
    rw [fl_0, upA_id]
  · show lp_X10_lodge_70 _ _ _ (Int32.ofNat k) (upA ν 0 20 (fl (ν 0 20) (wF r) (256 * i) k)) = lp_X10_lodge_70 _ _ _ (Int32.ofNat (k + 1)) (upA ν 0 20 (fl (ν 0 20) (wF r) (256 * i) (k + 1)))
    have fr : ∀ j, j ≠ 20 → (upA ν 0 20 (fl (ν 0 20) (wF r) (256 * i) k)) 0 j = ν 0 j := fun j hj => upA_ne (by omega)
    rw [lp_X10_lodge_70, i_256, if_neg (by rw [on_le (by decide) (by omega)]; omega), nm_q]
    have key : ∀ v : Nat, Int32.ofNat v = wF r (256 * i + k) → ix (256 * Int32.ofNat i + Int32.ofNat k) 2304 (nm (upm (upA ν 0 20 (fl (ν 0 20) (wF r) (256 * i) k)) 0 20 (256 * Int32.ofNat i + Int32.ofNat k).toNatClampNeg (Int32.ofNat v)) fun (μ21 : Mem) => lp_X10_lodge_70 (Int32.ofNat i) K n (Int32.ofNat k + 1) μ21) = lp_X10_lodge_70 (Int32.ofNat i) K n (Int32.ofNat (k + 1)) (upA ν 0 20 (fl (ν 0 20) (wF r) (256 * i) (k + 1))) := fun v hv => by
      rw [i_256, on_m, on_a, ix_on (by omega) (by decide), nm_q, on_t (by omega), upA_upm, upA_at, hv, fl_s, i_1, on_a]
      congr 1
      funext a b
      by_cases hab : a = 0 ∧ b = 20
      · obtain ⟨rfl, rfl⟩ := hab
        rw [upA_at, upA_at]
      · rw [upA_ne hab, upA_ne hab, upA_ne hab]
    have inn : ∀ v0 : Nat, (i = nh r 8 → v0 = 0) → (i < nh r 8 → v0 = 2000000000) → ∀ J : Int32 → Option (Int32 × Mem), lp_X10_lodge_97 (Int32.ofNat i) (Int32.ofNat k) (upA ν 0 20 (fl (ν 0 20) (wF r) (256 * i) k)) J 4096 (Int32.ofNat v0) 0 = J (wF r (256 * i + k)) := fun v0 h0 h1 J => by
      rw [wF_at hk]
      by_cases c1 : i = nh r 8
      · rw [lp_X10_lodge_97, i_0, i_8, if_neg (by decide), fr 12 (by decide), em, if_pos (by rw [c1, on_le (by omega) (by omega)]; omega), h0 c1, c1, Nat.sub_self]
        rfl
      · obtain ⟨e, he⟩ : ∃ e, i = nh r 8 - (e + 1) ∧ e + 1 ≤ nh r 8 := ⟨nh r 8 - i - 1, by omega, by omega⟩
        obtain ⟨j, j1, j2, j3⟩ := La_ex (r := r) (a := i) 8 (by omega)
        rw [h1 (by omega), show nh r 8 - i = e + 1 by omega]
        refine lpF (fun n (s : Int32 × Int32) => lp_X10_lodge_97 (Int32.ofNat i) (Int32.ofNat k) (upA ν 0 20 (fl (ν 0 20) (wF r) (256 * i) k)) J n s.1 s.2) (fun p => (Int32.ofNat (enc (wn (wc r (La r (nh r 8 - (e + 1)) 8) (wW r e) k) p)), Int32.ofNat p)) 8 _ (fun p hp n => ?_) (fun n => rfl) 4096 (by decide)
        show lp_X10_lodge_97 _ _ _ _ _ (Int32.ofNat (enc (wn (wc r (La r (nh r 8 - (e + 1)) 8) (wW r e) k) p))) (Int32.ofNat p) = lp_X10_lodge_97 _ _ _ _ _ (Int32.ofNat (enc (min (wn (wc r (La r (nh r 8 - (e + 1)) 8) (wW r e) k) p) (wc r (La r (nh r 8 - (e + 1)) 8) (wW r e) k p)))) (Int32.ofNat (p + 1))
        rw [lp_X10_lodge_97, i_8, if_neg (by rw [on_le (by decide) (by omega)]; omega), fr 12 (by decide), em, if_neg (by rw [on_le (by omega) (by omega)]; omega)]
        have hor := or_256 hk (pow_256 hp)
        rw [r_by (ν := upA ν 0 20 (fl (ν 0 20) (wF r) (256 * i) k)) (r := r) (g := La r (nh r 8 - (e + 1)) 8) (e := e) (by rw [fr 13 (by decide), er]) V (by omega) (by rw [← he.1, La_at j2 j3 8 j1]; omega) (by omega) (by rw [fr 19 (by decide), hl i (by omega), ← he.1]) hk hp (by rw [upA_at, fl_out (by omega), hw (by omega) _ hor, wF_at hor, show nh r 8 - (i + 1) = e by omega])]
        simp only [bs_q]
        rw [enc_min (wn_le _ _) (wc_b r _ e (by omega) k p)]
        simp only [bs_q]
        rw [i_1, on_a]
    have e12 : (upA ν 0 20 (fl (ν 0 20) (wF r) (256 * i) k)) 0 12 19 = Int32.ofNat (nh r 8) := by rw [fr 12 (by decide), em]
    simp only [nm_q]
    by_cases c1 : i = nh r 8
    · rw [if_pos (by rw [e12, c1]), i_0]
      refine (inn 0 (fun _ => rfl) (fun h => by omega) _).trans ?_
      rw [wF_at hk]
      exact key _ (wF_at hk).symm
    · rw [if_neg (by rw [e12, on_eq (by omega) (by omega)]; exact c1), i_2e9]
      refine (inn 2000000000 (fun h => absurd h c1) (fun h => rfl) _).trans ?_
      rw [wF_at hk]
      exact key _ (wF_at hk).symm
set_option maxHeartbeats 2000000 in
theorem r_fill {ν : Mem} {r : Row} (er : ν 0 13 = r) (V : Vr r) (em : ν 0 12 19 = Int32.ofNat (nh r 8)) (hl : ∀ a, a < nh r 8 → ν 0 19 a = Int32.ofNat (La r a 8)) (K : Mem → Option (Int32 × Mem)) : lp_X10_lodge_64 K 4096 (Int32.ofNat (nh r 8)) ν = K (upA ν 0 20 (fl (ν 0 20) (wF r) 0 (256 * (nh r 8 + 1)))) := by
  have hm := nh_le r 8
  refine Eq.trans ?_ (lpF (fun n (s : Int32 × Mem) => lp_X10_lodge_64 K n s.1 s.2) (fun k => (Int32.ofNat (nh r 8 + 1 - k) + (-1), upA ν 0 20 (fl (ν 0 20) (wF r) (256 * (nh r 8 + 1 - k)) (256 * k)))) (nh r 8 + 1) _ (fun k hk n => ?_) (fun n => ?_) 4096 (by omega))
  · show _ = lp_X10_lodge_64 K 4096 (Int32.ofNat (nh r 8 + 1) + (-1)) (upA ν 0 20 (fl (ν 0 20) (wF r) (256 * (nh r 8 + 1)) 0))
    rw [fl_0, upA_id, dec_1]
  · obtain ⟨i, hi, rfl⟩ : ∃ i, i ≤ nh r 8 ∧ k = nh r 8 - i := ⟨nh r 8 - k, by omega, by omega⟩
    show lp_X10_lodge_64 K (n + 1) (Int32.ofNat (nh r 8 + 1 - (nh r 8 - i)) + (-1)) (upA ν 0 20 (fl (ν 0 20) (wF r) (256 * (nh r 8 + 1 - (nh r 8 - i))) (256 * (nh r 8 - i)))) = lp_X10_lodge_64 K n (Int32.ofNat (nh r 8 + 1 - (nh r 8 - i + 1)) + (-1)) (upA ν 0 20 (fl (ν 0 20) (wF r) (256 * (nh r 8 + 1 - (nh r 8 - i + 1))) (256 * (nh r 8 - i + 1))))
    rw [show nh r 8 + 1 - (nh r 8 - i) = i + 1 by omega, show nh r 8 + 1 - (nh r 8 - i + 1) = i by omega, dec_1]
    have fr : ∀ j, j ≠ 20 → (upA ν 0 20 (fl (ν 0 20) (wF r) (256 * (i + 1)) (256 * (nh r 8 - i)))) 0 j = ν 0 j := fun j hj => upA_ne (by omega)
    rw [lp_X10_lodge_64, i_0, if_neg (by rw [on_lt (by omega) (by decide)]; omega)]
    refine (r_level (ν := upA ν 0 20 (fl (ν 0 20) (wF r) (256 * (i + 1)) (256 * (nh r 8 - i)))) (r := r) (by rw [fr 13 (by decide), er]) V (by rw [fr 12 (by decide), em]) (fun a ha => by rw [fr 19 (by decide), hl a ha]) hi (fun h t ht => by rw [upA_at, fl_in (by omega)]) _).trans ?_
    refine congrArg (lp_X10_lodge_64 K n (Int32.ofNat i + (-1))) ?_
    funext a b
    by_cases hab : a = 0 ∧ b = 20
    · obtain ⟨rfl, rfl⟩ := hab
      rw [upA_at, upA_at, upA_at]
      funext idx
      generalize nh r 8 - i = d
      have hd : 256 * (d + 1) = 256 + 256 * d := by omega
      have hi1 : 256 * (i + 1) = 256 * i + 256 := by omega
      rw [hd, hi1]
      generalize 256 * d = d6
      generalize 256 * i = i6
      by_cases h1 : i6 ≤ idx ∧ idx < i6 + 256
      · rw [fl_in h1, fl_in (by omega)]
      · rw [fl_out h1]
        by_cases h2 : i6 + 256 ≤ idx ∧ idx < i6 + 256 + d6
        · rw [fl_in h2, fl_in (by omega)]
        · rw [fl_out h2, fl_out (by omega)]
    · rw [upA_ne hab, upA_ne hab, upA_ne hab]
  · show lp_X10_lodge_64 K (n + 1) (Int32.ofNat (nh r 8 + 1 - (nh r 8 + 1)) + (-1)) (upA ν 0 20 (fl (ν 0 20) (wF r) (256 * (nh r 8 + 1 - (nh r 8 + 1))) (256 * (nh r 8 + 1)))) = _
    rw [Nat.sub_self, lp_X10_lodge_64, if_pos (by decide), Nat.mul_zero]
theorem r_list {r : Row} (V : Vr r) {B : Mem} (eb : B 0 13 = r) (e0 : B 0 12 19 = Int32.ofNat 0) : ∃ ν : Mem, (∀ g j, ¬ (g = 0 ∧ (j = 19 ∨ j = 12)) → ν g j = B g j) ∧ (∀ i, i ≠ 19 → ν 0 12 i = B 0 12 i) ∧ ν 0 12 19 = Int32.ofNat (nh r 8) ∧ (∀ a, a < nh r 8 → ν 0 19 a = Int32.ofNat (La r a 8)) ∧ ∀ K : Mem → Option (Int32 × Mem), lp_X10_lodge_12 K 4096 0 B = K ν := by
  have h8 := V.c8
  have gen : ∀ d k F (ν : Mem), k + d = nv r 3 → d < F → (∀ g j, ¬ (g = 0 ∧ (j = 19 ∨ j = 12)) → ν g j = B g j) → (∀ i, i ≠ 19 → ν 0 12 i = B 0 12 i) → ν 0 12 19 = Int32.ofNat (nh r k) → (∀ j, j < k → hrC r j = true → ν 0 19 (nh r j) = Int32.ofNat j) → ∃ ν' : Mem, (∀ g j, ¬ (g = 0 ∧ (j = 19 ∨ j = 12)) → ν' g j = B g j) ∧ (∀ i, i ≠ 19 → ν' 0 12 i = B 0 12 i) ∧ ν' 0 12 19 = Int32.ofNat (nh r (nv r 3)) ∧ (∀ j, j < nv r 3 → hrC r j = true → ν' 0 19 (nh r j) = Int32.ofNat j) ∧ ∀ K : Mem → Option (Int32 × Mem), lp_X10_lodge_12 K F (Int32.ofNat k) ν = K ν' := by
    intro d
    induction d with
    | zero =>
      intro k F ν hk hF c1 c2 c3 c4
      obtain ⟨f, rfl⟩ : ∃ f, F = f + 1 := ⟨F - 1, by omega⟩
      obtain rfl : k = nv r 3 := by omega
      refine ⟨ν, c1, c2, c3, c4, fun K => ?_⟩
      have er : ν 0 13 = r := by rw [c1 0 13 (by omega), eb]
      rw [lp_X10_lodge_12, show (3 : Int32) = Int32.ofNat 3 from rfl, ix_on (by decide) (by decide), on_t (by decide), er, V.e3, if_pos (by rw [on_le (by omega) (by omega)]; omega)]
    | succ d ih =>
      intro k F ν hk hF c1 c2 c3 c4
      obtain ⟨f, rfl⟩ : ∃ f, F = f + 1 := ⟨F - 1, by omega⟩
      have er : ν 0 13 = r := by rw [c1 0 13 (by omega), eb]
      have st : ∀ K : Mem → Option (Int32 × Mem), lp_X10_lodge_12 K (f + 1) (Int32.ofNat k) ν = lp_X10_lodge_12 K f (Int32.ofNat (k + 1)) (if hrC r k = true then upm (upm ν 0 19 (nh r k) (Int32.ofNat k)) 0 12 19 (Int32.ofNat (nh r (k + 1))) else ν) := fun K => by
        rw [lp_X10_lodge_12, show (3 : Int32) = Int32.ofNat 3 from rfl, ix_on (by decide) (by decide), on_t (by decide), er, V.e3, if_neg (by rw [on_le (by omega) (by omega)]; omega), R_here er (by omega)]
        simp only [bs_q, i_0, ite_b0]
        have hc : hrC r k = hrB r k := by
          unfold hrC
          rw [decide_eq_true (by omega), Bool.true_and]
        by_cases h1 : hrB r k = true
        · have hn := nh_le r k
          rw [if_pos h1, if_pos (hc.trans h1), c3, ix_on (by omega) (by decide), nm_q, nm_q, on_t (by omega), upm_ne (by omega), c3, i_1, on_a, on_a, nh_t (hc.trans h1)]
        · rw [if_neg h1, if_neg (by rw [hc]; exact h1), i_1, on_a]
      by_cases h1 : hrC r k = true
      · obtain ⟨ν', k1, k2, k3, k4, k5⟩ := ih (k + 1) f (upm (upm ν 0 19 (nh r k) (Int32.ofNat k)) 0 12 19 (Int32.ofNat (nh r (k + 1)))) (by omega) (by omega) (fun g j hg => by rw [upm_ne (by omega), upm_ne (by omega), c1 g j hg]) (fun i hi => by rw [upm_n3 (by omega), upm_ne (by omega), c2 i hi]) (upm_at _ _ _ _ _) (fun j hj hh => by
          rw [upm_ne (by omega)]
          by_cases e : j = k
          · subst e
            rw [upm_at]
          · have hq := nh_mono (r := r) (show j + 1 ≤ k by omega)
            rw [nh_t hh] at hq
            rw [upm_n3 (by omega), c4 j (by omega) hh])
        refine ⟨ν', k1, k2, k3, k4, fun K => ?_⟩
        rw [st K, if_pos h1, k5]
      · obtain ⟨ν', k1, k2, k3, k4, k5⟩ := ih (k + 1) f ν (by omega) (by omega) c1 c2 (by rw [nh_f h1, c3]) (fun j hj hh => by
          have : j ≠ k := fun e => h1 (e ▸ hh)
          exact c4 j (by omega) hh)
        refine ⟨ν', k1, k2, k3, k4, fun K => ?_⟩
        rw [st K, if_neg h1, k5]
  have ep : nh r 8 = nh r (nv r 3) := by
    rw [show (8 : Nat) = nv r 3 + (8 - nv r 3) by omega, nh_pad]
  obtain ⟨ν, k1, k2, k3, k4, k5⟩ := gen (nv r 3) 0 4096 B (by omega) (by omega) (fun _ _ _ => rfl) (fun _ _ => rfl) e0 (fun j hj _ => by omega)
  refine ⟨ν, k1, k2, by rw [ep]; exact k3, fun a ha => ?_, k5⟩
  obtain ⟨j, j1, j2, j3⟩ := La_ex 8 ha
  rw [La_at j2 j3 8 j1, ← j3, k4 j (hrC_lt j2) j2]
theorem dec_8 : ∀ m, m ≤ 8 → (Int32.ofNat m - 1).toInt = (m : Int) - 1 := by decide
theorem least8 {P : Nat → Prop} : ∀ n, (∃ j, j < n ∧ P j) → ∃ p, p < n ∧ P p ∧ ∀ j, j < p → ¬ P j := by
  intro n
  induction n with
  | zero => rintro ⟨j, h, -⟩; omega
  | succ n ih =>
    rintro ⟨j, h1, h2⟩
    by_cases h3 : ∃ j, j < n ∧ P j
    · obtain ⟨p, a1, a2, a3⟩ := ih h3
      exact ⟨p, by omega, a2, a3⟩
    · have e : j = n := by
        refine Decidable.byContradiction fun h4 => h3 ⟨j, by omega, h2⟩
      subst e
      exact ⟨j, h1, h2, fun i hi hP => h3 ⟨i, hi, hP⟩⟩
theorem pick_ex {r : Row} {e t : Nat} (h : wW r (e + 1) t < 100) : ∃ p, p < 8 ∧ wc r (La r (nh r 8 - (e + 1)) 8) (wW r e) t p = wW r (e + 1) t ∧ ∀ j, j < p → ¬ wc r (La r (nh r 8 - (e + 1)) 8) (wW r e) t j = wW r (e + 1) t := by
  refine least8 8 ?_
  have q : wW r (e + 1) t = wn (wc r (La r (nh r 8 - (e + 1)) 8) (wW r e) t) 8 := rfl
  rcases wn_ex (wc r (La r (nh r 8 - (e + 1)) 8) (wW r e) t) 8 with h1 | ⟨j, h1, h2⟩
  · omega
  · exact ⟨j, h1, by rw [q, h2]⟩
theorem c_pick {μ : Mem} {r : Row} (H : HC (μ (0 + 1)) r) (V : Vr r) (hT : ∀ t, t < 256 → μ 0 11 t = Int32.ofNat (wT r t)) {e t p : Nat} (he : e + 1 ≤ nh r 8) (ht : t < 256) (hc : pc t = nh r 8 - (e + 1)) (hp : p < 8) (h1 : wc r (La r (nh r 8 - (e + 1)) 8) (wW r e) t p = wW r (e + 1) t) (h2 : ∀ j, j < p → ¬ wc r (La r (nh r 8 - (e + 1)) 8) (wW r e) t j = wW r (e + 1) t) : f_X9_firstLodging μ (Int32.ofNat (nh r 8 - (e + 1))) (Int32.ofNat t) = some (Int32.ofNat p) := by
  have hm := nh_le r 8
  have st : ∀ j, j < 8 → f_X9_movesBy μ (Int32.ofNat (nh r 8 - (e + 1))) (Int32.ofNat j) (Int32.ofNat t) = some (Int32.ofNat (wc r (La r (nh r 8 - (e + 1)) 8) (wW r e) t j)) := fun j hj => by
    refine c_moves H V he ht hj fun hq => ?_
    obtain ⟨o1, o2⟩ := or_pc t ht j hj hq
    rw [hT _ (or_256 ht (pow_256 hj))]
    unfold wT
    rw [o1, if_pos (by omega), show nh r 8 - (pc t + 1) = e by omega]
  have et : μ 0 11 t = Int32.ofNat (wW r (e + 1) t) := by
    rw [hT t ht]
    unfold wT
    rw [if_pos (by omega), show nh r 8 - pc t = e + 1 by omega]
  have hb := wW_b r (e + 1) t
  unfold f_X9_firstLodging
  refine lpF (fun n (s : Int32) => lp_X9_firstLodging_2 (Int32.ofNat (nh r 8 - (e + 1))) (Int32.ofNat t) μ n s) (fun k => Int32.ofNat k) p _ (fun k hk n => ?_) (fun n => ?_) 4096 (by omega)
  · show lp_X9_firstLodging_2 _ _ _ _ (Int32.ofNat k) = lp_X9_firstLodging_2 _ _ _ _ (Int32.ofNat (k + 1))
    have hb2 := wc_b r (La r (nh r 8 - (e + 1)) 8) e (by omega) t k
    rw [lp_X9_firstLodging_2, i_8, if_neg (by rw [on_le (by decide) (by omega)]; omega), i_0, if_neg (by rw [on_lt (by omega) (by decide)]; omega), i_256, if_neg (by rw [on_le (by decide) (by omega)]; omega), st k (by omega)]
    simp only [bs_q]
    rw [ix_on ht (by decide), on_t (by omega), et, if_neg (by rw [on_eq (by omega) (by omega)]; exact h2 k hk), i_1, on_a]
  · show lp_X9_firstLodging_2 _ _ _ _ (Int32.ofNat p) = _
    rw [lp_X9_firstLodging_2, i_8, if_neg (by rw [on_le (by decide) (by omega)]; omega), i_0, if_neg (by rw [on_lt (by omega) (by decide)]; omega), i_256, if_neg (by rw [on_le (by decide) (by omega)]; omega), st p hp]
    simp only [bs_q]
    rw [ix_on ht (by decide), on_t (by omega), et, if_pos (by rw [h1])]
theorem r_pick {N : Mem} {r : Row} (er : N 0 13 = r) (V : Vr r) {e t p : Nat} (he : e + 1 ≤ nh r 8) (hl : N 0 19 (nh r 8 - (e + 1)) = Int32.ofNat (La r (nh r 8 - (e + 1)) 8)) (hT : ∀ idx, idx < 256 * (nh r 8 + 1) → N 0 20 idx = wF r idx) (ht : t < 256) (hw : wW r (e + 1) t < 100) (hp : p < 8) (h1 : wc r (La r (nh r 8 - (e + 1)) 8) (wW r e) t p = wW r (e + 1) t) (h2 : ∀ j, j < p → ¬ wc r (La r (nh r 8 - (e + 1)) 8) (wW r e) t j = wW r (e + 1) t) (K : Int32 → Option (Int32 × Mem)) : lp_X10_lodge_216 N (Int32.ofNat t) (Int32.ofNat (nh r 8 - (e + 1))) K 4096 0 = K (Int32.ofNat p) := by
  have hm := nh_le r 8
  obtain ⟨g, j1, j2, j3⟩ := La_ex (r := r) (a := nh r 8 - (e + 1)) 8 (by omega)
  have eg : La r (nh r 8 - (e + 1)) 8 = g := La_at j2 j3 8 j1
  obtain ⟨i, hi⟩ : ∃ i, i = nh r 8 - (e + 1) := ⟨_, rfl⟩
  rw [eg] at hl h1 h2
  rw [← hi] at hl ⊢
  have st : ∀ j, j < 8 → f_X10_by N (Int32.ofNat i) (Int32.ofNat t) (Int32.ofNat j) = some (Int32.ofNat (enc (min 100 (wc r g (wW r e) t j)))) := fun j hj => by
    have hor := or_256 ht (pow_256 hj)
    refine r_by er V (by omega) j1 (by omega) hl ht hj ?_
    rw [hT _ (by omega), wF_at hor, show nh r 8 - (i + 1) = e by omega]
  have et : N 0 20 (256 * i + t) = Int32.ofNat (wW r (e + 1) t) := by
    rw [hT _ (by omega), wF_at ht, show nh r 8 - i = e + 1 by omega]
    unfold enc
    rw [if_neg (by omega)]
  have ei : 256 * Int32.ofNat i + Int32.ofNat t = Int32.ofNat (256 * i + t) := by rw [i_256, on_m, on_a]
  refine lpF (fun n (s : Int32) => lp_X10_lodge_216 N (Int32.ofNat t) (Int32.ofNat i) K n s) (fun k => Int32.ofNat k) p _ (fun k hk n => ?_) (fun n => ?_) 4096 (by omega)
  · show lp_X10_lodge_216 _ _ _ _ _ (Int32.ofNat k) = lp_X10_lodge_216 _ _ _ _ _ (Int32.ofNat (k + 1))
    have hb2 := wc_b r g e (by omega) t k
    have hb3 := enc_b (v := min 100 (wc r g (wW r e) t k)) (by omega)
    rw [lp_X10_lodge_216, st k (by omega)]
    simp only [bs_q]
    rw [ei, ix_on (by omega) (by decide), on_t (by omega), et, if_neg (by
      rw [on_eq (by omega) (by omega)]
      unfold enc
      have h3 := h2 k hk
      split <;> omega), i_1, on_a]
  · show lp_X10_lodge_216 _ _ _ _ _ (Int32.ofNat p) = _
    have h5 : enc (min 100 (wc r g (wW r e) t p)) = wW r (e + 1) t := by
      unfold enc
      split <;> omega
    rw [lp_X10_lodge_216, st p hp]
    simp only [bs_q]
    rw [ei, ix_on (by omega) (by decide), on_t (by omega), et, if_pos (by rw [h5])]
set_option maxHeartbeats 2000000 in
theorem lodge_loop {Q N : Mem} {r : Row} (H : HC (Q (0 + 1)) r) (V : Vr r) (hT : ∀ t, t < 256 → Q 0 11 t = Int32.ofNat (wT r t)) (er : N 0 13 = r) (hl : ∀ a, a < nh r 8 → N 0 19 a = Int32.ofNat (La r a 8)) (hN : ∀ idx, idx < 256 * (nh r 8 + 1) → N 0 20 idx = wF r idx) (h0 : wW r (nh r 8) 0 < 100) {a : Nat} (ha : a < nh r 8) : ∃ v, lp_X9_lodge_63 (Int32.ofNat a) Q 4096 0 (-1) 0 = some (v, Q) ∧ lp_X10_lodge_208 (Int32.ofNat a) N 4096 0 0 0 = some (v, N) := by
  have hm := nh_le r 8
  have start : ∀ y y' : Int32, lp_X9_lodge_63 (Int32.ofNat a) Q 4096 0 y 0 = lp_X9_lodge_63 (Int32.ofNat a) Q 4096 0 y' 0 := fun y y' => by
    rw [lp_X9_lodge_63, i_0, if_neg (by rw [on_lt (by omega) (by decide)]; omega), lp_X9_lodge_63, if_neg (by rw [on_lt (by omega) (by decide)]; omega)]
  rw [start (-1) 0]
  refine lpJ (fun n (s : Int32 × Int32 × Int32) => lp_X9_lodge_63 (Int32.ofNat a) Q n s.1 s.2.1 s.2.2) (fun n (s : Int32 × Int32 × Int32) => lp_X10_lodge_208 (Int32.ofNat a) N n s.1 s.2.1 s.2.2) (fun o o' => ∃ v, o = some (v, Q) ∧ o' = some (v, N)) (fun k s s' => s = s' ∧ s.2.2 = Int32.ofNat k ∧ ∃ t, t < 256 ∧ pc t = k ∧ wW r (nh r 8 - k) t < 100 ∧ s.1 = Int32.ofNat t) (a + 1) ?_ 4096 4096 (0, 0, 0) (0, 0, 0) (by omega) (by omega) ⟨rfl, rfl, 0, by decide, by decide, h0, rfl⟩
  rintro k ⟨x, y, z⟩ s' hk ⟨e1, e2, t, t1, t2, t3, e3⟩ n n'
  subst e1
  simp only at e2 e3
  subst e2 e3
  by_cases h6 : k = a + 1
  · left
    refine ⟨y, ?_, ?_⟩
    · show lp_X9_lodge_63 _ _ (n + 1) (Int32.ofNat t) y (Int32.ofNat k) = _
      rw [lp_X9_lodge_63, if_pos (by rw [on_lt (by omega) (by omega)]; omega)]
    · show lp_X10_lodge_208 _ _ (n' + 1) (Int32.ofNat t) y (Int32.ofNat k) = _
      rw [lp_X10_lodge_208, if_pos (by rw [on_lt (by omega) (by omega)]; omega)]
  · right
    obtain ⟨e, he1, he⟩ : ∃ e, k = nh r 8 - (e + 1) ∧ e + 1 ≤ nh r 8 := ⟨nh r 8 - k - 1, by omega, by omega⟩
    have hk2 : nh r 8 - k = e + 1 := by omega
    rw [hk2] at t3
    obtain ⟨p, p1, p2, p3⟩ := pick_ex t3
    have ptb : t.testBit p = false := by
      cases hq : t.testBit p with
      | false => rfl
      | true =>
        unfold wc at p2
        rw [if_pos hq] at p2
        omega
    obtain ⟨o1, -⟩ := or_pc t t1 p p1 ptb
    have hwe : wW r e (t ||| 2 ^ p) < 100 := by
      unfold wc at p2
      rw [if_neg (by rw [ptb]; decide)] at p2
      split at p2 <;> omega
    refine ⟨by omega, (Int32.ofNat (t ||| 2 ^ p), Int32.ofNat p, Int32.ofNat (k + 1)), (Int32.ofNat (t ||| 2 ^ p), Int32.ofNat p, Int32.ofNat (k + 1)), ⟨rfl, rfl, t ||| 2 ^ p, or_256 t1 (pow_256 p1), by omega, by rw [show nh r 8 - (k + 1) = e by omega]; exact hwe, rfl⟩, ?_, ?_⟩
    · show lp_X9_lodge_63 _ _ (n + 1) (Int32.ofNat t) y (Int32.ofNat k) = lp_X9_lodge_63 _ _ n (Int32.ofNat (t ||| 2 ^ p)) (Int32.ofNat p) (Int32.ofNat (k + 1))
      have hw1 := wm_b t t1 p p1 true
      rw [bI_t] at hw1
      rw [lp_X9_lodge_63, if_neg (by rw [on_lt (by omega) (by omega)]; omega), he1, c_pick H V hT he t1 (by omega) p1 p2 p3]
      simp only [bs_q]
      rw [hw1]
      simp only [bs_q]
      rw [← he1, i_1, on_a]
      rfl
    · show lp_X10_lodge_208 _ _ (n' + 1) (Int32.ofNat t) y (Int32.ofNat k) = lp_X10_lodge_208 _ _ n' (Int32.ofNat (t ||| 2 ^ p)) (Int32.ofNat p) (Int32.ofNat (k + 1))
      rw [lp_X10_lodge_208, if_neg (by rw [on_lt (by omega) (by omega)]; omega), he1]
      refine (r_pick er V he (hl _ (by omega)) hN t1 t3 p1 p2 p3 _).trans ?_
      rw [← he1, i_1, or_b t t1 p p1, on_a]
set_option maxHeartbeats 2000000 in
theorem q_lodge {μ : Mem} (R : Rel μ) (a : Int32) : AgN (f_X9_lodge μ a) (fun μ' => f_X10_lodge μ' a) := by
  have V := R.V
  have H : HC (μ (0 + 1)) (μ 0 13) := R.H
  have hm := nh_le (μ 0 13) 8
  obtain ⟨Q, a1, a2, a3⟩ := c_weigh H V
  have HQ : HC (Q (0 + 1)) (μ 0 13) := by
    rw [show Q (0 + 1) = μ (0 + 1) from funext fun j => a2 (0 + 1) j (by omega)]
    exact H
  have frQ : FrS μ Q := fun g j i hs => by
    rw [a2 g j]
    rintro ⟨rfl, rfl⟩
    cases hs
  have erQ := frQ.row
  have cnt : f_J6_bitCount_0f7a4 (μ 1 1 5) = some (Int32.ofNat (nh (μ 0 13) 8)) := by
    rw [show μ 1 1 5 = Int32.ofNat (mk (nv (μ 0 13) 3) (hrB (μ 0 13))) from H.hr, bc_b _ (mk_256 _ V.c8), pc_sm _ (mk_256 _ V.c8)]
    congr 2
    refine sm_cg fun k _ => ?_
    rw [mk_tb]
    rfl
  obtain ⟨ν, b1, b2, b3, b4, b5⟩ := r_list (r := μ 0 13) V (B := upm (upm Q 0 12 0 0) 0 12 19 0) (by rw [upm_ne (by omega), upm_ne (by omega), erQ]) (upm_at _ _ _ _ _)
  have er : ν 0 13 = μ 0 13 := by rw [b1 0 13 (by omega), upm_ne (by omega), upm_ne (by omega), erQ]
  obtain ⟨N, hN⟩ : ∃ N, N = upA ν 0 20 (fl (ν 0 20) (wF (μ 0 13)) 0 (256 * (nh (μ 0 13) 8 + 1))) := ⟨_, rfl⟩
  have eN : ∀ j, j ≠ 20 → N 0 j = ν 0 j := fun j hj => by rw [hN, upA_ne (by omega)]
  have tN : ∀ idx, idx < 256 * (nh (μ 0 13) 8 + 1) → N 0 20 idx = wF (μ 0 13) idx := fun idx hi => by rw [hN, upA_at, fl_in (by omega)]
  have frN : FrS μ N := fun g j i hs => by
    by_cases h20 : g = 0 ∧ j = 20
    · obtain ⟨rfl, rfl⟩ := h20
      cases hs
    · rw [hN, upA_ne h20]
      by_cases h12 : g = 0 ∧ j = 12
      · obtain ⟨rfl, rfl⟩ := h12
        have i19 : i ≠ 19 := by rintro rfl; cases hs
        have i0 : i ≠ 0 := by rintro rfl; cases hs
        rw [b2 i i19, upm_n3 (by omega), upm_n3 (by omega), frQ 0 12 i hs]
      · have h19 : ¬ (g = 0 ∧ j = 19) := by
          rintro ⟨rfl, rfl⟩
          cases hs
        rw [b1 g j (by omega), upm_ne (by omega), upm_ne (by omega), frQ g j i hs]
  have goR : ∀ b : Int32, f_X10_lodge Q b = ix 0 2304 (if (N 0 20 (Int32.toNatClampNeg 0)) = 2000000000 then (some ((-1), N)) else (if b = (-1) then (ix 0 2304 (some ((N 0 20 (Int32.toNatClampNeg 0)), N))) else ((f_X10_isIn b 0 ((N 0 12 19) - 1)).bind fun (q22 : Int32) => if q22 = 0 then (some ((-1), N)) else (lp_X10_lodge_208 b N 4096 0 0 0)))) := fun b => by
    unfold f_X10_lodge
    rw [nm_q, nm_q, b5, b3, r_fill er V b3 b4, ← hN]
  have e20 : N 0 20 (Int32.toNatClampNeg 0) = Int32.ofNat (enc (wW (μ 0 13) (nh (μ 0 13) 8) 0)) := by
    refine (tN 0 (by omega)).trans ?_
    exact wF_at (r := μ 0 13) (i := 0) (t := 0) (by decide)
  have e19 : N 0 12 19 = Int32.ofNat (nh (μ 0 13) 8) := by rw [eN 12 (by decide), b3]
  have eQ0 : Q 0 11 (Int32.toNatClampNeg 0) = Int32.ofNat (wW (μ 0 13) (nh (μ 0 13) 8) 0) := by
    refine (a3 0 (by decide)).trans ?_
    unfold wT
    rw [show pc 0 = 0 from rfl, if_pos (Nat.zero_le _), Nat.sub_zero]
  have hwb := wW_b (μ 0 13) (nh (μ 0 13) 8) 0
  have goC : f_X9_lodge μ a = (if wW (μ 0 13) (nh (μ 0 13) 8) 0 < 100 then (if a = (-1) then some (Int32.ofNat (wW (μ 0 13) (nh (μ 0 13) 8) 0), Q) else (if a < 0 then (some ((-1), Q)) else (if a < Int32.ofNat (nh (μ 0 13) 8) then (lp_X9_lodge_63 a Q 4096 0 (-1) 0) else (some ((-1), Q))))) else (some ((-1), Q))) := by
    unfold f_X9_lodge
    rw [cnt]
    simp only [bs_q]
    rw [a1]
    simp only [bs_q]
    have i0 : ∀ E : Option (Int32 × Mem), ix 0 256 E = E := fun E => ix_on (k := 0) (by decide) (by decide)
    rw [i0, eQ0, i_100, il_lt (by omega) (by decide), i0]
  have i0 : ∀ E : Option (Int32 × Mem), ix 0 2304 E = E := fun E => ix_on (k := 0) (by decide) (by decide)
  show ∃ v μ1 μ2, f_X9_lodge μ a = some (v, μ1) ∧ f_X10_lodge μ1 a = some (v, μ2) ∧ Rel μ2
  have RN : Rel N := R.fr frN
  by_cases h0 : wW (μ 0 13) (nh (μ 0 13) 8) 0 < 100
  · rw [if_pos h0] at goC
    have h5 : enc (wW (μ 0 13) (nh (μ 0 13) 8) 0) = wW (μ 0 13) (nh (μ 0 13) 8) 0 := by
      unfold enc
      rw [if_neg (by omega)]
    rw [h5] at e20
    have goR2 := goR a
    rw [i0, e20, i_2e9, if_neg (by rw [on_eq (by omega) (by decide)]; omega), i0, e19] at goR2
    by_cases hm1 : a = -1
    · rw [if_pos hm1] at goC goR2
      exact ⟨_, _, _, goC, goR2, RN⟩
    · rw [if_neg hm1] at goC goR2
      by_cases hn : a < 0
      · rw [if_pos hn] at goC
        refine ⟨_, _, N, goC, ?_, RN⟩
        rw [goR2]
        unfold f_X10_isIn
        rw [if_pos hn]
        rfl
      · rw [if_neg hn] at goC
        have hd := dec_8 _ hm
        have hn2 : ¬ a.toInt < 0 := fun h => hn (Int32.lt_iff_toInt_lt.mpr h)
        by_cases hl : a < Int32.ofNat (nh (μ 0 13) 8)
        · obtain ⟨k, k1, rfl⟩ := nat_of hn (Int32.le_of_lt hl) (by omega)
          have k2 : k < nh (μ 0 13) 8 := by rwa [on_lt (by omega) (by omega)] at hl
          rw [if_pos hl] at goC
          obtain ⟨v, v1, v2⟩ := lodge_loop HQ V a3 (N := N) (by rw [eN 13 (by decide), er]) (fun a ha => by rw [eN 19 (by decide), b4 a ha]) tN h0 k2
          refine ⟨v, Q, N, goC.trans v1, ?_, RN⟩
          rw [goR2, i_1, on_sb (by omega), show f_X10_isIn (Int32.ofNat k) 0 (Int32.ofNat (nh (μ 0 13) 8 - 1)) = some (Int32.ofNat 1) from isIn_t (Nat.zero_le k) (by omega) (by omega)]
          simp only [bs_q]
          rw [if_neg (by decide)]
          exact v2
        · rw [if_neg hl] at goC
          refine ⟨_, _, N, goC, ?_, RN⟩
          rw [goR2]
          unfold f_X10_isIn
          rw [if_neg hn, if_pos]
          · rfl
          · rw [Int32.lt_iff_toInt_lt, hd]
            have hl2 : ¬ a.toInt < (Int32.ofNat (nh (μ 0 13) 8)).toInt := fun h => hl (Int32.lt_iff_toInt_lt.mpr h)
            rw [on_i (by omega)] at hl2
            omega
  · rw [if_neg h0] at goC
    refine ⟨_, _, N, goC, ?_, RN⟩
    rw [goR, i0, e20, show wW (μ 0 13) (nh (μ 0 13) 8) 0 = 100 by omega, enc_100, ← i_2e9, if_pos rfl]
