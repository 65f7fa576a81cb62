/-! ===== lodge ===== -/
def nh (r : Row) (k : Nat) : Nat := sm k (fun j => if hrC r j = true then 1 else 0)
theorem nh_t {r : Row} {k : Nat} (h : hrC r k = true) : nh r (k + 1) = nh r k + 1 := by
  show nh r k + (if hrC r k = true then 1 else 0) = _
  rw [if_pos h]
theorem nh_f {r : Row} {k : Nat} (h : ¬ hrC r k = true) : nh r (k + 1) = nh r k := by
  show nh r k + (if hrC r k = true then 1 else 0) = _
  rw [if_neg h]
  rfl
theorem nh_mono {r : Row} {j k : Nat} (h : j ≤ k) : nh r j ≤ nh r k := by
  obtain ⟨d, rfl⟩ : ∃ d, k = j + d := ⟨k - j, by omega⟩
  clear h
  induction d with
  | zero => exact Nat.le_refl _
  | succ d ih =>
    refine Nat.le_trans ih ?_
    show nh r (j + d) ≤ nh r (j + d) + _
    omega
theorem nh_le (r : Row) (k : Nat) : nh r k ≤ k := by
  have := sm_le (n := k) (b := 1) (f := fun j => if hrC r j = true then 1 else 0) fun j _ => by
    show (if hrC r j = true then 1 else 0) ≤ 1
    split <;> omega
  rwa [Nat.mul_one] at this
theorem nh_pad {r : Row} {d : Nat} : nh r (nv r 3 + d) = nh r (nv r 3) := by
  induction d with
  | zero => rfl
  | succ d ih =>
    rw [← ih]
    refine nh_f fun h => ?_
    have q : nv r 3 + d < nv r 3 := hrC_lt h
    omega
def La (r : Row) (a : Nat) : Nat → Nat
  | 0 => 0
  | k + 1 => if hrC r k = true ∧ nh r k = a then k else La r a k
theorem La_at {r : Row} {a j : Nat} (hh : hrC r j = true) (ha : nh r j = a) : ∀ k, j < k → La r a k = j := by
  intro k
  induction k with
  | zero => intro h; omega
  | succ k ih =>
    intro h
    show (if hrC r k = true ∧ nh r k = a then k else La r a k) = j
    by_cases e : j = k
    · subst e
      rw [if_pos ⟨hh, ha⟩]
    · have h1 := nh_mono (r := r) (show j + 1 ≤ k by omega)
      rw [nh_t hh] at h1
      rw [if_neg (fun q => by omega)]
      exact ih (by omega)
theorem La_ex {r : Row} {a : Nat} : ∀ k, a < nh r k → ∃ j, j < k ∧ hrC r j = true ∧ nh r j = a := by
  intro k
  induction k with
  | zero => intro h; exact absurd h (Nat.not_lt_zero _)
  | succ k ih =>
    intro h
    by_cases h1 : hrC r k = true
    · rw [nh_t h1] at h
      by_cases h2 : a = nh r k
      · exact ⟨k, by omega, h1, h2.symm⟩
      · obtain ⟨j, a1, a2, a3⟩ := ih (by omega)
        exact ⟨j, by omega, a2, a3⟩
    · rw [nh_f h1] at h
      obtain ⟨j, a1, a2, a3⟩ := ih h
      exact ⟨j, by omega, a2, a3⟩
theorem c_lodger {h : Nat} {μ : Mem} {r : Row} (H : HC (μ (h + 1)) r) (V : Vr r) {a : Nat} (ha : a < nh r 8) : f_X1_lodger h μ (Int32.ofNat a) = some (Int32.ofNat (La r a 8)) := by
  obtain ⟨j, j1, j2, j3⟩ := La_ex 8 ha
  rw [La_at j2 j3 8 j1]
  have hl := nh_le r 8
  unfold f_X1_lodger
  refine lpF (fun n (s : Int32 × Int32) => lp_X1_lodger_4 (Int32.ofNat a) h μ n s.1 s.2) (fun k => (Int32.ofNat (nh r k), Int32.ofNat k)) j _ (fun k hk n => ?_) (fun n => ?_) 4096 (by omega)
  · show lp_X1_lodger_4 _ _ _ _ (Int32.ofNat (nh r k)) (Int32.ofNat k) = lp_X1_lodger_4 _ _ _ _ (Int32.ofNat (nh r (k + 1))) (Int32.ofNat (k + 1))
    have h1 := nh_mono (r := r) (show k + 1 ≤ j by omega)
    rw [lp_X1_lodger_4, i_8, if_neg (by rw [on_le (by decide) (by omega)]; omega), c_here H V (by omega)]
    simp only [bs_q, i_0, ite_b0, i_1, on_a]
    by_cases h2 : hrC r k = true
    · rw [nh_t h2] at h1
      rw [if_pos h2, if_neg (by rw [on_eq (by omega) (by omega)]; omega), nh_t h2]
    · rw [if_neg h2, nh_f h2]
  · show lp_X1_lodger_4 _ _ _ _ (Int32.ofNat (nh r j)) (Int32.ofNat j) = _
    rw [lp_X1_lodger_4, i_8, if_neg (by rw [on_le (by decide) (by omega)]; omega), c_here H V (by omega)]
    simp only [bs_q, i_0, ite_b0]
    rw [if_pos j2, if_pos (by rw [j3])]
/-- the moves that a lodging of the rest costs -/
def wn (f : Nat → Nat) : Nat → Nat
  | 0 => 100
  | k + 1 => min (wn f k) (f k)
def wc (r : Row) (g : Nat) (W : Nat → Nat) (t p : Nat) : Nat := if t.testBit p = true then 100 else if sB r p (kyB r g) (nv r 4) = true then 100 else W (t ||| 2 ^ p) + (if rm r g = p then 0 else 1)
def wW (r : Row) : Nat → Nat → Nat
  | 0, _ => 0
  | e + 1, t => wn (wc r (La r (nh r 8 - (e + 1)) 8) (wW r e) t) 8
theorem wn_le (f : Nat → Nat) (k : Nat) : wn f k ≤ 100 := by
  induction k with
  | zero => exact Nat.le_refl _
  | succ k ih => exact Nat.le_trans (Nat.min_le_left _ _) ih
theorem wn_ex (f : Nat → Nat) (k : Nat) : wn f k = 100 ∨ ∃ j, j < k ∧ wn f k = f j := by
  induction k with
  | zero => exact .inl rfl
  | succ k ih =>
    have e : wn f (k + 1) = min (wn f k) (f k) := rfl
    by_cases h : wn f k ≤ f k
    · rw [e, Nat.min_eq_left h]
      rcases ih with h1 | ⟨j, h1, h2⟩
      · exact .inl h1
      · exact .inr ⟨j, by omega, h2⟩
    · exact .inr ⟨k, by omega, by rw [e]; omega⟩
theorem wW_b (r : Row) : ∀ e t, wW r e t ≤ e ∨ wW r e t = 100 := by
  intro e
  induction e with
  | zero => intro t; exact .inl (Nat.le_refl _)
  | succ e ih =>
    intro t
    have q : wW r (e + 1) t = wn (wc r (La r (nh r 8 - (e + 1)) 8) (wW r e) t) 8 := rfl
    have q2 := wn_le (wc r (La r (nh r 8 - (e + 1)) 8) (wW r e) t) 8
    rcases wn_ex (wc r (La r (nh r 8 - (e + 1)) 8) (wW r e) t) 8 with h | ⟨j, -, h⟩
    · exact .inr (q.trans h)
    · rw [q]
      rw [h] at q2 ⊢
      revert q2
      unfold wc
      split
      · intro _; exact .inr rfl
      · split
        · intro _; exact .inr rfl
        · intro h2
          rcases ih (t ||| 2 ^ j) with h3 | h3
          · left
            split <;> omega
          · right
            omega
theorem or_pc : ∀ t, t < 256 → ∀ p, p < 8 → t.testBit p = false → pc (t ||| 2 ^ p) = pc t + 1 ∧ t < t ||| 2 ^ p := by decide +kernel
theorem wc_b (r : Row) (g e : Nat) (he : e ≤ 8) (t p : Nat) : wc r g (wW r e) t p ≤ 101 := by
  unfold wc
  split
  · omega
  · split
    · omega
    · rcases wW_b r e (t ||| 2 ^ p) with h | h
      · split <;> omega
      · split <;> omega
theorem c_moves {μ : Mem} {r : Row} (H : HC (μ (0 + 1)) r) (V : Vr r) {e t p : Nat} (he : e + 1 ≤ nh r 8) (ht : t < 256) (hp : p < 8) (hw : t.testBit p = false → μ 0 11 (t ||| 2 ^ p) = Int32.ofNat (wW r e (t ||| 2 ^ p))) : f_X9_movesBy μ (Int32.ofNat (nh r 8 - (e + 1))) (Int32.ofNat p) (Int32.ofNat t) = some (Int32.ofNat (wc r (La r (nh r 8 - (e + 1)) 8) (wW r e) t p)) := by
  obtain ⟨j, j1, j2, j3⟩ := La_ex (r := r) (a := nh r 8 - (e + 1)) 8 (by omega)
  have hg := hrC_lt j2
  unfold f_X9_movesBy
  rw [c_lodger H V (by omega), La_at j2 j3 8 j1]
  simp only [bs_q]
  have hw1 := wm_b t ht p hp true
  rw [bI_t] at hw1
  have e1 : stb t p true = t ||| 2 ^ p := rfl
  rw [e1] at hw1
  rw [hw1, hold_b t ht p hp]
  simp only [bs_q, i_0, ite_b0]
  unfold wc
  by_cases h1 : t.testBit p = true
  · rw [if_pos h1, if_pos h1, i_100]
  · have h256 := or_256 ht (pow_256 hp)
    rw [if_neg h1, if_neg h1, i_256, if_neg (by rw [on_le (by decide) (by omega)]; omega), show μ 1 1 4 = μ (0 + 1) 1 4 from rfl, c_key H V hg]
    simp only [bs_q]
    rw [c_sight H V hp]
    simp only [bs_q]
    rw [show μ 1 0 8 = μ (0 + 1) 0 8 from rfl, H.bath, V.e4, hold_b _ (mk_256 _ (Nat.le_refl 8)) _ V.b4, mk_tb, decide_eq_true V.b4, Bool.true_and]
    simp only [bs_q, ite_b0]
    by_cases h2 : sB r p (kyB r j) (nv r 4) = true
    · rw [if_pos h2, if_pos h2, i_100]
    · rw [if_neg h2, if_neg h2, ix_on h256 (by decide), c_room (by omega), (H.g hg).1, V.rme (by omega)]
      simp only [bs_q]
      have h8 := V.rm8 (g := j) (by omega)
      rw [il_eq (by omega) (by omega), on_t (by omega), hw (by cases hq : t.testBit p; rfl; exact absurd hq h1)]
      by_cases h3 : rm r j = p
      · rw [if_pos h3, if_pos h3, on_a]
      · rw [if_neg h3, if_neg h3, i_1, on_a]
def wT (r : Row) (t : Nat) : Nat := if pc t ≤ nh r 8 then wW r (nh r 8 - pc t) t else 100
theorem wT_b (r : Row) (t : Nat) : wT r t ≤ 100 := by
  have := nh_le r 8
  unfold wT
  split
  · rcases wW_b r (nh r 8 - pc t) t with h | h <;> omega
  · omega
set_option maxHeartbeats 2000000 in
theorem c_weigh {μ : Mem} {r : Row} (H : HC (μ (0 + 1)) r) (V : Vr r) : ∃ ν, f_X9_weighLodgings μ (Int32.ofNat (nh r 8)) = some ν ∧ (∀ g j, ¬ (g = 0 ∧ j = 11) → ν g j = μ g j) ∧ ∀ t, t < 256 → ν 0 11 t = Int32.ofNat (wT r t) := by
  unfold f_X9_weighLodgings
  have hl := nh_le r 8
  refine lpP (fun n (s : Int32 × Mem) => lp_X9_weighLodgings_4 (Int32.ofNat (nh r 8)) n s.1 s.2) (fun o => ∃ ν, o = some ν ∧ (∀ g j, ¬ (g = 0 ∧ j = 11) → ν g j = μ g j) ∧ ∀ t, t < 256 → ν 0 11 t = Int32.ofNat (wT r t)) (fun k s => s.1 = Int32.ofNat (256 - k) + (-1) ∧ (∀ g j, ¬ (g = 0 ∧ j = 11) → s.2 g j = μ g j) ∧ ∀ t, 256 - k ≤ t → t < 256 → s.2 0 11 t = Int32.ofNat (wT r t)) 256 ?_ 4096 (255, μ) (by decide) ⟨rfl, fun _ _ _ => rfl, fun t (h1 : 256 - 0 ≤ t) (h2 : t < 256) => by omega⟩
  rintro k ⟨x, ξ⟩ hk ⟨e1, hF, hT⟩ n
  simp only at e1 hF hT
  subst e1
  by_cases h6 : k = 256
  · left
    subst h6
    refine ⟨ξ, ?_, hF, fun t ht => hT t (by omega) ht⟩
    show lp_X9_weighLodgings_4 _ (n + 1) (Int32.ofNat (256 - 256) + (-1)) ξ = _
    rw [lp_X9_weighLodgings_4, if_pos (by decide)]
  · right
    obtain ⟨t, ht, rfl⟩ : ∃ t, t < 256 ∧ k = 255 - t := ⟨255 - k, by omega, by omega⟩
    have ek : 256 - (255 - t) = t + 1 := by omega
    rw [ek] at hT
    refine ⟨by omega, (Int32.ofNat (256 - (255 - t + 1)) + (-1), upm ξ 0 11 t (Int32.ofNat (wT r t))), ⟨rfl, fun g j hg => ?_, fun s h1 h2 => ?_⟩, ?_⟩
    · show upm ξ 0 11 t _ g j = _
      rw [upm_ne (by omega), hF g j hg]
    · show upm ξ 0 11 t _ 0 11 s = _
      by_cases h3 : s = t
      · subst h3
        rw [upm_at]
      · rw [upm_n3 (by omega), hT s (by omega) h2]
    · show lp_X9_weighLodgings_4 _ (n + 1) (Int32.ofNat (256 - (255 - t)) + (-1)) ξ = lp_X9_weighLodgings_4 _ n _ (upm ξ 0 11 t (Int32.ofNat (wT r t)))
      have hb := pc_le t
      have hH : HC (ξ (0 + 1)) r := by
        rw [show ξ (0 + 1) = μ (0 + 1) from funext fun j => hF (0 + 1) j (by omega)]
        exact H
      rw [ek, dec_1, show 256 - (255 - t + 1) = t by omega, lp_X9_weighLodgings_4, i_0, if_neg (by rw [on_lt (by omega) (by decide)]; omega), bc_b t ht]
      simp only [bs_q, nm_q]
      have inn : ∀ K : Int32 → Option Mem, ∀ e, e + 1 ≤ nh r 8 → pc t = nh r 8 - (e + 1) → lp_X9_weighLodgings_34 (Int32.ofNat t) ξ (Int32.ofNat (pc t)) K 4096 100 (Int32.ofNat 0) = K (Int32.ofNat (wW r (e + 1) t)) := by
        intro K e he hp
        refine lpF (fun n (s : Int32 × Int32) => lp_X9_weighLodgings_34 (Int32.ofNat t) ξ (Int32.ofNat (pc t)) K n s.1 s.2) (fun k => (Int32.ofNat (wn (wc r (La r (nh r 8 - (e + 1)) 8) (wW r e) t) k), Int32.ofNat k)) 8 _ (fun k hk n => ?_) (fun n => rfl) 4096 (by decide)
        show lp_X9_weighLodgings_34 _ _ _ _ _ (Int32.ofNat (wn (wc r (La r (nh r 8 - (e + 1)) 8) (wW r e) t) k)) (Int32.ofNat k) = lp_X9_weighLodgings_34 _ _ _ _ _ (Int32.ofNat (min (wn (wc r (La r (nh r 8 - (e + 1)) 8) (wW r e) t) k) (wc r (La r (nh r 8 - (e + 1)) 8) (wW r e) t k))) (Int32.ofNat (k + 1))
        have q1 := wn_le (wc r (La r (nh r 8 - (e + 1)) 8) (wW r e) t) k
        have q2 := wc_b r (La r (nh r 8 - (e + 1)) 8) e (by omega) t k
        rw [lp_X9_weighLodgings_34, i_8, if_neg (by rw [on_le (by decide) (by omega)]; omega), hp, c_moves hH V he ht hk fun hq => ?_]
        · simp only [bs_q]
          rw [on_min (by omega) (by omega), i_1, on_a]
        · obtain ⟨o1, o2⟩ := or_pc t ht k hk hq
          rw [hT _ (by omega) (or_256 ht (pow_256 hk))]
          unfold wT
          rw [o1, if_pos (by omega), show nh r 8 - (pc t + 1) = e by omega]
      have cE : (Int32.ofNat (pc t) = Int32.ofNat (nh r 8)) = (pc t = nh r 8) := on_eq (by omega) (by omega)
      have cL : (Int32.ofNat (nh r 8) ≤ Int32.ofNat (pc t)) = (nh r 8 ≤ pc t) := on_le (by omega) (by omega)
      simp only [cE, cL, ix_on ht (show 256 < 5000 by decide), on_t (show t < 2147483648 by omega), i_1]
      by_cases c1 : pc t = nh r 8
      · rw [if_pos c1, if_pos (Nat.le_of_eq c1.symm)]
        unfold wT
        rw [if_pos (Nat.le_of_eq c1), c1, Nat.sub_self]
        rfl
      · rw [if_neg c1]
        by_cases c2 : nh r 8 ≤ pc t
        · rw [if_pos c2]
          unfold wT
          rw [if_neg (by omega)]
          rfl
        · rw [if_neg c2, inn _ (nh r 8 - pc t - 1) (by omega) (by omega), show nh r 8 - pc t - 1 + 1 = nh r 8 - pc t by omega]
          unfold wT
          rw [if_pos (by omega)]
/-! the reference's lodging -/
def enc (v : Nat) : Nat := if v = 100 then 2000000000 else v
theorem i_2e9 : (2000000000 : Int32) = Int32.ofNat 2000000000 := rfl
theorem i_19 : (19 : Int32) = Int32.ofNat 19 := rfl
theorem enc_b {v : Nat} (h : v ≤ 101) : enc v ≤ 2000000000 := by
  unfold enc
  split <;> omega
theorem enc_min {a b : Nat} (ha : a ≤ 100) (hb : b ≤ 101) : f_X10_lesser (Int32.ofNat (enc a)) (Int32.ofNat (enc (min 100 b))) = some (Int32.ofNat (enc (min a b))) := by
  have h1 := enc_b (v := a) (by omega)
  have h2 := enc_b (v := min 100 b) (by omega)
  rw [lesser_e, on_min (by omega) (by omega)]
  congr 2
  unfold enc
  split <;> split <;> split <;> omega
theorem enc_100 : enc 100 = 2000000000 := rfl
theorem r_by {ν : Mem} {r : Row} (er : ν 0 13 = r) (V : Vr r) {i g e t p : Nat} (hi : i < 8) (hg : g < 8) (he : e ≤ 8) (hl : ν 0 19 i = Int32.ofNat g) (ht : t < 256) (hp : p < 8) (hw : ν 0 20 (256 * (i + 1) + (t ||| 2 ^ p)) = Int32.ofNat (enc (wW r e (t ||| 2 ^ p)))) : f_X10_by ν (Int32.ofNat i) (Int32.ofNat t) (Int32.ofNat p) = some (Int32.ofNat (enc (min 100 (wc r g (wW r e) t p)))) := by
  have h256 := or_256 ht (pow_256 hp)
  unfold f_X10_by
  rw [ix_on hi (by decide), isOf_b t ht p hp]
  simp only [bs_q, i_0, ite_b0]
  unfold wc
  by_cases h1 : t.testBit p = true
  · rw [if_pos h1, if_pos h1, i_2e9]
    rfl
  · rw [if_neg h1, if_neg h1, on_t (by omega), hl, show (3 : Int32) = Int32.ofNat 3 from rfl, R_of er hg (by decide)]
    simp only [bs_q, nm_q]
    have k4 : ν 0 13 (Int32.toNatClampNeg 4) = Int32.ofNat (nv r 4) := by
      rw [er]
      exact V.e4
    have ei : 256 * (Int32.ofNat i + 1) + (Int32.ofNat t ||| jshl 1 (Int32.ofNat p)) = Int32.ofNat (256 * (i + 1) + (t ||| 2 ^ p)) := by
      rw [i_1, or_b t ht p hp, i_256, on_a, on_m, on_a]
    rw [ei, k4, on_t (by omega), hw]
    have hk : (r (24 + 5 * g + 3) = (1 : Int32) ∧ kyB r g = true) ∨ (¬ r (24 + 5 * g + 3) = (1 : Int32) ∧ kyB r g = false) := by
      unfold kyB
      by_cases h2 : r (24 + 5 * g + 3) = Int32.ofNat 1
      · exact .inl ⟨h2, decide_eq_true h2⟩
      · exact .inr ⟨h2, decide_eq_false h2⟩
    have s1 := R_seesFrom er V hp V.b4 true
    have s0 := R_seesFrom er V hp V.b4 false
    rw [bI_t] at s1
    rw [bI_f] at s0
    have h8 := V.rm8 hg
    have hb := wW_b r e (t ||| 2 ^ p)
    have fin : ∀ b : Bool, (ix 4 704 ((some (bI (sB r p b (nv r 4)))).bind fun q4 : Int32 => if q4 = Int32.ofNat 0 then ix (Int32.ofNat (256 * (i + 1) + (t ||| 2 ^ p))) 2304 (if Int32.ofNat (enc (wW r e (t ||| 2 ^ p))) = 2000000000 then some 2000000000 else ix (Int32.ofNat (256 * (i + 1) + (t ||| 2 ^ p))) 2304 ((f_X10_of ν (Int32.ofNat g) (Int32.ofNat 0)).bind fun q5 : Int32 => if q5 = Int32.ofNat p then some (Int32.ofNat (enc (wW r e (t ||| 2 ^ p))) + Int32.ofNat 0) else some (Int32.ofNat (enc (wW r e (t ||| 2 ^ p))) + 1))) else some 2000000000)) = some (Int32.ofNat (enc (min 100 (if sB r p b (nv r 4) = true then 100 else wW r e (t ||| 2 ^ p) + if rm r g = p then 0 else 1)))) := by
      intro b
      rw [show (4 : Int32) = Int32.ofNat 4 from rfl, ix_on (by decide) (by decide)]
      simp only [bs_q, ite_b0]
      by_cases h2 : sB r p b (nv r 4) = true
      · rw [if_pos h2, if_pos h2, i_2e9]
        rfl
      · rw [if_neg h2, if_neg h2, ix_on (by omega) (by decide), i_2e9, il_eq (by have := enc_b (v := wW r e (t ||| 2 ^ p)) (by omega); omega) (by decide)]
        by_cases h3 : wW r e (t ||| 2 ^ p) = 100
        · rw [h3, if_pos enc_100, Nat.min_eq_left (by omega), enc_100]
        · have h4 : enc (wW r e (t ||| 2 ^ p)) = wW r e (t ||| 2 ^ p) := if_neg h3
          have h5 : wW r e (t ||| 2 ^ p) ≤ e := by omega
          rw [h4, if_neg (by omega), ix_on (by omega) (by decide), R_of0 er hg, V.rme hg]
          simp only [bs_q]
          rw [il_eq (by omega) (by omega)]
          by_cases h6 : rm r g = p
          · rw [if_pos h6, if_pos h6, Nat.min_eq_right (by omega), on_a]
            congr 2
            exact (if_neg (by omega)).symm
          · rw [if_neg h6, if_neg h6, Nat.min_eq_right (by omega), i_1, on_a]
            congr 2
            exact (if_neg (by omega)).symm
    rcases hk with ⟨k1, k2⟩ | ⟨k1, k2⟩
    · rw [if_pos k1, k2, s1]
      exact fin true
    · rw [if_neg k1, k2, show Int32.ofNat 0 = (0 : Int32) from rfl, s0]
      exact fin false
def wF (r : Row) : Row := fun idx => Int32.ofNat (enc (wW r (nh r 8 - idx / 256) (idx % 256)))
theorem wF_at {r : Row} {i t : Nat} (ht : t < 256) : wF r (256 * i + t) = Int32.ofNat (enc (wW r (nh r 8 - i) t)) := by
  unfold wF
  rw [show (256 * i + t) / 256 = i by omega, show (256 * i + t) % 256 = t by omega]
set_option maxHeartbeats 2000000 in
theorem r_level {ν : Mem} {r : Row} (er : ν 0 13 = r) (V : Vr r) (em : ν 0 12 19 = Int32.ofNat (nh r 8)) (hl : ∀ a, a < nh r 8 → ν 0 19 a = Int32.ofNat (La r a 8)) {i : Nat} (hi : i ≤ nh r 8) (hw : i < nh r 8 → ∀ t, t < 256 → ν 0 20 (256 * (i + 1) + t) = wF r (256 * (i + 1) + t)) (K : Mem → Option (Int32 × Mem)) : lp_X10_lodge_70 (Int32.ofNat i) K 4096 0 ν = K (upA ν 0 20 (fl (ν 0 20) (wF r) (256 * i) 256)) := by
  have hm := nh_le r 8
  refine Eq.trans ?_ (lpF (fun n (s : Int32 × Mem) => lp_X10_lodge_70 (Int32.ofNat i) K n s.1 s.2) (fun k => (Int32.ofNat k, upA ν 0 20 (fl (ν 0 20) (wF r) (256 * i) k))) 256 _ (fun k hk n => ?_) (fun n => rfl) 4096 (by decide))
  · show _ = lp_X10_lodge_70 (Int32.ofNat i) K 4096 0 (upA ν 0 20 (fl (ν 0 20) (wF r) (256 * i) 0))
    rw [fl_0, upA_id]
  · show lp_X10_lodge_70 _ _ _ (Int32.ofNat k) (upA ν 0 20 (fl (ν 0 20) (wF r) (256 * i) k)) = lp_X10_lodge_70 _ _ _ (Int32.ofNat (k + 1)) (upA ν 0 20 (fl (ν 0 20) (wF r) (256 * i) (k + 1)))
    have fr : ∀ j, j ≠ 20 → (upA ν 0 20 (fl (ν 0 20) (wF r) (256 * i) k)) 0 j = ν 0 j := fun j hj => upA_ne (by omega)
    rw [lp_X10_lodge_70, i_256, if_neg (by rw [on_le (by decide) (by omega)]; omega), nm_q]
    have key : ∀ v : Nat, Int32.ofNat v = wF r (256 * i + k) → ix (256 * Int32.ofNat i + Int32.ofNat k) 2304 (nm (upm (upA ν 0 20 (fl (ν 0 20) (wF r) (256 * i) k)) 0 20 (256 * Int32.ofNat i + Int32.ofNat k).toNatClampNeg (Int32.ofNat v)) fun (μ21 : Mem) => lp_X10_lodge_70 (Int32.ofNat i) K n (Int32.ofNat k + 1) μ21) = lp_X10_lodge_70 (Int32.ofNat i) K n (Int32.ofNat (k + 1)) (upA ν 0 20 (fl (ν 0 20) (wF r) (256 * i) (k + 1))) := fun v hv => by
      rw [i_256, on_m, on_a, ix_on (by omega) (by decide), nm_q, on_t (by omega), upA_upm, upA_at, hv, fl_s, i_1, on_a]
      congr 1
      funext a b
      by_cases hab : a = 0 ∧ b = 20
      · obtain ⟨rfl, rfl⟩ := hab
        rw [upA_at, upA_at]
      · rw [upA_ne hab, upA_ne hab, upA_ne hab]
    have inn : ∀ v0 : Nat, (i = nh r 8 → v0 = 0) → (i < nh r 8 → v0 = 2000000000) → ∀ J : Int32 → Option (Int32 × Mem), lp_X10_lodge_97 (Int32.ofNat i) (Int32.ofNat k) (upA ν 0 20 (fl (ν 0 20) (wF r) (256 * i) k)) J 4096 (Int32.ofNat v0) 0 = J (wF r (256 * i + k)) := fun v0 h0 h1 J => by
      rw [wF_at hk]
      by_cases c1 : i = nh r 8
      · rw [lp_X10_lodge_97, i_0, i_8, if_neg (by decide), fr 12 (by decide), em, if_pos (by rw [c1, on_le (by omega) (by omega)]; omega), h0 c1, c1, Nat.sub_self]
        rfl
      · obtain ⟨e, he⟩ : ∃ e, i = nh r 8 - (e + 1) ∧ e + 1 ≤ nh r 8 := ⟨nh r 8 - i - 1, by omega, by omega⟩
        obtain ⟨j, j1, j2, j3⟩ := La_ex (r := r) (a := i) 8 (by omega)
        rw [h1 (by omega), show nh r 8 - i = e + 1 by omega]
        refine lpF (fun n (s : Int32 × Int32) => lp_X10_lodge_97 (Int32.ofNat i) (Int32.ofNat k) (upA ν 0 20 (fl (ν 0 20) (wF r) (256 * i) k)) J n s.1 s.2) (fun p => (Int32.ofNat (enc (wn (wc r (La r (nh r 8 - (e + 1)) 8) (wW r e) k) p)), Int32.ofNat p)) 8 _ (fun p hp n => ?_) (fun n => rfl) 4096 (by decide)
        show lp_X10_lodge_97 _ _ _ _ _ (Int32.ofNat (enc (wn (wc r (La r (nh r 8 - (e + 1)) 8) (wW r e) k) p))) (Int32.ofNat p) = lp_X10_lodge_97 _ _ _ _ _ (Int32.ofNat (enc (min (wn (wc r (La r (nh r 8 - (e + 1)) 8) (wW r e) k) p) (wc r (La r (nh r 8 - (e + 1)) 8) (wW r e) k p)))) (Int32.ofNat (p + 1))
        rw [lp_X10_lodge_97, i_8, if_neg (by rw [on_le (by decide) (by omega)]; omega), fr 12 (by decide), em, if_neg (by rw [on_le (by omega) (by omega)]; omega)]
        have hor := or_256 hk (pow_256 hp)
        rw [r_by (ν := upA ν 0 20 (fl (ν 0 20) (wF r) (256 * i) k)) (r := r) (g := La r (nh r 8 - (e + 1)) 8) (e := e) (by rw [fr 13 (by decide), er]) V (by omega) (by rw [← he.1, La_at j2 j3 8 j1]; omega) (by omega) (by rw [fr 19 (by decide), hl i (by omega), ← he.1]) hk hp (by rw [upA_at, fl_out (by omega), hw (by omega) _ hor, wF_at hor, show nh r 8 - (i + 1) = e by omega])]
        simp only [bs_q]
        rw [enc_min (wn_le _ _) (wc_b r _ e (by omega) k p)]
        simp only [bs_q]
        rw [i_1, on_a]
    have e12 : (upA ν 0 20 (fl (ν 0 20) (wF r) (256 * i) k)) 0 12 19 = Int32.ofNat (nh r 8) := by rw [fr 12 (by decide), em]
    simp only [nm_q]
    by_cases c1 : i = nh r 8
    · rw [if_pos (by rw [e12, c1]), i_0]
      refine (inn 0 (fun _ => rfl) (fun h => by omega) _).trans ?_
      rw [wF_at hk]
      exact key _ (wF_at hk).symm
    · rw [if_neg (by rw [e12, on_eq (by omega) (by omega)]; exact c1), i_2e9]
      refine (inn 2000000000 (fun h => absurd h c1) (fun h => rfl) _).trans ?_
      rw [wF_at hk]
      exact key _ (wF_at hk).symm
