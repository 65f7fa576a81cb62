/-! ===== the law's text, both at once: a part of a sum ===== -/
def CS (b : Nat → Nat) (t m : Nat) (μ : Mem) (k l : Nat) : Prop := TOK μ b t m ∧ k ≤ m ∧ μ 0 3 4 = Int32.ofNat k ∧ μ 16 7 2 = Int32.ofNat l ∧ l ≤ k
def cF (l : Nat) (μ μ' : Mem) : Prop := ∀ g j i, ¬ (g = 0 ∧ j = 3 ∧ (i = 4 ∨ i = 5)) → ¬ (g = 16 ∧ (j = 8 ∧ l ≤ i ∨ j = 7 ∧ i = 2)) → μ' g j i = μ g j i
def RS (b : Nat → Nat) (t : Nat) (ν : Mem) (k p a : Nat) : Prop := LT ν b t ∧ p ≤ t ∧ ν 0 12 11 = Int32.ofNat p ∧ skp b t p = tk b t k ∧ ν 0 12 12 = -1 ∧ ν 0 12 13 = Int32.ofNat a ∧ BQ ν
def FS (b : Nat → Nat) (t : Nat) (ν : Mem) (k a : Nat) : Prop := LT ν b t ∧ ν 0 12 12 = Int32.ofNat (tk b t k) ∧ ∃ p, p + a ≤ 410 ∧ ν 0 12 11 = Int32.ofNat p
def rF (ν ν' : Mem) : Prop := ∀ g j i, ¬ (g = 0 ∧ j = 12 ∧ (i = 11 ∨ i = 12 ∨ i = 13 ∨ i = 17)) → ν' g j i = ν g j i
theorem rF.refl (ν : Mem) : rF ν ν := fun _ _ _ _ => rfl
theorem rF.trans {ν ν1 ν2 : Mem} (h : rF ν ν1) (h2 : rF ν1 ν2) : rF ν ν2 := fun g j i hn => (h2 g j i hn).trans (h g j i hn)
theorem rF.upm {ν ν' : Mem} (h : rF ν ν') {i : Nat} (v : Int32) (hi : i = 11 ∨ i = 12 ∨ i = 13 ∨ i = 17) : rF ν (upm ν' 0 12 i v) := fun g j k hn => by rw [upm_n3 (by omega)]; exact h g j k hn
theorem rF.facts {ν ν' : Mem} (h : rF ν ν') : factsQ ν' = factsQ ν := funext fun i => by
  unfold factsQ
  split
  · exact h 0 18 i (by omega)
  · split
    · exact h 0 12 15 (by omega)
    · exact h 0 12 16 (by omega)
theorem c_put4 {μ : Mem} {l : Nat} (hl : l < 400) (e : μ 16 7 2 = Int32.ofNat l) (x : Int32) : f_X4_put 15 μ x = some (upm (upm μ 16 8 l x) 16 7 2 (Int32.ofNat (l + 1))) := by
  unfold f_X4_put
  rw [show μ (15 + 1) 7 2 = Int32.ofNat l from e, i_400, if_neg (by rw [on_le (by omega) (by omega)]; omega), ix_on (by omega) (by decide), on_t (by omega), nm_q, nm_q, upm_ne (by omega), show μ (15 + 1) 7 2 = Int32.ofNat l from e, i_1, on_a]
theorem kd2 {b : Nat → Nat} {t s : Nat} (h : kd b t s = 2) : s < t ∧ isL (b s) = false ∧ isD (b s) = true ∧ nbv b t s ≤ 999 := by
  unfold kd at h
  by_cases a1 : t ≤ s
  · rw [if_pos a1] at h
    omega
  · rw [if_neg a1] at h
    by_cases a2 : isL (b s) = true
    · rw [if_pos a2] at h
      have := wk_big (b := b) (s := s) (e := en b t s)
      omega
    · have a2' : isL (b s) = false := by cases hq : isL (b s); rfl; exact absurd hq a2
      rw [if_neg a2] at h
      by_cases a3 : isD (b s) = true
      · exact ⟨by omega, a2', a3, nb_le a2' a3⟩
      · rw [if_neg a3] at h
        have := sg_s (c := b s)
        omega
theorem kd_dig {b : Nat → Nat} {t s : Nat} (h1 : s < t) (h : isD (b s) = true) : kd b t s = 1 ∨ kd b t s = 2 := by
  unfold kd
  rw [if_neg (by omega), if_neg (fun q => by rw [isLD q] at h; cases h), if_pos h]
  split <;> omega
theorem rs_wrong {ν : Mem} {x : Int32} (h : ν 0 12 12 = -1) : f_X10_wrong ν x = some (upm ν 0 12 12 x) := by
  unfold f_X10_wrong
  rw [if_pos h, nm_q]
theorem nm_cg {τ α : Type} {x y : α} {k : α → Option τ} (h : x = y) : nm x k = nm y k := by rw [h]
/-- a part: a number, a fact, or none -/
theorem r_part {b : Nat → Nat} {t : Nat} {ν : Mem} {k p a : Nat} (S : RS b t ν k p a) (ha : a ≤ 6) (hk : tk b t k ≤ t) : (kd b t (tk b t k) = 2 → f_X10_part ν = some (Int32.ofNat (nbv b t (tk b t k)), upm ν 0 12 11 (Int32.ofNat (en b t (tk b t k))))) ∧ (∀ i, i < 7 → kd b t (tk b t k) = 10 + i → f_X10_part ν = some (ν 0 18 i, upm ν 0 12 11 (Int32.ofNat (en b t (tk b t k))))) ∧ (kd b t (tk b t k) ≠ 2 → (∀ i, i < 7 → kd b t (tk b t k) ≠ 10 + i) → ∃ x p', p' ≤ t ∧ f_X10_part ν = some (x, upm (upm ν 0 12 11 (Int32.ofNat p')) 0 12 12 (Int32.ofNat (tk b t k)))) := by
  obtain ⟨T, hp, ep, es, ef, ed, -⟩ := S
  have T' := T
  obtain ⟨t1, t2, t3, t4⟩ := T'
  have hsb := skp_b (b := b) hp
  obtain ⟨s, hs⟩ : ∃ s, s = tk b t k := ⟨_, rfl⟩
  rw [← hs] at es hk ⊢
  have TS : LT (upm ν 0 12 11 (Int32.ofNat s)) b t := T.upm _ (by omega)
  have eS : (upm ν 0 12 11 (Int32.ofNat s)) 0 12 11 = Int32.ofNat s := upm_at _ _ _ _ _
  have fS : (upm ν 0 12 11 (Int32.ofNat s)) 0 12 12 = -1 := by rw [upm_n3 (by omega), ef]
  have sk : skp b t s = s := by rw [← es, skp_id hp]
  have has : ∀ a, a < 68 → 43 < a → f_X10_has a (upm ν 0 12 11 (Int32.ofNat s)) = some (bI (decide (kd b t s = wcd (cwd a))), upm ν 0 12 11 (Int32.ofNat (if kd b t s = wcd (cwd a) then en b t s else s))) := fun a h1 h2 => by
    have := r_has TS hk eS h1 h2
    rwa [sk, upm_2] at this
  have yes : ∀ a c, a < 68 → 43 < a → wcd (cwd a) = c → kd b t s = c → f_X10_has a (upm ν 0 12 11 (Int32.ofNat s)) = some (1, upm ν 0 12 11 (Int32.ofNat (en b t s))) := fun a c h1 h2 h3 h4 => by
    rw [has a h1 h2, h3, if_pos h4, decide_eq_true h4]
    rfl
  have no : ∀ a c, a < 68 → 43 < a → wcd (cwd a) = c → ¬ kd b t s = c → f_X10_has a (upm ν 0 12 11 (Int32.ofNat s)) = some (0, upm ν 0 12 11 (Int32.ofNat s)) := fun a c h1 h2 h3 h4 => by
    rw [has a h1 h2, h3, if_neg h4, decide_eq_false h4]
    rfl
  have head : f_X10_part ν = if s < t ∧ isD (b s) = true then f_X10_figures (upm ν 0 12 11 (Int32.ofNat s)) 0 (Int32.ofNat 999) else (if kd b t s = 10 then some (ν 0 18 0, upm ν 0 12 11 (Int32.ofNat (en b t s))) else if kd b t s = 11 then some (ν 0 18 1, upm ν 0 12 11 (Int32.ofNat (en b t s))) else if kd b t s = 12 then some (ν 0 18 2, upm ν 0 12 11 (Int32.ofNat (en b t s))) else if kd b t s = 13 then some (ν 0 18 3, upm ν 0 12 11 (Int32.ofNat (en b t s))) else if kd b t s = 14 then some (ν 0 18 4, upm ν 0 12 11 (Int32.ofNat (en b t s))) else if kd b t s = 15 then some (ν 0 18 5, upm ν 0 12 11 (Int32.ofNat (en b t s))) else if kd b t s = 16 then some (ν 0 18 6, upm ν 0 12 11 (Int32.ofNat (en b t s))) else some (0, upm (upm ν 0 12 11 (Int32.ofNat s)) 0 12 12 (Int32.ofNat s))) := by
    have jn : ∀ i, i < 7 → ∀ N : Mem, N 0 18 = ν 0 18 → (if Int32.ofNat i = (-1 : Int32) then ((f_X10_wrong N (N 0 12 11)).bind fun (q5 : Mem) => (some (0, q5) : Option (Int32 × Mem))) else ix (Int32.ofNat i) 7 (some ((N 0 18 (Int32.ofNat i).toNatClampNeg), N))) = some (ν 0 18 i, N) := fun i hi N hN => by
      rw [if_neg (by rw [show (-1 : Int32) = -Int32.ofNat 1 from rfl, on_neg1 (by omega)]; exact id), ix_on hi (by decide), on_t (by omega), hN]
    have n18 : ∀ x, (upm ν 0 12 11 x) 0 18 = ν 0 18 := fun x => upm_ne (by omega)
    unfold f_X10_part
    rw [if_pos ef, r_skip T hp ep, es, bs_q]
    refine (nm_cg (y := if kd b t s = 10 then some (ν 0 18 0, upm ν 0 12 11 (Int32.ofNat (en b t s))) else if kd b t s = 11 then some (ν 0 18 1, upm ν 0 12 11 (Int32.ofNat (en b t s))) else if kd b t s = 12 then some (ν 0 18 2, upm ν 0 12 11 (Int32.ofNat (en b t s))) else if kd b t s = 13 then some (ν 0 18 3, upm ν 0 12 11 (Int32.ofNat (en b t s))) else if kd b t s = 14 then some (ν 0 18 4, upm ν 0 12 11 (Int32.ofNat (en b t s))) else if kd b t s = 15 then some (ν 0 18 5, upm ν 0 12 11 (Int32.ofNat (en b t s))) else if kd b t s = 16 then some (ν 0 18 6, upm ν 0 12 11 (Int32.ofNat (en b t s))) else some (0, upm (upm ν 0 12 11 (Int32.ofNat s)) 0 12 12 (Int32.ofNat s))) ?_).trans ?_
    · by_cases h0 : kd b t s = 10
      · rw [if_pos h0, show f_X10_has 50 (upm ν 0 12 11 (Int32.ofNat s)) = some (1, upm ν 0 12 11 (Int32.ofNat (en b t s))) from yes 50 10 (by decide) (by decide) (by decide) h0]
        simp only [bs_q, nm_q]
        rw [if_neg (show ¬ (1 : Int32) = 0 by decide)]
        exact jn 0 (by decide) _ (n18 _)
      rw [if_neg h0, show f_X10_has 50 (upm ν 0 12 11 (Int32.ofNat s)) = some (0, upm ν 0 12 11 (Int32.ofNat s)) from no 50 10 (by decide) (by decide) (by decide) h0]
      simp only [bs_q, nm_q]
      rw [if_pos trivial]
      by_cases h1 : kd b t s = 11
      · rw [if_pos h1, show f_X10_has 51 (upm ν 0 12 11 (Int32.ofNat s)) = some (1, upm ν 0 12 11 (Int32.ofNat (en b t s))) from yes 51 11 (by decide) (by decide) (by decide) h1]
        simp only [bs_q, nm_q]
        rw [if_neg (show ¬ (1 : Int32) = 0 by decide)]
        exact jn 1 (by decide) _ (n18 _)
      rw [if_neg h1, show f_X10_has 51 (upm ν 0 12 11 (Int32.ofNat s)) = some (0, upm ν 0 12 11 (Int32.ofNat s)) from no 51 11 (by decide) (by decide) (by decide) h1]
      simp only [bs_q, nm_q]
      rw [if_pos trivial]
      by_cases h2 : kd b t s = 12
      · rw [if_pos h2, show f_X10_has 52 (upm ν 0 12 11 (Int32.ofNat s)) = some (1, upm ν 0 12 11 (Int32.ofNat (en b t s))) from yes 52 12 (by decide) (by decide) (by decide) h2]
        simp only [bs_q, nm_q]
        rw [if_neg (show ¬ (1 : Int32) = 0 by decide)]
        exact jn 2 (by decide) _ (n18 _)
      rw [if_neg h2, show f_X10_has 52 (upm ν 0 12 11 (Int32.ofNat s)) = some (0, upm ν 0 12 11 (Int32.ofNat s)) from no 52 12 (by decide) (by decide) (by decide) h2]
      simp only [bs_q, nm_q]
      rw [if_pos trivial]
      by_cases h3 : kd b t s = 13
      · rw [if_pos h3, show f_X10_has 53 (upm ν 0 12 11 (Int32.ofNat s)) = some (1, upm ν 0 12 11 (Int32.ofNat (en b t s))) from yes 53 13 (by decide) (by decide) (by decide) h3]
        simp only [bs_q, nm_q]
        rw [if_neg (show ¬ (1 : Int32) = 0 by decide)]
        exact jn 3 (by decide) _ (n18 _)
      rw [if_neg h3, show f_X10_has 53 (upm ν 0 12 11 (Int32.ofNat s)) = some (0, upm ν 0 12 11 (Int32.ofNat s)) from no 53 13 (by decide) (by decide) (by decide) h3]
      simp only [bs_q, nm_q]
      rw [if_pos trivial]
      by_cases h4 : kd b t s = 14
      · rw [if_pos h4, show f_X10_has 54 (upm ν 0 12 11 (Int32.ofNat s)) = some (1, upm ν 0 12 11 (Int32.ofNat (en b t s))) from yes 54 14 (by decide) (by decide) (by decide) h4]
        simp only [bs_q, nm_q]
        rw [if_neg (show ¬ (1 : Int32) = 0 by decide)]
        exact jn 4 (by decide) _ (n18 _)
      rw [if_neg h4, show f_X10_has 54 (upm ν 0 12 11 (Int32.ofNat s)) = some (0, upm ν 0 12 11 (Int32.ofNat s)) from no 54 14 (by decide) (by decide) (by decide) h4]
      simp only [bs_q, nm_q]
      rw [if_pos trivial]
      by_cases h5 : kd b t s = 15
      · rw [if_pos h5, show f_X10_has 55 (upm ν 0 12 11 (Int32.ofNat s)) = some (1, upm ν 0 12 11 (Int32.ofNat (en b t s))) from yes 55 15 (by decide) (by decide) (by decide) h5]
        simp only [bs_q, nm_q]
        rw [if_neg (show ¬ (1 : Int32) = 0 by decide)]
        exact jn 5 (by decide) _ (n18 _)
      rw [if_neg h5, show f_X10_has 55 (upm ν 0 12 11 (Int32.ofNat s)) = some (0, upm ν 0 12 11 (Int32.ofNat s)) from no 55 15 (by decide) (by decide) (by decide) h5]
      simp only [bs_q, nm_q]
      rw [if_pos trivial]
      by_cases h6 : kd b t s = 16
      · rw [if_pos h6, show f_X10_has 56 (upm ν 0 12 11 (Int32.ofNat s)) = some (1, upm ν 0 12 11 (Int32.ofNat (en b t s))) from yes 56 16 (by decide) (by decide) (by decide) h6]
        simp only [bs_q, nm_q]
        rw [if_neg (show ¬ (1 : Int32) = 0 by decide)]
        exact jn 6 (by decide) _ (n18 _)
      rw [if_neg h6, show f_X10_has 56 (upm ν 0 12 11 (Int32.ofNat s)) = some (0, upm ν 0 12 11 (Int32.ofNat s)) from no 56 16 (by decide) (by decide) (by decide) h6]
      simp only [bs_q, nm_q]
      rw [if_pos trivial]
      rw [rs_wrong fS, eS]
      rfl
    · rw [nm_q, upm_n3 (by omega), t2, eS, il_le (by omega) (by omega)]
      by_cases h1 : t ≤ s
      · rw [if_pos h1, if_neg (show ¬ (s < t ∧ isD (b s) = true) from fun h => by omega)]
      · rw [if_neg h1, r_letter TS (by omega)]
        simp only [bs_q]
        have hb := t4 s (by omega)
        rw [i_48, i_57, r_isIn (by omega) (by decide) (by decide)]
        simp only [bs_q]
        rw [ite_z]
        show (if isD (b s) = true then _ else _) = _
        by_cases h2 : isD (b s) = true
        · rw [if_pos h2, if_pos ⟨by omega, h2⟩, i_999]
          cases f_X10_figures (upm ν 0 12 11 (Int32.ofNat s)) 0 (Int32.ofNat 999) <;> rfl
        · rw [if_neg h2, if_neg (show ¬ (s < t ∧ isD (b s) = true) from fun h => h2 h.2)]
  have fg := r_figures TS hk eS fS (u := 999) (by decide)
  rw [sk, upm_2] at fg
  refine ⟨fun h => ?_, fun i hi h => ?_, fun h h2 => ?_⟩
  · obtain ⟨q1, q2, q3, q4⟩ := kd2 h
    rw [head, if_pos ⟨q1, q3⟩, fg.1 ⟨h, q4⟩]
  · have hn : ¬ (s < t ∧ isD (b s) = true) := fun q => by
      have := kd_dig q.1 q.2
      omega
    rw [head, if_neg hn]
    match i, hi with
    | 0, _ => rw [if_pos h]
    | 1, _ => rw [if_neg (by omega), if_pos h]
    | 2, _ => rw [if_neg (by omega), if_neg (by omega), if_pos h]
    | 3, _ => rw [if_neg (by omega), if_neg (by omega), if_neg (by omega), if_pos h]
    | 4, _ => rw [if_neg (by omega), if_neg (by omega), if_neg (by omega), if_neg (by omega), if_pos h]
    | 5, _ => rw [if_neg (by omega), if_neg (by omega), if_neg (by omega), if_neg (by omega), if_neg (by omega), if_pos h]
    | 6, _ => rw [if_neg (by omega), if_neg (by omega), if_neg (by omega), if_neg (by omega), if_neg (by omega), if_neg (by omega), if_pos h]
    | i + 7, hi => omega
  · by_cases hn : s < t ∧ isD (b s) = true
    · obtain ⟨x, p', g1, g2⟩ := fg.2 fun q => h q.1
      rw [upm_2] at g2
      exact ⟨x, p', g1, by rw [head, if_pos hn, g2]⟩
    · refine ⟨0, s, hk, ?_⟩
      have n0 := h2 0 (by decide)
      have n1 := h2 1 (by decide)
      have n2 := h2 2 (by decide)
      have n3 := h2 3 (by decide)
      have n4 := h2 4 (by decide)
      have n5 := h2 5 (by decide)
      have n6 := h2 6 (by decide)
      rw [head, if_neg hn, if_neg n0, if_neg n1, if_neg n2, if_neg n3, if_neg n4, if_neg n5, if_neg n6]
