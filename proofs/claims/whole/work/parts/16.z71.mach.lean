/-! ===== the law's machine ===== -/
def psh (s : List Int32) (x : Int32) : List Int32 := if s.length < 32 then x :: s else s
def jnd (c : Nat) (x y : Int32) : Int32 := if c = 1010 then x + y else if c = 1011 then (if y ≤ x then 0 else 1) else if c = 1012 then (if x ≤ y then 0 else 1) else if c = 1013 then (if x = 0 then 0 else if y = 0 then 0 else 1) else (if x = 0 then (if y = 0 then 0 else 1) else 1)
def stp (f : Row) (q : Int32 × List Int32) (c : Nat) : Int32 × List Int32 :=
  if c < 1010 then (q.1, psh q.2 (if 1000 ≤ c ∧ c < 1009 then f (c - 1000) else Int32.ofNat c))
  else if c = 1015 then (q.1, psh q.2.tail (if q.2.headD 0 = 0 then 1 else 0))
  else if c < 1100 then (q.1, psh q.2.tail.tail (jnd c (q.2.tail.headD 0) (q.2.headD 0)))
  else if c < 1200 then (q.1 + (if q.2.headD 0 = 0 then 0 else Int32.ofNat (c - 1100)), q.2.tail)
  else (q.1 - (if q.2.headD 0 = 0 then 0 else Int32.ofNat (c - 1200)), q.2.tail)
def exl (f : Row) (q : Int32 × List Int32) (c : List Nat) : Int32 × List Int32 := c.foldl (stp f) q
def MSt (μ : Mem) (h : Nat) (s : List Int32) : Prop := s.length ≤ 32 ∧ μ (h + 1) 7 3 = Int32.ofNat s.length ∧ ∀ i, i < s.length → μ (h + 1) 9 (s.length - 1 - i) = s.getD i 0
def mF (h : Nat) (μ μ' : Mem) : Prop := ∀ g j i, ¬ (g = h + 1 ∧ (j = 9 ∨ j = 7 ∧ i = 3)) → μ' g j i = μ g j i
theorem mF.refl (h : Nat) (μ : Mem) : mF h μ μ := fun _ _ _ _ => rfl
theorem mF.trans {h : Nat} {μ μ1 μ2 : Mem} (a : mF h μ μ1) (b : mF h μ1 μ2) : mF h μ μ2 := fun g j i hn => (b g j i hn).trans (a g j i hn)
theorem m_push {h : Nat} {μ : Mem} {s : List Int32} (S : MSt μ h s) (x : Int32) : ∃ μ', f_X4_push h μ x = some μ' ∧ MSt μ' h (psh s x) ∧ mF h μ μ' := by
  obtain ⟨s1, s2, s3⟩ := S
  unfold f_X4_push psh
  rw [s2, i_0, if_neg (by rw [on_lt (by omega) (by decide)]; omega), i_32, il_le (by decide) (by omega)]
  by_cases h1 : s.length < 32
  · rw [if_neg (by omega), ix_on (by omega) (by decide), on_t (by omega), nm_q, nm_q, upm_ne (by omega), s2, i_1, on_a, if_pos h1]
    refine ⟨_, rfl, ⟨?_, ?_, fun i hi => ?_⟩, fun g j i hn => by rw [upm_n3 (by omega), upm_n3 (by omega)]⟩
    · rw [List.length_cons]
      omega
    · rw [upm_at, List.length_cons]
    · rw [List.length_cons] at hi ⊢
      rw [upm_ne (by omega)]
      cases i with
      | zero =>
        rw [show s.length + 1 - 1 - 0 = s.length by omega, upm_at]
        rfl
      | succ i =>
        rw [upm_n3 (by omega), show s.length + 1 - 1 - (i + 1) = s.length - 1 - i by omega, s3 i (by omega)]
        rfl
  · rw [if_pos (by omega), if_neg h1]
    exact ⟨_, rfl, ⟨s1, s2, s3⟩, mF.refl h μ⟩
theorem m_pop {h : Nat} {μ : Mem} {s : List Int32} (S : MSt μ h s) : ∃ μ', f_X4_pop h μ = some (s.headD 0, μ') ∧ MSt μ' h s.tail ∧ mF h μ μ' := by
  obtain ⟨s1, s2, s3⟩ := S
  unfold f_X4_pop
  cases s with
  | nil =>
    rw [s2, if_pos (by decide)]
    exact ⟨_, rfl, ⟨s1, s2, s3⟩, mF.refl h μ⟩
  | cons x s =>
    rw [List.length_cons] at s1 s2 s3
    rw [s2, i_0, if_neg (by rw [on_le (by omega) (by decide)]; omega), i_32, if_pos (by rw [on_le (by omega) (by decide)]; exact s1), nm_q, upm_at, i_1, on_sb (by omega), Nat.add_sub_cancel, ix_on (by omega) (by decide), on_t (by omega), upm_ne (by omega)]
    have h0 := s3 0 (by omega)
    rw [show s.length + 1 - 1 - 0 = s.length by omega] at h0
    rw [h0]
    refine ⟨_, rfl, ⟨?_, upm_at _ _ _ _ _, fun i hi => ?_⟩, fun g j i hn => by rw [upm_n3 (by omega)]⟩
    · show s.length ≤ 32
      omega
    · have h1 : i < s.length := hi
      have h2 := s3 (i + 1) (by omega)
      rw [show s.length + 1 - 1 - (i + 1) = s.length - 1 - i by omega] at h2
      rw [upm_ne (by omega)]
      exact h2
theorem m_joined {c : Nat} (hc : c < 2000) (x y : Int32) : f_X4_joined (Int32.ofNat c) x y = some (jnd c x y) := by
  unfold f_X4_joined jnd
  have e : ∀ k, k < 2000 → (Int32.ofNat c = Int32.ofNat k) = (c = k) := fun k hk => on_eq (by omega) (by omega)
  rw [show (1010 : Int32) = Int32.ofNat 1010 from rfl, show (1011 : Int32) = Int32.ofNat 1011 from rfl, show (1012 : Int32) = Int32.ofNat 1012 from rfl, show (1013 : Int32) = Int32.ofNat 1013 from rfl]
  simp only [e 1010 (by decide), e 1011 (by decide), e 1012 (by decide), e 1013 (by decide)]
  by_cases h1 : c = 1010
  · rw [if_pos h1, if_pos h1]
  rw [if_neg h1, if_neg h1]
  by_cases h2 : c = 1011
  · rw [if_pos h2, if_pos h2]
    split <;> rfl
  rw [if_neg h2, if_neg h2]
  by_cases h3 : c = 1012
  · rw [if_pos h3, if_pos h3]
    split <;> rfl
  rw [if_neg h3, if_neg h3]
  by_cases h4 : c = 1013
  · rw [if_pos h4, if_pos h4]
    split
    · rfl
    · split <;> rfl
  rw [if_neg h4, if_neg h4]
  split
  · split <;> rfl
  · rfl
theorem sub_1000 : ∀ c, c < 1000 → Int32.ofNat c - Int32.ofNat 1000 < 0 := by decide +kernel
set_option maxHeartbeats 2000000 in
theorem m_step {h : Nat} {μ : Mem} {s : List Int32} (S : MSt μ h s) {len i c n : Nat} (hl : len ≤ 400) (hi : i < len) (e2 : μ (h + 1) 7 2 = Int32.ofNat len) (ec : μ (h + 1) 8 i = Int32.ofNat c) (hc : c < 2000) (x : Int32) : ∃ μ', MSt μ' h (stp (μ (h + 1) 11) (x, s) c).2 ∧ mF h μ μ' ∧ lp_X4_turnsBy_19 h (n + 1) x (Int32.ofNat i) μ = lp_X4_turnsBy_19 h n (stp (μ (h + 1) 11) (x, s) c).1 (Int32.ofNat (i + 1)) μ' := by
  have l12 : (Int32.ofNat c < 1200) = (c < 1200) := on_lt (b := 1200) (by omega) (by decide)
  have l11 : (Int32.ofNat c < 1100) = (c < 1100) := on_lt (b := 1100) (by omega) (by decide)
  have l10 : (Int32.ofNat c < 1010) = (c < 1010) := on_lt (b := 1010) (by omega) (by decide)
  have l15 : (Int32.ofNat c = 1015) = (c = 1015) := on_eq (b := 1015) (by omega) (by decide)
  rw [lp_X4_turnsBy_19, e2, if_neg (by rw [on_le (by omega) (by omega)]; omega), i_400, if_neg (by rw [on_le (by omega) (by omega)]; omega), ix_on (by omega) (by decide), on_t (by omega), ec, nm_q]
  simp only [l12, l11, l10, l15]
  by_cases h10 : c < 1010
  · have hs : stp (μ (h + 1) 11) (x, s) c = (x, psh s (if 1000 ≤ c ∧ c < 1009 then μ (h + 1) 11 (c - 1000) else Int32.ofNat c)) := by
      unfold stp
      rw [if_pos h10]
    rw [hs, if_pos (show c < 1200 by omega), if_pos (show c < 1100 by omega), if_neg (show ¬ c = 1015 by omega), if_pos h10]
    obtain ⟨μ', a1, a2, a3⟩ := m_push S (if 1000 ≤ c ∧ c < 1009 then μ (h + 1) 11 (c - 1000) else Int32.ofNat c)
    refine ⟨μ', a2, a3, ?_⟩
    simp only [nm_q]
    rw [show (1000 : Int32) = Int32.ofNat 1000 from rfl]
    by_cases h1 : 1000 ≤ c ∧ c < 1009
    · rw [if_pos h1] at a1
      rw [on_sb h1.1, i_0, if_neg (by rw [on_lt (by omega) (by decide)]; omega), i_9, if_neg (by rw [on_le (by decide) (by omega)]; omega), ix_on (by omega) (by decide), on_t (by omega), a1]
      simp only [bs_q]
      rw [i_1, on_a]
    · rw [if_neg h1] at a1
      have a1' : ((f_X4_push h μ (Int32.ofNat c)).bind fun q10 => lp_X4_turnsBy_19 h n x (Int32.ofNat i + 1) q10) = lp_X4_turnsBy_19 h n x (Int32.ofNat (i + 1)) μ' := by
        rw [a1, bs_q, i_1, on_a]
      by_cases h2 : c < 1000
      · rw [if_pos]
        · exact a1'
        · exact sub_1000 c h2
      · rw [on_sb (by omega), i_0, if_neg (by rw [on_lt (by omega) (by decide)]; omega), i_9, if_pos (by rw [on_le (by decide) (by omega)]; omega)]
        exact a1'
  · by_cases h12 : c < 1200
    · by_cases h11 : c < 1100
      · by_cases h15 : c = 1015
        · have hs : stp (μ (h + 1) 11) (x, s) c = (x, psh s.tail (if s.headD 0 = 0 then 1 else 0)) := by
            unfold stp
            rw [if_neg h10, if_pos h15]
          rw [hs, if_pos h12, if_pos h11, if_pos h15]
          obtain ⟨μ1, a1, a2, a3⟩ := m_pop S
          obtain ⟨μ2, b1, b2, b3⟩ := m_push a2 (if s.headD 0 = 0 then 1 else 0)
          refine ⟨μ2, b2, a3.trans b3, ?_⟩
          rw [a1]
          simp only [bs_q, nm_q]
          by_cases h0 : s.headD 0 = 0
          · rw [if_pos h0] at b1 ⊢
            rw [b1]
            simp only [bs_q]
            rw [i_1, on_a]
          · rw [if_neg h0] at b1 ⊢
            rw [b1]
            simp only [bs_q]
            rw [i_1, on_a]
        · have hs : stp (μ (h + 1) 11) (x, s) c = (x, psh s.tail.tail (jnd c (s.tail.headD 0) (s.headD 0))) := by
            unfold stp
            rw [if_neg h10, if_neg h15, if_pos h11]
          rw [hs, if_pos h12, if_pos h11, if_neg h15, if_neg h10]
          obtain ⟨μ1, a1, a2, a3⟩ := m_pop S
          obtain ⟨μ2, b1, b2, b3⟩ := m_pop a2
          obtain ⟨μ3, c1, c2, c3⟩ := m_push b2 (jnd c (s.tail.headD 0) (s.headD 0))
          refine ⟨μ3, c2, (a3.trans b3).trans c3, ?_⟩
          rw [a1]
          simp only [bs_q]
          rw [b1]
          simp only [bs_q]
          rw [m_joined hc]
          simp only [bs_q]
          rw [c1]
          simp only [bs_q]
          rw [i_1, on_a]
      · have hs : stp (μ (h + 1) 11) (x, s) c = (x + (if s.headD 0 = 0 then 0 else Int32.ofNat (c - 1100)), s.tail) := by
          unfold stp
          rw [if_neg h10, if_neg (show ¬ c = 1015 by omega), if_neg h11, if_pos h12]
        rw [hs, if_pos h12, if_neg h11]
        obtain ⟨μ1, a1, a2, a3⟩ := m_pop S
        refine ⟨μ1, a2, a3, ?_⟩
        rw [a1]
        simp only [bs_q]
        rw [i_1, on_a, show (1100 : Int32) = Int32.ofNat 1100 from rfl, on_sb (by omega)]
        by_cases h0 : s.headD 0 = 0
        · rw [if_pos h0, if_pos h0]
        · rw [if_neg h0, if_neg h0]
    · have hs : stp (μ (h + 1) 11) (x, s) c = (x - (if s.headD 0 = 0 then 0 else Int32.ofNat (c - 1200)), s.tail) := by
        unfold stp
        rw [if_neg h10, if_neg (show ¬ c = 1015 by omega), if_neg (show ¬ c < 1100 by omega), if_neg h12]
      rw [hs, if_neg h12]
      obtain ⟨μ1, a1, a2, a3⟩ := m_pop S
      refine ⟨μ1, a2, a3, ?_⟩
      rw [a1]
      simp only [bs_q]
      rw [i_1, on_a, show (1200 : Int32) = Int32.ofNat 1200 from rfl, on_sb (by omega)]
      by_cases h0 : s.headD 0 = 0
      · rw [if_pos h0, if_pos h0]
      · rw [if_neg h0, if_neg h0]
