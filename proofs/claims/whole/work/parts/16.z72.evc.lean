/-! ===== the law's machine, run ===== -/
theorem stp_cg {f f' : Row} (h : ∀ i, i < 9 → f i = f' i) (q : Int32 × List Int32) (c : Nat) : stp f q c = stp f' q c := by
  unfold stp
  by_cases h1 : 1000 ≤ c ∧ c < 1009
  · rw [if_pos h1, if_pos h1, h (c - 1000) (by omega)]
  · rw [if_neg h1, if_neg h1]
theorem exl_cg {f f' : Row} (h : ∀ i, i < 9 → f i = f' i) (c : List Nat) : ∀ q, exl f q c = exl f' q c := by
  induction c with
  | nil => intro q; rfl
  | cons a c ih =>
    intro q
    show exl f (stp f q a) c = exl f' (stp f' q a) c
    rw [stp_cg h, ih]
theorem exl_app (f : Row) (q : Int32 × List Int32) (c d : List Nat) : exl f q (c ++ d) = exl f (exl f q c) d := List.foldl_append
theorem m_run {h len : Nat} (hl : len ≤ 400) (F : Row) : ∀ (c : List Nat) (i n : Nat) (x : Int32) (s : List Int32) (μ : Mem), i + c.length = len → c.length < n → MSt μ h s → μ (h + 1) 7 2 = Int32.ofNat len → (∀ j, j < c.length → μ (h + 1) 8 (i + j) = Int32.ofNat (c.getD j 0)) → (∀ j, j < c.length → c.getD j 0 < 2000) → μ (h + 1) 11 = F → ∃ μ', lp_X4_turnsBy_19 h n x (Int32.ofNat i) μ = some ((exl F (x, s) c).1, μ') ∧ mF h μ μ' := by
  intro c
  induction c with
  | nil =>
    intro i n x s μ hi hn S e2 ec hc eF
    obtain ⟨m, rfl⟩ : ∃ m, n = m + 1 := ⟨n - 1, by omega⟩
    have hi' : i = len := hi
    refine ⟨μ, ?_, mF.refl h μ⟩
    rw [lp_X4_turnsBy_19, e2, if_pos (by rw [on_le (by omega) (by omega)]; omega)]
    rfl
  | cons a c ih =>
    intro i n x s μ hi hn S e2 ec hc eF
    rw [List.length_cons] at hi hn ec hc
    obtain ⟨m, rfl⟩ : ∃ m, n = m + 1 := ⟨n - 1, by omega⟩
    obtain ⟨μ1, b1, b2, b3⟩ := m_step (n := m) S hl (show i < len by omega) e2 (show μ (h + 1) 8 i = Int32.ofNat a from ec 0 (by omega)) (hc 0 (by omega)) x
    rw [eF] at b1 b3
    obtain ⟨μ2, c1, c2⟩ := ih (i + 1) m _ _ μ1 (by omega) (by omega) b1 (by rw [b2 _ _ _ (by omega), e2]) (fun j hj => by
      rw [b2 _ _ _ (by omega), show i + 1 + j = i + (j + 1) by omega, ec (j + 1) (by omega)]
      rfl) (fun j hj => hc (j + 1) (by omega)) (by
      funext k
      rw [b2 _ _ _ (by omega), eF])
    refine ⟨μ2, ?_, b2.trans c2⟩
    rw [b3, c1]
    rfl
def lev (c : List Nat) : Row → Int32 := fun f => (exl f (0, []) c).1
theorem evc_of {S : Row} {c : List Nat} (hl : c.length ≤ 400) (hc : ∀ j, j < c.length → c.getD j 0 < 2000) (hS : ∀ j, j < c.length → S j = Int32.ofNat (c.getD j 0)) : EVC (lev c) S c.length := by
  refine ⟨fun f f' h => ?_, fun h μ h1 h2 h3 => ?_⟩
  · unfold lev
    rw [exl_cg h]
  · have e11 : (upm μ (h + 1) 7 3 0) (h + 1) 11 = μ (h + 1) 11 := upm_ne (by omega)
    obtain ⟨μ', a1, a2⟩ := m_run (h := h) (len := c.length) hl (μ (h + 1) 11) c 0 4096 0 [] (upm μ (h + 1) 7 3 0) (by omega) (by omega) ⟨by decide, upm_at _ _ _ _ _, fun i hi => by cases hi⟩ (by rw [upm_n3 (by omega), h2]) (fun j hj => by rw [upm_ne (by omega), Nat.zero_add, h1 j hj, hS j hj]) hc e11
    refine ⟨μ', ?_, fun g j i hn => by rw [a2 g j i hn, upm_n3 (by omega)]⟩
    unfold f_X4_turnsBy
    rw [if_neg h3, nm_q]
    exact a1
