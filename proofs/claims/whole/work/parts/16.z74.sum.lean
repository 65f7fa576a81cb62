/-! ===== the law's text, both at once: sums ===== -/
def OutE (b : Nat → Nat) (t m : Nat) (μ : Mem) (k l a : Nat) (bl : Bool) (C : Option (Int32 × Mem)) (F : Mem → Option (Int32 × Mem)) : Prop :=
  ∃ kE μ', C = some (0, μ') ∧ kE ≤ m ∧ μ' 0 3 4 = Int32.ofNat kE ∧ cF l μ μ' ∧ ∀ ν p, RS b t ν k p a → ∃ x ν', F ν = some (x, ν') ∧ (bl = true → ∃ c, x = bI c) ∧ FS b t ν' kE a ∧ rF ν ν'
def OutK (b : Nat → Nat) (t m : Nat) (μ : Mem) (k l a : Nat) (bl : Bool) (need : Nat) (C : Option (Int32 × Mem)) (F : Mem → Option (Int32 × Mem)) : Prop :=
  ∃ k' c μ', C = some (1, μ') ∧ CS b t m μ' k' (l + c.length) ∧ k < k' ∧ c.length ≤ k' - k ∧ cF l μ μ' ∧ (∀ i, i < c.length → μ' 16 8 (l + i) = Int32.ofNat (c.getD i 0)) ∧ (∀ i, i < c.length → c.getD i 0 < 2000) ∧ ∀ ν p, RS b t ν k p a → ∃ x ν' p', F ν = some (x, ν') ∧ (bl = true → ∃ c, x = bI c) ∧ RS b t ν' k' p' a ∧ ν' 0 12 17 = ν 0 12 17 ∧ rF ν ν' ∧ ∀ y s, s.length + need ≤ 32 → exl (factsQ ν) (y, s) c = (y, x :: s)
theorem tk_lt {μ : Mem} {b : Nat → Nat} {t m k : Nat} (T : TOK μ b t m) (hk : k ≤ m) : tk b t k ≤ t ∧ (kd b t (tk b t k) ≠ 0 → k < m ∧ tk b t k < t) := by
  obtain ⟨t1, t2, t3, t4, t5⟩ := T
  by_cases h : k = m
  · subst h
    refine ⟨by omega, fun q => ?_⟩
    rw [t3, kd_t] at q
    exact absurd rfl q
  · have := t4 k (by omega)
    exact ⟨by omega, fun _ => ⟨by omega, this⟩⟩
theorem RS.mv {b : Nat → Nat} {t : Nat} {ν : Mem} {k p a k' p' : Nat} (S : RS b t ν k p a) (hp : p' ≤ t) (hs : skp b t p' = tk b t k') : RS b t (upm ν 0 12 11 (Int32.ofNat p')) k' p' a := by
  obtain ⟨T, -, -, -, ef, ed, q1, q2⟩ := S
  refine ⟨T.upm _ (by omega), hp, upm_at _ _ _ _ _, hs, ?_, ?_, ?_, ?_⟩
  · rw [upm_n3 (by omega), ef]
  · rw [upm_n3 (by omega), ed]
  · rw [upm_n3 (by omega)]
    exact q1
  · rw [upm_n3 (by omega)]
    exact q2
theorem RS.adv {b : Nat → Nat} {t : Nat} {ν : Mem} {k p a : Nat} (S : RS b t ν k p a) (hk : tk b t k < t) : RS b t (upm ν 0 12 11 (Int32.ofNat (en b t (tk b t k)))) (k + 1) (en b t (tk b t k)) a := S.mv (en_b hk).2 rfl
theorem RS.stay {b : Nat → Nat} {t : Nat} {ν : Mem} {k p a : Nat} (S : RS b t ν k p a) : RS b t (upm ν 0 12 11 (Int32.ofNat (tk b t k))) k (tk b t k) a := by
  have hs := S.2.2.2.1
  have hb := skp_b (b := b) S.2.1
  refine S.mv (by omega) ?_
  rw [← hs, skp_id S.2.1]
theorem RS.wrong {b : Nat → Nat} {t : Nat} {ν : Mem} {k p a p' k' : Nat} (S : RS b t ν k p a) (ha : a ≤ 6) (hp : p' ≤ t) : FS b t (upm (upm ν 0 12 11 (Int32.ofNat p')) 0 12 12 (Int32.ofNat (tk b t k'))) k' a ∧ rF ν (upm (upm ν 0 12 11 (Int32.ofNat p')) 0 12 12 (Int32.ofNat (tk b t k'))) := by
  have t1 := S.1.1
  refine ⟨⟨(S.1.upm _ (by omega)).upm _ (by omega), upm_at _ _ _ _ _, p', by omega, ?_⟩, ((rF.refl ν).upm _ (by omega)).upm _ (by omega)⟩
  rw [upm_n3 (by omega), upm_at]
theorem CS.take {b : Nat → Nat} {t m : Nat} {μ : Mem} {k l : Nat} (S : CS b t m μ k l) (hk : k < m) : CS b t m (upm μ 0 3 4 (Int32.ofNat (k + 1))) (k + 1) l ∧ cF l μ (upm μ 0 3 4 (Int32.ofNat (k + 1))) := by
  obtain ⟨T, h1, h2, h3, h4⟩ := S
  refine ⟨⟨T.fr fun j i hj => by rw [upm_ne (by omega)], hk, upm_at _ _ _ _ _, ?_, by omega⟩, fun g j i q1 q2 => by rw [upm_n3 (by omega)]⟩
  rw [upm_ne (by omega), h3]
theorem cF.refl (l : Nat) (μ : Mem) : cF l μ μ := fun _ _ _ _ _ => rfl
theorem cF.trans {l l2 : Nat} {μ μ1 μ2 : Mem} (h : cF l μ μ1) (h2 : cF l2 μ1 μ2) (hl : l ≤ l2) : cF l μ μ2 := fun g j i q1 q2 => (h2 g j i q1 (by omega)).trans (h g j i q1 q2)
theorem cF.code {l : Nat} {μ μ' : Mem} (h : cF l μ μ') {i : Nat} (hi : i < l) : μ' 16 8 i = μ 16 8 i := h 16 8 i (by omega) (by omega)
/-- a code is put down behind what is there -/
theorem CS.put {b : Nat → Nat} {t m : Nat} {μ : Mem} {k l : Nat} (S : CS b t m μ k l) (hl : l < k) (c : Nat) : ∃ μ', f_X4_put 15 μ (Int32.ofNat c) = some μ' ∧ CS b t m μ' k (l + 1) ∧ cF l μ μ' ∧ μ' 16 8 l = Int32.ofNat c := by
  obtain ⟨T, h1, h2, h3, h4⟩ := S
  have hm : m ≤ 400 := by
    have := T.1
    have := T.2.1
    omega
  refine ⟨_, c_put4 (by omega) h3 _, ⟨T.fr fun j i hj => by rw [upm_ne (by omega), upm_ne (by omega)], h1, ?_, upm_at _ _ _ _ _, by omega⟩, fun g j i q1 q2 => by rw [upm_n3 (by omega), upm_n3 (by omega)], ?_⟩
  · rw [upm_ne (by omega), upm_ne (by omega), h2]
  · rw [upm_ne (by omega), upm_at]
theorem exl_push {f : Row} {y : Int32} {s : List Int32} {c : Nat} (hc : c < 1010) (hs : s.length < 32) : exl f (y, s) [c] = (y, (if 1000 ≤ c ∧ c < 1009 then f (c - 1000) else Int32.ofNat c) :: s) := by
  show stp f (y, s) c = _
  unfold stp psh
  rw [if_pos hc, if_pos hs]
theorem exl_join {f : Row} {y u v : Int32} {s : List Int32} {c : Nat} (hc : 1010 ≤ c ∧ c < 1015) (hs : s.length < 32) : exl f (y, v :: u :: s) [c] = (y, jnd c u v :: s) := by
  show stp f (y, v :: u :: s) c = _
  unfold stp psh
  rw [if_neg (by omega), if_neg (by omega), if_pos (by omega)]
  show (y, if s.length < 32 then jnd c u v :: s else s) = _
  rw [if_pos hs]
theorem exl_not {f : Row} {y v : Int32} {s : List Int32} (hs : s.length < 32) : exl f (y, v :: s) [1015] = (y, (if v = 0 then 1 else 0) :: s) := by
  show stp f (y, v :: s) 1015 = _
  unfold stp psh
  rw [if_neg (by omega), if_pos rfl]
  show (y, if s.length < 32 then (if v = 0 then 1 else 0) :: s else s) = _
  rw [if_pos hs]
