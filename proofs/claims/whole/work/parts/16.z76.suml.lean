/-! ===== sums: the loop ===== -/
theorem CS.len {b : Nat → Nat} {t m : Nat} {μ : Mem} {k l : Nat} (S : CS b t m μ k l) : m ≤ 400 ∧ k ≤ m := ⟨Nat.le_trans S.1.2.1 S.1.1, S.2.1⟩
theorem getD_app {c d : List Nat} {i : Nat} : (c ++ d).getD i 0 = if i < c.length then c.getD i 0 else d.getD (i - c.length) 0 := by
  by_cases h : i < c.length
  · rw [if_pos h, List.getD_eq_getElem?_getD, List.getElem?_append_left h, List.getD_eq_getElem?_getD]
  · rw [if_neg h, List.getD_eq_getElem?_getD, List.getElem?_append_right (by omega), List.getD_eq_getElem?_getD]
/-- code behind code -/
theorem code_app {l : Nat} {μ1 μ2 : Mem} {c d : List Nat} (hF : cF (l + c.length) μ1 μ2) (h1 : ∀ i, i < c.length → μ1 16 8 (l + i) = Int32.ofNat (c.getD i 0)) (h2 : ∀ i, i < d.length → μ2 16 8 (l + c.length + i) = Int32.ofNat (d.getD i 0)) : ∀ i, i < (c ++ d).length → μ2 16 8 (l + i) = Int32.ofNat ((c ++ d).getD i 0) := by
  intro i hi
  rw [List.length_append] at hi
  rw [getD_app]
  by_cases h : i < c.length
  · rw [if_pos h, hF.code (by omega), h1 i h]
  · rw [if_neg h, ← h2 (i - c.length) (by omega), show l + c.length + (i - c.length) = l + i by omega]
theorem code_bd {c d : List Nat} (h1 : ∀ i, i < c.length → c.getD i 0 < 2000) (h2 : ∀ i, i < d.length → d.getD i 0 < 2000) : ∀ i, i < (c ++ d).length → (c ++ d).getD i 0 < 2000 := by
  intro i hi
  rw [List.length_append] at hi
  rw [getD_app]
  split
  · exact h1 i (by omega)
  · exact h2 _ (by omega)
theorem code_1 {c : Nat} {l : Nat} {μ : Mem} (h : μ 16 8 l = Int32.ofNat c) : ∀ i, i < [c].length → μ 16 8 (l + i) = Int32.ofNat ([c].getD i 0) := by
  intro i hi
  have : i = 0 := Nat.lt_one_iff.mp hi
  subst this
  exact h
theorem bd_1 {c : Nat} (h : c < 2000) : ∀ i, i < [c].length → [c].getD i 0 < 2000 := by
  intro i hi
  have : i = 0 := Nat.lt_one_iff.mp hi
  subst this
  exact h
set_option maxHeartbeats 4000000 in
theorem sum_loop {b : Nat → Nat} {t m a : Nat} (ha : a ≤ 6) : ∀ e μ k l j n, m - k ≤ e → e < n → CS b t m μ k l → j ≤ k → (j = 0 ∨ l < k) →
    (∃ kE μ', lp_X5_readSum_2 n (Int32.ofNat j) μ = some (0, μ') ∧ kE ≤ m ∧ μ' 0 3 4 = Int32.ofNat kE ∧ cF l μ μ' ∧ ∀ ν p acc nr, RS b t ν k p a → e < nr → ∃ x ν', sG j acc nr ν = some (x, ν') ∧ FS b t ν' kE a ∧ rF ν ν') ∨
    (∃ k' c μ', lp_X5_readSum_2 n (Int32.ofNat j) μ = some (1, μ') ∧ CS b t m μ' k' (l + c.length) ∧ k < k' ∧ c.length ≤ k' - k + (if j = 0 then 0 else 1) ∧ cF l μ μ' ∧ (∀ i, i < c.length → μ' 16 8 (l + i) = Int32.ofNat (c.getD i 0)) ∧ (∀ i, i < c.length → c.getD i 0 < 2000) ∧ ∀ ν p acc nr, RS b t ν k p a → e < nr → ∃ x ν' p', sG j acc nr ν = some (x, ν') ∧ RS b t ν' k' p' a ∧ ν' 0 12 17 = ν 0 12 17 ∧ rF ν ν' ∧ ∀ y s, s.length + 2 ≤ 32 → exl (factsQ ν) (y, if j = 0 then s else acc :: s) c = (y, x :: s)) := by
  intro e
  induction e using Nat.strongRecOn with
  | ind e ih =>
  intro μ k l j n he hn S hj hl
  obtain ⟨n, rfl⟩ : ∃ n', n = n' + 1 := ⟨n - 1, by omega⟩
  have hlen := S.len
  have tl := tk_lt S.1 S.2.1
  by_cases hb : kdB b t (tk b t k)
  · left
    refine ⟨k, μ, sum_bad S hb, S.2.1, S.2.2.1, cF.refl l μ, fun ν p acc nr R hnr => ?_⟩
    obtain ⟨x, p', q1, q2⟩ := (r_part R ha tl.1).2.2 hb.1 hb.2
    have hw := R.wrong (k' := k) ha q1
    obtain ⟨nr, rfl⟩ : ∃ n', nr = n' + 1 := ⟨nr - 1, by omega⟩
    unfold sG
    rw [q2, bs_q, lp_X10_sum_5]
    refine ⟨if j = 0 then x else acc + x, upm (upm ν 0 12 11 (Int32.ofNat p')) 0 12 12 (Int32.ofNat (tk b t k)), ?_, hw.1, hw.2⟩
    have h1 : ¬ (upm (upm ν 0 12 11 (Int32.ofNat p')) 0 12 12 (Int32.ofNat (tk b t k))) 0 12 12 = -1 := by
      rw [upm_at, show (-1 : Int32) = -Int32.ofNat 1 from rfl, on_neg1 (by have := S.1.1; omega)]
      exact id
    exact if_neg h1
  · obtain ⟨km, kt, c0, μ5, hc0, S5, F5, e5, st, rp⟩ := sum_part (n := n) S hj hb
    -- behind the part, with the joining code where one is asked for
    have hmid : ∃ μ6 c1, (if Int32.ofNat j ≤ 0 then sJ n j μ5 else ((f_X4_put 15 μ5 1010).bind fun q8 => sJ n j q8)) = sJ n j μ6 ∧ CS b t m μ6 (k + 1) (l + c1.length) ∧ cF l μ μ6 ∧ (∀ i, i < c1.length → μ6 16 8 (l + i) = Int32.ofNat (c1.getD i 0)) ∧ (∀ i, i < c1.length → c1.getD i 0 < 2000) ∧ c1.length = 1 + (if j = 0 then 0 else 1) ∧ ∀ (f : Row) y s acc, s.length + 2 ≤ 32 → exl f (y, if j = 0 then s else acc :: s) c1 = (y, (if j = 0 then (if 1000 ≤ c0 ∧ c0 < 1009 then f (c0 - 1000) else Int32.ofNat c0) else acc + (if 1000 ≤ c0 ∧ c0 < 1009 then f (c0 - 1000) else Int32.ofNat c0)) :: s) := by
      rw [i_0, il_le (by omega) (by decide)]
      by_cases h0 : j = 0
      · rw [if_pos (by omega)]
        refine ⟨μ5, [c0], rfl, S5, F5, code_1 e5, bd_1 (by omega), by rw [if_pos h0]; rfl, fun f y s acc hs => ?_⟩
        rw [if_pos h0, if_pos h0, exl_push hc0 (by omega)]
      · rw [if_neg (by omega)]
        obtain ⟨μ6, p1, p2, p3, p4⟩ := S5.put (by omega) 1010
        rw [show (1010 : Int32) = Int32.ofNat 1010 from rfl, p1]
        refine ⟨μ6, [c0] ++ [1010], rfl, (by rw [show ([c0] ++ [1010] : List Nat).length = 2 from rfl]; exact p2), F5.trans p3 (by omega), code_app (c := [c0]) (d := [1010]) p3 (code_1 e5) (code_1 p4), code_bd (bd_1 (by omega)) (bd_1 (by omega)), by rw [if_neg h0]; rfl, fun f y s acc hs => ?_⟩
        rw [if_neg h0, if_neg h0, exl_app, exl_push hc0 (by rw [List.length_cons]; omega), exl_join ⟨by omega, by omega⟩ (by omega)]
        rfl
    obtain ⟨μ6, c1, g1, S6, F6, d1, d2, d3, d4⟩ := hmid
    rw [st, g1]
    have tl2 := tk_lt S6.1 S6.2.1
    have tk6 := c_take S6.1 S6.2.1 S6.2.2.1 (a := 8) (by decide) (by decide)
    -- the reference behind the part
    have rv : ∀ ν p acc nr, RS b t ν k p a → sG j acc (nr + 1) ν = if kd b t (tk b t (k + 1)) = 8 then (f_X10_part (upm ν 0 12 11 (Int32.ofNat (tk b t (k + 1) + 1)))).bind fun (q6 : Int32 × Mem) => lp_X10_sum_5 nr ((if j = 0 then (if 1000 ≤ c0 ∧ c0 < 1009 then factsQ ν (c0 - 1000) else Int32.ofNat c0) else acc + (if 1000 ≤ c0 ∧ c0 < 1009 then factsQ ν (c0 - 1000) else Int32.ofNat c0)) + q6.1) q6.2 else some ((if j = 0 then (if 1000 ≤ c0 ∧ c0 < 1009 then factsQ ν (c0 - 1000) else Int32.ofNat c0) else acc + (if 1000 ≤ c0 ∧ c0 < 1009 then factsQ ν (c0 - 1000) else Int32.ofNat c0)), upm ν 0 12 11 (Int32.ofNat (tk b t (k + 1)))) := fun ν p acc nr R => by
      have R1 := R.adv kt
      have hs1 := r_isSign R1.1 R1.2.1 R1.2.2.1 (c := 43) (k := 8) (by omega)
      rw [R1.2.2.2.1, upm_2] at hs1
      unfold sG
      rw [rp ν p a R ha, bs_q, lp_X10_sum_5, if_pos R1.2.2.2.2.1, show (43 : Int32) = Int32.ofNat 43 from rfl, hs1]
      simp only [bs_q, nm_q]
      rw [ite_z, upm_at, upm_2, i_1, on_a]
      by_cases h8 : kd b t (tk b t (k + 1)) = 8
      · rw [if_pos (decide_eq_true h8), if_pos h8]
      · rw [if_neg (by rw [decide_eq_false h8]; decide), if_neg h8]
    by_cases h8 : kd b t (tk b t (k + 1)) = 8
    · obtain ⟨km2, kt2⟩ := tl2.2 (by omega)
      obtain ⟨S7, F7⟩ := S6.take km2
      have hgo : sJ n j μ6 = lp_X5_readSum_2 n (Int32.ofNat (j + 1)) (upm μ6 0 3 4 (Int32.ofNat (k + 1 + 1))) := by
        unfold sJ
        rw [show (8 : Int32) = Int32.ofNat 8 from rfl, tk6, if_pos h8]
        simp only [bs_q]
        rw [if_neg (by decide)]
      rw [hgo]
      have hen := en_sign (b := b) (t := t) (s := tk b t (k + 1)) (by omega) (by omega)
      have R8 : ∀ ν p, RS b t ν k p a → RS b t (upm ν 0 12 11 (Int32.ofNat (tk b t (k + 1) + 1))) (k + 1 + 1) (tk b t (k + 1) + 1) a := fun ν p R => by
        refine R.mv (by omega) ?_
        rw [← hen.1]
        rfl
      have hl7 : l + c1.length < k + 1 + 1 := by
        have := S6.2.2.2.2
        omega
      rcases ih (e - 1) (by omega) _ (k + 1 + 1) (l + c1.length) (j + 1) n (by omega) (by omega) S7 (by omega) (.inr hl7) with ⟨kE, μ', r1, r2, r3, r4, r5⟩ | ⟨k', c, μ', r1, r2, r3, r4, r5, r6, r7, r8⟩
      · left
        refine ⟨kE, μ', r1, r2, r3, (F6.trans F7 (by omega)).trans r4 (by omega), fun ν p acc nr R hnr => ?_⟩
        obtain ⟨nr, rfl⟩ : ∃ n', nr = n' + 1 := ⟨nr - 1, by omega⟩
        obtain ⟨x, ν', s1, s2, s3⟩ := r5 _ _ (if j = 0 then (if 1000 ≤ c0 ∧ c0 < 1009 then factsQ ν (c0 - 1000) else Int32.ofNat c0) else acc + (if 1000 ≤ c0 ∧ c0 < 1009 then factsQ ν (c0 - 1000) else Int32.ofNat c0)) nr (R8 ν p R) (by omega)
        refine ⟨x, ν', ?_, s2, ((rF.refl ν).upm _ (by omega)).trans s3⟩
        rw [rv ν p acc nr R, if_pos h8]
        exact s1
      · right
        rw [if_neg (Nat.succ_ne_zero j)] at r4
        refine ⟨k', c1 ++ c, μ', r1, ?_, by omega, ?_, (F6.trans F7 (by omega)).trans r5 (by omega), ?_, code_bd d2 r7, fun ν p acc nr R hnr => ?_⟩
        · rw [List.length_append, ← Nat.add_assoc]
          exact r2
        · rw [List.length_append]
          split <;> split at d3 <;> omega
        · refine code_app (μ1 := μ6) (fun g j i q1 q2 => ?_) d1 r6
          rw [r5 g j i q1 q2, F7 g j i q1 (by omega)]
        · obtain ⟨nr, rfl⟩ : ∃ n', nr = n' + 1 := ⟨nr - 1, by omega⟩
          obtain ⟨x, ν', p', s1, s2, s3, s4, s5⟩ := r8 _ _ (if j = 0 then (if 1000 ≤ c0 ∧ c0 < 1009 then factsQ ν (c0 - 1000) else Int32.ofNat c0) else acc + (if 1000 ≤ c0 ∧ c0 < 1009 then factsQ ν (c0 - 1000) else Int32.ofNat c0)) nr (R8 ν p R) (by omega)
          have fx : rF ν (upm ν 0 12 11 (Int32.ofNat (tk b t (k + 1) + 1))) := (rF.refl ν).upm _ (by omega)
          refine ⟨x, ν', p', ?_, s2, by rw [s3, upm_n3 (by omega)], fx.trans s4, fun y s hs => ?_⟩
          · rw [rv ν p acc nr R, if_pos h8]
            exact s1
          · have s6 := s5 y s hs
            rw [if_neg (Nat.succ_ne_zero j), fx.facts] at s6
            rw [exl_app, d4 (factsQ ν) y s acc hs]
            exact s6
    · right
      have hgo : sJ n j μ6 = some (1, μ6) := by
        unfold sJ
        rw [show (8 : Int32) = Int32.ofNat 8 from rfl, tk6, if_neg h8]
        simp only [bs_q]
        rw [if_pos trivial]
      rw [hgo]
      refine ⟨k + 1, c1, μ6, rfl, S6, by omega, ?_, F6, d1, d2, fun ν p acc nr R hnr => ?_⟩
      · rw [d3]
        omega
      · obtain ⟨nr, rfl⟩ : ∃ n', nr = n' + 1 := ⟨nr - 1, by omega⟩
        have R1 := (R.adv kt).stay
        rw [upm_2] at R1
        refine ⟨_, _, _, by rw [rv ν p acc nr R, if_neg h8], R1, by rw [upm_n3 (by omega)], (rF.refl ν).upm _ (by omega), fun y s hs => ?_⟩
        rw [d4 (factsQ ν) y s acc hs]
