/-! ===== bored, look: the reference and both ===== -/
set_option maxHeartbeats 2000000 in
theorem r_fitw {B : Mem} {v : Nat → Nat} {t : Nat} (t1 : t ≤ 400) (t4 : ∀ i, i < t → B 0 17 i = Int32.ofNat (v i) ∧ v i ≤ 255) (ev : t % 2 = 0) {s : Nat} (hs : s < 52) (b0 : B 0 21 s = Int32.ofNat 1) (K : Mem → Option (Int32 × Mem)) : lp_X10_weeksBy_20 (Int32.ofNat t) (Int32.ofNat s) K 4096 0 B = K (upm B 0 21 s (bI (fw v t s))) := by
  have mono : ∀ d k, ftB (pw s) v k = false → ftB (pw s) v (k + d) = false := by
    intro d
    induction d with
    | zero => intro k h; exact h
    | succ d ih =>
      intro k h
      show (ftB (pw s) v (k + d) && _) = false
      rw [ih k h]
      rfl
  have e0 : upm B 0 21 s (bI (ftB (pw s) v 0)) = B := by
    show upm B 0 21 s (Int32.ofNat 1) = B
    rw [← b0]
    funext a b c
    by_cases h : a = 0 ∧ b = 21 ∧ c = s
    · obtain ⟨rfl, rfl, rfl⟩ := h
      rw [upm_at]
    · rw [upm_n3 h]
  refine lpP (fun n (q : Int32 × Mem) => lp_X10_weeksBy_20 (Int32.ofNat t) (Int32.ofNat s) K n q.1 q.2) (fun o => o = K (upm B 0 21 s (bI (ftB (pw s) v (t / 2))))) (fun k q => q = (Int32.ofNat (2 * k), upm B 0 21 s (bI (ftB (pw s) v k)))) (t / 2) ?_ 4096 (0, B) (by omega) (by rw [e0]; rfl)
  rintro k q hk rfl n
  show lp_X10_weeksBy_20 (Int32.ofNat t) (Int32.ofNat s) K (n + 1) (Int32.ofNat (2 * k)) (upm B 0 21 s (bI (ftB (pw s) v k))) = _ ∨ _ ∧ ∃ s', _ ∧ lp_X10_weeksBy_20 (Int32.ofNat t) (Int32.ofNat s) K (n + 1) (Int32.ofNat (2 * k)) (upm B 0 21 s (bI (ftB (pw s) v k))) = _
  rw [lp_X10_weeksBy_20, il_le (by omega) (by omega)]
  by_cases h1 : t ≤ 2 * k
  · left
    rw [if_pos h1, show k = t / 2 by omega]
  · rw [if_neg h1, ix_on hs (by decide), on_t (by omega), upm_at, i_0, ite_b0]
    cases h2 : ftB (pw s) v k with
    | false =>
      left
      have := mono (t / 2 - k) k h2
      rw [show k + (t / 2 - k) = t / 2 by omega] at this
      rw [if_neg (by decide), this]
    | true =>
      right
      have v1 := (t4 (2 * k) (by omega)).2
      have v2 := (t4 (2 * k + 1) (by omega)).2
      refine ⟨by omega, _, rfl, ?_⟩
      show _ = lp_X10_weeksBy_20 (Int32.ofNat t) (Int32.ofNat s) K n (Int32.ofNat (2 * (k + 1))) (upm B 0 21 s (bI (ftB (pw s) v k && (pw s (v (2 * k)) == decide (v (2 * k + 1) = 1)))))
      rw [if_pos rfl, ix_on (by omega) (by decide), i_1, on_a, on_t (by omega), on_t (by omega), upm_ne (by omega), (t4 (2 * k) (by omega)).1, (t4 (2 * k + 1) (by omega)).1, i_2, on_a, show 2 * k + 2 = 2 * (k + 1) by omega]
      simp only [nm_q]
      have e1 : (Int32.ofNat (v (2 * k)) < Int32.ofNat s) = (pw s (v (2 * k)) = false) := by
        rw [on_lt (by omega) (by omega)]
        unfold pw
        by_cases h : v (2 * k) < s
        · rw [decide_eq_true h]
          exact (eq_true h).trans (eq_true rfl).symm
        · rw [decide_eq_false h]
          exact (eq_false h).trans (eq_false (by decide)).symm
      have e2 : (Int32.ofNat (v (2 * k + 1)) = Int32.ofNat 1) = (decide (v (2 * k + 1) = 1) = true) := by
        rw [on_eq (by omega) (by decide), decide_eq_true_eq]
      have ei : ∀ E : Option (Int32 × Mem), ix (Int32.ofNat (2 * k + 1)) 400 E = E := fun E => ix_on (by omega) (by decide)
      have ej : ∀ E : Option (Int32 × Mem), ix (Int32.ofNat s) 52 E = E := fun E => ix_on hs (by decide)
      have eu : ∀ x y : Int32, upm (upm B 0 21 s x) 0 21 s y = upm B 0 21 s y := fun x y => by
        funext a b c
        by_cases h : a = 0 ∧ b = 21 ∧ c = s
        · obtain ⟨rfl, rfl, rfl⟩ := h
          rw [upm_at, upm_at]
        · rw [upm_n3 h, upm_n3 h, upm_n3 h]
      rw [h2]
      simp only [e1, e2, ei, ej, eu]
      generalize pw s (v (2 * k)) = b1
      generalize decide (v (2 * k + 1) = 1) = b2
      cases b1 <;> cases b2 <;> rfl
theorem r_weeks {B : Mem} {v : Nat → Nat} {t : Nat} (t1 : t ≤ 400) (t4 : ∀ i, i < t → B 0 17 i = Int32.ofNat (v i) ∧ v i ≤ 255) (ev : t % 2 = 0) : ∃ N, f_X10_weeksBy B (Int32.ofNat t) = some (Int32.ofNat (cn (fw v t) 52), N) ∧ (∀ g j, ¬ (g = 0 ∧ j = 21) → N g j = B g j) ∧ ∀ s, s < 52 → N 0 21 s = bI (fw v t s) := by
  unfold f_X10_weeksBy
  refine lpP (fun n (q : Int32 × Int32 × Mem) => lp_X10_weeksBy_4 (Int32.ofNat t) n q.1 q.2.1 q.2.2) (fun o => ∃ N, o = some (Int32.ofNat (cn (fw v t) 52), N) ∧ (∀ g j, ¬ (g = 0 ∧ j = 21) → N g j = B g j) ∧ ∀ s, s < 52 → N 0 21 s = bI (fw v t s)) (fun k q => q.1 = Int32.ofNat (cn (fw v t) k) ∧ q.2.1 = Int32.ofNat k ∧ (∀ g j, ¬ (g = 0 ∧ j = 21) → q.2.2 g j = B g j) ∧ ∀ s, s < k → q.2.2 0 21 s = bI (fw v t s)) 52 ?_ 4096 (0, 0, B) (by decide) ⟨rfl, rfl, fun _ _ _ => rfl, fun s hs => by omega⟩
  rintro k ⟨x, y, ξ⟩ hk ⟨e1, e2, e3, e4⟩ n
  simp only at e1 e2 e3 e4
  subst e1 e2
  by_cases h1 : k = 52
  · left
    subst h1
    refine ⟨ξ, ?_, e3, e4⟩
    show lp_X10_weeksBy_4 _ (n + 1) (Int32.ofNat (cn (fw v t) 52)) (Int32.ofNat 52) ξ = _
    rw [lp_X10_weeksBy_4, if_pos (by decide)]
  · right
    have hk52 : k < 52 := by omega
    refine ⟨hk52, (Int32.ofNat (cn (fw v t) (k + 1)), Int32.ofNat (k + 1), upm (upm ξ 0 21 k 1) 0 21 k (bI (fw v t k))), ⟨rfl, rfl, fun g j hn => ?_, fun s hs => ?_⟩, ?_⟩
    · show upm (upm ξ 0 21 k 1) 0 21 k (bI (fw v t k)) g j = _
      rw [upm_ne hn, upm_ne hn, e3 g j hn]
    · show upm (upm ξ 0 21 k 1) 0 21 k (bI (fw v t k)) 0 21 s = _
      by_cases h2 : s = k
      · subst h2
        rw [upm_at]
      · rw [upm_n3 (by omega), upm_n3 (by omega), e4 s (by omega)]
    · show lp_X10_weeksBy_4 (Int32.ofNat t) (n + 1) (Int32.ofNat (cn (fw v t) k)) (Int32.ofNat k) ξ = lp_X10_weeksBy_4 (Int32.ofNat t) n (Int32.ofNat (cn (fw v t) (k + 1))) (Int32.ofNat (k + 1)) (upm (upm ξ 0 21 k 1) 0 21 k (bI (fw v t k)))
      have h17 : ∀ i, i < t → (upm ξ 0 21 k 1) 0 17 i = Int32.ofNat (v i) ∧ v i ≤ 255 := fun i hi => by
        rw [upm_ne (by omega), e3 0 17 (by omega)]
        exact t4 i hi
      have bk1 : ∀ E : Option (Int32 × Mem), bk 1 E = E := fun E => bk_b (b := true)
      rw [lp_X10_weeksBy_4, i_52, if_neg (by rw [on_le (by decide) (by omega)]; omega), ix_on hk52 (by decide), bk1, nm_q, on_t (by omega), r_fitw t1 h17 ev hk52 (upm_at _ _ _ _ _), ix_on hk52 (by decide), upm_at, i_0, ite_b0, i_1, on_a, cn_s, on_a]
      by_cases h2 : fw v t k = true
      · rw [if_pos h2, if_pos h2]
      · rw [if_neg h2, if_neg h2, on_a]
theorem r_told_w {x μ : Mem} {v : Nat → Nat} {t : Nat} (T : TP μ v t) (x8 : x 0 12 8 = Int32.ofNat t) (x17 : ∀ i, i < t → x 0 17 i = μ 0 17 i) : f_X10_heard x 52 = some (if tdB v 51 t = true then Int32.ofNat t else -1, upm x 0 12 8 0) := by
  obtain ⟨t1, t2, t3, t4⟩ := T
  exact r_heard (m := 51) t1 x8 (fun i hi => by rw [x17 i hi]; exact (t4 i hi).2) (by decide)
theorem tdB_ev {v : Nat → Nat} {m t : Nat} (h : tdB v m t = true) : t % 2 = 0 := by
  unfold tdB at h
  rw [Bool.and_eq_true, decide_eq_true_eq] at h
  exact h.1
theorem bored_loop (M : Mem) (w : Int32) (N : Mem) {p : Nat → Bool} (hN : ∀ s, s < 52 → N 0 21 s = bI (p s)) : ∃ u, lp_X9_bored_50 (Int64.ofNat (mk 52 p)) M 4096 0 = some (0, u, M) ∧ lp_X10_bored_45 (w, N) 4096 0 = some (u, N) := by
  refine lpJ (fun n (s : Int32) => lp_X9_bored_50 (Int64.ofNat (mk 52 p)) M n s) (fun n (s : Int32) => lp_X10_bored_45 (w, N) n s) (fun o o' => ∃ u, o = some (0, u, M) ∧ o' = some (u, N)) (fun k s s' => s = Int32.ofNat k ∧ s' = Int32.ofNat k) 52 ?_ 4096 4096 0 0 (by decide) (by decide) ⟨rfl, rfl⟩
  rintro k s s' hk ⟨rfl, rfl⟩ n n'
  by_cases h1 : k = 52
  · left
    subst h1
    refine ⟨-1, ?_, ?_⟩
    · show lp_X9_bored_50 _ _ (n + 1) (Int32.ofNat 52) = _
      rw [lp_X9_bored_50, if_pos (by decide)]
    · show lp_X10_bored_45 _ (n' + 1) (Int32.ofNat 52) = _
      rw [lp_X10_bored_45, if_pos (by decide)]
  · have hk52 : k < 52 := by omega
    have stC : lp_X9_bored_50 (Int64.ofNat (mk 52 p)) M (n + 1) (Int32.ofNat k) = if p k = true then some (0, Int32.ofNat k, M) else lp_X9_bored_50 (Int64.ofNat (mk 52 p)) M n (Int32.ofNat (k + 1)) := by
      rw [lp_X9_bored_50, i_51, if_neg (by rw [on_lt (by decide) (by omega)]; omega), l64_bit (mk52_lt p) hk52, mk_tb, decide_eq_true hk52, Bool.true_and, i_1, on_a]
      by_cases h2 : p k = true
      · rw [if_pos h2, if_pos h2, if_pos (by decide)]
      · rw [if_neg h2, if_neg h2, if_neg (by decide)]
    have stR : lp_X10_bored_45 (w, N) (n' + 1) (Int32.ofNat k) = if p k = true then some (Int32.ofNat k, N) else lp_X10_bored_45 (w, N) n' (Int32.ofNat (k + 1)) := by
      rw [lp_X10_bored_45, i_52, if_neg (by rw [on_le (by decide) (by omega)]; omega), ix_on hk52 (by decide), on_t (by omega), show (w, N).2 0 21 k = bI (p k) from hN k hk52, i_0, ite_b0, i_1, on_a]
    show (∃ u, lp_X9_bored_50 (Int64.ofNat (mk 52 p)) M (n + 1) (Int32.ofNat k) = some (0, u, M) ∧ lp_X10_bored_45 (w, N) (n' + 1) (Int32.ofNat k) = some (u, N)) ∨ _ ∧ ∃ s s', _ ∧ lp_X9_bored_50 (Int64.ofNat (mk 52 p)) M (n + 1) (Int32.ofNat k) = _ ∧ lp_X10_bored_45 (w, N) (n' + 1) (Int32.ofNat k) = _
    rw [stC, stR]
    by_cases h2 : p k = true
    · left
      rw [if_pos h2, if_pos h2]
      exact ⟨_, rfl, rfl⟩
    · right
      rw [if_neg h2, if_neg h2]
      exact ⟨hk52, _, _, ⟨rfl, rfl⟩, rfl, rfl⟩
set_option maxHeartbeats 2000000 in
theorem q_bored {μ : Mem} (R : Rel μ) (b : Bool) : AgT [(0, 0), (1, 1)] (f_X9_bored μ (bI b)) (fun μ' => f_X10_bored μ' (bI b)) := by
  obtain ⟨v, t, T⟩ := TAP.TP R.2.1
  have T' := T
  obtain ⟨t1, t2, t3, t4⟩ := T'
  have ex : ∃ u, (if bI b = 0 then ((f_J13_bitCount_95d88 (Int64.ofNat (mk 52 (fw v t)))).bind fun (q4 : Int32) => some ((0 : Nat), q4, upm μ 0 1 1 0)) else lp_X9_bored_50 (Int64.ofNat (mk 52 (fw v t))) (upm μ 0 1 1 0) 4096 0) = some (0, u, upm μ 0 1 1 0) ∧ ∀ w N, w = Int32.ofNat (cn (fw v t) 52) → (∀ s, s < 52 → N 0 21 s = bI (fw v t s)) → (if bI b = 0 then some (w, N) else lp_X10_bored_45 (w, N) 4096 0) = some (u, N) := by
    cases b with
    | false =>
      refine ⟨Int32.ofNat (cn (fw v t) 52), ?_, fun w N hw hN => ?_⟩
      · rw [if_pos (show bI false = 0 from rfl), pop_w]
        rfl
      · rw [if_pos (show bI false = 0 from rfl), hw]
    | true =>
      obtain ⟨N0, hN0⟩ : ∃ N0 : Mem, ∀ s, s < 52 → N0 0 21 s = bI (fw v t s) := ⟨fun _ _ s => bI (fw v t s), fun _ _ => rfl⟩
      obtain ⟨u, hu, -⟩ := bored_loop (upm μ 0 1 1 0) 0 N0 hN0
      refine ⟨u, by rw [if_neg (by decide)]; exact hu, fun w N hw hN => ?_⟩
      obtain ⟨u2, hu2, hu3⟩ := bored_loop (upm μ 0 1 1 0) w N hN
      rw [hu] at hu2
      cases hu2
      rw [if_neg (by decide)]
      exact hu3
  obtain ⟨u, hu, hr⟩ := ex
  refine tape_q R (t := t) t3 (tdB v 51 t) u ?_ fun x x8 x17 => ?_
  · unfold f_X9_bored
    rw [i_51, c_told T (by decide)]
    simp only [bs_q, c_weeks T, nm_q]
    cases htd : tdB v 51 t with
    | true =>
      rw [if_neg (by decide)]
      refine Eq.trans hu ?_
      rfl
    | false => rfl
  · unfold f_X10_bored
    rw [r_told_w T x8 x17]
    simp only [bs_q, nm_q]
    by_cases htd : tdB v 51 t = true
    · obtain ⟨N, n1, n2, n3⟩ := r_weeks (B := upm (upm x 0 12 8 0) 0 12 0 0) t1 (v := v) (fun i hi => by rw [upm_ne (by omega), upm_ne (by omega), x17 i hi]; exact (t4 i hi).2) (tdB_ev htd)
      rw [if_pos htd, if_neg (by rw [show (-1 : Int32) = -Int32.ofNat 1 from rfl, on_neg1 (by omega)]; exact id), upm_at, if_pos (by decide), n1]
      simp only [bs_q]
      refine ⟨u, 0, N, hr _ N rfl n3, (fr_th x 0).trans fun g j i hs => ?_, by rw [n2 0 12 (by omega), upm_at], by rw [n2 0 22 (by omega), upm_ne (by omega), upm_ne (by omega)], fun _ => ⟨rfl, rfl⟩, fun h => absurd htd h⟩
      rw [n2 g j]
      rintro ⟨rfl, rfl⟩
      cases hs
    · rw [if_neg htd, if_pos rfl, upm_at, if_neg (by decide)]
      exact ⟨0, 1, _, rfl, fr_th x 1, upm_at _ _ _ _ _, by rw [upm_ne (by omega), upm_ne (by omega)], fun h => absurd h htd, fun _ => rfl⟩
set_option maxHeartbeats 2000000 in
theorem look_loop (M : Mem) {N : Mem} {p : Nat → Bool} (hN : ∀ s, s < 52 → N 0 21 s = bI (p s)) : ∃ u, lp_X9_look_59 (Int64.ofNat (mk 52 p)) M (Int32.ofNat (cn p 52)) 4096 (-1) (Int32.ofNat (cn p 52 + 1)) 0 0 = some (0, u, M) ∧ lp_X10_look_49 (Int32.ofNat (cn p 52), N) 4096 (-1) 2000000000 0 0 = some (u, N) := by
  have hp := cn_b p 52
  refine lpJ (fun n (s : Int32 × Int32 × Int32 × Int32) => lp_X9_look_59 (Int64.ofNat (mk 52 p)) M (Int32.ofNat (cn p 52)) n s.1 s.2.1 s.2.2.1 s.2.2.2) (fun n (s : Int32 × Int32 × Int32 × Int32) => lp_X10_look_49 (Int32.ofNat (cn p 52), N) n s.1 s.2.1 s.2.2.1 s.2.2.2) (fun o o' => ∃ u, o = some (0, u, M) ∧ o' = some (u, N)) (fun k s s' => s.1 = s'.1 ∧ s.2.2.2 = Int32.ofNat k ∧ s'.2.2.2 = Int32.ofNat k ∧ s.2.2.1 = Int32.ofNat (cn p k) ∧ s'.2.2.1 = Int32.ofNat (cn p k) ∧ ∃ z z', s.2.1 = Int32.ofNat z ∧ s'.2.1 = Int32.ofNat z' ∧ ((z = cn p 52 + 1 ∧ z' = 2000000000) ∨ (z = z' ∧ z ≤ 52))) 52 ?_ 4096 4096 (-1, Int32.ofNat (cn p 52 + 1), 0, 0) (-1, 2000000000, 0, 0) (by decide) (by decide) ⟨rfl, rfl, rfl, rfl, rfl, _, _, rfl, rfl, .inl ⟨rfl, rfl⟩⟩
  rintro k ⟨x, y, c, w⟩ ⟨x', y', c', w'⟩ hk ⟨e1, e2, e3, e6, e7, z, z', e4, e5, hz⟩ n n'
  simp only at e1 e2 e3 e4 e5 e6 e7
  subst e1 e2 e3 e4 e5 e6 e7
  by_cases h1 : k = 52 ∨ cn p 52 ≤ 1
  · left
    refine ⟨x, ?_, ?_⟩
    · show lp_X9_look_59 _ _ _ (n + 1) x (Int32.ofNat z) (Int32.ofNat (cn p k)) (Int32.ofNat k) = _
      rw [lp_X9_look_59, i_51, il_lt (by decide) (by omega), i_1, il_le (by omega) (by decide)]
      rcases h1 with h1 | h1
      · rw [if_pos (by omega)]
      · rw [if_pos h1]
        split <;> rfl
    · show lp_X10_look_49 _ (n' + 1) x (Int32.ofNat z') (Int32.ofNat (cn p k)) (Int32.ofNat k) = _
      rw [lp_X10_look_49, i_52, il_le (by decide) (by omega), i_1, il_le (by omega) (by decide)]
      rcases h1 with h1 | h1
      · rw [if_pos (by omega)]
      · rw [if_pos h1]
        split <;> rfl
  · right
    have hk7 : k < 52 := by omega
    have hc : 1 < cn p 52 := by omega
    have hcs : cn p (k + 1) ≤ cn p 52 := cn_le p (by omega)
    obtain ⟨m, hm⟩ : ∃ m, m = max (cn p (k + 1)) (cn p 52 - cn p (k + 1)) := ⟨_, rfl⟩
    have hm8 : m ≤ 52 := by omega
    have hmc : m ≤ cn p 52 := by omega
    have em : jmax (Int32.ofNat (cn p (k + 1))) (Int32.ofNat (cn p 52) - Int32.ofNat (cn p (k + 1))) = Int32.ofNat m := by
      rw [on_sb (by omega), on_max (by omega) (by omega), hm]
    have stC : lp_X9_look_59 (Int64.ofNat (mk 52 p)) M (Int32.ofNat (cn p 52)) (n + 1) x (Int32.ofNat z) (Int32.ofNat (cn p k)) (Int32.ofNat k) = if z ≤ m then lp_X9_look_59 (Int64.ofNat (mk 52 p)) M (Int32.ofNat (cn p 52)) n x (Int32.ofNat z) (Int32.ofNat (cn p (k + 1))) (Int32.ofNat (k + 1)) else lp_X9_look_59 (Int64.ofNat (mk 52 p)) M (Int32.ofNat (cn p 52)) n (Int32.ofNat k) (Int32.ofNat m) (Int32.ofNat (cn p (k + 1))) (Int32.ofNat (k + 1)) := by
      have eb : Int32.ofNat (cn p k) + Int64.toInt32 (if p k = true then 1 else 0) = Int32.ofNat (cn p (k + 1)) := by
        rw [cn_s, ← on_a]
        cases p k <;> rfl
      rw [lp_X9_look_59, i_51, if_neg (by rw [on_lt (by decide) (by omega)]; omega), i_1, if_neg (by rw [on_le (by omega) (by decide)]; omega), l64_bit (mk52_lt p) hk7, mk_tb, decide_eq_true hk7, Bool.true_and, eb, nm_q, em, il_le (by omega) (by omega), on_a]
    have stR : lp_X10_look_49 (Int32.ofNat (cn p 52), N) (n' + 1) x (Int32.ofNat z') (Int32.ofNat (cn p k)) (Int32.ofNat k) = if z' ≤ m then lp_X10_look_49 (Int32.ofNat (cn p 52), N) n' x (Int32.ofNat z') (Int32.ofNat (cn p (k + 1))) (Int32.ofNat (k + 1)) else lp_X10_look_49 (Int32.ofNat (cn p 52), N) n' (Int32.ofNat k) (Int32.ofNat m) (Int32.ofNat (cn p (k + 1))) (Int32.ofNat (k + 1)) := by
      have key : ∀ b : Nat, cn p k + b = cn p (k + 1) → ((f_X10_greater (Int32.ofNat (cn p k) + Int32.ofNat b) (Int32.ofNat (cn p 52) - (Int32.ofNat (cn p k) + Int32.ofNat b))).bind fun (q10 : Int32) => if q10 < Int32.ofNat z' then ((f_X10_greater (Int32.ofNat (cn p k) + Int32.ofNat b) (Int32.ofNat (cn p 52) - (Int32.ofNat (cn p k) + Int32.ofNat b))).bind fun (q11 : Int32) => lp_X10_look_49 (Int32.ofNat (cn p 52), N) n' (Int32.ofNat k) q11 (Int32.ofNat (cn p k) + Int32.ofNat b) (Int32.ofNat k + Int32.ofNat 1)) else (lp_X10_look_49 (Int32.ofNat (cn p 52), N) n' x (Int32.ofNat z') (Int32.ofNat (cn p k) + Int32.ofNat b) (Int32.ofNat k + Int32.ofNat 1))) = if z' ≤ m then lp_X10_look_49 (Int32.ofNat (cn p 52), N) n' x (Int32.ofNat z') (Int32.ofNat (cn p (k + 1))) (Int32.ofNat (k + 1)) else lp_X10_look_49 (Int32.ofNat (cn p 52), N) n' (Int32.ofNat k) (Int32.ofNat m) (Int32.ofNat (cn p (k + 1))) (Int32.ofNat (k + 1)) := fun b hb => by
        rw [on_a, hb, greater_e, em]
        simp only [bs_q]
        rw [il_lt (by omega) (by omega), on_a]
        by_cases h3 : z' ≤ m
        · rw [if_pos h3, if_neg (by omega)]
        · rw [if_neg h3, if_pos (by omega)]
      have ej : ∀ E : Option (Int32 × Mem), ix (Int32.ofNat k) 52 E = E := fun E => ix_on hk7 (by decide)
      rw [lp_X10_look_49, i_52, if_neg (by rw [on_le (by decide) (by omega)]; omega), i_1]
      show (if Int32.ofNat (cn p 52) ≤ Int32.ofNat 1 then _ else _) = _
      rw [if_neg (by rw [on_le (by omega) (by decide)]; omega), ej, on_t (by omega), show (Int32.ofNat (cn p 52), N).2 0 21 k = bI (p k) from hN k hk7, nm_q, i_0, ite_b0]
      by_cases h2 : p k = true
      · rw [if_pos h2]
        exact key 1 (by rw [cn_s, if_pos h2])
      · rw [if_neg h2]
        exact key 0 (by rw [cn_s, if_neg h2])
    show _ ∧ ∃ t t', _ ∧ lp_X9_look_59 (Int64.ofNat (mk 52 p)) M (Int32.ofNat (cn p 52)) (n + 1) x (Int32.ofNat z) (Int32.ofNat (cn p k)) (Int32.ofNat k) = _ ∧ lp_X10_look_49 (Int32.ofNat (cn p 52), N) (n' + 1) x (Int32.ofNat z') (Int32.ofNat (cn p k)) (Int32.ofNat k) = _
    rw [stC, stR]
    by_cases h4 : z ≤ m
    · rw [if_pos h4, if_pos (show z' ≤ m by omega)]
      exact ⟨hk7, (x, Int32.ofNat z, Int32.ofNat (cn p (k + 1)), Int32.ofNat (k + 1)), (x, Int32.ofNat z', Int32.ofNat (cn p (k + 1)), Int32.ofNat (k + 1)), ⟨rfl, rfl, rfl, rfl, rfl, _, _, rfl, rfl, hz⟩, rfl, rfl⟩
    · rw [if_neg h4, if_neg (show ¬ z' ≤ m by omega)]
      exact ⟨hk7, (Int32.ofNat k, Int32.ofNat m, Int32.ofNat (cn p (k + 1)), Int32.ofNat (k + 1)), (Int32.ofNat k, Int32.ofNat m, Int32.ofNat (cn p (k + 1)), Int32.ofNat (k + 1)), ⟨rfl, rfl, rfl, rfl, rfl, m, m, rfl, rfl, .inr ⟨rfl, hm8⟩⟩, rfl, rfl⟩
set_option maxHeartbeats 2000000 in
theorem q_look {μ : Mem} (R : Rel μ) : AgT [(0, 0), (1, 1)] (f_X9_look μ) (fun μ' => f_X10_look μ') := by
  obtain ⟨v, t, T⟩ := TAP.TP R.2.1
  have T' := T
  obtain ⟨t1, t2, t3, t4⟩ := T'
  obtain ⟨N0, hN0⟩ : ∃ N0 : Mem, ∀ s, s < 52 → N0 0 21 s = bI (fw v t s) := ⟨fun _ _ s => bI (fw v t s), fun _ _ => rfl⟩
  obtain ⟨u, hu, -⟩ := look_loop (upm μ 0 1 1 0) hN0
  refine tape_q R (t := t) t3 (tdB v 51 t) u ?_ fun x x8 x17 => ?_
  · unfold f_X9_look
    rw [i_51, c_told T (by decide)]
    simp only [bs_q, c_weeks T, nm_q]
    cases htd : tdB v 51 t with
    | true =>
      rw [if_neg (by decide), pop_w]
      simp only [bs_q]
      rw [show Int32.ofNat (cn (fw v t) 52) + 1 = Int32.ofNat (cn (fw v t) 52 + 1) from on_a _ 1, hu]
      rfl
    | false => rfl
  · unfold f_X10_look
    rw [r_told_w T x8 x17]
    simp only [bs_q, nm_q]
    by_cases htd : tdB v 51 t = true
    · obtain ⟨N, n1, n2, n3⟩ := r_weeks (B := upm (upm x 0 12 8 0) 0 12 0 0) t1 (v := v) (fun i hi => by rw [upm_ne (by omega), upm_ne (by omega), x17 i hi]; exact (t4 i hi).2) (tdB_ev htd)
      rw [if_pos htd, if_neg (by rw [show (-1 : Int32) = -Int32.ofNat 1 from rfl, on_neg1 (by omega)]; exact id), upm_at, if_pos (by decide), n1]
      simp only [bs_q]
      obtain ⟨u2, hu1, hu2⟩ := look_loop (upm μ 0 1 1 0) n3
      rw [hu] at hu1
      cases hu1
      refine ⟨u, 0, N, hu2, (fr_th x 0).trans fun g j i hs => ?_, by rw [n2 0 12 (by omega), upm_at], by rw [n2 0 22 (by omega), upm_ne (by omega), upm_ne (by omega)], fun _ => ⟨rfl, rfl⟩, fun h => absurd htd h⟩
      rw [n2 g j]
      rintro ⟨rfl, rfl⟩
      cases hs
    · rw [if_neg htd, if_pos rfl, upm_at, if_neg (by decide)]
      exact ⟨0, 1, _, rfl, fr_th x 1, upm_at _ _ _ _ _, by rw [upm_ne (by omega), upm_ne (by omega)], fun h => absurd h htd, fun _ => rfl⟩
