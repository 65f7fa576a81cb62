/-! ===== a house's text, both at once: any line ===== -/
theorem bs_s (E : Option Mem) : (E.bind fun (q : Mem) => some q) = E := by cases E <;> rfl
theorem r_hline {b : Nat → Nat} {t : Nat} {ν : Mem} {k p : Nat} (R : RS b t ν k p 0) : f_X10_houseLine ν = if kd b t (tk b t k) = 10 then f_X10_guestLine (upm ν 0 12 11 (Int32.ofNat (en b t (tk b t k)))) (Int32.ofNat (tk b t k)) else if kd b t (tk b t k) = 27 then f_X10_holeLine (upm ν 0 12 11 (Int32.ofNat (en b t (tk b t k)))) else if kd b t (tk b t k) = 28 then f_X10_tells (upm ν 0 12 11 (Int32.ofNat (en b t (tk b t k)))) (Int32.ofNat 4) (Int32.ofNat 7) else if kd b t (tk b t k) = 29 then ((f_X10_figures (upm ν 0 12 11 (Int32.ofNat (en b t (tk b t k)))) 0 (Int32.ofNat 1)).bind fun (q17 : Int32 × Mem) => shE q17.1 q17.2) else if kd b t (tk b t k) = 30 then f_X10_tells (upm ν 0 12 11 (Int32.ofNat (en b t (tk b t k)))) (Int32.ofNat 5) (Int32.ofNat 1) else if kd b t (tk b t k) = 31 then f_X10_tells (upm ν 0 12 11 (Int32.ofNat (en b t (tk b t k)))) (Int32.ofNat 6) (Int32.ofNat 9) else if kd b t (tk b t k) = 32 then f_X10_tells (upm ν 0 12 11 (Int32.ofNat (en b t (tk b t k)))) (Int32.ofNat 7) (Int32.ofNat 999) else if kd b t (tk b t k) = 33 then f_X10_tells (upm ν 0 12 11 (Int32.ofNat (en b t (tk b t k)))) (Int32.ofNat 9) (Int32.ofNat 100) else if kd b t (tk b t k) = 34 then f_X10_tells (upm ν 0 12 11 (Int32.ofNat (en b t (tk b t k)))) (Int32.ofNat 10) (Int32.ofNat 999) else some (upm (upm ν 0 12 11 (Int32.ofNat (tk b t k))) 0 12 12 (Int32.ofNat (tk b t k))) := by
  have st := R.stay
  have hh : ∀ a w, a < 68 → 43 < a → wcd (cwd a) = w → f_X10_has a (upm ν 0 12 11 (Int32.ofNat (tk b t k))) = if kd b t (tk b t k) = w then some (1, (upm ν 0 12 11 (Int32.ofNat (en b t (tk b t k))))) else some (0, (upm ν 0 12 11 (Int32.ofNat (tk b t k)))) := fun a w h1 h2 h3 => by
    have := rs_has st h1 h2 h3
    rwa [upm_2, upm_2] at this
  unfold f_X10_houseLine
  rw [r_place R, bs_q]
  rw [hh 50 10 (by decide) (by decide) (by decide)]
  by_cases h10 : kd b t (tk b t k) = 10
  · rw [if_pos h10, if_pos h10, bs_q, if_neg (show ¬ (1 : Int32) = 0 by decide)]
    exact bs_s _
  rw [if_neg h10, if_neg h10, bs_q, if_pos (show (0 : Int32) = 0 from rfl)]
  show (f_X10_has 60 (upm ν 0 12 11 (Int32.ofNat (tk b t k)))).bind _ = _
  rw [hh 60 27 (by decide) (by decide) (by decide)]
  by_cases h27 : kd b t (tk b t k) = 27
  · rw [if_pos h27, if_pos h27, bs_q, if_neg (show ¬ (1 : Int32) = 0 by decide)]
    exact bs_s _
  rw [if_neg h27, if_neg h27, bs_q, if_pos (show (0 : Int32) = 0 from rfl)]
  show (f_X10_has 61 (upm ν 0 12 11 (Int32.ofNat (tk b t k)))).bind _ = _
  rw [hh 61 28 (by decide) (by decide) (by decide)]
  by_cases h28 : kd b t (tk b t k) = 28
  · rw [if_pos h28, if_pos h28, bs_q, if_neg (show ¬ (1 : Int32) = 0 by decide)]
    exact bs_s _
  rw [if_neg h28, if_neg h28, bs_q, if_pos (show (0 : Int32) = 0 from rfl)]
  show (f_X10_has 62 (upm ν 0 12 11 (Int32.ofNat (tk b t k)))).bind _ = _
  rw [hh 62 29 (by decide) (by decide) (by decide)]
  by_cases h29 : kd b t (tk b t k) = 29
  · rw [if_pos h29, if_pos h29, bs_q, if_neg (show ¬ (1 : Int32) = 0 by decide)]
    show (f_X10_figures (upm ν 0 12 11 (Int32.ofNat (en b t (tk b t k)))) 0 (Int32.ofNat 1)).bind _ = _
    congr 1
    funext q
    show (if (q.2 0 12 12) = (-1) then ((f_X10_tells q.2 (12 + q.1) 6).bind fun (q18 : Mem) => some q18) else (some q.2)) = _
    rw [bs_s]
    rfl
  rw [if_neg h29, if_neg h29, bs_q, if_pos (show (0 : Int32) = 0 from rfl)]
  show (f_X10_has 63 (upm ν 0 12 11 (Int32.ofNat (tk b t k)))).bind _ = _
  rw [hh 63 30 (by decide) (by decide) (by decide)]
  by_cases h30 : kd b t (tk b t k) = 30
  · rw [if_pos h30, if_pos h30, bs_q, if_neg (show ¬ (1 : Int32) = 0 by decide)]
    exact bs_s _
  rw [if_neg h30, if_neg h30, bs_q, if_pos (show (0 : Int32) = 0 from rfl)]
  show (f_X10_has 64 (upm ν 0 12 11 (Int32.ofNat (tk b t k)))).bind _ = _
  rw [hh 64 31 (by decide) (by decide) (by decide)]
  by_cases h31 : kd b t (tk b t k) = 31
  · rw [if_pos h31, if_pos h31, bs_q, if_neg (show ¬ (1 : Int32) = 0 by decide)]
    exact bs_s _
  rw [if_neg h31, if_neg h31, bs_q, if_pos (show (0 : Int32) = 0 from rfl)]
  show (f_X10_has 65 (upm ν 0 12 11 (Int32.ofNat (tk b t k)))).bind _ = _
  rw [hh 65 32 (by decide) (by decide) (by decide)]
  by_cases h32 : kd b t (tk b t k) = 32
  · rw [if_pos h32, if_pos h32, bs_q, if_neg (show ¬ (1 : Int32) = 0 by decide)]
    exact bs_s _
  rw [if_neg h32, if_neg h32, bs_q, if_pos (show (0 : Int32) = 0 from rfl)]
  show (f_X10_has 66 (upm ν 0 12 11 (Int32.ofNat (tk b t k)))).bind _ = _
  rw [hh 66 33 (by decide) (by decide) (by decide)]
  by_cases h33 : kd b t (tk b t k) = 33
  · rw [if_pos h33, if_pos h33, bs_q, if_neg (show ¬ (1 : Int32) = 0 by decide)]
    exact bs_s _
  rw [if_neg h33, if_neg h33, bs_q, if_pos (show (0 : Int32) = 0 from rfl)]
  show (f_X10_has 67 (upm ν 0 12 11 (Int32.ofNat (tk b t k)))).bind _ = _
  rw [hh 67 34 (by decide) (by decide) (by decide)]
  by_cases h34 : kd b t (tk b t k) = 34
  · rw [if_pos h34, if_pos h34, bs_q, if_neg (show ¬ (1 : Int32) = 0 by decide)]
    exact bs_s _
  rw [if_neg h34, if_neg h34, bs_q, if_pos (show (0 : Int32) = 0 from rfl)]
  show (f_X10_wrong (upm ν 0 12 11 (Int32.ofNat (tk b t k))) ((upm ν 0 12 11 (Int32.ofNat (tk b t k))) 0 12 11)).bind _ = _
  rw [upm_at, rs_wrong st.2.2.2.2.1, bs_q]
theorem c_hline0 {b : Nat → Nat} {t m : Nat} {μ : Mem} {k : Nat} (S : CH b t m μ k) (h : ¬ (kd b t (tk b t k) = 10 ∨ 27 ≤ kd b t (tk b t k))) : f_X3_readLine 1 μ = some (0, μ) := by
  have hkd := kd_le b t (tk b t k)
  unfold f_X3_readLine
  rw [c_kind S.1 S.2.1 S.2.2, bs_q]
  generalize kd b t (tk b t k) = c at h hkd
  have no : ∀ {τ : Type} {X Y : τ} (d : Nat), d < 100 → ¬ c = d → (if Int32.ofNat c = Int32.ofNat d then X else Y) = Y := fun d hd hn => by
    rw [il_eq (by omega) (by omega), if_neg hn]
  refine (no 10 (by decide) (by omega)).trans ?_
  by_cases h11 : c = 11
  · subst h11
    exact if_pos rfl
  refine (no 11 (by decide) h11).trans ?_
  by_cases h12 : c = 12
  · subst h12
    exact if_pos rfl
  refine (no 12 (by decide) h12).trans ?_
  by_cases h13 : c = 13
  · subst h13
    exact if_pos rfl
  refine (no 13 (by decide) h13).trans ?_
  by_cases h14 : c = 14
  · subst h14
    exact if_pos rfl
  refine (no 14 (by decide) h14).trans ?_
  by_cases h15 : c = 15
  · subst h15
    exact if_pos rfl
  refine (no 15 (by decide) h15).trans ?_
  by_cases h16 : c = 16
  · subst h16
    exact if_pos rfl
  refine (no 16 (by decide) h16).trans ?_
  by_cases h17 : c = 17
  · subst h17
    exact if_pos rfl
  refine (no 17 (by decide) h17).trans ?_
  by_cases h18 : c = 18
  · subst h18
    exact if_pos rfl
  refine (no 18 (by decide) h18).trans ?_
  by_cases h19 : c = 19
  · subst h19
    exact if_pos rfl
  refine (no 19 (by decide) h19).trans ?_
  by_cases h20 : c = 20
  · subst h20
    exact if_pos rfl
  refine (no 20 (by decide) h20).trans ?_
  by_cases h21 : c = 21
  · subst h21
    exact if_pos rfl
  refine (no 21 (by decide) h21).trans ?_
  by_cases h22 : c = 22
  · subst h22
    exact if_pos rfl
  refine (no 22 (by decide) h22).trans ?_
  by_cases h23 : c = 23
  · subst h23
    exact if_pos rfl
  refine (no 23 (by decide) h23).trans ?_
  by_cases h24 : c = 24
  · subst h24
    exact if_pos rfl
  refine (no 24 (by decide) h24).trans ?_
  by_cases h25 : c = 25
  · subst h25
    exact if_pos rfl
  refine (no 25 (by decide) h25).trans ?_
  by_cases h26 : c = 26
  · subst h26
    exact if_pos rfl
  refine (no 26 (by decide) h26).trans ?_
  refine (no 27 (by decide) (by omega)).trans ?_
  refine (no 28 (by decide) (by omega)).trans ?_
  refine (no 29 (by decide) (by omega)).trans ?_
  refine (no 30 (by decide) (by omega)).trans ?_
  refine (no 31 (by decide) (by omega)).trans ?_
  refine (no 32 (by decide) (by omega)).trans ?_
  refine (no 33 (by decide) (by omega)).trans ?_
  refine (no 34 (by decide) (by omega)).trans ?_
  rfl
theorem c_hline10 {b : Nat → Nat} {t m : Nat} {μ : Mem} {k : Nat} (S : CH b t m μ k) (h : kd b t (tk b t k) = 10) : f_X3_readLine 1 μ = (f_X3_readGuest 1 μ).bind fun (q : Int32 × Mem) => bk q.1 (some (q.1, q.2)) := by
  unfold f_X3_readLine
  rw [c_kind S.1 S.2.1 S.2.2, bs_q, h]
  exact if_pos rfl
theorem c_hline27 {b : Nat → Nat} {t m : Nat} {μ : Mem} {k : Nat} (S : CH b t m μ k) (h : kd b t (tk b t k) = 27) : f_X3_readLine 1 μ = (f_X3_readHole 1 μ).bind fun (q : Int32 × Mem) => bk q.1 (some (q.1, q.2)) := by
  unfold f_X3_readLine
  rw [c_kind S.1 S.2.1 S.2.2, bs_q, h]
  refine (if_neg (show ¬ Int32.ofNat 27 = 10 by decide)).trans ?_
  refine (if_neg (show ¬ Int32.ofNat 27 = 11 by decide)).trans ?_
  refine (if_neg (show ¬ Int32.ofNat 27 = 12 by decide)).trans ?_
  refine (if_neg (show ¬ Int32.ofNat 27 = 13 by decide)).trans ?_
  refine (if_neg (show ¬ Int32.ofNat 27 = 14 by decide)).trans ?_
  refine (if_neg (show ¬ Int32.ofNat 27 = 15 by decide)).trans ?_
  refine (if_neg (show ¬ Int32.ofNat 27 = 16 by decide)).trans ?_
  refine (if_neg (show ¬ Int32.ofNat 27 = 17 by decide)).trans ?_
  refine (if_neg (show ¬ Int32.ofNat 27 = 18 by decide)).trans ?_
  refine (if_neg (show ¬ Int32.ofNat 27 = 19 by decide)).trans ?_
  refine (if_neg (show ¬ Int32.ofNat 27 = 20 by decide)).trans ?_
  refine (if_neg (show ¬ Int32.ofNat 27 = 21 by decide)).trans ?_
  refine (if_neg (show ¬ Int32.ofNat 27 = 22 by decide)).trans ?_
  refine (if_neg (show ¬ Int32.ofNat 27 = 23 by decide)).trans ?_
  refine (if_neg (show ¬ Int32.ofNat 27 = 24 by decide)).trans ?_
  refine (if_neg (show ¬ Int32.ofNat 27 = 25 by decide)).trans ?_
  refine (if_neg (show ¬ Int32.ofNat 27 = 26 by decide)).trans ?_
  exact if_pos rfl
theorem c_hline28 {b : Nat → Nat} {t m : Nat} {μ : Mem} {k : Nat} (S : CH b t m μ k) (h : kd b t (tk b t k) = 28) : f_X3_readLine 1 μ = (f_X3_readNumber 1 μ (Int32.ofNat 28) (Int32.ofNat 7)).bind fun (q : Int32 × Mem) => bk q.1 (some (q.1, q.2)) := by
  unfold f_X3_readLine
  rw [c_kind S.1 S.2.1 S.2.2, bs_q, h]
  refine (if_neg (show ¬ Int32.ofNat 28 = 10 by decide)).trans ?_
  refine (if_neg (show ¬ Int32.ofNat 28 = 11 by decide)).trans ?_
  refine (if_neg (show ¬ Int32.ofNat 28 = 12 by decide)).trans ?_
  refine (if_neg (show ¬ Int32.ofNat 28 = 13 by decide)).trans ?_
  refine (if_neg (show ¬ Int32.ofNat 28 = 14 by decide)).trans ?_
  refine (if_neg (show ¬ Int32.ofNat 28 = 15 by decide)).trans ?_
  refine (if_neg (show ¬ Int32.ofNat 28 = 16 by decide)).trans ?_
  refine (if_neg (show ¬ Int32.ofNat 28 = 17 by decide)).trans ?_
  refine (if_neg (show ¬ Int32.ofNat 28 = 18 by decide)).trans ?_
  refine (if_neg (show ¬ Int32.ofNat 28 = 19 by decide)).trans ?_
  refine (if_neg (show ¬ Int32.ofNat 28 = 20 by decide)).trans ?_
  refine (if_neg (show ¬ Int32.ofNat 28 = 21 by decide)).trans ?_
  refine (if_neg (show ¬ Int32.ofNat 28 = 22 by decide)).trans ?_
  refine (if_neg (show ¬ Int32.ofNat 28 = 23 by decide)).trans ?_
  refine (if_neg (show ¬ Int32.ofNat 28 = 24 by decide)).trans ?_
  refine (if_neg (show ¬ Int32.ofNat 28 = 25 by decide)).trans ?_
  refine (if_neg (show ¬ Int32.ofNat 28 = 26 by decide)).trans ?_
  refine (if_neg (show ¬ Int32.ofNat 28 = 27 by decide)).trans ?_
  exact if_pos rfl
theorem c_hline29 {b : Nat → Nat} {t m : Nat} {μ : Mem} {k : Nat} (S : CH b t m μ k) (h : kd b t (tk b t k) = 29) : f_X3_readLine 1 μ = (f_X3_readShift 1 μ).bind fun (q : Int32 × Mem) => bk q.1 (some (q.1, q.2)) := by
  unfold f_X3_readLine
  rw [c_kind S.1 S.2.1 S.2.2, bs_q, h]
  refine (if_neg (show ¬ Int32.ofNat 29 = 10 by decide)).trans ?_
  refine (if_neg (show ¬ Int32.ofNat 29 = 11 by decide)).trans ?_
  refine (if_neg (show ¬ Int32.ofNat 29 = 12 by decide)).trans ?_
  refine (if_neg (show ¬ Int32.ofNat 29 = 13 by decide)).trans ?_
  refine (if_neg (show ¬ Int32.ofNat 29 = 14 by decide)).trans ?_
  refine (if_neg (show ¬ Int32.ofNat 29 = 15 by decide)).trans ?_
  refine (if_neg (show ¬ Int32.ofNat 29 = 16 by decide)).trans ?_
  refine (if_neg (show ¬ Int32.ofNat 29 = 17 by decide)).trans ?_
  refine (if_neg (show ¬ Int32.ofNat 29 = 18 by decide)).trans ?_
  refine (if_neg (show ¬ Int32.ofNat 29 = 19 by decide)).trans ?_
  refine (if_neg (show ¬ Int32.ofNat 29 = 20 by decide)).trans ?_
  refine (if_neg (show ¬ Int32.ofNat 29 = 21 by decide)).trans ?_
  refine (if_neg (show ¬ Int32.ofNat 29 = 22 by decide)).trans ?_
  refine (if_neg (show ¬ Int32.ofNat 29 = 23 by decide)).trans ?_
  refine (if_neg (show ¬ Int32.ofNat 29 = 24 by decide)).trans ?_
  refine (if_neg (show ¬ Int32.ofNat 29 = 25 by decide)).trans ?_
  refine (if_neg (show ¬ Int32.ofNat 29 = 26 by decide)).trans ?_
  refine (if_neg (show ¬ Int32.ofNat 29 = 27 by decide)).trans ?_
  refine (if_neg (show ¬ Int32.ofNat 29 = 28 by decide)).trans ?_
  exact if_pos rfl
theorem c_hline30 {b : Nat → Nat} {t m : Nat} {μ : Mem} {k : Nat} (S : CH b t m μ k) (h : kd b t (tk b t k) = 30) : f_X3_readLine 1 μ = (f_X3_readNumber 1 μ (Int32.ofNat 30) (Int32.ofNat 1)).bind fun (q : Int32 × Mem) => bk q.1 (some (q.1, q.2)) := by
  unfold f_X3_readLine
  rw [c_kind S.1 S.2.1 S.2.2, bs_q, h]
  refine (if_neg (show ¬ Int32.ofNat 30 = 10 by decide)).trans ?_
  refine (if_neg (show ¬ Int32.ofNat 30 = 11 by decide)).trans ?_
  refine (if_neg (show ¬ Int32.ofNat 30 = 12 by decide)).trans ?_
  refine (if_neg (show ¬ Int32.ofNat 30 = 13 by decide)).trans ?_
  refine (if_neg (show ¬ Int32.ofNat 30 = 14 by decide)).trans ?_
  refine (if_neg (show ¬ Int32.ofNat 30 = 15 by decide)).trans ?_
  refine (if_neg (show ¬ Int32.ofNat 30 = 16 by decide)).trans ?_
  refine (if_neg (show ¬ Int32.ofNat 30 = 17 by decide)).trans ?_
  refine (if_neg (show ¬ Int32.ofNat 30 = 18 by decide)).trans ?_
  refine (if_neg (show ¬ Int32.ofNat 30 = 19 by decide)).trans ?_
  refine (if_neg (show ¬ Int32.ofNat 30 = 20 by decide)).trans ?_
  refine (if_neg (show ¬ Int32.ofNat 30 = 21 by decide)).trans ?_
  refine (if_neg (show ¬ Int32.ofNat 30 = 22 by decide)).trans ?_
  refine (if_neg (show ¬ Int32.ofNat 30 = 23 by decide)).trans ?_
  refine (if_neg (show ¬ Int32.ofNat 30 = 24 by decide)).trans ?_
  refine (if_neg (show ¬ Int32.ofNat 30 = 25 by decide)).trans ?_
  refine (if_neg (show ¬ Int32.ofNat 30 = 26 by decide)).trans ?_
  refine (if_neg (show ¬ Int32.ofNat 30 = 27 by decide)).trans ?_
  refine (if_neg (show ¬ Int32.ofNat 30 = 28 by decide)).trans ?_
  refine (if_neg (show ¬ Int32.ofNat 30 = 29 by decide)).trans ?_
  exact if_pos rfl
theorem c_hline31 {b : Nat → Nat} {t m : Nat} {μ : Mem} {k : Nat} (S : CH b t m μ k) (h : kd b t (tk b t k) = 31) : f_X3_readLine 1 μ = (f_X3_readNumber 1 μ (Int32.ofNat 31) (Int32.ofNat 9)).bind fun (q : Int32 × Mem) => bk q.1 (some (q.1, q.2)) := by
  unfold f_X3_readLine
  rw [c_kind S.1 S.2.1 S.2.2, bs_q, h]
  refine (if_neg (show ¬ Int32.ofNat 31 = 10 by decide)).trans ?_
  refine (if_neg (show ¬ Int32.ofNat 31 = 11 by decide)).trans ?_
  refine (if_neg (show ¬ Int32.ofNat 31 = 12 by decide)).trans ?_
  refine (if_neg (show ¬ Int32.ofNat 31 = 13 by decide)).trans ?_
  refine (if_neg (show ¬ Int32.ofNat 31 = 14 by decide)).trans ?_
  refine (if_neg (show ¬ Int32.ofNat 31 = 15 by decide)).trans ?_
  refine (if_neg (show ¬ Int32.ofNat 31 = 16 by decide)).trans ?_
  refine (if_neg (show ¬ Int32.ofNat 31 = 17 by decide)).trans ?_
  refine (if_neg (show ¬ Int32.ofNat 31 = 18 by decide)).trans ?_
  refine (if_neg (show ¬ Int32.ofNat 31 = 19 by decide)).trans ?_
  refine (if_neg (show ¬ Int32.ofNat 31 = 20 by decide)).trans ?_
  refine (if_neg (show ¬ Int32.ofNat 31 = 21 by decide)).trans ?_
  refine (if_neg (show ¬ Int32.ofNat 31 = 22 by decide)).trans ?_
  refine (if_neg (show ¬ Int32.ofNat 31 = 23 by decide)).trans ?_
  refine (if_neg (show ¬ Int32.ofNat 31 = 24 by decide)).trans ?_
  refine (if_neg (show ¬ Int32.ofNat 31 = 25 by decide)).trans ?_
  refine (if_neg (show ¬ Int32.ofNat 31 = 26 by decide)).trans ?_
  refine (if_neg (show ¬ Int32.ofNat 31 = 27 by decide)).trans ?_
  refine (if_neg (show ¬ Int32.ofNat 31 = 28 by decide)).trans ?_
  refine (if_neg (show ¬ Int32.ofNat 31 = 29 by decide)).trans ?_
  refine (if_neg (show ¬ Int32.ofNat 31 = 30 by decide)).trans ?_
  exact if_pos rfl
theorem c_hline32 {b : Nat → Nat} {t m : Nat} {μ : Mem} {k : Nat} (S : CH b t m μ k) (h : kd b t (tk b t k) = 32) : f_X3_readLine 1 μ = (f_X3_readNumber 1 μ (Int32.ofNat 32) (Int32.ofNat 999)).bind fun (q : Int32 × Mem) => bk q.1 (some (q.1, q.2)) := by
  unfold f_X3_readLine
  rw [c_kind S.1 S.2.1 S.2.2, bs_q, h]
  refine (if_neg (show ¬ Int32.ofNat 32 = 10 by decide)).trans ?_
  refine (if_neg (show ¬ Int32.ofNat 32 = 11 by decide)).trans ?_
  refine (if_neg (show ¬ Int32.ofNat 32 = 12 by decide)).trans ?_
  refine (if_neg (show ¬ Int32.ofNat 32 = 13 by decide)).trans ?_
  refine (if_neg (show ¬ Int32.ofNat 32 = 14 by decide)).trans ?_
  refine (if_neg (show ¬ Int32.ofNat 32 = 15 by decide)).trans ?_
  refine (if_neg (show ¬ Int32.ofNat 32 = 16 by decide)).trans ?_
  refine (if_neg (show ¬ Int32.ofNat 32 = 17 by decide)).trans ?_
  refine (if_neg (show ¬ Int32.ofNat 32 = 18 by decide)).trans ?_
  refine (if_neg (show ¬ Int32.ofNat 32 = 19 by decide)).trans ?_
  refine (if_neg (show ¬ Int32.ofNat 32 = 20 by decide)).trans ?_
  refine (if_neg (show ¬ Int32.ofNat 32 = 21 by decide)).trans ?_
  refine (if_neg (show ¬ Int32.ofNat 32 = 22 by decide)).trans ?_
  refine (if_neg (show ¬ Int32.ofNat 32 = 23 by decide)).trans ?_
  refine (if_neg (show ¬ Int32.ofNat 32 = 24 by decide)).trans ?_
  refine (if_neg (show ¬ Int32.ofNat 32 = 25 by decide)).trans ?_
  refine (if_neg (show ¬ Int32.ofNat 32 = 26 by decide)).trans ?_
  refine (if_neg (show ¬ Int32.ofNat 32 = 27 by decide)).trans ?_
  refine (if_neg (show ¬ Int32.ofNat 32 = 28 by decide)).trans ?_
  refine (if_neg (show ¬ Int32.ofNat 32 = 29 by decide)).trans ?_
  refine (if_neg (show ¬ Int32.ofNat 32 = 30 by decide)).trans ?_
  refine (if_neg (show ¬ Int32.ofNat 32 = 31 by decide)).trans ?_
  exact if_pos rfl
theorem c_hline33 {b : Nat → Nat} {t m : Nat} {μ : Mem} {k : Nat} (S : CH b t m μ k) (h : kd b t (tk b t k) = 33) : f_X3_readLine 1 μ = (f_X3_readNumber 1 μ (Int32.ofNat 33) (Int32.ofNat 100)).bind fun (q : Int32 × Mem) => bk q.1 (some (q.1, q.2)) := by
  unfold f_X3_readLine
  rw [c_kind S.1 S.2.1 S.2.2, bs_q, h]
  refine (if_neg (show ¬ Int32.ofNat 33 = 10 by decide)).trans ?_
  refine (if_neg (show ¬ Int32.ofNat 33 = 11 by decide)).trans ?_
  refine (if_neg (show ¬ Int32.ofNat 33 = 12 by decide)).trans ?_
  refine (if_neg (show ¬ Int32.ofNat 33 = 13 by decide)).trans ?_
  refine (if_neg (show ¬ Int32.ofNat 33 = 14 by decide)).trans ?_
  refine (if_neg (show ¬ Int32.ofNat 33 = 15 by decide)).trans ?_
  refine (if_neg (show ¬ Int32.ofNat 33 = 16 by decide)).trans ?_
  refine (if_neg (show ¬ Int32.ofNat 33 = 17 by decide)).trans ?_
  refine (if_neg (show ¬ Int32.ofNat 33 = 18 by decide)).trans ?_
  refine (if_neg (show ¬ Int32.ofNat 33 = 19 by decide)).trans ?_
  refine (if_neg (show ¬ Int32.ofNat 33 = 20 by decide)).trans ?_
  refine (if_neg (show ¬ Int32.ofNat 33 = 21 by decide)).trans ?_
  refine (if_neg (show ¬ Int32.ofNat 33 = 22 by decide)).trans ?_
  refine (if_neg (show ¬ Int32.ofNat 33 = 23 by decide)).trans ?_
  refine (if_neg (show ¬ Int32.ofNat 33 = 24 by decide)).trans ?_
  refine (if_neg (show ¬ Int32.ofNat 33 = 25 by decide)).trans ?_
  refine (if_neg (show ¬ Int32.ofNat 33 = 26 by decide)).trans ?_
  refine (if_neg (show ¬ Int32.ofNat 33 = 27 by decide)).trans ?_
  refine (if_neg (show ¬ Int32.ofNat 33 = 28 by decide)).trans ?_
  refine (if_neg (show ¬ Int32.ofNat 33 = 29 by decide)).trans ?_
  refine (if_neg (show ¬ Int32.ofNat 33 = 30 by decide)).trans ?_
  refine (if_neg (show ¬ Int32.ofNat 33 = 31 by decide)).trans ?_
  refine (if_neg (show ¬ Int32.ofNat 33 = 32 by decide)).trans ?_
  exact if_pos rfl
theorem c_hline34 {b : Nat → Nat} {t m : Nat} {μ : Mem} {k : Nat} (S : CH b t m μ k) (h : kd b t (tk b t k) = 34) : f_X3_readLine 1 μ = (f_X3_readNumber 1 μ (Int32.ofNat 34) (Int32.ofNat 999)).bind fun (q : Int32 × Mem) => bk q.1 (some (q.1, q.2)) := by
  unfold f_X3_readLine
  rw [c_kind S.1 S.2.1 S.2.2, bs_q, h]
  refine (if_neg (show ¬ Int32.ofNat 34 = 10 by decide)).trans ?_
  refine (if_neg (show ¬ Int32.ofNat 34 = 11 by decide)).trans ?_
  refine (if_neg (show ¬ Int32.ofNat 34 = 12 by decide)).trans ?_
  refine (if_neg (show ¬ Int32.ofNat 34 = 13 by decide)).trans ?_
  refine (if_neg (show ¬ Int32.ofNat 34 = 14 by decide)).trans ?_
  refine (if_neg (show ¬ Int32.ofNat 34 = 15 by decide)).trans ?_
  refine (if_neg (show ¬ Int32.ofNat 34 = 16 by decide)).trans ?_
  refine (if_neg (show ¬ Int32.ofNat 34 = 17 by decide)).trans ?_
  refine (if_neg (show ¬ Int32.ofNat 34 = 18 by decide)).trans ?_
  refine (if_neg (show ¬ Int32.ofNat 34 = 19 by decide)).trans ?_
  refine (if_neg (show ¬ Int32.ofNat 34 = 20 by decide)).trans ?_
  refine (if_neg (show ¬ Int32.ofNat 34 = 21 by decide)).trans ?_
  refine (if_neg (show ¬ Int32.ofNat 34 = 22 by decide)).trans ?_
  refine (if_neg (show ¬ Int32.ofNat 34 = 23 by decide)).trans ?_
  refine (if_neg (show ¬ Int32.ofNat 34 = 24 by decide)).trans ?_
  refine (if_neg (show ¬ Int32.ofNat 34 = 25 by decide)).trans ?_
  refine (if_neg (show ¬ Int32.ofNat 34 = 26 by decide)).trans ?_
  refine (if_neg (show ¬ Int32.ofNat 34 = 27 by decide)).trans ?_
  refine (if_neg (show ¬ Int32.ofNat 34 = 28 by decide)).trans ?_
  refine (if_neg (show ¬ Int32.ofNat 34 = 29 by decide)).trans ?_
  refine (if_neg (show ¬ Int32.ofNat 34 = 30 by decide)).trans ?_
  refine (if_neg (show ¬ Int32.ofNat 34 = 31 by decide)).trans ?_
  refine (if_neg (show ¬ Int32.ofNat 34 = 32 by decide)).trans ?_
  refine (if_neg (show ¬ Int32.ofNat 34 = 33 by decide)).trans ?_
  exact if_pos rfl
theorem line28 {ev : Row → Int32} {b : Nat → Nat} {t m : Nat} {μ : Mem} {k : Nat} {r : Row} (S : CH b t m μ k) (H : HV ev (μ 2) r) (h : kd b t (tk b t k) = 28) : OutG ev b t m μ k r (f_X3_readLine 1 μ) f_X10_houseLine := by
  rw [c_hline28 S h]
  refine OutG.bk ?_
  refine OutG.word (w := 28) (F1 := fun ν => f_X10_tells ν (Int32.ofNat 4) (Int32.ofNat 7)) (G := fun M => (f_X8_takeNumber M (Int32.ofNat 7)).bind fun (q : Int32 × Mem) => if q.1 = 0 then some (0, q.2) else some (1, upm q.2 2 0 8 (q.2 0 3 5))) S (by decide) (by decide) (fun _ S1 _ => ?_) (fun ν p R er _ => ?_) (fun ν p R hn => absurd h hn)
  · exact tell_both (ci := 8) (ri := 4) (G := fun M => some (1, upm M 2 0 8 (M 0 3 5))) S1 (by rw [upm_ng (by decide)]; exact H) (by decide) (by decide) (by decide) (fun _ => by decide) (fun μ1 => rfl)
  · rw [r_hline R]
    rw [if_neg (show ¬ kd b t (tk b t k) = 10 by omega)]
    rw [if_neg (show ¬ kd b t (tk b t k) = 27 by omega)]
    exact if_pos h
theorem line30 {ev : Row → Int32} {b : Nat → Nat} {t m : Nat} {μ : Mem} {k : Nat} {r : Row} (S : CH b t m μ k) (H : HV ev (μ 2) r) (h : kd b t (tk b t k) = 30) : OutG ev b t m μ k r (f_X3_readLine 1 μ) f_X10_houseLine := by
  rw [c_hline30 S h]
  refine OutG.bk ?_
  refine OutG.word (w := 30) (F1 := fun ν => f_X10_tells ν (Int32.ofNat 5) (Int32.ofNat 1)) (G := fun M => (f_X8_takeNumber M (Int32.ofNat 1)).bind fun (q : Int32 × Mem) => if q.1 = 0 then some (0, q.2) else some (1, upm q.2 2 0 7 (q.2 0 3 5))) S (by decide) (by decide) (fun _ S1 _ => ?_) (fun ν p R er _ => ?_) (fun ν p R hn => absurd h hn)
  · exact tell_both (ci := 7) (ri := 5) (G := fun M => some (1, upm M 2 0 7 (M 0 3 5))) S1 (by rw [upm_ng (by decide)]; exact H) (by decide) (by decide) (by decide) (fun _ => by decide) (fun μ1 => rfl)
  · rw [r_hline R]
    rw [if_neg (show ¬ kd b t (tk b t k) = 10 by omega)]
    rw [if_neg (show ¬ kd b t (tk b t k) = 27 by omega)]
    rw [if_neg (show ¬ kd b t (tk b t k) = 28 by omega)]
    rw [if_neg (show ¬ kd b t (tk b t k) = 29 by omega)]
    exact if_pos h
theorem line31 {ev : Row → Int32} {b : Nat → Nat} {t m : Nat} {μ : Mem} {k : Nat} {r : Row} (S : CH b t m μ k) (H : HV ev (μ 2) r) (h : kd b t (tk b t k) = 31) : OutG ev b t m μ k r (f_X3_readLine 1 μ) f_X10_houseLine := by
  rw [c_hline31 S h]
  refine OutG.bk ?_
  refine OutG.word (w := 31) (F1 := fun ν => f_X10_tells ν (Int32.ofNat 6) (Int32.ofNat 9)) (G := fun M => (f_X8_takeNumber M (Int32.ofNat 9)).bind fun (q : Int32 × Mem) => if q.1 = 0 then some (0, q.2) else some (1, upm q.2 2 0 9 (q.2 0 3 5))) S (by decide) (by decide) (fun _ S1 _ => ?_) (fun ν p R er _ => ?_) (fun ν p R hn => absurd h hn)
  · exact tell_both (ci := 9) (ri := 6) (G := fun M => some (1, upm M 2 0 9 (M 0 3 5))) S1 (by rw [upm_ng (by decide)]; exact H) (by decide) (by decide) (by decide) (fun _ => by decide) (fun μ1 => rfl)
  · rw [r_hline R]
    rw [if_neg (show ¬ kd b t (tk b t k) = 10 by omega)]
    rw [if_neg (show ¬ kd b t (tk b t k) = 27 by omega)]
    rw [if_neg (show ¬ kd b t (tk b t k) = 28 by omega)]
    rw [if_neg (show ¬ kd b t (tk b t k) = 29 by omega)]
    rw [if_neg (show ¬ kd b t (tk b t k) = 30 by omega)]
    exact if_pos h
theorem line32 {ev : Row → Int32} {b : Nat → Nat} {t m : Nat} {μ : Mem} {k : Nat} {r : Row} (S : CH b t m μ k) (H : HV ev (μ 2) r) (h : kd b t (tk b t k) = 32) : OutG ev b t m μ k r (f_X3_readLine 1 μ) f_X10_houseLine := by
  rw [c_hline32 S h]
  refine OutG.bk ?_
  refine OutG.word (w := 32) (F1 := fun ν => f_X10_tells ν (Int32.ofNat 7) (Int32.ofNat 999)) (G := fun M => (f_X8_takeNumber M (Int32.ofNat 999)).bind fun (q : Int32 × Mem) => if q.1 = 0 then some (0, q.2) else some (1, upm q.2 2 0 10 (q.2 0 3 5))) S (by decide) (by decide) (fun _ S1 _ => ?_) (fun ν p R er _ => ?_) (fun ν p R hn => absurd h hn)
  · exact tell_both (ci := 10) (ri := 7) (G := fun M => some (1, upm M 2 0 10 (M 0 3 5))) S1 (by rw [upm_ng (by decide)]; exact H) (by decide) (by decide) (by decide) (fun _ => by decide) (fun μ1 => rfl)
  · rw [r_hline R]
    rw [if_neg (show ¬ kd b t (tk b t k) = 10 by omega)]
    rw [if_neg (show ¬ kd b t (tk b t k) = 27 by omega)]
    rw [if_neg (show ¬ kd b t (tk b t k) = 28 by omega)]
    rw [if_neg (show ¬ kd b t (tk b t k) = 29 by omega)]
    rw [if_neg (show ¬ kd b t (tk b t k) = 30 by omega)]
    rw [if_neg (show ¬ kd b t (tk b t k) = 31 by omega)]
    exact if_pos h
theorem line33 {ev : Row → Int32} {b : Nat → Nat} {t m : Nat} {μ : Mem} {k : Nat} {r : Row} (S : CH b t m μ k) (H : HV ev (μ 2) r) (h : kd b t (tk b t k) = 33) : OutG ev b t m μ k r (f_X3_readLine 1 μ) f_X10_houseLine := by
  rw [c_hline33 S h]
  refine OutG.bk ?_
  refine OutG.word (w := 33) (F1 := fun ν => f_X10_tells ν (Int32.ofNat 9) (Int32.ofNat 100)) (G := fun M => (f_X8_takeNumber M (Int32.ofNat 100)).bind fun (q : Int32 × Mem) => if q.1 = 0 then some (0, q.2) else some (1, upm q.2 2 0 12 (q.2 0 3 5))) S (by decide) (by decide) (fun _ S1 _ => ?_) (fun ν p R er _ => ?_) (fun ν p R hn => absurd h hn)
  · exact tell_both (ci := 12) (ri := 9) (G := fun M => some (1, upm M 2 0 12 (M 0 3 5))) S1 (by rw [upm_ng (by decide)]; exact H) (by decide) (by decide) (by decide) (fun _ => by decide) (fun μ1 => rfl)
  · rw [r_hline R]
    rw [if_neg (show ¬ kd b t (tk b t k) = 10 by omega)]
    rw [if_neg (show ¬ kd b t (tk b t k) = 27 by omega)]
    rw [if_neg (show ¬ kd b t (tk b t k) = 28 by omega)]
    rw [if_neg (show ¬ kd b t (tk b t k) = 29 by omega)]
    rw [if_neg (show ¬ kd b t (tk b t k) = 30 by omega)]
    rw [if_neg (show ¬ kd b t (tk b t k) = 31 by omega)]
    rw [if_neg (show ¬ kd b t (tk b t k) = 32 by omega)]
    exact if_pos h
theorem line34 {ev : Row → Int32} {b : Nat → Nat} {t m : Nat} {μ : Mem} {k : Nat} {r : Row} (S : CH b t m μ k) (H : HV ev (μ 2) r) (h : kd b t (tk b t k) = 34) : OutG ev b t m μ k r (f_X3_readLine 1 μ) f_X10_houseLine := by
  rw [c_hline34 S h]
  refine OutG.bk ?_
  refine OutG.word (w := 34) (F1 := fun ν => f_X10_tells ν (Int32.ofNat 10) (Int32.ofNat 999)) (G := fun M => (f_X8_takeNumber M (Int32.ofNat 999)).bind fun (q : Int32 × Mem) => if q.1 = 0 then some (0, q.2) else some (1, upm q.2 2 0 13 (q.2 0 3 5))) S (by decide) (by decide) (fun _ S1 _ => ?_) (fun ν p R er _ => ?_) (fun ν p R hn => absurd h hn)
  · exact tell_both (ci := 13) (ri := 10) (G := fun M => some (1, upm M 2 0 13 (M 0 3 5))) S1 (by rw [upm_ng (by decide)]; exact H) (by decide) (by decide) (by decide) (fun _ => by decide) (fun μ1 => rfl)
  · rw [r_hline R]
    rw [if_neg (show ¬ kd b t (tk b t k) = 10 by omega)]
    rw [if_neg (show ¬ kd b t (tk b t k) = 27 by omega)]
    rw [if_neg (show ¬ kd b t (tk b t k) = 28 by omega)]
    rw [if_neg (show ¬ kd b t (tk b t k) = 29 by omega)]
    rw [if_neg (show ¬ kd b t (tk b t k) = 30 by omega)]
    rw [if_neg (show ¬ kd b t (tk b t k) = 31 by omega)]
    rw [if_neg (show ¬ kd b t (tk b t k) = 32 by omega)]
    rw [if_neg (show ¬ kd b t (tk b t k) = 33 by omega)]
    exact if_pos h
theorem line29 {ev : Row → Int32} {b : Nat → Nat} {t m : Nat} {μ : Mem} {k : Nat} {r : Row} (S : CH b t m μ k) (H : HV ev (μ 2) r) (h : kd b t (tk b t k) = 29) : OutG ev b t m μ k r (f_X3_readLine 1 μ) f_X10_houseLine := by
  rw [c_hline29 S h]
  refine OutG.bk ?_
  refine OutG.word (w := 29) (F1 := fun ν => (f_X10_figures ν 0 (Int32.ofNat 1)).bind fun (q17 : Int32 × Mem) => shE q17.1 q17.2) (G := fun M => (f_X8_takeNumber M (Int32.ofNat 1)).bind fun (q2 : Int32 × Mem) => if q2.1 = 0 then (some (0, q2.2)) else ((f_X8_takeNumber q2.2 (Int32.ofNat 6)).bind fun (q3 : Int32 × Mem) => if q3.1 = 0 then (some (0, q3.2)) else ((f_X2_setShift 1 q3.2 (q2.2 0 3 5) (q3.2 0 3 5)).bind fun (q4 : Mem) => some (1, q4)))) S (by decide) (by decide) (fun _ S1 _ => ?_) (fun ν p R er _ => ?_) (fun ν p R hn => absurd h hn)
  · exact shift_both S1 (by rw [upm_ng (by decide)]; exact H)
  · rw [r_hline R]
    rw [if_neg (show ¬ kd b t (tk b t k) = 10 by omega), if_neg (show ¬ kd b t (tk b t k) = 27 by omega), if_neg (show ¬ kd b t (tk b t k) = 28 by omega)]
    exact if_pos h
theorem line27 {ev : Row → Int32} {b : Nat → Nat} {t m : Nat} {μ : Mem} {k : Nat} {r : Row} (S : CH b t m μ k) (H : HV ev (μ 2) r) (h : kd b t (tk b t k) = 27) : OutG ev b t m μ k r (f_X3_readLine 1 μ) f_X10_houseLine := by
  rw [c_hline27 S h]
  refine OutG.bk ?_
  refine OutG.word (w := 27) (F1 := f_X10_holeLine) (G := fun M => (f_X8_takeNumber M (Int32.ofNat 7)).bind fun (q2 : Int32 × Mem) => if q2.1 = 0 then (some (0, q2.2)) else ((f_X8_takeNumber q2.2 (Int32.ofNat 7)).bind fun (q3 : Int32 × Mem) => if q3.1 = 0 then (some (0, q3.2)) else (if (q3.2 0 3 5) = (q2.2 0 3 5) then (nm (upm q3.2 0 3 4 (q2.2 0 3 4)) fun (μ4 : Mem) => some (0, μ4)) else ((f_X2_setHole 1 q3.2 (q2.2 0 3 5) (q3.2 0 3 5) 1).bind fun (q5 : Mem) => some (1, q5))))) S (by decide) (by decide) (fun _ S1 _ => ?_) (fun ν p R er _ => ?_) (fun ν p R hn => absurd h hn)
  · exact hole_both S1 (by rw [upm_ng (by decide)]; exact H)
  · rw [r_hline R]
    rw [if_neg (show ¬ kd b t (tk b t k) = 10 by omega)]
    exact if_pos h
theorem line10 {ev : Row → Int32} {b : Nat → Nat} {t m : Nat} {μ : Mem} {k : Nat} {r : Row} (S : CH b t m μ k) (H : HV ev (μ 2) r) (h : kd b t (tk b t k) = 10) : OutG ev b t m μ k r (f_X3_readLine 1 μ) f_X10_houseLine := by
  rw [c_hline10 S h]
  refine OutG.bk ?_
  have h8 := H.1.c8
  have e3 : r 3 = Int32.ofNat (nv r 3) := H.1.e3
  have ec : μ 2 1 3 = Int32.ofNat (nv r 3) := by rw [H.2.1.cnt, e3]
  have hl : ∀ ν p, RS b t ν k p 0 → ν 0 13 = r → f_X10_houseLine ν = if nv r 3 = 8 then (f_X10_wrong (upm ν 0 12 11 (Int32.ofNat (en b t (tk b t k)))) (Int32.ofNat (tk b t k))).bind gLine else gLine (upm ν 0 12 11 (Int32.ofNat (en b t (tk b t k)))) := fun ν p R er => by
    rw [r_hline R, if_pos h, guestLine_e, upm_ne (by omega), er, e3, il_eq (by omega) (by decide)]
  unfold f_X3_readGuest
  rw [show μ (1 + 1) 1 3 = _ from ec, show (8 : Int32) = Int32.ofNat 8 from rfl, il_le (by decide) (by omega)]
  have tl := tk_lt S.1 S.2.1
  by_cases hn : 8 ≤ nv r 3
  · rw [if_pos hn]
    refine .inl ⟨k, μ, rfl, S.2.1, S.2.2, hF.refl μ, fun ν p R er => ?_⟩
    obtain ⟨km, kt⟩ := tl.2 (by omega)
    have hx := R.wrong (k' := k) (by omega) (en_b (b := b) kt).2
    refine ⟨_, ?_, hx.1, hx.2.g⟩
    rw [hl ν p R er, if_pos (by omega), rs_wrong (R.adv kt).2.2.2.2.1, bs_q, gLine_f (fs_ne hx.1 S.1 S.2.1)]
  · rw [if_neg hn]
    refine OutG.word (w := 10) (F1 := gLine) (G := cWish) S (by decide) (by decide) (fun _ S1 _ => ?_) (fun ν p R er _ => ?_) (fun ν p R hn => absurd h hn)
    · exact wish_both S1 (by rw [upm_ng (by decide)]; exact H) rfl (by omega)
    · rw [hl ν p R er, if_neg (by omega)]
theorem hline_both {ev : Row → Int32} {b : Nat → Nat} {t m : Nat} {μ : Mem} {k : Nat} {r : Row} (S : CH b t m μ k) (H : HV ev (μ 2) r) : OutG ev b t m μ k r (f_X3_readLine 1 μ) f_X10_houseLine := by
  have hkd := kd_le b t (tk b t k)
  by_cases h : kd b t (tk b t k) = 10 ∨ 27 ≤ kd b t (tk b t k)
  · rcases (show kd b t (tk b t k) = 10 ∨ kd b t (tk b t k) = 27 ∨ kd b t (tk b t k) = 28 ∨ kd b t (tk b t k) = 29 ∨ kd b t (tk b t k) = 30 ∨ kd b t (tk b t k) = 31 ∨ kd b t (tk b t k) = 32 ∨ kd b t (tk b t k) = 33 ∨ kd b t (tk b t k) = 34 by omega) with h | h | h | h | h | h | h | h | h
    · exact line10 S H h
    · exact line27 S H h
    · exact line28 S H h
    · exact line29 S H h
    · exact line30 S H h
    · exact line31 S H h
    · exact line32 S H h
    · exact line33 S H h
    · exact line34 S H h
  · rw [c_hline0 S h]
    refine .inl ⟨k, μ, rfl, S.2.1, S.2.2, hF.refl μ, fun ν p R er => ?_⟩
    have hx := R.wrong (k' := k) (by omega) (tk_lt S.1 S.2.1).1
    refine ⟨_, ?_, hx.1, hx.2.g⟩
    rw [r_hline R]
    rw [if_neg (show ¬ kd b t (tk b t k) = 10 by omega)]
    rw [if_neg (show ¬ kd b t (tk b t k) = 27 by omega)]
    rw [if_neg (show ¬ kd b t (tk b t k) = 28 by omega)]
    rw [if_neg (show ¬ kd b t (tk b t k) = 29 by omega)]
    rw [if_neg (show ¬ kd b t (tk b t k) = 30 by omega)]
    rw [if_neg (show ¬ kd b t (tk b t k) = 31 by omega)]
    rw [if_neg (show ¬ kd b t (tk b t k) = 32 by omega)]
    rw [if_neg (show ¬ kd b t (tk b t k) = 33 by omega)]
    rw [if_neg (show ¬ kd b t (tk b t k) = 34 by omega)]
