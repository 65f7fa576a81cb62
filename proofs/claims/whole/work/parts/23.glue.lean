/-! ===== the law's cases, answered alike ===== -/
def LOK (E : Option (Int32 × Mem)) (F : Mem → Option (Int32 × Mem)) : Prop := ∃ t μ1 w μ2, E = some (t, μ1) ∧ F μ1 = some (w, μ2) ∧ μ2 0 12 0 = t ∧ (t = 0 → μ2 0 22 0 = w) ∧ Rel μ2
theorem LOK.of {cm : List (Nat × Int32)} {E : Option (Nat × Int32 × Mem)} {L : Option (Int32 × Mem)} {F : Mem → Option (Int32 × Mem)} (h : AgT cm E F) (hL : ∀ c t v μ1, (c, t) ∈ cm → E = some (c, v, μ1) → L = some (t, if c = 0 then upm μ1 0 22 0 v else μ1) ∧ (t = 0 → c = 0)) : LOK L F := by
  obtain ⟨c, t, v, μ1, hm, hE, hF⟩ := h
  obtain ⟨h1, h2⟩ := hL c t v μ1 hm hE
  obtain ⟨w, μ2, a1, a2, a3, a4, a5⟩ := hF _ rfl
  refine ⟨t, _, w, μ2, h1, a1, a2, fun h => ?_, a5⟩
  rw [a4, if_pos (h2 h), upm_at, a3 (h2 h)]
def TR (E : Option (Nat × Int32 × Mem)) : Prop := ∀ v μ1, E = some (0, v, μ1) → v = 0 ∨ v = 1
theorem tr_some {E : Option (Nat × Int32 × Mem)} {v : Int32} {μ1 : Mem} (h : TR E) (e : E = some (0, v, μ1)) : v = 0 ∨ v = 1 := h v μ1 e
theorem tr_bind {τ : Type} {E : Option τ} {k : τ → Option (Nat × Int32 × Mem)} (h : ∀ q, TR (k q)) : TR (E.bind k) := fun v μ1 e => by
  cases E with
  | none => cases e
  | some q => exact h q v μ1 e
theorem tr_nm {τ : Type} {x : τ} {k : τ → Option (Nat × Int32 × Mem)} (h : TR (k x)) : TR (nm x k) := h
theorem tr_ite {c : Prop} [Decidable c] {X Y : Option (Nat × Int32 × Mem)} (h1 : TR X) (h2 : TR Y) : TR (if c then X else Y) := by
  by_cases h : c
  · rw [if_pos h]
    exact h1
  · rw [if_neg h]
    exact h2
theorem tr_r0 {M : Mem} : TR (some (0, 0, M)) := fun v μ1 e => .inl (by cases e; rfl)
theorem tr_r1 {M : Mem} : TR (some (0, 1, M)) := fun v μ1 e => .inr (by cases e; rfl)
theorem tr_rc {c : Nat} {v : Int32} {M : Mem} (h : c ≠ 0) : TR (some (c, v, M)) := fun v μ1 e => by
  cases e
  exact absurd rfl h
theorem tr_bk {x : Int32} {M : Mem} : TR (bk x (some (0, x, M))) := fun v μ1 e => by
  unfold bk at e
  by_cases h : x = 0 ∨ x = 1
  · rw [if_pos h] at e
    cases e
    exact h
  · rw [if_neg h] at e
    cases e
theorem L0 (v : Int32) (μ1 : Mem) : (ix 0 1 (nm (upm μ1 0 22 (Int32.toNatClampNeg 0) v) fun (μ4 : Mem) => some ((0 : Int32), μ4))) = some (0, upm μ1 0 22 0 v) := by
  have i0 : ∀ E : Option (Int32 × Mem), ix 0 1 E = E := fun E => ix_on (k := 0) (by decide) (by decide)
  rw [i0, nm_q]
  rfl
theorem Lb {v : Int32} (hv : v = 0 ∨ v = 1) (μ1 : Mem) : (if v = 0 then (ix 0 1 (nm (upm μ1 0 22 (Int32.toNatClampNeg 0) 0) fun (μ4 : Mem) => some ((0 : Int32), μ4))) else (ix 0 1 (nm (upm μ1 0 22 (Int32.toNatClampNeg 0) 1) fun (μ5 : Mem) => some (0, μ5)))) = some (0, upm μ1 0 22 0 v) := by
  rcases hv with rfl | rfl
  · rw [if_pos rfl, L0]
  · rw [if_neg (by decide), L0]
theorem lg_0 (x : Int32) : lg_cmp x.toInt64 x.toInt64 = 0 := (lg_cmp_eq _ _).mpr rfl
theorem i64_b {w : Int32} (hw : w = 0 ∨ w = 1) : (if w = 0 then (0 : Int64) else 1) = w.toInt64 := by
  rcases hw with rfl | rfl <;> first | rfl | decide
theorem nmB {τ : Type} (x : Int32) (f : Int32 → Option τ) : nm f (fun (J : Int32 → Option τ) => if x = 0 then J 0 else J 1) = f (bI (decide (¬ x = 0))) := by
  rw [nm_q]
  by_cases h : x = 0
  · rw [if_pos h, decide_eq_false (fun q => q h)]
    rfl
  · rw [if_neg h, decide_eq_true h]
    rfl
theorem tl_T {K : Int32 → Mem → Option Unit} {i : Int32} {E : Option (Int32 × Mem)} {F : Mem → Option (Int32 × Mem)} (hK : ∀ μ, Rel μ → K i μ = some ()) (h : LOK E F) : (E.bind fun (q1 : Int32 × Mem) => (F q1.2).bind fun (q2 : Int32 × Mem) => (f_X10_thrown q2.2).bind fun (q3 : Int32) => if q3 = q1.1 then (if q1.1 = 0 then (ix 0 1 (if (lg_cmp ((q2.2 0 22 (Int32.toNatClampNeg 0)).toInt64) q2.1.toInt64) = 0 then (K i q2.2) else (none))) else (K i q2.2)) else (none)) = some () := by
  obtain ⟨t, μ1, w, μ2, h1, h2, h3, h4, h5⟩ := h
  have i0 : ∀ E : Option Unit, ix 0 1 E = E := fun E => ix_on (k := 0) (by decide) (by decide)
  rw [h1, bs_q, h2, bs_q]
  show (if μ2 0 12 0 = t then (if t = 0 then (ix 0 1 (if (lg_cmp ((μ2 0 22 0).toInt64) w.toInt64) = 0 then (K i μ2) else (none))) else (K i μ2)) else (none)) = some ()
  rw [if_pos h3]
  by_cases ht : t = 0
  · rw [if_pos ht, i0, h4 ht, lg_0, if_pos rfl]
    exact hK μ2 h5
  · rw [if_neg ht]
    exact hK μ2 h5
/-- the same where a truth is compared -/
def LOKb (E : Option (Int32 × Mem)) (F : Mem → Option (Int32 × Mem)) : Prop := ∃ t μ1 w μ2, E = some (t, μ1) ∧ F μ1 = some (w, μ2) ∧ μ2 0 12 0 = t ∧ (t = 0 → μ2 0 22 0 = w ∧ (w = 0 ∨ w = 1)) ∧ Rel μ2
theorem LOKb.of {cm : List (Nat × Int32)} {E : Option (Nat × Int32 × Mem)} {L : Option (Int32 × Mem)} {F : Mem → Option (Int32 × Mem)} (h : AgT cm E F) (hL : ∀ c t v μ1, (c, t) ∈ cm → E = some (c, v, μ1) → L = some (t, if c = 0 then upm μ1 0 22 0 v else μ1) ∧ (t = 0 → c = 0 ∧ (v = 0 ∨ v = 1))) : LOKb L F := by
  obtain ⟨c, t, v, μ1, hm, hE, hF⟩ := h
  obtain ⟨h1, h2⟩ := hL c t v μ1 hm hE
  obtain ⟨w, μ2, a1, a2, a3, a4, a5⟩ := hF _ rfl
  refine ⟨t, _, w, μ2, h1, a1, a2, fun h => ?_, a5⟩
  obtain ⟨h3, h4⟩ := h2 h
  rw [a4, if_pos h3, upm_at, a3 h3]
  exact ⟨rfl, h4⟩
theorem tl_B {K : Int32 → Mem → Option Unit} {i : Int32} {E : Option (Int32 × Mem)} {F : Mem → Option (Int32 × Mem)} (hK : ∀ μ, Rel μ → K i μ = some ()) (h : LOKb E F) : (E.bind fun (q1 : Int32 × Mem) => (F q1.2).bind fun (q2 : Int32 × Mem) => (f_X10_thrown q2.2).bind fun (q3 : Int32) => if q3 = q1.1 then (if q1.1 = 0 then (ix 0 1 (nm (fun (x4 : Int64) => if (lg_cmp ((q2.2 0 22 (Int32.toNatClampNeg 0)).toInt64) x4) = 0 then (K i q2.2) else (none)) fun (J : Int64 → Option Unit) => if q2.1 = 0 then (J 0) else (J 1))) else (K i q2.2)) else (none)) = some () := by
  obtain ⟨t, μ1, w, μ2, h1, h2, h3, h4, h5⟩ := h
  have i0 : ∀ E : Option Unit, ix 0 1 E = E := fun E => ix_on (k := 0) (by decide) (by decide)
  have e : ∀ f : Int64 → Option Unit, nm f (fun (J : Int64 → Option Unit) => if w = 0 then J 0 else J 1) = f (if w = 0 then 0 else 1) := fun f => by
    rw [nm_q]
    by_cases h : w = 0
    · rw [if_pos h, if_pos h]
    · rw [if_neg h, if_neg h]
  rw [h1, bs_q, h2, bs_q]
  show (if μ2 0 12 0 = t then (if t = 0 then (ix 0 1 (nm (fun (x4 : Int64) => if (lg_cmp ((μ2 0 22 0).toInt64) x4) = 0 then (K i μ2) else (none)) fun (J : Int64 → Option Unit) => if w = 0 then (J 0) else (J 1))) else (K i μ2)) else (none)) = some ()
  rw [if_pos h3]
  by_cases ht : t = 0
  · obtain ⟨h6, h7⟩ := h4 ht
    rw [if_pos ht, i0, e, i64_b h7, h6]
    show (if lg_cmp w.toInt64 w.toInt64 = 0 then (K i μ2) else (none)) = some ()
    rw [lg_0, if_pos rfl]
    exact hK μ2 h5
  · rw [if_neg ht]
    exact hK μ2 h5
theorem tl_N {K : Int32 → Mem → Option Unit} {i : Int32} {E : Option (Int32 × Mem)} {F : Mem → Option (Int32 × Mem)} (hK : ∀ μ, Rel μ → K i μ = some ()) (h : AgN E F) : (E.bind fun (q1 : Int32 × Mem) => (F q1.2).bind fun (q2 : Int32 × Mem) => if q1.1 = q2.1 then (K i q2.2) else (none)) = some () := by
  obtain ⟨v, μ1, μ2, h1, h2, h3⟩ := h
  rw [h1, bs_q, h2, bs_q, if_pos rfl]
  exact hK μ2 h3
theorem tl_Q {K : Int32 → Mem → Option Unit} {i : Int32} {E : Option Int32} {F : Option (Int32 × Mem)} (hK : ∀ μ, Rel μ → K i μ = some ()) (h : AgQ E F) : (E.bind fun (q1 : Int32) => F.bind fun (q2 : Int32 × Mem) => if q1 = q2.1 then (K i q2.2) else (none)) = some () := by
  obtain ⟨v, μ2, h1, h2, h3⟩ := h
  rw [h1, bs_q, h2, bs_q, if_pos rfl]
  exact hK μ2 h3
theorem l_house {μ : Mem} (R : Rel μ) : LOK (f_L_house μ) f_X10_house := by
  refine LOK.of (q_house R) fun c t v μ1 hm hE => ?_
  simp only [List.mem_cons, Prod.mk.injEq, List.not_mem_nil, or_false] at hm
  rcases hm with ⟨rfl, rfl⟩ | ⟨rfl, rfl⟩ | ⟨rfl, rfl⟩
  · refine ⟨?_, fun _ => rfl⟩
    unfold f_L_house
    rw [hE, bs_q]
    exact (if_pos rfl).trans (L0 v μ1)
  · refine ⟨?_, fun h => absurd h (by decide)⟩
    unfold f_L_house
    rw [hE, bs_q]
    rfl
  · refine ⟨?_, fun h => absurd h (by decide)⟩
    unfold f_L_house
    rw [hE, bs_q]
    rfl
theorem l_law {μ : Mem} (R : Rel μ) : LOK (f_L_law μ) f_X10_law := by
  refine LOK.of (q_law R) fun c t v μ1 hm hE => ?_
  simp only [List.mem_cons, Prod.mk.injEq, List.not_mem_nil, or_false] at hm
  rcases hm with ⟨rfl, rfl⟩ | ⟨rfl, rfl⟩
  · refine ⟨?_, fun _ => rfl⟩
    unfold f_L_law
    rw [hE, bs_q]
    exact (if_pos rfl).trans (L0 v μ1)
  · refine ⟨?_, fun h => absurd h (by decide)⟩
    unfold f_L_law
    rw [hE, bs_q]
    rfl
theorem l_guest {μ : Mem} (R : Rel μ) (a b : Int32) : LOK (f_L_guest μ a b) (fun μ' => f_X10_guest μ' a b) := by
  refine LOK.of (q_guest R a b) fun c t v μ1 hm hE => ?_
  simp only [List.mem_cons, Prod.mk.injEq, List.not_mem_nil, or_false] at hm
  rcases hm with ⟨rfl, rfl⟩ | ⟨rfl, rfl⟩ | ⟨rfl, rfl⟩
  · refine ⟨?_, fun _ => rfl⟩
    unfold f_L_guest
    rw [hE, bs_q]
    exact (if_pos rfl).trans (L0 v μ1)
  · refine ⟨?_, fun h => absurd h (by decide)⟩
    unfold f_L_guest
    rw [hE, bs_q]
    rfl
  · refine ⟨?_, fun h => absurd h (by decide)⟩
    unfold f_L_guest
    rw [hE, bs_q]
    rfl
theorem l_room {μ : Mem} (R : Rel μ) (a b : Int32) : LOK (f_L_room μ a b) (fun μ' => f_X10_room μ' a b) := by
  refine LOK.of (q_room R a b) fun c t v μ1 hm hE => ?_
  simp only [List.mem_cons, Prod.mk.injEq, List.not_mem_nil, or_false] at hm
  rcases hm with ⟨rfl, rfl⟩ | ⟨rfl, rfl⟩ | ⟨rfl, rfl⟩
  · refine ⟨?_, fun _ => rfl⟩
    unfold f_L_room
    rw [hE, bs_q]
    exact (if_pos rfl).trans (L0 v μ1)
  · refine ⟨?_, fun h => absurd h (by decide)⟩
    unfold f_L_room
    rw [hE, bs_q]
    rfl
  · refine ⟨?_, fun h => absurd h (by decide)⟩
    unfold f_L_room
    rw [hE, bs_q]
    rfl
theorem l_calendar {μ : Mem} (R : Rel μ) (a : Int32) (nx : Bool) : LOK (f_L_calendar μ a (bI nx)) (fun μ' => f_X10_calendar μ' a (bI nx)) := by
  refine LOK.of (q_calendar R a nx) fun c t v μ1 hm hE => ?_
  simp only [List.mem_cons, Prod.mk.injEq, List.not_mem_nil, or_false] at hm
  rcases hm with ⟨rfl, rfl⟩ | ⟨rfl, rfl⟩
  · refine ⟨?_, fun _ => rfl⟩
    unfold f_L_calendar
    rw [hE, bs_q]
    exact (if_pos rfl).trans (L0 v μ1)
  · refine ⟨?_, fun h => absurd h (by decide)⟩
    unfold f_L_calendar
    rw [hE, bs_q]
    rfl
theorem b_saturday {μ μ1 : Mem} {a b v : Int32} (h : f_X9_saturday μ a b = some (0, v, μ1)) : v = 0 ∨ v = 1 := by
  refine tr_some ?_ h
  unfold f_X9_saturday
  exact tr_bind fun _ => tr_ite (tr_rc (by decide)) (tr_nm (tr_ite (tr_rc (by decide)) (tr_ite (tr_bind fun _ => tr_bk) (tr_rc (by decide)))))
theorem l_saturday {μ : Mem} (R : Rel μ) (a b : Int32) : LOKb (f_L_saturday μ a b) (fun μ' => f_X10_saturday μ' a b) := by
  refine LOKb.of (q_saturday R a b) fun c t v μ1 hm hE => ?_
  simp only [List.mem_cons, Prod.mk.injEq, List.not_mem_nil, or_false] at hm
  rcases hm with ⟨rfl, rfl⟩ | ⟨rfl, rfl⟩ | ⟨rfl, rfl⟩
  · have hv := b_saturday hE
    refine ⟨?_, fun _ => ⟨rfl, hv⟩⟩
    unfold f_L_saturday
    rw [hE, bs_q]
    exact (if_pos rfl).trans (Lb hv μ1)
  · refine ⟨?_, fun h => absurd h (by decide)⟩
    unfold f_L_saturday
    rw [hE, bs_q]
    rfl
  · refine ⟨?_, fun h => absurd h (by decide)⟩
    unfold f_L_saturday
    rw [hE, bs_q]
    rfl
theorem l_go {μ : Mem} (R : Rel μ) (a b : Int32) : LOK (f_L_go μ a b) (fun μ' => f_X10_go μ' a b) := by
  refine LOK.of (q_go R a b) fun c t v μ1 hm hE => ?_
  simp only [List.mem_cons, Prod.mk.injEq, List.not_mem_nil, or_false] at hm
  rcases hm with ⟨rfl, rfl⟩ | ⟨rfl, rfl⟩
  · refine ⟨?_, fun _ => rfl⟩
    unfold f_L_go
    rw [hE, bs_q]
    exact (if_pos rfl).trans (L0 v μ1)
  · refine ⟨?_, fun h => absurd h (by decide)⟩
    unfold f_L_go
    rw [hE, bs_q]
    rfl
theorem b_come {μ μ1 : Mem} {a b v : Int32} (h : f_X9_come μ a b = some (0, v, μ1)) : v = 0 ∨ v = 1 := by
  refine tr_some ?_ h
  unfold f_X9_come
  exact tr_bind fun _ => tr_ite (tr_rc (by decide)) (tr_bind fun _ => tr_bind fun _ => tr_bind fun _ => tr_nm (tr_ite tr_r0 tr_r1))
theorem l_come {μ : Mem} (R : Rel μ) (a : Int32) (b : Bool) : LOKb (f_L_come μ a (bI b)) (fun μ' => f_X10_come μ' a (bI b)) := by
  refine LOKb.of (q_come R a b) fun c t v μ1 hm hE => ?_
  simp only [List.mem_cons, Prod.mk.injEq, List.not_mem_nil, or_false] at hm
  rcases hm with ⟨rfl, rfl⟩ | ⟨rfl, rfl⟩
  · have hv := b_come hE
    refine ⟨?_, fun _ => ⟨rfl, hv⟩⟩
    unfold f_L_come
    rw [hE, bs_q]
    exact (if_pos rfl).trans (Lb hv μ1)
  · refine ⟨?_, fun h => absurd h (by decide)⟩
    unfold f_L_come
    rw [hE, bs_q]
    rfl
theorem b_key {μ μ1 : Mem} {a b v : Int32} (h : f_X9_key μ a b = some (0, v, μ1)) : v = 0 ∨ v = 1 := by
  refine tr_some ?_ h
  unfold f_X9_key
  exact tr_bind fun _ => tr_ite (tr_rc (by decide)) (tr_bind fun _ => tr_bind fun _ => tr_bind fun _ => tr_nm (tr_ite tr_r0 tr_r1))
theorem l_key {μ : Mem} (R : Rel μ) (a : Int32) (b : Bool) : LOKb (f_L_key μ a (bI b)) (fun μ' => f_X10_key μ' a (bI b)) := by
  refine LOKb.of (q_key R a b) fun c t v μ1 hm hE => ?_
  simp only [List.mem_cons, Prod.mk.injEq, List.not_mem_nil, or_false] at hm
  rcases hm with ⟨rfl, rfl⟩ | ⟨rfl, rfl⟩
  · have hv := b_key hE
    refine ⟨?_, fun _ => ⟨rfl, hv⟩⟩
    unfold f_L_key
    rw [hE, bs_q]
    exact (if_pos rfl).trans (Lb hv μ1)
  · refine ⟨?_, fun h => absurd h (by decide)⟩
    unfold f_L_key
    rw [hE, bs_q]
    rfl
theorem b_hole {μ μ1 : Mem} {a b c v : Int32} (h : f_X9_hole μ a b c = some (0, v, μ1)) : v = 0 ∨ v = 1 := by
  refine tr_some ?_ h
  unfold f_X9_hole
  exact tr_bind fun _ => tr_nm (tr_ite (tr_rc (by decide)) (tr_bind fun _ => tr_ite (tr_rc (by decide)) (tr_ite (tr_rc (by decide)) (tr_bind fun _ => tr_bind fun _ => tr_bind fun _ => tr_bind fun _ => tr_ite tr_r0 tr_r1))))
theorem l_hole {μ : Mem} (R : Rel μ) (a o : Int32) (b : Bool) : LOKb (f_L_hole μ a o (bI b)) (fun μ' => f_X10_hole μ' a o (bI b)) := by
  refine LOKb.of (q_hole R a o b) fun c t v μ1 hm hE => ?_
  simp only [List.mem_cons, Prod.mk.injEq, List.not_mem_nil, or_false] at hm
  rcases hm with ⟨rfl, rfl⟩ | ⟨rfl, rfl⟩ | ⟨rfl, rfl⟩
  · have hv := b_hole hE
    refine ⟨?_, fun _ => ⟨rfl, hv⟩⟩
    unfold f_L_hole
    rw [hE, bs_q]
    exact (if_pos rfl).trans (Lb hv μ1)
  · refine ⟨?_, fun h => absurd h (by decide)⟩
    unfold f_L_hole
    rw [hE, bs_q]
    rfl
  · refine ⟨?_, fun h => absurd h (by decide)⟩
    unfold f_L_hole
    rw [hE, bs_q]
    rfl
theorem l_bath {μ : Mem} (R : Rel μ) (a : Int32) : LOK (f_L_bath μ a) (fun μ' => f_X10_bath μ' a) := by
  refine LOK.of (q_bath R a) fun c t v μ1 hm hE => ?_
  simp only [List.mem_cons, Prod.mk.injEq, List.not_mem_nil, or_false] at hm
  rcases hm with ⟨rfl, rfl⟩ | ⟨rfl, rfl⟩
  · refine ⟨?_, fun _ => rfl⟩
    unfold f_L_bath
    rw [hE, bs_q]
    exact (if_pos rfl).trans (L0 v μ1)
  · refine ⟨?_, fun h => absurd h (by decide)⟩
    unfold f_L_bath
    rw [hE, bs_q]
    rfl
theorem l_keep {μ : Mem} (R : Rel μ) (a : Int32) : LOK (f_L_keep μ a) (fun μ' => f_X10_keep μ' a) := by
  refine LOK.of (q_keep R a) fun c t v μ1 hm hE => ?_
  simp only [List.mem_cons, Prod.mk.injEq, List.not_mem_nil, or_false] at hm
  rcases hm with ⟨rfl, rfl⟩ | ⟨rfl, rfl⟩
  · refine ⟨?_, fun _ => rfl⟩
    unfold f_L_keep
    rw [hE, bs_q]
    exact (if_pos rfl).trans (L0 v μ1)
  · refine ⟨?_, fun h => absurd h (by decide)⟩
    unfold f_L_keep
    rw [hE, bs_q]
    rfl
theorem l_masons {μ : Mem} (R : Rel μ) (a : Int32) : LOK (f_L_masons μ a) (fun μ' => f_X10_masons μ' a) := by
  refine LOK.of (q_masons R a) fun c t v μ1 hm hE => ?_
  simp only [List.mem_cons, Prod.mk.injEq, List.not_mem_nil, or_false] at hm
  rcases hm with ⟨rfl, rfl⟩ | ⟨rfl, rfl⟩
  · refine ⟨?_, fun _ => rfl⟩
    unfold f_L_masons
    rw [hE, bs_q]
    exact (if_pos rfl).trans (L0 v μ1)
  · refine ⟨?_, fun h => absurd h (by decide)⟩
    unfold f_L_masons
    rw [hE, bs_q]
    rfl
theorem l_buy {μ : Mem} (R : Rel μ) (a : Int32) : LOK (f_L_buy μ a) (fun μ' => f_X10_buy μ' a) := by
  refine LOK.of (q_buy R a) fun c t v μ1 hm hE => ?_
  simp only [List.mem_cons, Prod.mk.injEq, List.not_mem_nil, or_false] at hm
  rcases hm with ⟨rfl, rfl⟩ | ⟨rfl, rfl⟩
  · refine ⟨?_, fun _ => rfl⟩
    unfold f_L_buy
    rw [hE, bs_q]
    exact (if_pos rfl).trans (L0 v μ1)
  · refine ⟨?_, fun h => absurd h (by decide)⟩
    unfold f_L_buy
    rw [hE, bs_q]
    rfl
theorem l_calm {μ : Mem} (R : Rel μ) (a : Int32) : LOK (f_L_calm μ a) (fun μ' => f_X10_calm μ' a) := by
  refine LOK.of (q_calm R a) fun c t v μ1 hm hE => ?_
  simp only [List.mem_cons, Prod.mk.injEq, List.not_mem_nil, or_false] at hm
  rcases hm with ⟨rfl, rfl⟩ | ⟨rfl, rfl⟩
  · refine ⟨?_, fun _ => rfl⟩
    unfold f_L_calm
    rw [hE, bs_q]
    exact (if_pos rfl).trans (L0 v μ1)
  · refine ⟨?_, fun h => absurd h (by decide)⟩
    unfold f_L_calm
    rw [hE, bs_q]
    rfl
theorem l_days {μ : Mem} (R : Rel μ) (a : Int32) : LOK (f_L_days μ a) (fun μ' => f_X10_days μ' a) := by
  refine LOK.of (q_days R a) fun c t v μ1 hm hE => ?_
  simp only [List.mem_cons, Prod.mk.injEq, List.not_mem_nil, or_false] at hm
  rcases hm with ⟨rfl, rfl⟩ | ⟨rfl, rfl⟩
  · refine ⟨?_, fun _ => rfl⟩
    unfold f_L_days
    rw [hE, bs_q]
    exact (if_pos rfl).trans (L0 v μ1)
  · refine ⟨?_, fun h => absurd h (by decide)⟩
    unfold f_L_days
    rw [hE, bs_q]
    rfl
theorem l_ahead {μ : Mem} (R : Rel μ) (a b c : Int32) : LOK (f_L_ahead μ a b c) (fun μ' => f_X10_ahead μ' a b c) := by
  refine LOK.of (q_ahead R a b c) fun c t v μ1 hm hE => ?_
  simp only [List.mem_cons, Prod.mk.injEq, List.not_mem_nil, or_false] at hm
  rcases hm with ⟨rfl, rfl⟩ | ⟨rfl, rfl⟩ | ⟨rfl, rfl⟩ | ⟨rfl, rfl⟩
  · refine ⟨?_, fun _ => rfl⟩
    unfold f_L_ahead
    rw [hE, bs_q]
    exact (if_pos rfl).trans (L0 v μ1)
  · refine ⟨?_, fun h => absurd h (by decide)⟩
    unfold f_L_ahead
    rw [hE, bs_q]
    rfl
  · refine ⟨?_, fun h => absurd h (by decide)⟩
    unfold f_L_ahead
    rw [hE, bs_q]
    rfl
  · refine ⟨?_, fun h => absurd h (by decide)⟩
    unfold f_L_ahead
    rw [hE, bs_q]
    rfl
theorem l_saturdays {μ : Mem} (R : Rel μ) (a : Int32) : LOK (f_L_saturdays μ a) (fun μ' => f_X10_saturdays μ' a) := by
  refine LOK.of (q_saturdays R a) fun c t v μ1 hm hE => ?_
  simp only [List.mem_cons, Prod.mk.injEq, List.not_mem_nil, or_false] at hm
  rcases hm with ⟨rfl, rfl⟩ | ⟨rfl, rfl⟩
  · refine ⟨?_, fun _ => rfl⟩
    unfold f_L_saturdays
    rw [hE, bs_q]
    exact (if_pos rfl).trans (L0 v μ1)
  · refine ⟨?_, fun h => absurd h (by decide)⟩
    unfold f_L_saturdays
    rw [hE, bs_q]
    rfl
theorem l_first {μ : Mem} (R : Rel μ) (a b : Int32) : LOK (f_L_first μ a b) (fun μ' => f_X10_first μ' a b) := by
  refine LOK.of (q_first R a b) fun c t v μ1 hm hE => ?_
  simp only [List.mem_cons, Prod.mk.injEq, List.not_mem_nil, or_false] at hm
  rcases hm with ⟨rfl, rfl⟩ | ⟨rfl, rfl⟩ | ⟨rfl, rfl⟩
  · refine ⟨?_, fun _ => rfl⟩
    unfold f_L_first
    rw [hE, bs_q]
    exact (if_pos rfl).trans (L0 v μ1)
  · refine ⟨?_, fun h => absurd h (by decide)⟩
    unfold f_L_first
    rw [hE, bs_q]
    rfl
  · refine ⟨?_, fun h => absurd h (by decide)⟩
    unfold f_L_first
    rw [hE, bs_q]
    rfl
theorem l_stand {μ : Mem} (R : Rel μ) (a : Int32) : LOK (f_L_stand μ a) (fun μ' => f_X10_stand μ' a) := by
  refine LOK.of (q_stand R a) fun c t v μ1 hm hE => ?_
  simp only [List.mem_cons, Prod.mk.injEq, List.not_mem_nil, or_false] at hm
  rcases hm with ⟨rfl, rfl⟩ | ⟨rfl, rfl⟩
  · refine ⟨?_, fun _ => rfl⟩
    unfold f_L_stand
    rw [hE, bs_q]
    exact (if_pos rfl).trans (L0 v μ1)
  · refine ⟨?_, fun h => absurd h (by decide)⟩
    unfold f_L_stand
    rw [hE, bs_q]
    rfl
theorem l_sent {μ : Mem} (R : Rel μ) (q : Int32) : LOK (f_L_sent μ q) (fun μ' => f_X10_sent μ' q) := by
  refine LOK.of (q_sent R q) fun c t v μ1 hm hE => ?_
  simp only [List.mem_cons, Prod.mk.injEq, List.not_mem_nil, or_false] at hm
  rcases hm with ⟨rfl, rfl⟩ | ⟨rfl, rfl⟩
  · refine ⟨?_, fun _ => rfl⟩
    unfold f_L_sent
    rw [hE, bs_q]
    exact (if_pos rfl).trans (L0 v μ1)
  · refine ⟨?_, fun h => absurd h (by decide)⟩
    unfold f_L_sent
    rw [hE, bs_q]
    rfl
theorem l_rests {μ : Mem} (R : Rel μ) (a : Int32) : LOK (f_L_rests μ a) (fun μ' => f_X10_rests μ' a) := by
  refine LOK.of (q_rests R a) fun c t v μ1 hm hE => ?_
  simp only [List.mem_cons, Prod.mk.injEq, List.not_mem_nil, or_false] at hm
  rcases hm with ⟨rfl, rfl⟩ | ⟨rfl, rfl⟩
  · refine ⟨?_, fun _ => rfl⟩
    unfold f_L_rests
    rw [hE, bs_q]
    exact (if_pos rfl).trans (L0 v μ1)
  · refine ⟨?_, fun h => absurd h (by decide)⟩
    unfold f_L_rests
    rw [hE, bs_q]
    rfl
theorem l_shifts {μ : Mem} (R : Rel μ) : LOK (f_L_shifts μ) (fun μ' => f_X10_shifts μ') := by
  refine LOK.of (q_shifts R) fun c t v μ1 hm hE => ?_
  simp only [List.mem_cons, Prod.mk.injEq, List.not_mem_nil, or_false] at hm
  rcases hm with ⟨rfl, rfl⟩ | ⟨rfl, rfl⟩
  · refine ⟨?_, fun _ => rfl⟩
    unfold f_L_shifts
    rw [hE, bs_q]
    exact (if_pos rfl).trans (L0 v μ1)
  · refine ⟨?_, fun h => absurd h (by decide)⟩
    unfold f_L_shifts
    rw [hE, bs_q]
    rfl
theorem l_ask {μ : Mem} (R : Rel μ) : LOK (f_L_ask μ) (fun μ' => f_X10_ask μ') := by
  refine LOK.of (q_ask R) fun c t v μ1 hm hE => ?_
  simp only [List.mem_cons, Prod.mk.injEq, List.not_mem_nil, or_false] at hm
  rcases hm with ⟨rfl, rfl⟩ | ⟨rfl, rfl⟩
  · refine ⟨?_, fun _ => rfl⟩
    unfold f_L_ask
    rw [hE, bs_q]
    exact (if_pos rfl).trans (L0 v μ1)
  · refine ⟨?_, fun h => absurd h (by decide)⟩
    unfold f_L_ask
    rw [hE, bs_q]
    rfl
theorem l_bored {μ : Mem} (R : Rel μ) (b : Bool) : LOK (f_L_bored μ (bI b)) (fun μ' => f_X10_bored μ' (bI b)) := by
  refine LOK.of (q_bored R b) fun c t v μ1 hm hE => ?_
  simp only [List.mem_cons, Prod.mk.injEq, List.not_mem_nil, or_false] at hm
  rcases hm with ⟨rfl, rfl⟩ | ⟨rfl, rfl⟩
  · refine ⟨?_, fun _ => rfl⟩
    unfold f_L_bored
    rw [hE, bs_q]
    exact (if_pos rfl).trans (L0 v μ1)
  · refine ⟨?_, fun h => absurd h (by decide)⟩
    unfold f_L_bored
    rw [hE, bs_q]
    rfl
theorem l_look {μ : Mem} (R : Rel μ) : LOK (f_L_look μ) (fun μ' => f_X10_look μ') := by
  refine LOK.of (q_look R) fun c t v μ1 hm hE => ?_
  simp only [List.mem_cons, Prod.mk.injEq, List.not_mem_nil, or_false] at hm
  rcases hm with ⟨rfl, rfl⟩ | ⟨rfl, rfl⟩
  · refine ⟨?_, fun _ => rfl⟩
    unfold f_L_look
    rw [hE, bs_q]
    exact (if_pos rfl).trans (L0 v μ1)
  · refine ⟨?_, fun h => absurd h (by decide)⟩
    unfold f_L_look
    rw [hE, bs_q]
    rfl
theorem l_line {μ : Mem} (R : Rel μ) (a b : Int32) : LOK (f_L_line μ a b) (fun μ' => f_X10_line μ' a b) := by
  refine LOK.of (q_line R a b) fun c t v μ1 hm hE => ?_
  simp only [List.mem_cons, Prod.mk.injEq, List.not_mem_nil, or_false] at hm
  rcases hm with ⟨rfl, rfl⟩ | ⟨rfl, rfl⟩
  · refine ⟨?_, fun _ => rfl⟩
    unfold f_L_line
    rw [hE, bs_q]
    exact (if_pos rfl).trans (L0 v μ1)
  · refine ⟨?_, fun h => absurd h (by decide)⟩
    unfold f_L_line
    rw [hE, bs_q]
    rfl
theorem l_pass {μ : Mem} (R : Rel μ) (a b : Int32) : LOK (f_L_pass μ a b) (fun μ' => f_X10_pass μ' a b) := by
  refine LOK.of (q_pass R a b) fun c t v μ1 hm hE => ?_
  simp only [List.mem_cons, Prod.mk.injEq, List.not_mem_nil, or_false] at hm
  rcases hm with ⟨rfl, rfl⟩ | ⟨rfl, rfl⟩
  · refine ⟨?_, fun _ => rfl⟩
    unfold f_L_pass
    rw [hE, bs_q]
    exact (if_pos rfl).trans (L0 v μ1)
  · refine ⟨?_, fun h => absurd h (by decide)⟩
    unfold f_L_pass
    rw [hE, bs_q]
    rfl
theorem l_agree {μ : Mem} (R : Rel μ) (a : Int32) : LOK (f_L_agree μ a) (fun μ' => f_X10_agree μ' a) := by
  refine LOK.of (q_agree R a) fun c t v μ1 hm hE => ?_
  simp only [List.mem_cons, Prod.mk.injEq, List.not_mem_nil, or_false] at hm
  rcases hm with ⟨rfl, rfl⟩ | ⟨rfl, rfl⟩
  · refine ⟨?_, fun _ => rfl⟩
    unfold f_L_agree
    rw [hE, bs_q]
    exact (if_pos rfl).trans (L0 v μ1)
  · refine ⟨?_, fun h => absurd h (by decide)⟩
    unfold f_L_agree
    rw [hE, bs_q]
    rfl
theorem l_need {μ : Mem} (R : Rel μ) (a : Int32) : LOK (f_L_need μ a) (fun μ' => f_X10_need μ' a) := by
  refine LOK.of (q_need R a) fun c t v μ1 hm hE => ?_
  simp only [List.mem_cons, Prod.mk.injEq, List.not_mem_nil, or_false] at hm
  rcases hm with ⟨rfl, rfl⟩ | ⟨rfl, rfl⟩
  · refine ⟨?_, fun _ => rfl⟩
    unfold f_L_need
    rw [hE, bs_q]
    exact (if_pos rfl).trans (L0 v μ1)
  · refine ⟨?_, fun h => absurd h (by decide)⟩
    unfold f_L_need
    rw [hE, bs_q]
    rfl
theorem l_spread {μ : Mem} (R : Rel μ) (a : Int32) : LOK (f_L_spread μ a) (fun μ' => f_X10_spread μ' a) := by
  refine LOK.of (q_spread R a) fun c t v μ1 hm hE => ?_
  simp only [List.mem_cons, Prod.mk.injEq, List.not_mem_nil, or_false] at hm
  rcases hm with ⟨rfl, rfl⟩ | ⟨rfl, rfl⟩
  · refine ⟨?_, fun _ => rfl⟩
    unfold f_L_spread
    rw [hE, bs_q]
    exact (if_pos rfl).trans (L0 v μ1)
  · refine ⟨?_, fun h => absurd h (by decide)⟩
    unfold f_L_spread
    rw [hE, bs_q]
    rfl
theorem l_trial {μ : Mem} (R : Rel μ) (a : Int32) (b : Bool) : LOK (f_L_trial μ a (bI b)) (fun μ' => f_X10_trial μ' a (bI b)) := by
  refine LOK.of (q_trial R a b) fun c t v μ1 hm hE => ?_
  simp only [List.mem_cons, Prod.mk.injEq, List.not_mem_nil, or_false] at hm
  rcases hm with ⟨rfl, rfl⟩ | ⟨rfl, rfl⟩
  · refine ⟨?_, fun _ => rfl⟩
    unfold f_L_trial
    rw [hE, bs_q]
    exact (if_pos rfl).trans (L0 v μ1)
  · refine ⟨?_, fun h => absurd h (by decide)⟩
    unfold f_L_trial
    rw [hE, bs_q]
    rfl
theorem l_span {μ : Mem} (R : Rel μ) (a : Int32) (b : Bool) : LOK (f_L_span μ a (bI b)) (fun μ' => f_X10_span μ' a (bI b)) := by
  refine LOK.of (q_span R a b) fun c t v μ1 hm hE => ?_
  simp only [List.mem_cons, Prod.mk.injEq, List.not_mem_nil, or_false] at hm
  rcases hm with ⟨rfl, rfl⟩ | ⟨rfl, rfl⟩
  · refine ⟨?_, fun _ => rfl⟩
    unfold f_L_span
    rw [hE, bs_q]
    exact (if_pos rfl).trans (L0 v μ1)
  · refine ⟨?_, fun h => absurd h (by decide)⟩
    unfold f_L_span
    rw [hE, bs_q]
    rfl
theorem l_led {μ : Mem} (R : Rel μ) (a : Int32) (b : Bool) : LOK (f_L_led μ a (bI b)) (fun μ' => f_X10_led μ' a (bI b)) := by
  refine LOK.of (q_led R a b) fun c t v μ1 hm hE => ?_
  simp only [List.mem_cons, Prod.mk.injEq, List.not_mem_nil, or_false] at hm
  rcases hm with ⟨rfl, rfl⟩ | ⟨rfl, rfl⟩
  · refine ⟨?_, fun _ => rfl⟩
    unfold f_L_led
    rw [hE, bs_q]
    exact (if_pos rfl).trans (L0 v μ1)
  · refine ⟨?_, fun h => absurd h (by decide)⟩
    unfold f_L_led
    rw [hE, bs_q]
    rfl
theorem l_log {μ : Mem} (R : Rel μ) (a b : Int32) : LOK (f_L_log μ a b) (fun μ' => f_X10_log μ' a b) := by
  refine LOK.of (q_log R a b) fun c t v μ1 hm hE => ?_
  simp only [List.mem_cons, Prod.mk.injEq, List.not_mem_nil, or_false] at hm
  rcases hm with ⟨rfl, rfl⟩ | ⟨rfl, rfl⟩
  · refine ⟨?_, fun _ => rfl⟩
    unfold f_L_log
    rw [hE, bs_q]
    exact (if_pos rfl).trans (L0 v μ1)
  · refine ⟨?_, fun h => absurd h (by decide)⟩
    unfold f_L_log
    rw [hE, bs_q]
    rfl
theorem g_0 {xs : Nat → Int32} {n : Nat} {K : Int32 → Mem → Option Unit} {i : Int32} {μ : Mem} (R : Rel μ) (hx : ∀ (k : Int32), k = 1 ∨ k = 2 ∨ k = 3 ∨ k = 4 ∨ k = 5 → ∀ E : Option Unit, ix (i + k) n E = E) (hK : ∀ μ, Rel μ → K i μ = some ()) : lc_0 xs n K i μ = some () := by
  unfold lc_0
  simp only [hx 1 (by decide), hx 2 (by decide), hx 3 (by decide), hx 4 (by decide), hx 5 (by decide)]
  exact tl_N hK (q_feed R _ _ _ _ _)
theorem g_1 {xs : Nat → Int32} {n : Nat} {K : Int32 → Mem → Option Unit} {i : Int32} {μ : Mem} (R : Rel μ) (hx : ∀ (k : Int32), k = 1 ∨ k = 2 ∨ k = 3 ∨ k = 4 ∨ k = 5 → ∀ E : Option Unit, ix (i + k) n E = E) (hK : ∀ μ, Rel μ → K i μ = some ()) : lc_1 xs n K i μ = some () := by
  unfold lc_1
  simp only [hx 1 (by decide)]
  exact tl_N hK (q_end R _)
theorem g_2 {xs : Nat → Int32} {n : Nat} {K : Int32 → Mem → Option Unit} {i : Int32} {μ : Mem} (R : Rel μ) (hx : ∀ (k : Int32), k = 1 ∨ k = 2 ∨ k = 3 ∨ k = 4 ∨ k = 5 → ∀ E : Option Unit, ix (i + k) n E = E) (hK : ∀ μ, Rel μ → K i μ = some ()) : lc_2 xs n K i μ = some () := by
  unfold lc_2
  exact tl_T hK (l_house R )
theorem g_3 {xs : Nat → Int32} {n : Nat} {K : Int32 → Mem → Option Unit} {i : Int32} {μ : Mem} (R : Rel μ) (hx : ∀ (k : Int32), k = 1 ∨ k = 2 ∨ k = 3 ∨ k = 4 ∨ k = 5 → ∀ E : Option Unit, ix (i + k) n E = E) (hK : ∀ μ, Rel μ → K i μ = some ()) : lc_3 xs n K i μ = some () := by
  unfold lc_3
  exact tl_T hK (l_law R )
theorem g_4 {xs : Nat → Int32} {n : Nat} {K : Int32 → Mem → Option Unit} {i : Int32} {μ : Mem} (R : Rel μ) (hx : ∀ (k : Int32), k = 1 ∨ k = 2 ∨ k = 3 ∨ k = 4 ∨ k = 5 → ∀ E : Option Unit, ix (i + k) n E = E) (hK : ∀ μ, Rel μ → K i μ = some ()) : lc_4 xs n K i μ = some () := by
  unfold lc_4
  exact tl_Q hK (q_fault R )
theorem g_5 {xs : Nat → Int32} {n : Nat} {K : Int32 → Mem → Option Unit} {i : Int32} {μ : Mem} (R : Rel μ) (hx : ∀ (k : Int32), k = 1 ∨ k = 2 ∨ k = 3 ∨ k = 4 ∨ k = 5 → ∀ E : Option Unit, ix (i + k) n E = E) (hK : ∀ μ, Rel μ → K i μ = some ()) : lc_5 xs n K i μ = some () := by
  unfold lc_5
  simp only [hx 1 (by decide), hx 2 (by decide)]
  exact tl_T hK (l_guest R _ _)
theorem g_6 {xs : Nat → Int32} {n : Nat} {K : Int32 → Mem → Option Unit} {i : Int32} {μ : Mem} (R : Rel μ) (hx : ∀ (k : Int32), k = 1 ∨ k = 2 ∨ k = 3 ∨ k = 4 ∨ k = 5 → ∀ E : Option Unit, ix (i + k) n E = E) (hK : ∀ μ, Rel μ → K i μ = some ()) : lc_6 xs n K i μ = some () := by
  unfold lc_6
  simp only [hx 1 (by decide), hx 2 (by decide)]
  exact tl_T hK (l_room R _ _)
theorem g_7 {xs : Nat → Int32} {n : Nat} {K : Int32 → Mem → Option Unit} {i : Int32} {μ : Mem} (R : Rel μ) (hx : ∀ (k : Int32), k = 1 ∨ k = 2 ∨ k = 3 ∨ k = 4 ∨ k = 5 → ∀ E : Option Unit, ix (i + k) n E = E) (hK : ∀ μ, Rel μ → K i μ = some ()) : lc_7 xs n K i μ = some () := by
  unfold lc_7
  simp only [hx 1 (by decide), hx 2 (by decide), nmB]
  exact tl_T hK (l_calendar R _ _)
theorem g_8 {xs : Nat → Int32} {n : Nat} {K : Int32 → Mem → Option Unit} {i : Int32} {μ : Mem} (R : Rel μ) (hx : ∀ (k : Int32), k = 1 ∨ k = 2 ∨ k = 3 ∨ k = 4 ∨ k = 5 → ∀ E : Option Unit, ix (i + k) n E = E) (hK : ∀ μ, Rel μ → K i μ = some ()) : lc_8 xs n K i μ = some () := by
  unfold lc_8
  simp only [hx 1 (by decide), hx 2 (by decide)]
  exact tl_B hK (l_saturday R _ _)
theorem g_9 {xs : Nat → Int32} {n : Nat} {K : Int32 → Mem → Option Unit} {i : Int32} {μ : Mem} (R : Rel μ) (hx : ∀ (k : Int32), k = 1 ∨ k = 2 ∨ k = 3 ∨ k = 4 ∨ k = 5 → ∀ E : Option Unit, ix (i + k) n E = E) (hK : ∀ μ, Rel μ → K i μ = some ()) : lc_9 xs n K i μ = some () := by
  unfold lc_9
  simp only [hx 1 (by decide), hx 2 (by decide)]
  exact tl_T hK (l_go R _ _)
theorem g_10 {xs : Nat → Int32} {n : Nat} {K : Int32 → Mem → Option Unit} {i : Int32} {μ : Mem} (R : Rel μ) (hx : ∀ (k : Int32), k = 1 ∨ k = 2 ∨ k = 3 ∨ k = 4 ∨ k = 5 → ∀ E : Option Unit, ix (i + k) n E = E) (hK : ∀ μ, Rel μ → K i μ = some ()) : lc_10 xs n K i μ = some () := by
  unfold lc_10
  simp only [hx 1 (by decide), hx 2 (by decide), nmB]
  exact tl_B hK (l_come R _ _)
theorem g_11 {xs : Nat → Int32} {n : Nat} {K : Int32 → Mem → Option Unit} {i : Int32} {μ : Mem} (R : Rel μ) (hx : ∀ (k : Int32), k = 1 ∨ k = 2 ∨ k = 3 ∨ k = 4 ∨ k = 5 → ∀ E : Option Unit, ix (i + k) n E = E) (hK : ∀ μ, Rel μ → K i μ = some ()) : lc_11 xs n K i μ = some () := by
  unfold lc_11
  simp only [hx 1 (by decide), hx 2 (by decide), nmB]
  exact tl_B hK (l_key R _ _)
theorem g_12 {xs : Nat → Int32} {n : Nat} {K : Int32 → Mem → Option Unit} {i : Int32} {μ : Mem} (R : Rel μ) (hx : ∀ (k : Int32), k = 1 ∨ k = 2 ∨ k = 3 ∨ k = 4 ∨ k = 5 → ∀ E : Option Unit, ix (i + k) n E = E) (hK : ∀ μ, Rel μ → K i μ = some ()) : lc_12 xs n K i μ = some () := by
  unfold lc_12
  simp only [hx 1 (by decide), hx 2 (by decide), hx 3 (by decide), nmB]
  exact tl_B hK (l_hole R _ _ _)
theorem g_13 {xs : Nat → Int32} {n : Nat} {K : Int32 → Mem → Option Unit} {i : Int32} {μ : Mem} (R : Rel μ) (hx : ∀ (k : Int32), k = 1 ∨ k = 2 ∨ k = 3 ∨ k = 4 ∨ k = 5 → ∀ E : Option Unit, ix (i + k) n E = E) (hK : ∀ μ, Rel μ → K i μ = some ()) : lc_13 xs n K i μ = some () := by
  unfold lc_13
  simp only [hx 1 (by decide)]
  exact tl_T hK (l_bath R _)
theorem g_14 {xs : Nat → Int32} {n : Nat} {K : Int32 → Mem → Option Unit} {i : Int32} {μ : Mem} (R : Rel μ) (hx : ∀ (k : Int32), k = 1 ∨ k = 2 ∨ k = 3 ∨ k = 4 ∨ k = 5 → ∀ E : Option Unit, ix (i + k) n E = E) (hK : ∀ μ, Rel μ → K i μ = some ()) : lc_14 xs n K i μ = some () := by
  unfold lc_14
  simp only [hx 1 (by decide)]
  exact tl_T hK (l_keep R _)
theorem g_15 {xs : Nat → Int32} {n : Nat} {K : Int32 → Mem → Option Unit} {i : Int32} {μ : Mem} (R : Rel μ) (hx : ∀ (k : Int32), k = 1 ∨ k = 2 ∨ k = 3 ∨ k = 4 ∨ k = 5 → ∀ E : Option Unit, ix (i + k) n E = E) (hK : ∀ μ, Rel μ → K i μ = some ()) : lc_15 xs n K i μ = some () := by
  unfold lc_15
  simp only [hx 1 (by decide)]
  exact tl_T hK (l_masons R _)
theorem g_16 {xs : Nat → Int32} {n : Nat} {K : Int32 → Mem → Option Unit} {i : Int32} {μ : Mem} (R : Rel μ) (hx : ∀ (k : Int32), k = 1 ∨ k = 2 ∨ k = 3 ∨ k = 4 ∨ k = 5 → ∀ E : Option Unit, ix (i + k) n E = E) (hK : ∀ μ, Rel μ → K i μ = some ()) : lc_16 xs n K i μ = some () := by
  unfold lc_16
  simp only [hx 1 (by decide)]
  exact tl_T hK (l_buy R _)
theorem g_17 {xs : Nat → Int32} {n : Nat} {K : Int32 → Mem → Option Unit} {i : Int32} {μ : Mem} (R : Rel μ) (hx : ∀ (k : Int32), k = 1 ∨ k = 2 ∨ k = 3 ∨ k = 4 ∨ k = 5 → ∀ E : Option Unit, ix (i + k) n E = E) (hK : ∀ μ, Rel μ → K i μ = some ()) : lc_17 xs n K i μ = some () := by
  unfold lc_17
  simp only [hx 1 (by decide)]
  exact tl_T hK (l_calm R _)
theorem g_18 {xs : Nat → Int32} {n : Nat} {K : Int32 → Mem → Option Unit} {i : Int32} {μ : Mem} (R : Rel μ) (hx : ∀ (k : Int32), k = 1 ∨ k = 2 ∨ k = 3 ∨ k = 4 ∨ k = 5 → ∀ E : Option Unit, ix (i + k) n E = E) (hK : ∀ μ, Rel μ → K i μ = some ()) : lc_18 xs n K i μ = some () := by
  unfold lc_18
  simp only [hx 1 (by decide)]
  exact tl_T hK (l_days R _)
theorem g_19 {xs : Nat → Int32} {n : Nat} {K : Int32 → Mem → Option Unit} {i : Int32} {μ : Mem} (R : Rel μ) (hx : ∀ (k : Int32), k = 1 ∨ k = 2 ∨ k = 3 ∨ k = 4 ∨ k = 5 → ∀ E : Option Unit, ix (i + k) n E = E) (hK : ∀ μ, Rel μ → K i μ = some ()) : lc_19 xs n K i μ = some () := by
  unfold lc_19
  simp only [hx 1 (by decide), hx 2 (by decide), hx 3 (by decide)]
  exact tl_T hK (l_ahead R _ _ _)
theorem g_20 {xs : Nat → Int32} {n : Nat} {K : Int32 → Mem → Option Unit} {i : Int32} {μ : Mem} (R : Rel μ) (hx : ∀ (k : Int32), k = 1 ∨ k = 2 ∨ k = 3 ∨ k = 4 ∨ k = 5 → ∀ E : Option Unit, ix (i + k) n E = E) (hK : ∀ μ, Rel μ → K i μ = some ()) : lc_20 xs n K i μ = some () := by
  unfold lc_20
  exact tl_Q hK (q_both R )
theorem g_21 {xs : Nat → Int32} {n : Nat} {K : Int32 → Mem → Option Unit} {i : Int32} {μ : Mem} (R : Rel μ) (hx : ∀ (k : Int32), k = 1 ∨ k = 2 ∨ k = 3 ∨ k = 4 ∨ k = 5 → ∀ E : Option Unit, ix (i + k) n E = E) (hK : ∀ μ, Rel μ → K i μ = some ()) : lc_21 xs n K i μ = some () := by
  unfold lc_21
  simp only [hx 1 (by decide)]
  exact tl_T hK (l_saturdays R _)
theorem g_22 {xs : Nat → Int32} {n : Nat} {K : Int32 → Mem → Option Unit} {i : Int32} {μ : Mem} (R : Rel μ) (hx : ∀ (k : Int32), k = 1 ∨ k = 2 ∨ k = 3 ∨ k = 4 ∨ k = 5 → ∀ E : Option Unit, ix (i + k) n E = E) (hK : ∀ μ, Rel μ → K i μ = some ()) : lc_22 xs n K i μ = some () := by
  unfold lc_22
  simp only [hx 1 (by decide), hx 2 (by decide)]
  exact tl_T hK (l_first R _ _)
theorem g_23 {xs : Nat → Int32} {n : Nat} {K : Int32 → Mem → Option Unit} {i : Int32} {μ : Mem} (R : Rel μ) (hx : ∀ (k : Int32), k = 1 ∨ k = 2 ∨ k = 3 ∨ k = 4 ∨ k = 5 → ∀ E : Option Unit, ix (i + k) n E = E) (hK : ∀ μ, Rel μ → K i μ = some ()) : lc_23 xs n K i μ = some () := by
  unfold lc_23
  exact tl_N hK (q_gone R )
theorem g_24 {xs : Nat → Int32} {n : Nat} {K : Int32 → Mem → Option Unit} {i : Int32} {μ : Mem} (R : Rel μ) (hx : ∀ (k : Int32), k = 1 ∨ k = 2 ∨ k = 3 ∨ k = 4 ∨ k = 5 → ∀ E : Option Unit, ix (i + k) n E = E) (hK : ∀ μ, Rel μ → K i μ = some ()) : lc_24 xs n K i μ = some () := by
  unfold lc_24
  simp only [hx 1 (by decide)]
  exact tl_T hK (l_stand R _)
theorem g_25 {xs : Nat → Int32} {n : Nat} {K : Int32 → Mem → Option Unit} {i : Int32} {μ : Mem} (R : Rel μ) (hx : ∀ (k : Int32), k = 1 ∨ k = 2 ∨ k = 3 ∨ k = 4 ∨ k = 5 → ∀ E : Option Unit, ix (i + k) n E = E) (hK : ∀ μ, Rel μ → K i μ = some ()) : lc_25 xs n K i μ = some () := by
  unfold lc_25
  exact tl_Q hK (q_odds R )
theorem g_26 {xs : Nat → Int32} {n : Nat} {K : Int32 → Mem → Option Unit} {i : Int32} {μ : Mem} (R : Rel μ) (hx : ∀ (k : Int32), k = 1 ∨ k = 2 ∨ k = 3 ∨ k = 4 ∨ k = 5 → ∀ E : Option Unit, ix (i + k) n E = E) (hK : ∀ μ, Rel μ → K i μ = some ()) : lc_26 xs n K i μ = some () := by
  unfold lc_26
  exact tl_Q hK (q_send R )
theorem g_27 {xs : Nat → Int32} {n : Nat} {K : Int32 → Mem → Option Unit} {i : Int32} {μ : Mem} (R : Rel μ) (hx : ∀ (k : Int32), k = 1 ∨ k = 2 ∨ k = 3 ∨ k = 4 ∨ k = 5 → ∀ E : Option Unit, ix (i + k) n E = E) (hK : ∀ μ, Rel μ → K i μ = some ()) : lc_27 xs n K i μ = some () := by
  unfold lc_27
  simp only [hx 1 (by decide)]
  exact tl_T hK (l_sent R _)
theorem g_28 {xs : Nat → Int32} {n : Nat} {K : Int32 → Mem → Option Unit} {i : Int32} {μ : Mem} (R : Rel μ) (hx : ∀ (k : Int32), k = 1 ∨ k = 2 ∨ k = 3 ∨ k = 4 ∨ k = 5 → ∀ E : Option Unit, ix (i + k) n E = E) (hK : ∀ μ, Rel μ → K i μ = some ()) : lc_28 xs n K i μ = some () := by
  unfold lc_28
  exact tl_Q hK (q_mend R )
theorem g_29 {xs : Nat → Int32} {n : Nat} {K : Int32 → Mem → Option Unit} {i : Int32} {μ : Mem} (R : Rel μ) (hx : ∀ (k : Int32), k = 1 ∨ k = 2 ∨ k = 3 ∨ k = 4 ∨ k = 5 → ∀ E : Option Unit, ix (i + k) n E = E) (hK : ∀ μ, Rel μ → K i μ = some ()) : lc_29 xs n K i μ = some () := by
  unfold lc_29
  exact tl_Q hK (q_shut R )
theorem g_30 {xs : Nat → Int32} {n : Nat} {K : Int32 → Mem → Option Unit} {i : Int32} {μ : Mem} (R : Rel μ) (hx : ∀ (k : Int32), k = 1 ∨ k = 2 ∨ k = 3 ∨ k = 4 ∨ k = 5 → ∀ E : Option Unit, ix (i + k) n E = E) (hK : ∀ μ, Rel μ → K i μ = some ()) : lc_30 xs n K i μ = some () := by
  unfold lc_30
  exact tl_Q hK (q_quiet R )
theorem g_31 {xs : Nat → Int32} {n : Nat} {K : Int32 → Mem → Option Unit} {i : Int32} {μ : Mem} (R : Rel μ) (hx : ∀ (k : Int32), k = 1 ∨ k = 2 ∨ k = 3 ∨ k = 4 ∨ k = 5 → ∀ E : Option Unit, ix (i + k) n E = E) (hK : ∀ μ, Rel μ → K i μ = some ()) : lc_31 xs n K i μ = some () := by
  unfold lc_31
  exact tl_Q hK (q_best R )
theorem g_32 {xs : Nat → Int32} {n : Nat} {K : Int32 → Mem → Option Unit} {i : Int32} {μ : Mem} (R : Rel μ) (hx : ∀ (k : Int32), k = 1 ∨ k = 2 ∨ k = 3 ∨ k = 4 ∨ k = 5 → ∀ E : Option Unit, ix (i + k) n E = E) (hK : ∀ μ, Rel μ → K i μ = some ()) : lc_32 xs n K i μ = some () := by
  unfold lc_32
  simp only [hx 1 (by decide)]
  exact tl_N hK (q_lodge R _)
theorem g_33 {xs : Nat → Int32} {n : Nat} {K : Int32 → Mem → Option Unit} {i : Int32} {μ : Mem} (R : Rel μ) (hx : ∀ (k : Int32), k = 1 ∨ k = 2 ∨ k = 3 ∨ k = 4 ∨ k = 5 → ∀ E : Option Unit, ix (i + k) n E = E) (hK : ∀ μ, Rel μ → K i μ = some ()) : lc_33 xs n K i μ = some () := by
  unfold lc_33
  simp only [hx 1 (by decide)]
  exact tl_T hK (l_rests R _)
theorem g_34 {xs : Nat → Int32} {n : Nat} {K : Int32 → Mem → Option Unit} {i : Int32} {μ : Mem} (R : Rel μ) (hx : ∀ (k : Int32), k = 1 ∨ k = 2 ∨ k = 3 ∨ k = 4 ∨ k = 5 → ∀ E : Option Unit, ix (i + k) n E = E) (hK : ∀ μ, Rel μ → K i μ = some ()) : lc_34 xs n K i μ = some () := by
  unfold lc_34
  exact tl_T hK (l_shifts R )
theorem g_35 {xs : Nat → Int32} {n : Nat} {K : Int32 → Mem → Option Unit} {i : Int32} {μ : Mem} (R : Rel μ) (hx : ∀ (k : Int32), k = 1 ∨ k = 2 ∨ k = 3 ∨ k = 4 ∨ k = 5 → ∀ E : Option Unit, ix (i + k) n E = E) (hK : ∀ μ, Rel μ → K i μ = some ()) : lc_35 xs n K i μ = some () := by
  unfold lc_35
  exact tl_T hK (l_ask R )
theorem g_36 {xs : Nat → Int32} {n : Nat} {K : Int32 → Mem → Option Unit} {i : Int32} {μ : Mem} (R : Rel μ) (hx : ∀ (k : Int32), k = 1 ∨ k = 2 ∨ k = 3 ∨ k = 4 ∨ k = 5 → ∀ E : Option Unit, ix (i + k) n E = E) (hK : ∀ μ, Rel μ → K i μ = some ()) : lc_36 xs n K i μ = some () := by
  unfold lc_36
  simp only [hx 1 (by decide), nmB]
  exact tl_T hK (l_bored R _)
theorem g_37 {xs : Nat → Int32} {n : Nat} {K : Int32 → Mem → Option Unit} {i : Int32} {μ : Mem} (R : Rel μ) (hx : ∀ (k : Int32), k = 1 ∨ k = 2 ∨ k = 3 ∨ k = 4 ∨ k = 5 → ∀ E : Option Unit, ix (i + k) n E = E) (hK : ∀ μ, Rel μ → K i μ = some ()) : lc_37 xs n K i μ = some () := by
  unfold lc_37
  exact tl_T hK (l_look R )
theorem g_38 {xs : Nat → Int32} {n : Nat} {K : Int32 → Mem → Option Unit} {i : Int32} {μ : Mem} (R : Rel μ) (hx : ∀ (k : Int32), k = 1 ∨ k = 2 ∨ k = 3 ∨ k = 4 ∨ k = 5 → ∀ E : Option Unit, ix (i + k) n E = E) (hK : ∀ μ, Rel μ → K i μ = some ()) : lc_38 xs n K i μ = some () := by
  unfold lc_38
  exact tl_Q hK (q_keenest R )
theorem g_39 {xs : Nat → Int32} {n : Nat} {K : Int32 → Mem → Option Unit} {i : Int32} {μ : Mem} (R : Rel μ) (hx : ∀ (k : Int32), k = 1 ∨ k = 2 ∨ k = 3 ∨ k = 4 ∨ k = 5 → ∀ E : Option Unit, ix (i + k) n E = E) (hK : ∀ μ, Rel μ → K i μ = some ()) : lc_39 xs n K i μ = some () := by
  unfold lc_39
  exact tl_Q hK (q_alike R )
theorem g_40 {xs : Nat → Int32} {n : Nat} {K : Int32 → Mem → Option Unit} {i : Int32} {μ : Mem} (R : Rel μ) (hx : ∀ (k : Int32), k = 1 ∨ k = 2 ∨ k = 3 ∨ k = 4 ∨ k = 5 → ∀ E : Option Unit, ix (i + k) n E = E) (hK : ∀ μ, Rel μ → K i μ = some ()) : lc_40 xs n K i μ = some () := by
  unfold lc_40
  simp only [hx 1 (by decide), hx 2 (by decide)]
  exact tl_T hK (l_line R _ _)
theorem g_41 {xs : Nat → Int32} {n : Nat} {K : Int32 → Mem → Option Unit} {i : Int32} {μ : Mem} (R : Rel μ) (hx : ∀ (k : Int32), k = 1 ∨ k = 2 ∨ k = 3 ∨ k = 4 ∨ k = 5 → ∀ E : Option Unit, ix (i + k) n E = E) (hK : ∀ μ, Rel μ → K i μ = some ()) : lc_41 xs n K i μ = some () := by
  unfold lc_41
  exact tl_Q hK (q_well R )
theorem g_42 {xs : Nat → Int32} {n : Nat} {K : Int32 → Mem → Option Unit} {i : Int32} {μ : Mem} (R : Rel μ) (hx : ∀ (k : Int32), k = 1 ∨ k = 2 ∨ k = 3 ∨ k = 4 ∨ k = 5 → ∀ E : Option Unit, ix (i + k) n E = E) (hK : ∀ μ, Rel μ → K i μ = some ()) : lc_42 xs n K i μ = some () := by
  unfold lc_42
  simp only [hx 1 (by decide), hx 2 (by decide)]
  exact tl_T hK (l_pass R _ _)
theorem g_43 {xs : Nat → Int32} {n : Nat} {K : Int32 → Mem → Option Unit} {i : Int32} {μ : Mem} (R : Rel μ) (hx : ∀ (k : Int32), k = 1 ∨ k = 2 ∨ k = 3 ∨ k = 4 ∨ k = 5 → ∀ E : Option Unit, ix (i + k) n E = E) (hK : ∀ μ, Rel μ → K i μ = some ()) : lc_43 xs n K i μ = some () := by
  unfold lc_43
  exact tl_Q hK (q_crowd R )
theorem g_44 {xs : Nat → Int32} {n : Nat} {K : Int32 → Mem → Option Unit} {i : Int32} {μ : Mem} (R : Rel μ) (hx : ∀ (k : Int32), k = 1 ∨ k = 2 ∨ k = 3 ∨ k = 4 ∨ k = 5 → ∀ E : Option Unit, ix (i + k) n E = E) (hK : ∀ μ, Rel μ → K i μ = some ()) : lc_44 xs n K i μ = some () := by
  unfold lc_44
  exact tl_Q hK (q_locked R )
theorem g_45 {xs : Nat → Int32} {n : Nat} {K : Int32 → Mem → Option Unit} {i : Int32} {μ : Mem} (R : Rel μ) (hx : ∀ (k : Int32), k = 1 ∨ k = 2 ∨ k = 3 ∨ k = 4 ∨ k = 5 → ∀ E : Option Unit, ix (i + k) n E = E) (hK : ∀ μ, Rel μ → K i μ = some ()) : lc_45 xs n K i μ = some () := by
  unfold lc_45
  simp only [hx 1 (by decide)]
  exact tl_T hK (l_agree R _)
theorem g_46 {xs : Nat → Int32} {n : Nat} {K : Int32 → Mem → Option Unit} {i : Int32} {μ : Mem} (R : Rel μ) (hx : ∀ (k : Int32), k = 1 ∨ k = 2 ∨ k = 3 ∨ k = 4 ∨ k = 5 → ∀ E : Option Unit, ix (i + k) n E = E) (hK : ∀ μ, Rel μ → K i μ = some ()) : lc_46 xs n K i μ = some () := by
  unfold lc_46
  simp only [hx 1 (by decide)]
  exact tl_T hK (l_need R _)
theorem g_47 {xs : Nat → Int32} {n : Nat} {K : Int32 → Mem → Option Unit} {i : Int32} {μ : Mem} (R : Rel μ) (hx : ∀ (k : Int32), k = 1 ∨ k = 2 ∨ k = 3 ∨ k = 4 ∨ k = 5 → ∀ E : Option Unit, ix (i + k) n E = E) (hK : ∀ μ, Rel μ → K i μ = some ()) : lc_47 xs n K i μ = some () := by
  unfold lc_47
  simp only [hx 1 (by decide)]
  exact tl_T hK (l_spread R _)
theorem g_48 {xs : Nat → Int32} {n : Nat} {K : Int32 → Mem → Option Unit} {i : Int32} {μ : Mem} (R : Rel μ) (hx : ∀ (k : Int32), k = 1 ∨ k = 2 ∨ k = 3 ∨ k = 4 ∨ k = 5 → ∀ E : Option Unit, ix (i + k) n E = E) (hK : ∀ μ, Rel μ → K i μ = some ()) : lc_48 xs n K i μ = some () := by
  unfold lc_48
  exact tl_Q hK (q_mutual R )
theorem g_49 {xs : Nat → Int32} {n : Nat} {K : Int32 → Mem → Option Unit} {i : Int32} {μ : Mem} (R : Rel μ) (hx : ∀ (k : Int32), k = 1 ∨ k = 2 ∨ k = 3 ∨ k = 4 ∨ k = 5 → ∀ E : Option Unit, ix (i + k) n E = E) (hK : ∀ μ, Rel μ → K i μ = some ()) : lc_49 xs n K i μ = some () := by
  unfold lc_49
  simp only [hx 1 (by decide), hx 2 (by decide), nmB]
  exact tl_T hK (l_trial R _ _)
theorem g_50 {xs : Nat → Int32} {n : Nat} {K : Int32 → Mem → Option Unit} {i : Int32} {μ : Mem} (R : Rel μ) (hx : ∀ (k : Int32), k = 1 ∨ k = 2 ∨ k = 3 ∨ k = 4 ∨ k = 5 → ∀ E : Option Unit, ix (i + k) n E = E) (hK : ∀ μ, Rel μ → K i μ = some ()) : lc_50 xs n K i μ = some () := by
  unfold lc_50
  simp only [hx 1 (by decide), hx 2 (by decide), nmB]
  exact tl_T hK (l_span R _ _)
theorem g_51 {xs : Nat → Int32} {n : Nat} {K : Int32 → Mem → Option Unit} {i : Int32} {μ : Mem} (R : Rel μ) (hx : ∀ (k : Int32), k = 1 ∨ k = 2 ∨ k = 3 ∨ k = 4 ∨ k = 5 → ∀ E : Option Unit, ix (i + k) n E = E) (hK : ∀ μ, Rel μ → K i μ = some ()) : lc_51 xs n K i μ = some () := by
  unfold lc_51
  simp only [hx 1 (by decide), hx 2 (by decide), nmB]
  exact tl_T hK (l_led R _ _)
theorem g_52 {xs : Nat → Int32} {n : Nat} {K : Int32 → Mem → Option Unit} {i : Int32} {μ : Mem} (R : Rel μ) (hx : ∀ (k : Int32), k = 1 ∨ k = 2 ∨ k = 3 ∨ k = 4 ∨ k = 5 → ∀ E : Option Unit, ix (i + k) n E = E) (hK : ∀ μ, Rel μ → K i μ = some ()) : lc_52 xs n K i μ = some () := by
  unfold lc_52
  simp only [hx 1 (by decide), hx 2 (by decide)]
  exact tl_T hK (l_log R _ _)
theorem g_53 {xs : Nat → Int32} {n : Nat} {K : Int32 → Mem → Option Unit} {i : Int32} {μ : Mem} (R : Rel μ) (hx : ∀ (k : Int32), k = 1 ∨ k = 2 ∨ k = 3 ∨ k = 4 ∨ k = 5 → ∀ E : Option Unit, ix (i + k) n E = E) (hK : ∀ μ, Rel μ → K i μ = some ()) : lc_53 xs n K i μ = some () := by
  unfold lc_53
  simp only [hx 1 (by decide)]
  exact tl_N hK (q_seed R _)
theorem g_54 {xs : Nat → Int32} {n : Nat} {K : Int32 → Mem → Option Unit} {i : Int32} {μ : Mem} (R : Rel μ) (hx : ∀ (k : Int32), k = 1 ∨ k = 2 ∨ k = 3 ∨ k = 4 ∨ k = 5 → ∀ E : Option Unit, ix (i + k) n E = E) (hK : ∀ μ, Rel μ → K i μ = some ()) : lc_54 xs n K i μ = some () := by
  unfold lc_54
  exact tl_N hK (q_undo R )
theorem g_55 {xs : Nat → Int32} {n : Nat} {K : Int32 → Mem → Option Unit} {i : Int32} {μ : Mem} (R : Rel μ) (hx : ∀ (k : Int32), k = 1 ∨ k = 2 ∨ k = 3 ∨ k = 4 ∨ k = 5 → ∀ E : Option Unit, ix (i + k) n E = E) (hK : ∀ μ, Rel μ → K i μ = some ()) : lc_55 xs n K i μ = some () := by
  unfold lc_55
  obtain ⟨μ1, μ2, h1, h2, h3⟩ := q_image R
  rw [h1, bs_q, h2, bs_q]
  exact hK μ2 h3
theorem g_56 {xs : Nat → Int32} {n : Nat} {K : Int32 → Mem → Option Unit} {i : Int32} {μ : Mem} (R : Rel μ) (hx : ∀ (k : Int32), k = 1 ∨ k = 2 ∨ k = 3 ∨ k = 4 ∨ k = 5 → ∀ E : Option Unit, ix (i + k) n E = E) (hK : ∀ μ, Rel μ → K i μ = some ()) : lc_56 xs n K i μ = some () := by
  unfold lc_56
  exact tl_N hK (q_back R )
theorem g_57 {xs : Nat → Int32} {n : Nat} {K : Int32 → Mem → Option Unit} {i : Int32} {μ : Mem} (R : Rel μ) (hx : ∀ (k : Int32), k = 1 ∨ k = 2 ∨ k = 3 ∨ k = 4 ∨ k = 5 → ∀ E : Option Unit, ix (i + k) n E = E) (hK : ∀ μ, Rel μ → K i μ = some ()) : lc_57 xs n K i μ = some () := by
  unfold lc_57
  simp only [hx 1 (by decide)]
  exact tl_Q hK (q_count R _)
theorem ite_ok {c : Prop} [Decidable c] {X Y z : Option Unit} (h1 : c → X = z) (h2 : ¬ c → Y = z) : (if c then X else Y) = z := by
  by_cases h : c
  · rw [if_pos h]
    exact h1 h
  · rw [if_neg h]
    exact h2 h
theorem lstep_ok {xs : Nat → Int32} {n m : Nat} {K : Int32 → Mem → Option Unit} {μ : Mem} (R : Rel μ) (hn : n ≤ 3072) (hm : m ≤ 3072) (hK : m + 6 ≤ n → ∀ μ, Rel μ → K (Int32.ofNat m) μ = some ()) : lstep xs n K (Int32.ofNat m) μ = some () := by
  by_cases h : m + 6 ≤ n
  · have hx : ∀ (k : Int32), k = 1 ∨ k = 2 ∨ k = 3 ∨ k = 4 ∨ k = 5 → ∀ E : Option Unit, ix (Int32.ofNat m + k) n E = E := fun k hk E => by
      have e : ∃ j, j < 6 ∧ k = Int32.ofNat j := by
        rcases hk with rfl | rfl | rfl | rfl | rfl
        · exact ⟨1, by decide, rfl⟩
        · exact ⟨2, by decide, rfl⟩
        · exact ⟨3, by decide, rfl⟩
        · exact ⟨4, by decide, rfl⟩
        · exact ⟨5, by decide, rfl⟩
      obtain ⟨j, hj, rfl⟩ := e
      rw [on_a, ix_on (by omega) (by omega)]
    have hK := hK h
    delta lstep
    refine ite_ok (fun _ => rfl) fun _ => ?_
    rw [ix_on (by omega) (by omega)]
    refine ite_ok (fun _ => g_0 R hx hK) fun _ => ?_
    refine ite_ok (fun _ => g_1 R hx hK) fun _ => ?_
    refine ite_ok (fun _ => g_2 R hx hK) fun _ => ?_
    refine ite_ok (fun _ => g_3 R hx hK) fun _ => ?_
    refine ite_ok (fun _ => g_4 R hx hK) fun _ => ?_
    refine ite_ok (fun _ => g_5 R hx hK) fun _ => ?_
    refine ite_ok (fun _ => g_6 R hx hK) fun _ => ?_
    refine ite_ok (fun _ => g_7 R hx hK) fun _ => ?_
    refine ite_ok (fun _ => g_8 R hx hK) fun _ => ?_
    refine ite_ok (fun _ => g_9 R hx hK) fun _ => ?_
    refine ite_ok (fun _ => g_10 R hx hK) fun _ => ?_
    refine ite_ok (fun _ => g_11 R hx hK) fun _ => ?_
    refine ite_ok (fun _ => g_12 R hx hK) fun _ => ?_
    refine ite_ok (fun _ => g_13 R hx hK) fun _ => ?_
    refine ite_ok (fun _ => g_14 R hx hK) fun _ => ?_
    refine ite_ok (fun _ => g_15 R hx hK) fun _ => ?_
    refine ite_ok (fun _ => g_16 R hx hK) fun _ => ?_
    refine ite_ok (fun _ => g_17 R hx hK) fun _ => ?_
    refine ite_ok (fun _ => g_18 R hx hK) fun _ => ?_
    refine ite_ok (fun _ => g_19 R hx hK) fun _ => ?_
    refine ite_ok (fun _ => g_20 R hx hK) fun _ => ?_
    refine ite_ok (fun _ => g_21 R hx hK) fun _ => ?_
    refine ite_ok (fun _ => g_22 R hx hK) fun _ => ?_
    refine ite_ok (fun _ => g_23 R hx hK) fun _ => ?_
    refine ite_ok (fun _ => g_24 R hx hK) fun _ => ?_
    refine ite_ok (fun _ => g_25 R hx hK) fun _ => ?_
    refine ite_ok (fun _ => g_26 R hx hK) fun _ => ?_
    refine ite_ok (fun _ => g_27 R hx hK) fun _ => ?_
    refine ite_ok (fun _ => g_28 R hx hK) fun _ => ?_
    refine ite_ok (fun _ => g_29 R hx hK) fun _ => ?_
    refine ite_ok (fun _ => g_30 R hx hK) fun _ => ?_
    refine ite_ok (fun _ => g_31 R hx hK) fun _ => ?_
    refine ite_ok (fun _ => g_32 R hx hK) fun _ => ?_
    refine ite_ok (fun _ => g_33 R hx hK) fun _ => ?_
    refine ite_ok (fun _ => g_34 R hx hK) fun _ => ?_
    refine ite_ok (fun _ => g_35 R hx hK) fun _ => ?_
    refine ite_ok (fun _ => g_36 R hx hK) fun _ => ?_
    refine ite_ok (fun _ => g_37 R hx hK) fun _ => ?_
    refine ite_ok (fun _ => g_38 R hx hK) fun _ => ?_
    refine ite_ok (fun _ => g_39 R hx hK) fun _ => ?_
    refine ite_ok (fun _ => g_40 R hx hK) fun _ => ?_
    refine ite_ok (fun _ => g_41 R hx hK) fun _ => ?_
    refine ite_ok (fun _ => g_42 R hx hK) fun _ => ?_
    refine ite_ok (fun _ => g_43 R hx hK) fun _ => ?_
    refine ite_ok (fun _ => g_44 R hx hK) fun _ => ?_
    refine ite_ok (fun _ => g_45 R hx hK) fun _ => ?_
    refine ite_ok (fun _ => g_46 R hx hK) fun _ => ?_
    refine ite_ok (fun _ => g_47 R hx hK) fun _ => ?_
    refine ite_ok (fun _ => g_48 R hx hK) fun _ => ?_
    refine ite_ok (fun _ => g_49 R hx hK) fun _ => ?_
    refine ite_ok (fun _ => g_50 R hx hK) fun _ => ?_
    refine ite_ok (fun _ => g_51 R hx hK) fun _ => ?_
    refine ite_ok (fun _ => g_52 R hx hK) fun _ => ?_
    refine ite_ok (fun _ => g_53 R hx hK) fun _ => ?_
    refine ite_ok (fun _ => g_54 R hx hK) fun _ => ?_
    refine ite_ok (fun _ => g_55 R hx hK) fun _ => ?_
    refine ite_ok (fun _ => g_56 R hx hK) fun _ => ?_
    refine ite_ok (fun _ => g_57 R hx hK) fun _ => ?_
    exact hK μ R
  · delta lstep
    refine if_pos ?_
    rw [Int32.lt_iff_toInt_lt, Int32.toInt_sub, on_i (by omega), on_i (by omega), show (6 : Int32).toInt = 6 from rfl, Int.bmod_eq_of_le (by omega) (by omega)]
    omega
theorem lloop_ok {xs : Nat → Int32} {n : Nat} (hn : n ≤ 3072) : ∀ d k f, k + d = 512 → d < f → ∀ μ, Rel μ → lloop xs n f (Int32.ofNat (6 * k)) μ = some () := by
  intro d
  induction d with
  | zero =>
    intro k f hk hf μ R
    obtain ⟨f, rfl⟩ : ∃ g, f = g + 1 := ⟨f - 1, by omega⟩
    rw [lloop]
    exact lstep_ok R hn (by omega) fun h => by omega
  | succ d ih =>
    intro k f hk hf μ R
    obtain ⟨f, rfl⟩ : ∃ g, f = g + 1 := ⟨f - 1, by omega⟩
    rw [lloop]
    refine lstep_ok R hn (by omega) fun h μ' R' => ?_
    show lloop xs n f (Int32.ofNat (6 * k) + 6) μ' = some ()
    rw [show (6 : Int32) = Int32.ofNat 6 from rfl, on_a, show 6 * k + 6 = 6 * (k + 1) by omega]
    exact ih (k + 1) f (by omega) (by omega) μ' R'
