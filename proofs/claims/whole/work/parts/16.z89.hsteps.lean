/-! ===== a house's text, both at once: steps ===== -/
def CH (b : Nat → Nat) (t m : Nat) (μ : Mem) (k : Nat) : Prop := TOK μ b t m ∧ k ≤ m ∧ μ 0 3 4 = Int32.ofNat k
def hF (μ μ' : Mem) : Prop := ∀ g j i, g ≠ 2 → ¬ (g = 0 ∧ j = 3 ∧ (i = 4 ∨ i = 5)) → μ' g j i = μ g j i
theorem hF.refl (μ : Mem) : hF μ μ := fun _ _ _ _ _ => rfl
theorem hF.trans {μ μ1 μ2 : Mem} (h : hF μ μ1) (h2 : hF μ1 μ2) : hF μ μ2 := fun g j i q1 q2 => (h2 g j i q1 q2).trans (h g j i q1 q2)
def rG (ν ν' : Mem) : Prop := ∀ g j i, ¬ (g = 0 ∧ j = 12 ∧ (i = 11 ∨ i = 12 ∨ i = 13 ∨ i = 17)) → ¬ (g = 0 ∧ j = 13 ∧ 0 < i ∧ i < 304) → ν' g j i = ν g j i
theorem rG.refl (ν : Mem) : rG ν ν := fun _ _ _ _ _ => rfl
theorem rG.trans {ν ν1 ν2 : Mem} (h : rG ν ν1) (h2 : rG ν1 ν2) : rG ν ν2 := fun g j i q1 q2 => (h2 g j i q1 q2).trans (h g j i q1 q2)
theorem rG.row {ν ν' : Mem} (h : rG ν ν') {i : Nat} (v : Int32) (hi : 0 < i ∧ i < 304) : rG ν (upm ν' 0 13 i v) := fun g j k q1 q2 => by rw [upm_n3 (by omega)]; exact h g j k q1 q2
theorem rG.upm {ν ν' : Mem} (h : rG ν ν') {i : Nat} (v : Int32) (hi : i = 11 ∨ i = 12 ∨ i = 13 ∨ i = 17) : rG ν (upm ν' 0 12 i v) := fun g j k q1 q2 => by rw [upm_n3 (by omega)]; exact h g j k q1 q2
theorem rF.g {ν ν' : Mem} (h : rF ν ν') : rG ν ν' := fun g j i q1 _ => h g j i q1
theorem CH.len {b : Nat → Nat} {t m : Nat} {μ : Mem} {k : Nat} (S : CH b t m μ k) : m ≤ 400 ∧ k ≤ m := ⟨Nat.le_trans S.1.2.1 S.1.1, S.2.1⟩
def OutG (ev : Row → Int32) (b : Nat → Nat) (t m : Nat) (μ : Mem) (k : Nat) (r : Row) (C : Option (Int32 × Mem)) (F : Mem → Option Mem) : Prop :=
  (∃ kE μ', C = some (0, μ') ∧ kE ≤ m ∧ μ' 0 3 4 = Int32.ofNat kE ∧ hF μ μ' ∧ ∀ ν p, RS b t ν k p 0 → ν 0 13 = r → ∃ ν', F ν = some ν' ∧ FS b t ν' kE 0 ∧ rG ν ν') ∨
  (∃ k' μ' r', C = some (1, μ') ∧ CH b t m μ' k' ∧ hF μ μ' ∧ HV ev (μ' 2) r' ∧ ∀ ν p, RS b t ν k p 0 → ν 0 13 = r → ∃ ν' p', F ν = some ν' ∧ RS b t ν' k' p' 0 ∧ ν' 0 13 = r' ∧ rG ν ν')
theorem OutG.pre {ev : Row → Int32} {b : Nat → Nat} {t m : Nat} {μ μ1 : Mem} {k k1 : Nat} {r : Row} {C : Option (Int32 × Mem)} {F F1 : Mem → Option Mem} (h : OutG ev b t m μ1 k1 r C F1) (hμ : hF μ μ1) (hR : ∀ ν p, RS b t ν k p 0 → ν 0 13 = r → ∃ ν1 p1, F ν = F1 ν1 ∧ RS b t ν1 k1 p1 0 ∧ ν1 0 13 = r ∧ rG ν ν1) : OutG ev b t m μ k r C F := by
  rcases h with ⟨kE, μ', h1, h2, h3, h4, h5⟩ | ⟨k', μ', r', h1, h2, h3, h4, h5⟩
  · refine .inl ⟨kE, μ', h1, h2, h3, hμ.trans h4, fun ν p R er => ?_⟩
    obtain ⟨ν1, p1, g1, g2, g3, g4⟩ := hR ν p R er
    obtain ⟨ν', f1, f2, f3⟩ := h5 ν1 p1 g2 g3
    exact ⟨ν', g1.trans f1, f2, g4.trans f3⟩
  · refine .inr ⟨k', μ', r', h1, h2, hμ.trans h3, h4, fun ν p R er => ?_⟩
    obtain ⟨ν1, p1, g1, g2, g3, g4⟩ := hR ν p R er
    obtain ⟨ν', p', f1, f2, f3, f4⟩ := h5 ν1 p1 g2 g3
    exact ⟨ν', p', g1.trans f1, f2, f3, g4.trans f4⟩
theorem fig_f {ν : Mem} {a u : Int32} (h : ¬ ν 0 12 12 = -1) : f_X10_figures ν a u = some (0, ν) := by
  unfold f_X10_figures
  rw [if_neg h]
theorem after_f {w : Nat} {ν : Mem} {a u : Int32} (h : ¬ ν 0 12 12 = -1) : f_X10_after w ν a u = some (0, ν) := by
  unfold f_X10_after
  rw [nm_q, if_neg h]
  show (f_X10_figures ν a u).bind _ = _
  rw [fig_f h, bs_q]
theorem tells_f {ν : Mem} {a u : Int32} (h : ¬ ν 0 12 12 = -1) : f_X10_tells ν a u = some ν := by
  unfold f_X10_tells
  rw [fig_f h, bs_q, if_neg h]
/-- a word at its place -/
theorem rs_has {b : Nat → Nat} {t : Nat} {ν : Mem} {k p a w : Nat} (R : RS b t ν k p 0) (ha : a < 68) (ha2 : 43 < a) (hw : wcd (cwd a) = w) : f_X10_has a ν = if kd b t (tk b t k) = w then some (1, upm ν 0 12 11 (Int32.ofNat (en b t (tk b t k)))) else some (0, upm ν 0 12 11 (Int32.ofNat (tk b t k))) := by
  have h := r_has R.1 R.2.1 R.2.2.1 ha ha2
  rw [R.2.2.2.1, hw] at h
  rw [h]
  by_cases h1 : kd b t (tk b t k) = w
  · rw [if_pos h1, if_pos h1, decide_eq_true h1]
    rfl
  · rw [if_neg h1, if_neg h1, decide_eq_false h1]
    rfl
/-- figures at their place -/
theorem rs_fig {b : Nat → Nat} {t : Nat} {ν : Mem} {k p u : Nat} (R : RS b t ν k p 0) (hu : u ≤ 999) : (kd b t (tk b t k) = 2 ∧ nbv b t (tk b t k) ≤ u → f_X10_figures ν 0 (Int32.ofNat u) = some (Int32.ofNat (nbv b t (tk b t k)), upm ν 0 12 11 (Int32.ofNat (en b t (tk b t k))))) ∧ (¬ (kd b t (tk b t k) = 2 ∧ nbv b t (tk b t k) ≤ u) → ∃ x ν', f_X10_figures ν 0 (Int32.ofNat u) = some (x, ν') ∧ FS b t ν' k 0 ∧ rF ν ν') := by
  have h := r_figures R.1 R.2.1 R.2.2.1 R.2.2.2.2.1 hu
  rw [R.2.2.2.1] at h
  refine ⟨h.1, fun hn => ?_⟩
  obtain ⟨x, p', h1, h2⟩ := h.2 hn
  have hw := R.wrong (k' := k) (by omega) h1
  exact ⟨x, _, h2, hw.1, hw.2⟩
theorem after_e {b : Nat → Nat} {t m : Nat} {μ : Mem} (T : TOK μ b t m) {ν : Mem} {k p a w : Nat} (R : RS b t ν k p 0) (hk : k ≤ m) (ha : a < 68) (ha2 : 43 < a) (hw : wcd (cwd a) = w) (u : Int32) : f_X10_after a ν 0 u = if kd b t (tk b t k) = w then f_X10_figures (upm ν 0 12 11 (Int32.ofNat (en b t (tk b t k)))) 0 u else some (0, upm (upm ν 0 12 11 (Int32.ofNat (tk b t k))) 0 12 12 (Int32.ofNat (tk b t k))) := by
  have e : ∀ E : Option (Int32 × Mem), (E.bind fun (q2 : Int32 × Mem) => some (q2.1, q2.2)) = E := fun E => by cases E <;> rfl
  unfold f_X10_after
  rw [nm_q, if_pos R.2.2.2.2.1, rs_has R ha ha2 hw]
  by_cases h1 : kd b t (tk b t k) = w
  · rw [if_pos h1, if_pos h1, bs_q, if_neg (show ¬ (1 : Int32) = 0 by decide)]
    exact e _
  · have st := R.stay
    have hw := R.wrong (k' := k) (by omega) (tk_lt T hk).1
    rw [if_neg h1, if_neg h1, bs_q, if_pos (show (0 : Int32) = 0 from rfl), rs_wrong st.2.2.2.2.1, bs_q]
    show (f_X10_figures (upm (upm ν 0 12 11 (Int32.ofNat (tk b t k))) 0 12 12 ((upm ν 0 12 11 (Int32.ofNat (tk b t k))) 0 12 11)) 0 u).bind _ = _
    rw [e, upm_at, fig_f (fs_ne hw.1 T hk)]
/-- a word that must stand there -/
theorem OutG.word {ev : Row → Int32} {b : Nat → Nat} {t m : Nat} {μ : Mem} {k w : Nat} {r : Row} {F F1 : Mem → Option Mem} {G : Mem → Option (Int32 × Mem)} (S : CH b t m μ k) (hw0 : 0 < w) (hw : w < 100) (h1 : kd b t (tk b t k) = w → CH b t m (upm μ 0 3 4 (Int32.ofNat (k + 1))) (k + 1) → hF μ (upm μ 0 3 4 (Int32.ofNat (k + 1))) → OutG ev b t m (upm μ 0 3 4 (Int32.ofNat (k + 1))) (k + 1) r (G (upm μ 0 3 4 (Int32.ofNat (k + 1)))) F1) (hF1 : ∀ ν p, RS b t ν k p 0 → ν 0 13 = r → kd b t (tk b t k) = w → F ν = F1 (upm ν 0 12 11 (Int32.ofNat (en b t (tk b t k))))) (hF0 : ∀ ν p, RS b t ν k p 0 → ¬ kd b t (tk b t k) = w → ∃ ν', F ν = some ν' ∧ FS b t ν' k 0 ∧ rG ν ν') : OutG ev b t m μ k r ((f_X8_take μ (Int32.ofNat w)).bind fun (q : Int32 × Mem) => if q.1 = 0 then some (0, q.2) else G q.2) F := by
  have tl := tk_lt S.1 S.2.1
  rw [c_take S.1 S.2.1 S.2.2 hw0 hw]
  by_cases h : kd b t (tk b t k) = w
  · obtain ⟨km, kt⟩ := tl.2 (by omega)
    have fr : hF μ (upm μ 0 3 4 (Int32.ofNat (k + 1))) := fun g j i q1 q2 => upm_n3 (by omega)
    have S1 : CH b t m (upm μ 0 3 4 (Int32.ofNat (k + 1))) (k + 1) := ⟨S.1.fr fun j i hj => by rw [upm_ne (by omega)], km, upm_at _ _ _ _ _⟩
    rw [if_pos h, bs_q, if_neg (show ¬ (1 : Int32) = 0 by decide)]
    refine (h1 h S1 fr).pre fr fun ν p R er => ⟨_, _, hF1 ν p R er h, R.adv kt, ?_, (rG.refl ν).upm _ (by omega)⟩
    rw [upm_ne (by omega), er]
  · rw [if_neg h, bs_q, if_pos (show (0 : Int32) = 0 from rfl)]
    exact .inl ⟨k, μ, rfl, S.2.1, S.2.2, hF.refl μ, fun ν p R _ => hF0 ν p R h⟩
/-- a number that must stand there -/
theorem OutG.num {ev : Row → Int32} {b : Nat → Nat} {t m : Nat} {μ : Mem} {k u : Nat} {r : Row} {F : Mem → Option Mem} {F1 : Int32 → Mem → Option Mem} {G : Mem → Option (Int32 × Mem)} (S : CH b t m μ k) (hu : u ≤ 999) (h1 : ∀ v μ1, v ≤ u → CH b t m μ1 (k + 1) → hF μ μ1 → μ1 2 = μ 2 → μ1 0 3 5 = Int32.ofNat v → (∀ i, i ≠ 4 → i ≠ 5 → μ1 0 3 i = μ 0 3 i) → kd b t (tk b t k) = 2 ∧ nbv b t (tk b t k) = v → OutG ev b t m μ1 (k + 1) r (G μ1) (F1 (Int32.ofNat v))) (hF1 : ∀ ν p, RS b t ν k p 0 → F ν = (f_X10_figures ν 0 (Int32.ofNat u)).bind fun (q : Int32 × Mem) => F1 q.1 q.2) (hF0 : ∀ x ν, FS b t ν k 0 → ∃ ν', F1 x ν = some ν' ∧ FS b t ν' k 0 ∧ rG ν ν') : OutG ev b t m μ k r ((f_X8_takeNumber μ (Int32.ofNat u)).bind fun (q : Int32 × Mem) => if q.1 = 0 then some (0, q.2) else G q.2) F := by
  have tl := tk_lt S.1 S.2.1
  rw [c_takeNumber S.1 S.2.1 S.2.2 hu]
  by_cases h : kd b t (tk b t k) = 2 ∧ nbv b t (tk b t k) ≤ u
  · obtain ⟨km, kt⟩ := tl.2 (by omega)
    have fr : hF μ (upm (upm μ 0 3 5 (Int32.ofNat (nbv b t (tk b t k)))) 0 3 4 (Int32.ofNat (k + 1))) := fun g j i q1 q2 => by rw [upm_n3 (by omega), upm_n3 (by omega)]
    have S1 : CH b t m (upm (upm μ 0 3 5 (Int32.ofNat (nbv b t (tk b t k)))) 0 3 4 (Int32.ofNat (k + 1))) (k + 1) := ⟨S.1.fr fun j i hj => by rw [upm_ne (by omega), upm_ne (by omega)], km, upm_at _ _ _ _ _⟩
    rw [if_pos h, bs_q, if_neg (show ¬ (1 : Int32) = 0 by decide)]
    refine (h1 _ _ h.2 S1 fr (by rw [upm_ng (by decide), upm_ng (by decide)]) (by rw [upm_n3 (by omega), upm_at]) (fun i a1 a2 => by rw [upm_n3 (by omega), upm_n3 (by omega)]) ⟨h.1, rfl⟩).pre fr fun ν p R er => ⟨_, _, ?_, R.adv kt, ?_, (rG.refl ν).upm _ (by omega)⟩
    · rw [hF1 ν p R, (rs_fig R hu).1 h, bs_q]
    · rw [upm_ne (by omega), er]
  · rw [if_neg h, bs_q, if_pos (show (0 : Int32) = 0 from rfl)]
    refine .inl ⟨k, μ, rfl, S.2.1, S.2.2, hF.refl μ, fun ν p R _ => ?_⟩
    obtain ⟨x, ν1, a1, a2, a3⟩ := (rs_fig R hu).2 h
    obtain ⟨ν', c1, c2, c3⟩ := hF0 x ν1 a2
    exact ⟨ν', by rw [hF1 ν p R, a1, bs_q, c1], c2, a3.g.trans c3⟩
/-- the end of a line that tells a number -/
theorem OutG.fin {ev : Row → Int32} {b : Nat → Nat} {t m : Nat} {μ μ' : Mem} {k : Nat} {r r' : Row} {F : Mem → Option Mem} (S : CH b t m μ k) (hμ : ∀ g, g ≠ 2 → μ' g = μ g) (H : HV ev (μ' 2) r') (hF1 : ∀ ν p, RS b t ν k p 0 → ν 0 13 = r → ∃ ν', F ν = some ν' ∧ ν' 0 13 = r' ∧ ∀ g j i, ¬ (g = 0 ∧ j = 13 ∧ 0 < i ∧ i < 304) → ν' g j i = ν g j i) : OutG ev b t m μ k r (some (1, μ')) F := by
  refine .inr ⟨k, μ', r', rfl, ⟨S.1.fr fun j i _ => by rw [hμ 0 (by decide)], S.2.1, by rw [hμ 0 (by decide)]; exact S.2.2⟩, fun g j i q1 _ => by rw [hμ g q1], H, fun ν p R er => ?_⟩
  obtain ⟨ν', a1, a2, a3⟩ := hF1 ν p R er
  refine ⟨ν', p, a1, ?_, a2, fun g j i _ q => a3 g j i q⟩
  obtain ⟨T, hp, e, hs, ef, ed, q1, q2⟩ := R
  exact ⟨T.cg (a3 0 12 10 (by omega)) (a3 0 12 9 (by omega)) (funext fun i => a3 0 17 i (by omega)) (fun i hi => a3 0 13 i (by omega)), hp, by rw [a3 0 12 11 (by omega)]; exact e, hs, by rw [a3 0 12 12 (by omega)]; exact ef, by rw [a3 0 12 13 (by omega)]; exact ed, by rw [a3 0 12 15 (by omega)]; exact q1, by rw [a3 0 12 16 (by omega)]; exact q2⟩
/-! numbers told -/
def tellE (i : Int32) (x : Int32) (ν : Mem) : Option Mem := if (ν 0 12 12) = (-1) then (ix i 704 (nm (upm ν 0 13 i.toNatClampNeg x) fun (μ2 : Mem) => some μ2)) else (some ν)
theorem tells_e (ν : Mem) (i u : Int32) : f_X10_tells ν i u = (f_X10_figures ν 0 u).bind fun (q : Int32 × Mem) => tellE i q.1 q.2 := rfl
theorem tellE_f {i x : Int32} {ν : Mem} (h : ¬ ν 0 12 12 = -1) : tellE i x ν = some ν := if_neg h
theorem tellE_t {i : Nat} {x : Int32} {ν : Mem} (h : ν 0 12 12 = -1) (hi : i < 704) : tellE (Int32.ofNat i) x ν = some (upm ν 0 13 i x) := by
  unfold tellE
  rw [if_pos h, ix_on hi (by decide), on_t (by omega), nm_q]
/-- a number, told -/
theorem tell_both {ev : Row → Int32} {b : Nat → Nat} {t m : Nat} {μ : Mem} {k u ci ri : Nat} {r : Row} {G : Mem → Option (Int32 × Mem)} (S : CH b t m μ k) (H : HV ev (μ 2) r) (hu : u ≤ 999) (hm : (ci, ri) ∈ SCL) (hr0 : ri ≠ 0) (hb : okI ri = true → u ≤ bd ri) (hG : ∀ μ1, G μ1 = some (1, upm μ1 2 0 ci (μ1 0 3 5))) : OutG ev b t m μ k r ((f_X8_takeNumber μ (Int32.ofNat u)).bind fun (q : Int32 × Mem) => if q.1 = 0 then some (0, q.2) else G q.2) (fun ν => f_X10_tells ν (Int32.ofNat ri) (Int32.ofNat u)) := by
  have hri : ri < 16 ∧ ri ≠ 1 ∧ ri ≠ 2 ∧ ri ≠ 14 := by
    have : ∀ q ∈ SCL, q.2 < 16 ∧ q.2 ≠ 1 ∧ q.2 ≠ 2 ∧ q.2 ≠ 14 := by decide
    exact this _ hm
  refine OutG.num (F1 := tellE (Int32.ofNat ri)) S hu (fun v μ1 hv S1 f1 e2 e5 _ _ => ?_) (fun ν p R => tells_e ν _ _) (fun x ν Fν => ⟨ν, tellE_f (fs_ne Fν S.1 S.2.1), Fν, rG.refl ν⟩)
  rw [hG, e5]
  have H1 : HV ev (μ1 (1 + 1)) r := by
    show HV ev (μ1 2) r
    rw [e2]
    exact H
  refine OutG.fin (r' := upd r ri (Int32.ofNat v)) S1 (fun g hg => upm_ng hg) (sc_up (h := 1) H1 hm fun ho => ⟨v, Nat.le_trans hv (hb ho), rfl⟩) fun ν p R er => ⟨_, tellE_t R.2.2.2.2.1 (by omega), ?_, fun g j i hn => upm_n3 (by omega)⟩
  rw [upm_row, er]
theorem OutG.cg {ev : Row → Int32} {b : Nat → Nat} {t m : Nat} {μ : Mem} {k : Nat} {r : Row} {C : Option (Int32 × Mem)} {F F1 : Mem → Option Mem} (h : OutG ev b t m μ k r C F1) (hR : ∀ ν p, RS b t ν k p 0 → ν 0 13 = r → F ν = F1 ν) : OutG ev b t m μ k r C F :=
  h.pre (hF.refl μ) fun ν p R er => ⟨ν, p, hR ν p R er, R, er, rG.refl ν⟩
theorem OutG.bk {ev : Row → Int32} {b : Nat → Nat} {t m : Nat} {μ : Mem} {k : Nat} {r : Row} {C : Option (Int32 × Mem)} {F : Mem → Option Mem} (h : OutG ev b t m μ k r C F) : OutG ev b t m μ k r (C.bind fun (q : Int32 × Mem) => bk q.1 (some (q.1, q.2))) F := by
  rcases h with ⟨kE, μ', h1, h2⟩ | ⟨k', μ', r', h1, h2⟩
  · exact .inl ⟨kE, μ', by rw [h1, bs_q]; rfl, h2⟩
  · exact .inr ⟨k', μ', r', by rw [h1, bs_q]; rfl, h2⟩
