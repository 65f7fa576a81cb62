/-! ===== a house and a row; what is kept between the two sides ===== -/
def BKr (c : Nat → Nat → Int32) (r : Row) : Prop := c 5 1 = r 14 ∧ ∃ nx, nx < 60 ∧ c 5 2 = Int32.ofNat nx ∧ ∀ ago, ago < nv r 14 → ∀ w, w < 4 → c 6 (((nx + 59 - ago) % 60) * 4 + w) = r (64 + 4 * ago + w)
def EVC (ev : Row → Int32) (S : Row) (len : Nat) : Prop := (∀ f f' : Row, (∀ i, i < 9 → f i = f' i) → ev f = ev f') ∧ ∀ (h : Nat) (μ : Mem), (∀ i, i < len → μ (h + 1) 8 i = S i) → μ (h + 1) 7 2 = Int32.ofNat len → μ (h + 1) 7 4 ≠ -1 → ∃ μ', f_X4_turnsBy h μ = some (ev (μ (h + 1) 11), μ') ∧ ∀ g j i, ¬ (g = h + 1 ∧ (j = 9 ∨ j = 7 ∧ i = 3)) → μ' g j i = μ g j i
def LWr (ev : Row → Int32) (c : Nat → Nat → Int32) (r : Row) : Prop := c 7 4 = r 1 ∧ (r 1 ≠ -1 → ∃ len, len ≤ 400 ∧ c 7 2 = Int32.ofNat len ∧ EVC ev (c 8) len)
def factsQ (μ : Mem) : Row := fun i => if i < 7 then μ 0 18 i else if i = 7 then μ 0 12 15 else μ 0 12 16
def RLaw (ev : Row → Int32) (r : Row) : Prop := r 1 ≠ -1 → ∀ μ : Mem, (∀ i, 304 ≤ i → i < 704 → μ 0 13 i = r i) → μ 0 12 9 = 304 → μ 0 12 10 = r 2 → μ 0 12 11 = 0 → μ 0 12 13 = 0 → μ 0 12 12 = -1 → (∃ b, μ 0 12 15 = bI b) → (∃ b, μ 0 12 16 = bI b) → ∃ v μ', f_X10_read μ 1 = some (v, μ') ∧ μ' 0 12 17 = μ 0 12 17 + ev (factsQ μ) ∧ ∀ g j i, ¬ (g = 0 ∧ j = 12 ∧ (i = 11 ∨ i = 12 ∨ i = 13 ∨ i = 17)) → μ' g j i = μ g j i
def HV (ev : Row → Int32) (c : Nat → Nat → Int32) (r : Row) : Prop := Vr r ∧ HC c r ∧ BKr c r ∧ LWr ev c r ∧ RLaw ev r
/-- what a house's cells hold for a while only -/
def scH (j i : Nat) : Bool := (j == 9) || (j == 11) || ((j == 7) && (i == 3)) || decide (12 ≤ j)
theorem HC.cg {c c' : Nat → Nat → Int32} {r : Row} (h : ∀ j i, scH j i = false → c' j i = c j i) (H : HC c r) : HC c' r := by
  obtain ⟨⟨h1, h2, h3, h4, h5, h6, h7, h8, h9, h10, h11, h12, h13⟩, k1, k2, k3, k4⟩ := H
  refine ⟨⟨?_, ?_, ?_, ?_, ?_, ?_, ?_, ?_, ?_, ?_, ?_, ?_, ?_⟩, ?_, ?_, fun g hg => ?_, fun k hk => ?_⟩
  all_goals first | (rw [h _ _ (by rfl)]; assumption) | skip
  · obtain ⟨a1, a2, a3⟩ := k3 g hg
    exact ⟨by rw [h _ _ (by rfl)]; exact a1, by rw [h _ _ (by rfl)]; exact a2, by rw [h _ _ (by rfl)]; exact a3⟩
  · rw [h _ _ (by rfl)]
    exact k4 k hk
theorem BKr.cg {c c' : Nat → Nat → Int32} {r : Row} (h : ∀ j i, scH j i = false → c' j i = c j i) (H : BKr c r) : BKr c' r := by
  obtain ⟨h1, nx, h2, h3, h4⟩ := H
  exact ⟨by rw [h _ _ (by rfl)]; exact h1, nx, h2, by rw [h _ _ (by rfl)]; exact h3, fun ago ha w hw => by rw [h _ _ (by rfl)]; exact h4 ago ha w hw⟩
theorem EVC.cg {ev : Row → Int32} {S S' : Row} {len : Nat} (h : ∀ i, i < len → S' i = S i) (H : EVC ev S len) : EVC ev S' len :=
  ⟨H.1, fun g μ h1 h2 h3 => H.2 g μ (fun i hi => (h1 i hi).trans (h i hi)) h2 h3⟩
theorem LWr.cg {ev : Row → Int32} {c c' : Nat → Nat → Int32} {r : Row} (h : ∀ j i, scH j i = false → c' j i = c j i) (H : LWr ev c r) : LWr ev c' r := by
  obtain ⟨h1, h2⟩ := H
  refine ⟨by rw [h _ _ (by rfl)]; exact h1, fun hn => ?_⟩
  obtain ⟨len, a1, a2, a3⟩ := h2 hn
  exact ⟨len, a1, by rw [h _ _ (by rfl)]; exact a2, a3.cg fun i _ => h _ _ (by rfl)⟩
theorem HV.cg {ev : Row → Int32} {c c' : Nat → Nat → Int32} {r : Row} (h : ∀ j i, scH j i = false → c' j i = c j i) (H : HV ev c r) : HV ev c' r := ⟨H.1, H.2.1.cg h, H.2.2.1.cg h, H.2.2.2.1.cg h, H.2.2.2.2⟩
def pastR (μ : Mem) (a : Nat) : Row := fun j => if j < 304 then μ 0 16 (304 * a + j) else μ 0 13 j
def PST (ev : Row → Int32) (μ : Mem) : Prop := ∃ k nx, k ≤ 12 ∧ nx < 12 ∧ μ 0 9 1 = Int32.ofNat nx ∧ μ 0 9 2 = Int32.ofNat k ∧ μ 0 12 6 = Int32.ofNat k ∧ ∀ i, i < k → HV ev (μ (4 + (nx + 11 - i) % 12)) (pastR μ (k - 1 - i))
def TAP (μ : Mem) : Prop := ∃ t, t ≤ 400 ∧ μ 0 1 1 = Int32.ofNat t ∧ μ 0 12 8 = Int32.ofNat t ∧ ∀ i, i < t → μ 0 2 i = μ 0 17 i ∧ Nb (μ 0 17 i) 255
def BQ (ν : Mem) : Prop := (∃ c, ν 0 12 15 = bI c) ∧ ∃ c, ν 0 12 16 = bI c
theorem BQ.cg {μ μ' : Mem} (h : μ' 0 12 = μ 0 12) (H : BQ μ) : BQ μ' := by
  unfold BQ at H ⊢
  rw [h]
  exact H
def IMG (μ : Mem) : Prop := ((μ 0 0 9 = 0 ∧ μ 0 12 3 = 0) ∨ (μ 0 0 9 = 1 ∧ μ 0 12 3 = 1 ∧ ∃ ev, HV ev (μ 3) (μ 0 14))) ∧ BQ μ
def Rel (μ : Mem) : Prop := (∃ ev, HV ev (μ 1) (μ 0 13) ∧ PST ev μ) ∧ TAP μ ∧ μ 0 0 10 = μ 0 12 12 ∧ IMG μ
/-- cells of which nothing is kept between calls -/
def scr (g j i : Nat) : Bool := match g with
  | 0 => (decide (3 ≤ j) && decide (j ≤ 6)) || (j == 11) || (j == 15) || decide (18 ≤ j) || ((j == 12) && ((i == 0) || (i == 9) || (i == 10) || (i == 11) || (i == 13) || (i == 17) || (i == 19)))
  | 2 => true
  | g + 1 => decide (15 ≤ g) || scH j i
def FrS (μ μ' : Mem) : Prop := ∀ g j i, scr g j i = false → μ' g j i = μ g j i
theorem FrS.refl (μ : Mem) : FrS μ μ := fun _ _ _ _ => rfl
theorem FrS.trans {μ μ1 μ2 : Mem} (h : FrS μ μ1) (h2 : FrS μ1 μ2) : FrS μ μ2 := fun g j i hs => (h2 g j i hs).trans (h g j i hs)
theorem FrS.upm {μ μ' : Mem} (h : FrS μ μ') {g j i : Nat} (v : Int32) (hs : scr g j i = true) : FrS μ (upm μ' g j i v) := fun a b c hq => by
  rw [upm_n3]
  · exact h a b c hq
  · rintro ⟨rfl, rfl, rfl⟩
    rw [hs] at hq
    cases hq
theorem HV.fr {ev : Row → Int32} {μ μ' : Mem} {r : Row} {g : Nat} (hg : g ≠ 0) (hg2 : g ≠ 2) (hg3 : g < 16) (h : FrS μ μ') (H : HV ev (μ g) r) : HV ev (μ' g) r :=
  H.cg fun j i hs => h g j i (by
    match g, hg, hg2, hg3 with
    | g + 1, _, h2, h3 =>
      have e : scr (g + 1) j i = (decide (15 ≤ g) || scH j i) := by
        cases g with
        | zero => rfl
        | succ g => cases g with
          | zero => exact absurd rfl h2
          | succ g => rfl
      rw [e, hs, decide_eq_false (by omega)]
      rfl)
theorem FrS.row {μ μ' : Mem} (h : FrS μ μ') : μ' 0 13 = μ 0 13 := funext fun i => h 0 13 i rfl
theorem FrS.kept {μ μ' : Mem} (h : FrS μ μ') : μ' 0 14 = μ 0 14 := funext fun i => h 0 14 i rfl
theorem FrS.past {μ μ' : Mem} (h : FrS μ μ') (a : Nat) : pastR μ' a = pastR μ a := funext fun i => by
  unfold pastR
  rw [h 0 16 _ rfl, h 0 13 _ rfl]
theorem PST.fr {ev : Row → Int32} {μ μ' : Mem} (h : FrS μ μ') (H : PST ev μ) : PST ev μ' := by
  obtain ⟨k, nx, h1, h2, h3, h4, h5, h6⟩ := H
  refine ⟨k, nx, h1, h2, by rw [h 0 9 1 rfl]; exact h3, by rw [h 0 9 2 rfl]; exact h4, by rw [h 0 12 6 rfl]; exact h5, fun i hi => ?_⟩
  rw [h.past]
  exact (h6 i hi).fr (by omega) (by omega) (by omega) h
theorem TAP.fr {μ μ' : Mem} (h : FrS μ μ') (H : TAP μ) : TAP μ' := by
  obtain ⟨t, h1, h2, h3, h4⟩ := H
  refine ⟨t, h1, by rw [h 0 1 1 rfl]; exact h2, by rw [h 0 12 8 rfl]; exact h3, fun i hi => ?_⟩
  rw [h 0 2 i rfl, h 0 17 i rfl]
  exact h4 i hi
theorem IMG.fr {μ μ' : Mem} (h : FrS μ μ') (H : IMG μ) : IMG μ' := by
  obtain ⟨H, ⟨b1, q1⟩, b2, q2⟩ := H
  refine ⟨?_, ⟨b1, by rw [h 0 12 15 rfl]; exact q1⟩, b2, by rw [h 0 12 16 rfl]; exact q2⟩
  rw [h 0 0 9 rfl, h 0 12 3 rfl, h.kept]
  rcases H with H | ⟨h1, h2, ev, h3⟩
  · exact Or.inl H
  · exact Or.inr ⟨h1, h2, ev, h3.fr (by omega) (by omega) (by omega) h⟩
theorem Rel.fr {μ μ' : Mem} (H : Rel μ) (h : FrS μ μ') : Rel μ' := by
  obtain ⟨⟨ev, h1, h2⟩, h3, h4, h5⟩ := H
  refine ⟨⟨ev, ?_, h2.fr h⟩, h3.fr h, ?_, h5.fr h⟩
  · rw [h.row]
    exact h1.fr (by omega) (by omega) (by omega) h
  · rw [h 0 0 10 rfl, h 0 12 12 rfl]
    exact h4
theorem Rel.bq0 {μ : Mem} (H : Rel μ) : BQ μ := H.2.2.2.2
/-- the same where the two signs may have been noted anew -/
def FrW (μ μ' : Mem) : Prop := (∀ g j i, scr g j i = false → ¬ (g = 0 ∧ j = 12 ∧ (i = 15 ∨ i = 16)) → μ' g j i = μ g j i) ∧ (BQ μ → BQ μ')
theorem FrS.w {μ μ' : Mem} (h : FrS μ μ') : FrW μ μ' := ⟨fun g j i hs _ => h g j i hs, fun H => by
  obtain ⟨⟨b1, q1⟩, b2, q2⟩ := H
  exact ⟨⟨b1, by rw [h 0 12 15 rfl]; exact q1⟩, b2, by rw [h 0 12 16 rfl]; exact q2⟩⟩
theorem FrW.trans {μ μ1 μ2 : Mem} (h : FrW μ μ1) (h2 : FrW μ1 μ2) : FrW μ μ2 := ⟨fun g j i hs hn => (h2.1 g j i hs hn).trans (h.1 g j i hs hn), fun H => h2.2 (h.2 H)⟩
theorem Rel.V {μ : Mem} (H : Rel μ) : Vr (μ 0 13) := by
  obtain ⟨⟨ev, h1, -⟩, -⟩ := H
  exact h1.1
theorem Rel.H {μ : Mem} (H : Rel μ) : HC (μ 1) (μ 0 13) := by
  obtain ⟨⟨ev, h1, -⟩, -⟩ := H
  exact h1.2.1
theorem Rel.B {μ : Mem} (H : Rel μ) : BKr (μ 1) (μ 0 13) := by
  obtain ⟨⟨ev, h1, -⟩, -⟩ := H
  exact h1.2.2.1
/-- class and reference answer alike; c: what is thrown (0: nothing), cm: what the law makes of it -/
def AgT (cm : List (Nat × Int32)) (E : Option (Nat × Int32 × Mem)) (F : Mem → Option (Int32 × Mem)) : Prop :=
  ∃ c t v μ1, (c, t) ∈ cm ∧ E = some (c, v, μ1) ∧ ∀ μ1', μ1' = (if c = 0 then upm μ1 0 22 0 v else μ1) → ∃ w μ2, F μ1' = some (w, μ2) ∧ μ2 0 12 0 = t ∧ (c = 0 → w = v) ∧ μ2 0 22 0 = μ1' 0 22 0 ∧ Rel μ2
/-- the same where nothing is thrown -/
def AgN (E : Option (Int32 × Mem)) (F : Mem → Option (Int32 × Mem)) : Prop := ∃ v μ1 μ2, E = some (v, μ1) ∧ F μ1 = some (v, μ2) ∧ Rel μ2
/-- a question that changes nothing -/
def AgQ (E : Option Int32) (F : Option (Int32 × Mem)) : Prop := ∃ v μ2, E = some v ∧ F = some (v, μ2) ∧ Rel μ2
theorem AgT.q {cm : List (Nat × Int32)} {μ : Mem} {E : Option (Nat × Int32 × Mem)} {F : Mem → Option (Int32 × Mem)} (R : Rel μ) (c : Nat) (t v w : Int32) (hm : (c, t) ∈ cm) (hE : E = some (c, v, μ)) (hF : ∀ μ', Vr (μ' 0 13) → μ' 0 13 = μ 0 13 → F μ' = some (w, upm μ' 0 12 0 t)) (hw : c = 0 → w = v) : AgT cm E F := by
  refine ⟨c, t, v, μ, hm, hE, fun μ1' h1 => ?_⟩
  have hf : FrS μ μ1' := by
    rw [h1]
    split
    · exact (FrS.refl μ).upm v rfl
    · exact FrS.refl μ
  refine ⟨w, _, hF μ1' (by rw [hf.row]; exact R.V) hf.row, upm_at _ _ _ _ _, hw, ?_, R.fr (hf.upm t rfl)⟩
  rw [upm_n3 (by omega)]
theorem AgQ.q {μ : Mem} {E : Option Int32} {F : Option (Int32 × Mem)} (R : Rel μ) (v : Int32) (hE : E = some v) (hF : F = some (v, upm μ 0 12 0 0)) : AgQ E F :=
  ⟨v, _, hE, hF, R.fr ((FrS.refl μ).upm 0 rfl)⟩
/-- a number within bounds, or none -/
theorem in_cases (a : Int32) (lo hi : Nat) (hl : lo < 2147483648) (hh : hi < 2147483648) : (∃ k, lo ≤ k ∧ k ≤ hi ∧ a = Int32.ofNat k) ∨ ((a < Int32.ofNat lo ∨ (¬ a < Int32.ofNat lo ∧ Int32.ofNat hi < a)) ∧ f_X10_isIn a (Int32.ofNat lo) (Int32.ofNat hi) = some (Int32.ofNat 0)) := by
  by_cases h1 : a < Int32.ofNat lo
  · exact Or.inr ⟨Or.inl h1, by unfold f_X10_isIn; rw [if_pos h1]; rfl⟩
  · by_cases h2 : Int32.ofNat hi < a
    · exact Or.inr ⟨Or.inr ⟨h1, h2⟩, by unfold f_X10_isIn; rw [if_neg h1, if_pos h2]; rfl⟩
    · left
      have h0 : ¬ a < 0 := fun h => h1 (Int32.lt_of_lt_of_le h (by rw [i_0, on_le (by omega) hl]; omega))
      obtain ⟨k, hk, rfl⟩ := nat_of h0 (Int32.not_lt.mp h2) hh
      rw [on_lt (by omega) hl] at h1
      exact ⟨k, by omega, hk, rfl⟩
theorem isIn_t {k lo hi : Nat} (h1 : lo ≤ k) (h2 : k ≤ hi) (hh : hi < 2147483648) : f_X10_isIn (Int32.ofNat k) (Int32.ofNat lo) (Int32.ofNat hi) = some (Int32.ofNat 1) := by
  rw [r_isIn (by omega) (by omega) hh, decide_eq_true h1, decide_eq_true h2]
  rfl
theorem room_cases (a : Int32) : (∃ k, k < 8 ∧ a = Int32.ofNat k) ∨ (f_X9_isRoom a = some (Int32.ofNat 0) ∧ f_X10_isRoom a = some (Int32.ofNat 0)) := by
  rcases in_cases a 0 7 (by decide) (by decide) with ⟨k, -, h, rfl⟩ | ⟨h1, h2⟩
  · exact Or.inl ⟨k, by omega, rfl⟩
  · right
    refine ⟨?_, ?_⟩
    · unfold f_X9_isRoom
      simp only [i_0, i_8, i_1]
      rcases h1 with h1 | ⟨h1, h3⟩
      · rw [if_pos h1]
      · rw [if_neg h1, if_pos]
        · rw [Int32.le_iff_toInt_le]
          rw [Int32.lt_iff_toInt_lt, on_i (by decide)] at h3
          rw [on_i (by decide)]
          omega
    · unfold f_X10_isRoom
      simp only [i_0, i_7]
      rw [h2]
      rfl
theorem guest_cases {μ : Mem} (H : HC (μ 1) (μ 0 13)) (V : Vr (μ 0 13)) (a : Int32) : (∃ g, g < nv (μ 0 13) 3 ∧ a = Int32.ofNat g ∧ f_X9_isGuest μ a = some (Int32.ofNat 1) ∧ ∀ μ' : Mem, μ' 0 13 = μ 0 13 → f_X10_isGuest μ' a = some (Int32.ofNat 1)) ∨ (f_X9_isGuest μ a = some (Int32.ofNat 0) ∧ ∀ μ' : Mem, μ' 0 13 = μ 0 13 → f_X10_isGuest μ' a = some (Int32.ofNat 0)) := by
  have h8 := V.c8
  by_cases h1 : a < 0
  · right
    refine ⟨by unfold f_X9_isGuest; rw [if_pos h1]; rfl, fun μ' e => ?_⟩
    unfold f_X10_isGuest f_X10_isIn
    rw [i_3, ix_on (by decide) (by decide), if_pos h1]
    rfl
  · by_cases h2 : μ 0 13 3 ≤ a
    · right
      refine ⟨by unfold f_X9_isGuest; rw [if_neg h1, H.cnt, if_pos h2]; rfl, fun μ' e => ?_⟩
      unfold f_X10_isGuest f_X10_isIn
      rw [i_3, ix_on (by decide) (by decide), if_neg h1, on_t (by decide), e, if_pos]
      · rfl
      · rw [V.e3] at h2 ⊢
        rw [Int32.le_iff_toInt_le, on_i (by omega)] at h2
        rw [Int32.lt_iff_toInt_lt, Int32.toInt_sub, on_i (by omega), show (1 : Int32).toInt = 1 from rfl, Int.bmod_eq_of_le (by omega) (by omega)]
        omega
    · left
      have h3 := Int32.not_le.mp h2
      rw [V.e3] at h3
      obtain ⟨g, hg, rfl⟩ := nat_of h1 (Int32.le_of_lt h3) (by omega)
      rw [on_lt (by omega) (by omega)] at h3
      refine ⟨g, h3, rfl, ?_, fun μ' e => ?_⟩
      · unfold f_X9_isGuest
        rw [if_neg h1, H.cnt, if_neg h2]
        rfl
      · unfold f_X10_isGuest f_X10_isIn
        rw [i_3, ix_on (by decide) (by decide), if_neg h1, on_t (by decide), e, if_neg]
        · rfl
        · rw [V.e3, Int32.lt_iff_toInt_lt, Int32.toInt_sub, on_i (by omega), on_i (by omega), show (1 : Int32).toInt = 1 from rfl, Int.bmod_eq_of_le (by omega) (by omega)]
          omega
