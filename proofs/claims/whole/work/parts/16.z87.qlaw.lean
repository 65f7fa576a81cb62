/-! ===== law, answered alike ===== -/
def bgn (B : Mem) : Mem := upm (upm (upm (upm (upm (upm B 0 12 12 (-1)) 0 12 9 (-1)) 0 12 10 (B 0 12 8)) 0 12 8 0) 0 12 11 0) 0 12 13 0
theorem r_begins (B : Mem) : f_X10_begins B = some (bgn B) := by
  unfold f_X10_begins bgn
  rw [nm_q, nm_q, nm_q, nm_q, nm_q, nm_q, upm_n3 (by omega), upm_n3 (by omega)]
theorem bgn_fr (B : Mem) {g j i : Nat} (h : ¬ (g = 0 ∧ j = 12 ∧ (i = 8 ∨ i = 9 ∨ i = 10 ∨ i = 11 ∨ i = 12 ∨ i = 13))) : bgn B g j i = B g j i := by
  unfold bgn
  rw [upm_n3 (by omega), upm_n3 (by omega), upm_n3 (by omega), upm_n3 (by omega), upm_n3 (by omega), upm_n3 (by omega)]
theorem bgn_8 (B : Mem) : bgn B 0 12 8 = 0 := by
  unfold bgn
  rw [upm_n3 (by omega), upm_n3 (by omega), upm_at]
theorem bgn_10 (B : Mem) : bgn B 0 12 10 = B 0 12 8 := by
  unfold bgn
  rw [upm_n3 (by omega), upm_n3 (by omega), upm_n3 (by omega), upm_at]
theorem bgn_rs {b : Nat → Nat} {t : Nat} {B : Mem} (t1 : t ≤ 400) (e8 : B 0 12 8 = Int32.ofNat t) (h17 : ∀ i, i < t → B 0 17 i = Int32.ofNat (b i)) (hb : ∀ i, i < t → b i ≤ 255) (hq : BQ B) : RS b t (bgn B) 0 0 0 := by
  obtain ⟨⟨c1, q1⟩, c2, q2⟩ := hq
  refine ⟨⟨t1, by rw [bgn_10, e8], .inl ⟨?_, fun i hi => by rw [bgn_fr B (by omega)]; exact h17 i hi⟩, hb⟩, Nat.zero_le _, ?_, rfl, ?_, ?_, ⟨c1, by rw [bgn_fr B (by omega)]; exact q1⟩, c2, by rw [bgn_fr B (by omega)]; exact q2⟩
  · unfold bgn
    rw [upm_n3 (by omega), upm_n3 (by omega), upm_n3 (by omega), upm_n3 (by omega), upm_at]
  · unfold bgn
    rw [upm_n3 (by omega), upm_at]
    rfl
  · unfold bgn
    rw [upm_n3 (by omega), upm_n3 (by omega), upm_n3 (by omega), upm_n3 (by omega), upm_n3 (by omega), upm_at]
  · unfold bgn
    rw [upm_at]
    rfl
theorem tap_ct {μ : Mem} (T : TAP μ) : ∃ b t, CT μ b t ∧ μ 0 12 8 = Int32.ofNat t ∧ ∀ i, i < t → μ 0 17 i = Int32.ofNat (b i) := by
  obtain ⟨t, t1, t2, t3, t4⟩ := T
  have h : ∀ i, i < t → μ 0 17 i = Int32.ofNat (μ 0 17 i).toNatClampNeg ∧ (μ 0 17 i).toNatClampNeg ≤ 255 := fun i hi => by
    obtain ⟨n, hn, e⟩ := (t4 i hi).2
    rw [e, on_t (by omega)]
    exact ⟨rfl, hn⟩
  exact ⟨fun i => (μ 0 17 i).toNatClampNeg, t, ⟨t1, t2, fun i hi => ⟨(t4 i hi).1.trans (h i hi).1, (h i hi).2⟩⟩, t3, fun i hi => (h i hi).1⟩
theorem scr_no {g j i : Nat} (hs : scr g j i = false) : ¬ (g = 0 ∧ (3 ≤ j ∧ j ≤ 6 ∨ j = 11 ∨ j = 15 ∨ 18 ≤ j ∨ j = 12 ∧ (i = 0 ∨ i = 9 ∨ i = 10 ∨ i = 11 ∨ i = 13 ∨ i = 17 ∨ i = 19))) ∧ g ≠ 2 ∧ g < 16 := by
  refine ⟨?_, ?_, ?_⟩
  · rintro ⟨rfl, h⟩
    unfold scr at hs
    simp only [Bool.or_eq_false_iff, beq_eq_false_iff_ne, Bool.and_eq_false_iff, decide_eq_false_iff_not] at hs
    omega
  · rintro rfl
    cases hs
  · by_cases h : g < 16
    · exact h
    · obtain ⟨g, rfl⟩ : ∃ k, g = k + 3 := ⟨g - 3, by omega⟩
      have h2 : (decide (15 ≤ g + 2) || scH j i) = false := hs
      rw [decide_eq_true (by omega)] at h2
      cases h2
def tfc (g j i : Nat) : Prop := g = 0 ∧ ((j = 1 ∧ i = 1) ∨ j = 2 ∨ (j = 12 ∧ (i = 8 ∨ i = 12)) ∨ j = 17 ∨ (j = 0 ∧ i = 10))
theorem Rel.tf {μ μ' : Mem} (R : Rel μ) (h : ∀ g j i, scr g j i = false → ¬ tfc g j i → μ' g j i = μ g j i) (T : TAP μ') (hf : μ' 0 0 10 = μ' 0 12 12) : Rel μ' := by
  have hv : ∀ {ev : Row → Int32} {r : Row} {g : Nat}, g ≠ 0 → g ≠ 2 → g < 16 → HV ev (μ g) r → HV ev (μ' g) r := fun {ev r g} h0 h1 h2 H => H.cg fun j i hs => h g j i (by
    match g, h0, h1, h2 with
    | g + 1, _, h2, h3 =>
      have e : scr (g + 1) j i = (decide (15 ≤ g) || scH j i) := by
        cases g with
        | zero => rfl
        | succ g => cases g with
          | zero => exact absurd rfl h2
          | succ g => rfl
      rw [e, hs, decide_eq_false (by omega)]
      rfl) (by unfold tfc; omega)
  have n : ∀ j i, scr 0 j i = false → (j = 9 ∨ j = 13 ∨ j = 14 ∨ j = 16 ∨ j = 0 ∧ i ≠ 10 ∨ j = 12 ∧ i ≠ 8 ∧ i ≠ 12) → μ' 0 j i = μ 0 j i := fun j i hs hj => h 0 j i hs (by unfold tfc; omega)
  have e13 : μ' 0 13 = μ 0 13 := funext fun i => n 13 i rfl (by omega)
  have e14 : μ' 0 14 = μ 0 14 := funext fun i => n 14 i rfl (by omega)
  have e16 : μ' 0 16 = μ 0 16 := funext fun i => n 16 i rfl (by omega)
  obtain ⟨⟨ev, h1, k, nx, q1, q2, q3, q4, q5, q6⟩, -, h4, h5, ⟨b1, b2⟩, b3, b4⟩ := R
  refine ⟨⟨ev, ?_, k, nx, q1, q2, by rw [n 9 1 rfl (by omega)]; exact q3, by rw [n 9 2 rfl (by omega)]; exact q4, by rw [n 12 6 rfl (by omega)]; exact q5, fun i hi => ?_⟩, T, hf, ?_, ⟨b1, by rw [n 12 15 rfl (by omega)]; exact b2⟩, b3, by rw [n 12 16 rfl (by omega)]; exact b4⟩
  · rw [e13]
    exact hv (by decide) (by decide) (by decide) h1
  · have e : pastR μ' (k - 1 - i) = pastR μ (k - 1 - i) := by
      unfold pastR
      rw [e13, e16]
    rw [e]
    exact hv (by omega) (by omega) (by omega) (q6 i hi)
  · rw [n 0 9 rfl (by omega), n 12 3 rfl (by omega), e14]
    rcases h5 with h5 | ⟨a1, a2, ev', a3⟩
    · exact .inl h5
    · exact .inr ⟨a1, a2, ev', hv (by decide) (by decide) (by decide) a3⟩
theorem HC.rw {c : Nat → Nat → Int32} {r r' : Row} (V : Vr r) (e : ∀ i, i ≠ 1 → i ≠ 2 → i < 304 → r' i = r i) (H : HC c r) : HC c r' := by
  obtain ⟨⟨b1, b2, b3, b4, b5, b6, b7, b8, b9, b10, b11, b12, b13⟩, k1, k2, k3, k4⟩ := H
  have h8 := V.c8
  have e3 : nv r' 3 = nv r 3 := by
    unfold nv
    rw [e 3 (by decide) (by decide) (by decide)]
  have x : ∀ i, i ≠ 1 → i ≠ 2 → i < 304 → ∀ y : Int32, y = r i → y = r' i := fun i h1 h2 h3 y hy => hy.trans (e i h1 h2 h3).symm
  refine ⟨⟨x 12 (by decide) (by decide) (by decide) _ b1, x 13 (by decide) (by decide) (by decide) _ b2, x 5 (by decide) (by decide) (by decide) _ b3, x 4 (by decide) (by decide) (by decide) _ b4, x 6 (by decide) (by decide) (by decide) _ b5, x 7 (by decide) (by decide) (by decide) _ b6, x 8 (by decide) (by decide) (by decide) _ b7, x 9 (by decide) (by decide) (by decide) _ b8, x 10 (by decide) (by decide) (by decide) _ b9, x 11 (by decide) (by decide) (by decide) _ b10, x 15 (by decide) (by decide) (by decide) _ b11, x 0 (by decide) (by decide) (by decide) _ b12, x 3 (by decide) (by decide) (by decide) _ b13⟩, ?_, ?_, fun g hg => ?_, fun k hk => x _ (by omega) (by omega) (by omega) _ (k4 k hk)⟩
  · rw [k1, e3]
    congr 1
    refine mk_cg fun g hg => ?_
    unfold kyB
    rw [e _ (by omega) (by omega) (by omega)]
  · rw [k2, e3]
    congr 1
    refine mk_cg fun g hg => ?_
    unfold hrB
    rw [e _ (by omega) (by omega) (by omega)]
  · rw [e3] at hg
    obtain ⟨a1, a2, a3⟩ := k3 g hg
    exact ⟨x _ (by omega) (by omega) (by omega) _ a1, x _ (by omega) (by omega) (by omega) _ a2, x _ (by omega) (by omega) (by omega) _ a3⟩
theorem BKr.rw {c : Nat → Nat → Int32} {r r' : Row} (V : Vr r) (e : ∀ i, i = 14 ∨ 64 ≤ i → i < 304 → r' i = r i) (H : BKr c r) : BKr c r' := by
  obtain ⟨h1, nx, h2, h3, h4⟩ := H
  have b14 : nv r 14 ≤ 60 := V.b (i := 14) (by decide)
  have e14 := e 14 (by decide) (by decide)
  have en : nv r' 14 = nv r 14 := by
    unfold nv
    rw [e14]
  refine ⟨h1.trans e14.symm, nx, h2, h3, fun ago ha w hw => ?_⟩
  rw [en] at ha
  rw [e _ (by omega) (by omega)]
  exact h4 ago ha w hw
/-- the reference notes the text -/
theorem r_law55 {ν : Mem} {t : Nat} (ht : t ≤ 400) (e10 : ν 0 12 10 = Int32.ofNat t) (K : Mem → Option (Int32 × Mem)) : ∃ ν', lp_X10_law_55 K 4096 0 ν = K ν' ∧ (∀ i, i < t → ν' 0 13 (304 + i) = ν 0 17 i) ∧ (∀ i, ¬ (304 ≤ i ∧ i < 304 + t) → ν' 0 13 i = ν 0 13 i) ∧ ∀ g j, ¬ (g = 0 ∧ j = 13) → ν' g j = ν g j := by
  refine lpP (fun n (s : Int32 × Mem) => lp_X10_law_55 K n s.1 s.2) (fun o => ∃ ν', o = K ν' ∧ (∀ i, i < t → ν' 0 13 (304 + i) = ν 0 17 i) ∧ (∀ i, ¬ (304 ≤ i ∧ i < 304 + t) → ν' 0 13 i = ν 0 13 i) ∧ ∀ g j, ¬ (g = 0 ∧ j = 13) → ν' g j = ν g j) (fun k s => s.1 = Int32.ofNat k ∧ (∀ i, i < k → s.2 0 13 (304 + i) = ν 0 17 i) ∧ (∀ i, ¬ (304 ≤ i ∧ i < 304 + k) → s.2 0 13 i = ν 0 13 i) ∧ ∀ g j, ¬ (g = 0 ∧ j = 13) → s.2 g j = ν g j) t ?_ 4096 (0, ν) (by omega) ⟨rfl, fun i hi => by omega, fun _ _ => rfl, fun _ _ _ => rfl⟩
  rintro k ⟨x, ξ⟩ hk ⟨e1, e2, e3, e4⟩ n
  simp only at e1 e2 e3 e4
  subst e1
  have x10 : ξ 0 12 10 = Int32.ofNat t := by rw [e4 0 12 (by omega), e10]
  by_cases h6 : k = t
  · left
    subst h6
    refine ⟨ξ, ?_, e2, e3, e4⟩
    show lp_X10_law_55 K (n + 1) (Int32.ofNat k) ξ = _
    rw [lp_X10_law_55, x10, if_pos (by rw [on_le (by omega) (by omega)]; omega)]
  · right
    refine ⟨by omega, (Int32.ofNat (k + 1), upm ξ 0 13 (304 + k) (ν 0 17 k)), ⟨rfl, fun i hi => ?_, fun i hi => ?_, fun g j hn => ?_⟩, ?_⟩
    · show upm ξ 0 13 (304 + k) (ν 0 17 k) 0 13 (304 + i) = _
      by_cases h7 : i = k
      · rw [h7, upm_at]
      · rw [upm_n3 (by omega), e2 i (by omega)]
    · show upm ξ 0 13 (304 + k) (ν 0 17 k) 0 13 i = _
      rw [upm_n3 (by omega), e3 i (by omega)]
    · show upm ξ 0 13 (304 + k) (ν 0 17 k) g j = _
      rw [upm_ne (by omega), e4 g j hn]
    · show lp_X10_law_55 K (n + 1) (Int32.ofNat k) ξ = lp_X10_law_55 K n (Int32.ofNat (k + 1)) (upm ξ 0 13 (304 + k) (ν 0 17 k))
      rw [lp_X10_law_55, x10, if_neg (by rw [on_le (by omega) (by omega)]; omega), i_304, on_a, ix_on (by omega) (by decide), ix_on (by omega) (by decide), on_t (by omega), on_t (by omega), nm_q, e4 0 17 (by omega), i_1, on_a]
/-- the reference's law, read -/
theorem r_law {B : Mem} {x : Int32} {ν : Mem} (h : f_X10_read (bgn B) 1 = some (x, ν)) : f_X10_law B = if ν 0 12 12 = -1 then nm (upm (upm (upm ν 0 12 0 0) 0 13 1 x) 0 13 2 (ν 0 12 10)) (fun (μ6 : Mem) => lp_X10_law_55 (fun (μ7 : Mem) => some (x, upm μ7 0 12 6 0)) 4096 0 μ6) else some (0, upm ν 0 12 0 1) := by
  unfold f_X10_law
  rw [r_begins, bs_q, h, bs_q, nm_q]
  by_cases h1 : ν 0 12 12 = -1
  · rw [if_pos h1, if_pos h1]
    show nm (upm ν 0 12 0 0) _ = _
    rw [nm_q, if_pos (by rw [upm_at]; decide), nm_q, show (1 : Int32) = Int32.ofNat 1 from rfl, show (2 : Int32) = Int32.ofNat 2 from rfl, ix_on (by decide) (by decide), nm_q, ix_on (by decide) (by decide), upm_ne (by omega), upm_n3 (by omega), nm_q]
    rfl
  · rw [if_neg h1, if_neg h1]
    show nm (upm ν 0 12 0 1) _ = _
    rw [nm_q, if_neg (by rw [upm_at]; decide)]
set_option maxHeartbeats 4000000 in
theorem q_law {μ : Mem} (R : Rel μ) : AgT [(0, 0), (1, 1)] (f_X9_law μ) f_X10_law := by
  obtain ⟨b, t, C, e8, h17⟩ := tap_ct R.2.1
  have t1 := C.1
  have hbq := R.bq0
  obtain ⟨μ1, m, a1, a2, a3, a4⟩ := c_read C
  have T2 : TOK (upm μ1 0 1 1 0) b t m := a2.fr fun j i hj => by rw [upm_ne (by omega)]
  have F2 : ∀ g j i, ¬ (g = 0 ∧ (j = 1 ∧ i = 1 ∨ j = 3 ∨ j = 4 ∨ j = 5 ∨ j = 6)) → (upm μ1 0 1 1 0) g j i = μ g j i := fun g j i h => by
    rw [upm_n3 (by omega), a4 g j i (by unfold fR; omega)]
  have e11 : (upm μ1 0 1 1 0) 0 1 1 = 0 := upm_at _ _ _ _ _
  have hcl : f_X9_law μ = (f_X5_read (upm μ1 0 1 1 0)).bind fun (q3 : Int32 × Mem) => nm (fun (x4 : Int32) => nm (upm q3.2 0 0 10 x4) fun (μ5 : Mem) => if q3.1 = 0 then (some (1, 0, μ5)) else ((f_X4_copy 0 15 μ5).bind fun (q6 : Mem) => (f_X6_forget q6).bind fun (q7 : Mem) => some (0, (q7 1 7 4), q7))) fun (J43 : Int32 → Option (Nat × Int32 × Mem)) => if q3.1 = 0 then ((f_X8_begin q3.2).bind fun (q8 : Int32) => J43 q8) else (J43 (-1)) := by
    unfold f_X9_law
    rw [a1, bs_q, nm_q]
  generalize hμ2 : upm μ1 0 1 1 0 = μ2 at T2 F2 e11 hcl
  have e34 : μ2 0 3 4 = 0 := by rw [← hμ2, upm_ne (by omega), a3]
  rcases law_both T2 e34 with ⟨kE, μ3, r1, r2, r3, r4, r5⟩ | ⟨L, c, μ3, r1, r2, r3, r4, r5, r6, r7, r8, r9⟩
  · have T3 : TOK μ3 b t m := T2.fr fun j i hj => r4 0 j i (by omega) (by omega)
    have hE : f_X9_law μ = some (1, 0, upm μ3 0 0 10 (Int32.ofNat (tk b t kE))) := by
      rw [hcl, r1, bs_q, nm_q, if_pos (show (0 : Int32) = 0 from rfl), c_begin T3 r2 r3, bs_q]
      show nm (upm μ3 0 0 10 (Int32.ofNat (tk b t kE))) _ = _
      rw [nm_q, if_pos (show (0 : Int32) = 0 from rfl)]
    have F4 : ∀ g j i, ¬ (g = 0 ∧ (j = 0 ∧ i = 10 ∨ j = 1 ∧ i = 1 ∨ j = 3 ∨ j = 4 ∨ j = 5 ∨ j = 6)) → g ≠ 16 → (upm μ3 0 0 10 (Int32.ofNat (tk b t kE))) g j i = μ g j i := fun g j i h h2 => by
      rw [upm_n3 (by omega), r4 g j i (by omega) (by omega), F2 g j i (by omega)]
    have d10 : (upm μ3 0 0 10 (Int32.ofNat (tk b t kE))) 0 0 10 = Int32.ofNat (tk b t kE) := upm_at _ _ _ _ _
    have d11 : (upm μ3 0 0 10 (Int32.ofNat (tk b t kE))) 0 1 1 = 0 := by rw [upm_ne (by omega), r4 0 1 1 (by omega) (by omega), e11]
    generalize upm μ3 0 0 10 (Int32.ofNat (tk b t kE)) = μ4 at hE F4 d10 d11
    refine ⟨1, 1, 0, μ4, by decide, hE, fun x hx => ?_⟩
    rw [if_neg (by decide)] at hx
    subst hx
    have RSx : RS b t (bgn x) 0 0 0 := by
      refine bgn_rs t1 (by rw [F4 0 12 8 (by omega) (by omega), e8]) (fun i hi => by rw [F4 0 17 i (by omega) (by omega)]; exact h17 i hi) (fun i hi => (C.2.2 i hi).2) (BQ.cg (funext fun i => F4 0 12 i (by omega) (by omega)) hbq)
    obtain ⟨y, ν, s1, s2, s3⟩ := r5 _ _ RSx
    have hne := fs_ne s2 T3 r2
    have hR := r_law s1
    rw [if_neg hne] at hR
    refine ⟨0, _, hR, upm_at _ _ _ _ _, fun h => absurd h (by decide), ?_, ?_⟩
    · rw [upm_ne (by omega), s3 0 22 0 (by omega), bgn_fr x (by omega)]
    · refine R.tf (fun g j i hs hn => ?_) ⟨0, by decide, ?_, ?_, fun i hi => by omega⟩ ?_
      · obtain ⟨n1, n2, n3⟩ := scr_no hs
        unfold tfc at hn
        rw [upm_n3 (by omega), s3 g j i (by omega), bgn_fr x (by omega), F4 g j i (by omega) (by omega)]
      · rw [upm_ne (by omega), s3 0 1 1 (by omega), bgn_fr x (by omega), d11]
        rfl
      · rw [upm_n3 (by omega), s3 0 12 8 (by omega), bgn_8]
        rfl
      · rw [upm_ne (by omega), s3 0 0 10 (by omega), bgn_fr x (by omega), d10, upm_n3 (by omega), s2.2.1]
  · rw [Nat.zero_add] at r3 r4
    obtain ⟨μ6, k6, g1, g2, g3, g4, g5, g6, g7, g8⟩ := c_copy4 (d := 0) (s := 15) (by decide) (upm μ3 0 0 10 (-1))
    have e162 : (upm μ3 0 0 10 (-1)) 16 7 2 = Int32.ofNat c.length := by rw [upm_ng (by decide), r4]
    have ek : k6 = c.length := by
      rw [show (upm μ3 0 0 10 (-1)) (15 + 1) 7 2 = Int32.ofNat c.length from e162, clip_n r3] at g2
      have := congrArg Int32.toNatClampNeg g2
      rw [on_t (by omega), on_t (by omega)] at this
      omega
    subst ek
    have hE : f_X9_law μ = some (0, Int32.ofNat L, upm μ6 0 9 2 0) := by
      rw [hcl, r1, bs_q, nm_q, if_neg (show ¬ (1 : Int32) = 0 by decide)]
      show nm (upm μ3 0 0 10 (-1)) _ = _
      rw [nm_q, if_neg (show ¬ (1 : Int32) = 0 by decide), g3, bs_q]
      unfold f_X6_forget
      rw [nm_q, bs_q, upm_ng (by decide), show μ6 1 7 4 = _ from g5, show (upm μ3 0 0 10 (-1)) (15 + 1) 7 4 = Int32.ofNat L from (by rw [upm_ng (by decide), r5])]
    have F4 : ∀ g j i, ¬ (g = 0 ∧ (j = 0 ∧ i = 10 ∨ j = 1 ∧ i = 1 ∨ j = 3 ∨ j = 4 ∨ j = 5 ∨ j = 6 ∨ j = 9 ∧ i = 2 ∨ j = 22)) → g ≠ 16 → ¬ (g = 1 ∧ (j = 7 ∨ j = 8)) → (upm (upm μ6 0 9 2 0) 0 22 0 (Int32.ofNat L)) g j i = μ g j i := fun g j i h h2 h3 => by
      rw [upm_n3 (by omega), upm_n3 (by omega)]
      by_cases h1 : g = 1
      · subst h1
        rw [g8 j (by omega), upm_ng (by decide), r6 1 j i (by omega) (by omega), F2 1 j i (by omega)]
      · rw [g4 g h1, upm_n3 (by omega), r6 g j i (by omega) (by omega), F2 g j i (by omega)]
    have d10 : (upm (upm μ6 0 9 2 0) 0 22 0 (Int32.ofNat L)) 0 0 10 = -1 := by rw [upm_ne (by omega), upm_ne (by omega), g4 0 (by decide), upm_at]
    have d11 : (upm (upm μ6 0 9 2 0) 0 22 0 (Int32.ofNat L)) 0 1 1 = 0 := by rw [upm_ne (by omega), upm_ne (by omega), g4 0 (by decide), upm_ne (by omega), r6 0 1 1 (by omega) (by omega), e11]
    have d92 : (upm (upm μ6 0 9 2 0) 0 22 0 (Int32.ofNat L)) 0 9 2 = 0 := by rw [upm_ne (by omega), upm_at]
    have d22 : (upm (upm μ6 0 9 2 0) 0 22 0 (Int32.ofNat L)) 0 22 0 = Int32.ofNat L := upm_at _ _ _ _ _
    have d74 : (upm (upm μ6 0 9 2 0) 0 22 0 (Int32.ofNat L)) 1 7 4 = Int32.ofNat L := by
      rw [upm_ng (by decide), upm_ng (by decide), show μ6 1 7 4 = _ from g5, show (upm μ3 0 0 10 (-1)) (15 + 1) 7 4 = Int32.ofNat L from (by rw [upm_ng (by decide), r5])]
    have d72 : (upm (upm μ6 0 9 2 0) 0 22 0 (Int32.ofNat L)) 1 7 2 = Int32.ofNat c.length := by
      rw [upm_ng (by decide), upm_ng (by decide), show μ6 1 7 2 = _ from g6]
    have d8 : ∀ i, i < c.length → (upm (upm μ6 0 9 2 0) 0 22 0 (Int32.ofNat L)) 1 8 i = Int32.ofNat (c.getD i 0) := fun i hi => by
      rw [upm_ng (by decide), upm_ng (by decide), show μ6 1 8 i = _ from g7 i hi, upm_ng (by decide)]
      have := r7 i hi
      rwa [Nat.zero_add] at this
    refine ⟨0, 0, Int32.ofNat L, _, by decide, hE, fun x hx => ?_⟩
    rw [if_pos rfl] at hx
    rw [← hx] at F4 d10 d11 d92 d22 d74 d72 d8
    have bqx : BQ x := BQ.cg (funext fun i => F4 0 12 i (by omega) (by omega) (by omega)) hbq
    have RSx : RS b t (bgn x) 0 0 0 := bgn_rs t1 (by rw [F4 0 12 8 (by omega) (by omega) (by omega), e8]) (fun i hi => by rw [F4 0 17 i (by omega) (by omega) (by omega)]; exact h17 i hi) (fun i hi => (C.2.2 i hi).2) bqx
    obtain ⟨ν, g, s1, s2, s3, s4, s5⟩ := r9 _ _ RSx
    have hR := r_law s1
    have e10 : ν 0 12 10 = Int32.ofNat t := by rw [s4 0 12 10 (by omega), bgn_10, F4 0 12 8 (by omega) (by omega) (by omega), e8]
    rw [if_pos s2, nm_q, e10] at hR
    obtain ⟨ν', w1, w2, w3, w4⟩ := r_law55 (ν := upm (upm (upm ν 0 12 0 0) 0 13 1 (Int32.ofNat L)) 0 13 2 (Int32.ofNat t)) t1 (by rw [upm_ne (by omega), upm_ne (by omega), upm_n3 (by omega), e10]) (fun (μ7 : Mem) => some (Int32.ofNat L, upm μ7 0 12 6 0))
    rw [w1] at hR
    -- the reference's last memory, said by the class's
    have M0 : ∀ g j i, ¬ (g = 0 ∧ (j = 13 ∨ j = 12 ∧ (i = 0 ∨ i = 6 ∨ i = 8 ∨ i = 9 ∨ i = 10 ∨ i = 11 ∨ i = 12 ∨ i = 13 ∨ i = 17))) → (upm ν' 0 12 6 0) g j i = x g j i := fun g j i h => by
      rw [upm_n3 (by omega), w4 g j (by omega), upm_n3 (by omega), upm_n3 (by omega), upm_n3 (by omega), s4 g j i (by omega), bgn_fr x (by omega)]
    have row0 : ∀ i, i ≠ 1 → i ≠ 2 → ¬ (304 ≤ i ∧ i < 304 + t) → (upm ν' 0 12 6 0) 0 13 i = μ 0 13 i := fun i h1 h2 h3 => by
      rw [upm_ne (by omega), w3 i h3, upm_n3 (by omega), upm_n3 (by omega), upm_ne (by omega), s4 0 13 i (by omega), bgn_fr x (by omega), F4 0 13 i (by omega) (by omega) (by omega)]
    have row1 : (upm ν' 0 12 6 0) 0 13 1 = Int32.ofNat L := by rw [upm_ne (by omega), w3 1 (by omega), upm_n3 (by omega), upm_at]
    have row2 : (upm ν' 0 12 6 0) 0 13 2 = Int32.ofNat t := by rw [upm_ne (by omega), w3 2 (by omega), upm_at]
    have rowt : ∀ i, i < t → (upm ν' 0 12 6 0) 0 13 (304 + i) = Int32.ofNat (b i) := fun i hi => by
      rw [upm_ne (by omega), w2 i hi, upm_ne (by omega), upm_ne (by omega), upm_ne (by omega), s4 0 17 i (by omega), bgn_fr x (by omega), F4 0 17 i (by omega) (by omega) (by omega), h17 i hi]
    have m0 : (upm ν' 0 12 6 0) 0 12 0 = 0 := by rw [upm_n3 (by omega), w4 0 12 (by omega), upm_ne (by omega), upm_ne (by omega), upm_at]
    have m6 : (upm ν' 0 12 6 0) 0 12 6 = 0 := upm_at _ _ _ _ _
    have m8 : (upm ν' 0 12 6 0) 0 12 8 = 0 := by rw [upm_n3 (by omega), w4 0 12 (by omega), upm_ne (by omega), upm_ne (by omega), upm_n3 (by omega), s4 0 12 8 (by omega), bgn_8]
    have m12 : (upm ν' 0 12 6 0) 0 12 12 = -1 := by rw [upm_n3 (by omega), w4 0 12 (by omega), upm_ne (by omega), upm_ne (by omega), upm_n3 (by omega), s2]
    generalize upm ν' 0 12 6 0 = M at hR M0 row0 row1 row2 rowt m0 m6 m8 m12
    have V := R.V
    have hbt : ∀ i, i < t → b i ≤ 255 := fun i hi => (C.2.2 i hi).2
    refine ⟨Int32.ofNat L, M, hR, m0, fun _ => rfl, M0 0 22 0 (by omega), ?_⟩
    obtain ⟨⟨ev, H1, k, nx, q1, q2, q3, q4, q5, q6⟩, -, -, h5, -⟩ := R
    refine ⟨⟨lev c, ⟨?_, ?_, ?_, ?_, ?_⟩, 0, nx, by decide, q2, ?_, ?_, ?_, fun i hi => by omega⟩, ⟨0, by decide, ?_, ?_, fun i hi => by omega⟩, ?_, ?_, ?_⟩
    · intro i hi
      have hi1 : i ≠ 1 := fun h => by rw [h] at hi; cases hi
      have hi7 := okI_lt hi
      by_cases h2 : i = 2
      · subst h2
        rw [row2]
        exact ⟨t, t1, rfl⟩
      · by_cases h3 : 304 ≤ i ∧ i < 304 + t
        · obtain ⟨j, rfl⟩ : ∃ j, i = 304 + j := ⟨i - 304, by omega⟩
          rw [rowt j (by omega)]
          refine ⟨b j, ?_, rfl⟩
          have : bd (304 + j) = 255 := by unfold bd; rw [if_neg (by omega)]
          have := hbt j (by omega)
          omega
        · rw [row0 i hi1 h2 h3]
          exact V i hi
    · have eM : ∀ j i, scH j i = false → ¬ (j = 7 ∨ j = 8) → M 1 j i = μ 1 j i := fun j i _ h => by rw [M0 1 j i (by omega), F4 1 j i (by omega) (by omega) (by omega)]
      have hc := H1.2.1
      have : HC (M 1) (μ 0 13) := by
        obtain ⟨⟨b1, b2, b3, b4, b5, b6, b7, b8, b9, b10, b11, b12, b13⟩, k1, k2, k3, k4⟩ := hc
        refine ⟨⟨?_, ?_, ?_, ?_, ?_, ?_, ?_, ?_, ?_, ?_, ?_, ?_, ?_⟩, ?_, ?_, fun g hg => ?_, fun k hk => ?_⟩
        all_goals first | (rw [eM _ _ (by rfl) (by omega)]; assumption) | skip
        · obtain ⟨x1, x2, x3⟩ := k3 g hg
          exact ⟨by rw [eM _ _ (by rfl) (by omega)]; exact x1, by rw [eM _ _ (by rfl) (by omega)]; exact x2, by rw [eM _ _ (by rfl) (by omega)]; exact x3⟩
        · rw [eM _ _ (by rfl) (by omega)]
          exact k4 k hk
      exact this.rw V fun i h1 h2 h3 => row0 i h1 h2 (by omega)
    · have eM : ∀ j i, ¬ (j = 7 ∨ j = 8) → M 1 j i = μ 1 j i := fun j i h => by rw [M0 1 j i (by omega), F4 1 j i (by omega) (by omega) (by omega)]
      have : BKr (M 1) (μ 0 13) := by
        obtain ⟨y1, ny, y2, y3, y4⟩ := H1.2.2.1
        exact ⟨by rw [eM _ _ (by omega)]; exact y1, ny, y2, by rw [eM _ _ (by omega)]; exact y3, fun ago ha w hw => by rw [eM _ _ (by omega)]; exact y4 ago ha w hw⟩
      exact this.rw V fun i h1 h3 => row0 i (by omega) (by omega) (by omega)
    · refine ⟨by rw [M0 1 7 4 (by omega), d74, row1], fun _ => ⟨c.length, r3, by rw [M0 1 7 2 (by omega), d72], ?_⟩⟩
      exact evc_of r3 r8 fun j hj => by rw [M0 1 8 j (by omega), d8 j hj]
    · intro _ y y1 y2 y3 y4 y5 y6 y7 y8
      have RSy : RS b t y 0 0 0 := by
        refine ⟨⟨t1, by rw [y3, row2], .inr ⟨y2, fun i hi => ?_⟩, hbt⟩, Nat.zero_le _, y4, rfl, y6, y5, y7, y8⟩
        rw [y1 _ (by omega) (by omega), rowt i hi]
      obtain ⟨y', gy, z1, z2, z3, z4, z5⟩ := r9 _ _ RSy
      refine ⟨_, y', z1, ?_, z4⟩
      rw [z3]
      congr 1
      have := z5 0
      unfold lev
      rw [this]
      exact (Int32.zero_add _).symm
    · rw [M0 0 9 1 (by omega), F4 0 9 1 (by omega) (by omega) (by omega), q3]
    · rw [M0 0 9 2 (by omega), d92]
      rfl
    · rw [m6]
      rfl
    · rw [M0 0 1 1 (by omega), d11]
      rfl
    · rw [m8]
      rfl
    · rw [M0 0 0 10 (by omega), d10, m12]
    · have e14 : M 0 14 = μ 0 14 := funext fun i => by rw [M0 0 14 i (by omega), F4 0 14 i (by omega) (by omega) (by omega)]
      have e3 : M 3 = μ 3 := funext fun j => funext fun i => by rw [M0 3 j i (by omega), F4 3 j i (by omega) (by omega) (by omega)]
      rw [M0 0 0 9 (by omega), F4 0 0 9 (by omega) (by omega) (by omega), M0 0 12 3 (by omega), F4 0 12 3 (by omega) (by omega) (by omega), e14, e3]
      exact h5
    · obtain ⟨⟨z1, z2⟩, z3, z4⟩ := bqx
      exact ⟨⟨z1, by rw [M0 0 12 15 (by omega)]; exact z2⟩, z3, by rw [M0 0 12 16 (by omega)]; exact z4⟩
