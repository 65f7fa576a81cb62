/-! ===== a day: what it makes of a row; the class's day ===== -/
def tdS (ev : Row → Int32) (r : Row) (g : Nat) : Row := upd r (24 + 5 * g + 2) (jmax 0 (jmin 99 (r (24 + 5 * g + 2) + tnS ev r g)))
def tdA (ev : Row → Int32) (p : Nat → Bool) (r : Row) : Nat → Row
  | 0 => r
  | k + 1 => if p k = true then tdS ev (tdA ev p r k) k else tdA ev p r k
def drS (r : Row) : Int32 := 1103515245 * r 15 + 12345
def dvI (r : Row) : Int32 := jushr (drS r) 16 &&& 32767
def dvN (r : Row) : Nat := (dvI r).toNatClampNeg
def L1 (r : Row) : Row := fun i => if 68 ≤ i ∧ i < 304 then r (i - 4) else r i
def logR (r : Row) (g : Nat) : Row := upd (upd (upd (upd (upd (L1 r) 64 (r 10)) 65 (Int32.ofNat g)) 66 (r (24 + 5 * g))) 67 (r 4)) 14 (jmin 60 (r 14 + 1))
def looksR (r : Row) (g : Nat) : Row := logR (upd (upd r 11 (r 11 + 1)) (24 + 5 * g + 2) 99) g
def lkS (w : Nat) (r : Row) (g : Nat) : Row := if w.testBit g = true then (if rkN r g ≤ dvN r % 10 then upd r 15 (drS r) else looksR (upd r 15 (drS r)) g) else r
def lkA (w : Nat) (r : Row) : Nat → Row
  | 0 => r
  | k + 1 => lkS w (lkA w r k) k
def bdS (r : Row) : Row := upd (upd r 8 (jmin 9999 (r 8 + jmin (r 6) (r 7)))) 7 (r 7 - jmin (r 6) (r 7))
def brS (r : Row) : Row := if nv r 9 ≤ dvN r % 100 then upd r 15 (drS r) else upd (upd (upd r 15 (drS r)) 15 (drS (upd r 15 (drS r)))) (16 + dvN (upd r 15 (drS r)) % 8) (Int32.ofNat (nv r (16 + dvN (upd r 15 (drS r)) % 8) ||| 2 ^ ((dvN (upd r 15 (drS r)) % 8 + 1) % 8)))
def dyS (r : Row) : Row := upd r 10 (jmin 9999 (r 10 + 1))
def lkB2 (r : Row) : Row := if satI r (nv r 5) (r 10) = true then lkA (wt r (nv r 4)) r 8 else r
def dyF (ev : Row → Int32) (p : Nat → Bool) (r : Row) : Row := dyS (bdS (tdA ev p r 8))
def dyL (ev : Row → Int32) (r : Row) : Row := dyS (brS (bdS (lkB2 (tdA ev (hrC r) r 8))))
theorem clip99 (x : Int32) : Nb (jmax 0 (jmin 99 x)) 99 := by
  unfold jmin jmax
  by_cases h1 : x < (99 : Int32)
  · rw [if_pos h1]
    by_cases h2 : (0 : Int32) < x
    · rw [if_pos h2]
      obtain ⟨k, hk, e⟩ := nat_of (m := 99) (fun h => absurd (Int32.lt_trans h h2) Int32.lt_irrefl) (Int32.le_of_lt h1) (by decide)
      exact ⟨k, hk, e⟩
    · rw [if_neg h2]
      exact ⟨0, Nat.zero_le _, rfl⟩
  · rw [if_neg h1]
    exact ⟨99, Nat.le_refl _, rfl⟩
theorem tdS_hv {ev : Row → Int32} {c c' : Nat → Nat → Int32} {r : Row} {g : Nat} (hg : g < nv r 3) (H : HV ev c r) (h0 : c' 4 g = jmax 0 (jmin 99 (r (24 + 5 * g + 2) + tnS ev r g))) (hc : ∀ j i, scH j i = false → ¬ (j = 4 ∧ i = g) → c' j i = c j i) : HV ev c' (tdS ev r g) := by
  have h8 := H.1.c8
  have hg8 : g < 8 := by omega
  have key : HV ev (fun j i => if j = 4 ∧ i = g then jmax 0 (jmin 99 (r (24 + 5 * g + 2) + tnS ev r g)) else c j i) (tdS ev r g) := by
    refine hv_up H (by omega) (fun _ => by rw [(okg g hg8 2 (by decide)).2]; exact clip99 _) (fun j k h => if_neg (by omega)) (hc_gw (Or.inr ⟨rfl, rfl⟩) H.2.1 (if_pos ⟨rfl, rfl⟩) (fun j i h => if_neg h))
  refine key.cg fun j i hs => ?_
  by_cases h : j = 4 ∧ i = g
  · rw [if_pos h, h.1, h.2, h0]
  · rw [if_neg h]
    exact hc j i hs h
theorem tdS_ne {ev : Row → Int32} {r : Row} {g i : Nat} (h : i ≠ 24 + 5 * g + 2) : tdS ev r g i = r i := upd_ne h
theorem tdA_ne {ev : Row → Int32} {p : Nat → Bool} {r : Row} {i : Nat} (k : Nat) (h : ∀ g, g < k → i ≠ 24 + 5 * g + 2) : tdA ev p r k i = r i := by
  induction k with
  | zero => rfl
  | succ k ih =>
    show (if p k = true then tdS ev (tdA ev p r k) k else tdA ev p r k) i = r i
    split
    · rw [tdS_ne (h k (by omega))]
      exact ih fun g hg => h g (by omega)
    · exact ih fun g hg => h g (by omega)
theorem nv_tdA {ev : Row → Int32} {p : Nat → Bool} {r : Row} {i : Nat} (k : Nat) (h : ∀ g, g < k → i ≠ 24 + 5 * g + 2) : nv (tdA ev p r k) i = nv r i := by
  unfold nv
  rw [tdA_ne k h]
theorem hr_tdA {ev : Row → Int32} {p : Nat → Bool} {r : Row} (k : Nat) : hrB (tdA ev p r k) = hrB r := funext fun g => by
  unfold hrB
  rw [tdA_ne k fun g' _ => by omega]
theorem c_turnDoubts {ev : Row → Int32} {h : Nat} {μ : Mem} {r : Row} (H : HV ev (μ (h + 1)) r) {a : Nat} (ha : a < 256) (hb : ∀ g, g < 8 → a.testBit g = true → g < nv r 3) : ∃ μ', f_X2_turnDoubts h μ (Int32.ofNat a) = some μ' ∧ HV ev (μ' (h + 1)) (tdA ev a.testBit r 8) ∧ ∀ g', g' ≠ h + 1 → μ' g' = μ g' := by
  unfold f_X2_turnDoubts
  refine lpP (fun n (s : Int32 × Mem) => lp_X2_turnDoubts_2 (Int32.ofNat a) h n s.1 s.2) (fun o => ∃ μ', o = some μ' ∧ HV ev (μ' (h + 1)) (tdA ev a.testBit r 8) ∧ ∀ g', g' ≠ h + 1 → μ' g' = μ g') (fun k s => s.1 = Int32.ofNat k ∧ HV ev (s.2 (h + 1)) (tdA ev a.testBit r k) ∧ ∀ g', g' ≠ h + 1 → s.2 g' = μ g') 8 ?_ 4096 (0, μ) (by decide) ⟨rfl, H, fun _ _ => rfl⟩
  rintro k ⟨x, ν⟩ hk ⟨hx, hI, hF⟩ n
  simp only at hx hI hF
  subst hx
  by_cases h8 : k = 8
  · left
    subst h8
    refine ⟨ν, ?_, hI, hF⟩
    show lp_X2_turnDoubts_2 _ _ _ _ _ = _
    rw [lp_X2_turnDoubts_2, if_pos (show (8 : Int32) ≤ Int32.ofNat 8 by decide)]
  · right
    have hk8 : k < 8 := by omega
    refine ⟨hk8, ?_⟩
    by_cases h1 : a.testBit k = true
    · have hg : k < nv (tdA ev a.testBit r k) 3 := by
        rw [nv_tdA k fun g _ => by omega]
        exact hb k hk8 h1
      obtain ⟨ν2, m1, m2, m3⟩ := c_turns hI hg
      have e4 := (hI.2.1.g hg).2.2
      refine ⟨(Int32.ofNat (k + 1), upm ν2 (h + 1) 4 k (jmax 0 (jmin 99 (tdA ev a.testBit r k (24 + 5 * k + 2) + tnS ev (tdA ev a.testBit r k) k)))), ⟨rfl, ?_, fun g' hg' => ?_⟩, ?_⟩
      · show HV ev _ (if a.testBit k = true then tdS ev (tdA ev a.testBit r k) k else tdA ev a.testBit r k)
        rw [if_pos h1]
        refine tdS_hv hg hI (upm_at _ _ _ _ _) fun j i hs hn => ?_
        show upm ν2 (h + 1) 4 k _ (h + 1) j i = _
        rw [upm_n3 (by omega), m3 j i hs]
      · show upm ν2 (h + 1) 4 k _ g' = _
        rw [upm_ng hg', m2 g' hg', hF g' hg']
      · show lp_X2_turnDoubts_2 _ _ _ _ _ = lp_X2_turnDoubts_2 _ _ _ _ _
        simp (disch := omega) only [lp_X2_turnDoubts_2, hold_b a ha k hk8, h1, c_doubt hk8, m1, e4, f_X1_setDoubt, c_isNum hk8, nm_q, bs_q, on_a, on_m, on_t, ix_on, le_t, le_f, lt_t, lt_f, eq_t, eq_f, ite_b0, ite_b1, ↓reduceIte, i_0, i_1, i_2, i_3, i_4, i_5, i_6, i_7, i_8, i_9, i_10, i_11, i_12, i_13, i_14, i_15, i_16, i_18, i_20, i_22, i_24, i_30, i_31, i_32, i_40, i_48, i_50, i_51, i_52, i_57, i_60, i_64, i_65, i_66, i_67, i_97, i_99, i_100, i_122, i_239, i_240, i_255, i_256, i_304, i_400, i_401, i_704, i_999, i_1000, i_2304, i_3344, i_3648, i_4096, i_9999, i_32767]
    · refine ⟨(Int32.ofNat (k + 1), ν), ⟨rfl, ?_, hF⟩, ?_⟩
      · show HV ev _ (if a.testBit k = true then tdS ev (tdA ev a.testBit r k) k else tdA ev a.testBit r k)
        rw [if_neg h1]
        exact hI
      · show lp_X2_turnDoubts_2 _ _ _ _ _ = lp_X2_turnDoubts_2 _ _ _ _ _
        simp (disch := omega) only [lp_X2_turnDoubts_2, hold_b a ha k hk8, h1, nm_q, bs_q, on_a, on_m, on_t, ix_on, le_t, le_f, lt_t, lt_f, eq_t, eq_f, ite_b0, ite_b1, ↓reduceIte, i_0, i_1, i_2, i_3, i_4, i_5, i_6, i_7, i_8, i_9, i_10, i_11, i_12, i_13, i_14, i_15, i_16, i_18, i_20, i_22, i_24, i_30, i_31, i_32, i_40, i_48, i_50, i_51, i_52, i_57, i_60, i_64, i_65, i_66, i_67, i_97, i_99, i_100, i_122, i_239, i_240, i_255, i_256, i_304, i_400, i_401, i_704, i_999, i_1000, i_2304, i_3344, i_3648, i_4096, i_9999, i_32767]
        rw [if_neg (by decide)]
theorem dv_b (x : Int32) : ∃ d : Nat, d ≤ 32767 ∧ x &&& 32767 = Int32.ofNat d := by
  refine ⟨(x.toBitVec &&& 32767#32).toNat, ?_, ?_⟩
  · rw [BitVec.toNat_and]
    exact Nat.le_trans Nat.and_le_right (by decide)
  · apply Int32.toBitVec_inj.mp
    rw [Int32.toBitVec_and]
    show x.toBitVec &&& 32767#32 = BitVec.ofNat 32 (x.toBitVec &&& 32767#32).toNat
    rw [BitVec.ofNat_toNat, BitVec.setWidth_eq]
theorem dv_e (r : Row) : dvI r = Int32.ofNat (dvN r) ∧ dvN r ≤ 32767 := by
  obtain ⟨d, hd, e⟩ := dv_b (jushr (drS r) 16)
  unfold dvN
  have e2 : dvI r = Int32.ofNat d := e
  rw [e2, on_t (by omega)]
  exact ⟨rfl, hd⟩
/-- a cell of a house's scalars told anew, at any place of the memory -/
theorem sc_up {ev : Row → Int32} {h : Nat} {μ : Mem} {r : Row} {ci ri : Nat} {v : Int32} (H : HV ev (μ (h + 1)) r) (hm : (ci, ri) ∈ SCL) (hv : okI ri = true → Nb v (bd ri)) : HV ev ((upm μ (h + 1) 0 ci v) (h + 1)) (upd r ri v) :=
  setc_cl H hm hv (upm_at _ _ _ _ _) fun j i hn => upm_n3 (by omega)
theorem c_draw {ev : Row → Int32} {h : Nat} {μ : Mem} {r : Row} (H : HV ev (μ (h + 1)) r) : f_X2_draw h μ = some (Int32.ofNat (dvN r), upm μ (h + 1) 0 15 (drS r)) ∧ HV ev ((upm μ (h + 1) 0 15 (drS r)) (h + 1)) (upd r 15 (drS r)) := by
  refine ⟨?_, sc_up H (by decide) fun h => by cases h⟩
  unfold f_X2_draw
  rw [H.2.1.seed, nm_q, upm_at, ← (dv_e r).1]
  rfl
theorem rk_15 (r : Row) (v : Int32) (g : Nat) : rkN (upd r 15 v) g = rkN r g := by
  unfold rkN
  rw [nv_ne (by omega), nv_ne (by omega)]
theorem L1_ne {r : Row} {i : Nat} (h : ¬ (68 ≤ i ∧ i < 304)) : L1 r i = r i := if_neg h
theorem L1_in {r : Row} {i : Nat} (h : 68 ≤ i ∧ i < 304) : L1 r i = r (i - 4) := if_pos h
theorem hv_log {ev : Row → Int32} {c c' : Nat → Nat → Int32} {r : Row} {g nx : Nat} (H : HV ev c r) (hg : g < nv r 3) (hnx : nx < 60) (hn2 : c 5 2 = Int32.ofNat nx) (k0 : c' 6 (nx * 4) = r 10) (k1 : c' 6 (nx * 4 + 1) = Int32.ofNat g) (k2 : c' 6 (nx * 4 + 2) = r (24 + 5 * g)) (k3 : c' 6 (nx * 4 + 3) = r 4) (k4 : c' 5 2 = Int32.ofNat ((nx + 1) % 60)) (k5 : c' 5 1 = jmin 60 (r 14 + 1)) (kc : ∀ i, ¬ (nx * 4 ≤ i ∧ i < nx * 4 + 4) → c' 6 i = c 6 i) (hc : ∀ j, j ≠ 5 → j ≠ 6 → c' j = c j) : HV ev c' (logR r g) := by
  have V := H.1
  have hl := lg_b V
  have hlo : ∀ i, i < 64 → i ≠ 14 → logR r g i = r i := fun i h1 h2 => by
    unfold logR
    rw [upd_ne (by omega), upd_ne (by omega), upd_ne (by omega), upd_ne (by omega), upd_ne (by omega), L1_ne (by omega)]
  have hhi : ∀ i, 304 ≤ i → logR r g i = r i := fun i h1 => by
    unfold logR
    rw [upd_ne (by omega), upd_ne (by omega), upd_ne (by omega), upd_ne (by omega), upd_ne (by omega), L1_ne (by omega)]
  have h14 : logR r g 14 = Int32.ofNat (min 60 (nv r 14 + 1)) := by
    unfold logR
    rw [upd_at, hl.1, show (1 : Int32) = Int32.ofNat 1 from rfl, on_a, show (60 : Int32) = Int32.ofNat 60 from rfl, on_min (by decide) (by omega)]
  have hnlo : ∀ i, i < 64 → i ≠ 14 → nv (logR r g) i = nv r i := fun i h1 h2 => by unfold nv; rw [hlo i h1 h2]
  have hn14 : nv (logR r g) 14 = min 60 (nv r 14 + 1) := by
    unfold nv at hl ⊢
    rw [h14, on_t (by omega)]
    rfl
  refine ⟨fun i hi => ?_, ?_, ?_, ?_, ?_⟩
  · by_cases e : i = 14
    · subst e
      rw [h14]
      exact ⟨_, Nat.min_le_left _ _, rfl⟩
    · by_cases e2 : i < 64
      · rw [hlo i e2 e]
        exact V i hi
      · have : 304 ≤ i := by
          unfold okI at hi
          simp only [Bool.and_eq_true, Bool.or_eq_true, decide_eq_true_eq] at hi
          omega
        rw [hhi i this]
        exact V i hi
  · obtain ⟨⟨b1, b2, b3, b4, b5, b6, b7, b8, b9, b10, b11, b12, b13⟩, q1, q2, q3, q4⟩ := H.2.1
    have h8 := V.c8
    have ek : ∀ g', g' < 8 → kyB (logR r g) g' = kyB r g' := fun g' h => by unfold kyB; rw [hlo _ (by omega) (by omega)]
    have eh : ∀ g', g' < 8 → hrB (logR r g) g' = hrB r g' := fun g' h => by unfold hrB; rw [hlo _ (by omega) (by omega)]
    refine ⟨⟨?_, ?_, ?_, ?_, ?_, ?_, ?_, ?_, ?_, ?_, ?_, ?_, ?_⟩, ?_, ?_, fun g' hg' => ?_, fun k hk => ?_⟩
    all_goals first | (rw [hc _ (by decide) (by decide), hlo _ (by decide) (by decide)]; assumption) | skip
    · rw [hc 1 (by decide) (by decide), hnlo 3 (by decide) (by decide), q1, mk_cg fun k hk => ek k (by omega)]
    · rw [hc 1 (by decide) (by decide), hnlo 3 (by decide) (by decide), q2, mk_cg fun k hk => eh k (by omega)]
    · rw [hnlo 3 (by decide) (by decide)] at hg'
      rw [hc 2 (by decide) (by decide), hc 3 (by decide) (by decide), hc 4 (by decide) (by decide), hlo _ (by omega) (by omega), hlo _ (by omega) (by omega), hlo _ (by omega) (by omega)]
      exact q3 g' hg'
    · rw [hc 10 (by decide) (by decide), hlo _ (by omega) (by omega)]
      exact q4 k hk
  · obtain ⟨b1, nx', b2, b3, b4⟩ := H.2.2.1
    have en : nx' = nx := by
      rw [b3] at hn2
      have := congrArg Int32.toNatClampNeg hn2
      rwa [on_t (by omega), on_t (by omega)] at this
    subst en
    refine ⟨by rw [k5, h14, hl.1, show (1 : Int32) = Int32.ofNat 1 from rfl, on_a, show (60 : Int32) = Int32.ofNat 60 from rfl, on_min (by decide) (by omega)], (nx' + 1) % 60, Nat.mod_lt _ (by decide), k4, fun ago ha w hw => ?_⟩
    rw [hn14] at ha
    by_cases h0 : ago = 0
    · subst h0
      have e : ((nx' + 1) % 60 + 59 - 0) % 60 * 4 = nx' * 4 := by omega
      rw [e]
      rcases (show w = 0 ∨ w = 1 ∨ w = 2 ∨ w = 3 by omega) with rfl | rfl | rfl | rfl
      · rw [show nx' * 4 + 0 = nx' * 4 from rfl, k0]
        unfold logR
        rw [upd_ne (by decide), upd_ne (by decide), upd_ne (by decide), upd_ne (by decide), upd_at]
      · rw [k1]
        unfold logR
        rw [upd_ne (by decide), upd_ne (by decide), upd_ne (by decide), upd_at]
      · rw [k2]
        unfold logR
        rw [upd_ne (by decide), upd_ne (by decide), upd_at]
      · rw [k3]
        unfold logR
        rw [upd_ne (by decide), upd_at]
    · have e : ((nx' + 1) % 60 + 59 - ago) % 60 = (nx' + 59 - (ago - 1)) % 60 := by omega
      have hm : (nx' + 59 - (ago - 1)) % 60 < 60 := Nat.mod_lt _ (by decide)
      have hne : (nx' + 59 - (ago - 1)) % 60 ≠ nx' := by omega
      rw [e, kc _ (by omega), b4 (ago - 1) (by omega) w hw]
      unfold logR
      rw [upd_ne (by omega), upd_ne (by omega), upd_ne (by omega), upd_ne (by omega), upd_ne (by omega), L1_in (by omega)]
      exact congrArg r (by omega)
  · obtain ⟨b1, b2⟩ := H.2.2.2.1
    refine ⟨by rw [hc 7 (by decide) (by decide), hlo 1 (by decide) (by decide)]; exact b1, fun hn => ?_⟩
    rw [hlo 1 (by decide) (by decide)] at hn
    obtain ⟨len, d1, d2, d3⟩ := b2 hn
    exact ⟨len, d1, by rw [hc 7 (by decide) (by decide)]; exact d2, by rw [hc 8 (by decide) (by decide)]; exact d3⟩
  · exact H.2.2.2.2.cg (hlo 1 (by decide) (by decide)) (hlo 2 (by decide) (by decide)) fun i h1 _ => hhi i h1
