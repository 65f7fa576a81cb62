/-! ===== a guest more; a house's reader: steps ===== -/
theorem hc_fresh {c : Nat → Nat → Int32} {r : Row} (H : HC c r) {n w : Nat} (hn : n = nv r 3) (hw : w < 5) (v : Int32) : HC c (upd r (24 + 5 * n + w) v) := by
  have e3 : nv (upd r (24 + 5 * n + w) v) 3 = nv r 3 := nv_ne (by omega)
  refine ⟨hc_lo H (by omega) fun j hj k _ => rfl, ?_, ?_, fun g hg => ?_, fun k hk => ?_⟩
  · rw [H.2.1, e3]
    congr 1
    refine mk_cg fun g hg => ?_
    unfold kyB
    rw [upd_ne (by omega)]
  · rw [H.2.2.1, e3]
    congr 1
    refine mk_cg fun g hg => ?_
    unfold hrB
    rw [upd_ne (by omega)]
  · rw [e3] at hg
    rw [upd_ne (by omega), upd_ne (by omega), upd_ne (by omega)]
    exact H.2.2.2.1 g hg
  · by_cases hb : 16 + k = 24 + 5 * n + w
    · omega
    · rw [upd_ne hb]
      exact H.2.2.2.2 k hk
theorem hv_fresh {ev : Row → Int32} {c : Nat → Nat → Int32} {r : Row} (H : HV ev c r) {n w : Nat} (hn : n = nv r 3) (h8 : n < 8) (hw : w < 5) {v : Int32} (hv : Nb v (bdg w)) : HV ev c (upd r (24 + 5 * n + w) v) :=
  hv_up H (by omega) (fun _ => by rw [(okg n h8 w hw).2]; exact hv) (fun _ _ _ => rfl) (hc_fresh H.2.1 hn hw v)
def addR (r : Row) (n : Nat) (o w d k : Int32) : Row := upd (upd (upd (upd (upd (upd r (24 + 5 * n + 0) o) (24 + 5 * n + 1) w) (24 + 5 * n + 2) d) (24 + 5 * n + 3) k) (24 + 5 * n + 4) 1) 3 (Int32.ofNat (n + 1))
theorem hv_add {ev : Row → Int32} {c c' : Nat → Nat → Int32} {r : Row} (H : HV ev c r) {n : Nat} (hn : n = nv r 3) (h8 : n < 8) {o w d : Int32} {k : Bool} (ho : Nb o 7) (hw : Nb w 10) (hd : Nb d 99) (c2 : c' 2 n = o) (c3 : c' 3 n = w) (c4 : c' 4 n = d) (c14 : c' 1 4 = Int32.ofNat (stb (mk n (kyB r)) n k)) (c15 : c' 1 5 = Int32.ofNat (stb (mk n (hrB r)) n true)) (c13 : c' 1 3 = Int32.ofNat (n + 1)) (hc : ∀ j i, ¬ ((j = 2 ∨ j = 3 ∨ j = 4) ∧ i = n ∨ j = 1 ∧ (i = 3 ∨ i = 4 ∨ i = 5)) → c' j i = c j i) : HV ev c' (addR r n o w d (bI k)) := by
  have n1 : ∀ (r : Row) (w : Nat) (v : Int32), nv (upd r (24 + 5 * n + w) v) 3 = nv r 3 := fun r w v => nv_ne (by omega)
  have H1 := hv_fresh H hn h8 (show 0 < 5 by decide) ho
  have H2 := hv_fresh H1 (by rw [n1]; exact hn) h8 (show 1 < 5 by decide) hw
  have H3 := hv_fresh H2 (by rw [n1, n1]; exact hn) h8 (show 2 < 5 by decide) hd
  have H4 := hv_fresh H3 (by rw [n1, n1, n1]; exact hn) h8 (show 3 < 5 by decide) (Nb.bI k)
  have H5 := hv_fresh H4 (by rw [n1, n1, n1, n1]; exact hn) h8 (show 4 < 5 by decide) (v := 1) ⟨1, by decide, rfl⟩
  unfold addR
  have e5 : ∀ i, i < 24 + 5 * n → (upd (upd (upd (upd (upd r (24 + 5 * n + 0) o) (24 + 5 * n + 1) w) (24 + 5 * n + 2) d) (24 + 5 * n + 3) (bI k)) (24 + 5 * n + 4) 1) i = r i := fun i hi => by
    rw [upd_ne (by omega), upd_ne (by omega), upd_ne (by omega), upd_ne (by omega), upd_ne (by omega)]
  have g0 : (upd (upd (upd (upd (upd r (24 + 5 * n + 0) o) (24 + 5 * n + 1) w) (24 + 5 * n + 2) d) (24 + 5 * n + 3) (bI k)) (24 + 5 * n + 4) 1) (24 + 5 * n) = o := by
    rw [upd_ne (by omega), upd_ne (by omega), upd_ne (by omega), upd_ne (by omega)]
    exact upd_at _ _ _
  have g1 : (upd (upd (upd (upd (upd r (24 + 5 * n + 0) o) (24 + 5 * n + 1) w) (24 + 5 * n + 2) d) (24 + 5 * n + 3) (bI k)) (24 + 5 * n + 4) 1) (24 + 5 * n + 1) = w := by
    rw [upd_ne (by omega), upd_ne (by omega), upd_ne (by omega), upd_at]
  have g2 : (upd (upd (upd (upd (upd r (24 + 5 * n + 0) o) (24 + 5 * n + 1) w) (24 + 5 * n + 2) d) (24 + 5 * n + 3) (bI k)) (24 + 5 * n + 4) 1) (24 + 5 * n + 2) = d := by
    rw [upd_ne (by omega), upd_ne (by omega), upd_at]
  have g3 : (upd (upd (upd (upd (upd r (24 + 5 * n + 0) o) (24 + 5 * n + 1) w) (24 + 5 * n + 2) d) (24 + 5 * n + 3) (bI k)) (24 + 5 * n + 4) 1) (24 + 5 * n + 3) = bI k := by
    rw [upd_ne (by omega), upd_at]
  have g4 : (upd (upd (upd (upd (upd r (24 + 5 * n + 0) o) (24 + 5 * n + 1) w) (24 + 5 * n + 2) d) (24 + 5 * n + 3) (bI k)) (24 + 5 * n + 4) 1) (24 + 5 * n + 4) = 1 := upd_at _ _ _
  generalize (upd (upd (upd (upd (upd r (24 + 5 * n + 0) o) (24 + 5 * n + 1) w) (24 + 5 * n + 2) d) (24 + 5 * n + 3) (bI k)) (24 + 5 * n + 4) 1) = r5 at H5 e5 g0 g1 g2 g3 g4
  refine hv_up H5 (by decide) (fun _ => ⟨n + 1, by show n + 1 ≤ 8; omega, rfl⟩) (fun j i h => hc j i (by omega)) ?_
  have e3 : nv (upd r5 3 (Int32.ofNat (n + 1))) 3 = n + 1 := by
    unfold nv
    rw [upd_at, on_t (by omega)]
  obtain ⟨⟨b1, b2, b3, b4, b5, b6, b7, b8, b9, b10, b11, b12, b13⟩, k1, k2, k3, k4⟩ := H.2.1
  have x : ∀ i, i < 24 → i ≠ 3 → upd r5 3 (Int32.ofNat (n + 1)) i = r i := fun i h1 h2 => by rw [upd_ne h2, e5 i (by omega)]
  refine ⟨⟨?_, ?_, ?_, ?_, ?_, ?_, ?_, ?_, ?_, ?_, ?_, ?_, ?_⟩, ?_, ?_, fun g hg => ?_, fun k hk => ?_⟩
  all_goals first | (rw [hc _ _ (by omega), x _ (by decide) (by decide)]; assumption) | skip
  · rw [c13, upd_at]
  · rw [c14, e3]
    have p1 : mk n (kyB r) = mk n (kyB (upd r5 3 (Int32.ofNat (n + 1)))) := mk_cg fun g hg => by
      unfold kyB
      rw [upd_ne (by omega), e5 _ (by omega)]
    have p2 : k = kyB (upd r5 3 (Int32.ofNat (n + 1))) n := by
      unfold kyB
      rw [upd_ne (by omega), g3]
      cases k <;> rfl
    have := stb_mk h8 (kyB (upd r5 3 (Int32.ofNat (n + 1))))
    rw [← p1, ← p2] at this
    rw [this]
  · rw [c15, e3]
    have p1 : mk n (hrB r) = mk n (hrB (upd r5 3 (Int32.ofNat (n + 1)))) := mk_cg fun g hg => by
      unfold hrB
      rw [upd_ne (by omega), e5 _ (by omega)]
    have p2 : true = hrB (upd r5 3 (Int32.ofNat (n + 1))) n := by
      unfold hrB
      rw [upd_ne (by omega), g4]
      rfl
    have := stb_mk h8 (hrB (upd r5 3 (Int32.ofNat (n + 1))))
    rw [← p1, ← p2] at this
    rw [this]
  · rw [e3] at hg
    by_cases h : g = n
    · subst h
      rw [upd_ne (by omega), upd_ne (by omega), upd_ne (by omega)]
      exact ⟨c2.trans g0.symm, c3.trans g1.symm, c4.trans g2.symm⟩
    · rw [upd_ne (by omega), upd_ne (by omega), upd_ne (by omega), e5 _ (by omega), e5 _ (by omega), e5 _ (by omega), hc _ _ (by omega), hc _ _ (by omega), hc _ _ (by omega)]
      exact k3 g (by omega)
  · rw [hc _ _ (by omega), x _ (by omega) (by omega)]
    exact k4 k hk
theorem c_addG {ev : Row → Int32} {h : Nat} {μ : Mem} {r : Row} (H : HV ev (μ (h + 1)) r) {n : Nat} (hn : n = nv r 3) (h8 : n < 8) {o w d : Int32} {k : Bool} (ho : Nb o 7) (hw : Nb w 10) (hd : Nb d 99) : ∃ μ', f_X1_add h μ o w d (bI k) = some μ' ∧ HV ev (μ' (h + 1)) (addR r n o w d (bI k)) ∧ ∀ g, g ≠ h + 1 → μ' g = μ g := by
  have e13 : μ (h + 1) 1 3 = Int32.ofNat n := by rw [H.2.1.cnt, H.1.e3, hn]
  have e14 : μ (h + 1) 1 4 = Int32.ofNat (mk n (kyB r)) := by rw [H.2.1.ky, hn]
  have e15 : μ (h + 1) 1 5 = Int32.ofNat (mk n (hrB r)) := by rw [H.2.1.hr, hn]
  have w1 := wm_b _ (mk_256 (kyB r) (show n ≤ 8 by omega)) n h8 k
  have w2 := wm_b _ (mk_256 (hrB r) (show n ≤ 8 by omega)) n h8 true
  refine ⟨upm (upm (upm (upm (upm (upm μ (h + 1) 2 n o) (h + 1) 3 n w) (h + 1) 4 n d) (h + 1) 1 4 (Int32.ofNat (stb (mk n (kyB r)) n k))) (h + 1) 1 5 (Int32.ofNat (stb (mk n (hrB r)) n true))) (h + 1) 1 3 (Int32.ofNat (n + 1)), ?_, ?_, fun g hg => ?_⟩
  · unfold f_X1_add
    rw [e13, show (0 : Int32) = Int32.ofNat 0 from rfl, if_neg (by rw [on_lt (by omega) (by decide)]; omega), show (8 : Int32) = Int32.ofNat 8 from rfl, if_pos (by rw [on_lt (by omega) (by decide)]; exact h8), ix_on h8 (by decide), on_t (by omega), nm_q, upm_ne (by omega), e13, ix_on h8 (by decide), on_t (by omega), nm_q, upm_ne (by omega), upm_ne (by omega), e13, ix_on h8 (by decide), on_t (by omega), nm_q, upm_ne (by omega), upm_ne (by omega), upm_ne (by omega), e14, e13, w1, bs_q, nm_q]
    simp (disch := omega) only [upm_n3, e13, e15]
    rw [show (1 : Int32) = bI true from rfl, w2, bs_q, nm_q]
    simp (disch := omega) only [upm_n3, e13]
    rw [show bI true = Int32.ofNat 1 from rfl, on_a, nm_q]
  · refine hv_add H hn h8 ho hw hd ?_ ?_ ?_ ?_ ?_ ?_ fun j i hji => ?_
    · rw [upm_ne (by omega), upm_ne (by omega), upm_ne (by omega), upm_ne (by omega), upm_ne (by omega), upm_at]
    · rw [upm_ne (by omega), upm_ne (by omega), upm_ne (by omega), upm_ne (by omega), upm_at]
    · rw [upm_ne (by omega), upm_ne (by omega), upm_ne (by omega), upm_at]
    · rw [upm_n3 (by omega), upm_n3 (by omega), upm_at]
    · rw [upm_n3 (by omega), upm_at]
    · rw [upm_at]
    · rw [upm_n3 (by omega), upm_n3 (by omega), upm_n3 (by omega), upm_n3 (by omega), upm_n3 (by omega), upm_n3 (by omega)]
  · rw [upm_ng hg, upm_ng hg, upm_ng hg, upm_ng hg, upm_ng hg, upm_ng hg]
