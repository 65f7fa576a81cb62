/-! ===== a house's text, both at once: lines ===== -/
/-- a shift -/
def shE (x : Int32) (ν : Mem) : Option Mem := if (ν 0 12 12) = (-1) then (f_X10_tells ν (12 + x) 6) else (some ν)
theorem shift_both {ev : Row → Int32} {b : Nat → Nat} {t m : Nat} {μ : Mem} {k : Nat} {r : Row} (S : CH b t m μ k) (H : HV ev (μ 2) r) : OutG ev b t m μ k r ((f_X8_takeNumber μ (Int32.ofNat 1)).bind fun (q2 : Int32 × Mem) => if q2.1 = 0 then (some (0, q2.2)) else ((f_X8_takeNumber q2.2 (Int32.ofNat 6)).bind fun (q3 : Int32 × Mem) => if q3.1 = 0 then (some (0, q3.2)) else ((f_X2_setShift 1 q3.2 (q2.2 0 3 5) (q3.2 0 3 5)).bind fun (q4 : Mem) => some (1, q4)))) (fun ν => (f_X10_figures ν 0 (Int32.ofNat 1)).bind fun (q17 : Int32 × Mem) => shE q17.1 q17.2) := by
  refine OutG.num (F1 := shE) (G := fun M => (f_X8_takeNumber M (Int32.ofNat 6)).bind fun (q3 : Int32 × Mem) => if q3.1 = 0 then (some (0, q3.2)) else ((f_X2_setShift 1 q3.2 (M 0 3 5) (q3.2 0 3 5)).bind fun (q4 : Mem) => some (1, q4))) S (by decide) (fun v μ1 hv S1 f1 e2 e5 _ _ => ?_) (fun ν p R => rfl) (fun x ν Fν => ⟨ν, if_neg (fs_ne Fν S.1 S.2.1), Fν, rG.refl ν⟩)
  have H1 : HV ev (μ1 2) r := by
    rw [e2]
    exact H
  show OutG ev b t m μ1 (k + 1) r ((f_X8_takeNumber μ1 (Int32.ofNat 6)).bind fun (q3 : Int32 × Mem) => if q3.1 = 0 then (some (0, q3.2)) else ((f_X2_setShift 1 q3.2 (μ1 0 3 5) (q3.2 0 3 5)).bind fun (q4 : Mem) => some (1, q4))) (shE (Int32.ofNat v))
  rw [e5]
  have fin : ∀ (ci ri : Nat), (ci, ri) ∈ SCL → ri ≠ 0 → (okI ri = true → 6 ≤ bd ri) → (∀ μ2 : Mem, (f_X2_setShift 1 μ2 (Int32.ofNat v) (μ2 0 3 5)).bind (fun (q4 : Mem) => some ((1 : Int32), q4)) = some (1, upm μ2 2 0 ci (μ2 0 3 5))) → (12 + Int32.ofNat v = Int32.ofNat ri) → OutG ev b t m μ1 (k + 1) r ((f_X8_takeNumber μ1 (Int32.ofNat 6)).bind fun (q3 : Int32 × Mem) => if q3.1 = 0 then (some (0, q3.2)) else ((f_X2_setShift 1 q3.2 (Int32.ofNat v) (q3.2 0 3 5)).bind fun (q4 : Mem) => some (1, q4))) (shE (Int32.ofNat v)) := fun ci ri hm hr0 hb hG he => by
    refine OutG.cg (tell_both (G := fun M => (f_X2_setShift 1 M (Int32.ofNat v) (M 0 3 5)).bind fun (q4 : Mem) => some (1, q4)) S1 H1 (by decide) hm hr0 hb hG) fun ν p R er => ?_
    unfold shE
    rw [if_pos R.2.2.2.2.1, he]
    rfl
  by_cases h : v = 0
  · subst h
    exact fin 5 12 (by decide) (by decide) (fun _ => by decide) (fun μ2 => rfl) (by decide)
  · obtain rfl : v = 1 := by omega
    exact fin 6 13 (by decide) (by decide) (fun _ => by decide) (fun μ2 => rfl) (by decide)
/-- a hole -/
def hoS (a c : Int32) (μ4 : Mem) : Option Mem := if (μ4 0 12 12) = (-1) then (ix (16 + a) 704 (ix (16 + a) 704 (nm (upm μ4 0 13 (16 + a).toNatClampNeg ((μ4 0 13 (16 + a).toNatClampNeg) ||| (jshl 1 c))) fun (μ5 : Mem) => some μ5))) else (some μ4)
def hoE (a pl c : Int32) (ν : Mem) : Option Mem := if (ν 0 12 12) = (-1) then (if c = a then ((f_X10_wrong ν pl).bind fun (q6 : Mem) => hoS a c q6) else (hoS a c ν)) else (hoS a c ν)
def hoP (a : Int32) (ν : Mem) : Option Mem := (f_X10_place ν).bind fun (q2 : Int32 × Mem) => (f_X10_figures q2.2 0 (Int32.ofNat 7)).bind fun (q3 : Int32 × Mem) => hoE a q2.1 q3.1 q3.2
theorem holeLine_e (ν : Mem) : f_X10_holeLine ν = (f_X10_figures ν 0 (Int32.ofNat 7)).bind fun (q1 : Int32 × Mem) => hoP q1.1 q1.2 := rfl
theorem hoE_f {a pl c : Int32} {ν : Mem} (h : ¬ ν 0 12 12 = -1) : hoE a pl c ν = some ν := by
  unfold hoE hoS
  rw [if_neg h, if_neg h]
theorem hoE_t {a c : Nat} {pl : Int32} {ν : Mem} (h : ν 0 12 12 = -1) (ha : a < 8) (hc : c < 8) (hn : c ≠ a) : hoE (Int32.ofNat a) pl (Int32.ofNat c) ν = some (upm ν 0 13 (16 + a) (ν 0 13 (16 + a) ||| jshl 1 (Int32.ofNat c))) := by
  unfold hoE hoS
  rw [if_pos h, if_neg (by rw [on_eq (by omega) (by omega)]; exact hn), if_pos h, show (16 : Int32) = Int32.ofNat 16 from rfl, on_a, ix_on (by omega) (by decide), ix_on (by omega) (by decide), on_t (by omega), nm_q]
theorem hoE_s {a : Int32} {pl : Int32} {ν : Mem} (h : ν 0 12 12 = -1) (hp : ¬ pl = -1) : hoE a pl a ν = some (upm ν 0 12 12 pl) := by
  unfold hoE hoS
  rw [if_pos h, if_pos rfl, rs_wrong h, bs_q, if_neg (by rw [upm_at]; exact hp)]
theorem r_place {b : Nat → Nat} {t : Nat} {ν : Mem} {k p : Nat} (R : RS b t ν k p 0) : f_X10_place ν = some (Int32.ofNat (tk b t k), upm ν 0 12 11 (Int32.ofNat (tk b t k))) := by
  have hs := r_skip R.1 R.2.1 R.2.2.1
  rw [R.2.2.2.1] at hs
  unfold f_X10_place
  rw [hs, bs_q, upm_at]
theorem hole_both {ev : Row → Int32} {b : Nat → Nat} {t m : Nat} {μ : Mem} {k : Nat} {r : Row} (S : CH b t m μ k) (H : HV ev (μ 2) r) : OutG ev b t m μ k r ((f_X8_takeNumber μ (Int32.ofNat 7)).bind fun (q2 : Int32 × Mem) => if q2.1 = 0 then (some (0, q2.2)) else ((f_X8_takeNumber q2.2 (Int32.ofNat 7)).bind fun (q3 : Int32 × Mem) => if q3.1 = 0 then (some (0, q3.2)) else (if (q3.2 0 3 5) = (q2.2 0 3 5) then (nm (upm q3.2 0 3 4 (q2.2 0 3 4)) fun (μ4 : Mem) => some (0, μ4)) else ((f_X2_setHole 1 q3.2 (q2.2 0 3 5) (q3.2 0 3 5) 1).bind fun (q5 : Mem) => some (1, q5))))) f_X10_holeLine := by
  refine OutG.num (F1 := hoP) (G := fun M => (f_X8_takeNumber M (Int32.ofNat 7)).bind fun (q3 : Int32 × Mem) => if q3.1 = 0 then (some (0, q3.2)) else (if (q3.2 0 3 5) = (M 0 3 5) then (nm (upm q3.2 0 3 4 (M 0 3 4)) fun (μ4 : Mem) => some (0, μ4)) else ((f_X2_setHole 1 q3.2 (M 0 3 5) (q3.2 0 3 5) 1).bind fun (q5 : Mem) => some (1, q5)))) S (by decide) (fun v μ1 hv S1 f1 e2 e5 _ _ => ?_) (fun ν p R => holeLine_e ν) (fun x ν Fν => ?_)
  · have H1 : HV ev (μ1 2) r := by
      rw [e2]
      exact H
    have tl1 := tk_lt S1.1 S1.2.1
    refine OutG.pre (F1 := fun ν => (f_X10_figures ν 0 (Int32.ofNat 7)).bind fun (q3 : Int32 × Mem) => hoE (Int32.ofNat v) (Int32.ofNat (tk b t (k + 1))) q3.1 q3.2) ?_ (hF.refl μ1) fun ν p R er => ⟨upm ν 0 12 11 (Int32.ofNat (tk b t (k + 1))), _, ?_, R.stay, ?_, (rG.refl ν).upm _ (by omega)⟩
    · refine OutG.num (F1 := fun x ν => hoE (Int32.ofNat v) (Int32.ofNat (tk b t (k + 1))) x ν) (G := fun M => if (M 0 3 5) = (μ1 0 3 5) then (nm (upm M 0 3 4 (μ1 0 3 4)) fun (μ4 : Mem) => some (0, μ4)) else ((f_X2_setHole 1 M (μ1 0 3 5) (M 0 3 5) 1).bind fun (q5 : Mem) => some (1, q5))) S1 (by decide) (fun c μ2 hc S2 f2 g2 g5 _ hkd => ?_) (fun ν p R => rfl) (fun x ν Fν => ⟨ν, hoE_f (fs_ne Fν S1.1 S1.2.1), Fν, rG.refl ν⟩)
      have H2 : HV ev (μ2 2) r := by
        rw [g2]
        exact H1
      show OutG ev b t m μ2 (k + 1 + 1) r (if (μ2 0 3 5) = (μ1 0 3 5) then (nm (upm μ2 0 3 4 (μ1 0 3 4)) fun (μ4 : Mem) => some (0, μ4)) else ((f_X2_setHole 1 μ2 (μ1 0 3 5) (μ2 0 3 5) 1).bind fun (q5 : Mem) => some (1, q5))) (fun ν => hoE (Int32.ofNat v) (Int32.ofNat (tk b t (k + 1))) (Int32.ofNat c) ν)
      rw [g5, e5, S1.2.2]
      have t1 := S1.1.1
      by_cases h : c = v
      · subst h
        rw [if_pos rfl, nm_q]
        refine .inl ⟨k + 1, _, rfl, S1.2.1, upm_at _ _ _ _ _, fun g j i q1 q2 => upm_n3 (by omega), fun ν p R _ => ⟨_, hoE_s R.2.2.2.2.1 (by rw [show (-1 : Int32) = -Int32.ofNat 1 from rfl, on_neg1 (by omega)]; exact id), ⟨R.1.upm _ (by omega), upm_at _ _ _ _ _, p, ?_, ?_⟩, (rG.refl ν).upm _ (by omega)⟩⟩
        · have := R.2.1
          omega
        · rw [upm_n3 (by omega), R.2.2.1]
      · rw [if_neg (by rw [on_eq (by omega) (by omega)]; exact h)]
        have hb := H2.1.hb (show v < 8 by omega)
        have hv8 : v < 8 := by omega
        have hc8 : c < 8 := by omega
        have eho : μ2 2 10 v = Int32.ofNat (nv r (16 + v)) := by rw [H2.2.1.ho hv8, H2.1.he hv8]
        have hwm := wm_b _ hb c hc8 true
        have hor := or_b _ hb c hc8
        unfold stb at hwm
        rw [if_pos rfl, bI_t] at hwm
        have hs : (f_X2_setHole 1 μ2 (Int32.ofNat v) (Int32.ofNat c) 1).bind (fun (q5 : Mem) => some ((1 : Int32), q5)) = some (1, upm μ2 2 10 v (Int32.ofNat (nv r (16 + v) ||| 2 ^ c))) := by
          unfold f_X2_setHole
          rw [c_isRoom hv8, bs_q, if_neg (by decide), c_isRoom hc8, bs_q, if_neg (by decide), ix_on hv8 (by decide), on_t (by omega), show μ2 (1 + 1) 10 v = _ from eho, hwm, bs_q, ix_on hv8 (by decide), nm_q, bs_q]
        rw [hs]
        refine OutG.fin (r' := upd r (16 + v) (Int32.ofNat (nv r (16 + v) ||| 2 ^ c))) S2 (fun g hg => upm_ng hg) ?_ fun ν p R er => ⟨_, hoE_t R.2.2.2.2.1 hv8 hc8 h, ?_, fun g j i hn => upm_n3 (by omega)⟩
        · exact hv_up H2 (by omega) (fun _ => by rw [(okh v hv8).2]; exact ⟨_, Nat.le_of_lt_succ (or_256 hb (pow_256 hc8)), rfl⟩) (fun j k h => upm_n3 (by omega)) (hc_hole hv8 H2.2.1 (upm_at _ _ _ _ _) fun j i hn => upm_n3 (by omega))
        · rw [upm_row, er, H2.1.he hv8, show (1 : Int32) = Int32.ofNat 1 from rfl, hor]
    · show hoP (Int32.ofNat v) ν = _
      unfold hoP
      rw [r_place R, bs_q]
    · rw [upm_ne (by omega), er]
  · obtain ⟨p', g1, g2⟩ := fs_skip Fν
    have hne := fs_ne g2 S.1 S.2.1
    refine ⟨_, ?_, g2, (rG.refl ν).upm _ (by omega)⟩
    unfold hoP f_X10_place
    rw [g1, bs_q, bs_q]
    show (f_X10_figures (upm ν 0 12 11 (Int32.ofNat p')) 0 (Int32.ofNat 7)).bind _ = _
    rw [fig_f hne, bs_q, hoE_f hne]
/-! a guest -/
def gEnd (w o x4 x6 : Int32) (μ7 : Mem) : Option Mem := if (μ7 0 12 12) = (-1) then (ix 3 704 (nm (μ7 0 13 (Int32.toNatClampNeg 3)) fun (x8 : Int32) => (f_X10_put μ7 x8 0 o).bind fun (q9 : Mem) => (f_X10_put q9 x8 1 w).bind fun (q10 : Mem) => (f_X10_put q10 x8 2 x4).bind fun (q11 : Mem) => nm (fun (x12 : Int32) => (f_X10_put q11 x8 3 x12).bind fun (q13 : Mem) => (f_X10_put q13 x8 4 1).bind fun (q14 : Mem) => ix 3 704 (ix 3 704 (nm (upm q14 0 13 (Int32.toNatClampNeg 3) ((q14 0 13 (Int32.toNatClampNeg 3)) + 1)) fun (μ15 : Mem) => some μ15))) fun (J146 : Int32 → Option (Mem)) => if x6 = 0 then (J146 0) else (J146 1))) else (some μ7)
def gKey (w o x4 : Int32) (μ5 : Mem) : Option Mem := if (μ5 0 12 12) = (-1) then ((f_X10_has 48 μ5).bind fun (q17 : Int32 × Mem) => if q17.1 = 0 then (gEnd w o x4 0 q17.2) else (gEnd w o x4 1 q17.2)) else (gEnd w o x4 0 μ5)
def gDoubt (w o : Int32) (ν : Mem) : Option Mem := if (ν 0 12 12) = (-1) then ((f_X10_has 44 ν).bind fun (q19 : Int32 × Mem) => if q19.1 = 0 then (gKey w o 0 q19.2) else ((f_X10_figures q19.2 0 (Int32.ofNat 99)).bind fun (q20 : Int32 × Mem) => gKey w o q20.1 q20.2)) else (gKey w o 0 ν)
def gRoom (w : Int32) (ν : Mem) : Option Mem := (f_X10_after 59 ν 0 (Int32.ofNat 7)).bind fun (q3 : Int32 × Mem) => gDoubt w q3.1 q3.2
def gLine (ν : Mem) : Option Mem := (f_X10_after 52 ν 0 (Int32.ofNat 10)).bind fun (q2 : Int32 × Mem) => gRoom q2.1 q2.2
theorem guestLine_e (ν : Mem) (a1 : Int32) : f_X10_guestLine ν a1 = if ν 0 13 3 = Int32.ofNat 8 then (f_X10_wrong ν a1).bind gLine else gLine ν := rfl
theorem gEnd_f {w o x4 x6 : Int32} {ν : Mem} (h : ¬ ν 0 12 12 = -1) : gEnd w o x4 x6 ν = some ν := if_neg h
theorem gKey_f {w o x4 : Int32} {ν : Mem} (h : ¬ ν 0 12 12 = -1) : gKey w o x4 ν = some ν := by
  unfold gKey
  rw [if_neg h, gEnd_f h]
theorem gDoubt_f {w o : Int32} {ν : Mem} (h : ¬ ν 0 12 12 = -1) : gDoubt w o ν = some ν := by
  unfold gDoubt
  rw [if_neg h, gKey_f h]
theorem gRoom_f {w : Int32} {ν : Mem} (h : ¬ ν 0 12 12 = -1) : gRoom w ν = some ν := by
  unfold gRoom
  rw [after_f h, bs_q, gDoubt_f h]
theorem gLine_f {ν : Mem} (h : ¬ ν 0 12 12 = -1) : gLine ν = some ν := by
  unfold gLine
  rw [after_f h, bs_q, gRoom_f h]
theorem gEnd_t {n : Nat} {w o d : Int32} {k : Bool} {ν : Mem} {r : Row} (h : ν 0 12 12 = -1) (h8 : n < 8) (e3 : r 3 = Int32.ofNat n) (er : ν 0 13 = r) : ∃ ν', gEnd w o d (bI k) ν = some ν' ∧ ν' 0 13 = addR r n o w d (bI k) ∧ ∀ g j i, ¬ (g = 0 ∧ j = 13 ∧ 0 < i ∧ i < 304) → ν' g j i = ν g j i := by
  have hput : ∀ (ν : Mem) (w : Nat) (v : Int32), w < 5 → f_X10_put ν (Int32.ofNat n) (Int32.ofNat w) v = some (upm ν 0 13 (24 + 5 * n + w) v) := fun ν w v hw => by
    unfold f_X10_put
    rw [gix, ix_on (by omega) (by decide), on_t (by omega), nm_q]
  refine ⟨upm (upm (upm (upm (upm (upm ν 0 13 (24 + 5 * n + 0) o) 0 13 (24 + 5 * n + 1) w) 0 13 (24 + 5 * n + 2) d) 0 13 (24 + 5 * n + 3) (bI k)) 0 13 (24 + 5 * n + 4) 1) 0 13 3 (Int32.ofNat (n + 1)), ?_, ?_, fun g j i hn => by rw [upm_n3 (by omega), upm_n3 (by omega), upm_n3 (by omega), upm_n3 (by omega), upm_n3 (by omega), upm_n3 (by omega)]⟩
  · unfold gEnd
    rw [if_pos h, show (3 : Int32) = Int32.ofNat 3 from rfl, ix_on (by decide) (by decide), on_t (by decide), nm_q, er, e3, show (0 : Int32) = Int32.ofNat 0 from rfl, show (1 : Int32) = Int32.ofNat 1 from rfl, show (2 : Int32) = Int32.ofNat 2 from rfl, hput _ 0 _ (by decide), bs_q, hput _ 1 _ (by decide), bs_q, hput _ 2 _ (by decide), bs_q, nm_q]
    have tl : ∀ x : Int32, ((f_X10_put (upm (upm (upm ν 0 13 (24 + 5 * n + 0) o) 0 13 (24 + 5 * n + 1) w) 0 13 (24 + 5 * n + 2) d) (Int32.ofNat n) (Int32.ofNat 3) x).bind fun (q13 : Mem) => (f_X10_put q13 (Int32.ofNat n) (Int32.ofNat 4) (Int32.ofNat 1)).bind fun (q14 : Mem) => ix (Int32.ofNat 3) 704 (ix (Int32.ofNat 3) 704 (nm (upm q14 0 13 3 ((q14 0 13 3) + Int32.ofNat 1)) fun (μ15 : Mem) => some μ15))) = some (upm (upm (upm (upm (upm (upm ν 0 13 (24 + 5 * n + 0) o) 0 13 (24 + 5 * n + 1) w) 0 13 (24 + 5 * n + 2) d) 0 13 (24 + 5 * n + 3) x) 0 13 (24 + 5 * n + 4) 1) 0 13 3 (Int32.ofNat (n + 1))) := fun x => by
      rw [hput _ 3 _ (by decide), bs_q, hput _ 4 _ (by decide), bs_q, ix_on (by decide) (by decide), ix_on (by decide) (by decide), nm_q, upm_n3 (by omega), upm_n3 (by omega), upm_n3 (by omega), upm_n3 (by omega), upm_n3 (by omega), er, e3, on_a]
      rfl
    cases k
    · rw [if_pos (show bI false = Int32.ofNat 0 from rfl)]
      exact tl 0
    · rw [if_neg (show ¬ bI true = Int32.ofNat 0 by decide)]
      exact tl 1
  · unfold addR
    rw [upm_row, upm_row, upm_row, upm_row, upm_row, upm_row, er]
def cKey (o w d : Int32) (μ8 : Mem) : Option (Int32 × Mem) := (f_X8_take μ8 17).bind fun (q9 : Int32 × Mem) => (f_X1_add 1 q9.2 o w d q9.1).bind fun (q10 : Mem) => some (1, q10)
theorem key_both {ev : Row → Int32} {b : Nat → Nat} {t m : Nat} {μ : Mem} {k n : Nat} {r : Row} (S : CH b t m μ k) (H : HV ev (μ 2) r) (hn : n = nv r 3) (h8 : n < 8) {o w d : Int32} (ho : Nb o 7) (hw : Nb w 10) (hd : Nb d 99) : OutG ev b t m μ k r (cKey o w d μ) (gKey w o d) := by
  have tl := tk_lt S.1 S.2.1
  have e3 : r 3 = Int32.ofNat n := by rw [H.1.e3, hn]
  have fin : ∀ (kb : Bool) (μ1 : Mem) (k1 : Nat), CH b t m μ1 k1 → μ1 2 = μ 2 → OutG ev b t m μ1 k1 r ((f_X1_add 1 μ1 o w d (bI kb)).bind fun (q10 : Mem) => some (1, q10)) (gEnd w o d (bI kb)) := fun kb μ1 k1 S1 e2 => by
    have H1 : HV ev (μ1 (1 + 1)) r := by
      show HV ev (μ1 2) r
      rw [e2]
      exact H
    obtain ⟨μ2, a1, a2, a3⟩ := c_addG (k := kb) H1 hn h8 ho hw hd
    rw [a1, bs_q]
    exact OutG.fin S1 a3 a2 fun ν p R er => gEnd_t R.2.2.2.2.1 h8 e3 er
  unfold cKey
  rw [show (17 : Int32) = Int32.ofNat 17 from rfl, c_take S.1 S.2.1 S.2.2 (by decide) (by decide)]
  by_cases h : kd b t (tk b t k) = 17
  · obtain ⟨km, kt⟩ := tl.2 (by omega)
    have fr : hF μ (upm μ 0 3 4 (Int32.ofNat (k + 1))) := fun g j i q1 q2 => upm_n3 (by omega)
    have S1 : CH b t m (upm μ 0 3 4 (Int32.ofNat (k + 1))) (k + 1) := ⟨S.1.fr fun j i hj => by rw [upm_ne (by omega)], km, upm_at _ _ _ _ _⟩
    rw [if_pos h, bs_q]
    refine (fin true _ (k + 1) S1 (by rw [upm_ng (by decide)])).pre fr fun ν p R er => ⟨upm ν 0 12 11 (Int32.ofNat (en b t (tk b t k))), _, ?_, R.adv kt, ?_, (rG.refl ν).upm _ (by omega)⟩
    · unfold gKey
      rw [if_pos R.2.2.2.2.1, rs_has R (w := 17) (by decide) (by decide) (by decide), if_pos h, bs_q, if_neg (show ¬ (1 : Int32) = 0 by decide)]
      rfl
    · rw [upm_ne (by omega), er]
  · rw [if_neg h, bs_q]
    refine (fin false μ k S rfl).pre (hF.refl μ) fun ν p R er => ⟨upm ν 0 12 11 (Int32.ofNat (tk b t k)), _, ?_, R.stay, ?_, (rG.refl ν).upm _ (by omega)⟩
    · unfold gKey
      rw [if_pos R.2.2.2.2.1, rs_has R (w := 17) (by decide) (by decide) (by decide), if_neg h, bs_q, if_pos (show (0 : Int32) = 0 from rfl)]
      rfl
    · rw [upm_ne (by omega), er]
def cDoubt (o w : Int32) (μ : Mem) : Option (Int32 × Mem) := (f_X8_take μ 21).bind fun (q6 : Int32 × Mem) => if q6.1 = 0 then (cKey o w 0 q6.2) else ((f_X8_takeNumber q6.2 (Int32.ofNat 99)).bind fun (q11 : Int32 × Mem) => if q11.1 = 0 then (some (0, q11.2)) else (cKey o w (q11.2 0 3 5) q11.2))
theorem doubt_both {ev : Row → Int32} {b : Nat → Nat} {t m : Nat} {μ : Mem} {k n : Nat} {r : Row} (S : CH b t m μ k) (H : HV ev (μ 2) r) (hn : n = nv r 3) (h8 : n < 8) {o w : Int32} (ho : Nb o 7) (hw : Nb w 10) : OutG ev b t m μ k r (cDoubt o w μ) (gDoubt w o) := by
  have tl := tk_lt S.1 S.2.1
  unfold cDoubt
  rw [show (21 : Int32) = Int32.ofNat 21 from rfl, c_take S.1 S.2.1 S.2.2 (by decide) (by decide)]
  by_cases h : kd b t (tk b t k) = 21
  · obtain ⟨km, kt⟩ := tl.2 (by omega)
    have fr : hF μ (upm μ 0 3 4 (Int32.ofNat (k + 1))) := fun g j i q1 q2 => upm_n3 (by omega)
    have S1 : CH b t m (upm μ 0 3 4 (Int32.ofNat (k + 1))) (k + 1) := ⟨S.1.fr fun j i hj => by rw [upm_ne (by omega)], km, upm_at _ _ _ _ _⟩
    rw [if_pos h, bs_q, if_neg (show ¬ (1 : Int32) = 0 by decide)]
    refine OutG.pre (F1 := fun ν => (f_X10_figures ν 0 (Int32.ofNat 99)).bind fun (q20 : Int32 × Mem) => gKey w o q20.1 q20.2) ?_ fr fun ν p R er => ⟨upm ν 0 12 11 (Int32.ofNat (en b t (tk b t k))), _, ?_, R.adv kt, ?_, (rG.refl ν).upm _ (by omega)⟩
    · refine OutG.num (F1 := gKey w o) (G := fun M => cKey o w (M 0 3 5) M) S1 (by decide) (fun v μ1 hv S2 f1 e2 e5 _ _ => ?_) (fun ν p R => rfl) (fun x ν Fν => ⟨ν, gKey_f (fs_ne Fν S1.1 S1.2.1), Fν, rG.refl ν⟩)
      show OutG ev b t m μ1 (k + 1 + 1) r (cKey o w (μ1 0 3 5) μ1) (gKey w o (Int32.ofNat v))
      rw [e5]
      exact key_both S2 (by rw [e2, upm_ng (by decide)]; exact H) hn h8 ho hw ⟨v, hv, rfl⟩
    · show gDoubt w o ν = _
      unfold gDoubt
      rw [if_pos R.2.2.2.2.1, rs_has R (w := 21) (by decide) (by decide) (by decide), if_pos h, bs_q, if_neg (show ¬ (1 : Int32) = 0 by decide)]
    · rw [upm_ne (by omega), er]
  · rw [if_neg h, bs_q, if_pos (show (0 : Int32) = 0 from rfl)]
    refine (key_both S H hn h8 ho hw (d := 0) ⟨0, by decide, rfl⟩).pre (hF.refl μ) fun ν p R er => ⟨upm ν 0 12 11 (Int32.ofNat (tk b t k)), _, ?_, R.stay, ?_, (rG.refl ν).upm _ (by omega)⟩
    · unfold gDoubt
      rw [if_pos R.2.2.2.2.1, rs_has R (w := 21) (by decide) (by decide) (by decide), if_neg h, bs_q, if_pos (show (0 : Int32) = 0 from rfl)]
    · rw [upm_ne (by omega), er]
def cRoom (w : Int32) (μ : Mem) : Option (Int32 × Mem) := (f_X8_take μ (Int32.ofNat 20)).bind fun (q4 : Int32 × Mem) => if q4.1 = 0 then (some (0, q4.2)) else ((f_X8_takeNumber q4.2 (Int32.ofNat 7)).bind fun (q5 : Int32 × Mem) => if q5.1 = 0 then (some (0, q5.2)) else cDoubt (q5.2 0 3 5) w q5.2)
theorem room_both {ev : Row → Int32} {b : Nat → Nat} {t m : Nat} {μ : Mem} {k n : Nat} {r : Row} (S : CH b t m μ k) (H : HV ev (μ 2) r) (hn : n = nv r 3) (h8 : n < 8) {w : Int32} (hw : Nb w 10) : OutG ev b t m μ k r (cRoom w μ) (gRoom w) := by
  refine OutG.word (F1 := fun ν => (f_X10_figures ν 0 (Int32.ofNat 7)).bind fun (q3 : Int32 × Mem) => gDoubt w q3.1 q3.2) (G := fun M => (f_X8_takeNumber M (Int32.ofNat 7)).bind fun (q5 : Int32 × Mem) => if q5.1 = 0 then (some (0, q5.2)) else cDoubt (q5.2 0 3 5) w q5.2) S (by decide) (by decide) (fun h S1 f1 => ?_) (fun ν p R er h => ?_) (fun ν p R h => ?_)
  · refine OutG.num (F1 := gDoubt w) (G := fun M => cDoubt (M 0 3 5) w M) S1 (by decide) (fun v μ1 hv S2 f1 e2 e5 _ _ => ?_) (fun ν p R => rfl) (fun x ν Fν => ⟨ν, gDoubt_f (fs_ne Fν S1.1 S1.2.1), Fν, rG.refl ν⟩)
    show OutG ev b t m μ1 (k + 1 + 1) r (cDoubt (μ1 0 3 5) w μ1) (gDoubt w (Int32.ofNat v))
    rw [e5]
    exact doubt_both S2 (by rw [e2, upm_ng (by decide)]; exact H) hn h8 ⟨v, hv, rfl⟩ hw
  · unfold gRoom
    rw [after_e S.1 R S.2.1 (w := 20) (by decide) (by decide) (by decide), if_pos h]
  · have hx := R.wrong (k' := k) (by omega) (tk_lt S.1 S.2.1).1
    refine ⟨_, ?_, hx.1, hx.2.g⟩
    unfold gRoom
    rw [after_e S.1 R S.2.1 (w := 20) (by decide) (by decide) (by decide), if_neg h, bs_q, gDoubt_f (fs_ne hx.1 S.1 S.2.1)]
def cWish (μ : Mem) : Option (Int32 × Mem) := (f_X8_take μ (Int32.ofNat 12)).bind fun (q4 : Int32 × Mem) => if q4.1 = 0 then (some (0, q4.2)) else ((f_X8_takeNumber q4.2 (Int32.ofNat 10)).bind fun (q5 : Int32 × Mem) => if q5.1 = 0 then (some (0, q5.2)) else cRoom (q5.2 0 3 5) q5.2)
theorem wish_both {ev : Row → Int32} {b : Nat → Nat} {t m : Nat} {μ : Mem} {k n : Nat} {r : Row} (S : CH b t m μ k) (H : HV ev (μ 2) r) (hn : n = nv r 3) (h8 : n < 8) : OutG ev b t m μ k r (cWish μ) gLine := by
  refine OutG.word (F1 := fun ν => (f_X10_figures ν 0 (Int32.ofNat 10)).bind fun (q3 : Int32 × Mem) => gRoom q3.1 q3.2) (G := fun M => (f_X8_takeNumber M (Int32.ofNat 10)).bind fun (q5 : Int32 × Mem) => if q5.1 = 0 then (some (0, q5.2)) else cRoom (q5.2 0 3 5) q5.2) S (by decide) (by decide) (fun h S1 f1 => ?_) (fun ν p R er h => ?_) (fun ν p R h => ?_)
  · refine OutG.num (F1 := gRoom) (G := fun M => cRoom (M 0 3 5) M) S1 (by decide) (fun v μ1 hv S2 f1 e2 e5 _ _ => ?_) (fun ν p R => rfl) (fun x ν Fν => ⟨ν, gRoom_f (fs_ne Fν S1.1 S1.2.1), Fν, rG.refl ν⟩)
    show OutG ev b t m μ1 (k + 1 + 1) r (cRoom (μ1 0 3 5) μ1) (gRoom (Int32.ofNat v))
    rw [e5]
    exact room_both S2 (by rw [e2, upm_ng (by decide)]; exact H) hn h8 ⟨v, hv, rfl⟩
  · unfold gLine
    rw [after_e S.1 R S.2.1 (w := 12) (by decide) (by decide) (by decide), if_pos h]
  · have hx := R.wrong (k' := k) (by omega) (tk_lt S.1 S.2.1).1
    refine ⟨_, ?_, hx.1, hx.2.g⟩
    unfold gLine
    rw [after_e S.1 R S.2.1 (w := 12) (by decide) (by decide) (by decide), if_neg h, bs_q, gRoom_f (fs_ne hx.1 S.1 S.2.1)]
