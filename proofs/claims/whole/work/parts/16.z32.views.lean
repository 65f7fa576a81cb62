/-! ===== what the reference's row says; a house of the class beside it ===== -/
def nv (r : Row) (i : Nat) : Nat := (r i).toNatClampNeg
def Nb (x : Int32) (m : Nat) : Prop := ∃ n : Nat, n ≤ m ∧ x = Int32.ofNat n
def bdg (w : Nat) : Nat := [7, 10, 99, 1, 1].getD w 0
def bdl : List Nat := [12, 0, 400, 8, 7, 1, 9, 9999, 9999, 100, 9999, 0, 6, 6, 60, 0] ++ List.replicate 8 255 ++ (List.replicate 8 [7, 10, 99, 1, 1]).flatten
def bd (i : Nat) : Nat := if i < 64 then bdl.getD i 0 else 255
def okI (i : Nat) : Bool := decide (i < 704) && !(i == 1) && !(i == 11) && !(i == 15) && (decide (i < 64) || decide (304 ≤ i))
def Vr (r : Row) : Prop := ∀ i, okI i = true → Nb (r i) (bd i)
theorem bd_small : ∀ i, i < 704 → bd i < 10000 := by decide +kernel
theorem okI_lt {i : Nat} (h : okI i = true) : i < 704 := by
  unfold okI at h
  simp only [Bool.and_eq_true, decide_eq_true_eq] at h
  exact h.1.1.1.1
theorem Vr.e {r : Row} (V : Vr r) {i : Nat} (h : okI i = true) : r i = Int32.ofNat (nv r i) := by
  obtain ⟨n, hn, e⟩ := V i h
  have hb := bd_small i (okI_lt h)
  unfold nv
  rw [e, on_t (by omega)]
theorem Vr.b {r : Row} (V : Vr r) {i : Nat} (h : okI i = true) : nv r i ≤ bd i := by
  obtain ⟨n, hn, e⟩ := V i h
  have hb := bd_small i (okI_lt h)
  unfold nv
  rw [e, on_t (by omega)]
  exact hn
theorem okg : ∀ g, g < 8 → ∀ w, w < 5 → okI (24 + 5 * g + w) = true ∧ bd (24 + 5 * g + w) = bdg w := by decide
theorem Vr.ge {r : Row} (V : Vr r) {g : Nat} (hg : g < 8) (w : Nat) (hw : w < 5) : r (24 + 5 * g + w) = Int32.ofNat (nv r (24 + 5 * g + w)) := V.e (okg g hg w hw).1
theorem Vr.gb {r : Row} (V : Vr r) {g : Nat} (hg : g < 8) (w : Nat) (hw : w < 5) : nv r (24 + 5 * g + w) ≤ bdg w := by
  have h := V.b (okg g hg w hw).1
  rw [(okg g hg w hw).2] at h
  exact h
theorem okh : ∀ k, k < 8 → okI (16 + k) = true ∧ bd (16 + k) = 255 := by decide
theorem Vr.he {r : Row} (V : Vr r) {k : Nat} (hk : k < 8) : r (16 + k) = Int32.ofNat (nv r (16 + k)) := V.e (okh k hk).1
theorem Vr.hb {r : Row} (V : Vr r) {k : Nat} (hk : k < 8) : nv r (16 + k) < 256 := by
  have h := V.b (okh k hk).1
  rw [(okh k hk).2] at h
  omega
theorem Vr.c8 {r : Row} (V : Vr r) : nv r 3 ≤ 8 := V.b (i := 3) (by decide)
theorem Vr.e3 {r : Row} (V : Vr r) : r 3 = Int32.ofNat (nv r 3) := V.e (i := 3) (by decide)
theorem Vr.e4 {r : Row} (V : Vr r) : r 4 = Int32.ofNat (nv r 4) := V.e (i := 4) (by decide)
theorem Vr.b4 {r : Row} (V : Vr r) : nv r 4 < 8 := Nat.lt_succ_of_le (V.b (i := 4) (by decide))
theorem Vr.e5 {r : Row} (V : Vr r) : r 5 = Int32.ofNat (nv r 5) := V.e (i := 5) (by decide)
theorem Vr.b5 {r : Row} (V : Vr r) : nv r 5 < 2 := Nat.lt_succ_of_le (V.b (i := 5) (by decide))
theorem Vr.set {r : Row} (V : Vr r) (i : Nat) (v : Int32) (h : okI i = true → Nb v (bd i)) : Vr (upd r i v) := by
  intro k hk
  by_cases e : k = i
  · subst e
    rw [upd_at]
    exact h hk
  · rw [upd_ne e]
    exact V k hk
theorem Nb.of {k m : Nat} (h : k ≤ m) : Nb (Int32.ofNat k) m := ⟨k, h, rfl⟩
theorem Nb.bI (b : Bool) : Nb (bI b) 1 := by cases b <;> exact ⟨_, by decide, rfl⟩
def kyB (r : Row) (g : Nat) : Bool := decide (r (24 + 5 * g + 3) = Int32.ofNat 1)
def hrB (r : Row) (g : Nat) : Bool := decide (r (24 + 5 * g + 4) = Int32.ofNat 1)
def hrC (r : Row) (g : Nat) : Bool := decide (g < nv r 3) && hrB r g
def rm (r : Row) (g : Nat) : Nat := nv r (24 + 5 * g)
def sB (r : Row) (p : Nat) (b : Bool) (k : Nat) : Bool := decide (p = k) || (nv r (16 + p)).testBit k || (b && (decide ((p + 1) % 8 = k) || decide ((k + 1) % 8 = p)))
def seB (r : Row) (g k : Nat) : Bool := sB r (rm r g) (kyB r g) k
def rkN (r : Row) (g : Nat) : Nat := if nv r (24 + 5 * g + 2) < 50 then nv r (24 + 5 * g + 1) / 2 else nv r (24 + 5 * g + 1)
def wt (r : Row) (k : Nat) : Nat := mk (nv r 3) (fun g => hrB r g && seB r g k)
def inS (r : Row) (k : Nat) : Nat := mk 8 (fun j => (nv r (16 + j)).testBit k)
def giS (r : Row) (k : Nat) : Nat := mk (nv r 3) (fun g => hrB r g && decide (rm r g = k))
theorem Vr.rm8 {r : Row} (V : Vr r) {g : Nat} (hg : g < 8) : rm r g < 8 := Nat.lt_succ_of_le (V.gb hg 0 (by decide))
theorem Vr.rme {r : Row} (V : Vr r) {g : Nat} (hg : g < 8) : r (24 + 5 * g) = Int32.ofNat (rm r g) := V.ge hg 0 (by decide)
theorem Vr.rk10 {r : Row} (V : Vr r) {g : Nat} (hg : g < 8) : rkN r g ≤ 10 := by
  have h := V.gb hg 1 (by decide)
  have h2 : bdg 1 = 10 := rfl
  unfold rkN
  split <;> omega
theorem wt_256 {r : Row} (V : Vr r) (k : Nat) : wt r k < 256 := mk_256 _ V.c8
theorem gi_256 {r : Row} (V : Vr r) (k : Nat) : giS r k < 256 := mk_256 _ V.c8
theorem in_256 (r : Row) (k : Nat) : inS r k < 256 := mk_256 _ (Nat.le_refl 8)
/-- a house of the class: the scalars, the guests, the holes -/
def HC (c : Nat → Nat → Int32) (r : Row) : Prop :=
  (c 0 5 = r 12 ∧ c 0 6 = r 13 ∧ c 0 7 = r 5 ∧ c 0 8 = r 4 ∧ c 0 9 = r 6 ∧ c 0 10 = r 7 ∧ c 0 11 = r 8 ∧ c 0 12 = r 9 ∧ c 0 13 = r 10 ∧ c 0 14 = r 11 ∧ c 0 15 = r 15 ∧ c 0 16 = r 0 ∧ c 1 3 = r 3) ∧ c 1 4 = Int32.ofNat (mk (nv r 3) (kyB r)) ∧ c 1 5 = Int32.ofNat (mk (nv r 3) (hrB r)) ∧ (∀ g, g < nv r 3 → c 2 g = r (24 + 5 * g) ∧ c 3 g = r (24 + 5 * g + 1) ∧ c 4 g = r (24 + 5 * g + 2)) ∧ ∀ k, k < 8 → c 10 k = r (16 + k)
theorem HC.ky {c : Nat → Nat → Int32} {r : Row} (H : HC c r) : c 1 4 = Int32.ofNat (mk (nv r 3) (kyB r)) := H.2.1
theorem HC.hr {c : Nat → Nat → Int32} {r : Row} (H : HC c r) : c 1 5 = Int32.ofNat (mk (nv r 3) (hrB r)) := H.2.2.1
theorem HC.g {c : Nat → Nat → Int32} {r : Row} (H : HC c r) {g : Nat} (h : g < nv r 3) : c 2 g = r (24 + 5 * g) ∧ c 3 g = r (24 + 5 * g + 1) ∧ c 4 g = r (24 + 5 * g + 2) := H.2.2.2.1 g h
theorem HC.ho {c : Nat → Nat → Int32} {r : Row} (H : HC c r) {k : Nat} (h : k < 8) : c 10 k = r (16 + k) := H.2.2.2.2 k h
theorem HC.sh0 {c : Nat → Nat → Int32} {r : Row} (H : HC c r) : c 0 5 = r 12 := H.1.1
theorem HC.sh1 {c : Nat → Nat → Int32} {r : Row} (H : HC c r) : c 0 6 = r 13 := H.1.2.1
theorem HC.kept {c : Nat → Nat → Int32} {r : Row} (H : HC c r) : c 0 7 = r 5 := H.1.2.2.1
theorem HC.bath {c : Nat → Nat → Int32} {r : Row} (H : HC c r) : c 0 8 = r 4 := H.1.2.2.2.1
theorem HC.masons {c : Nat → Nat → Int32} {r : Row} (H : HC c r) : c 0 9 = r 6 := H.1.2.2.2.2.1
theorem HC.stones {c : Nat → Nat → Int32} {r : Row} (H : HC c r) : c 0 10 = r 7 := H.1.2.2.2.2.2.1
theorem HC.towers {c : Nat → Nat → Int32} {r : Row} (H : HC c r) : c 0 11 = r 8 := H.1.2.2.2.2.2.2.1
theorem HC.bore {c : Nat → Nat → Int32} {r : Row} (H : HC c r) : c 0 12 = r 9 := H.1.2.2.2.2.2.2.2.1
theorem HC.day {c : Nat → Nat → Int32} {r : Row} (H : HC c r) : c 0 13 = r 10 := H.1.2.2.2.2.2.2.2.2.1
theorem HC.seen {c : Nat → Nat → Int32} {r : Row} (H : HC c r) : c 0 14 = r 11 := H.1.2.2.2.2.2.2.2.2.2.1
theorem HC.seed {c : Nat → Nat → Int32} {r : Row} (H : HC c r) : c 0 15 = r 15 := H.1.2.2.2.2.2.2.2.2.2.2.1
theorem HC.texts {c : Nat → Nat → Int32} {r : Row} (H : HC c r) : c 0 16 = r 0 := H.1.2.2.2.2.2.2.2.2.2.2.2.1
theorem HC.cnt {c : Nat → Nat → Int32} {r : Row} (H : HC c r) : c 1 3 = r 3 := H.1.2.2.2.2.2.2.2.2.2.2.2.2
/-! ===== the class's questions ===== -/
theorem c_isNum {g : Nat} (hg : g < 8) : f_X1_isNumber (Int32.ofNat g) = some (Int32.ofNat 1) := by
  unfold f_X1_isNumber
  simp (disch := omega) only [nm_q, bs_q, on_a, on_m, on_t, ix_on, le_t, le_f, lt_t, lt_f, eq_t, eq_f, ite_b0, ite_b1, ↓reduceIte, i_0, i_1, i_2, i_3, i_4, i_5, i_6, i_7, i_8, i_9, i_10, i_11, i_12, i_13, i_14, i_15, i_16, i_18, i_20, i_22, i_24, i_30, i_31, i_32, i_40, i_48, i_50, i_51, i_52, i_57, i_60, i_64, i_65, i_66, i_67, i_97, i_99, i_100, i_122, i_239, i_240, i_255, i_256, i_304, i_400, i_401, i_704, i_999, i_1000, i_2304, i_3344, i_3648, i_4096, i_9999, i_32767]
theorem c_isRoom {g : Nat} (hg : g < 8) : f_X9_isRoom (Int32.ofNat g) = some (Int32.ofNat 1) := by
  unfold f_X9_isRoom
  simp (disch := omega) only [nm_q, bs_q, on_a, on_m, on_t, ix_on, le_t, le_f, lt_t, lt_f, eq_t, eq_f, ite_b0, ite_b1, ↓reduceIte, i_0, i_1, i_2, i_3, i_4, i_5, i_6, i_7, i_8, i_9, i_10, i_11, i_12, i_13, i_14, i_15, i_16, i_18, i_20, i_22, i_24, i_30, i_31, i_32, i_40, i_48, i_50, i_51, i_52, i_57, i_60, i_64, i_65, i_66, i_67, i_97, i_99, i_100, i_122, i_239, i_240, i_255, i_256, i_304, i_400, i_401, i_704, i_999, i_1000, i_2304, i_3344, i_3648, i_4096, i_9999, i_32767]
theorem c_room {h : Nat} {μ : Mem} {g : Nat} (hg : g < 8) : f_X1_roomOf h μ (Int32.ofNat g) = some (μ (h + 1) 2 g) := by
  unfold f_X1_roomOf
  rw [c_isNum hg]
  simp (disch := omega) only [nm_q, bs_q, on_a, on_m, on_t, ix_on, le_t, le_f, lt_t, lt_f, eq_t, eq_f, ite_b0, ite_b1, ↓reduceIte, i_0, i_1, i_2, i_3, i_4, i_5, i_6, i_7, i_8, i_9, i_10, i_11, i_12, i_13, i_14, i_15, i_16, i_18, i_20, i_22, i_24, i_30, i_31, i_32, i_40, i_48, i_50, i_51, i_52, i_57, i_60, i_64, i_65, i_66, i_67, i_97, i_99, i_100, i_122, i_239, i_240, i_255, i_256, i_304, i_400, i_401, i_704, i_999, i_1000, i_2304, i_3344, i_3648, i_4096, i_9999, i_32767]
theorem c_wish {h : Nat} {μ : Mem} {g : Nat} (hg : g < 8) : f_X1_wishOf h μ (Int32.ofNat g) = some (μ (h + 1) 3 g) := by
  unfold f_X1_wishOf
  rw [c_isNum hg]
  simp (disch := omega) only [nm_q, bs_q, on_a, on_m, on_t, ix_on, le_t, le_f, lt_t, lt_f, eq_t, eq_f, ite_b0, ite_b1, ↓reduceIte, i_0, i_1, i_2, i_3, i_4, i_5, i_6, i_7, i_8, i_9, i_10, i_11, i_12, i_13, i_14, i_15, i_16, i_18, i_20, i_22, i_24, i_30, i_31, i_32, i_40, i_48, i_50, i_51, i_52, i_57, i_60, i_64, i_65, i_66, i_67, i_97, i_99, i_100, i_122, i_239, i_240, i_255, i_256, i_304, i_400, i_401, i_704, i_999, i_1000, i_2304, i_3344, i_3648, i_4096, i_9999, i_32767]
theorem c_doubt {h : Nat} {μ : Mem} {g : Nat} (hg : g < 8) : f_X1_doubtOf h μ (Int32.ofNat g) = some (μ (h + 1) 4 g) := by
  unfold f_X1_doubtOf
  rw [c_isNum hg]
  simp (disch := omega) only [nm_q, bs_q, on_a, on_m, on_t, ix_on, le_t, le_f, lt_t, lt_f, eq_t, eq_f, ite_b0, ite_b1, ↓reduceIte, i_0, i_1, i_2, i_3, i_4, i_5, i_6, i_7, i_8, i_9, i_10, i_11, i_12, i_13, i_14, i_15, i_16, i_18, i_20, i_22, i_24, i_30, i_31, i_32, i_40, i_48, i_50, i_51, i_52, i_57, i_60, i_64, i_65, i_66, i_67, i_97, i_99, i_100, i_122, i_239, i_240, i_255, i_256, i_304, i_400, i_401, i_704, i_999, i_1000, i_2304, i_3344, i_3648, i_4096, i_9999, i_32767]
theorem c_here {h : Nat} {μ : Mem} {r : Row} (H : HC (μ (h + 1)) r) (V : Vr r) {g : Nat} (hg : g < 8) : f_X9_holds (μ (h + 1) 1 5) (Int32.ofNat g) = some (bI (hrC r g)) := by
  rw [H.hr, hold_b _ (mk_256 _ V.c8) g hg, mk_tb]
  rfl
theorem c_key {h : Nat} {μ : Mem} {r : Row} (H : HC (μ (h + 1)) r) (V : Vr r) {g : Nat} (hg : g < nv r 3) : f_X9_holds (μ (h + 1) 1 4) (Int32.ofNat g) = some (bI (kyB r g)) := by
  have h8 := V.c8
  rw [H.ky, hold_b _ (mk_256 _ V.c8) g (by omega), mk_tb, decide_eq_true hg, Bool.true_and]
theorem c_risk {h : Nat} {μ : Mem} {r : Row} (H : HC (μ (h + 1)) r) (V : Vr r) {g : Nat} (hg : g < nv r 3) : f_X1_risk h μ (Int32.ofNat g) = some (Int32.ofNat (rkN r g)) := by
  have h8 := V.c8
  have hg8 : g < 8 := by omega
  have h1 := V.gb hg8 1 (by decide)
  have h2 := V.gb hg8 2 (by decide)
  have b1 : bdg 1 = 10 := rfl
  have b2 : bdg 2 = 99 := rfl
  unfold f_X1_risk
  rw [c_doubt hg8, c_wish hg8, (H.g hg).2.1, (H.g hg).2.2, V.ge hg8 1 (by decide), V.ge hg8 2 (by decide)]
  simp only [bs_q, i_50, i_2]
  rw [il_lt (by omega) (by omega), on_d (by omega) (by omega)]
  unfold rkN
  split <;> rfl
theorem c_holesFrom {h : Nat} {μ : Mem} {r : Row} (H : HC (μ (h + 1)) r) {k : Nat} (hk : k < 8) : f_X2_holesFrom h μ (Int32.ofNat k) = some (r (16 + k)) := by
  unfold f_X2_holesFrom
  rw [c_isRoom hk, ← H.ho hk]
  simp (disch := omega) only [nm_q, bs_q, on_a, on_m, on_t, ix_on, le_t, le_f, lt_t, lt_f, eq_t, eq_f, ite_b0, ite_b1, ↓reduceIte, i_0, i_1, i_2, i_3, i_4, i_5, i_6, i_7, i_8, i_9, i_10, i_11, i_12, i_13, i_14, i_15, i_16, i_18, i_20, i_22, i_24, i_30, i_31, i_32, i_40, i_48, i_50, i_51, i_52, i_57, i_60, i_64, i_65, i_66, i_67, i_97, i_99, i_100, i_122, i_239, i_240, i_255, i_256, i_304, i_400, i_401, i_704, i_999, i_1000, i_2304, i_3344, i_3648, i_4096, i_9999, i_32767]
set_option maxRecDepth 100000 in
theorem sight_b : ∀ p, p < 8 → ∀ a, a < 256 → (jshl (Int32.ofNat 1) (Int32.ofNat p) ||| Int32.ofNat a = Int32.ofNat (mk 8 (fun k => decide (p = k) || a.testBit k || (false && (decide ((p + 1) % 8 = k) || decide ((k + 1) % 8 = p)))))) ∧ (jshl (Int32.ofNat 1) (Int32.ofNat p) ||| Int32.ofNat a) ||| (jshl (Int32.ofNat 1) (jrem (Int32.ofNat p + Int32.ofNat 1) (Int32.ofNat 8)) ||| jshl (Int32.ofNat 1) (jrem ((Int32.ofNat p + Int32.ofNat 8) - Int32.ofNat 1) (Int32.ofNat 8))) = Int32.ofNat (mk 8 (fun k => decide (p = k) || a.testBit k || (true && (decide ((p + 1) % 8 = k) || decide ((k + 1) % 8 = p))))) := by decide +kernel
theorem c_sight {h : Nat} {μ : Mem} {r : Row} (H : HC (μ (h + 1)) r) (V : Vr r) {p : Nat} (hp : p < 8) (b : Bool) : f_X2_sight h μ (Int32.ofNat p) (bI b) = some (Int32.ofNat (mk 8 (sB r p b))) := by
  have hs := sight_b p hp (nv r (16 + p)) (V.hb hp)
  unfold f_X2_sight
  rw [c_isRoom hp]
  simp only [bs_q, nm, i_1, i_8, i_0]
  rw [if_neg (by decide), ix_on hp (by decide), on_t (by omega), H.ho hp, V.he hp, ite_b0]
  cases b
  · rw [if_neg (by decide), hs.1]
    rfl
  · rw [if_pos rfl, hs.2]
    rfl
theorem c_spies {h : Nat} {μ : Mem} {r : Row} (H : HC (μ (h + 1)) r) (V : Vr r) {g : Nat} (hg : g < nv r 3) : f_X2_spies h μ (Int32.ofNat g) = some (Int32.ofNat (mk 8 (seB r g))) := by
  have h8 := V.c8
  have hg8 : g < 8 := by omega
  unfold f_X2_spies
  rw [c_room hg8, (H.g hg).1, V.rme hg8]
  simp only [bs_q]
  rw [c_key H V hg]
  simp only [bs_q]
  rw [c_sight H V (V.rm8 hg8)]
  rfl
theorem hrC_lt {r : Row} {k : Nat} (h : hrC r k = true) : k < nv r 3 := by
  unfold hrC at h
  simp only [Bool.and_eq_true, decide_eq_true_eq] at h
  exact h.1
theorem c_watchers {h : Nat} {μ : Mem} {r : Row} (H : HC (μ (h + 1)) r) (V : Vr r) {p : Nat} (hp : p < 8) : f_X2_watchers h μ (Int32.ofNat p) = some (Int32.ofNat (wt r p)) := by
  have h8 := V.c8
  have e : wt r p = mk 8 (fun g => hrC r g && seB r g p) := mk_ext fun k => by
    unfold hrC
    by_cases hk : k < nv r 3
    · have : k < 8 := by omega
      simp [hk, this]
    · simp [hk]
  rw [e]
  refine lpF (fun n (s : Int32 × Int32) => lp_X2_watchers_4 (Int32.ofNat p) h μ n s.1 s.2) (fun k => (Int32.ofNat (mk k (fun g => hrC r g && seB r g p)), Int32.ofNat k)) 8 _ (fun k hk n => ?_) (fun n => rfl) 4096 (by decide)
  show lp_X2_watchers_4 _ _ _ _ _ _ = lp_X2_watchers_4 _ _ _ _ _ _
  simp only [lp_X2_watchers_4]
  rw [c_here H V hk]
  simp (disch := omega) only [nm_q, bs_q, on_a, on_m, on_t, ix_on, le_t, le_f, lt_t, lt_f, eq_t, eq_f, ite_b0, ite_b1, ↓reduceIte, i_0, i_1, i_2, i_3, i_4, i_5, i_6, i_7, i_8, i_9, i_10, i_11, i_12, i_13, i_14, i_15, i_16, i_18, i_20, i_22, i_24, i_30, i_31, i_32, i_40, i_48, i_50, i_51, i_52, i_57, i_60, i_64, i_65, i_66, i_67, i_97, i_99, i_100, i_122, i_239, i_240, i_255, i_256, i_304, i_400, i_401, i_704, i_999, i_1000, i_2304, i_3344, i_3648, i_4096, i_9999, i_32767]
  cases hq : hrC r k
  · rw [if_neg (by decide), ← i_0, ← bI_f, wm_mk hk _ _ (by rw [hq]; rfl)]
    rfl
  · rw [if_pos rfl, c_spies H V (hrC_lt hq)]
    simp only [bs_q]
    rw [hold_b _ (mk_256 _ (Nat.le_refl 8)) p hp, mk_tb, decide_eq_true hp, Bool.true_and]
    simp only [bs_q, ite_b0]
    cases hs : seB r k p
    · rw [if_neg (by decide), ← i_0, ← bI_f, wm_mk hk _ _ (by rw [hq, hs]; rfl)]
      rfl
    · rw [if_pos rfl, ← i_1, ← bI_t, wm_mk hk _ _ (by rw [hq, hs]; rfl)]
      rfl
