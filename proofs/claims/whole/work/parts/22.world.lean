/-! ===== the cells as the constructors leave them are the world at the law's start ===== -/
def gadOf (h0 q0 c2 q2 e4 f4 g4 q4 q5 u7 p7 k7 : Nat) (q7 : Nat) (a9 : Nat → Nat) (q9 : Nat) (a11 : Nat → Nat) (q11 : Nat) (a13 : Nat → Nat) (q13 b15 : Nat) (z15 : Nat → Nat) (y15 : Nat → Nat → Nat) (q15 : Nat) (md m0 m1 m2 m3 m4 m5 m6 m7 m8 oo : Nat) : Nat → Nat → Nat := fun g j => match g with
  | 0 => [h0, q0, c2, q2, e4, f4, g4, q4, q5, q13, b15, q15, md, m0, m1, m2, m3, m4, m5, m6, m7, m8, oo].getD j 0
  | 1 => (match j with | 0 => q7 | j + 1 => a9 (j + 1))
  | 2 => (match j with | 0 => q9 | j + 1 => a11 (j + 1))
  | 3 => (match j with | 0 => q11 | j + 1 => a13 (j + 1))
  | 16 => [u7, p7, k7].getD (j - 7) 0
  | g + 4 => (match j with | 0 => z15 g | j + 1 => y15 g (j + 1))
def idxOf : Nat → Nat → Nat := fun g j => match g with
  | 0 => [0, 1, 2, 3, 4, 5, 6, 7, 8, 48, 49, 194, 195, 196, 197, 198, 199, 200, 201, 202, 203, 204, 205].getD j 0
  | 1 => 12 + j
  | 2 => 24 + j
  | 3 => 36 + j
  | 16 => 9 + (j - 7)
  | g + 4 => 50 + 12 * g + j
def inv (i : Nat) : Nat × Nat := if i < 9 then (0, i) else if i < 12 then (16, i - 2) else if i < 48 then (1 + (i - 12) / 12, (i - 12) % 12) else if i < 50 then (0, i - 39) else if i < 194 then (4 + (i - 50) / 12, (i - 50) % 12) else (0, i - 183)
theorem inv_ok : ∀ x ∈ prs, inv (idxOf x.1 x.2) = x := by decide +kernel
/-- a house's cells at the start -/
def muH : Nat → Nat → Int32 := fun j => match j with
  | 0 => fun i => ([0, 0, 0, 0, 0, 0, 3, 0, 0, 1, 100, 0, 0, 0, 0, 1, 0] : List Int32).getD i 0
  | 7 => fun i => ([0, 0, 0, 0, -1] : List Int32).getD i 0
  | _ => fun _ => 0
/-- the memory at the law's start -/
def mu0 : Mem := fun g j => match g with
  | 0 => (match j with
    | 0 => fun i => ([0, 0, 0, 0, 0, 0, 0, 0, 0, 0, (-1)] : List Int32).getD i 0
    | 12 => fun i => ([0, 0, 0, 0, 0, 0, 0, 0, 0, 0, 0, 0, (-1), 0, 0, 0, 0, 0, 0, 0, 0, 0] : List Int32).getD i 0
    | 13 => (upd (upd (upd (upd (upd (fun _ => 0) (Int32.toNatClampNeg 1) (-1)) (Int32.toNatClampNeg 6) 1) (Int32.toNatClampNeg 7) 100) (Int32.toNatClampNeg 13) 3) (Int32.toNatClampNeg 15) 1)
    | _ => fun _ => 0)
  | _ + 1 => muH j
theorem at_l {A R : va_W} {i : Nat} {e : Nat × va_E} (h : A[i]? = some e) : (A ++ R)[i]? = some e := by
  rw [List.getElem?_append_left (List.getElem?_eq_some_iff.mp h).1]
  exact h
theorem at_r {A R : va_W} {n i : Nat} {e : Nat × va_E} (hn : A.length = n) (h : R[i]? = some e) : (A ++ R)[n + i]? = some e := by
  subst hn
  exact at_app h
theorem hs_len (G : GG) (q : Nat) (a : Nat → Nat) : (hsL G q a).length = 12 := rfl
/-- a house's cells, said by the memory -/
theorem hs_at (G : GG) (gd : Nat → Nat → Nat) (g : Nat) (q : Nat) (a : Nat → Nat) (h0 : gd g 0 = q) (h1 : ∀ j, gd g (j + 1) = a (j + 1)) {j : Nat} (hj : j < 12) : (hsL G q a)[j]? = some (gd g j, entH (gd, G.2) g j (muH j)) := by
  have e1 : gd g 1 = a 1 := h1 0
  have e2 : gd g 2 = a 2 := h1 1
  have e3 : gd g 3 = a 3 := h1 2
  have e4 : gd g 4 = a 4 := h1 3
  have e5 : gd g 5 = a 5 := h1 4
  have e6 : gd g 6 = a 6 := h1 5
  have e7 : gd g 7 = a 7 := h1 6
  have e8 : gd g 8 = a 8 := h1 7
  have e9 : gd g 9 = a 9 := h1 8
  have e10 : gd g 10 = a 10 := h1 9
  have e11 : gd g 11 = a 11 := h1 10
  rcases (show j = 0 ∨ j = 1 ∨ j = 2 ∨ j = 3 ∨ j = 4 ∨ j = 5 ∨ j = 6 ∨ j = 7 ∨ j = 8 ∨ j = 9 ∨ j = 10 ∨ j = 11 by omega) with rfl | rfl | rfl | rfl | rfl | rfl | rfl | rfl | rfl | rfl | rfl | rfl
  · show (hsL G q a)[0]? = some (gd g 0, .inr (2, [.ref (gd g 1), .ref (gd g 5), .ref (gd g 7), .ref (gd g 10), .ref (gd g 11), .int 0, .int 3, .int 0, .int 0, .int 1, .int 100, .int 0, .int 0, .int 0, .int 0, .int 1, .int 0]))
    rw [h0, e1, e5, e7, e10, e11]
    rfl
  · show (hsL G q a)[1]? = some (gd g 1, .inr (1, [.ref (gd g 2), .ref (gd g 3), .ref (gd g 4), .int 0, .int 0, .int 0]))
    rw [e1, e2, e3, e4]
    rfl
  · show (hsL G q a)[2]? = some (gd g 2, .inl (gcA G 0, 8, .inl fun _ => 0))
    rw [e2]
    rfl
  · show (hsL G q a)[3]? = some (gd g 3, .inl (gcA G 0, 8, .inl fun _ => 0))
    rw [e3]
    rfl
  · show (hsL G q a)[4]? = some (gd g 4, .inl (gcA G 0, 8, .inl fun _ => 0))
    rw [e4]
    rfl
  · show (hsL G q a)[5]? = some (gd g 5, .inr (0, [.ref (gd g 6), .int 0, .int 0]))
    rw [e5, e6]
    rfl
  · show (hsL G q a)[6]? = some (gd g 6, .inl (gcA G 0, 240, .inl fun _ => 0))
    rw [e6]
    rfl
  · show (hsL G q a)[7]? = some (gd g 7, .inr (4, [.ref (gd g 8), .ref (gd g 9), .int 0, .int 0, .int (-1)]))
    rw [e7, e8, e9]
    rfl
  · show (hsL G q a)[8]? = some (gd g 8, .inl (gcA G 0, 400, .inl fun _ => 0))
    rw [e8]
    rfl
  · show (hsL G q a)[9]? = some (gd g 9, .inl (gcA G 0, 32, .inl fun _ => 0))
    rw [e9]
    rfl
  · show (hsL G q a)[10]? = some (gd g 10, .inl (gcA G 0, 8, .inl fun _ => 0))
    rw [e10]
    rfl
  · show (hsL G q a)[11]? = some (gd g 11, .inl (gcA G 0, 9, .inl fun _ => 0))
    rw [e11]
    rfl
theorem out0 : (fun _ : Nat => (0 : Int32).toInt64) = fun _ => (0 : Int64) := funext fun _ => by decide
/-! blocks -/
theorem ps_at (G : GG) (h0 b : Nat) (z : Nat → Nat) (y : Nat → Nat → Nat) : ∀ k, k < 12 → ∀ j e, (hsL G (z k) (y k))[j]? = some e → (psL G h0 b z y)[2 + 12 * k + j]? = some e := fun k hk j e h => by
  unfold psL
  rcases (show k = 0 ∨ k = 1 ∨ k = 2 ∨ k = 3 ∨ k = 4 ∨ k = 5 ∨ k = 6 ∨ k = 7 ∨ k = 8 ∨ k = 9 ∨ k = 10 ∨ k = 11 by omega) with rfl | rfl | rfl | rfl | rfl | rfl | rfl | rfl | rfl | rfl | rfl | rfl
  · exact at_l (at_l (at_l (at_l (at_l (at_l (at_l (at_l (at_l (at_l (at_l (at_r (n := 2 + 12 * 0) (by simp only [List.length_append, hs_len, List.length_cons, List.length_nil]) h)))))))))))
  · exact at_l (at_l (at_l (at_l (at_l (at_l (at_l (at_l (at_l (at_l (at_r (n := 2 + 12 * 1) (by simp only [List.length_append, hs_len, List.length_cons, List.length_nil]) h))))))))))
  · exact at_l (at_l (at_l (at_l (at_l (at_l (at_l (at_l (at_l (at_r (n := 2 + 12 * 2) (by simp only [List.length_append, hs_len, List.length_cons, List.length_nil]) h)))))))))
  · exact at_l (at_l (at_l (at_l (at_l (at_l (at_l (at_l (at_r (n := 2 + 12 * 3) (by simp only [List.length_append, hs_len, List.length_cons, List.length_nil]) h))))))))
  · exact at_l (at_l (at_l (at_l (at_l (at_l (at_l (at_r (n := 2 + 12 * 4) (by simp only [List.length_append, hs_len, List.length_cons, List.length_nil]) h)))))))
  · exact at_l (at_l (at_l (at_l (at_l (at_l (at_r (n := 2 + 12 * 5) (by simp only [List.length_append, hs_len, List.length_cons, List.length_nil]) h))))))
  · exact at_l (at_l (at_l (at_l (at_l (at_r (n := 2 + 12 * 6) (by simp only [List.length_append, hs_len, List.length_cons, List.length_nil]) h)))))
  · exact at_l (at_l (at_l (at_l (at_r (n := 2 + 12 * 7) (by simp only [List.length_append, hs_len, List.length_cons, List.length_nil]) h))))
  · exact at_l (at_l (at_l (at_r (n := 2 + 12 * 8) (by simp only [List.length_append, hs_len, List.length_cons, List.length_nil]) h)))
  · exact at_l (at_l (at_r (n := 2 + 12 * 9) (by simp only [List.length_append, hs_len, List.length_cons, List.length_nil]) h))
  · exact at_l (at_r (n := 2 + 12 * 10) (by simp only [List.length_append, hs_len, List.length_cons, List.length_nil]) h)
  · exact at_r (n := 2 + 12 * 11) (by simp only [List.length_append, hs_len, List.length_cons, List.length_nil]) h
theorem wb_1 (G : GG) (h0 q0 c2 q2 e4 f4 g4 q4 q5 u7 p7 k7 : Nat) (q7 : Nat) (a9 : Nat → Nat) (q9 : Nat) (a11 : Nat → Nat) (q11 : Nat) (a13 : Nat → Nat) (q13 b15 : Nat) (z15 : Nat → Nat) (y15 : Nat → Nat → Nat) (q15 : Nat) (md m0 m1 m2 m3 m4 m5 m6 m7 m8 oo : Nat) {j : Nat} (hj : j < 12) : (wL G h0 q0 c2 q2 e4 f4 g4 q4 q5 u7 p7 k7 q7 a9 q9 a11 q11 a13 q13 b15 z15 y15 q15 md m0 m1 m2 m3 m4 m5 m6 m7 m8 oo)[idxOf 1 j]? = some ((gadOf h0 q0 c2 q2 e4 f4 g4 q4 q5 u7 p7 k7 q7 a9 q9 a11 q11 a13 q13 b15 z15 y15 q15 md m0 m1 m2 m3 m4 m5 m6 m7 m8 oo) 1 j, ent ((gadOf h0 q0 c2 q2 e4 f4 g4 q4 q5 u7 p7 k7 q7 a9 q9 a11 q11 a13 q13 b15 z15 y15 q15 md m0 m1 m2 m3 m4 m5 m6 m7 m8 oo), G.2) 1 j (mu0 1 j)) := by
  show (wL G h0 q0 c2 q2 e4 f4 g4 q4 q5 u7 p7 k7 q7 a9 q9 a11 q11 a13 q13 b15 z15 y15 q15 md m0 m1 m2 m3 m4 m5 m6 m7 m8 oo)[12 + j]? = _
  unfold wL
  exact at_l (at_l (at_l (at_l (at_l (at_l (at_r (n := 12) (by simp only [List.length_append, hs_len, List.length_cons, List.length_nil]) (hs_at G (gadOf h0 q0 c2 q2 e4 f4 g4 q4 q5 u7 p7 k7 q7 a9 q9 a11 q11 a13 q13 b15 z15 y15 q15 md m0 m1 m2 m3 m4 m5 m6 m7 m8 oo) 1 q7 a9 rfl (fun _ => rfl) hj)))))))
theorem wb_2 (G : GG) (h0 q0 c2 q2 e4 f4 g4 q4 q5 u7 p7 k7 : Nat) (q7 : Nat) (a9 : Nat → Nat) (q9 : Nat) (a11 : Nat → Nat) (q11 : Nat) (a13 : Nat → Nat) (q13 b15 : Nat) (z15 : Nat → Nat) (y15 : Nat → Nat → Nat) (q15 : Nat) (md m0 m1 m2 m3 m4 m5 m6 m7 m8 oo : Nat) {j : Nat} (hj : j < 12) : (wL G h0 q0 c2 q2 e4 f4 g4 q4 q5 u7 p7 k7 q7 a9 q9 a11 q11 a13 q13 b15 z15 y15 q15 md m0 m1 m2 m3 m4 m5 m6 m7 m8 oo)[idxOf 2 j]? = some ((gadOf h0 q0 c2 q2 e4 f4 g4 q4 q5 u7 p7 k7 q7 a9 q9 a11 q11 a13 q13 b15 z15 y15 q15 md m0 m1 m2 m3 m4 m5 m6 m7 m8 oo) 2 j, ent ((gadOf h0 q0 c2 q2 e4 f4 g4 q4 q5 u7 p7 k7 q7 a9 q9 a11 q11 a13 q13 b15 z15 y15 q15 md m0 m1 m2 m3 m4 m5 m6 m7 m8 oo), G.2) 2 j (mu0 2 j)) := by
  show (wL G h0 q0 c2 q2 e4 f4 g4 q4 q5 u7 p7 k7 q7 a9 q9 a11 q11 a13 q13 b15 z15 y15 q15 md m0 m1 m2 m3 m4 m5 m6 m7 m8 oo)[24 + j]? = _
  unfold wL
  exact at_l (at_l (at_l (at_l (at_l (at_r (n := 24) (by simp only [List.length_append, hs_len, List.length_cons, List.length_nil]) (hs_at G (gadOf h0 q0 c2 q2 e4 f4 g4 q4 q5 u7 p7 k7 q7 a9 q9 a11 q11 a13 q13 b15 z15 y15 q15 md m0 m1 m2 m3 m4 m5 m6 m7 m8 oo) 2 q9 a11 rfl (fun _ => rfl) hj))))))
theorem wb_3 (G : GG) (h0 q0 c2 q2 e4 f4 g4 q4 q5 u7 p7 k7 : Nat) (q7 : Nat) (a9 : Nat → Nat) (q9 : Nat) (a11 : Nat → Nat) (q11 : Nat) (a13 : Nat → Nat) (q13 b15 : Nat) (z15 : Nat → Nat) (y15 : Nat → Nat → Nat) (q15 : Nat) (md m0 m1 m2 m3 m4 m5 m6 m7 m8 oo : Nat) {j : Nat} (hj : j < 12) : (wL G h0 q0 c2 q2 e4 f4 g4 q4 q5 u7 p7 k7 q7 a9 q9 a11 q11 a13 q13 b15 z15 y15 q15 md m0 m1 m2 m3 m4 m5 m6 m7 m8 oo)[idxOf 3 j]? = some ((gadOf h0 q0 c2 q2 e4 f4 g4 q4 q5 u7 p7 k7 q7 a9 q9 a11 q11 a13 q13 b15 z15 y15 q15 md m0 m1 m2 m3 m4 m5 m6 m7 m8 oo) 3 j, ent ((gadOf h0 q0 c2 q2 e4 f4 g4 q4 q5 u7 p7 k7 q7 a9 q9 a11 q11 a13 q13 b15 z15 y15 q15 md m0 m1 m2 m3 m4 m5 m6 m7 m8 oo), G.2) 3 j (mu0 3 j)) := by
  show (wL G h0 q0 c2 q2 e4 f4 g4 q4 q5 u7 p7 k7 q7 a9 q9 a11 q11 a13 q13 b15 z15 y15 q15 md m0 m1 m2 m3 m4 m5 m6 m7 m8 oo)[36 + j]? = _
  unfold wL
  exact at_l (at_l (at_l (at_l (at_r (n := 36) (by simp only [List.length_append, hs_len, List.length_cons, List.length_nil]) (hs_at G (gadOf h0 q0 c2 q2 e4 f4 g4 q4 q5 u7 p7 k7 q7 a9 q9 a11 q11 a13 q13 b15 z15 y15 q15 md m0 m1 m2 m3 m4 m5 m6 m7 m8 oo) 3 q11 a13 rfl (fun _ => rfl) hj)))))
theorem wb_4 (G : GG) (h0 q0 c2 q2 e4 f4 g4 q4 q5 u7 p7 k7 : Nat) (q7 : Nat) (a9 : Nat → Nat) (q9 : Nat) (a11 : Nat → Nat) (q11 : Nat) (a13 : Nat → Nat) (q13 b15 : Nat) (z15 : Nat → Nat) (y15 : Nat → Nat → Nat) (q15 : Nat) (md m0 m1 m2 m3 m4 m5 m6 m7 m8 oo : Nat) {j : Nat} (hj : j < 12) : (wL G h0 q0 c2 q2 e4 f4 g4 q4 q5 u7 p7 k7 q7 a9 q9 a11 q11 a13 q13 b15 z15 y15 q15 md m0 m1 m2 m3 m4 m5 m6 m7 m8 oo)[idxOf 4 j]? = some ((gadOf h0 q0 c2 q2 e4 f4 g4 q4 q5 u7 p7 k7 q7 a9 q9 a11 q11 a13 q13 b15 z15 y15 q15 md m0 m1 m2 m3 m4 m5 m6 m7 m8 oo) 4 j, ent ((gadOf h0 q0 c2 q2 e4 f4 g4 q4 q5 u7 p7 k7 q7 a9 q9 a11 q11 a13 q13 b15 z15 y15 q15 md m0 m1 m2 m3 m4 m5 m6 m7 m8 oo), G.2) 4 j (mu0 4 j)) := by
  rw [show idxOf 4 j = 48 + (2 + 12 * 0 + j) by show 50 + 12 * 0 + j = _; omega]
  unfold wL
  exact at_l (at_l (at_l (at_r (n := 48) (by simp only [List.length_append, hs_len, List.length_cons, List.length_nil]) (ps_at G q13 b15 z15 y15 0 (by decide) _ _ (hs_at G (gadOf h0 q0 c2 q2 e4 f4 g4 q4 q5 u7 p7 k7 q7 a9 q9 a11 q11 a13 q13 b15 z15 y15 q15 md m0 m1 m2 m3 m4 m5 m6 m7 m8 oo) 4 (z15 0) (y15 0) rfl (fun _ => rfl) hj)))))
theorem wb_5 (G : GG) (h0 q0 c2 q2 e4 f4 g4 q4 q5 u7 p7 k7 : Nat) (q7 : Nat) (a9 : Nat → Nat) (q9 : Nat) (a11 : Nat → Nat) (q11 : Nat) (a13 : Nat → Nat) (q13 b15 : Nat) (z15 : Nat → Nat) (y15 : Nat → Nat → Nat) (q15 : Nat) (md m0 m1 m2 m3 m4 m5 m6 m7 m8 oo : Nat) {j : Nat} (hj : j < 12) : (wL G h0 q0 c2 q2 e4 f4 g4 q4 q5 u7 p7 k7 q7 a9 q9 a11 q11 a13 q13 b15 z15 y15 q15 md m0 m1 m2 m3 m4 m5 m6 m7 m8 oo)[idxOf 5 j]? = some ((gadOf h0 q0 c2 q2 e4 f4 g4 q4 q5 u7 p7 k7 q7 a9 q9 a11 q11 a13 q13 b15 z15 y15 q15 md m0 m1 m2 m3 m4 m5 m6 m7 m8 oo) 5 j, ent ((gadOf h0 q0 c2 q2 e4 f4 g4 q4 q5 u7 p7 k7 q7 a9 q9 a11 q11 a13 q13 b15 z15 y15 q15 md m0 m1 m2 m3 m4 m5 m6 m7 m8 oo), G.2) 5 j (mu0 5 j)) := by
  rw [show idxOf 5 j = 48 + (2 + 12 * 1 + j) by show 50 + 12 * 1 + j = _; omega]
  unfold wL
  exact at_l (at_l (at_l (at_r (n := 48) (by simp only [List.length_append, hs_len, List.length_cons, List.length_nil]) (ps_at G q13 b15 z15 y15 1 (by decide) _ _ (hs_at G (gadOf h0 q0 c2 q2 e4 f4 g4 q4 q5 u7 p7 k7 q7 a9 q9 a11 q11 a13 q13 b15 z15 y15 q15 md m0 m1 m2 m3 m4 m5 m6 m7 m8 oo) 5 (z15 1) (y15 1) rfl (fun _ => rfl) hj)))))
theorem wb_6 (G : GG) (h0 q0 c2 q2 e4 f4 g4 q4 q5 u7 p7 k7 : Nat) (q7 : Nat) (a9 : Nat → Nat) (q9 : Nat) (a11 : Nat → Nat) (q11 : Nat) (a13 : Nat → Nat) (q13 b15 : Nat) (z15 : Nat → Nat) (y15 : Nat → Nat → Nat) (q15 : Nat) (md m0 m1 m2 m3 m4 m5 m6 m7 m8 oo : Nat) {j : Nat} (hj : j < 12) : (wL G h0 q0 c2 q2 e4 f4 g4 q4 q5 u7 p7 k7 q7 a9 q9 a11 q11 a13 q13 b15 z15 y15 q15 md m0 m1 m2 m3 m4 m5 m6 m7 m8 oo)[idxOf 6 j]? = some ((gadOf h0 q0 c2 q2 e4 f4 g4 q4 q5 u7 p7 k7 q7 a9 q9 a11 q11 a13 q13 b15 z15 y15 q15 md m0 m1 m2 m3 m4 m5 m6 m7 m8 oo) 6 j, ent ((gadOf h0 q0 c2 q2 e4 f4 g4 q4 q5 u7 p7 k7 q7 a9 q9 a11 q11 a13 q13 b15 z15 y15 q15 md m0 m1 m2 m3 m4 m5 m6 m7 m8 oo), G.2) 6 j (mu0 6 j)) := by
  rw [show idxOf 6 j = 48 + (2 + 12 * 2 + j) by show 50 + 12 * 2 + j = _; omega]
  unfold wL
  exact at_l (at_l (at_l (at_r (n := 48) (by simp only [List.length_append, hs_len, List.length_cons, List.length_nil]) (ps_at G q13 b15 z15 y15 2 (by decide) _ _ (hs_at G (gadOf h0 q0 c2 q2 e4 f4 g4 q4 q5 u7 p7 k7 q7 a9 q9 a11 q11 a13 q13 b15 z15 y15 q15 md m0 m1 m2 m3 m4 m5 m6 m7 m8 oo) 6 (z15 2) (y15 2) rfl (fun _ => rfl) hj)))))
theorem wb_7 (G : GG) (h0 q0 c2 q2 e4 f4 g4 q4 q5 u7 p7 k7 : Nat) (q7 : Nat) (a9 : Nat → Nat) (q9 : Nat) (a11 : Nat → Nat) (q11 : Nat) (a13 : Nat → Nat) (q13 b15 : Nat) (z15 : Nat → Nat) (y15 : Nat → Nat → Nat) (q15 : Nat) (md m0 m1 m2 m3 m4 m5 m6 m7 m8 oo : Nat) {j : Nat} (hj : j < 12) : (wL G h0 q0 c2 q2 e4 f4 g4 q4 q5 u7 p7 k7 q7 a9 q9 a11 q11 a13 q13 b15 z15 y15 q15 md m0 m1 m2 m3 m4 m5 m6 m7 m8 oo)[idxOf 7 j]? = some ((gadOf h0 q0 c2 q2 e4 f4 g4 q4 q5 u7 p7 k7 q7 a9 q9 a11 q11 a13 q13 b15 z15 y15 q15 md m0 m1 m2 m3 m4 m5 m6 m7 m8 oo) 7 j, ent ((gadOf h0 q0 c2 q2 e4 f4 g4 q4 q5 u7 p7 k7 q7 a9 q9 a11 q11 a13 q13 b15 z15 y15 q15 md m0 m1 m2 m3 m4 m5 m6 m7 m8 oo), G.2) 7 j (mu0 7 j)) := by
  rw [show idxOf 7 j = 48 + (2 + 12 * 3 + j) by show 50 + 12 * 3 + j = _; omega]
  unfold wL
  exact at_l (at_l (at_l (at_r (n := 48) (by simp only [List.length_append, hs_len, List.length_cons, List.length_nil]) (ps_at G q13 b15 z15 y15 3 (by decide) _ _ (hs_at G (gadOf h0 q0 c2 q2 e4 f4 g4 q4 q5 u7 p7 k7 q7 a9 q9 a11 q11 a13 q13 b15 z15 y15 q15 md m0 m1 m2 m3 m4 m5 m6 m7 m8 oo) 7 (z15 3) (y15 3) rfl (fun _ => rfl) hj)))))
theorem wb_8 (G : GG) (h0 q0 c2 q2 e4 f4 g4 q4 q5 u7 p7 k7 : Nat) (q7 : Nat) (a9 : Nat → Nat) (q9 : Nat) (a11 : Nat → Nat) (q11 : Nat) (a13 : Nat → Nat) (q13 b15 : Nat) (z15 : Nat → Nat) (y15 : Nat → Nat → Nat) (q15 : Nat) (md m0 m1 m2 m3 m4 m5 m6 m7 m8 oo : Nat) {j : Nat} (hj : j < 12) : (wL G h0 q0 c2 q2 e4 f4 g4 q4 q5 u7 p7 k7 q7 a9 q9 a11 q11 a13 q13 b15 z15 y15 q15 md m0 m1 m2 m3 m4 m5 m6 m7 m8 oo)[idxOf 8 j]? = some ((gadOf h0 q0 c2 q2 e4 f4 g4 q4 q5 u7 p7 k7 q7 a9 q9 a11 q11 a13 q13 b15 z15 y15 q15 md m0 m1 m2 m3 m4 m5 m6 m7 m8 oo) 8 j, ent ((gadOf h0 q0 c2 q2 e4 f4 g4 q4 q5 u7 p7 k7 q7 a9 q9 a11 q11 a13 q13 b15 z15 y15 q15 md m0 m1 m2 m3 m4 m5 m6 m7 m8 oo), G.2) 8 j (mu0 8 j)) := by
  rw [show idxOf 8 j = 48 + (2 + 12 * 4 + j) by show 50 + 12 * 4 + j = _; omega]
  unfold wL
  exact at_l (at_l (at_l (at_r (n := 48) (by simp only [List.length_append, hs_len, List.length_cons, List.length_nil]) (ps_at G q13 b15 z15 y15 4 (by decide) _ _ (hs_at G (gadOf h0 q0 c2 q2 e4 f4 g4 q4 q5 u7 p7 k7 q7 a9 q9 a11 q11 a13 q13 b15 z15 y15 q15 md m0 m1 m2 m3 m4 m5 m6 m7 m8 oo) 8 (z15 4) (y15 4) rfl (fun _ => rfl) hj)))))
theorem wb_9 (G : GG) (h0 q0 c2 q2 e4 f4 g4 q4 q5 u7 p7 k7 : Nat) (q7 : Nat) (a9 : Nat → Nat) (q9 : Nat) (a11 : Nat → Nat) (q11 : Nat) (a13 : Nat → Nat) (q13 b15 : Nat) (z15 : Nat → Nat) (y15 : Nat → Nat → Nat) (q15 : Nat) (md m0 m1 m2 m3 m4 m5 m6 m7 m8 oo : Nat) {j : Nat} (hj : j < 12) : (wL G h0 q0 c2 q2 e4 f4 g4 q4 q5 u7 p7 k7 q7 a9 q9 a11 q11 a13 q13 b15 z15 y15 q15 md m0 m1 m2 m3 m4 m5 m6 m7 m8 oo)[idxOf 9 j]? = some ((gadOf h0 q0 c2 q2 e4 f4 g4 q4 q5 u7 p7 k7 q7 a9 q9 a11 q11 a13 q13 b15 z15 y15 q15 md m0 m1 m2 m3 m4 m5 m6 m7 m8 oo) 9 j, ent ((gadOf h0 q0 c2 q2 e4 f4 g4 q4 q5 u7 p7 k7 q7 a9 q9 a11 q11 a13 q13 b15 z15 y15 q15 md m0 m1 m2 m3 m4 m5 m6 m7 m8 oo), G.2) 9 j (mu0 9 j)) := by
  rw [show idxOf 9 j = 48 + (2 + 12 * 5 + j) by show 50 + 12 * 5 + j = _; omega]
  unfold wL
  exact at_l (at_l (at_l (at_r (n := 48) (by simp only [List.length_append, hs_len, List.length_cons, List.length_nil]) (ps_at G q13 b15 z15 y15 5 (by decide) _ _ (hs_at G (gadOf h0 q0 c2 q2 e4 f4 g4 q4 q5 u7 p7 k7 q7 a9 q9 a11 q11 a13 q13 b15 z15 y15 q15 md m0 m1 m2 m3 m4 m5 m6 m7 m8 oo) 9 (z15 5) (y15 5) rfl (fun _ => rfl) hj)))))
theorem wb_10 (G : GG) (h0 q0 c2 q2 e4 f4 g4 q4 q5 u7 p7 k7 : Nat) (q7 : Nat) (a9 : Nat → Nat) (q9 : Nat) (a11 : Nat → Nat) (q11 : Nat) (a13 : Nat → Nat) (q13 b15 : Nat) (z15 : Nat → Nat) (y15 : Nat → Nat → Nat) (q15 : Nat) (md m0 m1 m2 m3 m4 m5 m6 m7 m8 oo : Nat) {j : Nat} (hj : j < 12) : (wL G h0 q0 c2 q2 e4 f4 g4 q4 q5 u7 p7 k7 q7 a9 q9 a11 q11 a13 q13 b15 z15 y15 q15 md m0 m1 m2 m3 m4 m5 m6 m7 m8 oo)[idxOf 10 j]? = some ((gadOf h0 q0 c2 q2 e4 f4 g4 q4 q5 u7 p7 k7 q7 a9 q9 a11 q11 a13 q13 b15 z15 y15 q15 md m0 m1 m2 m3 m4 m5 m6 m7 m8 oo) 10 j, ent ((gadOf h0 q0 c2 q2 e4 f4 g4 q4 q5 u7 p7 k7 q7 a9 q9 a11 q11 a13 q13 b15 z15 y15 q15 md m0 m1 m2 m3 m4 m5 m6 m7 m8 oo), G.2) 10 j (mu0 10 j)) := by
  rw [show idxOf 10 j = 48 + (2 + 12 * 6 + j) by show 50 + 12 * 6 + j = _; omega]
  unfold wL
  exact at_l (at_l (at_l (at_r (n := 48) (by simp only [List.length_append, hs_len, List.length_cons, List.length_nil]) (ps_at G q13 b15 z15 y15 6 (by decide) _ _ (hs_at G (gadOf h0 q0 c2 q2 e4 f4 g4 q4 q5 u7 p7 k7 q7 a9 q9 a11 q11 a13 q13 b15 z15 y15 q15 md m0 m1 m2 m3 m4 m5 m6 m7 m8 oo) 10 (z15 6) (y15 6) rfl (fun _ => rfl) hj)))))
theorem wb_11 (G : GG) (h0 q0 c2 q2 e4 f4 g4 q4 q5 u7 p7 k7 : Nat) (q7 : Nat) (a9 : Nat → Nat) (q9 : Nat) (a11 : Nat → Nat) (q11 : Nat) (a13 : Nat → Nat) (q13 b15 : Nat) (z15 : Nat → Nat) (y15 : Nat → Nat → Nat) (q15 : Nat) (md m0 m1 m2 m3 m4 m5 m6 m7 m8 oo : Nat) {j : Nat} (hj : j < 12) : (wL G h0 q0 c2 q2 e4 f4 g4 q4 q5 u7 p7 k7 q7 a9 q9 a11 q11 a13 q13 b15 z15 y15 q15 md m0 m1 m2 m3 m4 m5 m6 m7 m8 oo)[idxOf 11 j]? = some ((gadOf h0 q0 c2 q2 e4 f4 g4 q4 q5 u7 p7 k7 q7 a9 q9 a11 q11 a13 q13 b15 z15 y15 q15 md m0 m1 m2 m3 m4 m5 m6 m7 m8 oo) 11 j, ent ((gadOf h0 q0 c2 q2 e4 f4 g4 q4 q5 u7 p7 k7 q7 a9 q9 a11 q11 a13 q13 b15 z15 y15 q15 md m0 m1 m2 m3 m4 m5 m6 m7 m8 oo), G.2) 11 j (mu0 11 j)) := by
  rw [show idxOf 11 j = 48 + (2 + 12 * 7 + j) by show 50 + 12 * 7 + j = _; omega]
  unfold wL
  exact at_l (at_l (at_l (at_r (n := 48) (by simp only [List.length_append, hs_len, List.length_cons, List.length_nil]) (ps_at G q13 b15 z15 y15 7 (by decide) _ _ (hs_at G (gadOf h0 q0 c2 q2 e4 f4 g4 q4 q5 u7 p7 k7 q7 a9 q9 a11 q11 a13 q13 b15 z15 y15 q15 md m0 m1 m2 m3 m4 m5 m6 m7 m8 oo) 11 (z15 7) (y15 7) rfl (fun _ => rfl) hj)))))
theorem wb_12 (G : GG) (h0 q0 c2 q2 e4 f4 g4 q4 q5 u7 p7 k7 : Nat) (q7 : Nat) (a9 : Nat → Nat) (q9 : Nat) (a11 : Nat → Nat) (q11 : Nat) (a13 : Nat → Nat) (q13 b15 : Nat) (z15 : Nat → Nat) (y15 : Nat → Nat → Nat) (q15 : Nat) (md m0 m1 m2 m3 m4 m5 m6 m7 m8 oo : Nat) {j : Nat} (hj : j < 12) : (wL G h0 q0 c2 q2 e4 f4 g4 q4 q5 u7 p7 k7 q7 a9 q9 a11 q11 a13 q13 b15 z15 y15 q15 md m0 m1 m2 m3 m4 m5 m6 m7 m8 oo)[idxOf 12 j]? = some ((gadOf h0 q0 c2 q2 e4 f4 g4 q4 q5 u7 p7 k7 q7 a9 q9 a11 q11 a13 q13 b15 z15 y15 q15 md m0 m1 m2 m3 m4 m5 m6 m7 m8 oo) 12 j, ent ((gadOf h0 q0 c2 q2 e4 f4 g4 q4 q5 u7 p7 k7 q7 a9 q9 a11 q11 a13 q13 b15 z15 y15 q15 md m0 m1 m2 m3 m4 m5 m6 m7 m8 oo), G.2) 12 j (mu0 12 j)) := by
  rw [show idxOf 12 j = 48 + (2 + 12 * 8 + j) by show 50 + 12 * 8 + j = _; omega]
  unfold wL
  exact at_l (at_l (at_l (at_r (n := 48) (by simp only [List.length_append, hs_len, List.length_cons, List.length_nil]) (ps_at G q13 b15 z15 y15 8 (by decide) _ _ (hs_at G (gadOf h0 q0 c2 q2 e4 f4 g4 q4 q5 u7 p7 k7 q7 a9 q9 a11 q11 a13 q13 b15 z15 y15 q15 md m0 m1 m2 m3 m4 m5 m6 m7 m8 oo) 12 (z15 8) (y15 8) rfl (fun _ => rfl) hj)))))
theorem wb_13 (G : GG) (h0 q0 c2 q2 e4 f4 g4 q4 q5 u7 p7 k7 : Nat) (q7 : Nat) (a9 : Nat → Nat) (q9 : Nat) (a11 : Nat → Nat) (q11 : Nat) (a13 : Nat → Nat) (q13 b15 : Nat) (z15 : Nat → Nat) (y15 : Nat → Nat → Nat) (q15 : Nat) (md m0 m1 m2 m3 m4 m5 m6 m7 m8 oo : Nat) {j : Nat} (hj : j < 12) : (wL G h0 q0 c2 q2 e4 f4 g4 q4 q5 u7 p7 k7 q7 a9 q9 a11 q11 a13 q13 b15 z15 y15 q15 md m0 m1 m2 m3 m4 m5 m6 m7 m8 oo)[idxOf 13 j]? = some ((gadOf h0 q0 c2 q2 e4 f4 g4 q4 q5 u7 p7 k7 q7 a9 q9 a11 q11 a13 q13 b15 z15 y15 q15 md m0 m1 m2 m3 m4 m5 m6 m7 m8 oo) 13 j, ent ((gadOf h0 q0 c2 q2 e4 f4 g4 q4 q5 u7 p7 k7 q7 a9 q9 a11 q11 a13 q13 b15 z15 y15 q15 md m0 m1 m2 m3 m4 m5 m6 m7 m8 oo), G.2) 13 j (mu0 13 j)) := by
  rw [show idxOf 13 j = 48 + (2 + 12 * 9 + j) by show 50 + 12 * 9 + j = _; omega]
  unfold wL
  exact at_l (at_l (at_l (at_r (n := 48) (by simp only [List.length_append, hs_len, List.length_cons, List.length_nil]) (ps_at G q13 b15 z15 y15 9 (by decide) _ _ (hs_at G (gadOf h0 q0 c2 q2 e4 f4 g4 q4 q5 u7 p7 k7 q7 a9 q9 a11 q11 a13 q13 b15 z15 y15 q15 md m0 m1 m2 m3 m4 m5 m6 m7 m8 oo) 13 (z15 9) (y15 9) rfl (fun _ => rfl) hj)))))
theorem wb_14 (G : GG) (h0 q0 c2 q2 e4 f4 g4 q4 q5 u7 p7 k7 : Nat) (q7 : Nat) (a9 : Nat → Nat) (q9 : Nat) (a11 : Nat → Nat) (q11 : Nat) (a13 : Nat → Nat) (q13 b15 : Nat) (z15 : Nat → Nat) (y15 : Nat → Nat → Nat) (q15 : Nat) (md m0 m1 m2 m3 m4 m5 m6 m7 m8 oo : Nat) {j : Nat} (hj : j < 12) : (wL G h0 q0 c2 q2 e4 f4 g4 q4 q5 u7 p7 k7 q7 a9 q9 a11 q11 a13 q13 b15 z15 y15 q15 md m0 m1 m2 m3 m4 m5 m6 m7 m8 oo)[idxOf 14 j]? = some ((gadOf h0 q0 c2 q2 e4 f4 g4 q4 q5 u7 p7 k7 q7 a9 q9 a11 q11 a13 q13 b15 z15 y15 q15 md m0 m1 m2 m3 m4 m5 m6 m7 m8 oo) 14 j, ent ((gadOf h0 q0 c2 q2 e4 f4 g4 q4 q5 u7 p7 k7 q7 a9 q9 a11 q11 a13 q13 b15 z15 y15 q15 md m0 m1 m2 m3 m4 m5 m6 m7 m8 oo), G.2) 14 j (mu0 14 j)) := by
  rw [show idxOf 14 j = 48 + (2 + 12 * 10 + j) by show 50 + 12 * 10 + j = _; omega]
  unfold wL
  exact at_l (at_l (at_l (at_r (n := 48) (by simp only [List.length_append, hs_len, List.length_cons, List.length_nil]) (ps_at G q13 b15 z15 y15 10 (by decide) _ _ (hs_at G (gadOf h0 q0 c2 q2 e4 f4 g4 q4 q5 u7 p7 k7 q7 a9 q9 a11 q11 a13 q13 b15 z15 y15 q15 md m0 m1 m2 m3 m4 m5 m6 m7 m8 oo) 14 (z15 10) (y15 10) rfl (fun _ => rfl) hj)))))
theorem wb_15 (G : GG) (h0 q0 c2 q2 e4 f4 g4 q4 q5 u7 p7 k7 : Nat) (q7 : Nat) (a9 : Nat → Nat) (q9 : Nat) (a11 : Nat → Nat) (q11 : Nat) (a13 : Nat → Nat) (q13 b15 : Nat) (z15 : Nat → Nat) (y15 : Nat → Nat → Nat) (q15 : Nat) (md m0 m1 m2 m3 m4 m5 m6 m7 m8 oo : Nat) {j : Nat} (hj : j < 12) : (wL G h0 q0 c2 q2 e4 f4 g4 q4 q5 u7 p7 k7 q7 a9 q9 a11 q11 a13 q13 b15 z15 y15 q15 md m0 m1 m2 m3 m4 m5 m6 m7 m8 oo)[idxOf 15 j]? = some ((gadOf h0 q0 c2 q2 e4 f4 g4 q4 q5 u7 p7 k7 q7 a9 q9 a11 q11 a13 q13 b15 z15 y15 q15 md m0 m1 m2 m3 m4 m5 m6 m7 m8 oo) 15 j, ent ((gadOf h0 q0 c2 q2 e4 f4 g4 q4 q5 u7 p7 k7 q7 a9 q9 a11 q11 a13 q13 b15 z15 y15 q15 md m0 m1 m2 m3 m4 m5 m6 m7 m8 oo), G.2) 15 j (mu0 15 j)) := by
  rw [show idxOf 15 j = 48 + (2 + 12 * 11 + j) by show 50 + 12 * 11 + j = _; omega]
  unfold wL
  exact at_l (at_l (at_l (at_r (n := 48) (by simp only [List.length_append, hs_len, List.length_cons, List.length_nil]) (ps_at G q13 b15 z15 y15 11 (by decide) _ _ (hs_at G (gadOf h0 q0 c2 q2 e4 f4 g4 q4 q5 u7 p7 k7 q7 a9 q9 a11 q11 a13 q13 b15 z15 y15 q15 md m0 m1 m2 m3 m4 m5 m6 m7 m8 oo) 15 (z15 11) (y15 11) rfl (fun _ => rfl) hj)))))
theorem wz_0 (G : GG) (h0 q0 c2 q2 e4 f4 g4 q4 q5 u7 p7 k7 : Nat) (q7 : Nat) (a9 : Nat → Nat) (q9 : Nat) (a11 : Nat → Nat) (q11 : Nat) (a13 : Nat → Nat) (q13 b15 : Nat) (z15 : Nat → Nat) (y15 : Nat → Nat → Nat) (q15 : Nat) (md m0 m1 m2 m3 m4 m5 m6 m7 m8 oo : Nat) : (wL G h0 q0 c2 q2 e4 f4 g4 q4 q5 u7 p7 k7 q7 a9 q9 a11 q11 a13 q13 b15 z15 y15 q15 md m0 m1 m2 m3 m4 m5 m6 m7 m8 oo)[idxOf 0 0]? = some ((gadOf h0 q0 c2 q2 e4 f4 g4 q4 q5 u7 p7 k7 q7 a9 q9 a11 q11 a13 q13 b15 z15 y15 q15 md m0 m1 m2 m3 m4 m5 m6 m7 m8 oo) 0 0, ent ((gadOf h0 q0 c2 q2 e4 f4 g4 q4 q5 u7 p7 k7 q7 a9 q9 a11 q11 a13 q13 b15 z15 y15 q15 md m0 m1 m2 m3 m4 m5 m6 m7 m8 oo), G.2) 0 0 (mu0 0 0)) := by
  show (wL G h0 q0 c2 q2 e4 f4 g4 q4 q5 u7 p7 k7 q7 a9 q9 a11 q11 a13 q13 b15 z15 y15 q15 md m0 m1 m2 m3 m4 m5 m6 m7 m8 oo)[0]? = _
  unfold wL
  exact at_l (at_l (at_l (at_l (at_l (at_l (at_l (rfl)))))))
theorem wz_1 (G : GG) (h0 q0 c2 q2 e4 f4 g4 q4 q5 u7 p7 k7 : Nat) (q7 : Nat) (a9 : Nat → Nat) (q9 : Nat) (a11 : Nat → Nat) (q11 : Nat) (a13 : Nat → Nat) (q13 b15 : Nat) (z15 : Nat → Nat) (y15 : Nat → Nat → Nat) (q15 : Nat) (md m0 m1 m2 m3 m4 m5 m6 m7 m8 oo : Nat) : (wL G h0 q0 c2 q2 e4 f4 g4 q4 q5 u7 p7 k7 q7 a9 q9 a11 q11 a13 q13 b15 z15 y15 q15 md m0 m1 m2 m3 m4 m5 m6 m7 m8 oo)[idxOf 0 1]? = some ((gadOf h0 q0 c2 q2 e4 f4 g4 q4 q5 u7 p7 k7 q7 a9 q9 a11 q11 a13 q13 b15 z15 y15 q15 md m0 m1 m2 m3 m4 m5 m6 m7 m8 oo) 0 1, ent ((gadOf h0 q0 c2 q2 e4 f4 g4 q4 q5 u7 p7 k7 q7 a9 q9 a11 q11 a13 q13 b15 z15 y15 q15 md m0 m1 m2 m3 m4 m5 m6 m7 m8 oo), G.2) 0 1 (mu0 0 1)) := by
  show (wL G h0 q0 c2 q2 e4 f4 g4 q4 q5 u7 p7 k7 q7 a9 q9 a11 q11 a13 q13 b15 z15 y15 q15 md m0 m1 m2 m3 m4 m5 m6 m7 m8 oo)[1]? = _
  unfold wL
  exact at_l (at_l (at_l (at_l (at_l (at_l (at_l (rfl)))))))
theorem wz_2 (G : GG) (h0 q0 c2 q2 e4 f4 g4 q4 q5 u7 p7 k7 : Nat) (q7 : Nat) (a9 : Nat → Nat) (q9 : Nat) (a11 : Nat → Nat) (q11 : Nat) (a13 : Nat → Nat) (q13 b15 : Nat) (z15 : Nat → Nat) (y15 : Nat → Nat → Nat) (q15 : Nat) (md m0 m1 m2 m3 m4 m5 m6 m7 m8 oo : Nat) : (wL G h0 q0 c2 q2 e4 f4 g4 q4 q5 u7 p7 k7 q7 a9 q9 a11 q11 a13 q13 b15 z15 y15 q15 md m0 m1 m2 m3 m4 m5 m6 m7 m8 oo)[idxOf 0 2]? = some ((gadOf h0 q0 c2 q2 e4 f4 g4 q4 q5 u7 p7 k7 q7 a9 q9 a11 q11 a13 q13 b15 z15 y15 q15 md m0 m1 m2 m3 m4 m5 m6 m7 m8 oo) 0 2, ent ((gadOf h0 q0 c2 q2 e4 f4 g4 q4 q5 u7 p7 k7 q7 a9 q9 a11 q11 a13 q13 b15 z15 y15 q15 md m0 m1 m2 m3 m4 m5 m6 m7 m8 oo), G.2) 0 2 (mu0 0 2)) := by
  show (wL G h0 q0 c2 q2 e4 f4 g4 q4 q5 u7 p7 k7 q7 a9 q9 a11 q11 a13 q13 b15 z15 y15 q15 md m0 m1 m2 m3 m4 m5 m6 m7 m8 oo)[2]? = _
  unfold wL
  exact at_l (at_l (at_l (at_l (at_l (at_l (at_l (rfl)))))))
theorem wz_3 (G : GG) (h0 q0 c2 q2 e4 f4 g4 q4 q5 u7 p7 k7 : Nat) (q7 : Nat) (a9 : Nat → Nat) (q9 : Nat) (a11 : Nat → Nat) (q11 : Nat) (a13 : Nat → Nat) (q13 b15 : Nat) (z15 : Nat → Nat) (y15 : Nat → Nat → Nat) (q15 : Nat) (md m0 m1 m2 m3 m4 m5 m6 m7 m8 oo : Nat) : (wL G h0 q0 c2 q2 e4 f4 g4 q4 q5 u7 p7 k7 q7 a9 q9 a11 q11 a13 q13 b15 z15 y15 q15 md m0 m1 m2 m3 m4 m5 m6 m7 m8 oo)[idxOf 0 3]? = some ((gadOf h0 q0 c2 q2 e4 f4 g4 q4 q5 u7 p7 k7 q7 a9 q9 a11 q11 a13 q13 b15 z15 y15 q15 md m0 m1 m2 m3 m4 m5 m6 m7 m8 oo) 0 3, ent ((gadOf h0 q0 c2 q2 e4 f4 g4 q4 q5 u7 p7 k7 q7 a9 q9 a11 q11 a13 q13 b15 z15 y15 q15 md m0 m1 m2 m3 m4 m5 m6 m7 m8 oo), G.2) 0 3 (mu0 0 3)) := by
  show (wL G h0 q0 c2 q2 e4 f4 g4 q4 q5 u7 p7 k7 q7 a9 q9 a11 q11 a13 q13 b15 z15 y15 q15 md m0 m1 m2 m3 m4 m5 m6 m7 m8 oo)[3]? = _
  unfold wL
  exact at_l (at_l (at_l (at_l (at_l (at_l (at_l (rfl)))))))
theorem wz_4 (G : GG) (h0 q0 c2 q2 e4 f4 g4 q4 q5 u7 p7 k7 : Nat) (q7 : Nat) (a9 : Nat → Nat) (q9 : Nat) (a11 : Nat → Nat) (q11 : Nat) (a13 : Nat → Nat) (q13 b15 : Nat) (z15 : Nat → Nat) (y15 : Nat → Nat → Nat) (q15 : Nat) (md m0 m1 m2 m3 m4 m5 m6 m7 m8 oo : Nat) : (wL G h0 q0 c2 q2 e4 f4 g4 q4 q5 u7 p7 k7 q7 a9 q9 a11 q11 a13 q13 b15 z15 y15 q15 md m0 m1 m2 m3 m4 m5 m6 m7 m8 oo)[idxOf 0 4]? = some ((gadOf h0 q0 c2 q2 e4 f4 g4 q4 q5 u7 p7 k7 q7 a9 q9 a11 q11 a13 q13 b15 z15 y15 q15 md m0 m1 m2 m3 m4 m5 m6 m7 m8 oo) 0 4, ent ((gadOf h0 q0 c2 q2 e4 f4 g4 q4 q5 u7 p7 k7 q7 a9 q9 a11 q11 a13 q13 b15 z15 y15 q15 md m0 m1 m2 m3 m4 m5 m6 m7 m8 oo), G.2) 0 4 (mu0 0 4)) := by
  show (wL G h0 q0 c2 q2 e4 f4 g4 q4 q5 u7 p7 k7 q7 a9 q9 a11 q11 a13 q13 b15 z15 y15 q15 md m0 m1 m2 m3 m4 m5 m6 m7 m8 oo)[4]? = _
  unfold wL
  exact at_l (at_l (at_l (at_l (at_l (at_l (at_l (rfl)))))))
theorem wz_5 (G : GG) (h0 q0 c2 q2 e4 f4 g4 q4 q5 u7 p7 k7 : Nat) (q7 : Nat) (a9 : Nat → Nat) (q9 : Nat) (a11 : Nat → Nat) (q11 : Nat) (a13 : Nat → Nat) (q13 b15 : Nat) (z15 : Nat → Nat) (y15 : Nat → Nat → Nat) (q15 : Nat) (md m0 m1 m2 m3 m4 m5 m6 m7 m8 oo : Nat) : (wL G h0 q0 c2 q2 e4 f4 g4 q4 q5 u7 p7 k7 q7 a9 q9 a11 q11 a13 q13 b15 z15 y15 q15 md m0 m1 m2 m3 m4 m5 m6 m7 m8 oo)[idxOf 0 5]? = some ((gadOf h0 q0 c2 q2 e4 f4 g4 q4 q5 u7 p7 k7 q7 a9 q9 a11 q11 a13 q13 b15 z15 y15 q15 md m0 m1 m2 m3 m4 m5 m6 m7 m8 oo) 0 5, ent ((gadOf h0 q0 c2 q2 e4 f4 g4 q4 q5 u7 p7 k7 q7 a9 q9 a11 q11 a13 q13 b15 z15 y15 q15 md m0 m1 m2 m3 m4 m5 m6 m7 m8 oo), G.2) 0 5 (mu0 0 5)) := by
  show (wL G h0 q0 c2 q2 e4 f4 g4 q4 q5 u7 p7 k7 q7 a9 q9 a11 q11 a13 q13 b15 z15 y15 q15 md m0 m1 m2 m3 m4 m5 m6 m7 m8 oo)[5]? = _
  unfold wL
  exact at_l (at_l (at_l (at_l (at_l (at_l (at_l (rfl)))))))
theorem wz_6 (G : GG) (h0 q0 c2 q2 e4 f4 g4 q4 q5 u7 p7 k7 : Nat) (q7 : Nat) (a9 : Nat → Nat) (q9 : Nat) (a11 : Nat → Nat) (q11 : Nat) (a13 : Nat → Nat) (q13 b15 : Nat) (z15 : Nat → Nat) (y15 : Nat → Nat → Nat) (q15 : Nat) (md m0 m1 m2 m3 m4 m5 m6 m7 m8 oo : Nat) : (wL G h0 q0 c2 q2 e4 f4 g4 q4 q5 u7 p7 k7 q7 a9 q9 a11 q11 a13 q13 b15 z15 y15 q15 md m0 m1 m2 m3 m4 m5 m6 m7 m8 oo)[idxOf 0 6]? = some ((gadOf h0 q0 c2 q2 e4 f4 g4 q4 q5 u7 p7 k7 q7 a9 q9 a11 q11 a13 q13 b15 z15 y15 q15 md m0 m1 m2 m3 m4 m5 m6 m7 m8 oo) 0 6, ent ((gadOf h0 q0 c2 q2 e4 f4 g4 q4 q5 u7 p7 k7 q7 a9 q9 a11 q11 a13 q13 b15 z15 y15 q15 md m0 m1 m2 m3 m4 m5 m6 m7 m8 oo), G.2) 0 6 (mu0 0 6)) := by
  show (wL G h0 q0 c2 q2 e4 f4 g4 q4 q5 u7 p7 k7 q7 a9 q9 a11 q11 a13 q13 b15 z15 y15 q15 md m0 m1 m2 m3 m4 m5 m6 m7 m8 oo)[6]? = _
  unfold wL
  exact at_l (at_l (at_l (at_l (at_l (at_l (at_l (rfl)))))))
theorem wz_7 (G : GG) (h0 q0 c2 q2 e4 f4 g4 q4 q5 u7 p7 k7 : Nat) (q7 : Nat) (a9 : Nat → Nat) (q9 : Nat) (a11 : Nat → Nat) (q11 : Nat) (a13 : Nat → Nat) (q13 b15 : Nat) (z15 : Nat → Nat) (y15 : Nat → Nat → Nat) (q15 : Nat) (md m0 m1 m2 m3 m4 m5 m6 m7 m8 oo : Nat) : (wL G h0 q0 c2 q2 e4 f4 g4 q4 q5 u7 p7 k7 q7 a9 q9 a11 q11 a13 q13 b15 z15 y15 q15 md m0 m1 m2 m3 m4 m5 m6 m7 m8 oo)[idxOf 0 7]? = some ((gadOf h0 q0 c2 q2 e4 f4 g4 q4 q5 u7 p7 k7 q7 a9 q9 a11 q11 a13 q13 b15 z15 y15 q15 md m0 m1 m2 m3 m4 m5 m6 m7 m8 oo) 0 7, ent ((gadOf h0 q0 c2 q2 e4 f4 g4 q4 q5 u7 p7 k7 q7 a9 q9 a11 q11 a13 q13 b15 z15 y15 q15 md m0 m1 m2 m3 m4 m5 m6 m7 m8 oo), G.2) 0 7 (mu0 0 7)) := by
  show (wL G h0 q0 c2 q2 e4 f4 g4 q4 q5 u7 p7 k7 q7 a9 q9 a11 q11 a13 q13 b15 z15 y15 q15 md m0 m1 m2 m3 m4 m5 m6 m7 m8 oo)[7]? = _
  unfold wL
  exact at_l (at_l (at_l (at_l (at_l (at_l (at_l (rfl)))))))
theorem wz_8 (G : GG) (h0 q0 c2 q2 e4 f4 g4 q4 q5 u7 p7 k7 : Nat) (q7 : Nat) (a9 : Nat → Nat) (q9 : Nat) (a11 : Nat → Nat) (q11 : Nat) (a13 : Nat → Nat) (q13 b15 : Nat) (z15 : Nat → Nat) (y15 : Nat → Nat → Nat) (q15 : Nat) (md m0 m1 m2 m3 m4 m5 m6 m7 m8 oo : Nat) : (wL G h0 q0 c2 q2 e4 f4 g4 q4 q5 u7 p7 k7 q7 a9 q9 a11 q11 a13 q13 b15 z15 y15 q15 md m0 m1 m2 m3 m4 m5 m6 m7 m8 oo)[idxOf 0 8]? = some ((gadOf h0 q0 c2 q2 e4 f4 g4 q4 q5 u7 p7 k7 q7 a9 q9 a11 q11 a13 q13 b15 z15 y15 q15 md m0 m1 m2 m3 m4 m5 m6 m7 m8 oo) 0 8, ent ((gadOf h0 q0 c2 q2 e4 f4 g4 q4 q5 u7 p7 k7 q7 a9 q9 a11 q11 a13 q13 b15 z15 y15 q15 md m0 m1 m2 m3 m4 m5 m6 m7 m8 oo), G.2) 0 8 (mu0 0 8)) := by
  show (wL G h0 q0 c2 q2 e4 f4 g4 q4 q5 u7 p7 k7 q7 a9 q9 a11 q11 a13 q13 b15 z15 y15 q15 md m0 m1 m2 m3 m4 m5 m6 m7 m8 oo)[8]? = _
  unfold wL
  exact at_l (at_l (at_l (at_l (at_l (at_l (at_l (rfl)))))))
theorem wq_7 (G : GG) (h0 q0 c2 q2 e4 f4 g4 q4 q5 u7 p7 k7 : Nat) (q7 : Nat) (a9 : Nat → Nat) (q9 : Nat) (a11 : Nat → Nat) (q11 : Nat) (a13 : Nat → Nat) (q13 b15 : Nat) (z15 : Nat → Nat) (y15 : Nat → Nat → Nat) (q15 : Nat) (md m0 m1 m2 m3 m4 m5 m6 m7 m8 oo : Nat) : (wL G h0 q0 c2 q2 e4 f4 g4 q4 q5 u7 p7 k7 q7 a9 q9 a11 q11 a13 q13 b15 z15 y15 q15 md m0 m1 m2 m3 m4 m5 m6 m7 m8 oo)[idxOf 16 7]? = some ((gadOf h0 q0 c2 q2 e4 f4 g4 q4 q5 u7 p7 k7 q7 a9 q9 a11 q11 a13 q13 b15 z15 y15 q15 md m0 m1 m2 m3 m4 m5 m6 m7 m8 oo) 16 7, ent ((gadOf h0 q0 c2 q2 e4 f4 g4 q4 q5 u7 p7 k7 q7 a9 q9 a11 q11 a13 q13 b15 z15 y15 q15 md m0 m1 m2 m3 m4 m5 m6 m7 m8 oo), G.2) 16 7 (mu0 16 7)) := by
  show (wL G h0 q0 c2 q2 e4 f4 g4 q4 q5 u7 p7 k7 q7 a9 q9 a11 q11 a13 q13 b15 z15 y15 q15 md m0 m1 m2 m3 m4 m5 m6 m7 m8 oo)[9]? = _
  unfold wL
  exact at_l (at_l (at_l (at_l (at_l (at_l (at_l (rfl)))))))
theorem wq_8 (G : GG) (h0 q0 c2 q2 e4 f4 g4 q4 q5 u7 p7 k7 : Nat) (q7 : Nat) (a9 : Nat → Nat) (q9 : Nat) (a11 : Nat → Nat) (q11 : Nat) (a13 : Nat → Nat) (q13 b15 : Nat) (z15 : Nat → Nat) (y15 : Nat → Nat → Nat) (q15 : Nat) (md m0 m1 m2 m3 m4 m5 m6 m7 m8 oo : Nat) : (wL G h0 q0 c2 q2 e4 f4 g4 q4 q5 u7 p7 k7 q7 a9 q9 a11 q11 a13 q13 b15 z15 y15 q15 md m0 m1 m2 m3 m4 m5 m6 m7 m8 oo)[idxOf 16 8]? = some ((gadOf h0 q0 c2 q2 e4 f4 g4 q4 q5 u7 p7 k7 q7 a9 q9 a11 q11 a13 q13 b15 z15 y15 q15 md m0 m1 m2 m3 m4 m5 m6 m7 m8 oo) 16 8, ent ((gadOf h0 q0 c2 q2 e4 f4 g4 q4 q5 u7 p7 k7 q7 a9 q9 a11 q11 a13 q13 b15 z15 y15 q15 md m0 m1 m2 m3 m4 m5 m6 m7 m8 oo), G.2) 16 8 (mu0 16 8)) := by
  show (wL G h0 q0 c2 q2 e4 f4 g4 q4 q5 u7 p7 k7 q7 a9 q9 a11 q11 a13 q13 b15 z15 y15 q15 md m0 m1 m2 m3 m4 m5 m6 m7 m8 oo)[10]? = _
  unfold wL
  exact at_l (at_l (at_l (at_l (at_l (at_l (at_l (rfl)))))))
theorem wq_9 (G : GG) (h0 q0 c2 q2 e4 f4 g4 q4 q5 u7 p7 k7 : Nat) (q7 : Nat) (a9 : Nat → Nat) (q9 : Nat) (a11 : Nat → Nat) (q11 : Nat) (a13 : Nat → Nat) (q13 b15 : Nat) (z15 : Nat → Nat) (y15 : Nat → Nat → Nat) (q15 : Nat) (md m0 m1 m2 m3 m4 m5 m6 m7 m8 oo : Nat) : (wL G h0 q0 c2 q2 e4 f4 g4 q4 q5 u7 p7 k7 q7 a9 q9 a11 q11 a13 q13 b15 z15 y15 q15 md m0 m1 m2 m3 m4 m5 m6 m7 m8 oo)[idxOf 16 9]? = some ((gadOf h0 q0 c2 q2 e4 f4 g4 q4 q5 u7 p7 k7 q7 a9 q9 a11 q11 a13 q13 b15 z15 y15 q15 md m0 m1 m2 m3 m4 m5 m6 m7 m8 oo) 16 9, ent ((gadOf h0 q0 c2 q2 e4 f4 g4 q4 q5 u7 p7 k7 q7 a9 q9 a11 q11 a13 q13 b15 z15 y15 q15 md m0 m1 m2 m3 m4 m5 m6 m7 m8 oo), G.2) 16 9 (mu0 16 9)) := by
  show (wL G h0 q0 c2 q2 e4 f4 g4 q4 q5 u7 p7 k7 q7 a9 q9 a11 q11 a13 q13 b15 z15 y15 q15 md m0 m1 m2 m3 m4 m5 m6 m7 m8 oo)[11]? = _
  unfold wL
  exact at_l (at_l (at_l (at_l (at_l (at_l (at_l (rfl)))))))
theorem wz_9 (G : GG) (h0 q0 c2 q2 e4 f4 g4 q4 q5 u7 p7 k7 : Nat) (q7 : Nat) (a9 : Nat → Nat) (q9 : Nat) (a11 : Nat → Nat) (q11 : Nat) (a13 : Nat → Nat) (q13 b15 : Nat) (z15 : Nat → Nat) (y15 : Nat → Nat → Nat) (q15 : Nat) (md m0 m1 m2 m3 m4 m5 m6 m7 m8 oo : Nat) : (wL G h0 q0 c2 q2 e4 f4 g4 q4 q5 u7 p7 k7 q7 a9 q9 a11 q11 a13 q13 b15 z15 y15 q15 md m0 m1 m2 m3 m4 m5 m6 m7 m8 oo)[idxOf 0 9]? = some ((gadOf h0 q0 c2 q2 e4 f4 g4 q4 q5 u7 p7 k7 q7 a9 q9 a11 q11 a13 q13 b15 z15 y15 q15 md m0 m1 m2 m3 m4 m5 m6 m7 m8 oo) 0 9, ent ((gadOf h0 q0 c2 q2 e4 f4 g4 q4 q5 u7 p7 k7 q7 a9 q9 a11 q11 a13 q13 b15 z15 y15 q15 md m0 m1 m2 m3 m4 m5 m6 m7 m8 oo), G.2) 0 9 (mu0 0 9)) := by
  show (wL G h0 q0 c2 q2 e4 f4 g4 q4 q5 u7 p7 k7 q7 a9 q9 a11 q11 a13 q13 b15 z15 y15 q15 md m0 m1 m2 m3 m4 m5 m6 m7 m8 oo)[48 + 0]? = _
  unfold wL
  refine at_l (at_l (at_l (at_r (n := 48) (by simp only [List.length_append, hs_len, List.length_cons, List.length_nil]) ?_)))
  unfold psL
  exact at_l (at_l (at_l (at_l (at_l (at_l (at_l (at_l (at_l (at_l (at_l (at_l (rfl))))))))))))
theorem wz_10 (G : GG) (h0 q0 c2 q2 e4 f4 g4 q4 q5 u7 p7 k7 : Nat) (q7 : Nat) (a9 : Nat → Nat) (q9 : Nat) (a11 : Nat → Nat) (q11 : Nat) (a13 : Nat → Nat) (q13 b15 : Nat) (z15 : Nat → Nat) (y15 : Nat → Nat → Nat) (q15 : Nat) (md m0 m1 m2 m3 m4 m5 m6 m7 m8 oo : Nat) : (wL G h0 q0 c2 q2 e4 f4 g4 q4 q5 u7 p7 k7 q7 a9 q9 a11 q11 a13 q13 b15 z15 y15 q15 md m0 m1 m2 m3 m4 m5 m6 m7 m8 oo)[idxOf 0 10]? = some ((gadOf h0 q0 c2 q2 e4 f4 g4 q4 q5 u7 p7 k7 q7 a9 q9 a11 q11 a13 q13 b15 z15 y15 q15 md m0 m1 m2 m3 m4 m5 m6 m7 m8 oo) 0 10, .inl (gcA G 3, 12, .inr (.inr (.inr (.inr (va_up (va_up (va_up (va_up (va_up (va_up (va_up (va_up (va_up (va_up (va_up (va_up (fun _ => none) (Int32.toNatClampNeg 0) (some (z15 0))) (Int32.toNatClampNeg 1) (some (z15 1))) (Int32.toNatClampNeg 2) (some (z15 2))) (Int32.toNatClampNeg 3) (some (z15 3))) (Int32.toNatClampNeg 4) (some (z15 4))) (Int32.toNatClampNeg 5) (some (z15 5))) (Int32.toNatClampNeg 6) (some (z15 6))) (Int32.toNatClampNeg 7) (some (z15 7))) (Int32.toNatClampNeg 8) (some (z15 8))) (Int32.toNatClampNeg 9) (some (z15 9))) (Int32.toNatClampNeg 10) (some (z15 10))) (Int32.toNatClampNeg 11) (some (z15 11)))))))) := by
  show (wL G h0 q0 c2 q2 e4 f4 g4 q4 q5 u7 p7 k7 q7 a9 q9 a11 q11 a13 q13 b15 z15 y15 q15 md m0 m1 m2 m3 m4 m5 m6 m7 m8 oo)[48 + 1]? = _
  unfold wL
  refine at_l (at_l (at_l (at_r (n := 48) (by simp only [List.length_append, hs_len, List.length_cons, List.length_nil]) ?_)))
  unfold psL
  exact at_l (at_l (at_l (at_l (at_l (at_l (at_l (at_l (at_l (at_l (at_l (at_l (rfl))))))))))))
theorem wz_11 (G : GG) (h0 q0 c2 q2 e4 f4 g4 q4 q5 u7 p7 k7 : Nat) (q7 : Nat) (a9 : Nat → Nat) (q9 : Nat) (a11 : Nat → Nat) (q11 : Nat) (a13 : Nat → Nat) (q13 b15 : Nat) (z15 : Nat → Nat) (y15 : Nat → Nat → Nat) (q15 : Nat) (md m0 m1 m2 m3 m4 m5 m6 m7 m8 oo : Nat) : (wL G h0 q0 c2 q2 e4 f4 g4 q4 q5 u7 p7 k7 q7 a9 q9 a11 q11 a13 q13 b15 z15 y15 q15 md m0 m1 m2 m3 m4 m5 m6 m7 m8 oo)[idxOf 0 11]? = some ((gadOf h0 q0 c2 q2 e4 f4 g4 q4 q5 u7 p7 k7 q7 a9 q9 a11 q11 a13 q13 b15 z15 y15 q15 md m0 m1 m2 m3 m4 m5 m6 m7 m8 oo) 0 11, ent ((gadOf h0 q0 c2 q2 e4 f4 g4 q4 q5 u7 p7 k7 q7 a9 q9 a11 q11 a13 q13 b15 z15 y15 q15 md m0 m1 m2 m3 m4 m5 m6 m7 m8 oo), G.2) 0 11 (mu0 0 11)) := by
  show (wL G h0 q0 c2 q2 e4 f4 g4 q4 q5 u7 p7 k7 q7 a9 q9 a11 q11 a13 q13 b15 z15 y15 q15 md m0 m1 m2 m3 m4 m5 m6 m7 m8 oo)[194 + 0]? = _
  unfold wL
  exact at_l (at_l (at_r (n := 194) (by simp only [psL, List.length_append, hs_len, List.length_cons, List.length_nil]) rfl))
theorem wz_12 (G : GG) (h0 q0 c2 q2 e4 f4 g4 q4 q5 u7 p7 k7 : Nat) (q7 : Nat) (a9 : Nat → Nat) (q9 : Nat) (a11 : Nat → Nat) (q11 : Nat) (a13 : Nat → Nat) (q13 b15 : Nat) (z15 : Nat → Nat) (y15 : Nat → Nat → Nat) (q15 : Nat) (md m0 m1 m2 m3 m4 m5 m6 m7 m8 oo : Nat) : (wL G h0 q0 c2 q2 e4 f4 g4 q4 q5 u7 p7 k7 q7 a9 q9 a11 q11 a13 q13 b15 z15 y15 q15 md m0 m1 m2 m3 m4 m5 m6 m7 m8 oo)[idxOf 0 12]? = some ((gadOf h0 q0 c2 q2 e4 f4 g4 q4 q5 u7 p7 k7 q7 a9 q9 a11 q11 a13 q13 b15 z15 y15 q15 md m0 m1 m2 m3 m4 m5 m6 m7 m8 oo) 0 12, ent ((gadOf h0 q0 c2 q2 e4 f4 g4 q4 q5 u7 p7 k7 q7 a9 q9 a11 q11 a13 q13 b15 z15 y15 q15 md m0 m1 m2 m3 m4 m5 m6 m7 m8 oo), G.2) 0 12 (mu0 0 12)) := by
  show (wL G h0 q0 c2 q2 e4 f4 g4 q4 q5 u7 p7 k7 q7 a9 q9 a11 q11 a13 q13 b15 z15 y15 q15 md m0 m1 m2 m3 m4 m5 m6 m7 m8 oo)[195 + 0]? = _
  unfold wL
  exact at_l (at_r (n := 195) (by simp only [psL, List.length_append, hs_len, List.length_cons, List.length_nil]) rfl)
theorem wz_13 (G : GG) (h0 q0 c2 q2 e4 f4 g4 q4 q5 u7 p7 k7 : Nat) (q7 : Nat) (a9 : Nat → Nat) (q9 : Nat) (a11 : Nat → Nat) (q11 : Nat) (a13 : Nat → Nat) (q13 b15 : Nat) (z15 : Nat → Nat) (y15 : Nat → Nat → Nat) (q15 : Nat) (md m0 m1 m2 m3 m4 m5 m6 m7 m8 oo : Nat) : (wL G h0 q0 c2 q2 e4 f4 g4 q4 q5 u7 p7 k7 q7 a9 q9 a11 q11 a13 q13 b15 z15 y15 q15 md m0 m1 m2 m3 m4 m5 m6 m7 m8 oo)[idxOf 0 13]? = some ((gadOf h0 q0 c2 q2 e4 f4 g4 q4 q5 u7 p7 k7 q7 a9 q9 a11 q11 a13 q13 b15 z15 y15 q15 md m0 m1 m2 m3 m4 m5 m6 m7 m8 oo) 0 13, ent ((gadOf h0 q0 c2 q2 e4 f4 g4 q4 q5 u7 p7 k7 q7 a9 q9 a11 q11 a13 q13 b15 z15 y15 q15 md m0 m1 m2 m3 m4 m5 m6 m7 m8 oo), G.2) 0 13 (mu0 0 13)) := by
  show (wL G h0 q0 c2 q2 e4 f4 g4 q4 q5 u7 p7 k7 q7 a9 q9 a11 q11 a13 q13 b15 z15 y15 q15 md m0 m1 m2 m3 m4 m5 m6 m7 m8 oo)[195 + 1]? = _
  unfold wL
  exact at_l (at_r (n := 195) (by simp only [psL, List.length_append, hs_len, List.length_cons, List.length_nil]) rfl)
theorem wz_14 (G : GG) (h0 q0 c2 q2 e4 f4 g4 q4 q5 u7 p7 k7 : Nat) (q7 : Nat) (a9 : Nat → Nat) (q9 : Nat) (a11 : Nat → Nat) (q11 : Nat) (a13 : Nat → Nat) (q13 b15 : Nat) (z15 : Nat → Nat) (y15 : Nat → Nat → Nat) (q15 : Nat) (md m0 m1 m2 m3 m4 m5 m6 m7 m8 oo : Nat) : (wL G h0 q0 c2 q2 e4 f4 g4 q4 q5 u7 p7 k7 q7 a9 q9 a11 q11 a13 q13 b15 z15 y15 q15 md m0 m1 m2 m3 m4 m5 m6 m7 m8 oo)[idxOf 0 14]? = some ((gadOf h0 q0 c2 q2 e4 f4 g4 q4 q5 u7 p7 k7 q7 a9 q9 a11 q11 a13 q13 b15 z15 y15 q15 md m0 m1 m2 m3 m4 m5 m6 m7 m8 oo) 0 14, ent ((gadOf h0 q0 c2 q2 e4 f4 g4 q4 q5 u7 p7 k7 q7 a9 q9 a11 q11 a13 q13 b15 z15 y15 q15 md m0 m1 m2 m3 m4 m5 m6 m7 m8 oo), G.2) 0 14 (mu0 0 14)) := by
  show (wL G h0 q0 c2 q2 e4 f4 g4 q4 q5 u7 p7 k7 q7 a9 q9 a11 q11 a13 q13 b15 z15 y15 q15 md m0 m1 m2 m3 m4 m5 m6 m7 m8 oo)[195 + 2]? = _
  unfold wL
  exact at_l (at_r (n := 195) (by simp only [psL, List.length_append, hs_len, List.length_cons, List.length_nil]) rfl)
theorem wz_15 (G : GG) (h0 q0 c2 q2 e4 f4 g4 q4 q5 u7 p7 k7 : Nat) (q7 : Nat) (a9 : Nat → Nat) (q9 : Nat) (a11 : Nat → Nat) (q11 : Nat) (a13 : Nat → Nat) (q13 b15 : Nat) (z15 : Nat → Nat) (y15 : Nat → Nat → Nat) (q15 : Nat) (md m0 m1 m2 m3 m4 m5 m6 m7 m8 oo : Nat) : (wL G h0 q0 c2 q2 e4 f4 g4 q4 q5 u7 p7 k7 q7 a9 q9 a11 q11 a13 q13 b15 z15 y15 q15 md m0 m1 m2 m3 m4 m5 m6 m7 m8 oo)[idxOf 0 15]? = some ((gadOf h0 q0 c2 q2 e4 f4 g4 q4 q5 u7 p7 k7 q7 a9 q9 a11 q11 a13 q13 b15 z15 y15 q15 md m0 m1 m2 m3 m4 m5 m6 m7 m8 oo) 0 15, ent ((gadOf h0 q0 c2 q2 e4 f4 g4 q4 q5 u7 p7 k7 q7 a9 q9 a11 q11 a13 q13 b15 z15 y15 q15 md m0 m1 m2 m3 m4 m5 m6 m7 m8 oo), G.2) 0 15 (mu0 0 15)) := by
  show (wL G h0 q0 c2 q2 e4 f4 g4 q4 q5 u7 p7 k7 q7 a9 q9 a11 q11 a13 q13 b15 z15 y15 q15 md m0 m1 m2 m3 m4 m5 m6 m7 m8 oo)[195 + 3]? = _
  unfold wL
  exact at_l (at_r (n := 195) (by simp only [psL, List.length_append, hs_len, List.length_cons, List.length_nil]) rfl)
theorem wz_16 (G : GG) (h0 q0 c2 q2 e4 f4 g4 q4 q5 u7 p7 k7 : Nat) (q7 : Nat) (a9 : Nat → Nat) (q9 : Nat) (a11 : Nat → Nat) (q11 : Nat) (a13 : Nat → Nat) (q13 b15 : Nat) (z15 : Nat → Nat) (y15 : Nat → Nat → Nat) (q15 : Nat) (md m0 m1 m2 m3 m4 m5 m6 m7 m8 oo : Nat) : (wL G h0 q0 c2 q2 e4 f4 g4 q4 q5 u7 p7 k7 q7 a9 q9 a11 q11 a13 q13 b15 z15 y15 q15 md m0 m1 m2 m3 m4 m5 m6 m7 m8 oo)[idxOf 0 16]? = some ((gadOf h0 q0 c2 q2 e4 f4 g4 q4 q5 u7 p7 k7 q7 a9 q9 a11 q11 a13 q13 b15 z15 y15 q15 md m0 m1 m2 m3 m4 m5 m6 m7 m8 oo) 0 16, ent ((gadOf h0 q0 c2 q2 e4 f4 g4 q4 q5 u7 p7 k7 q7 a9 q9 a11 q11 a13 q13 b15 z15 y15 q15 md m0 m1 m2 m3 m4 m5 m6 m7 m8 oo), G.2) 0 16 (mu0 0 16)) := by
  show (wL G h0 q0 c2 q2 e4 f4 g4 q4 q5 u7 p7 k7 q7 a9 q9 a11 q11 a13 q13 b15 z15 y15 q15 md m0 m1 m2 m3 m4 m5 m6 m7 m8 oo)[195 + 4]? = _
  unfold wL
  exact at_l (at_r (n := 195) (by simp only [psL, List.length_append, hs_len, List.length_cons, List.length_nil]) rfl)
theorem wz_17 (G : GG) (h0 q0 c2 q2 e4 f4 g4 q4 q5 u7 p7 k7 : Nat) (q7 : Nat) (a9 : Nat → Nat) (q9 : Nat) (a11 : Nat → Nat) (q11 : Nat) (a13 : Nat → Nat) (q13 b15 : Nat) (z15 : Nat → Nat) (y15 : Nat → Nat → Nat) (q15 : Nat) (md m0 m1 m2 m3 m4 m5 m6 m7 m8 oo : Nat) : (wL G h0 q0 c2 q2 e4 f4 g4 q4 q5 u7 p7 k7 q7 a9 q9 a11 q11 a13 q13 b15 z15 y15 q15 md m0 m1 m2 m3 m4 m5 m6 m7 m8 oo)[idxOf 0 17]? = some ((gadOf h0 q0 c2 q2 e4 f4 g4 q4 q5 u7 p7 k7 q7 a9 q9 a11 q11 a13 q13 b15 z15 y15 q15 md m0 m1 m2 m3 m4 m5 m6 m7 m8 oo) 0 17, ent ((gadOf h0 q0 c2 q2 e4 f4 g4 q4 q5 u7 p7 k7 q7 a9 q9 a11 q11 a13 q13 b15 z15 y15 q15 md m0 m1 m2 m3 m4 m5 m6 m7 m8 oo), G.2) 0 17 (mu0 0 17)) := by
  show (wL G h0 q0 c2 q2 e4 f4 g4 q4 q5 u7 p7 k7 q7 a9 q9 a11 q11 a13 q13 b15 z15 y15 q15 md m0 m1 m2 m3 m4 m5 m6 m7 m8 oo)[195 + 5]? = _
  unfold wL
  exact at_l (at_r (n := 195) (by simp only [psL, List.length_append, hs_len, List.length_cons, List.length_nil]) rfl)
theorem wz_18 (G : GG) (h0 q0 c2 q2 e4 f4 g4 q4 q5 u7 p7 k7 : Nat) (q7 : Nat) (a9 : Nat → Nat) (q9 : Nat) (a11 : Nat → Nat) (q11 : Nat) (a13 : Nat → Nat) (q13 b15 : Nat) (z15 : Nat → Nat) (y15 : Nat → Nat → Nat) (q15 : Nat) (md m0 m1 m2 m3 m4 m5 m6 m7 m8 oo : Nat) : (wL G h0 q0 c2 q2 e4 f4 g4 q4 q5 u7 p7 k7 q7 a9 q9 a11 q11 a13 q13 b15 z15 y15 q15 md m0 m1 m2 m3 m4 m5 m6 m7 m8 oo)[idxOf 0 18]? = some ((gadOf h0 q0 c2 q2 e4 f4 g4 q4 q5 u7 p7 k7 q7 a9 q9 a11 q11 a13 q13 b15 z15 y15 q15 md m0 m1 m2 m3 m4 m5 m6 m7 m8 oo) 0 18, ent ((gadOf h0 q0 c2 q2 e4 f4 g4 q4 q5 u7 p7 k7 q7 a9 q9 a11 q11 a13 q13 b15 z15 y15 q15 md m0 m1 m2 m3 m4 m5 m6 m7 m8 oo), G.2) 0 18 (mu0 0 18)) := by
  show (wL G h0 q0 c2 q2 e4 f4 g4 q4 q5 u7 p7 k7 q7 a9 q9 a11 q11 a13 q13 b15 z15 y15 q15 md m0 m1 m2 m3 m4 m5 m6 m7 m8 oo)[195 + 6]? = _
  unfold wL
  exact at_l (at_r (n := 195) (by simp only [psL, List.length_append, hs_len, List.length_cons, List.length_nil]) rfl)
theorem wz_19 (G : GG) (h0 q0 c2 q2 e4 f4 g4 q4 q5 u7 p7 k7 : Nat) (q7 : Nat) (a9 : Nat → Nat) (q9 : Nat) (a11 : Nat → Nat) (q11 : Nat) (a13 : Nat → Nat) (q13 b15 : Nat) (z15 : Nat → Nat) (y15 : Nat → Nat → Nat) (q15 : Nat) (md m0 m1 m2 m3 m4 m5 m6 m7 m8 oo : Nat) : (wL G h0 q0 c2 q2 e4 f4 g4 q4 q5 u7 p7 k7 q7 a9 q9 a11 q11 a13 q13 b15 z15 y15 q15 md m0 m1 m2 m3 m4 m5 m6 m7 m8 oo)[idxOf 0 19]? = some ((gadOf h0 q0 c2 q2 e4 f4 g4 q4 q5 u7 p7 k7 q7 a9 q9 a11 q11 a13 q13 b15 z15 y15 q15 md m0 m1 m2 m3 m4 m5 m6 m7 m8 oo) 0 19, ent ((gadOf h0 q0 c2 q2 e4 f4 g4 q4 q5 u7 p7 k7 q7 a9 q9 a11 q11 a13 q13 b15 z15 y15 q15 md m0 m1 m2 m3 m4 m5 m6 m7 m8 oo), G.2) 0 19 (mu0 0 19)) := by
  show (wL G h0 q0 c2 q2 e4 f4 g4 q4 q5 u7 p7 k7 q7 a9 q9 a11 q11 a13 q13 b15 z15 y15 q15 md m0 m1 m2 m3 m4 m5 m6 m7 m8 oo)[195 + 7]? = _
  unfold wL
  exact at_l (at_r (n := 195) (by simp only [psL, List.length_append, hs_len, List.length_cons, List.length_nil]) rfl)
theorem wz_20 (G : GG) (h0 q0 c2 q2 e4 f4 g4 q4 q5 u7 p7 k7 : Nat) (q7 : Nat) (a9 : Nat → Nat) (q9 : Nat) (a11 : Nat → Nat) (q11 : Nat) (a13 : Nat → Nat) (q13 b15 : Nat) (z15 : Nat → Nat) (y15 : Nat → Nat → Nat) (q15 : Nat) (md m0 m1 m2 m3 m4 m5 m6 m7 m8 oo : Nat) : (wL G h0 q0 c2 q2 e4 f4 g4 q4 q5 u7 p7 k7 q7 a9 q9 a11 q11 a13 q13 b15 z15 y15 q15 md m0 m1 m2 m3 m4 m5 m6 m7 m8 oo)[idxOf 0 20]? = some ((gadOf h0 q0 c2 q2 e4 f4 g4 q4 q5 u7 p7 k7 q7 a9 q9 a11 q11 a13 q13 b15 z15 y15 q15 md m0 m1 m2 m3 m4 m5 m6 m7 m8 oo) 0 20, ent ((gadOf h0 q0 c2 q2 e4 f4 g4 q4 q5 u7 p7 k7 q7 a9 q9 a11 q11 a13 q13 b15 z15 y15 q15 md m0 m1 m2 m3 m4 m5 m6 m7 m8 oo), G.2) 0 20 (mu0 0 20)) := by
  show (wL G h0 q0 c2 q2 e4 f4 g4 q4 q5 u7 p7 k7 q7 a9 q9 a11 q11 a13 q13 b15 z15 y15 q15 md m0 m1 m2 m3 m4 m5 m6 m7 m8 oo)[195 + 8]? = _
  unfold wL
  exact at_l (at_r (n := 195) (by simp only [psL, List.length_append, hs_len, List.length_cons, List.length_nil]) rfl)
theorem wz_21 (G : GG) (h0 q0 c2 q2 e4 f4 g4 q4 q5 u7 p7 k7 : Nat) (q7 : Nat) (a9 : Nat → Nat) (q9 : Nat) (a11 : Nat → Nat) (q11 : Nat) (a13 : Nat → Nat) (q13 b15 : Nat) (z15 : Nat → Nat) (y15 : Nat → Nat → Nat) (q15 : Nat) (md m0 m1 m2 m3 m4 m5 m6 m7 m8 oo : Nat) : (wL G h0 q0 c2 q2 e4 f4 g4 q4 q5 u7 p7 k7 q7 a9 q9 a11 q11 a13 q13 b15 z15 y15 q15 md m0 m1 m2 m3 m4 m5 m6 m7 m8 oo)[idxOf 0 21]? = some ((gadOf h0 q0 c2 q2 e4 f4 g4 q4 q5 u7 p7 k7 q7 a9 q9 a11 q11 a13 q13 b15 z15 y15 q15 md m0 m1 m2 m3 m4 m5 m6 m7 m8 oo) 0 21, ent ((gadOf h0 q0 c2 q2 e4 f4 g4 q4 q5 u7 p7 k7 q7 a9 q9 a11 q11 a13 q13 b15 z15 y15 q15 md m0 m1 m2 m3 m4 m5 m6 m7 m8 oo), G.2) 0 21 (mu0 0 21)) := by
  show (wL G h0 q0 c2 q2 e4 f4 g4 q4 q5 u7 p7 k7 q7 a9 q9 a11 q11 a13 q13 b15 z15 y15 q15 md m0 m1 m2 m3 m4 m5 m6 m7 m8 oo)[195 + 9]? = _
  unfold wL
  exact at_l (at_r (n := 195) (by simp only [psL, List.length_append, hs_len, List.length_cons, List.length_nil]) rfl)
theorem wz_22 (G : GG) (h0 q0 c2 q2 e4 f4 g4 q4 q5 u7 p7 k7 : Nat) (q7 : Nat) (a9 : Nat → Nat) (q9 : Nat) (a11 : Nat → Nat) (q11 : Nat) (a13 : Nat → Nat) (q13 b15 : Nat) (z15 : Nat → Nat) (y15 : Nat → Nat → Nat) (q15 : Nat) (md m0 m1 m2 m3 m4 m5 m6 m7 m8 oo : Nat) : (wL G h0 q0 c2 q2 e4 f4 g4 q4 q5 u7 p7 k7 q7 a9 q9 a11 q11 a13 q13 b15 z15 y15 q15 md m0 m1 m2 m3 m4 m5 m6 m7 m8 oo)[idxOf 0 22]? = some ((gadOf h0 q0 c2 q2 e4 f4 g4 q4 q5 u7 p7 k7 q7 a9 q9 a11 q11 a13 q13 b15 z15 y15 q15 md m0 m1 m2 m3 m4 m5 m6 m7 m8 oo) 0 22, ent ((gadOf h0 q0 c2 q2 e4 f4 g4 q4 q5 u7 p7 k7 q7 a9 q9 a11 q11 a13 q13 b15 z15 y15 q15 md m0 m1 m2 m3 m4 m5 m6 m7 m8 oo), G.2) 0 22 (mu0 0 22)) := by
  show (wL G h0 q0 c2 q2 e4 f4 g4 q4 q5 u7 p7 k7 q7 a9 q9 a11 q11 a13 q13 b15 z15 y15 q15 md m0 m1 m2 m3 m4 m5 m6 m7 m8 oo)[205 + 0]? = some (oo, .inl (gcA G 2, 1, .inr (.inl (fun _ => (0 : Int32).toInt64))))
  rw [out0]
  unfold wL
  exact at_r (n := 205) (by simp only [psL, List.length_append, hs_len, List.length_cons, List.length_nil]) rfl
theorem wl_all (G : GG) (h0 q0 c2 q2 e4 f4 g4 q4 q5 u7 p7 k7 : Nat) (q7 : Nat) (a9 : Nat → Nat) (q9 : Nat) (a11 : Nat → Nat) (q11 : Nat) (a13 : Nat → Nat) (q13 b15 : Nat) (z15 : Nat → Nat) (y15 : Nat → Nat → Nat) (q15 : Nat) (md m0 m1 m2 m3 m4 m5 m6 m7 m8 oo : Nat) : ∀ x ∈ prs, x ≠ (0, 10) → (wL G h0 q0 c2 q2 e4 f4 g4 q4 q5 u7 p7 k7 q7 a9 q9 a11 q11 a13 q13 b15 z15 y15 q15 md m0 m1 m2 m3 m4 m5 m6 m7 m8 oo)[idxOf x.1 x.2]? = some ((gadOf h0 q0 c2 q2 e4 f4 g4 q4 q5 u7 p7 k7 q7 a9 q9 a11 q11 a13 q13 b15 z15 y15 q15 md m0 m1 m2 m3 m4 m5 m6 m7 m8 oo) x.1 x.2, ent ((gadOf h0 q0 c2 q2 e4 f4 g4 q4 q5 u7 p7 k7 q7 a9 q9 a11 q11 a13 q13 b15 z15 y15 q15 md m0 m1 m2 m3 m4 m5 m6 m7 m8 oo), G.2) x.1 x.2 (mu0 x.1 x.2)) := by
  intro x hx hn
  rcases List.mem_append.mp hx with h | h
  · obtain ⟨j, hj, rfl⟩ := List.mem_map.mp h
    have hj := List.mem_range.mp hj
    have hn : j ≠ 10 := fun h => hn (by rw [h])
    rcases (show j = 0 ∨ j = 1 ∨ j = 2 ∨ j = 3 ∨ j = 4 ∨ j = 5 ∨ j = 6 ∨ j = 7 ∨ j = 8 ∨ j = 9 ∨ j = 11 ∨ j = 12 ∨ j = 13 ∨ j = 14 ∨ j = 15 ∨ j = 16 ∨ j = 17 ∨ j = 18 ∨ j = 19 ∨ j = 20 ∨ j = 21 ∨ j = 22 by omega) with rfl | rfl | rfl | rfl | rfl | rfl | rfl | rfl | rfl | rfl | rfl | rfl | rfl | rfl | rfl | rfl | rfl | rfl | rfl | rfl | rfl | rfl
    · exact wz_0 G h0 q0 c2 q2 e4 f4 g4 q4 q5 u7 p7 k7 q7 a9 q9 a11 q11 a13 q13 b15 z15 y15 q15 md m0 m1 m2 m3 m4 m5 m6 m7 m8 oo
    · exact wz_1 G h0 q0 c2 q2 e4 f4 g4 q4 q5 u7 p7 k7 q7 a9 q9 a11 q11 a13 q13 b15 z15 y15 q15 md m0 m1 m2 m3 m4 m5 m6 m7 m8 oo
    · exact wz_2 G h0 q0 c2 q2 e4 f4 g4 q4 q5 u7 p7 k7 q7 a9 q9 a11 q11 a13 q13 b15 z15 y15 q15 md m0 m1 m2 m3 m4 m5 m6 m7 m8 oo
    · exact wz_3 G h0 q0 c2 q2 e4 f4 g4 q4 q5 u7 p7 k7 q7 a9 q9 a11 q11 a13 q13 b15 z15 y15 q15 md m0 m1 m2 m3 m4 m5 m6 m7 m8 oo
    · exact wz_4 G h0 q0 c2 q2 e4 f4 g4 q4 q5 u7 p7 k7 q7 a9 q9 a11 q11 a13 q13 b15 z15 y15 q15 md m0 m1 m2 m3 m4 m5 m6 m7 m8 oo
    · exact wz_5 G h0 q0 c2 q2 e4 f4 g4 q4 q5 u7 p7 k7 q7 a9 q9 a11 q11 a13 q13 b15 z15 y15 q15 md m0 m1 m2 m3 m4 m5 m6 m7 m8 oo
    · exact wz_6 G h0 q0 c2 q2 e4 f4 g4 q4 q5 u7 p7 k7 q7 a9 q9 a11 q11 a13 q13 b15 z15 y15 q15 md m0 m1 m2 m3 m4 m5 m6 m7 m8 oo
    · exact wz_7 G h0 q0 c2 q2 e4 f4 g4 q4 q5 u7 p7 k7 q7 a9 q9 a11 q11 a13 q13 b15 z15 y15 q15 md m0 m1 m2 m3 m4 m5 m6 m7 m8 oo
    · exact wz_8 G h0 q0 c2 q2 e4 f4 g4 q4 q5 u7 p7 k7 q7 a9 q9 a11 q11 a13 q13 b15 z15 y15 q15 md m0 m1 m2 m3 m4 m5 m6 m7 m8 oo
    · exact wz_9 G h0 q0 c2 q2 e4 f4 g4 q4 q5 u7 p7 k7 q7 a9 q9 a11 q11 a13 q13 b15 z15 y15 q15 md m0 m1 m2 m3 m4 m5 m6 m7 m8 oo
    · exact wz_11 G h0 q0 c2 q2 e4 f4 g4 q4 q5 u7 p7 k7 q7 a9 q9 a11 q11 a13 q13 b15 z15 y15 q15 md m0 m1 m2 m3 m4 m5 m6 m7 m8 oo
    · exact wz_12 G h0 q0 c2 q2 e4 f4 g4 q4 q5 u7 p7 k7 q7 a9 q9 a11 q11 a13 q13 b15 z15 y15 q15 md m0 m1 m2 m3 m4 m5 m6 m7 m8 oo
    · exact wz_13 G h0 q0 c2 q2 e4 f4 g4 q4 q5 u7 p7 k7 q7 a9 q9 a11 q11 a13 q13 b15 z15 y15 q15 md m0 m1 m2 m3 m4 m5 m6 m7 m8 oo
    · exact wz_14 G h0 q0 c2 q2 e4 f4 g4 q4 q5 u7 p7 k7 q7 a9 q9 a11 q11 a13 q13 b15 z15 y15 q15 md m0 m1 m2 m3 m4 m5 m6 m7 m8 oo
    · exact wz_15 G h0 q0 c2 q2 e4 f4 g4 q4 q5 u7 p7 k7 q7 a9 q9 a11 q11 a13 q13 b15 z15 y15 q15 md m0 m1 m2 m3 m4 m5 m6 m7 m8 oo
    · exact wz_16 G h0 q0 c2 q2 e4 f4 g4 q4 q5 u7 p7 k7 q7 a9 q9 a11 q11 a13 q13 b15 z15 y15 q15 md m0 m1 m2 m3 m4 m5 m6 m7 m8 oo
    · exact wz_17 G h0 q0 c2 q2 e4 f4 g4 q4 q5 u7 p7 k7 q7 a9 q9 a11 q11 a13 q13 b15 z15 y15 q15 md m0 m1 m2 m3 m4 m5 m6 m7 m8 oo
    · exact wz_18 G h0 q0 c2 q2 e4 f4 g4 q4 q5 u7 p7 k7 q7 a9 q9 a11 q11 a13 q13 b15 z15 y15 q15 md m0 m1 m2 m3 m4 m5 m6 m7 m8 oo
    · exact wz_19 G h0 q0 c2 q2 e4 f4 g4 q4 q5 u7 p7 k7 q7 a9 q9 a11 q11 a13 q13 b15 z15 y15 q15 md m0 m1 m2 m3 m4 m5 m6 m7 m8 oo
    · exact wz_20 G h0 q0 c2 q2 e4 f4 g4 q4 q5 u7 p7 k7 q7 a9 q9 a11 q11 a13 q13 b15 z15 y15 q15 md m0 m1 m2 m3 m4 m5 m6 m7 m8 oo
    · exact wz_21 G h0 q0 c2 q2 e4 f4 g4 q4 q5 u7 p7 k7 q7 a9 q9 a11 q11 a13 q13 b15 z15 y15 q15 md m0 m1 m2 m3 m4 m5 m6 m7 m8 oo
    · exact wz_22 G h0 q0 c2 q2 e4 f4 g4 q4 q5 u7 p7 k7 q7 a9 q9 a11 q11 a13 q13 b15 z15 y15 q15 md m0 m1 m2 m3 m4 m5 m6 m7 m8 oo
  · rcases List.mem_append.mp h with h | h
    · obtain ⟨k, hk, h⟩ := List.mem_flatMap.mp h
      obtain ⟨j, hj, rfl⟩ := List.mem_map.mp h
      have hj := List.mem_range.mp hj
      have hk := List.mem_range.mp hk
      rcases (show k = 0 ∨ k = 1 ∨ k = 2 ∨ k = 3 ∨ k = 4 ∨ k = 5 ∨ k = 6 ∨ k = 7 ∨ k = 8 ∨ k = 9 ∨ k = 10 ∨ k = 11 ∨ k = 12 ∨ k = 13 ∨ k = 14 by omega) with rfl | rfl | rfl | rfl | rfl | rfl | rfl | rfl | rfl | rfl | rfl | rfl | rfl | rfl | rfl
      · exact wb_1 G h0 q0 c2 q2 e4 f4 g4 q4 q5 u7 p7 k7 q7 a9 q9 a11 q11 a13 q13 b15 z15 y15 q15 md m0 m1 m2 m3 m4 m5 m6 m7 m8 oo hj
      · exact wb_2 G h0 q0 c2 q2 e4 f4 g4 q4 q5 u7 p7 k7 q7 a9 q9 a11 q11 a13 q13 b15 z15 y15 q15 md m0 m1 m2 m3 m4 m5 m6 m7 m8 oo hj
      · exact wb_3 G h0 q0 c2 q2 e4 f4 g4 q4 q5 u7 p7 k7 q7 a9 q9 a11 q11 a13 q13 b15 z15 y15 q15 md m0 m1 m2 m3 m4 m5 m6 m7 m8 oo hj
      · exact wb_4 G h0 q0 c2 q2 e4 f4 g4 q4 q5 u7 p7 k7 q7 a9 q9 a11 q11 a13 q13 b15 z15 y15 q15 md m0 m1 m2 m3 m4 m5 m6 m7 m8 oo hj
      · exact wb_5 G h0 q0 c2 q2 e4 f4 g4 q4 q5 u7 p7 k7 q7 a9 q9 a11 q11 a13 q13 b15 z15 y15 q15 md m0 m1 m2 m3 m4 m5 m6 m7 m8 oo hj
      · exact wb_6 G h0 q0 c2 q2 e4 f4 g4 q4 q5 u7 p7 k7 q7 a9 q9 a11 q11 a13 q13 b15 z15 y15 q15 md m0 m1 m2 m3 m4 m5 m6 m7 m8 oo hj
      · exact wb_7 G h0 q0 c2 q2 e4 f4 g4 q4 q5 u7 p7 k7 q7 a9 q9 a11 q11 a13 q13 b15 z15 y15 q15 md m0 m1 m2 m3 m4 m5 m6 m7 m8 oo hj
      · exact wb_8 G h0 q0 c2 q2 e4 f4 g4 q4 q5 u7 p7 k7 q7 a9 q9 a11 q11 a13 q13 b15 z15 y15 q15 md m0 m1 m2 m3 m4 m5 m6 m7 m8 oo hj
      · exact wb_9 G h0 q0 c2 q2 e4 f4 g4 q4 q5 u7 p7 k7 q7 a9 q9 a11 q11 a13 q13 b15 z15 y15 q15 md m0 m1 m2 m3 m4 m5 m6 m7 m8 oo hj
      · exact wb_10 G h0 q0 c2 q2 e4 f4 g4 q4 q5 u7 p7 k7 q7 a9 q9 a11 q11 a13 q13 b15 z15 y15 q15 md m0 m1 m2 m3 m4 m5 m6 m7 m8 oo hj
      · exact wb_11 G h0 q0 c2 q2 e4 f4 g4 q4 q5 u7 p7 k7 q7 a9 q9 a11 q11 a13 q13 b15 z15 y15 q15 md m0 m1 m2 m3 m4 m5 m6 m7 m8 oo hj
      · exact wb_12 G h0 q0 c2 q2 e4 f4 g4 q4 q5 u7 p7 k7 q7 a9 q9 a11 q11 a13 q13 b15 z15 y15 q15 md m0 m1 m2 m3 m4 m5 m6 m7 m8 oo hj
      · exact wb_13 G h0 q0 c2 q2 e4 f4 g4 q4 q5 u7 p7 k7 q7 a9 q9 a11 q11 a13 q13 b15 z15 y15 q15 md m0 m1 m2 m3 m4 m5 m6 m7 m8 oo hj
      · exact wb_14 G h0 q0 c2 q2 e4 f4 g4 q4 q5 u7 p7 k7 q7 a9 q9 a11 q11 a13 q13 b15 z15 y15 q15 md m0 m1 m2 m3 m4 m5 m6 m7 m8 oo hj
      · exact wb_15 G h0 q0 c2 q2 e4 f4 g4 q4 q5 u7 p7 k7 q7 a9 q9 a11 q11 a13 q13 b15 z15 y15 q15 md m0 m1 m2 m3 m4 m5 m6 m7 m8 oo hj
    · simp only [List.mem_cons, List.not_mem_nil, or_false] at h
      rcases h with rfl | rfl | rfl
      · exact wq_7 G h0 q0 c2 q2 e4 f4 g4 q4 q5 u7 p7 k7 q7 a9 q9 a11 q11 a13 q13 b15 z15 y15 q15 md m0 m1 m2 m3 m4 m5 m6 m7 m8 oo
      · exact wq_8 G h0 q0 c2 q2 e4 f4 g4 q4 q5 u7 p7 k7 q7 a9 q9 a11 q11 a13 q13 b15 z15 y15 q15 md m0 m1 m2 m3 m4 m5 m6 m7 m8 oo
      · exact wq_9 G h0 q0 c2 q2 e4 f4 g4 q4 q5 u7 p7 k7 q7 a9 q9 a11 q11 a13 q13 b15 z15 y15 q15 md m0 m1 m2 m3 m4 m5 m6 m7 m8 oo
theorem arrV_cg {cA : ClassId} {n : Nat} {f f' : Nat → Value} (h : ∀ j, j < n → f j = f' j) : arrV cA n f = arrV cA n f' := by
  have e : (fun j : Fin n => f j.val) = fun j : Fin n => f' j.val := funext fun j => h j.val j.isLt
  unfold arrV
  rw [e]
theorem wl_ad (G : GG) (h0 q0 c2 q2 e4 f4 g4 q4 q5 u7 p7 k7 : Nat) (q7 : Nat) (a9 : Nat → Nat) (q9 : Nat) (a11 : Nat → Nat) (q11 : Nat) (a13 : Nat → Nat) (q13 b15 : Nat) (z15 : Nat → Nat) (y15 : Nat → Nat → Nat) (q15 : Nat) (md m0 m1 m2 m3 m4 m5 m6 m7 m8 oo : Nat) : ∀ x ∈ prs, ∃ e, (wL G h0 q0 c2 q2 e4 f4 g4 q4 q5 u7 p7 k7 q7 a9 q9 a11 q11 a13 q13 b15 z15 y15 q15 md m0 m1 m2 m3 m4 m5 m6 m7 m8 oo)[idxOf x.1 x.2]? = some ((gadOf h0 q0 c2 q2 e4 f4 g4 q4 q5 u7 p7 k7 q7 a9 q9 a11 q11 a13 q13 b15 z15 y15 q15 md m0 m1 m2 m3 m4 m5 m6 m7 m8 oo) x.1 x.2, e) := fun x hx => by
  by_cases h : x = (0, 10)
  · subst h
    exact ⟨_, wz_10 G h0 q0 c2 q2 e4 f4 g4 q4 q5 u7 p7 k7 q7 a9 q9 a11 q11 a13 q13 b15 z15 y15 q15 md m0 m1 m2 m3 m4 m5 m6 m7 m8 oo⟩
  · exact ⟨_, wl_all G h0 q0 c2 q2 e4 f4 g4 q4 q5 u7 p7 k7 q7 a9 q9 a11 q11 a13 q13 b15 z15 y15 q15 md m0 m1 m2 m3 m4 m5 m6 m7 m8 oo x hx h⟩
