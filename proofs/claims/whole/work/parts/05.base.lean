/-! ===== the world: one memory of ints over all cells; its cells by (group, place) ===== -/
abbrev Mem : Type := Nat → Nat → Nat → Int32
def upm (μ : Mem) (g j i : Nat) (v : Int32) : Mem := fun a b c => if a = g ∧ b = j ∧ c = i then v else μ a b c
def upA (μ : Mem) (g j : Nat) (f : Nat → Int32) : Mem := fun a b => if a = g ∧ b = j then f else μ a b
/-- addresses, classes, array classes (int, boolean, long, House), the first address that is ours, the heap below it, the texts' addresses -/
abbrev GG : Type := (Nat → Nat → Nat) × va_G × (Nat → ClassId) × Nat × Heap × (Nat → Nat) × (Nat → Nat)
abbrev gad (G : GG) : Nat → Nat → Nat := G.1
abbrev gD (G : GG) : va_G := G.2.1
abbrev gcA (G : GG) : Nat → ClassId := G.2.2.1
abbrev glo (G : GG) : Nat := G.2.2.2.1
abbrev gH (G : GG) : Heap := G.2.2.2.2.1
abbrev gsK (G : GG) : Nat → Nat := G.2.2.2.2.2.1
abbrev gsV (G : GG) : Nat → Nat := G.2.2.2.2.2.2
abbrev gT (G : GG) : List (ClassId × FieldType) := [(gcA G 0, .int), (gcA G 1, .boolean), (gcA G 2, .long), (gcA G 3, .object "SaturdayKeep$House")]
abbrev gA (G : GG) : Nat → Prop := fun q => glo G ≤ q
def ent0 (G : GG) (j : Nat) (f : Nat → Int32) : va_E := match j with
  | 0 => .inr (9, [.ref (gad G 0 1), .ref (gad G 0 3), .ref (gad G 0 7), .ref (gad G 0 8), .ref (gad G 1 0), .ref (gad G 2 0), .ref (gad G 3 0), .ref (gad G 0 9), .ref (gad G 0 11), .int (f 9), .int (f 10)])
  | 1 => .inr (7, [.ref (gad G 0 2), .int (f 1)])
  | 2 => .inl (gcA G 0, 400, .inl f)
  | 3 => .inr (8, [.ref (gad G 0 4), .ref (gad G 0 5), .ref (gad G 0 6), .int (f 3), .int (f 4), .int (f 5)])
  | 4 => .inl (gcA G 0, 401, .inl f)
  | 5 => .inl (gcA G 0, 401, .inl f)
  | 6 => .inl (gcA G 0, 401, .inl f)
  | 7 => .inr (3, [.ref (gad G 0 3)])
  | 8 => .inr (5, [.ref (gad G 0 3), .ref (gad G 16 7)])
  | 9 => .inr (6, [.ref (gad G 0 10), .int (f 1), .int (f 2)])
  | 10 => .inl (gcA G 3, 12, .inr (.inr (.inr (.inr (fun i => some (gad G (i + 4) 0))))))
  | 11 => .inl (gcA G 0, 256, .inl f)
  | 12 => .inr (10, [.int (f 0), .ref (gad G 0 13), .ref (gad G 0 14), .int (f 3), .ref (gad G 0 15), .ref (gad G 0 16), .int (f 6), .ref (gad G 0 17), .int (f 8), .int (f 9), .int (f 10), .int (f 11), .int (f 12), .int (f 13), .ref (gad G 0 18), .int (f 15), .int (f 16), .int (f 17), .ref (gad G 0 19), .int (f 19), .ref (gad G 0 20), .ref (gad G 0 21)])
  | 13 => .inl (gcA G 0, 704, .inl f)
  | 14 => .inl (gcA G 0, 704, .inl f)
  | 15 => .inl (gcA G 0, 304, .inl f)
  | 16 => .inl (gcA G 0, 3648, .inl f)
  | 17 => .inl (gcA G 0, 400, .inl f)
  | 18 => .inl (gcA G 0, 7, .inl f)
  | 19 => .inl (gcA G 0, 8, .inl f)
  | 20 => .inl (gcA G 0, 2304, .inl f)
  | 21 => .inl (gcA G 1, 52, .inl f)
  | _ => .inl (gcA G 2, 1, .inr (.inl (fun i => (f i).toInt64)))
def entH (G : GG) (g j : Nat) (f : Nat → Int32) : va_E := match j with
  | 0 => .inr (2, [.ref (gad G g 1), .ref (gad G g 5), .ref (gad G g 7), .ref (gad G g 10), .ref (gad G g 11), .int (f 5), .int (f 6), .int (f 7), .int (f 8), .int (f 9), .int (f 10), .int (f 11), .int (f 12), .int (f 13), .int (f 14), .int (f 15), .int (f 16)])
  | 1 => .inr (1, [.ref (gad G g 2), .ref (gad G g 3), .ref (gad G g 4), .int (f 3), .int (f 4), .int (f 5)])
  | 2 => .inl (gcA G 0, 8, .inl f)
  | 3 => .inl (gcA G 0, 8, .inl f)
  | 4 => .inl (gcA G 0, 8, .inl f)
  | 5 => .inr (0, [.ref (gad G g 6), .int (f 1), .int (f 2)])
  | 6 => .inl (gcA G 0, 240, .inl f)
  | 7 => .inr (4, [.ref (gad G g 8), .ref (gad G g 9), .int (f 2), .int (f 3), .int (f 4)])
  | 8 => .inl (gcA G 0, 400, .inl f)
  | 9 => .inl (gcA G 0, 32, .inl f)
  | 10 => .inl (gcA G 0, 8, .inl f)
  | _ => .inl (gcA G 0, 9, .inl f)
def ent (G : GG) (g j : Nat) (f : Nat → Int32) : va_E := match g with
  | 0 => ent0 G j f
  | h + 1 => entH G (h + 1) j f
def prs : List (Nat × Nat) := (List.range 23).map (fun j => (0, j)) ++ ((List.range 15).flatMap (fun h => (List.range 12).map (fun j => (h + 1, j))) ++ [(16, 7), (16, 8), (16, 9)])
abbrev vld (g j : Nat) : Prop := (g, j) ∈ prs
theorem prs_nd : prs.Nodup := by decide +kernel
theorem v0 {j : Nat} (h : j < 23) : vld 0 j := List.mem_append_left _ (List.mem_map.mpr ⟨j, List.mem_range.mpr h, rfl⟩)
theorem vH {h j : Nat} (h1 : h < 15) (h2 : j < 12) : vld (h + 1) j := List.mem_append_right _ (List.mem_append_left _ (List.mem_flatMap.mpr ⟨h, List.mem_range.mpr h1, List.mem_map.mpr ⟨j, List.mem_range.mpr h2, rfl⟩⟩))
theorem vL {h j : Nat} (h1 : h < 16) (h2 : 7 ≤ j ∧ j ≤ 9) : vld (h + 1) j := by
  by_cases q : h < 15
  · exact vH q (by omega)
  · have e : h = 15 := by omega
    subst e
    rcases (show j = 7 ∨ j = 8 ∨ j = 9 by omega) with rfl | rfl | rfl <;> decide +kernel
def wsL (P : List (Nat × Nat)) (G : GG) (μ : Mem) : va_W := P.map (fun q => (gad G q.1 q.2, ent G q.1 q.2 (μ q.1 q.2)))
theorem wsL_at (P : List (Nat × Nat)) (G : GG) (μ : Mem) {g j : Nat} (h : (g, j) ∈ P) : ∃ k : Nat, P[k]? = some (g, j) ∧ (wsL P G μ)[k]? = some (gad G g j, ent G g j (μ g j)) := by
  obtain ⟨k, hk⟩ := List.mem_iff_getElem?.mp h
  exact ⟨k, hk, by rw [wsL, List.getElem?_map, hk]; rfl⟩
theorem wsL_set (P : List (Nat × Nat)) (hP : P.Nodup) (G : GG) (μ : Mem) {g j k : Nat} (h : P[k]? = some (g, j)) (f : Nat → Int32) : (wsL P G μ).set k (gad G g j, ent G g j f) = wsL P G (upA μ g j f) := by
  apply List.ext_getElem?
  intro i
  have hl : k < (wsL P G μ).length := by rw [wsL, List.length_map]; exact (List.getElem?_eq_some_iff.mp h).1
  by_cases hi : i = k
  · subst hi
    have e : upA μ g j f g j = f := if_pos ⟨rfl, rfl⟩
    rw [List.getElem?_set_self hl, wsL, List.getElem?_map, h, Option.map_some, e]
  · rw [List.getElem?_set_ne (Ne.symm hi), wsL, wsL, List.getElem?_map, List.getElem?_map]
    cases hp : P[i]? with
    | none => rw [Option.map_none, Option.map_none]
    | some q =>
      have hne : ¬ (q.1 = g ∧ q.2 = j) := by
        intro e
        have hq : q = (g, j) := Prod.ext e.1 e.2
        rw [hq] at hp
        exact hi ((List.getElem?_inj (List.getElem?_eq_some_iff.mp hp).1 hP).mp (hp.trans h.symm))
      have e : upA μ g j f q.1 q.2 = μ q.1 q.2 := if_neg hne
      rw [Option.map_some, Option.map_some, e]
def wsOf (G : GG) (μ : Mem) : va_W := wsL prs G μ
theorem ws_at (G : GG) (μ : Mem) {g j : Nat} (h : vld g j) : ∃ k : Nat, prs[k]? = some (g, j) ∧ (wsOf G μ)[k]? = some (gad G g j, ent G g j (μ g j)) := wsL_at prs G μ h
theorem ws_set (G : GG) (μ : Mem) {g j k : Nat} (h : prs[k]? = some (g, j)) (f : Nat → Int32) : (wsOf G μ).set k (gad G g j, ent G g j f) = wsOf G (upA μ g j f) := wsL_set prs prs_nd G μ h f
theorem upm_A (μ : Mem) (g j i : Nat) (v : Int32) : upA μ g j (upd (μ g j) i v) = upm μ g j i v := by
  funext a b c
  simp only [upA, upm, upd]
  by_cases h : a = g ∧ b = j
  · obtain ⟨rfl, rfl⟩ := h
    simp [upd]
  · rw [if_neg h, if_neg (fun q => h ⟨q.1, q.2.1⟩)]
/-- the addresses are apart and ours -/
def GOK (G : GG) : Prop := (∀ g j g' j', vld g j → vld g' j' → gad G g j = gad G g' j' → g = g' ∧ j = j') ∧ ∀ g j, vld g j → glo G ≤ gad G g j
theorem wsL_D (P : List (Nat × Nat)) (hN : P.Nodup) {G : GG} (h1 : ∀ x ∈ P, ∀ y ∈ P, gad G x.1 x.2 = gad G y.1 y.2 → x = y) (h2 : ∀ x ∈ P, glo G ≤ gad G x.1 x.2) (μ : Mem) : va_D (gA G) (wsL P G μ) := by
  have at' : ∀ (i : Nat) (p : Nat × va_E), (wsL P G μ)[i]? = some p → ∃ q, P[i]? = some q ∧ p.1 = gad G q.1 q.2 := by
    intro i p hp
    rw [wsL, List.getElem?_map] at hp
    cases hq : P[i]? with
    | none => rw [hq] at hp; cases hp
    | some q => rw [hq] at hp; cases hp; exact ⟨q, rfl, rfl⟩
  refine ⟨fun i j p q hi hj hpq => ?_, fun k q hk => ?_⟩
  · obtain ⟨x, hx, ex⟩ := at' i p hi
    obtain ⟨y, hy, ey⟩ := at' j q hj
    rw [ex, ey] at hpq
    have e := h1 _ (List.mem_of_getElem? hx) _ (List.mem_of_getElem? hy) hpq
    subst e
    exact (List.getElem?_inj (List.getElem?_eq_some_iff.mp hx).1 hN).mp (hx.trans hy.symm)
  · obtain ⟨x, hx, ex⟩ := at' k q hk
    rw [ex]
    exact h2 _ (List.mem_of_getElem? hx)
theorem wsD {G : GG} (h : GOK G) (μ : Mem) : va_D (gA G) (wsOf G μ) := wsL_D prs prs_nd (fun x hx y hy e => by obtain ⟨e1, e2⟩ := h.1 _ _ _ _ hx hy e; exact Prod.ext e1 e2) (fun x hx => h.2 _ _ hx) μ
