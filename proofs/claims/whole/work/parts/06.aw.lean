/-! ===== the judgement AW: from this frame, over a heap that holds the memory μ, the machine comes to an end with Q x, for the x that E says; nothing is said where E is none ===== -/
abbrev CX : Type := Program × Launch × Env × Room × State × MethodId × Array Value × List Frame × Method × Code
abbrev cR (C : CX) : Room := C.2.2.2.1
abbrev cS (C : CX) : State := C.2.2.2.2.1
abbrev cM (C : CX) : MethodId := C.2.2.2.2.2.1
abbrev cArgs (C : CX) : Array Value := C.2.2.2.2.2.2.1
abbrev cBel (C : CX) : List Frame := C.2.2.2.2.2.2.2.1
abbrev cMe (C : CX) : Method := C.2.2.2.2.2.2.2.2.1
abbrev cC (C : CX) : Code := C.2.2.2.2.2.2.2.2.2
abbrev WX (C : CX) (H : Heap) (locs : List Loc) (k n : Nat) (Q : State → Prop) (g : JFrame) : Prop := W C.1 C.2.1 C.2.2.1 (cR C) (cS C) (cM C) (cArgs C) (cBel C) (cMe C) (cC C) H locs k n Q g
/-- locals by place -/
def asc : Nat → List (Option Value) → List (Nat × Value)
  | _, [] => []
  | i, none :: l => asc (i + 1) l
  | i, some v :: l => (i, v) :: asc (i + 1) l
theorem asc_mem : ∀ (L : List (Option Value)) (i k : Nat) (v : Value), (k, v) ∈ asc i L ↔ ∃ j, k = i + j ∧ L[j]? = some (some v)
  | [], i, k, v => by simp [asc]
  | none :: l, i, k, v => by
    rw [asc, asc_mem l]
    constructor
    · rintro ⟨j, e, h⟩
      exact ⟨j + 1, by omega, by simpa using h⟩
    · rintro ⟨j, e, h⟩
      cases j with
      | zero => simp at h
      | succ j => exact ⟨j, by omega, by simpa using h⟩
  | some w :: l, i, k, v => by
    rw [asc, List.mem_cons, asc_mem l]
    constructor
    · rintro (e | ⟨j, e, h⟩)
      · cases e
        exact ⟨0, rfl, rfl⟩
      · exact ⟨j + 1, by omega, by simpa using h⟩
    · rintro ⟨j, e, h⟩
      cases j with
      | zero => simp at h; subst h; exact Or.inl (by rw [e]; rfl)
      | succ j => exact Or.inr ⟨j, by omega, by simpa using h⟩
abbrev lvp (ls : Array Slot) (nL : Nat) (L : List (Option Value)) : Prop := lv_has ls nL (asc 0 L)
theorem lvp_at {ls : Array Slot} {nL : Nat} {L : List (Option Value)} (h : lvp ls nL L) {i : Nat} {v : Value} (hl : L[i]? = some (some v)) : ls[i]? = some (.val v) :=
  h.2.2 (i, v) ((asc_mem L 0 i v).mpr ⟨i, by omega, hl⟩)
theorem lvp_in {ls : Array Slot} {nL : Nat} {L : List (Option Value)} (h : lvp ls nL L) {i : Nat} {v : Value} (hl : L[i]? = some (some v)) : ∃ k : Nat, (asc 0 L)[k]? = some (i, v) :=
  List.mem_iff_getElem?.mp ((asc_mem L 0 i v).mpr ⟨i, by omega, hl⟩)
theorem lvp_sub {ls : Array Slot} {nL : Nat} {L L' : List (Option Value)} (h : lvp ls nL L) (hl : ∀ (i : Nat) (v : Value), L'[i]? = some (some v) → L[i]? = some (some v)) : lvp ls nL L' := by
  refine ⟨h.1, h.2.1, fun q hq => ?_⟩
  obtain ⟨j, e, hj⟩ := (asc_mem L' 0 q.1 q.2).mp hq
  have e2 : q.1 = j := by omega
  rw [e2]
  exact lvp_at h (hl _ _ hj)
/-- the place before isn't a long's -/
def okS (L : List (Option Value)) (i : Nat) : Bool := match i with
  | 0 => true
  | k + 1 => match L[k]? with
    | some (some (.long _)) => false
    | some (some (.double _)) => false
    | _ => true
theorem okS_ne {L : List (Option Value)} {i j : Nat} (h : okS L i = true) (hj : j + 1 = i) {w : Value} (hw : L[j]? = some (some w)) : ¬ w.category = 2 := by
  subst hj
  simp only [okS, hw] at h
  cases w <;> simp_all [Value.category]
theorem lvp_set1 {ls : Array Slot} {nL i : Nat} {v : Value} {L : List (Option Value)} (ho : okS L i = true) (h : lv_has ls nL ((i, v) :: (asc 0 L).filter (fun q => !(q.1 == i) && !(q.1 + 1 == i && q.2.category == 2)))) : lvp ls nL (L.set i (some v)) := by
  refine ⟨h.1, h.2.1, fun q hq => h.2.2 q ?_⟩
  obtain ⟨j, e, hj⟩ := (asc_mem _ 0 q.1 q.2).mp hq
  have e2 : q.1 = j := by omega
  by_cases hi : j = i
  · subst hi
    have hl : j < L.length := by
      have := (List.getElem?_eq_some_iff.mp hj).1
      simpa using this
    rw [List.getElem?_set_self hl] at hj
    have e3 : q = (j, v) := Prod.ext e2 (Option.some.inj (Option.some.inj hj)).symm
    rw [e3]
    exact List.mem_cons_self
  · rw [List.getElem?_set_ne (Ne.symm hi)] at hj
    refine List.mem_cons_of_mem _ (List.mem_filter.mpr ⟨(asc_mem L 0 q.1 q.2).mpr ⟨j, e, hj⟩, ?_⟩)
    by_cases h1 : j + 1 = i
    · have h2 := okS_ne ho h1 hj
      simp [e2, hi, h2]
    · simp [e2, hi, h1]
theorem lvp_set2 {ls : Array Slot} {nL i : Nat} {v : Value} {L : List (Option Value)} (ho : okS L i = true) (h : lv_has ls nL ((i, v) :: (asc 0 L).filter (fun q => !(q.1 == i) && (!(q.1 == i + 1) && !(q.1 + 1 == i && q.2.category == 2))))) : lvp ls nL ((L.set i (some v)).set (i + 1) none) := by
  refine ⟨h.1, h.2.1, fun q hq => h.2.2 q ?_⟩
  obtain ⟨j, e, hj⟩ := (asc_mem _ 0 q.1 q.2).mp hq
  have e2 : q.1 = j := by omega
  by_cases hi1 : j = i + 1
  · subst hi1
    have hl : i + 1 < (L.set i (some v)).length := by
      have := (List.getElem?_eq_some_iff.mp hj).1
      simpa using this
    rw [List.getElem?_set_self hl] at hj
    cases hj
  rw [List.getElem?_set_ne (Ne.symm hi1)] at hj
  by_cases hi : j = i
  · subst hi
    have hl : j < L.length := by
      have := (List.getElem?_eq_some_iff.mp hj).1
      simpa using this
    rw [List.getElem?_set_self hl] at hj
    have e3 : q = (j, v) := Prod.ext e2 (Option.some.inj (Option.some.inj hj)).symm
    rw [e3]
    exact List.mem_cons_self
  · rw [List.getElem?_set_ne (Ne.symm hi)] at hj
    refine List.mem_cons_of_mem _ (List.mem_filter.mpr ⟨(asc_mem L 0 q.1 q.2).mpr ⟨j, e, hj⟩, ?_⟩)
    by_cases h1 : j + 1 = i
    · have h2 := okS_ne ho h1 hj
      simp [e2, hi, hi1, h2]
    · simp [e2, hi, hi1, h1]
theorem asc_args : ∀ (vs : List Value) (i : Nat), vs.all (fun v => v.category == 1) = true → lv_args i vs = asc i (vs.map some)
  | [], _, _ => rfl
  | v :: vs, i, h => by
    simp only [List.all_cons, Bool.and_eq_true, beq_iff_eq] at h
    rw [lv_args, if_neg (by omega), asc_args vs (i + 1) h.2]
    rfl
theorem oth_warm {w : Cond} (hw : isOth w = true) {s U : State} (hW : s.WarmedH U.vm) (h : va_Nw w s) : va_Nw w U := by
  cases w <;> first | exact va_Nw.warmC hW h | exact va_Nw.warmD hW h | exact va_Nw.warmM hW h | (exact absurd hw (by decide)) | (exact Bool.noConfusion hw)
theorem oth_tab {w : Cond} (hw : isOth w = true) : w.onTables = true := by
  cases w <;> first | rfl | (exact absurd hw (by decide)) | (exact Bool.noConfusion hw)
def strL : List (String × Nat × String) := [("SaturdayKeep$Tokens", 70, "guest"), ("SaturdayKeep$Tokens", 76, "room"), ("SaturdayKeep$Tokens", 78, "wish"), ("SaturdayKeep$Tokens", 80, "doubted"), ("SaturdayKeep$Tokens", 82, "towers"), ("SaturdayKeep$Tokens", 84, "holes"), ("SaturdayKeep$Tokens", 86, "week"), ("SaturdayKeep$Tokens", 88, "key"), ("SaturdayKeep$Tokens", 90, "eve"), ("SaturdayKeep$Tokens", 92, "at"), ("SaturdayKeep$Tokens", 93, "doubt"), ("SaturdayKeep$Tokens", 95, "calm"), ("SaturdayKeep$Tokens", 97, "if"), ("SaturdayKeep$Tokens", 99, "or"), ("SaturdayKeep$Tokens", 101, "and"), ("SaturdayKeep$Tokens", 103, "not"), ("SaturdayKeep$Tokens", 105, "hole"), ("SaturdayKeep$Tokens", 107, "bath"), ("SaturdayKeep$Tokens", 109, "shift"), ("SaturdayKeep$Tokens", 111, "keep"), ("SaturdayKeep$Tokens", 113, "masons"), ("SaturdayKeep$Tokens", 115, "stones"), ("SaturdayKeep$Tokens", 117, "bore"), ("SaturdayKeep$Tokens", 119, "day"), ("SaturdayKeep", 95, "the text of the house is wrong"), ("SaturdayKeep", 105, "there are twelve texts"), ("SaturdayKeep", 114, "the text of the law is wrong"), ("SaturdayKeep", 136, "no such guest"), ("SaturdayKeep", 179, "no such thing of a guest"), ("SaturdayKeep", 188, "no such room"), ("SaturdayKeep", 202, "no such thing of a room"), ("SaturdayKeep", 207, "no such calendar"), ("SaturdayKeep", 215, "no such day"), ("SaturdayKeep", 220, "no such guest or room"), ("SaturdayKeep", 233, "no hole from a room into itself"), ("SaturdayKeep", 245, "so many masons are none"), ("SaturdayKeep", 250, "so many stones are none"), ("SaturdayKeep", 264, "so many days are none"), ("SaturdayKeep", 279, "no such thing ahead"), ("SaturdayKeep", 290, "so much doubt is none"), ("SaturdayKeep", 298, "so many towers are none"), ("SaturdayKeep", 315, "such odds are none"), ("SaturdayKeep", 364, "the tape is not that"), ("SaturdayKeep", 408, "no such thing of a look"), ("SaturdayKeepModel", 110, "doubt"), ("SaturdayKeepModel", 219, "calm"), ("SaturdayKeepModel", 221, "if"), ("SaturdayKeepModel", 200, "not"), ("SaturdayKeepModel", 112, "key"), ("SaturdayKeepModel", 192, "eve"), ("SaturdayKeepModel", 118, "guest"), ("SaturdayKeepModel", 175, "room"), ("SaturdayKeepModel", 103, "wish"), ("SaturdayKeepModel", 177, "doubted"), ("SaturdayKeepModel", 179, "towers"), ("SaturdayKeepModel", 181, "holes"), ("SaturdayKeepModel", 183, "week"), ("SaturdayKeepModel", 212, "and"), ("SaturdayKeepModel", 217, "or"), ("SaturdayKeepModel", 109, "at"), ("SaturdayKeepModel", 123, "hole"), ("SaturdayKeepModel", 128, "bath"), ("SaturdayKeepModel", 134, "shift"), ("SaturdayKeepModel", 136, "keep"), ("SaturdayKeepModel", 138, "masons"), ("SaturdayKeepModel", 140, "stones"), ("SaturdayKeepModel", 142, "bore"), ("SaturdayKeepModel", 144, "day")]
def strB : List (List Int32) := [[103, 117, 101, 115, 116], [114, 111, 111, 109], [119, 105, 115, 104], [100, 111, 117, 98, 116, 101, 100], [116, 111, 119, 101, 114, 115], [104, 111, 108, 101, 115], [119, 101, 101, 107], [107, 101, 121], [101, 118, 101], [97, 116], [100, 111, 117, 98, 116], [99, 97, 108, 109], [105, 102], [111, 114], [97, 110, 100], [110, 111, 116], [104, 111, 108, 101], [98, 97, 116, 104], [115, 104, 105, 102, 116], [107, 101, 101, 112], [109, 97, 115, 111, 110, 115], [115, 116, 111, 110, 101, 115], [98, 111, 114, 101], [100, 97, 121], [116, 104, 101, 32, 116, 101, 120, 116, 32, 111, 102, 32, 116, 104, 101, 32, 104, 111, 117, 115, 101, 32, 105, 115, 32, 119, 114, 111, 110, 103], [116, 104, 101, 114, 101, 32, 97, 114, 101, 32, 116, 119, 101, 108, 118, 101, 32, 116, 101, 120, 116, 115], [116, 104, 101, 32, 116, 101, 120, 116, 32, 111, 102, 32, 116, 104, 101, 32, 108, 97, 119, 32, 105, 115, 32, 119, 114, 111, 110, 103], [110, 111, 32, 115, 117, 99, 104, 32, 103, 117, 101, 115, 116], [110, 111, 32, 115, 117, 99, 104, 32, 116, 104, 105, 110, 103, 32, 111, 102, 32, 97, 32, 103, 117, 101, 115, 116], [110, 111, 32, 115, 117, 99, 104, 32, 114, 111, 111, 109], [110, 111, 32, 115, 117, 99, 104, 32, 116, 104, 105, 110, 103, 32, 111, 102, 32, 97, 32, 114, 111, 111, 109], [110, 111, 32, 115, 117, 99, 104, 32, 99, 97, 108, 101, 110, 100, 97, 114], [110, 111, 32, 115, 117, 99, 104, 32, 100, 97, 121], [110, 111, 32, 115, 117, 99, 104, 32, 103, 117, 101, 115, 116, 32, 111, 114, 32, 114, 111, 111, 109], [110, 111, 32, 104, 111, 108, 101, 32, 102, 114, 111, 109, 32, 97, 32, 114, 111, 111, 109, 32, 105, 110, 116, 111, 32, 105, 116, 115, 101, 108, 102], [115, 111, 32, 109, 97, 110, 121, 32, 109, 97, 115, 111, 110, 115, 32, 97, 114, 101, 32, 110, 111, 110, 101], [115, 111, 32, 109, 97, 110, 121, 32, 115, 116, 111, 110, 101, 115, 32, 97, 114, 101, 32, 110, 111, 110, 101], [115, 111, 32, 109, 97, 110, 121, 32, 100, 97, 121, 115, 32, 97, 114, 101, 32, 110, 111, 110, 101], [110, 111, 32, 115, 117, 99, 104, 32, 116, 104, 105, 110, 103, 32, 97, 104, 101, 97, 100], [115, 111, 32, 109, 117, 99, 104, 32, 100, 111, 117, 98, 116, 32, 105, 115, 32, 110, 111, 110, 101], [115, 111, 32, 109, 97, 110, 121, 32, 116, 111, 119, 101, 114, 115, 32, 97, 114, 101, 32, 110, 111, 110, 101], [115, 117, 99, 104, 32, 111, 100, 100, 115, 32, 97, 114, 101, 32, 110, 111, 110, 101], [116, 104, 101, 32, 116, 97, 112, 101, 32, 105, 115, 32, 110, 111, 116, 32, 116, 104, 97, 116], [110, 111, 32, 115, 117, 99, 104, 32, 116, 104, 105, 110, 103, 32, 111, 102, 32, 97, 32, 108, 111, 111, 107], [100, 111, 117, 98, 116], [99, 97, 108, 109], [105, 102], [110, 111, 116], [107, 101, 121], [101, 118, 101], [103, 117, 101, 115, 116], [114, 111, 111, 109], [119, 105, 115, 104], [100, 111, 117, 98, 116, 101, 100], [116, 111, 119, 101, 114, 115], [104, 111, 108, 101, 115], [119, 101, 101, 107], [97, 110, 100], [111, 114], [97, 116], [104, 111, 108, 101], [98, 97, 116, 104], [115, 104, 105, 102, 116], [107, 101, 101, 112], [109, 97, 115, 111, 110, 115], [115, 116, 111, 110, 101, 115], [98, 111, 114, 101], [100, 97, 121]]
def ncL : List (String × String) := [("java/lang/UnsupportedOperationException", "java/lang/IllegalArgumentException"), ("java/util/NoSuchElementException", "java/lang/IndexOutOfBoundsException"), ("java/lang/IllegalArgumentException", "java/lang/IndexOutOfBoundsException"), ("java/util/NoSuchElementException", "java/lang/IllegalArgumentException")]
/-- a text that is a constant: its cell, and its bytes' -/
def STR (G : GG) (i : Nat) (b : List Int32) (U : State) (H : Heap) : Prop := va_O "java/lang/String" (gsK G i) (gA G) U H ∧ va_OF "java/lang/String" "coder" "B" (.int 0) (gsK G i) (gA G) U H ∧ va_OF "java/lang/String" "value" "[B" (.ref (gsV G i)) (gsK G i) (gA G) U H ∧ va_T .byte (gsV G i) b.length (fun j => .int (b.getD j 0)) (gA G) U H
/-- what holds below our cells, and of the tables -/
def SV (G : GG) (s : State) : Prop := (∀ w ∈ lw_tbl, isOth w = true → va_Nw w s) ∧ (∀ (i : Nat) (q : String × Nat × String), strL[i]? = some q → vk_R q.1 q.2.1 q.2.2 (gsK G i) s) ∧ (∀ (i : Nat) (b : List Int32), strB[i]? = some b → STR G i b s s.heap) ∧ va_Z "java/lang/String" "COMPACT_STRINGS" "Z" (.int 1) (gA G) s s.heap ∧ va_Zq "jdk/internal/util/Preconditions" "SIOOBE_FORMATTER" "Ljava/util/function/BiFunction;" (gA G) s s.heap ∧ vx_Zq Bundle.tN "UNASSIGNED_STACK" Bundle.steD (gA G) s s.heap ∧ vx_Zq Bundle.tN "SUPPRESSED_SENTINEL" Bundle.listD (gA G) s s.heap ∧ ∀ q ∈ ncL, va_Nc q.1 q.2 s
theorem SV_moved {G : GG} {s U : State} (h : SV G s) (hW : s.WarmedH U.vm) (hq : ∀ a : Nat, a < s.heap.size → ¬ gA G a → U.heap[a]? = s.heap[a]?) : SV G U := by
  obtain ⟨h1, h2, h3, h4, h5, h6, h7, h8⟩ := h
  have hA := hW.alike
  refine ⟨fun w hw ho => oth_warm ho hW (h1 w hw ho), fun i q hi => vk_R.warm hW (h2 i q hi), fun i b hi => ?_, (va_Z.moved hA h4).kept hq, (va_Zq.moved hA h5).kept hq, (vx_Zq.moved hA h6).kept hq, (vx_Zq.moved hA h7).kept hq, fun q hq => va_Nc.moved hA (h8 q hq)⟩
  obtain ⟨k1, k2, k3, k4⟩ := h3 i b hi
  exact ⟨(va_O.moved hA k1).kept hq, (va_OF.moved hA k2).kept hq, (va_OF.moved hA k3).kept hq, (va_T.moved hA k4).kept hq⟩
theorem SV_calling {G : GG} {s : State} (h : SV G s) (g : JFrame) (mk : MethodId) (a : Array Value) : SV G (s.calling g mk a) := by
  obtain ⟨h1, h2, h3, h4, h5, h6, h7, h8⟩ := h
  have hA : s.vm.Alike (s.calling g mk a).vm := Vm.Alike.refl s.vm
  refine ⟨fun w hw ho => va_Nw.same (oth_tab ho) (u := s) rfl (h1 w hw ho), fun i q hi => vk_R.same (u := s) rfl (h2 i q hi), fun i b hi => ?_, va_Z.moved hA h4, va_Zq.moved hA h5, vx_Zq.moved hA h6, vx_Zq.moved hA h7, fun q hq => va_Nc.moved hA (h8 q hq)⟩
  obtain ⟨k1, k2, k3, k4⟩ := h3 i b hi
  exact ⟨va_O.moved hA k1, va_OF.moved hA k2, va_OF.moved hA k3, va_T.moved hA k4⟩
def IV (G : GG) (s : State) : Prop := GOK G ∧ glo G ≤ s.heap.size ∧ (∀ q : Nat, q < glo G → s.heap[q]? = (gH G)[q]?) ∧ SV G s
theorem IV_moved {G : GG} {s U : State} (h : IV G s) (hW : s.WarmedH U.vm) (hz : s.heap.size ≤ U.heap.size) (hq : ∀ a : Nat, a < s.heap.size → ¬ gA G a → U.heap[a]? = s.heap[a]?) : IV G U :=
  ⟨h.1, Nat.le_trans h.2.1 hz, fun q hl => (hq q (Nat.lt_of_lt_of_le hl h.2.1) (Nat.not_le.mpr hl)).trans (h.2.2.1 q hl), SV_moved h.2.2.2 hW hq⟩
/-- what a method of ours may take as given -/
def Inv (G : GG) (μ : Mem) (U : State) : Prop := va_P (gD G) vwCl (wsOf G μ) U.heap ∧ va_K (gD G) vwCl (gT G) U ∧ IV G U
theorem Inv_blind {G : GG} {μ : Mem} (vs : List Value) : FrameBlind (va_Pc vs (Inv G μ)) := fun a U g mk h =>
  ⟨h.1, h.2.1, va_K.moved (u := U) (U := U.calling g mk a) (Vm.Alike.refl U.vm) h.2.2.1, h.2.2.2.1, h.2.2.2.2.1, h.2.2.2.2.2.1, SV_calling h.2.2.2.2.2.2 g mk a⟩
abbrev rmL (k : Nat) : Room := { frames := 2 * k, cells := 0, slots := 0, locals := 64 * k }
/-- what a walk takes as known of its frame -/
def CO (G : GG) (C : CX) (own : String) (cc : ByteArray) (nL lvl kc ks : Nat) (ret : Option FieldType) : Prop :=
  C.1.tables.exec = Jvm.exec ∧ (cC C).code = cc ∧ (cC C).maxLocals = nL ∧ (cS C).vm.findClass own = some (cM C).cls ∧ (∀ w ∈ BIG, w.before (cArgs C) (cS C) = true) ∧ (cMe C).locks = false ∧ va_K (gD G) vwCl (gT G) (cS C) ∧ IV G (cS C) ∧ (2 * lvl ≤ (cR C).frames ∧ 64 * lvl ≤ (cR C).locals ∧ kc ≤ (cR C).cells ∧ ks ≤ (cR C).slots) ∧ (cMe C).sig.returnType = ret
def AW {τ : Type} (G : GG) (C : CX) (Q : τ → State → Prop) (kc ks nL : Nat) (μ : Mem) (pc : Nat) (L : List (Option Value)) (st : List Value) (E : Option τ) : Prop :=
  ∀ x, E = some x → ∀ (H : Heap) (locs : List Loc) (ls : Array Slot), va_P (gD G) vwCl (wsOf G μ) H → va_S (gA G) (cS C).heap H locs → lvp ls nL L → WX C H locs kc ks (Q x) (F0 (cM C) pc ls st)
section AWR
variable {τ : Type} {G : GG} {C : CX} {own : String} {cc : ByteArray} {nL lvl kc ks : Nat} {ret : Option FieldType} {Q : τ → State → Prop} {μ : Mem} {pc : Nat} {L : List (Option Value)} {st : List Value} {E : Option τ}
theorem CO.x (h : CO G C own cc nL lvl kc ks ret) : C.1.tables.exec = Jvm.exec := h.1
theorem CO.b (h : CO G C own cc nL lvl kc ks ret) : (cC C).code = cc := h.2.1
theorem CO.ml (h : CO G C own cc nL lvl kc ks ret) : (cC C).maxLocals = nL := h.2.2.1
theorem CO.ow (h : CO G C own cc nL lvl kc ks ret) : (cS C).vm.findClass own = some (cM C).cls := h.2.2.2.1
theorem CO.w (h : CO G C own cc nL lvl kc ks ret) {w : Cond} (hw : w ∈ BIG) : w.before (cArgs C) (cS C) = true := h.2.2.2.2.1 w hw
theorem CO.ws (h : CO G C own cc nL lvl kc ks ret) : ∀ w ∈ BIG, w.before (cArgs C) (cS C) = true := h.2.2.2.2.1
theorem CO.lk (h : CO G C own cc nL lvl kc ks ret) : (cMe C).locks = false := h.2.2.2.2.2.1
theorem CO.K (h : CO G C own cc nL lvl kc ks ret) : va_K (gD G) vwCl (gT G) (cS C) := h.2.2.2.2.2.2.1
theorem CO.iv (h : CO G C own cc nL lvl kc ks ret) : IV G (cS C) := h.2.2.2.2.2.2.2.1
theorem CO.rm (h : CO G C own cc nL lvl kc ks ret) : 2 * lvl ≤ (cR C).frames ∧ 64 * lvl ≤ (cR C).locals ∧ kc ≤ (cR C).cells ∧ ks ≤ (cR C).slots := h.2.2.2.2.2.2.2.2.1
theorem CO.rt (h : CO G C own cc nL lvl kc ks ret) : (cMe C).sig.returnType = ret := h.2.2.2.2.2.2.2.2.2
theorem CO.D (h : CO G C own cc nL lvl kc ks ret) (μ : Mem) : va_D (gA G) (wsOf G μ) := wsD h.iv.1 μ
/-- names for a value, a memory -/
def nm {α : Type} (x : α) (k : α → Option τ) : Option τ := k x
/-- an index in a row of n -/
def ix (x : Int32) (n : Nat) (E : Option τ) : Option τ := if 0 ≤ x.toInt ∧ x.toInt < n then E else none
/-- a truth value -/
def bk (x : Int32) (E : Option τ) : Option τ := if x = 0 ∨ x = 1 then E else none
/-- a divisor -/
def nz (x : Int32) (E : Option τ) : Option τ := if x = 0 then none else E
def nzl (x : Int64) (E : Option τ) : Option τ := if x = 0 then none else E
def jrem (x y : Int32) : Int32 := x - x / y * y
def jshl (x y : Int32) : Int32 := x <<< (y &&& 31)
def jshr (x y : Int32) : Int32 := x >>> (y &&& 31)
def jushr (x y : Int32) : Int32 := (x.toUInt32 >>> (y.toUInt32 &&& Int32.toUInt32 31)).toInt32
def jlushr (x : Int64) (y : Int32) : Int64 := (x.toUInt64 >>> (y.toInt64.toUInt64 &&& Int64.toUInt64 63)).toInt64
def jlshr (x : Int64) (y : Int32) : Int64 := x >>> (y.toInt64 &&& 63)
def jlshl (x : Int64) (y : Int32) : Int64 := x <<< (y.toInt64 &&& 63)
theorem ix_some {x : Int32} {n : Nat} {E : Option τ} {y : τ} (h : ix x n E = some y) : vp_in x n ∧ E = some y := by
  unfold ix at h
  split at h
  · exact ⟨vp_in_iff.mpr (by assumption), h⟩
  · cases h
theorem bk_some {x : Int32} {E : Option τ} {y : τ} (h : bk x E = some y) : (x = 0 ∨ x = 1) ∧ E = some y := by
  unfold bk at h
  split at h
  · exact ⟨by assumption, h⟩
  · cases h
theorem bk_nar {x : Int32} (h : x = 0 ∨ x = 1) : vp_nar .boolean x = x := by rcases h with rfl | rfl <;> rfl
def jmax (u v : Int32) : Int32 := if u < v then v else u
def jmin (u v : Int32) : Int32 := if v < u then v else u
theorem aw_none : AW G C Q kc ks nL μ pc L st none := fun x hx => by cases hx
theorem aw_eq {E' : Option τ} (e : E = E') (k : AW G C Q kc ks nL μ pc L st E') : AW G C Q kc ks nL μ pc L st E := e ▸ k
theorem aw_sub {L' : List (Option Value)} (hl : ∀ (i : Nat) (v : Value), L'[i]? = some (some v) → L[i]? = some (some v)) (k : AW G C Q kc ks nL μ pc L' st E) : AW G C Q kc ks nL μ pc L st E :=
  fun x hx H locs ls hP hS hL => k x hx H locs ls hP hS (lvp_sub hL hl)
theorem aw_nmM {k : Mem → Option τ} (kk : ∀ μ', μ' = μ → AW G C Q kc ks nL μ' pc L st (k μ')) : AW G C Q kc ks nL μ pc L st (nm μ k) := kk μ rfl
theorem aw_nmI {x : Int32} {k : Int32 → Option τ} (kk : ∀ v : Int32, v = x → AW G C Q kc ks nL μ pc L (.int v :: st) (k v)) : AW G C Q kc ks nL μ pc L (.int x :: st) (nm x k) := kk x rfl
theorem aw_nmL {x : Int64} {k : Int64 → Option τ} (kk : ∀ v : Int64, v = x → AW G C Q kc ks nL μ pc L (.long v :: st) (k v)) : AW G C Q kc ks nL μ pc L (.long x :: st) (nm x k) := kk x rfl

theorem aw_iconst (hC : CO G C own cc nL lvl kc ks ret) {n : Int} {v : Int32} (hd : decode cc pc = .ok (.iconst n, 1)) (hv : Int32.ofInt n = v) (k : AW G C Q kc ks nL μ (pc + 1) L (.int v :: st) (E)) : AW G C Q kc ks nL μ (pc) L (st) (E) := by
  intro x hx H locs ls hP hS hL
  exact lv_iconst hC.x hC.b hd hv (k x hx H locs ls hP hS hL)
theorem aw_bipush (hC : CO G C own cc nL lvl kc ks ret) {n : Int} {v : Int32} (hd : decode cc pc = .ok (.bipush n, 2)) (hv : (Int8.ofInt n).toInt32 = v) (k : AW G C Q kc ks nL μ (pc + 2) L (.int v :: st) (E)) : AW G C Q kc ks nL μ (pc) L (st) (E) := by
  intro x hx H locs ls hP hS hL
  exact lv_bipush hC.x hC.b hd hv (k x hx H locs ls hP hS hL)
theorem aw_sipush (hC : CO G C own cc nL lvl kc ks ret) {n : Int} {v : Int32} (hd : decode cc pc = .ok (.sipush n, 3)) (hv : (Int16.ofInt n).toInt32 = v) (k : AW G C Q kc ks nL μ (pc + 3) L (.int v :: st) (E)) : AW G C Q kc ks nL μ (pc) L (st) (E) := by
  intro x hx H locs ls hP hS hL
  exact lv_sipush hC.x hC.b hd hv (k x hx H locs ls hP hS hL)
theorem aw_lconst (hC : CO G C own cc nL lvl kc ks ret) {n : Fin 2} {v : Int64} (hd : decode cc pc = .ok (.lconst n, 1)) (hv : Int64.ofNat (n : Nat) = v) (k : AW G C Q kc ks nL μ (pc + 1) L (.long v :: st) (E)) : AW G C Q kc ks nL μ (pc) L (st) (E) := by
  intro x hx H locs ls hP hS hL
  exact lv_lconst hC.x hC.b hd hv (k x hx H locs ls hP hS hL)
theorem aw_null (hC : CO G C own cc nL lvl kc ks ret) (hd : decode cc pc = .ok (.aconst_null, 1)) (k : AW G C Q kc ks nL μ (pc + 1) L (.null :: st) (E)) : AW G C Q kc ks nL μ (pc) L (st) (E) := by
  intro x hx H locs ls hP hS hL
  exact lv_null hC.x hC.b hd (k x hx H locs ls hP hS hL)
theorem aw_iload_n (hC : CO G C own cc nL lvl kc ks ret) {kf : Fin 4} {i : Nat} {v : Int32} (hd : decode cc pc = .ok (.iload_n kf, 1)) (hi : (kf : Nat) = i) (hl : L[i]? = some (some (.int v))) (k : AW G C Q kc ks nL μ (pc + 1) L (.int v :: st) (E)) : AW G C Q kc ks nL μ (pc) L (st) (E) := by
  intro x hx H locs ls hP hS hL
  exact lv_iload_n hC.x hC.b hd hi (lvp_at hL hl) (k x hx H locs ls hP hS hL)
theorem aw_iload (hC : CO G C own cc nL lvl kc ks ret) {i : Nat} {v : Int32} (hd : decode cc pc = .ok (.iload i, 2)) (hl : L[i]? = some (some (.int v))) (k : AW G C Q kc ks nL μ (pc + 2) L (.int v :: st) (E)) : AW G C Q kc ks nL μ (pc) L (st) (E) := by
  intro x hx H locs ls hP hS hL
  exact lv_iload hC.x hC.b hd (lvp_at hL hl) (k x hx H locs ls hP hS hL)
theorem aw_lload_n (hC : CO G C own cc nL lvl kc ks ret) {kf : Fin 4} {i : Nat} {v : Int64} (hd : decode cc pc = .ok (.lload_n kf, 1)) (hi : (kf : Nat) = i) (hl : L[i]? = some (some (.long v))) (k : AW G C Q kc ks nL μ (pc + 1) L (.long v :: st) (E)) : AW G C Q kc ks nL μ (pc) L (st) (E) := by
  intro x hx H locs ls hP hS hL
  exact lv_lload_n hC.x hC.b hd hi (lvp_at hL hl) (k x hx H locs ls hP hS hL)
theorem aw_lload (hC : CO G C own cc nL lvl kc ks ret) {i : Nat} {v : Int64} (hd : decode cc pc = .ok (.lload i, 2)) (hl : L[i]? = some (some (.long v))) (k : AW G C Q kc ks nL μ (pc + 2) L (.long v :: st) (E)) : AW G C Q kc ks nL μ (pc) L (st) (E) := by
  intro x hx H locs ls hP hS hL
  exact lv_lload hC.x hC.b hd (lvp_at hL hl) (k x hx H locs ls hP hS hL)
theorem aw_aload_n (hC : CO G C own cc nL lvl kc ks ret) {kf : Fin 4} {i : Nat} {v : Nat} (hd : decode cc pc = .ok (.aload_n kf, 1)) (hi : (kf : Nat) = i) (hl : L[i]? = some (some (.ref v))) (k : AW G C Q kc ks nL μ (pc + 1) L (.ref v :: st) (E)) : AW G C Q kc ks nL μ (pc) L (st) (E) := by
  intro x hx H locs ls hP hS hL
  exact lv_aload_n hC.x hC.b hd hi (lvp_at hL hl) (k x hx H locs ls hP hS hL)
theorem aw_aload (hC : CO G C own cc nL lvl kc ks ret) {i : Nat} {v : Nat} (hd : decode cc pc = .ok (.aload i, 2)) (hl : L[i]? = some (some (.ref v))) (k : AW G C Q kc ks nL μ (pc + 2) L (.ref v :: st) (E)) : AW G C Q kc ks nL μ (pc) L (st) (E) := by
  intro x hx H locs ls hP hS hL
  exact lv_aload hC.x hC.b hd (lvp_at hL hl) (k x hx H locs ls hP hS hL)
theorem aw_aload_nN (hC : CO G C own cc nL lvl kc ks ret) {kf : Fin 4} {i : Nat} (hd : decode cc pc = .ok (.aload_n kf, 1)) (hi : (kf : Nat) = i) (hl : L[i]? = some (some .null)) (k : AW G C Q kc ks nL μ (pc + 1) L (.null :: st) (E)) : AW G C Q kc ks nL μ (pc) L (st) (E) := by
  intro x hx H locs ls hP hS hL
  exact lv_aload_nN hC.x hC.b hd hi (lvp_at hL hl) (k x hx H locs ls hP hS hL)
theorem aw_istore_n (hC : CO G C own cc nL lvl kc ks ret) {kf : Fin 4} {i : Nat} {v : Int32} (hd : decode cc pc = .ok (.istore_n kf, 1)) (hi : (kf : Nat) = i) (ho : okS L i = true) (hn : i < nL) (k : AW G C Q kc ks nL μ (pc + 1) (L.set i (some (.int v))) (st) (E)) : AW G C Q kc ks nL μ (pc) L (.int v :: st) (E) := by
  intro x hx H locs ls hP hS hL
  exact lv_istore_n hC.x hC.b hd hi hL hn rfl (fun ls2 h2 => k x hx H locs ls2 hP hS (lvp_set1 ho h2))
theorem aw_istore (hC : CO G C own cc nL lvl kc ks ret) {i : Nat} {v : Int32} (hd : decode cc pc = .ok (.istore i, 2)) (ho : okS L i = true) (hn : i < nL) (k : AW G C Q kc ks nL μ (pc + 2) (L.set i (some (.int v))) (st) (E)) : AW G C Q kc ks nL μ (pc) L (.int v :: st) (E) := by
  intro x hx H locs ls hP hS hL
  exact lv_istore hC.x hC.b hd hL hn rfl (fun ls2 h2 => k x hx H locs ls2 hP hS (lvp_set1 ho h2))
theorem aw_astore_n (hC : CO G C own cc nL lvl kc ks ret) {kf : Fin 4} {i : Nat} {v : Nat} (hd : decode cc pc = .ok (.astore_n kf, 1)) (hi : (kf : Nat) = i) (ho : okS L i = true) (hn : i < nL) (k : AW G C Q kc ks nL μ (pc + 1) (L.set i (some (.ref v))) (st) (E)) : AW G C Q kc ks nL μ (pc) L (.ref v :: st) (E) := by
  intro x hx H locs ls hP hS hL
  exact lv_astore_n hC.x hC.b hd hi hL hn rfl (fun ls2 h2 => k x hx H locs ls2 hP hS (lvp_set1 ho h2))
theorem aw_astore (hC : CO G C own cc nL lvl kc ks ret) {i : Nat} {v : Nat} (hd : decode cc pc = .ok (.astore i, 2)) (ho : okS L i = true) (hn : i < nL) (k : AW G C Q kc ks nL μ (pc + 2) (L.set i (some (.ref v))) (st) (E)) : AW G C Q kc ks nL μ (pc) L (.ref v :: st) (E) := by
  intro x hx H locs ls hP hS hL
  exact lv_astore hC.x hC.b hd hL hn rfl (fun ls2 h2 => k x hx H locs ls2 hP hS (lvp_set1 ho h2))
theorem aw_astore_nN (hC : CO G C own cc nL lvl kc ks ret) {kf : Fin 4} {i : Nat} (hd : decode cc pc = .ok (.astore_n kf, 1)) (hi : (kf : Nat) = i) (ho : okS L i = true) (hn : i < nL) (k : AW G C Q kc ks nL μ (pc + 1) (L.set i (some .null)) (st) (E)) : AW G C Q kc ks nL μ (pc) L (.null :: st) (E) := by
  intro x hx H locs ls hP hS hL
  exact lv_astore_nN hC.x hC.b hd hi hL hn rfl (fun ls2 h2 => k x hx H locs ls2 hP hS (lvp_set1 ho h2))
theorem aw_lstore_n (hC : CO G C own cc nL lvl kc ks ret) {kf : Fin 4} {i : Nat} {v : Int64} (hd : decode cc pc = .ok (.lstore_n kf, 1)) (hi : (kf : Nat) = i) (ho : okS L i = true) (hn : i + 1 < nL) (k : AW G C Q kc ks nL μ (pc + 1) ((L.set i (some (.long v))).set (i + 1) none) (st) (E)) : AW G C Q kc ks nL μ (pc) L (.long v :: st) (E) := by
  intro x hx H locs ls hP hS hL
  exact lv_lstore_n hC.x hC.b hd hi hL hn rfl (fun ls2 h2 => k x hx H locs ls2 hP hS (lvp_set2 ho h2))
theorem aw_lstore (hC : CO G C own cc nL lvl kc ks ret) {i : Nat} {v : Int64} (hd : decode cc pc = .ok (.lstore i, 2)) (ho : okS L i = true) (hn : i + 1 < nL) (k : AW G C Q kc ks nL μ (pc + 2) ((L.set i (some (.long v))).set (i + 1) none) (st) (E)) : AW G C Q kc ks nL μ (pc) L (.long v :: st) (E) := by
  intro x hx H locs ls hP hS hL
  exact lv_lstore hC.x hC.b hd hL hn rfl (fun ls2 h2 => k x hx H locs ls2 hP hS (lvp_set2 ho h2))
theorem aw_iinc (hC : CO G C own cc nL lvl kc ks ret) {i : Nat} {n : Int} {u v : Int32} (hd : decode cc pc = .ok (.iinc i n, 3)) (hl : L[i]? = some (some (.int u))) (hv : u + Int32.ofInt n = v) (ho : okS L i = true) (hn : i < nL) (k : AW G C Q kc ks nL μ (pc + 3) (L.set i (some (.int v))) (st) (E)) : AW G C Q kc ks nL μ (pc) L (st) (E) := by
  intro x hx H locs ls hP hS hL
  obtain ⟨kk, hk⟩ := lvp_in hL hl
  exact lv_iinc hC.x hC.b hd hL hk hv hn rfl (fun ls2 h2 => k x hx H locs ls2 hP hS (lvp_set1 ho h2))
theorem aw_iadd (hC : CO G C own cc nL lvl kc ks ret) {u v : Int32} (hd : decode cc pc = .ok (.iadd, 1)) (k : AW G C Q kc ks nL μ (pc + 1) L (.int (u + v) :: st) (E)) : AW G C Q kc ks nL μ (pc) L (.int v :: .int u :: st) (E) := by
  intro x hx H locs ls hP hS hL
  exact lv_iadd hC.x hC.b hd (k x hx H locs ls hP hS hL)
theorem aw_isub (hC : CO G C own cc nL lvl kc ks ret) {u v : Int32} (hd : decode cc pc = .ok (.isub, 1)) (k : AW G C Q kc ks nL μ (pc + 1) L (.int (u - v) :: st) (E)) : AW G C Q kc ks nL μ (pc) L (.int v :: .int u :: st) (E) := by
  intro x hx H locs ls hP hS hL
  exact lv_isub hC.x hC.b hd (k x hx H locs ls hP hS hL)
theorem aw_imul (hC : CO G C own cc nL lvl kc ks ret) {u v : Int32} (hd : decode cc pc = .ok (.imul, 1)) (k : AW G C Q kc ks nL μ (pc + 1) L (.int (u * v) :: st) (E)) : AW G C Q kc ks nL μ (pc) L (.int v :: .int u :: st) (E) := by
  intro x hx H locs ls hP hS hL
  exact lv_imul hC.x hC.b hd (k x hx H locs ls hP hS hL)
theorem aw_iand (hC : CO G C own cc nL lvl kc ks ret) {u v : Int32} (hd : decode cc pc = .ok (.iand, 1)) (k : AW G C Q kc ks nL μ (pc + 1) L (.int (u &&& v) :: st) (E)) : AW G C Q kc ks nL μ (pc) L (.int v :: .int u :: st) (E) := by
  intro x hx H locs ls hP hS hL
  exact lv_iand hC.x hC.b hd (k x hx H locs ls hP hS hL)
theorem aw_ior (hC : CO G C own cc nL lvl kc ks ret) {u v : Int32} (hd : decode cc pc = .ok (.ior, 1)) (k : AW G C Q kc ks nL μ (pc + 1) L (.int (u ||| v) :: st) (E)) : AW G C Q kc ks nL μ (pc) L (.int v :: .int u :: st) (E) := by
  intro x hx H locs ls hP hS hL
  exact lv_ior hC.x hC.b hd (k x hx H locs ls hP hS hL)
theorem aw_ixor (hC : CO G C own cc nL lvl kc ks ret) {u v : Int32} (hd : decode cc pc = .ok (.ixor, 1)) (k : AW G C Q kc ks nL μ (pc + 1) L (.int (u ^^^ v) :: st) (E)) : AW G C Q kc ks nL μ (pc) L (.int v :: .int u :: st) (E) := by
  intro x hx H locs ls hP hS hL
  exact lv_ixor hC.x hC.b hd (k x hx H locs ls hP hS hL)
theorem aw_ishl (hC : CO G C own cc nL lvl kc ks ret) {u v : Int32} (hd : decode cc pc = .ok (.ishl, 1)) (k : AW G C Q kc ks nL μ (pc + 1) L (.int (jshl u v) :: st) (E)) : AW G C Q kc ks nL μ (pc) L (.int v :: .int u :: st) (E) := by
  intro x hx H locs ls hP hS hL
  exact lv_ishl hC.x hC.b hd (k x hx H locs ls hP hS hL)
theorem aw_ishr (hC : CO G C own cc nL lvl kc ks ret) {u v : Int32} (hd : decode cc pc = .ok (.ishr, 1)) (k : AW G C Q kc ks nL μ (pc + 1) L (.int (jshr u v) :: st) (E)) : AW G C Q kc ks nL μ (pc) L (.int v :: .int u :: st) (E) := by
  intro x hx H locs ls hP hS hL
  exact lv_ishr hC.x hC.b hd (k x hx H locs ls hP hS hL)
theorem aw_iushr (hC : CO G C own cc nL lvl kc ks ret) {u v : Int32} (hd : decode cc pc = .ok (.iushr, 1)) (k : AW G C Q kc ks nL μ (pc + 1) L (.int (jushr u v) :: st) (E)) : AW G C Q kc ks nL μ (pc) L (.int v :: .int u :: st) (E) := by
  intro x hx H locs ls hP hS hL
  exact lv_iushr hC.x hC.b hd rfl (k x hx H locs ls hP hS hL)
theorem aw_ineg (hC : CO G C own cc nL lvl kc ks ret) {u : Int32} (hd : decode cc pc = .ok (.ineg, 1)) (k : AW G C Q kc ks nL μ (pc + 1) L (.int (0 - u) :: st) (E)) : AW G C Q kc ks nL μ (pc) L (.int u :: st) (E) := by
  intro x hx H locs ls hP hS hL
  exact lv_ineg hC.x hC.b hd (k x hx H locs ls hP hS hL)
theorem aw_irem (hC : CO G C own cc nL lvl kc ks ret) {u v : Int32} (hd : decode cc pc = .ok (.irem, 1)) (hne : ¬ v = 0) (k : AW G C Q kc ks nL μ (pc + 1) L (.int (jrem u v) :: st) (E)) : AW G C Q kc ks nL μ (pc) L (.int v :: .int u :: st) (E) := by
  intro x hx H locs ls hP hS hL
  exact lv_irem hC.x hC.b hd hne (k x hx H locs ls hP hS hL)
theorem aw_idiv (hC : CO G C own cc nL lvl kc ks ret) {u v : Int32} (hd : decode cc pc = .ok (.idiv, 1)) (hne : ¬ v = 0) (k : AW G C Q kc ks nL μ (pc + 1) L (.int (u / v) :: st) (E)) : AW G C Q kc ks nL μ (pc) L (.int v :: .int u :: st) (E) := by
  intro x hx H locs ls hP hS hL
  exact lv_idiv hC.x hC.b hd hne (k x hx H locs ls hP hS hL)
theorem aw_iremZ (hC : CO G C own cc nL lvl kc ks ret) {u v : Int32} (hd : decode cc pc = .ok (.irem, 1)) (k : AW G C Q kc ks nL μ (pc + 1) L (.int (jrem u v) :: st) (E)) : AW G C Q kc ks nL μ (pc) L (.int v :: .int u :: st) (nz v E) := by
  intro x hx H locs ls hP hS hL
  have hne : ¬ v = 0 := by intro e; rw [nz, if_pos e] at hx; cases hx
  rw [nz, if_neg hne] at hx
  exact lv_irem hC.x hC.b hd hne (k x hx H locs ls hP hS hL)
theorem aw_idivZ (hC : CO G C own cc nL lvl kc ks ret) {u v : Int32} (hd : decode cc pc = .ok (.idiv, 1)) (k : AW G C Q kc ks nL μ (pc + 1) L (.int (u / v) :: st) (E)) : AW G C Q kc ks nL μ (pc) L (.int v :: .int u :: st) (nz v E) := by
  intro x hx H locs ls hP hS hL
  have hne : ¬ v = 0 := by intro e; rw [nz, if_pos e] at hx; cases hx
  rw [nz, if_neg hne] at hx
  exact lv_idiv hC.x hC.b hd hne (k x hx H locs ls hP hS hL)
theorem aw_ldiv (hC : CO G C own cc nL lvl kc ks ret) {u v : Int64} (hd : decode cc pc = .ok (.ldiv, 1)) (hne : ¬ v = 0) (k : AW G C Q kc ks nL μ (pc + 1) L (.long (u / v) :: st) (E)) : AW G C Q kc ks nL μ (pc) L (.long v :: .long u :: st) (E) := by
  intro x hx H locs ls hP hS hL
  exact lv_ldiv hC.x hC.b hd hne (k x hx H locs ls hP hS hL)
theorem aw_ldivZ (hC : CO G C own cc nL lvl kc ks ret) {u v : Int64} (hd : decode cc pc = .ok (.ldiv, 1)) (k : AW G C Q kc ks nL μ (pc + 1) L (.long (u / v) :: st) (E)) : AW G C Q kc ks nL μ (pc) L (.long v :: .long u :: st) (nzl v E) := by
  intro x hx H locs ls hP hS hL
  have hne : ¬ v = 0 := by intro e; rw [nzl, if_pos e] at hx; cases hx
  rw [nzl, if_neg hne] at hx
  exact lv_ldiv hC.x hC.b hd hne (k x hx H locs ls hP hS hL)
theorem aw_ladd (hC : CO G C own cc nL lvl kc ks ret) {u v : Int64} (hd : decode cc pc = .ok (.ladd, 1)) (k : AW G C Q kc ks nL μ (pc + 1) L (.long (u + v) :: st) (E)) : AW G C Q kc ks nL μ (pc) L (.long v :: .long u :: st) (E) := by
  intro x hx H locs ls hP hS hL
  exact lv_ladd hC.x hC.b hd (k x hx H locs ls hP hS hL)
theorem aw_lsub (hC : CO G C own cc nL lvl kc ks ret) {u v : Int64} (hd : decode cc pc = .ok (.lsub, 1)) (k : AW G C Q kc ks nL μ (pc + 1) L (.long (u - v) :: st) (E)) : AW G C Q kc ks nL μ (pc) L (.long v :: .long u :: st) (E) := by
  intro x hx H locs ls hP hS hL
  exact lv_lsub hC.x hC.b hd (k x hx H locs ls hP hS hL)
theorem aw_lmul (hC : CO G C own cc nL lvl kc ks ret) {u v : Int64} (hd : decode cc pc = .ok (.lmul, 1)) (k : AW G C Q kc ks nL μ (pc + 1) L (.long (u * v) :: st) (E)) : AW G C Q kc ks nL μ (pc) L (.long v :: .long u :: st) (E) := by
  intro x hx H locs ls hP hS hL
  exact lv_lmul hC.x hC.b hd (k x hx H locs ls hP hS hL)
theorem aw_land (hC : CO G C own cc nL lvl kc ks ret) {u v : Int64} (hd : decode cc pc = .ok (.land, 1)) (k : AW G C Q kc ks nL μ (pc + 1) L (.long (u &&& v) :: st) (E)) : AW G C Q kc ks nL μ (pc) L (.long v :: .long u :: st) (E) := by
  intro x hx H locs ls hP hS hL
  exact lv_land hC.x hC.b hd (k x hx H locs ls hP hS hL)
theorem aw_lor (hC : CO G C own cc nL lvl kc ks ret) {u v : Int64} (hd : decode cc pc = .ok (.lor, 1)) (k : AW G C Q kc ks nL μ (pc + 1) L (.long (u ||| v) :: st) (E)) : AW G C Q kc ks nL μ (pc) L (.long v :: .long u :: st) (E) := by
  intro x hx H locs ls hP hS hL
  exact lv_lor hC.x hC.b hd (k x hx H locs ls hP hS hL)
theorem aw_lushr (hC : CO G C own cc nL lvl kc ks ret) {u : Int64} {v : Int32} (hd : decode cc pc = .ok (.lushr, 1)) (k : AW G C Q kc ks nL μ (pc + 1) L (.long (jlushr u v) :: st) (E)) : AW G C Q kc ks nL μ (pc) L (.int v :: .long u :: st) (E) := by
  intro x hx H locs ls hP hS hL
  exact lv_lushr hC.x hC.b hd rfl (k x hx H locs ls hP hS hL)
theorem aw_lshr (hC : CO G C own cc nL lvl kc ks ret) {u : Int64} {v : Int32} (hd : decode cc pc = .ok (.lshr, 1)) (k : AW G C Q kc ks nL μ (pc + 1) L (.long (jlshr u v) :: st) (E)) : AW G C Q kc ks nL μ (pc) L (.int v :: .long u :: st) (E) := by
  intro x hx H locs ls hP hS hL
  exact lv_lshr hC.x hC.b hd rfl (k x hx H locs ls hP hS hL)
theorem aw_lshl (hC : CO G C own cc nL lvl kc ks ret) {u : Int64} {v : Int32} (hd : decode cc pc = .ok (.lshl, 1)) (k : AW G C Q kc ks nL μ (pc + 1) L (.long (jlshl u v) :: st) (E)) : AW G C Q kc ks nL μ (pc) L (.int v :: .long u :: st) (E) := by
  intro x hx H locs ls hP hS hL
  exact lv_lshl hC.x hC.b hd rfl (k x hx H locs ls hP hS hL)
theorem aw_i2l (hC : CO G C own cc nL lvl kc ks ret) {u : Int32} (hd : decode cc pc = .ok (.i2l, 1)) (k : AW G C Q kc ks nL μ (pc + 1) L (.long u.toInt64 :: st) (E)) : AW G C Q kc ks nL μ (pc) L (.int u :: st) (E) := by
  intro x hx H locs ls hP hS hL
  exact lv_i2l hC.x hC.b hd rfl (k x hx H locs ls hP hS hL)
theorem aw_l2i (hC : CO G C own cc nL lvl kc ks ret) {u : Int64} (hd : decode cc pc = .ok (.l2i, 1)) (k : AW G C Q kc ks nL μ (pc + 1) L (.int u.toInt32 :: st) (E)) : AW G C Q kc ks nL μ (pc) L (.long u :: st) (E) := by
  intro x hx H locs ls hP hS hL
  exact lv_l2i hC.x hC.b hd rfl (k x hx H locs ls hP hS hL)
theorem aw_lcmp (hC : CO G C own cc nL lvl kc ks ret) {u v : Int64} (hd : decode cc pc = .ok (.lcmp, 1)) (k : AW G C Q kc ks nL μ (pc + 1) L (.int (lg_cmp u v) :: st) (E)) : AW G C Q kc ks nL μ (pc) L (.long v :: .long u :: st) (E) := by
  intro x hx H locs ls hP hS hL
  exact W.lcmp hC.x hC.b hd (k x hx H locs ls hP hS hL)
theorem aw_dup (hC : CO G C own cc nL lvl kc ks ret) {va : Value} (hd : decode cc pc = .ok (.dup, 1)) (hva : va.category = 1) (k : AW G C Q kc ks nL μ (pc + 1) L (va :: va :: st) (E)) : AW G C Q kc ks nL μ (pc) L (va :: st) (E) := by
  intro x hx H locs ls hP hS hL
  exact lv_dup hC.x hC.b hd hva (k x hx H locs ls hP hS hL)
theorem aw_pop (hC : CO G C own cc nL lvl kc ks ret) {va : Value} (hd : decode cc pc = .ok (.pop, 1)) (hva : va.category = 1) (k : AW G C Q kc ks nL μ (pc + 1) L (st) (E)) : AW G C Q kc ks nL μ (pc) L (va :: st) (E) := by
  intro x hx H locs ls hP hS hL
  exact lv_pop hC.x hC.b hd hva (k x hx H locs ls hP hS hL)
theorem aw_dup2 (hC : CO G C own cc nL lvl kc ks ret) {va vb : Value} (hd : decode cc pc = .ok (.dup2, 1)) (hva : va.category = 1) (hvb : vb.category = 1) (k : AW G C Q kc ks nL μ (pc + 1) L (va :: vb :: va :: vb :: st) (E)) : AW G C Q kc ks nL μ (pc) L (va :: vb :: st) (E) := by
  intro x hx H locs ls hP hS hL
  exact lv_dup2_11 hC.x hC.b hd hva hvb (k x hx H locs ls hP hS hL)
theorem aw_if_eq (hC : CO G C own cc nL lvl kc ks ret) {u : Int32} {off : Int} {tgt : Nat} {E1 E2 : Option τ} (hd : decode cc pc = .ok (.ifCond .eq off, 3)) (ht : (pc : Int) + off = (tgt : Int)) (kt : u = 0 → AW G C Q kc ks nL μ (tgt) L (st) (E1)) (kf : ¬ u = 0 → AW G C Q kc ks nL μ (pc + 3) L (st) (E2)) : AW G C Q kc ks nL μ (pc) L (.int u :: st) (if u = 0 then E1 else E2) := by
  intro x hx H locs ls hP hS hL
  by_cases c : u = 0
  · rw [if_pos c] at hx
    exact lv_if_eq hC.x hC.b hd ht (fun _ => kt c x hx H locs ls hP hS hL) (fun c2 => absurd c c2)
  · rw [if_neg c] at hx
    exact lv_if_eq hC.x hC.b hd ht (fun c2 => absurd c2 c) (fun _ => kf c x hx H locs ls hP hS hL)
theorem aw_if_eq_T (hC : CO G C own cc nL lvl kc ks ret) {u : Int32} {off : Int} {tgt : Nat} (hd : decode cc pc = .ok (.ifCond .eq off, 3)) (ht : (pc : Int) + off = (tgt : Int)) (c : u = 0) (k : AW G C Q kc ks nL μ (tgt) L (st) (E)) : AW G C Q kc ks nL μ (pc) L (.int u :: st) (E) := by
  intro x hx H locs ls hP hS hL
  exact lv_if_eq hC.x hC.b hd ht (fun _ => (k x hx H locs ls hP hS hL)) (fun c2 => absurd c c2)
theorem aw_if_eq_F (hC : CO G C own cc nL lvl kc ks ret) {u : Int32} {off : Int} {tgt : Nat} (hd : decode cc pc = .ok (.ifCond .eq off, 3)) (ht : (pc : Int) + off = (tgt : Int)) (c : ¬ u = 0) (k : AW G C Q kc ks nL μ (pc + 3) L (st) (E)) : AW G C Q kc ks nL μ (pc) L (.int u :: st) (E) := by
  intro x hx H locs ls hP hS hL
  exact lv_if_eq hC.x hC.b hd ht (fun c2 => absurd c2 c) (fun _ => (k x hx H locs ls hP hS hL))
theorem aw_if_ne (hC : CO G C own cc nL lvl kc ks ret) {u : Int32} {off : Int} {tgt : Nat} {E1 E2 : Option τ} (hd : decode cc pc = .ok (.ifCond .ne off, 3)) (ht : (pc : Int) + off = (tgt : Int)) (kf : u = 0 → AW G C Q kc ks nL μ (pc + 3) L (st) (E1)) (kt : ¬ u = 0 → AW G C Q kc ks nL μ (tgt) L (st) (E2)) : AW G C Q kc ks nL μ (pc) L (.int u :: st) (if u = 0 then E1 else E2) := by
  intro x hx H locs ls hP hS hL
  by_cases c : u = 0
  · rw [if_pos c] at hx
    exact lv_if_ne hC.x hC.b hd ht (fun c2 => absurd c c2) (fun _ => kf c x hx H locs ls hP hS hL)
  · rw [if_neg c] at hx
    exact lv_if_ne hC.x hC.b hd ht (fun _ => kt c x hx H locs ls hP hS hL) (fun c2 => absurd c2 c)
theorem aw_if_ne_T (hC : CO G C own cc nL lvl kc ks ret) {u : Int32} {off : Int} {tgt : Nat} (hd : decode cc pc = .ok (.ifCond .ne off, 3)) (ht : (pc : Int) + off = (tgt : Int)) (c : ¬ u = 0) (k : AW G C Q kc ks nL μ (tgt) L (st) (E)) : AW G C Q kc ks nL μ (pc) L (.int u :: st) (E) := by
  intro x hx H locs ls hP hS hL
  exact lv_if_ne hC.x hC.b hd ht (fun _ => (k x hx H locs ls hP hS hL)) (fun c2 => absurd c2 c)
theorem aw_if_ne_F (hC : CO G C own cc nL lvl kc ks ret) {u : Int32} {off : Int} {tgt : Nat} (hd : decode cc pc = .ok (.ifCond .ne off, 3)) (ht : (pc : Int) + off = (tgt : Int)) (c : u = 0) (k : AW G C Q kc ks nL μ (pc + 3) L (st) (E)) : AW G C Q kc ks nL μ (pc) L (.int u :: st) (E) := by
  intro x hx H locs ls hP hS hL
  exact lv_if_ne hC.x hC.b hd ht (fun c2 => absurd c c2) (fun _ => (k x hx H locs ls hP hS hL))
theorem aw_if_lt (hC : CO G C own cc nL lvl kc ks ret) {u : Int32} {off : Int} {tgt : Nat} {E1 E2 : Option τ} (hd : decode cc pc = .ok (.ifCond .lt off, 3)) (ht : (pc : Int) + off = (tgt : Int)) (kt : u < 0 → AW G C Q kc ks nL μ (tgt) L (st) (E1)) (kf : ¬ u < 0 → AW G C Q kc ks nL μ (pc + 3) L (st) (E2)) : AW G C Q kc ks nL μ (pc) L (.int u :: st) (if u < 0 then E1 else E2) := by
  intro x hx H locs ls hP hS hL
  by_cases c : u < 0
  · rw [if_pos c] at hx
    exact lv_if_lt hC.x hC.b hd ht (fun _ => kt c x hx H locs ls hP hS hL) (fun c2 => absurd c c2)
  · rw [if_neg c] at hx
    exact lv_if_lt hC.x hC.b hd ht (fun c2 => absurd c2 c) (fun _ => kf c x hx H locs ls hP hS hL)
theorem aw_if_lt_T (hC : CO G C own cc nL lvl kc ks ret) {u : Int32} {off : Int} {tgt : Nat} (hd : decode cc pc = .ok (.ifCond .lt off, 3)) (ht : (pc : Int) + off = (tgt : Int)) (c : u < 0) (k : AW G C Q kc ks nL μ (tgt) L (st) (E)) : AW G C Q kc ks nL μ (pc) L (.int u :: st) (E) := by
  intro x hx H locs ls hP hS hL
  exact lv_if_lt hC.x hC.b hd ht (fun _ => (k x hx H locs ls hP hS hL)) (fun c2 => absurd c c2)
theorem aw_if_lt_F (hC : CO G C own cc nL lvl kc ks ret) {u : Int32} {off : Int} {tgt : Nat} (hd : decode cc pc = .ok (.ifCond .lt off, 3)) (ht : (pc : Int) + off = (tgt : Int)) (c : ¬ u < 0) (k : AW G C Q kc ks nL μ (pc + 3) L (st) (E)) : AW G C Q kc ks nL μ (pc) L (.int u :: st) (E) := by
  intro x hx H locs ls hP hS hL
  exact lv_if_lt hC.x hC.b hd ht (fun c2 => absurd c2 c) (fun _ => (k x hx H locs ls hP hS hL))
theorem aw_if_ge (hC : CO G C own cc nL lvl kc ks ret) {u : Int32} {off : Int} {tgt : Nat} {E1 E2 : Option τ} (hd : decode cc pc = .ok (.ifCond .ge off, 3)) (ht : (pc : Int) + off = (tgt : Int)) (kt : 0 ≤ u → AW G C Q kc ks nL μ (tgt) L (st) (E1)) (kf : ¬ 0 ≤ u → AW G C Q kc ks nL μ (pc + 3) L (st) (E2)) : AW G C Q kc ks nL μ (pc) L (.int u :: st) (if 0 ≤ u then E1 else E2) := by
  intro x hx H locs ls hP hS hL
  by_cases c : 0 ≤ u
  · rw [if_pos c] at hx
    exact lv_if_ge hC.x hC.b hd ht (fun _ => kt c x hx H locs ls hP hS hL) (fun c2 => absurd c c2)
  · rw [if_neg c] at hx
    exact lv_if_ge hC.x hC.b hd ht (fun c2 => absurd c2 c) (fun _ => kf c x hx H locs ls hP hS hL)
theorem aw_if_ge_T (hC : CO G C own cc nL lvl kc ks ret) {u : Int32} {off : Int} {tgt : Nat} (hd : decode cc pc = .ok (.ifCond .ge off, 3)) (ht : (pc : Int) + off = (tgt : Int)) (c : 0 ≤ u) (k : AW G C Q kc ks nL μ (tgt) L (st) (E)) : AW G C Q kc ks nL μ (pc) L (.int u :: st) (E) := by
  intro x hx H locs ls hP hS hL
  exact lv_if_ge hC.x hC.b hd ht (fun _ => (k x hx H locs ls hP hS hL)) (fun c2 => absurd c c2)
theorem aw_if_ge_F (hC : CO G C own cc nL lvl kc ks ret) {u : Int32} {off : Int} {tgt : Nat} (hd : decode cc pc = .ok (.ifCond .ge off, 3)) (ht : (pc : Int) + off = (tgt : Int)) (c : ¬ 0 ≤ u) (k : AW G C Q kc ks nL μ (pc + 3) L (st) (E)) : AW G C Q kc ks nL μ (pc) L (.int u :: st) (E) := by
  intro x hx H locs ls hP hS hL
  exact lv_if_ge hC.x hC.b hd ht (fun c2 => absurd c2 c) (fun _ => (k x hx H locs ls hP hS hL))
theorem aw_if_gt (hC : CO G C own cc nL lvl kc ks ret) {u : Int32} {off : Int} {tgt : Nat} {E1 E2 : Option τ} (hd : decode cc pc = .ok (.ifCond .gt off, 3)) (ht : (pc : Int) + off = (tgt : Int)) (kt : 0 < u → AW G C Q kc ks nL μ (tgt) L (st) (E1)) (kf : ¬ 0 < u → AW G C Q kc ks nL μ (pc + 3) L (st) (E2)) : AW G C Q kc ks nL μ (pc) L (.int u :: st) (if 0 < u then E1 else E2) := by
  intro x hx H locs ls hP hS hL
  by_cases c : 0 < u
  · rw [if_pos c] at hx
    exact lv_if_gt hC.x hC.b hd ht (fun _ => kt c x hx H locs ls hP hS hL) (fun c2 => absurd c c2)
  · rw [if_neg c] at hx
    exact lv_if_gt hC.x hC.b hd ht (fun c2 => absurd c2 c) (fun _ => kf c x hx H locs ls hP hS hL)
theorem aw_if_gt_T (hC : CO G C own cc nL lvl kc ks ret) {u : Int32} {off : Int} {tgt : Nat} (hd : decode cc pc = .ok (.ifCond .gt off, 3)) (ht : (pc : Int) + off = (tgt : Int)) (c : 0 < u) (k : AW G C Q kc ks nL μ (tgt) L (st) (E)) : AW G C Q kc ks nL μ (pc) L (.int u :: st) (E) := by
  intro x hx H locs ls hP hS hL
  exact lv_if_gt hC.x hC.b hd ht (fun _ => (k x hx H locs ls hP hS hL)) (fun c2 => absurd c c2)
theorem aw_if_gt_F (hC : CO G C own cc nL lvl kc ks ret) {u : Int32} {off : Int} {tgt : Nat} (hd : decode cc pc = .ok (.ifCond .gt off, 3)) (ht : (pc : Int) + off = (tgt : Int)) (c : ¬ 0 < u) (k : AW G C Q kc ks nL μ (pc + 3) L (st) (E)) : AW G C Q kc ks nL μ (pc) L (.int u :: st) (E) := by
  intro x hx H locs ls hP hS hL
  exact lv_if_gt hC.x hC.b hd ht (fun c2 => absurd c2 c) (fun _ => (k x hx H locs ls hP hS hL))
theorem aw_if_le (hC : CO G C own cc nL lvl kc ks ret) {u : Int32} {off : Int} {tgt : Nat} {E1 E2 : Option τ} (hd : decode cc pc = .ok (.ifCond .le off, 3)) (ht : (pc : Int) + off = (tgt : Int)) (kt : u ≤ 0 → AW G C Q kc ks nL μ (tgt) L (st) (E1)) (kf : ¬ u ≤ 0 → AW G C Q kc ks nL μ (pc + 3) L (st) (E2)) : AW G C Q kc ks nL μ (pc) L (.int u :: st) (if u ≤ 0 then E1 else E2) := by
  intro x hx H locs ls hP hS hL
  by_cases c : u ≤ 0
  · rw [if_pos c] at hx
    exact lv_if_le hC.x hC.b hd ht (fun _ => kt c x hx H locs ls hP hS hL) (fun c2 => absurd c c2)
  · rw [if_neg c] at hx
    exact lv_if_le hC.x hC.b hd ht (fun c2 => absurd c2 c) (fun _ => kf c x hx H locs ls hP hS hL)
theorem aw_if_le_T (hC : CO G C own cc nL lvl kc ks ret) {u : Int32} {off : Int} {tgt : Nat} (hd : decode cc pc = .ok (.ifCond .le off, 3)) (ht : (pc : Int) + off = (tgt : Int)) (c : u ≤ 0) (k : AW G C Q kc ks nL μ (tgt) L (st) (E)) : AW G C Q kc ks nL μ (pc) L (.int u :: st) (E) := by
  intro x hx H locs ls hP hS hL
  exact lv_if_le hC.x hC.b hd ht (fun _ => (k x hx H locs ls hP hS hL)) (fun c2 => absurd c c2)
theorem aw_if_le_F (hC : CO G C own cc nL lvl kc ks ret) {u : Int32} {off : Int} {tgt : Nat} (hd : decode cc pc = .ok (.ifCond .le off, 3)) (ht : (pc : Int) + off = (tgt : Int)) (c : ¬ u ≤ 0) (k : AW G C Q kc ks nL μ (pc + 3) L (st) (E)) : AW G C Q kc ks nL μ (pc) L (.int u :: st) (E) := by
  intro x hx H locs ls hP hS hL
  exact lv_if_le hC.x hC.b hd ht (fun c2 => absurd c2 c) (fun _ => (k x hx H locs ls hP hS hL))
theorem aw_icmp_eq (hC : CO G C own cc nL lvl kc ks ret) {u v : Int32} {off : Int} {tgt : Nat} {E1 E2 : Option τ} (hd : decode cc pc = .ok (.if_icmp .eq off, 3)) (ht : (pc : Int) + off = (tgt : Int)) (kt : u = v → AW G C Q kc ks nL μ (tgt) L (st) (E1)) (kf : ¬ u = v → AW G C Q kc ks nL μ (pc + 3) L (st) (E2)) : AW G C Q kc ks nL μ (pc) L (.int v :: .int u :: st) (if u = v then E1 else E2) := by
  intro x hx H locs ls hP hS hL
  by_cases c : u = v
  · rw [if_pos c] at hx
    exact lv_icmp_eq hC.x hC.b hd ht (fun _ => kt c x hx H locs ls hP hS hL) (fun c2 => absurd c c2)
  · rw [if_neg c] at hx
    exact lv_icmp_eq hC.x hC.b hd ht (fun c2 => absurd c2 c) (fun _ => kf c x hx H locs ls hP hS hL)
theorem aw_icmp_eq_T (hC : CO G C own cc nL lvl kc ks ret) {u v : Int32} {off : Int} {tgt : Nat} (hd : decode cc pc = .ok (.if_icmp .eq off, 3)) (ht : (pc : Int) + off = (tgt : Int)) (c : u = v) (k : AW G C Q kc ks nL μ (tgt) L (st) (E)) : AW G C Q kc ks nL μ (pc) L (.int v :: .int u :: st) (E) := by
  intro x hx H locs ls hP hS hL
  exact lv_icmp_eq hC.x hC.b hd ht (fun _ => (k x hx H locs ls hP hS hL)) (fun c2 => absurd c c2)
theorem aw_icmp_eq_F (hC : CO G C own cc nL lvl kc ks ret) {u v : Int32} {off : Int} {tgt : Nat} (hd : decode cc pc = .ok (.if_icmp .eq off, 3)) (ht : (pc : Int) + off = (tgt : Int)) (c : ¬ u = v) (k : AW G C Q kc ks nL μ (pc + 3) L (st) (E)) : AW G C Q kc ks nL μ (pc) L (.int v :: .int u :: st) (E) := by
  intro x hx H locs ls hP hS hL
  exact lv_icmp_eq hC.x hC.b hd ht (fun c2 => absurd c2 c) (fun _ => (k x hx H locs ls hP hS hL))
theorem aw_icmp_ne (hC : CO G C own cc nL lvl kc ks ret) {u v : Int32} {off : Int} {tgt : Nat} {E1 E2 : Option τ} (hd : decode cc pc = .ok (.if_icmp .ne off, 3)) (ht : (pc : Int) + off = (tgt : Int)) (kf : u = v → AW G C Q kc ks nL μ (pc + 3) L (st) (E1)) (kt : ¬ u = v → AW G C Q kc ks nL μ (tgt) L (st) (E2)) : AW G C Q kc ks nL μ (pc) L (.int v :: .int u :: st) (if u = v then E1 else E2) := by
  intro x hx H locs ls hP hS hL
  by_cases c : u = v
  · rw [if_pos c] at hx
    exact lv_icmp_ne hC.x hC.b hd ht (fun c2 => absurd c c2) (fun _ => kf c x hx H locs ls hP hS hL)
  · rw [if_neg c] at hx
    exact lv_icmp_ne hC.x hC.b hd ht (fun _ => kt c x hx H locs ls hP hS hL) (fun c2 => absurd c2 c)
theorem aw_icmp_ne_T (hC : CO G C own cc nL lvl kc ks ret) {u v : Int32} {off : Int} {tgt : Nat} (hd : decode cc pc = .ok (.if_icmp .ne off, 3)) (ht : (pc : Int) + off = (tgt : Int)) (c : ¬ u = v) (k : AW G C Q kc ks nL μ (tgt) L (st) (E)) : AW G C Q kc ks nL μ (pc) L (.int v :: .int u :: st) (E) := by
  intro x hx H locs ls hP hS hL
  exact lv_icmp_ne hC.x hC.b hd ht (fun _ => (k x hx H locs ls hP hS hL)) (fun c2 => absurd c2 c)
theorem aw_icmp_ne_F (hC : CO G C own cc nL lvl kc ks ret) {u v : Int32} {off : Int} {tgt : Nat} (hd : decode cc pc = .ok (.if_icmp .ne off, 3)) (ht : (pc : Int) + off = (tgt : Int)) (c : u = v) (k : AW G C Q kc ks nL μ (pc + 3) L (st) (E)) : AW G C Q kc ks nL μ (pc) L (.int v :: .int u :: st) (E) := by
  intro x hx H locs ls hP hS hL
  exact lv_icmp_ne hC.x hC.b hd ht (fun c2 => absurd c c2) (fun _ => (k x hx H locs ls hP hS hL))
theorem aw_icmp_lt (hC : CO G C own cc nL lvl kc ks ret) {u v : Int32} {off : Int} {tgt : Nat} {E1 E2 : Option τ} (hd : decode cc pc = .ok (.if_icmp .lt off, 3)) (ht : (pc : Int) + off = (tgt : Int)) (kt : u < v → AW G C Q kc ks nL μ (tgt) L (st) (E1)) (kf : ¬ u < v → AW G C Q kc ks nL μ (pc + 3) L (st) (E2)) : AW G C Q kc ks nL μ (pc) L (.int v :: .int u :: st) (if u < v then E1 else E2) := by
  intro x hx H locs ls hP hS hL
  by_cases c : u < v
  · rw [if_pos c] at hx
    exact lv_icmp_lt hC.x hC.b hd ht (fun _ => kt c x hx H locs ls hP hS hL) (fun c2 => absurd c c2)
  · rw [if_neg c] at hx
    exact lv_icmp_lt hC.x hC.b hd ht (fun c2 => absurd c2 c) (fun _ => kf c x hx H locs ls hP hS hL)
theorem aw_icmp_lt_T (hC : CO G C own cc nL lvl kc ks ret) {u v : Int32} {off : Int} {tgt : Nat} (hd : decode cc pc = .ok (.if_icmp .lt off, 3)) (ht : (pc : Int) + off = (tgt : Int)) (c : u < v) (k : AW G C Q kc ks nL μ (tgt) L (st) (E)) : AW G C Q kc ks nL μ (pc) L (.int v :: .int u :: st) (E) := by
  intro x hx H locs ls hP hS hL
  exact lv_icmp_lt hC.x hC.b hd ht (fun _ => (k x hx H locs ls hP hS hL)) (fun c2 => absurd c c2)
theorem aw_icmp_lt_F (hC : CO G C own cc nL lvl kc ks ret) {u v : Int32} {off : Int} {tgt : Nat} (hd : decode cc pc = .ok (.if_icmp .lt off, 3)) (ht : (pc : Int) + off = (tgt : Int)) (c : ¬ u < v) (k : AW G C Q kc ks nL μ (pc + 3) L (st) (E)) : AW G C Q kc ks nL μ (pc) L (.int v :: .int u :: st) (E) := by
  intro x hx H locs ls hP hS hL
  exact lv_icmp_lt hC.x hC.b hd ht (fun c2 => absurd c2 c) (fun _ => (k x hx H locs ls hP hS hL))
theorem aw_icmp_ge (hC : CO G C own cc nL lvl kc ks ret) {u v : Int32} {off : Int} {tgt : Nat} {E1 E2 : Option τ} (hd : decode cc pc = .ok (.if_icmp .ge off, 3)) (ht : (pc : Int) + off = (tgt : Int)) (kt : v ≤ u → AW G C Q kc ks nL μ (tgt) L (st) (E1)) (kf : ¬ v ≤ u → AW G C Q kc ks nL μ (pc + 3) L (st) (E2)) : AW G C Q kc ks nL μ (pc) L (.int v :: .int u :: st) (if v ≤ u then E1 else E2) := by
  intro x hx H locs ls hP hS hL
  by_cases c : v ≤ u
  · rw [if_pos c] at hx
    exact lv_icmp_ge hC.x hC.b hd ht (fun _ => kt c x hx H locs ls hP hS hL) (fun c2 => absurd c c2)
  · rw [if_neg c] at hx
    exact lv_icmp_ge hC.x hC.b hd ht (fun c2 => absurd c2 c) (fun _ => kf c x hx H locs ls hP hS hL)
theorem aw_icmp_ge_T (hC : CO G C own cc nL lvl kc ks ret) {u v : Int32} {off : Int} {tgt : Nat} (hd : decode cc pc = .ok (.if_icmp .ge off, 3)) (ht : (pc : Int) + off = (tgt : Int)) (c : v ≤ u) (k : AW G C Q kc ks nL μ (tgt) L (st) (E)) : AW G C Q kc ks nL μ (pc) L (.int v :: .int u :: st) (E) := by
  intro x hx H locs ls hP hS hL
  exact lv_icmp_ge hC.x hC.b hd ht (fun _ => (k x hx H locs ls hP hS hL)) (fun c2 => absurd c c2)
theorem aw_icmp_ge_F (hC : CO G C own cc nL lvl kc ks ret) {u v : Int32} {off : Int} {tgt : Nat} (hd : decode cc pc = .ok (.if_icmp .ge off, 3)) (ht : (pc : Int) + off = (tgt : Int)) (c : ¬ v ≤ u) (k : AW G C Q kc ks nL μ (pc + 3) L (st) (E)) : AW G C Q kc ks nL μ (pc) L (.int v :: .int u :: st) (E) := by
  intro x hx H locs ls hP hS hL
  exact lv_icmp_ge hC.x hC.b hd ht (fun c2 => absurd c2 c) (fun _ => (k x hx H locs ls hP hS hL))
theorem aw_icmp_gt (hC : CO G C own cc nL lvl kc ks ret) {u v : Int32} {off : Int} {tgt : Nat} {E1 E2 : Option τ} (hd : decode cc pc = .ok (.if_icmp .gt off, 3)) (ht : (pc : Int) + off = (tgt : Int)) (kt : v < u → AW G C Q kc ks nL μ (tgt) L (st) (E1)) (kf : ¬ v < u → AW G C Q kc ks nL μ (pc + 3) L (st) (E2)) : AW G C Q kc ks nL μ (pc) L (.int v :: .int u :: st) (if v < u then E1 else E2) := by
  intro x hx H locs ls hP hS hL
  by_cases c : v < u
  · rw [if_pos c] at hx
    exact lv_icmp_gt hC.x hC.b hd ht (fun _ => kt c x hx H locs ls hP hS hL) (fun c2 => absurd c c2)
  · rw [if_neg c] at hx
    exact lv_icmp_gt hC.x hC.b hd ht (fun c2 => absurd c2 c) (fun _ => kf c x hx H locs ls hP hS hL)
theorem aw_icmp_gt_T (hC : CO G C own cc nL lvl kc ks ret) {u v : Int32} {off : Int} {tgt : Nat} (hd : decode cc pc = .ok (.if_icmp .gt off, 3)) (ht : (pc : Int) + off = (tgt : Int)) (c : v < u) (k : AW G C Q kc ks nL μ (tgt) L (st) (E)) : AW G C Q kc ks nL μ (pc) L (.int v :: .int u :: st) (E) := by
  intro x hx H locs ls hP hS hL
  exact lv_icmp_gt hC.x hC.b hd ht (fun _ => (k x hx H locs ls hP hS hL)) (fun c2 => absurd c c2)
theorem aw_icmp_gt_F (hC : CO G C own cc nL lvl kc ks ret) {u v : Int32} {off : Int} {tgt : Nat} (hd : decode cc pc = .ok (.if_icmp .gt off, 3)) (ht : (pc : Int) + off = (tgt : Int)) (c : ¬ v < u) (k : AW G C Q kc ks nL μ (pc + 3) L (st) (E)) : AW G C Q kc ks nL μ (pc) L (.int v :: .int u :: st) (E) := by
  intro x hx H locs ls hP hS hL
  exact lv_icmp_gt hC.x hC.b hd ht (fun c2 => absurd c2 c) (fun _ => (k x hx H locs ls hP hS hL))
theorem aw_icmp_le (hC : CO G C own cc nL lvl kc ks ret) {u v : Int32} {off : Int} {tgt : Nat} {E1 E2 : Option τ} (hd : decode cc pc = .ok (.if_icmp .le off, 3)) (ht : (pc : Int) + off = (tgt : Int)) (kt : u ≤ v → AW G C Q kc ks nL μ (tgt) L (st) (E1)) (kf : ¬ u ≤ v → AW G C Q kc ks nL μ (pc + 3) L (st) (E2)) : AW G C Q kc ks nL μ (pc) L (.int v :: .int u :: st) (if u ≤ v then E1 else E2) := by
  intro x hx H locs ls hP hS hL
  by_cases c : u ≤ v
  · rw [if_pos c] at hx
    exact lv_icmp_le hC.x hC.b hd ht (fun _ => kt c x hx H locs ls hP hS hL) (fun c2 => absurd c c2)
  · rw [if_neg c] at hx
    exact lv_icmp_le hC.x hC.b hd ht (fun c2 => absurd c2 c) (fun _ => kf c x hx H locs ls hP hS hL)
theorem aw_icmp_le_T (hC : CO G C own cc nL lvl kc ks ret) {u v : Int32} {off : Int} {tgt : Nat} (hd : decode cc pc = .ok (.if_icmp .le off, 3)) (ht : (pc : Int) + off = (tgt : Int)) (c : u ≤ v) (k : AW G C Q kc ks nL μ (tgt) L (st) (E)) : AW G C Q kc ks nL μ (pc) L (.int v :: .int u :: st) (E) := by
  intro x hx H locs ls hP hS hL
  exact lv_icmp_le hC.x hC.b hd ht (fun _ => (k x hx H locs ls hP hS hL)) (fun c2 => absurd c c2)
theorem aw_icmp_le_F (hC : CO G C own cc nL lvl kc ks ret) {u v : Int32} {off : Int} {tgt : Nat} (hd : decode cc pc = .ok (.if_icmp .le off, 3)) (ht : (pc : Int) + off = (tgt : Int)) (c : ¬ u ≤ v) (k : AW G C Q kc ks nL μ (pc + 3) L (st) (E)) : AW G C Q kc ks nL μ (pc) L (.int v :: .int u :: st) (E) := by
  intro x hx H locs ls hP hS hL
  exact lv_icmp_le hC.x hC.b hd ht (fun c2 => absurd c2 c) (fun _ => (k x hx H locs ls hP hS hL))
theorem aw_goto (hC : CO G C own cc nL lvl kc ks ret) {off : Int} {tgt : Nat} (hd : decode cc pc = .ok (.goto off, 3)) (ht : (pc : Int) + off = (tgt : Int)) (k : AW G C Q kc ks nL μ (tgt) L (st) (E)) : AW G C Q kc ks nL μ (pc) L (st) (E) := by
  intro x hx H locs ls hP hS hL
  exact lv_goto hC.x hC.b hd ht (k x hx H locs ls hP hS hL)
theorem aw_ifnonnull (hC : CO G C own cc nL lvl kc ks ret) {a : Nat} {off : Int} {tgt : Nat} (hd : decode cc pc = .ok (.ifnonnull off, 3)) (ht : (pc : Int) + off = (tgt : Int)) (k : AW G C Q kc ks nL μ (tgt) L (st) (E)) : AW G C Q kc ks nL μ (pc) L (.ref a :: st) (E) := by
  intro x hx H locs ls hP hS hL
  exact lv_ifnonnull hC.x hC.b hd ht (k x hx H locs ls hP hS hL)
theorem aw_ifnull (hC : CO G C own cc nL lvl kc ks ret) {a : Nat} {off : Int} (hd : decode cc pc = .ok (.ifnull off, 3)) (k : AW G C Q kc ks nL μ (pc + 3) L (st) (E)) : AW G C Q kc ks nL μ (pc) L (.ref a :: st) (E) := by
  intro x hx H locs ls hP hS hL
  exact lv_ifnull hC.x hC.b hd (k x hx H locs ls hP hS hL)
theorem aw_ifnullN (hC : CO G C own cc nL lvl kc ks ret) {off : Int} {tgt : Nat} (hd : decode cc pc = .ok (.ifnull off, 3)) (ht : (pc : Int) + off = (tgt : Int)) (k : AW G C Q kc ks nL μ (tgt) L (st) (E)) : AW G C Q kc ks nL μ (pc) L (.null :: st) (E) := by
  intro x hx H locs ls hP hS hL
  exact lv_ifnullN hC.x hC.b hd ht (k x hx H locs ls hP hS hL)
theorem aw_ifnonnullN (hC : CO G C own cc nL lvl kc ks ret) {off : Int} (hd : decode cc pc = .ok (.ifnonnull off, 3)) (k : AW G C Q kc ks nL μ (pc + 3) L (st) (E)) : AW G C Q kc ks nL μ (pc) L (.null :: st) (E) := by
  intro x hx H locs ls hP hS hL
  exact lv_ifnonnullN hC.x hC.b hd (k x hx H locs ls hP hS hL)
theorem aw_ldc (hC : CO G C own cc nL lvl kc ks ret) {index : Nat} {v : Int32} (hw : Cond.constant own index v ∈ BIG) (hd : decode cc pc = .ok (.ldc index, 2)) (k : AW G C Q kc ks nL μ (pc + 2) L (.int v :: st) (E)) : AW G C Q kc ks nL μ (pc) L (st) (E) := by
  intro x hx H locs ls hP hS hL
  exact lv_ldc hC.x hC.b hC.ow (hC.w hw) hd (k x hx H locs ls hP hS hL)
theorem aw_ldcw (hC : CO G C own cc nL lvl kc ks ret) {index : Nat} {v : Int32} (hw : Cond.constant own index v ∈ BIG) (hd : decode cc pc = .ok (.ldc_w index, 3)) (k : AW G C Q kc ks nL μ (pc + 3) L (.int v :: st) (E)) : AW G C Q kc ks nL μ (pc) L (st) (E) := by
  intro x hx H locs ls hP hS hL
  exact lv_ldcw hC.x hC.b hC.ow (hC.w hw) hd (k x hx H locs ls hP hS hL)
theorem aw_ldc2 (hC : CO G C own cc nL lvl kc ks ret) {index : Nat} {v : Int64} (hw : Cond.constantLong own index v ∈ BIG) (hd : decode cc pc = .ok (.ldc2_w index, 3)) (k : AW G C Q kc ks nL μ (pc + 3) L (.long v :: st) (E)) : AW G C Q kc ks nL μ (pc) L (st) (E) := by
  intro x hx H locs ls hP hS hL
  exact lv_ldc2 hC.x hC.b hC.ow (hC.w hw) hd (k x hx H locs ls hP hS hL)
theorem aw_ldcS (hC : CO G C own cc nL lvl kc ks ret) {index i : Nat} {tx : String} (hi : strL[i]? = some (own, index, tx)) (hd : decode cc pc = .ok (.ldc index, 2)) (k : AW G C Q kc ks nL μ (pc + 2) L (.ref (gsK G i) :: st) (E)) : AW G C Q kc ks nL μ (pc) L (st) (E) := by
  intro x hx H locs ls hP hS hL
  exact va_ldcS hC.x hC.b hC.ow (hC.iv.2.2.2.2.1 i _ hi) hd (k x hx H locs ls hP hS hL)
theorem aw_get (hC : CO G C own cc nL lvl kc ks ret) {ref C0 : String} {T : u_T} {N ci index g j : Nat} {fs : List Value} (hin : ∀ w ∈ u_ws C0 T N, w ∈ BIG) (hv : vld g j) (he : ent G g j (μ g j) = .inr (ci, fs)) (hc : vwCl[ci]? = some (C0, T, N)) (i : Nat) (hi : i < N) (hw : Cond.fieldLink own index ref (T i).2.1 (T i).2.2.1 ∈ BIG) (hs : (T i).1 = ref) {v : Value} (hf : fs[i]? = some v) (hd : decode cc pc = .ok (.getfield index, 3)) (k : AW G C Q kc ks nL μ (pc + 3) L (v :: st) (E)) : AW G C Q kc ks nL μ (pc) L (.ref (gad G g j) :: st) (E) := by
  intro x hx H locs ls hP hS hL
  obtain ⟨q, -, hq⟩ := ws_at G μ hv
  rw [he] at hq
  exact va_get hC.x hC.b hC.ws hin hC.ow hC.K hP q hq hc i hi (hC.w hw) (fun y hy => by rw [← hs]; exact hy) hf hd (k x hx H locs ls hP hS hL)
theorem aw_put (hC : CO G C own cc nL lvl kc ks ret) {ref C0 : String} {T : u_T} {N ci index g j : Nat} {fs : List Value} (hin : ∀ w ∈ u_ws C0 T N, w ∈ BIG) (hv : vld g j) (he : ent G g j (μ g j) = .inr (ci, fs)) (hc : vwCl[ci]? = some (C0, T, N)) (i : Nat) (hi : i < N) (hw : Cond.fieldLink own index ref (T i).2.1 (T i).2.2.1 ∈ BIG) (hs : (T i).1 = ref) (ty0 : Nat → FieldType) (hty : ∀ k, k < N → parseFieldDescriptor (T k).2.2.1 = some (ty0 k)) (hnm : ∀ a, a < N → ∀ b, b < N → a ≠ b → (T a).2.1 ≠ (T b).2.1) (hfin : (T i).2.2.2 = false) {ty : FieldType} {v : Int32} (hdsc : parseFieldDescriptor (T i).2.2.1 = some ty) (hn : narrow ty (.int v) = .int v) (hfit : fits ty (.int v) = true) (hl : i < fs.length) (he2 : ent G g j (upd (μ g j) i v) = .inr (ci, fs.set i (.int v))) (hd : decode cc pc = .ok (.putfield index, 3)) (k : AW G C Q kc ks nL (upm μ g j i v) (pc + 3) L (st) (E)) : AW G C Q kc ks nL μ (pc) L (.int v :: .ref (gad G g j) :: st) (E) := by
  intro x hx H locs ls hP hS hL
  obtain ⟨q, hpr, hq⟩ := ws_at G μ hv
  rw [he] at hq
  refine va_put hC.x hC.b hC.ws hin ty0 hty hnm hC.ow hC.K hP (hC.D μ) hS q hq hc i hi (hC.w hw) (fun y hy => by rw [← hs]; exact hy) hfin hdsc hn hfit hl hd (fun H1 locs1 hP1 _ hS1 => ?_)
  rw [← he2, ws_set G μ hpr, upm_A] at hP1
  exact k x hx H1 locs1 ls hP1 hS1 hL
theorem aw_iaload (hC : CO G C own cc nL lvl kc ks ret) {g j n : Nat} {v : Int32} (hv : vld g j) (he : ent G g j (μ g j) = .inl (gcA G 0, n, .inl (μ g j))) (hd : decode cc pc = .ok (.iaload, 1)) (k : AW G C Q kc ks nL μ (pc + 1) L (.int (μ g j v.toNatClampNeg) :: st) (E)) : AW G C Q kc ks nL μ (pc) L (.int v :: .ref (gad G g j) :: st) (ix v n E) := by
  intro x hx H locs ls hP hS hL
  obtain ⟨q, -, hq⟩ := ws_at G μ hv
  rw [he] at hq
  obtain ⟨hi, hx⟩ := ix_some hx
  exact va_iald hC.x hC.b hC.K hP q 0 hq rfl hi hd (k x hx H locs ls hP hS hL)
theorem aw_zaload (hC : CO G C own cc nL lvl kc ks ret) {g j n : Nat} {v : Int32} (hv : vld g j) (he : ent G g j (μ g j) = .inl (gcA G 1, n, .inl (μ g j))) (hd : decode cc pc = .ok (.baload, 1)) (k : AW G C Q kc ks nL μ (pc + 1) L (.int (μ g j v.toNatClampNeg) :: st) (E)) : AW G C Q kc ks nL μ (pc) L (.int v :: .ref (gad G g j) :: st) (ix v n E) := by
  intro x hx H locs ls hP hS hL
  obtain ⟨q, -, hq⟩ := ws_at G μ hv
  rw [he] at hq
  obtain ⟨hi, hx⟩ := ix_some hx
  exact va_zald hC.x hC.b hC.K hP q 1 hq rfl hi hd (k x hx H locs ls hP hS hL)
theorem aw_iastore (hC : CO G C own cc nL lvl kc ks ret) {g j n : Nat} {v w : Int32} (hv : vld g j) (he : ∀ f, ent G g j f = .inl (gcA G 0, n, .inl f)) (hd : decode cc pc = .ok (.iastore, 1)) (k : AW G C Q kc ks nL (upm μ g j v.toNatClampNeg w) (pc + 1) L (st) (E)) : AW G C Q kc ks nL μ (pc) L (.int w :: .int v :: .ref (gad G g j) :: st) (ix v n E) := by
  intro x hx H locs ls hP hS hL
  obtain ⟨q, hpr, hq⟩ := ws_at G μ hv
  rw [he] at hq
  obtain ⟨hi, hx⟩ := ix_some hx
  refine va_iast hC.x hC.b hC.K hP (hC.D μ) hS q 0 hq rfl hi hd (fun H1 locs1 hP1 _ hS1 => ?_)
  rw [← he, ws_set G μ hpr, upm_A] at hP1
  exact k x hx H1 locs1 ls hP1 hS1 hL
theorem aw_zastore (hC : CO G C own cc nL lvl kc ks ret) {g j n : Nat} {v w : Int32} (hv : vld g j) (he : ∀ f, ent G g j f = .inl (gcA G 1, n, .inl f)) (hd : decode cc pc = .ok (.bastore, 1)) (k : AW G C Q kc ks nL (upm μ g j v.toNatClampNeg w) (pc + 1) L (st) (E)) : AW G C Q kc ks nL μ (pc) L (.int w :: .int v :: .ref (gad G g j) :: st) (ix v n (bk w E)) := by
  intro x hx H locs ls hP hS hL
  obtain ⟨q, hpr, hq⟩ := ws_at G μ hv
  rw [he] at hq
  obtain ⟨hi, hx⟩ := ix_some hx
  obtain ⟨hb9, hx⟩ := bk_some hx
  refine va_zast hC.x hC.b hC.K hP (hC.D μ) hS q 1 hq rfl hi hd (fun H1 locs1 hP1 _ hS1 => ?_)
  rw [bk_nar hb9] at hP1
  rw [← he, ws_set G μ hpr, upm_A] at hP1
  exact k x hx H1 locs1 ls hP1 hS1 hL
theorem aw_laload (hC : CO G C own cc nL lvl kc ks ret) {v : Int32} (hd : decode cc pc = .ok (.laload, 1)) (k : AW G C Q kc ks nL μ (pc + 1) L (.long (μ 0 22 v.toNatClampNeg).toInt64 :: st) (E)) : AW G C Q kc ks nL μ (pc) L (.int v :: .ref (gad G 0 22) :: st) (ix v 1 E) := by
  intro x hx H locs ls hP hS hL
  obtain ⟨q, -, hq⟩ := ws_at G μ (v0 (j := 22) (by decide))
  obtain ⟨hi, hx⟩ := ix_some hx
  exact va_lald hC.x hC.b hC.K hP q 2 hq rfl hi hd (k x hx H locs ls hP hS hL)
theorem aw_lastore (hC : CO G C own cc nL lvl kc ks ret) {v w : Int32} {wl : Int64} (hwl : wl = w.toInt64) (hd : decode cc pc = .ok (.lastore, 1)) (k : AW G C Q kc ks nL (upm μ 0 22 v.toNatClampNeg w) (pc + 1) L (st) (E)) : AW G C Q kc ks nL μ (pc) L (.long wl :: .int v :: .ref (gad G 0 22) :: st) (ix v 1 E) := by
  intro x hx H locs ls hP hS hL
  obtain ⟨q, hpr, hq⟩ := ws_at G μ (v0 (j := 22) (by decide))
  obtain ⟨hi, hx⟩ := ix_some hx
  subst hwl
  refine va_last hC.x hC.b hC.K hP (hC.D μ) hS q 2 hq rfl hi hd (fun H1 locs1 hP1 _ hS1 => ?_)
  have e9 : (vp_updL (fun i => (μ 0 22 i).toInt64) v.toNatClampNeg w.toInt64) = fun i => (upd (μ 0 22) v.toNatClampNeg w i).toInt64 := by
    funext i; simp only [vp_updL, upd]; split <;> rfl
  rw [e9] at hP1
  have hP2 : va_P (gD G) vwCl ((wsOf G μ).set q (gad G 0 22, ent G 0 22 (upd (μ 0 22) v.toNatClampNeg w))) H1 := hP1
  rw [ws_set G μ hpr, upm_A] at hP2
  exact k x hx H1 locs1 ls hP2 hS1 hL
theorem aw_alen (hC : CO G C own cc nL lvl kc ks ret) {g j n : Nat} {v : Int32} {f : Nat → Int32} (hv : vld g j) (he : ent G g j (μ g j) = .inl (gcA G 0, n, .inl f)) (hn : Int32.ofNat n = v) (hd : decode cc pc = .ok (.arraylength, 1)) (k : AW G C Q kc ks nL μ (pc + 1) L (.int v :: st) (E)) : AW G C Q kc ks nL μ (pc) L (.ref (gad G g j) :: st) (E) := by
  intro x hx H locs ls hP hS hL
  obtain ⟨q, -, hq⟩ := ws_at G μ hv
  rw [he] at hq
  exact va_alen hC.x hC.b hC.K hP q 0 hq rfl hn hd (k x hx H locs ls hP hS hL)
theorem aw_alenH (hC : CO G C own cc nL lvl kc ks ret) {v : Int32} (hn : Int32.ofNat 12 = v) (hd : decode cc pc = .ok (.arraylength, 1)) (k : AW G C Q kc ks nL μ (pc + 1) L (.int v :: st) (E)) : AW G C Q kc ks nL μ (pc) L (.ref (gad G 0 10) :: st) (E) := by
  intro x hx H locs ls hP hS hL
  obtain ⟨q, -, hq⟩ := ws_at G μ (v0 (j := 10) (by decide))
  exact va_alen hC.x hC.b hC.K hP q 3 hq rfl hn hd (k x hx H locs ls hP hS hL)
theorem aw_aaloadH (hC : CO G C own cc nL lvl kc ks ret) {v : Int32} (hd : decode cc pc = .ok (.aaload, 1)) (k : AW G C Q kc ks nL μ (pc + 1) L (.ref (gad G (v.toNatClampNeg + 4) 0) :: st) (E)) : AW G C Q kc ks nL μ (pc) L (.int v :: .ref (gad G 0 10) :: st) (ix v 12 E) := by
  intro x hx H locs ls hP hS hL
  obtain ⟨q, -, hq⟩ := ws_at G μ (v0 (j := 10) (by decide))
  obtain ⟨hi, hx⟩ := ix_some hx
  exact va_aldq hC.x hC.b hC.K hP q 3 hq rfl hi hd (k x hx H locs ls hP hS hL)
/-- a stretch copied between two rows -/
def cpm (μ : Mem) (g0 j0 sp g1 j1 dp n : Nat) : Mem := upA μ g1 j1 (va_cpy (μ g0 j0) (μ g1 j1) sp dp n)
/-- the bounds of a copy -/
def cpx (sp dp n : Int32) (n0 n1 : Nat) (E : Option τ) : Option τ := if 0 ≤ sp.toInt ∧ 0 ≤ dp.toInt ∧ 0 ≤ n.toInt ∧ sp.toNatClampNeg + n.toNatClampNeg ≤ n0 ∧ dp.toNatClampNeg + n.toNatClampNeg ≤ n1 then E else none
theorem aw_copy (hC : CO G C own cc nL lvl kc ks ret) {index g0 j0 g1 j1 n0 n1 : Nat} {sp dp n : Int32} (hw : Cond.methodLink own index arraycopyName ∈ BIG) (hnat : Cond.native arraycopyName ∈ BIG) (hstat : Cond.static arraycopyName ∈ BIG) (hini : Cond.initialized "java/lang/System" ∈ BIG) (hv0 : vld g0 j0) (hv1 : vld g1 j1) (he0 : ent G g0 j0 (μ g0 j0) = .inl (gcA G 0, n0, .inl (μ g0 j0))) (he1 : ∀ f, ent G g1 j1 f = .inl (gcA G 0, n1, .inl f)) (hlv : 1 ≤ lvl) (hst : (st.map fun v => v.category).sum ≤ 8) (hd : decode cc pc = .ok (.invokestatic index, 3)) (k : AW G C Q kc ks nL (cpm μ g0 j0 sp.toNatClampNeg g1 j1 dp.toNatClampNeg n.toNatClampNeg) (pc + 3) L (st) (E)) : AW G C Q kc ks nL μ (pc) L (.int n :: .int dp :: .ref (gad G g1 j1) :: .int sp :: .ref (gad G g0 j0) :: st) (cpx sp dp n n0 n1 E) := by
  intro x hx H locs ls hP hS hL
  have hr := hC.rm
  unfold cpx at hx
  split at hx
  case isFalse => cases hx
  rename_i hb9
  obtain ⟨b1, b2, b3, b4, b5⟩ := hb9
  have nn : ∀ z : Int32, 0 ≤ z.toInt → ¬ z < 0 := fun z hz h => by have := Int32.lt_iff_toInt_lt.mp h; simp at this; omega
  obtain ⟨q0, -, hq0⟩ := ws_at G μ hv0
  obtain ⟨q1, hpr, hq1⟩ := ws_at G μ hv1
  rw [he0] at hq0
  rw [he1] at hq1
  refine va_copyi hC.x hC.b (hC.ml.trans hL.1.symm) hC.ow (hC.w hw) (hC.w hnat) (hC.w hstat) (hC.w hini) hC.K hP (hC.D μ) hS q0 q1 0 0 hq0 hq1 rfl rfl rfl (nn sp b1) (nn dp b2) (nn n b3) b4 b5 (fun i _ => rfl) (by omega) (Nat.le_trans (Nat.add_le_add hst (Nat.le_refl _)) (Nat.le_trans (show 8 + (nativeFrameWords "java/lang/System" "arraycopy" 5 + 11) ≤ 64 by decide +kernel) (by omega))) hd (fun H1 locs1 hP1 _ hS1 => ?_)
  rw [← he1, ws_set G μ hpr] at hP1
  exact k x hx H1 locs1 ls hP1 hS1 hL
theorem aw_mmax (hC : CO G C own cc nL lvl kc ks ret) {index : Nat} {u v : Int32} (hw : Cond.methodLink own index Lib.Math.max.name ∈ BIG) (hstat : Cond.static Lib.Math.max.name ∈ BIG) (hini : Cond.initialized "java/lang/Math" ∈ BIG) (hcd : Cond.code Lib.Math.max.name Lib.Math.max.code 2 (some .int) ∈ BIG) (hlv : 1 ≤ lvl) (hst : (st.map fun v => v.category).sum ≤ 8) (hd : decode cc pc = .ok (.invokestatic index, 3)) (k : AW G C Q kc ks nL μ (pc + 3) L (.int (jmax u v) :: st) (E)) : AW G C Q kc ks nL μ (pc) L (.int v :: .int u :: st) (E) := by
  intro x hx H locs ls hP hS hL
  have hr := hC.rm
  exact va_mmax hC.x hC.b (hC.ml.trans hL.1.symm) hC.ow (hC.w hw) (hC.w hstat) (hC.w hini) (hC.w hcd) (by omega) (by omega) hr.2.2.1 hr.2.2.2 hd (k x hx H locs ls hP hS hL)
theorem aw_mmin (hC : CO G C own cc nL lvl kc ks ret) {index : Nat} {u v : Int32} (hw : Cond.methodLink own index Lib.Math.min.name ∈ BIG) (hstat : Cond.static Lib.Math.min.name ∈ BIG) (hini : Cond.initialized "java/lang/Math" ∈ BIG) (hcd : Cond.code Lib.Math.min.name Lib.Math.min.code 2 (some .int) ∈ BIG) (hlv : 1 ≤ lvl) (hst : (st.map fun v => v.category).sum ≤ 8) (hd : decode cc pc = .ok (.invokestatic index, 3)) (k : AW G C Q kc ks nL μ (pc + 3) L (.int (jmin u v) :: st) (E)) : AW G C Q kc ks nL μ (pc) L (.int v :: .int u :: st) (E) := by
  intro x hx H locs ls hP hS hL
  have hr := hC.rm
  exact va_mmin hC.x hC.b (hC.ml.trans hL.1.symm) hC.ow (hC.w hw) (hC.w hstat) (hC.w hini) (hC.w hcd) (by omega) (by omega) hr.2.2.1 hr.2.2.2 hd (k x hx H locs ls hP hS hL)
/-- ends: what is answered, and the memory behind it -/
def qcI (G : GG) (x : Int32 × Mem) : Array Value → State → Outcome → State → Prop := fun _ st o t => o = .returned (some (.int x.1)) ∧ va_P (gD G) vwCl (wsOf G x.2) t.heap ∧ va_F (gA G) st t
def qcL (G : GG) (x : Int64 × Mem) : Array Value → State → Outcome → State → Prop := fun _ st o t => o = .returned (some (.long x.1)) ∧ va_P (gD G) vwCl (wsOf G x.2) t.heap ∧ va_F (gA G) st t
def qcV (G : GG) (x : Mem) : Array Value → State → Outcome → State → Prop := fun _ st o t => o = .returned none ∧ va_P (gD G) vwCl (wsOf G x) t.heap ∧ va_F (gA G) st t
abbrev qI (G : GG) (C : CX) (kc ks : Nat) (x : Int32 × Mem) : State → Prop := MQ (cBel C) (qcI G x) (cArgs C) (cS C) kc ks (gA G)
abbrev qL (G : GG) (C : CX) (kc ks : Nat) (x : Int64 × Mem) : State → Prop := MQ (cBel C) (qcL G x) (cArgs C) (cS C) kc ks (gA G)
abbrev qV (G : GG) (C : CX) (kc ks : Nat) (x : Mem) : State → Prop := MQ (cBel C) (qcV G x) (cArgs C) (cS C) kc ks (gA G)
end AWR
section AWE
variable {G : GG} {C : CX} {own : String} {cc : ByteArray} {nL lvl kc ks : Nat} {μ : Mem} {pc : Nat} {L : List (Option Value)}
theorem aw_iret (hC : CO G C own cc nL lvl kc ks (some .int)) {v : Int32} (hd : decode cc pc = .ok (.ireturn, 1)) : AW G C (qI G C kc ks) kc ks nL μ pc L [.int v] (some (v, μ)) := by
  intro x hx H locs ls hP hS hL
  cases hx
  exact W.iret hC.x hC.b hC.rt (fun t ht hW => ⟨rfl, by rw [ht]; exact hP, hS.F ht⟩) hS.2.2 hd hC.lk
theorem aw_zret (hC : CO G C own cc nL lvl kc ks (some .boolean)) {v : Int32} (hd : decode cc pc = .ok (.ireturn, 1)) : AW G C (qI G C kc ks) kc ks nL μ pc L [.int v] (bk v (some (v, μ))) := by
  intro x hx H locs ls hP hS hL
  obtain ⟨hb9, hx⟩ := bk_some hx
  cases hx
  exact W.zret hC.x hC.b hC.rt (by rcases hb9 with rfl | rfl <;> rfl) (fun t ht hW => ⟨rfl, by rw [ht]; exact hP, hS.F ht⟩) hS.2.2 hd hC.lk
theorem aw_zret0 (hC : CO G C own cc nL lvl kc ks (some .boolean)) (hd : decode cc pc = .ok (.ireturn, 1)) : AW G C (qI G C kc ks) kc ks nL μ pc L [.int 0] (some (0, μ)) := aw_eq (show some ((0 : Int32), μ) = bk 0 (some (0, μ)) from rfl) (aw_zret hC hd)
theorem aw_zret1 (hC : CO G C own cc nL lvl kc ks (some .boolean)) (hd : decode cc pc = .ok (.ireturn, 1)) : AW G C (qI G C kc ks) kc ks nL μ pc L [.int 1] (some (1, μ)) := aw_eq (show some ((1 : Int32), μ) = bk 1 (some (1, μ)) from rfl) (aw_zret hC hd)
theorem aw_lret (hC : CO G C own cc nL lvl kc ks (some .long)) {v : Int64} (hd : decode cc pc = .ok (.lreturn, 1)) : AW G C (qL G C kc ks) kc ks nL μ pc L [.long v] (some (v, μ)) := by
  intro x hx H locs ls hP hS hL
  cases hx
  exact W.lret hC.x hC.b hC.rt (fun t ht hW => ⟨rfl, by rw [ht]; exact hP, hS.F ht⟩) hS.2.2 hd hC.lk
theorem aw_vret (hC : CO G C own cc nL lvl kc ks none) (hd : decode cc pc = .ok (.return_, 1)) : AW G C (qV G C kc ks) kc ks nL μ pc L [] (some μ) := by
  intro x hx H locs ls hP hS hL
  cases hx
  exact W.vret hC.x hC.b hC.rt (fun t ht hW => ⟨rfl, by rw [ht]; exact hP, hS.F ht⟩) hS.2.2 hd hC.lk
end AWE
