/-! ===== the relation at the start ===== -/
theorem rel0 : Rel mu0 := by
  have r3 : nv (mu0 0 13) 3 = 0 := by decide +kernel
  refine ⟨⟨fun _ => 0, ⟨fun i hi => ?_, ⟨⟨by decide +kernel, by decide +kernel, by decide +kernel, by decide +kernel, by decide +kernel, by decide +kernel, by decide +kernel, by decide +kernel, by decide +kernel, by decide +kernel, by decide +kernel, by decide +kernel, by decide +kernel⟩, by decide +kernel, by decide +kernel, fun g hg => ?_, fun k hk => ?_⟩, ?_, ⟨by decide +kernel, fun h => absurd (by decide +kernel) h⟩, fun h => absurd (by decide +kernel) h⟩, 0, 0, by decide +kernel, by decide +kernel, by decide +kernel, by decide +kernel, by decide +kernel, fun i hi => by omega⟩, ⟨0, by decide +kernel, by decide +kernel, by decide +kernel, fun i hi => by omega⟩, by decide +kernel, Or.inl ⟨by decide +kernel, by decide +kernel⟩, ⟨false, by decide +kernel⟩, false, by decide +kernel⟩
  · by_cases h1 : i = 1
    · subst h1
      cases hi
    · by_cases h15 : i = 15
      · subst h15
        cases hi
      · by_cases h6 : i = 6
        · subst h6
          exact ⟨1, by decide +kernel, by decide +kernel⟩
        · by_cases h7 : i = 7
          · subst h7
            exact ⟨100, by decide +kernel, by decide +kernel⟩
          · by_cases h13 : i = 13
            · subst h13
              exact ⟨3, by decide +kernel, by decide +kernel⟩
            · refine ⟨0, Nat.zero_le _, ?_⟩
              show (upd (upd (upd (upd (upd (fun _ => 0) (Int32.toNatClampNeg 1) (-1)) (Int32.toNatClampNeg 6) 1) (Int32.toNatClampNeg 7) 100) (Int32.toNatClampNeg 13) 3) (Int32.toNatClampNeg 15) 1) i = _
              rw [show Int32.toNatClampNeg 1 = 1 from rfl, show Int32.toNatClampNeg 6 = 6 from rfl, show Int32.toNatClampNeg 7 = 7 from rfl, show Int32.toNatClampNeg 13 = 13 from rfl, show Int32.toNatClampNeg 15 = 15 from rfl, upd_ne h15, upd_ne h13, upd_ne h7, upd_ne h6, upd_ne h1] <;> rfl
  · rw [r3] at hg
    omega
  · rcases (show k = 0 ∨ k = 1 ∨ k = 2 ∨ k = 3 ∨ k = 4 ∨ k = 5 ∨ k = 6 ∨ k = 7 by omega) with rfl | rfl | rfl | rfl | rfl | rfl | rfl | rfl <;> decide
  · refine ⟨by decide +kernel, 0, by decide +kernel, by decide +kernel, fun ago ha => ?_⟩
    rw [show nv (mu0 0 13) 14 = 0 by decide +kernel] at ha
    omega
/-! ===== what the Statement gives of the start ===== -/
abbrev FLT : List Cond := flatC (Jvm.Cond.and given_1 narrow_1)
def offL : List Nat := [67, 76, 84, 92, 103, 113, 122, 130, 137, 144, 150, 159, 167, 173, 179, 186, 193, 201, 209, 218, 226, 236, 246, 254, 261, 295, 321, 353, 370, 398, 414, 441, 461, 476, 501, 536, 563, 590, 615, 638, 663, 690, 712, 736, 763, 773, 782, 789, 797, 805, 813, 823, 832, 841, 853, 864, 874, 883, 891, 898, 905, 914, 923, 933, 942, 953, 964, 973]
def tS (i : Nat) : Term := Term.string (strL.getD i ("", 0, "")).1 (strL.getD i ("", 0, "")).2.1
def tV (i : Nat) : Term := Term.field (tS i) "java/lang/String" "value" "[B"
set_option maxRecDepth 100000 in
theorem nar_1 : ∀ i, i < 68 → FLT[offL.getD i 0]? = some (Cond.exactly (tS i) "java/lang/String") ∧ FLT[offL.getD i 0 + 1]? = some (Cond.eq (Term.field (tS i) "java/lang/String" "coder" "B") (Term.int 0)) ∧ FLT[offL.getD i 0 + 2]? = some (Cond.arrayOf (tV i) FieldType.byte) ∧ FLT[offL.getD i 0 + 3]? = some (Cond.eq (Term.length (tV i)) (Term.int (Int32.ofNat (strB.getD i []).length))) := by decide +kernel
set_option maxRecDepth 100000 in
theorem nar_2 : ∀ i, i < 68 → ∀ j, j < (strB.getD i []).length → FLT[offL.getD i 0 + 4 + j]? = some (Cond.eq (Term.elem (tV i) (Term.int (Int32.ofNat j))) (Term.int ((strB.getD i []).getD j 0))) := by decide +kernel
theorem str_len : ∀ i, i < 68 → (strB.getD i []).length < 100 := by decide +kernel
theorem nar_c : FLT[4]? = some (Cond.eq (Term.static "java/lang/String" "COMPACT_STRINGS" "Z") (Term.int 1)) := by decide +kernel
theorem nar_s : FLT[5]? = some (Cond.isRef (Term.static "jdk/internal/util/Preconditions" "SIOOBE_FORMATTER" "Ljava/util/function/BiFunction;")) := by decide +kernel
theorem nar_u : FLT[9]? = some (Cond.isRef (Term.static Bundle.tN "UNASSIGNED_STACK" Bundle.steD)) := by decide +kernel
theorem nar_p : FLT[10]? = some (Cond.isRef (Term.static Bundle.tN "SUPPRESSED_SENTINEL" Bundle.listD)) := by decide +kernel
theorem nar_n : ∀ q ∈ ncL, Cond.not (Cond.castable q.1 q.2) ∈ FLT := by decide +kernel
theorem ltw_c : Cond.laysStatic "java/lang/String" "COMPACT_STRINGS" "Z" ∈ lw_tbl := List.mem_append_right _ (tb3 (List.mem_of_getElem? (i := 144) (by decide +kernel)))
theorem ltw_ci : Cond.initialized "java/lang/String" ∈ lw_tbl := List.mem_append_right _ (tb1 (List.mem_of_getElem? (i := 13) (by decide +kernel)))
theorem ltw_s : Cond.laysStatic "jdk/internal/util/Preconditions" "SIOOBE_FORMATTER" "Ljava/util/function/BiFunction;" ∈ lw_tbl := List.mem_append_right _ (tb3 (List.mem_of_getElem? (i := 160) (by decide +kernel)))
theorem ltw_si : Cond.initialized "jdk/internal/util/Preconditions" ∈ lw_tbl := List.mem_append_right _ (tb1 (List.mem_of_getElem? (i := 15) (by decide +kernel)))
theorem ltw_u : Cond.laysStatic Bundle.tN "UNASSIGNED_STACK" Bundle.steD ∈ lw_tbl := List.mem_append_right _ (tb4 (List.mem_of_getElem? (i := 52) (by decide +kernel)))
theorem ltw_p : Cond.laysStatic Bundle.tN "SUPPRESSED_SENTINEL" Bundle.listD ∈ lw_tbl := List.mem_append_right _ (tb4 (List.mem_of_getElem? (i := 54) (by decide +kernel)))
theorem ltw_ti : Cond.initialized Bundle.tN ∈ lw_tbl := List.mem_append_right _ (tb1 (List.mem_of_getElem? (i := 18) (by decide +kernel)))
theorem ltw_h : Cond.arrayOver (FieldType.object "SaturdayKeep$House") ∈ lw_tbl := List.mem_append_right _ (tb2 (List.mem_of_getElem? (i := 23) (by decide +kernel)))
theorem sr_0 : Cond.stringRef (strL.getD 0 ("", 0, "")).1 (strL.getD 0 ("", 0, "")).2.1 (strL.getD 0 ("", 0, "")).2.2 ∈ lw_tbl := List.mem_append_right _ (tb3 (List.mem_of_getElem? (i := 131) (by decide +kernel)))
theorem sr_1 : Cond.stringRef (strL.getD 1 ("", 0, "")).1 (strL.getD 1 ("", 0, "")).2.1 (strL.getD 1 ("", 0, "")).2.2 ∈ lw_tbl := List.mem_append_right _ (tb3 (List.mem_of_getElem? (i := 183) (by decide +kernel)))
theorem sr_2 : Cond.stringRef (strL.getD 2 ("", 0, "")).1 (strL.getD 2 ("", 0, "")).2.1 (strL.getD 2 ("", 0, "")).2.2 ∈ lw_tbl := List.mem_append_right _ (tb3 (List.mem_of_getElem? (i := 184) (by decide +kernel)))
theorem sr_3 : Cond.stringRef (strL.getD 3 ("", 0, "")).1 (strL.getD 3 ("", 0, "")).2.1 (strL.getD 3 ("", 0, "")).2.2 ∈ lw_tbl := List.mem_append_right _ (tb3 (List.mem_of_getElem? (i := 185) (by decide +kernel)))
theorem sr_4 : Cond.stringRef (strL.getD 4 ("", 0, "")).1 (strL.getD 4 ("", 0, "")).2.1 (strL.getD 4 ("", 0, "")).2.2 ∈ lw_tbl := List.mem_append_right _ (tb3 (List.mem_of_getElem? (i := 186) (by decide +kernel)))
theorem sr_5 : Cond.stringRef (strL.getD 5 ("", 0, "")).1 (strL.getD 5 ("", 0, "")).2.1 (strL.getD 5 ("", 0, "")).2.2 ∈ lw_tbl := List.mem_append_right _ (tb3 (List.mem_of_getElem? (i := 187) (by decide +kernel)))
theorem sr_6 : Cond.stringRef (strL.getD 6 ("", 0, "")).1 (strL.getD 6 ("", 0, "")).2.1 (strL.getD 6 ("", 0, "")).2.2 ∈ lw_tbl := List.mem_append_right _ (tb3 (List.mem_of_getElem? (i := 188) (by decide +kernel)))
theorem sr_7 : Cond.stringRef (strL.getD 7 ("", 0, "")).1 (strL.getD 7 ("", 0, "")).2.1 (strL.getD 7 ("", 0, "")).2.2 ∈ lw_tbl := List.mem_append_right _ (tb3 (List.mem_of_getElem? (i := 189) (by decide +kernel)))
theorem sr_8 : Cond.stringRef (strL.getD 8 ("", 0, "")).1 (strL.getD 8 ("", 0, "")).2.1 (strL.getD 8 ("", 0, "")).2.2 ∈ lw_tbl := List.mem_append_right _ (tb3 (List.mem_of_getElem? (i := 190) (by decide +kernel)))
theorem sr_9 : Cond.stringRef (strL.getD 9 ("", 0, "")).1 (strL.getD 9 ("", 0, "")).2.1 (strL.getD 9 ("", 0, "")).2.2 ∈ lw_tbl := List.mem_append_right _ (tb3 (List.mem_of_getElem? (i := 191) (by decide +kernel)))
theorem sr_10 : Cond.stringRef (strL.getD 10 ("", 0, "")).1 (strL.getD 10 ("", 0, "")).2.1 (strL.getD 10 ("", 0, "")).2.2 ∈ lw_tbl := List.mem_append_right _ (tb3 (List.mem_of_getElem? (i := 192) (by decide +kernel)))
theorem sr_11 : Cond.stringRef (strL.getD 11 ("", 0, "")).1 (strL.getD 11 ("", 0, "")).2.1 (strL.getD 11 ("", 0, "")).2.2 ∈ lw_tbl := List.mem_append_right _ (tb3 (List.mem_of_getElem? (i := 193) (by decide +kernel)))
theorem sr_12 : Cond.stringRef (strL.getD 12 ("", 0, "")).1 (strL.getD 12 ("", 0, "")).2.1 (strL.getD 12 ("", 0, "")).2.2 ∈ lw_tbl := List.mem_append_right _ (tb3 (List.mem_of_getElem? (i := 194) (by decide +kernel)))
theorem sr_13 : Cond.stringRef (strL.getD 13 ("", 0, "")).1 (strL.getD 13 ("", 0, "")).2.1 (strL.getD 13 ("", 0, "")).2.2 ∈ lw_tbl := List.mem_append_right _ (tb3 (List.mem_of_getElem? (i := 195) (by decide +kernel)))
theorem sr_14 : Cond.stringRef (strL.getD 14 ("", 0, "")).1 (strL.getD 14 ("", 0, "")).2.1 (strL.getD 14 ("", 0, "")).2.2 ∈ lw_tbl := List.mem_append_right _ (tb3 (List.mem_of_getElem? (i := 196) (by decide +kernel)))
theorem sr_15 : Cond.stringRef (strL.getD 15 ("", 0, "")).1 (strL.getD 15 ("", 0, "")).2.1 (strL.getD 15 ("", 0, "")).2.2 ∈ lw_tbl := List.mem_append_right _ (tb3 (List.mem_of_getElem? (i := 197) (by decide +kernel)))
theorem sr_16 : Cond.stringRef (strL.getD 16 ("", 0, "")).1 (strL.getD 16 ("", 0, "")).2.1 (strL.getD 16 ("", 0, "")).2.2 ∈ lw_tbl := List.mem_append_right _ (tb3 (List.mem_of_getElem? (i := 198) (by decide +kernel)))
theorem sr_17 : Cond.stringRef (strL.getD 17 ("", 0, "")).1 (strL.getD 17 ("", 0, "")).2.1 (strL.getD 17 ("", 0, "")).2.2 ∈ lw_tbl := List.mem_append_right _ (tb3 (List.mem_of_getElem? (i := 199) (by decide +kernel)))
theorem sr_18 : Cond.stringRef (strL.getD 18 ("", 0, "")).1 (strL.getD 18 ("", 0, "")).2.1 (strL.getD 18 ("", 0, "")).2.2 ∈ lw_tbl := List.mem_append_right _ (tb3 (List.mem_of_getElem? (i := 200) (by decide +kernel)))
theorem sr_19 : Cond.stringRef (strL.getD 19 ("", 0, "")).1 (strL.getD 19 ("", 0, "")).2.1 (strL.getD 19 ("", 0, "")).2.2 ∈ lw_tbl := List.mem_append_right _ (tb3 (List.mem_of_getElem? (i := 201) (by decide +kernel)))
theorem sr_20 : Cond.stringRef (strL.getD 20 ("", 0, "")).1 (strL.getD 20 ("", 0, "")).2.1 (strL.getD 20 ("", 0, "")).2.2 ∈ lw_tbl := List.mem_append_right _ (tb3 (List.mem_of_getElem? (i := 202) (by decide +kernel)))
theorem sr_21 : Cond.stringRef (strL.getD 21 ("", 0, "")).1 (strL.getD 21 ("", 0, "")).2.1 (strL.getD 21 ("", 0, "")).2.2 ∈ lw_tbl := List.mem_append_right _ (tb3 (List.mem_of_getElem? (i := 203) (by decide +kernel)))
theorem sr_22 : Cond.stringRef (strL.getD 22 ("", 0, "")).1 (strL.getD 22 ("", 0, "")).2.1 (strL.getD 22 ("", 0, "")).2.2 ∈ lw_tbl := List.mem_append_right _ (tb3 (List.mem_of_getElem? (i := 204) (by decide +kernel)))
theorem sr_23 : Cond.stringRef (strL.getD 23 ("", 0, "")).1 (strL.getD 23 ("", 0, "")).2.1 (strL.getD 23 ("", 0, "")).2.2 ∈ lw_tbl := List.mem_append_right _ (tb3 (List.mem_of_getElem? (i := 205) (by decide +kernel)))
theorem sr_24 : Cond.stringRef (strL.getD 24 ("", 0, "")).1 (strL.getD 24 ("", 0, "")).2.1 (strL.getD 24 ("", 0, "")).2.2 ∈ lw_tbl := List.mem_append_right _ (tb4 (List.mem_of_getElem? (i := 67) (by decide +kernel)))
theorem sr_25 : Cond.stringRef (strL.getD 25 ("", 0, "")).1 (strL.getD 25 ("", 0, "")).2.1 (strL.getD 25 ("", 0, "")).2.2 ∈ lw_tbl := List.mem_append_right _ (tb4 (List.mem_of_getElem? (i := 103) (by decide +kernel)))
theorem sr_26 : Cond.stringRef (strL.getD 26 ("", 0, "")).1 (strL.getD 26 ("", 0, "")).2.1 (strL.getD 26 ("", 0, "")).2.2 ∈ lw_tbl := List.mem_append_right _ (tb4 (List.mem_of_getElem? (i := 148) (by decide +kernel)))
theorem sr_27 : Cond.stringRef (strL.getD 27 ("", 0, "")).1 (strL.getD 27 ("", 0, "")).2.1 (strL.getD 27 ("", 0, "")).2.2 ∈ lw_tbl := List.mem_append_right _ (tb4 (List.mem_of_getElem? (i := 172) (by decide +kernel)))
theorem sr_28 : Cond.stringRef (strL.getD 28 ("", 0, "")).1 (strL.getD 28 ("", 0, "")).2.1 (strL.getD 28 ("", 0, "")).2.2 ∈ lw_tbl := List.mem_append_right _ (tb4 (List.mem_of_getElem? (i := 215) (by decide +kernel)))
theorem sr_29 : Cond.stringRef (strL.getD 29 ("", 0, "")).1 (strL.getD 29 ("", 0, "")).2.1 (strL.getD 29 ("", 0, "")).2.2 ∈ lw_tbl := List.mem_append_right _ (tb4 (List.mem_of_getElem? (i := 230) (by decide +kernel)))
theorem sr_30 : Cond.stringRef (strL.getD 30 ("", 0, "")).1 (strL.getD 30 ("", 0, "")).2.1 (strL.getD 30 ("", 0, "")).2.2 ∈ lw_tbl := List.mem_append_right _ (tb4 (List.mem_of_getElem? (i := 231) (by decide +kernel)))
theorem sr_31 : Cond.stringRef (strL.getD 31 ("", 0, "")).1 (strL.getD 31 ("", 0, "")).2.1 (strL.getD 31 ("", 0, "")).2.2 ∈ lw_tbl := List.mem_append_right _ (tb5 (List.mem_of_getElem? (i := 2) (by decide +kernel)))
theorem sr_32 : Cond.stringRef (strL.getD 32 ("", 0, "")).1 (strL.getD 32 ("", 0, "")).2.1 (strL.getD 32 ("", 0, "")).2.2 ∈ lw_tbl := List.mem_append_right _ (tb5 (List.mem_of_getElem? (i := 15) (by decide +kernel)))
theorem sr_33 : Cond.stringRef (strL.getD 33 ("", 0, "")).1 (strL.getD 33 ("", 0, "")).2.1 (strL.getD 33 ("", 0, "")).2.2 ∈ lw_tbl := List.mem_append_right _ (tb5 (List.mem_of_getElem? (i := 24) (by decide +kernel)))
theorem sr_34 : Cond.stringRef (strL.getD 34 ("", 0, "")).1 (strL.getD 34 ("", 0, "")).2.1 (strL.getD 34 ("", 0, "")).2.2 ∈ lw_tbl := List.mem_append_right _ (tb5 (List.mem_of_getElem? (i := 55) (by decide +kernel)))
theorem sr_35 : Cond.stringRef (strL.getD 35 ("", 0, "")).1 (strL.getD 35 ("", 0, "")).2.1 (strL.getD 35 ("", 0, "")).2.2 ∈ lw_tbl := List.mem_append_right _ (tb5 (List.mem_of_getElem? (i := 78) (by decide +kernel)))
theorem sr_36 : Cond.stringRef (strL.getD 36 ("", 0, "")).1 (strL.getD 36 ("", 0, "")).2.1 (strL.getD 36 ("", 0, "")).2.2 ∈ lw_tbl := List.mem_append_right _ (tb5 (List.mem_of_getElem? (i := 86) (by decide +kernel)))
theorem sr_37 : Cond.stringRef (strL.getD 37 ("", 0, "")).1 (strL.getD 37 ("", 0, "")).2.1 (strL.getD 37 ("", 0, "")).2.2 ∈ lw_tbl := List.mem_append_right _ (tb5 (List.mem_of_getElem? (i := 107) (by decide +kernel)))
theorem sr_38 : Cond.stringRef (strL.getD 38 ("", 0, "")).1 (strL.getD 38 ("", 0, "")).2.1 (strL.getD 38 ("", 0, "")).2.2 ∈ lw_tbl := List.mem_append_right _ (tb5 (List.mem_of_getElem? (i := 153) (by decide +kernel)))
theorem sr_39 : Cond.stringRef (strL.getD 39 ("", 0, "")).1 (strL.getD 39 ("", 0, "")).2.1 (strL.getD 39 ("", 0, "")).2.2 ∈ lw_tbl := List.mem_append_right _ (tb5 (List.mem_of_getElem? (i := 172) (by decide +kernel)))
theorem sr_40 : Cond.stringRef (strL.getD 40 ("", 0, "")).1 (strL.getD 40 ("", 0, "")).2.1 (strL.getD 40 ("", 0, "")).2.2 ∈ lw_tbl := List.mem_append_right _ (tb5 (List.mem_of_getElem? (i := 183) (by decide +kernel)))
theorem sr_41 : Cond.stringRef (strL.getD 41 ("", 0, "")).1 (strL.getD 41 ("", 0, "")).2.1 (strL.getD 41 ("", 0, "")).2.2 ∈ lw_tbl := List.mem_append_right _ (tb5 (List.mem_of_getElem? (i := 191) (by decide +kernel)))
theorem sr_42 : Cond.stringRef (strL.getD 42 ("", 0, "")).1 (strL.getD 42 ("", 0, "")).2.1 (strL.getD 42 ("", 0, "")).2.2 ∈ lw_tbl := List.mem_append_right _ (tb5 (List.mem_of_getElem? (i := 222) (by decide +kernel)))
theorem sr_43 : Cond.stringRef (strL.getD 43 ("", 0, "")).1 (strL.getD 43 ("", 0, "")).2.1 (strL.getD 43 ("", 0, "")).2.2 ∈ lw_tbl := List.mem_append_right _ (tb6 (List.mem_of_getElem? (i := 106) (by decide +kernel)))
theorem sr_44 : Cond.stringRef (strL.getD 44 ("", 0, "")).1 (strL.getD 44 ("", 0, "")).2.1 (strL.getD 44 ("", 0, "")).2.2 ∈ lw_tbl := List.mem_append_right _ (tb6 (List.mem_of_getElem? (i := 229) (by decide +kernel)))
theorem sr_45 : Cond.stringRef (strL.getD 45 ("", 0, "")).1 (strL.getD 45 ("", 0, "")).2.1 (strL.getD 45 ("", 0, "")).2.2 ∈ lw_tbl := List.mem_append_right _ (tb6 (List.mem_of_getElem? (i := 236) (by decide +kernel)))
theorem sr_46 : Cond.stringRef (strL.getD 46 ("", 0, "")).1 (strL.getD 46 ("", 0, "")).2.1 (strL.getD 46 ("", 0, "")).2.2 ∈ lw_tbl := List.mem_append_right _ (tb7 (List.mem_of_getElem? (i := 5) (by decide +kernel)))
theorem sr_47 : Cond.stringRef (strL.getD 47 ("", 0, "")).1 (strL.getD 47 ("", 0, "")).2.1 (strL.getD 47 ("", 0, "")).2.2 ∈ lw_tbl := List.mem_append_right _ (tb7 (List.mem_of_getElem? (i := 18) (by decide +kernel)))
theorem sr_48 : Cond.stringRef (strL.getD 48 ("", 0, "")).1 (strL.getD 48 ("", 0, "")).2.1 (strL.getD 48 ("", 0, "")).2.2 ∈ lw_tbl := List.mem_append_right _ (tb7 (List.mem_of_getElem? (i := 27) (by decide +kernel)))
theorem sr_49 : Cond.stringRef (strL.getD 49 ("", 0, "")).1 (strL.getD 49 ("", 0, "")).2.1 (strL.getD 49 ("", 0, "")).2.2 ∈ lw_tbl := List.mem_append_right _ (tb7 (List.mem_of_getElem? (i := 28) (by decide +kernel)))
theorem sr_50 : Cond.stringRef (strL.getD 50 ("", 0, "")).1 (strL.getD 50 ("", 0, "")).2.1 (strL.getD 50 ("", 0, "")).2.2 ∈ lw_tbl := List.mem_append_right _ (tb7 (List.mem_of_getElem? (i := 37) (by decide +kernel)))
theorem sr_51 : Cond.stringRef (strL.getD 51 ("", 0, "")).1 (strL.getD 51 ("", 0, "")).2.1 (strL.getD 51 ("", 0, "")).2.2 ∈ lw_tbl := List.mem_append_right _ (tb7 (List.mem_of_getElem? (i := 38) (by decide +kernel)))
theorem sr_52 : Cond.stringRef (strL.getD 52 ("", 0, "")).1 (strL.getD 52 ("", 0, "")).2.1 (strL.getD 52 ("", 0, "")).2.2 ∈ lw_tbl := List.mem_append_right _ (tb7 (List.mem_of_getElem? (i := 39) (by decide +kernel)))
theorem sr_53 : Cond.stringRef (strL.getD 53 ("", 0, "")).1 (strL.getD 53 ("", 0, "")).2.1 (strL.getD 53 ("", 0, "")).2.2 ∈ lw_tbl := List.mem_append_right _ (tb7 (List.mem_of_getElem? (i := 40) (by decide +kernel)))
theorem sr_54 : Cond.stringRef (strL.getD 54 ("", 0, "")).1 (strL.getD 54 ("", 0, "")).2.1 (strL.getD 54 ("", 0, "")).2.2 ∈ lw_tbl := List.mem_append_right _ (tb7 (List.mem_of_getElem? (i := 41) (by decide +kernel)))
theorem sr_55 : Cond.stringRef (strL.getD 55 ("", 0, "")).1 (strL.getD 55 ("", 0, "")).2.1 (strL.getD 55 ("", 0, "")).2.2 ∈ lw_tbl := List.mem_append_right _ (tb7 (List.mem_of_getElem? (i := 42) (by decide +kernel)))
theorem sr_56 : Cond.stringRef (strL.getD 56 ("", 0, "")).1 (strL.getD 56 ("", 0, "")).2.1 (strL.getD 56 ("", 0, "")).2.2 ∈ lw_tbl := List.mem_append_right _ (tb7 (List.mem_of_getElem? (i := 43) (by decide +kernel)))
theorem sr_57 : Cond.stringRef (strL.getD 57 ("", 0, "")).1 (strL.getD 57 ("", 0, "")).2.1 (strL.getD 57 ("", 0, "")).2.2 ∈ lw_tbl := List.mem_append_right _ (tb7 (List.mem_of_getElem? (i := 44) (by decide +kernel)))
theorem sr_58 : Cond.stringRef (strL.getD 58 ("", 0, "")).1 (strL.getD 58 ("", 0, "")).2.1 (strL.getD 58 ("", 0, "")).2.2 ∈ lw_tbl := List.mem_append_right _ (tb7 (List.mem_of_getElem? (i := 45) (by decide +kernel)))
theorem sr_59 : Cond.stringRef (strL.getD 59 ("", 0, "")).1 (strL.getD 59 ("", 0, "")).2.1 (strL.getD 59 ("", 0, "")).2.2 ∈ lw_tbl := List.mem_append_right _ (tb7 (List.mem_of_getElem? (i := 58) (by decide +kernel)))
theorem sr_60 : Cond.stringRef (strL.getD 60 ("", 0, "")).1 (strL.getD 60 ("", 0, "")).2.1 (strL.getD 60 ("", 0, "")).2.2 ∈ lw_tbl := List.mem_append_right _ (tb7 (List.mem_of_getElem? (i := 63) (by decide +kernel)))
theorem sr_61 : Cond.stringRef (strL.getD 61 ("", 0, "")).1 (strL.getD 61 ("", 0, "")).2.1 (strL.getD 61 ("", 0, "")).2.2 ∈ lw_tbl := List.mem_append_right _ (tb7 (List.mem_of_getElem? (i := 68) (by decide +kernel)))
theorem sr_62 : Cond.stringRef (strL.getD 62 ("", 0, "")).1 (strL.getD 62 ("", 0, "")).2.1 (strL.getD 62 ("", 0, "")).2.2 ∈ lw_tbl := List.mem_append_right _ (tb7 (List.mem_of_getElem? (i := 73) (by decide +kernel)))
theorem sr_63 : Cond.stringRef (strL.getD 63 ("", 0, "")).1 (strL.getD 63 ("", 0, "")).2.1 (strL.getD 63 ("", 0, "")).2.2 ∈ lw_tbl := List.mem_append_right _ (tb7 (List.mem_of_getElem? (i := 74) (by decide +kernel)))
theorem sr_64 : Cond.stringRef (strL.getD 64 ("", 0, "")).1 (strL.getD 64 ("", 0, "")).2.1 (strL.getD 64 ("", 0, "")).2.2 ∈ lw_tbl := List.mem_append_right _ (tb7 (List.mem_of_getElem? (i := 75) (by decide +kernel)))
theorem sr_65 : Cond.stringRef (strL.getD 65 ("", 0, "")).1 (strL.getD 65 ("", 0, "")).2.1 (strL.getD 65 ("", 0, "")).2.2 ∈ lw_tbl := List.mem_append_right _ (tb7 (List.mem_of_getElem? (i := 76) (by decide +kernel)))
theorem sr_66 : Cond.stringRef (strL.getD 66 ("", 0, "")).1 (strL.getD 66 ("", 0, "")).2.1 (strL.getD 66 ("", 0, "")).2.2 ∈ lw_tbl := List.mem_append_right _ (tb7 (List.mem_of_getElem? (i := 77) (by decide +kernel)))
theorem sr_67 : Cond.stringRef (strL.getD 67 ("", 0, "")).1 (strL.getD 67 ("", 0, "")).2.1 (strL.getD 67 ("", 0, "")).2.2 ∈ lw_tbl := List.mem_append_right _ (tb7 (List.mem_of_getElem? (i := 78) (by decide +kernel)))
theorem sr_all : ∀ i, i < 68 → Cond.stringRef (strL.getD i ("", 0, "")).1 (strL.getD i ("", 0, "")).2.1 (strL.getD i ("", 0, "")).2.2 ∈ lw_tbl := fun i hi => by
  rcases (show i = 0 ∨ i = 1 ∨ i = 2 ∨ i = 3 ∨ i = 4 ∨ i = 5 ∨ i = 6 ∨ i = 7 ∨ i = 8 ∨ i = 9 ∨ i = 10 ∨ i = 11 ∨ i = 12 ∨ i = 13 ∨ i = 14 ∨ i = 15 ∨ i = 16 ∨ i = 17 ∨ i = 18 ∨ i = 19 ∨ i = 20 ∨ i = 21 ∨ i = 22 ∨ i = 23 ∨ i = 24 ∨ i = 25 ∨ i = 26 ∨ i = 27 ∨ i = 28 ∨ i = 29 ∨ i = 30 ∨ i = 31 ∨ i = 32 ∨ i = 33 ∨ i = 34 ∨ i = 35 ∨ i = 36 ∨ i = 37 ∨ i = 38 ∨ i = 39 ∨ i = 40 ∨ i = 41 ∨ i = 42 ∨ i = 43 ∨ i = 44 ∨ i = 45 ∨ i = 46 ∨ i = 47 ∨ i = 48 ∨ i = 49 ∨ i = 50 ∨ i = 51 ∨ i = 52 ∨ i = 53 ∨ i = 54 ∨ i = 55 ∨ i = 56 ∨ i = 57 ∨ i = 58 ∨ i = 59 ∨ i = 60 ∨ i = 61 ∨ i = 62 ∨ i = 63 ∨ i = 64 ∨ i = 65 ∨ i = 66 ∨ i = 67 by omega) with rfl | rfl | rfl | rfl | rfl | rfl | rfl | rfl | rfl | rfl | rfl | rfl | rfl | rfl | rfl | rfl | rfl | rfl | rfl | rfl | rfl | rfl | rfl | rfl | rfl | rfl | rfl | rfl | rfl | rfl | rfl | rfl | rfl | rfl | rfl | rfl | rfl | rfl | rfl | rfl | rfl | rfl | rfl | rfl | rfl | rfl | rfl | rfl | rfl | rfl | rfl | rfl | rfl | rfl | rfl | rfl | rfl | rfl | rfl | rfl | rfl | rfl | rfl | rfl | rfl | rfl | rfl | rfl
  · exact sr_0
  · exact sr_1
  · exact sr_2
  · exact sr_3
  · exact sr_4
  · exact sr_5
  · exact sr_6
  · exact sr_7
  · exact sr_8
  · exact sr_9
  · exact sr_10
  · exact sr_11
  · exact sr_12
  · exact sr_13
  · exact sr_14
  · exact sr_15
  · exact sr_16
  · exact sr_17
  · exact sr_18
  · exact sr_19
  · exact sr_20
  · exact sr_21
  · exact sr_22
  · exact sr_23
  · exact sr_24
  · exact sr_25
  · exact sr_26
  · exact sr_27
  · exact sr_28
  · exact sr_29
  · exact sr_30
  · exact sr_31
  · exact sr_32
  · exact sr_33
  · exact sr_34
  · exact sr_35
  · exact sr_36
  · exact sr_37
  · exact sr_38
  · exact sr_39
  · exact sr_40
  · exact sr_41
  · exact sr_42
  · exact sr_43
  · exact sr_44
  · exact sr_45
  · exact sr_46
  · exact sr_47
  · exact sr_48
  · exact sr_49
  · exact sr_50
  · exact sr_51
  · exact sr_52
  · exact sr_53
  · exact sr_54
  · exact sr_55
  · exact sr_56
  · exact sr_57
  · exact sr_58
  · exact sr_59
  · exact sr_60
  · exact sr_61
  · exact sr_62
  · exact sr_63
  · exact sr_64
  · exact sr_65
  · exact sr_66
  · exact sr_67
theorem str_ex {s : State} {b : Nat} (hgv : (Jvm.Cond.and given_1 narrow_1).before #[Value.ref b] s = true) {A : Nat → Prop} (hA : ∀ a : Nat, a < s.heap.size → ¬ A a) (i : Nat) : ∃ q : Nat × Nat, i < 68 → (tS i).eval #[Value.ref b] s none [] s = some (.ref q.1) ∧ va_O "java/lang/String" q.1 A s s.heap ∧ va_OF "java/lang/String" "coder" "B" (.int 0) q.1 A s s.heap ∧ va_OF "java/lang/String" "value" "[B" (.ref q.2) q.1 A s s.heap ∧ va_T .byte q.2 (strB.getD i []).length (fun j => .int ((strB.getD i []).getD j 0)) A s s.heap := by
  by_cases hi : i < 68
  · have hs := flat_of_before _ hgv
    have hw : ∀ {k : Nat} {c : Cond}, FLT[k]? = some c → c.before #[Value.ref b] s = true := fun h => hs _ (List.mem_of_getElem? h)
    obtain ⟨n1, n2, n3, n4⟩ := nar_1 i hi
    have n5 := nar_2 i hi
    have hl := str_len i hi
    have z : ∀ {k : Nat}, k < 1 → k = 0 := fun h => by omega
    obtain ⟨adK, adV, ⟨h1, -⟩, h2⟩ := vk_Sof (args := #[Value.ref b]) (s := s) (N := 1) (tm := fun _ => tS i) (len := [(strB.getD i []).length]) (byt := [strB.getD i []]) (A := A)
      (fun k hk => by rw [z hk]; show (strB.getD i []).length < 2 ^ 31; omega) (fun k hk => hw n1) (fun k hk => hw n2) (fun k hk => hw n3) (fun k hk => by rw [z hk]; exact hw n4) (fun k hk j hj => by rw [z hk] at hj ⊢; exact hw (n5 j hj)) (fun k k' hk hk' hn => absurd ((z hk).trans (z hk').symm) hn) hA
    exact ⟨(adK 0, adV 0), fun _ => ⟨h2 0 (by decide), h1 0 (by decide)⟩⟩
  · exact ⟨(0, 0), fun h => absurd h hi⟩
theorem classes_ex {s : State} {b : Nat} (hbig : ∀ w ∈ BIG, w.before #[Value.ref b] s = true) : ∃ (dC : Nat → ClassId) (dI : Nat → Nat → Nat), ∀ (c : Nat) (q : vw_C), vwCl[c]? = some q → u_Kn s q.1 q.2.1 q.2.2 (dC c) (dI c) := by
  obtain ⟨c0, i0, h0⟩ := u_known (C := RX0) (T := TX0) (N := 3) (n := 3) hbig inX0 (hbig _ kw166)
  obtain ⟨c1, i1, h1⟩ := u_known (C := RX1) (T := TX1) (N := 6) (n := 6) hbig inX1 (hbig _ kw135)
  obtain ⟨c2, i2, h2⟩ := u_known (C := RX2) (T := TX2) (N := 17) (n := 17) hbig inX2 (hbig _ kw129)
  obtain ⟨c3, i3, h3⟩ := u_known (C := RX3) (T := TX3) (N := 1) (n := 1) hbig inX3 (hbig _ kw80)
  obtain ⟨c4, i4, h4⟩ := u_known (C := RX4) (T := TX4) (N := 5) (n := 5) hbig inX4 (hbig _ kw96)
  obtain ⟨c5, i5, h5⟩ := u_known (C := RX5) (T := TX5) (N := 2) (n := 2) hbig inX5 (hbig _ kw90)
  obtain ⟨c6, i6, h6⟩ := u_known (C := RX6) (T := TX6) (N := 3) (n := 3) hbig inX6 (hbig _ kw257)
  obtain ⟨c7, i7, h7⟩ := u_known (C := RX7) (T := TX7) (N := 2) (n := 2) hbig inX7 (hbig _ kw36)
  obtain ⟨c8, i8, h8⟩ := u_known (C := RX8) (T := TX8) (N := 6) (n := 6) hbig inX8 (hbig _ kw52)
  obtain ⟨c9, i9, h9⟩ := u_known (C := RX9) (T := TX9) (N := 11) (n := 11) hbig inX9 (hbig _ kw28)
  obtain ⟨c10, i10, h10⟩ := u_known (C := RX10) (T := TX10) (N := 22) (n := 22) hbig inX10 (hbig _ kw1309)
  refine ⟨fun k => match k with | 0 => c0 | 1 => c1 | 2 => c2 | 3 => c3 | 4 => c4 | 5 => c5 | 6 => c6 | 7 => c7 | 8 => c8 | 9 => c9 | _ => c10, fun k => match k with | 0 => i0 | 1 => i1 | 2 => i2 | 3 => i3 | 4 => i4 | 5 => i5 | 6 => i6 | 7 => i7 | 8 => i8 | 9 => i9 | _ => i10, fun c q hq => ?_⟩
  match c, hq with
  | 0, hq => cases hq; exact h0
  | 1, hq => cases hq; exact h1
  | 2, hq => cases hq; exact h2
  | 3, hq => cases hq; exact h3
  | 4, hq => cases hq; exact h4
  | 5, hq => cases hq; exact h5
  | 6, hq => cases hq; exact h6
  | 7, hq => cases hq; exact h7
  | 8, hq => cases hq; exact h8
  | 9, hq => cases hq; exact h9
  | 10, hq => cases hq; exact h10
  | c + 11, hq => simp [vwCl] at hq
theorem arr_of {s : State} {b : Nat} {ty : FieldType} (h : (Cond.arrayClass ty).before #[Value.ref b] s = true) : ∃ c : ClassId, ArrOfT s c ty ∧ s.vm.findClass ("[" ++ ty.toString) = some c := by
  obtain ⟨c, k, comp, h1, h2, h3⟩ := Cond.arrayClass_spec h
  exact ⟨c, fun n z => ⟨fun k h => (by cases h), k, h2, comp, h3⟩, h1⟩
theorem arrays_ex {s : State} {b : Nat} (hbig : ∀ w ∈ BIG, w.before #[Value.ref b] s = true) (hh : (Cond.arrayOver (.object "SaturdayKeep$House")).before #[Value.ref b] s = true) : ∃ cA : Nat → ClassId, ∀ (k : Nat) (q : ClassId × FieldType), [(cA 0, FieldType.int), (cA 1, .boolean), (cA 2, .long), (cA 3, .object "SaturdayKeep$House")][k]? = some q → ArrOfT s q.1 q.2 ∧ va_RA s q.1 q.2 := by
  obtain ⟨c0, a0, b0⟩ := arr_of (hbig _ kw50)
  obtain ⟨c1, a1, b1⟩ := arr_of (hbig _ kw1381)
  obtain ⟨c2, a2, b2⟩ := arr_of (hbig _ kw1894)
  obtain ⟨comp, c3, k3, g1, g2, g3, g4, g5⟩ := Cond.arrayOver_spec hh
  refine ⟨fun k => match k with | 0 => c0 | 1 => c1 | 2 => c2 | _ => c3, fun k q hq => ?_⟩
  match k, hq with
  | 0, hq => cases hq; exact ⟨a0, b0⟩
  | 1, hq => cases hq; exact ⟨a1, b1⟩
  | 2, hq => cases hq; exact ⟨a2, b2⟩
  | 3, hq => cases hq; exact ⟨fun n z => ⟨fun k h => (by cases h), k3, g3, comp, g4⟩, k3, comp, g3, g4, g1, g5⟩
  | k + 4, hq => simp at hq
theorem dL_law__2971 : decode cL_law_ 2971 = .ok (.iconst 1, 1) := by decide +kernel
theorem dL_law__2972 : decode cL_law_ 2972 = .ok (.ireturn, 1) := by decide +kernel
-- begun from kit/laws/SKELETON.whole.lean.txt
/-! THE CLAIM OUT OF ONE WALK OF THE LAW'S BODY. Your part is whole_start (and what it stands on); all else here is the same for every law, but numbers. -/
def R_law : String := "SaturdayKeepLaw"
def lw_P (b : Addr) (xs : List Int32) (args : Array Value) (s : State) : Prop := args = #[.ref b] ∧ s.IntsAt b xs ∧ xs.length ≤ 3072 ∧ (Jvm.Cond.and given_1 narrow_1).before args s = true
def lw_Q (_ : Array Value) (s : State) (o : Outcome) (t : State) : Prop := o = .returned (some (.int 1)) ∧ Framed s o t [] 601024 7293034
def lw_Z (below : List Frame) (a : Array Value) (s : State) : State → Prop := fun t => ∃ o, t.status = .running ∧ Ended t below o ∧ lw_Q a s o t
/-- the law's own end, with 1 on the stack, nothing written that was there before, its room as the claim has it -/
theorem lw_ret {p : Program} {l : Launch} {e : Env} {s : State} {m : MethodId} {below : List Frame} {meth : Method} {c : Code} {b : Nat} (hx : p.tables.exec = Jvm.exec) (hb : c.code = code) (hr : meth.sig.returnType = ret) (hlocks : meth.locks = false) {pc : Nat} {H : Heap} {ls : Array Slot} (hdg : decode code pc = .ok (.ireturn, 1)) : W p l e room_1 s m #[Value.ref b] below meth c H [] 601024 7293034 (lw_Z below #[Value.ref b] s) (F0 m pc ls [.int 1]) := by
  intro T hT X
  obtain ⟨fs, hret, hrun, hended, hW, hframe⟩ := X.leave (v := some (.int 1)) (hlocks := hlocks) (fun h => by rw [hr] at h; cases h)
  have hmeth' : T.vm.method? m = some meth := X.method'
  refine ⟨T.setFrames fs, ?_, .returned (some (.int 1)), hrun, hended, rfl, ⟨_, rfl⟩, hW, hframe⟩
  jvm_step X.here [X.here.top, hx, hb, hdg, hmeth', hr, ret, narrow_b1]
  (try refine ⟨rfl, ?_⟩); (try refine ⟨rfl, ?_⟩)
  first | (intro acts; rw [hret _ acts rfl rfl rfl]) | rw [hret _ _ rfl rfl rfl]
  exact Steps.refl _
/-- what holds at the law's entry: the machine, the code, the tables' words (any of lw_tbl by 'hts w (by decide +kernel)'), the script of L ints xs at the cell b, what the Statement gives of the start (any of its parts by flat_of_before) -/
def lw_At (p : Program) (s : State) (m : MethodId) (meth : Method) (c : Code) (b L : Nat) (xs : Nat → Int32) : Prop :=
  p.tables.exec = Jvm.exec ∧ c.code = code ∧ meth.sig.returnType = ret ∧ c.maxLocals = 7 ∧ s.vm.findClass R_law = some m.cls ∧ (∀ w ∈ lw_tbl, w.before #[Value.ref b] s = true) ∧ va_X b L xs s s.heap ∧ b < s.heap.size ∧ meth.locks = false ∧ (Jvm.Cond.and given_1 narrow_1).before #[Value.ref b] s = true
set_option maxHeartbeats 4000000 in
set_option maxRecDepth 100000 in
theorem whole_start {p : Program} {e : Env} {s : State} {m : MethodId} {below : List Frame} {meth : Method} {c : Code} (l : Launch) (hflags : l.flags = flags0) {b L : Nat} {xs : Nat → Int32} (hL : L ≤ 3072) (C0 : lw_At p s m meth c b L xs) : W p l e room_1 s m #[Value.ref b] below meth c s.heap [] 0 0 (lw_Z below #[Value.ref b] s) (entryFrame m ([Value.ref b] : List Value).toArray 7) := by
  obtain ⟨hx, hb, hr, hml, hown, hts, hX, hbl, hlocks, hgv⟩ := id C0
  have hA : ∀ a : Nat, a < s.heap.size → ¬ s.heap.size ≤ a := fun a h => Nat.not_le.mpr h
  have hbig : ∀ w ∈ BIG, w.before #[Value.ref b] s = true := fun w hw => hts w (big_in hw)
  have hs := flat_of_before _ hgv
  have hw : ∀ {k : Nat} {c : Cond}, FLT[k]? = some c → c.before #[Value.ref b] s = true := fun h => hs _ (List.mem_of_getElem? h)
  obtain ⟨dC, dI, hKc⟩ := classes_ex hbig
  obtain ⟨cA, hKa⟩ := arrays_ex hbig (hts _ ltw_h)
  obtain ⟨ad, had⟩ := Classical.axiomOfChoice (fun i => str_ex hgv (A := fun q => s.heap.size ≤ q) hA i)
  have hK : va_K (dC, dI) vwCl [(cA 0, FieldType.int), (cA 1, .boolean), (cA 2, .long), (cA 3, .object "SaturdayKeep$House")] s := ⟨hKc, hKa⟩
  have hnw : ∀ w ∈ lw_tbl, isOth w = true → va_Nw w s := fun w h ho => va_Nw.of (oth_tab ho) (hts w h)
  have hl0 : l.stackTraces = false := by
    unfold Launch.stackTraces
    rw [hflags]
    decide
  have hSV : ∀ gad0 : Nat → Nat → Nat, SV (gad0, (dC, dI), cA, s.heap.size, s.heap, (fun i => (ad i).1), (fun i => (ad i).2)) s := fun gad0 => by
    refine ⟨hnw, fun i q hq => ?_, fun i t ht => ?_, va_Zof (hts _ ltw_c) (hts _ ltw_ci) (va_eqt (hw nar_c)) hA, va_Zqof (hts _ ltw_s) (hts _ ltw_si) (hw nar_s) hA, vx_Zqof (hts _ ltw_u) (hts _ ltw_ti) (hw nar_u) hA, vx_Zqof (hts _ ltw_p) (hts _ ltw_ti) (hw nar_p) hA, fun q hq => va_Nc.of (hs _ (nar_n q hq))⟩
    · have hi : i < 68 := (List.getElem?_eq_some_iff.mp hq).1
      have he : q = strL.getD i ("", 0, "") := by rw [List.getD_eq_getElem?_getD, hq] <;> rfl
      rw [he]
      exact vk_R.of (A := #[Value.ref b]) (hts _ (sr_all i hi)) (had i hi).1
    · have hi : i < 68 := (List.getElem?_eq_some_iff.mp ht).1
      have he : t = strB.getD i [] := by rw [List.getD_eq_getElem?_getD, ht] <;> rfl
      rw [he]
      exact (had i hi).2
  have hCB : CB ((fun _ _ => 0), (dC, dI), cA, s.heap.size, s.heap, (fun i => (ad i).1), (fun i => (ad i).2)) (p, l, e, room_1, s, m, #[Value.ref b], below, meth, c) "SaturdayKeepLaw" cL_law_ 7 62 := ⟨hx, hb, hml, hown, hbig, hlocks, hK, Nat.le_refl _, hnw, va_AO.of (A := #[Value.ref b]) (hts _ ltw_h), Nat.le_of_ble_eq_true rfl, Nat.le_of_ble_eq_true rfl⟩
  have go : BJ ((fun _ _ => 0), (dC, dI), cA, s.heap.size, s.heap, (fun i => (ad i).1), (fun i => (ad i).2)) (p, l, e, room_1, s, m, #[Value.ref b], below, meth, c) (lw_Z below #[Value.ref b] s) 0 0 7 [] [] 0 [some (Value.ref b), none, none, none, none, none, none] [] := by
    refine law_start (G := ((fun _ _ => 0), (dC, dI), cA, s.heap.size, s.heap, (fun i => (ad i).1), (fun i => (ad i).2))) (C := (p, l, e, room_1, s, m, #[Value.ref b], below, meth, c)) (Q := lw_Z below #[Value.ref b] s) (b := b) (Nat.le_of_ble_eq_true rfl) (Nat.le_of_ble_eq_true rfl) hCB (fun h0 q0 c2 q2 e4 f4 g4 q4 q5 u7 p7 k7 q7 a9 q9 a11 q11 a13 q13 b15 z15 y15 q15 md m0 m1 m2 m3 m4 m5 m6 m7 m8 oo => ?_)
    intro H locs ls hP hD hS hLv
    obtain ⟨hP', hG⟩ := world_ok (G := ((fun _ _ => 0), (dC, dI), cA, s.heap.size, s.heap, (fun i => (ad i).1), (fun i => (ad i).2))) h0 q0 c2 q2 e4 f4 g4 q4 q5 u7 p7 k7 q7 a9 q9 a11 q11 a13 q13 b15 z15 y15 q15 md m0 m1 m2 m3 m4 m5 m6 m7 m8 oo hP hD
    have hCO : CO (gadOf h0 q0 c2 q2 e4 f4 g4 q4 q5 u7 p7 k7 q7 a9 q9 a11 q11 a13 q13 b15 z15 y15 q15 md m0 m1 m2 m3 m4 m5 m6 m7 m8 oo, (dC, dI), cA, s.heap.size, s.heap, (fun i => (ad i).1), (fun i => (ad i).2)) (p, l, e, room_1, s, m, #[Value.ref b], below, meth, c) "SaturdayKeepLaw" cL_law_ 7 62 0 0 (some .boolean) := ⟨hx, hb, hml, hown, hbig, hlocks, hK, ⟨hG, Nat.le_refl _, fun q _ => rfl, hSV _⟩, ⟨Nat.le_of_ble_eq_true rfl, Nat.le_of_ble_eq_true rfl, Nat.zero_le _, Nat.zero_le _⟩, hr⟩
    have hE : ∀ (kc ks : Nat) (i : Int32) (μ : Mem), kc ≤ (cR (p, l, e, room_1, s, m, #[Value.ref b], below, meth, c)).cells → ks ≤ (cR (p, l, e, room_1, s, m, #[Value.ref b], below, meth, c)).slots → AW (gadOf h0 q0 c2 q2 e4 f4 g4 q4 q5 u7 p7 k7 q7 a9 q9 a11 q11 a13 q13 b15 z15 y15 q15 md m0 m1 m2 m3 m4 m5 m6 m7 m8 oo, (dC, dI), cA, s.heap.size, s.heap, (fun i => (ad i).1), (fun i => (ad i).2)) (p, l, e, room_1, s, m, #[Value.ref b], below, meth, c) (fun (_ : Unit) => lw_Z below #[Value.ref b] s) kc ks 7 μ 2971 [some (.ref b), some (.ref h0), some (.ref md), some (.ref oo), some (.int i), none, none] [] (some ()) := fun kc ks i μ h1 h2 => by
      refine aw_iconst (pc := 2971) (v := 1) (hCO.to h1 h2) dL_law__2971 ic1 ?_
      intro x _ H locs ls hP hS hLv
      exact va_forget hS.2.2 (W.widen h1 h2 (lw_ret hx hb hr hlocks dL_law__2972))
    have hloop := hlloop (G := (gadOf h0 q0 c2 q2 e4 f4 g4 q4 q5 u7 p7 k7 q7 a9 q9 a11 q11 a13 q13 b15 z15 y15 q15 md m0 m1 m2 m3 m4 m5 m6 m7 m8 oo, (dC, dI), cA, s.heap.size, s.heap, (fun i => (ad i).1), (fun i => (ad i).2))) (C := (p, l, e, room_1, s, m, #[Value.ref b], below, meth, c)) (Q := fun _ => lw_Z below #[Value.ref b] s) (b := b) (n := L) (xs := xs) hl0 hCO ⟨hX, hbl, hA b hbl⟩ hE 513 206 21647 (Int32.ofNat (6 * 0)) mu0 (Nat.le_of_ble_eq_true rfl) (Nat.le_of_ble_eq_true rfl)
    exact hloop () (lloop_ok hL 512 0 513 rfl (by decide) mu0 rel0) H locs ls hP' hS hLv
  have hlv := lv_entry ([Value.ref b]) (n := 7) (Nat.le_of_ble_eq_true rfl)
  rw [lg_entry_eq]
  rw [show lv_args 0 [Value.ref b] = asc 0 [some (.ref b), none, none, none, none, none, none] from rfl] at hlv
  exact go s.heap [] _ (fun k q h => by simp at h) ⟨fun i j p q h => by simp at h, fun k q h => by simp at h⟩ va_S.rf hlv
