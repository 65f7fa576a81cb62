/-! ===== texts that are constants: length and charAt ===== -/
theorem strB_at : ∀ i, i < 68 → strB[i]? = some (strB.getD i []) := by decide +kernel
section TXT
variable {τ : Type} {G : GG} {C : CX} {own : String} {cc : ByteArray} {nL lvl kc ks : Nat} {ret : Option FieldType} {Q : τ → State → Prop} {μ : Mem} {pc : Nat} {L : List (Option Value)} {st rest : List Value} {E : Option τ} {y : MethodName} {bytes : ByteArray} {maxL index n lv : Nat} {rt : Option FieldType} {As : List Value}
theorem str_of (hC : CO G C own cc nL lvl kc ks ret) {i : Nat} (hi : i < 68) : STR G i (strB.getD i []) (cS C) (cS C).heap := hC.iv.2.2.2.2.2.1 i _ (strB_at i hi)
theorem aw_getSV {i : Nat} (hC : CO G C own cc nL lvl kc ks ret) (hi : i < 68) (hw : Cond.fieldLink own index "java/lang/String" "value" "[B" ∈ BIG) (hd : decode cc pc = .ok (.getfield index, 3)) (k : AW G C Q kc ks nL μ (pc + 3) L (.ref (gsV G i) :: st) E) : AW G C Q kc ks nL μ pc L (.ref (gsK G i) :: st) E := by
  intro x hx H locs ls hP hS hL
  exact vk_getf hC.x hC.b (str_of hC hi).2.2.1 hS hC.ow (hC.w hw) (fun _ h => h) hd (k x hx H locs ls hP hS hL)
theorem aw_getSC {i : Nat} (hC : CO G C own cc nL lvl kc ks ret) (hi : i < 68) (hw : Cond.fieldLink own index "java/lang/String" "coder" "B" ∈ BIG) (hd : decode cc pc = .ok (.getfield index, 3)) (k : AW G C Q kc ks nL μ (pc + 3) L (.int 0 :: st) E) : AW G C Q kc ks nL μ pc L (.ref (gsK G i) :: st) E := by
  intro x hx H locs ls hP hS hL
  exact vk_getf hC.x hC.b (str_of hC hi).2.1 hS hC.ow (hC.w hw) (fun _ h => h) hd (k x hx H locs ls hP hS hL)
theorem aw_slenS {i : Nat} (hC : CO G C own cc nL lvl kc ks ret) (hi : i < 68) (hd : decode cc pc = .ok (.arraylength, 1)) (k : AW G C Q kc ks nL μ (pc + 1) L (.int (Int32.ofNat (strB.getD i []).length) :: st) E) : AW G C Q kc ks nL μ pc L (.ref (gsV G i) :: st) E := by
  intro x hx H locs ls hP hS hL
  exact va_tlen hC.x hC.b (str_of hC hi).2.2.2 hS rfl hd (k x hx H locs ls hP hS hL)
theorem aw_sbal {i : Nat} {v : Int32} (hC : CO G C own cc nL lvl kc ks ret) (hi : i < 68) (hd : decode cc pc = .ok (.baload, 1)) (k : AW G C Q kc ks nL μ (pc + 1) L (.int ((strB.getD i []).getD v.toNatClampNeg 0) :: st) E) : AW G C Q kc ks nL μ pc L (.int v :: .ref (gsV G i) :: st) (ix v (strB.getD i []).length E) := by
  intro x hx H locs ls hP hS hL
  obtain ⟨hv, hx⟩ := ix_some hx
  exact va_tb hC.x hC.b (str_of hC hi).2.2.2 hS hv rfl hd (k x hx H locs ls hP hS hL)
theorem aw_getCS (hC : CO G C own cc nL lvl kc ks ret) (hw : Cond.fieldLink own index "java/lang/String" "COMPACT_STRINGS" "Z" ∈ BIG) (hd : decode cc pc = .ok (.getstatic index, 3)) (k : AW G C Q kc ks nL μ (pc + 3) L (.int 1 :: st) E) : AW G C Q kc ks nL μ pc L st E := by
  intro x hx H locs ls hP hS hL
  exact va_gets hC.x hC.b hC.iv.2.2.2.2.2.2.1 hS hC.ow (hC.w hw) (fun _ h => h) hd (k x hx H locs ls hP hS hL)
theorem aw_getSF (hC : CO G C own cc nL lvl kc ks ret) (hw : Cond.fieldLink own index "jdk/internal/util/Preconditions" "SIOOBE_FORMATTER" "Ljava/util/function/BiFunction;" ∈ BIG) (hd : decode cc pc = .ok (.getstatic index, 3)) (k : ∀ v : Value, (v = .null ∨ ∃ t, v = .ref t) → AW G C Q kc ks nL μ (pc + 3) L (v :: st) E) : AW G C Q kc ks nL μ pc L st E := by
  intro x hx H locs ls hP hS hL
  rcases hC.iv.2.2.2.2.2.2.2.1 with h | ⟨t, h⟩
  · exact va_gets hC.x hC.b h hS hC.ow (hC.w hw) (fun _ h => h) hd (k .null (Or.inl rfl) x hx H locs ls hP hS hL)
  · exact va_gets hC.x hC.b h hS hC.ow (hC.w hw) (fun _ h => h) hd (k (.ref t) (Or.inr ⟨t, rfl⟩) x hx H locs ls hP hS hL)
theorem aw_i2c {u : Int32} (hC : CO G C own cc nL lvl kc ks ret) (hd : decode cc pc = .ok (.i2c, 1)) (k : AW G C Q kc ks nL μ (pc + 1) L (.int (u.toUInt32 % 65536).toInt32 :: st) E) : AW G C Q kc ks nL μ pc L (.int u :: st) E := by
  intro x hx H locs ls hP hS hL
  exact lv_i2c hC.x hC.b hd rfl (k x hx H locs ls hP hS hL)
theorem aw_callTR {i : Nat} {E1 : Option Int32} {k : Int32 → Option τ} (hC : CO G C own cc nL lvl kc ks ret) (hB : MB y bytes maxL rt n) (hl : Cond.methodLink own index y ∈ BIG) (hlv : lv < lvl) (hM : CR G C.2.1 y (.code y bytes maxL rt) lv (.ref (gsK G i) :: As) μ E1) (hi : i < 68) (hn : As.length = n) (hy : y.cls = "java/lang/String") (hr8 : (rest.map fun v => v.category).sum ≤ 8) (hd : decode cc pc = .ok (.invokevirtual index, 3))
    (kk : ∀ q, AW G C Q kc ks nL μ (pc + 3) L (.int q :: rest) (k q)) : AW G C Q kc ks nL μ pc L (As.reverse ++ .ref (gsK G i) :: rest) (E1.bind k) := by
  intro x hx H locs ls hP hS hL
  cases hE : E1 with
  | none => rw [hE] at hx; cases hx
  | some q =>
    rw [hE] at hx
    have hrc : ∃ cell : Cell, H[gsK G i]? = some cell ∧ cell.vm.isStatics = false ∧ (cS C).vm.findClass y.cls = some cell.cls := by
      obtain ⟨cell, h1, h2, h3, -⟩ := (str_of hC hi).1.kept hS.2.1
      exact ⟨cell, h1, h2, by rw [hy]; exact h3⟩
    refine run_use (μ' := μ) (vl := [.int q]) (runV hC hB hl hlv (hM q hE) hP hS hrc hn hL.1 hr8 hd) hS (fun st v t h => ⟨by rw [Outcome.returned.inj h.1]; rfl, h.2.1, h.2.2⟩) (fun H1 locs1 hP1 hS1 => ?_)
    exact kk q x hx H1 locs1 ls hP1 hS1 hL
theorem aw_callSVe {E1 : Option Mem} {k : Mem → Option τ} (hC : CO G C own cc nL lvl kc ks ret) (hB : MS y bytes maxL rt n) (hl : Cond.methodLink own index y ∈ BIG) (hlv : lv < lvl) (hM : CV G C.2.1 y (.code y bytes maxL rt) lv As μ E1) (hn : As.length = n) (hr8 : (rest.map fun v => v.category).sum ≤ 8) (hd : decode cc pc = .ok (.invokestatic index, 3))
    (kk : ∀ q, E1 = some q → AW G C Q kc ks nL q (pc + 3) L rest (k q)) : AW G C Q kc ks nL μ pc L (As.reverse ++ rest) (E1.bind k) := by
  intro x hx H locs ls hP hS hL
  cases hE : E1 with
  | none => rw [hE] at hx; cases hx
  | some q =>
    rw [hE] at hx
    refine run_use (μ' := q) (vl := []) (runS hC hB hl hlv (hM q hE) hP hS hn hL.1 hr8 hd) hS (fun st v t h => ⟨by rw [Outcome.returned.inj h.1]; rfl, h.2.1, h.2.2⟩) (fun H1 locs1 hP1 hS1 => ?_)
    exact kk q hE x hx H1 locs1 ls hP1 hS1 hL
theorem aw_nretR {G : GG} {C : CX} {ty : FieldType} (hC : CO G C own cc nL lvl kc ks (some ty)) {v : Int32} (hn : narrow ty (.int v) = .int v) (hd : decode cc pc = .ok (.ireturn, 1)) : AW G C (qR G C kc ks μ) kc ks nL μ pc L [.int v] (some v) := by
  intro x hx H locs ls hP hS hL
  cases hx
  exact W.zret hC.x hC.b hC.rt hn (fun t ht hW => ⟨rfl, by rw [ht]; exact hP, hS.F ht⟩) hS.2.2 hd hC.lk
end TXT
theorem dJ0_coder_7d493_0 : decode cJ0_coder_7d493 0 = .ok (.getstatic 38, 3) := by decide +kernel
theorem dJ0_coder_7d493_3 : decode cJ0_coder_7d493 3 = .ok (.ifCond .eq 10, 3) := by decide +kernel
theorem dJ0_coder_7d493_6 : decode cJ0_coder_7d493 6 = .ok (.aload_n 0, 1) := by decide +kernel
theorem dJ0_coder_7d493_7 : decode cJ0_coder_7d493 7 = .ok (.getfield 15, 3) := by decide +kernel
theorem dJ0_coder_7d493_10 : decode cJ0_coder_7d493 10 = .ok (.goto 4, 3) := by decide +kernel
theorem dJ0_coder_7d493_14 : decode cJ0_coder_7d493 14 = .ok (.ireturn, 1) := by decide +kernel
theorem dJ0_isLatin1_aae02_0 : decode cJ0_isLatin1_aae02 0 = .ok (.getstatic 38, 3) := by decide +kernel
theorem dJ0_isLatin1_aae02_3 : decode cJ0_isLatin1_aae02 3 = .ok (.ifCond .eq 14, 3) := by decide +kernel
theorem dJ0_isLatin1_aae02_6 : decode cJ0_isLatin1_aae02 6 = .ok (.aload_n 0, 1) := by decide +kernel
theorem dJ0_isLatin1_aae02_7 : decode cJ0_isLatin1_aae02 7 = .ok (.getfield 15, 3) := by decide +kernel
theorem dJ0_isLatin1_aae02_10 : decode cJ0_isLatin1_aae02 10 = .ok (.ifCond .ne 7, 3) := by decide +kernel
theorem dJ0_isLatin1_aae02_13 : decode cJ0_isLatin1_aae02 13 = .ok (.iconst 1, 1) := by decide +kernel
theorem dJ0_isLatin1_aae02_14 : decode cJ0_isLatin1_aae02 14 = .ok (.goto 4, 3) := by decide +kernel
theorem dJ0_isLatin1_aae02_18 : decode cJ0_isLatin1_aae02 18 = .ok (.ireturn, 1) := by decide +kernel
theorem dJ0_length_8abf5_0 : decode cJ0_length_8abf5 0 = .ok (.aload_n 0, 1) := by decide +kernel
theorem dJ0_length_8abf5_1 : decode cJ0_length_8abf5 1 = .ok (.getfield 9, 3) := by decide +kernel
theorem dJ0_length_8abf5_4 : decode cJ0_length_8abf5 4 = .ok (.arraylength, 1) := by decide +kernel
theorem dJ0_length_8abf5_5 : decode cJ0_length_8abf5 5 = .ok (.aload_n 0, 1) := by decide +kernel
theorem dJ0_length_8abf5_6 : decode cJ0_length_8abf5 6 = .ok (.invokevirtual 335, 3) := by decide +kernel
theorem dJ0_length_8abf5_9 : decode cJ0_length_8abf5 9 = .ok (.ishr, 1) := by decide +kernel
theorem dJ0_length_8abf5_10 : decode cJ0_length_8abf5 10 = .ok (.ireturn, 1) := by decide +kernel
theorem dJ3_checkIndex_8e157_0 : decode cJ3_checkIndex_8e157 0 = .ok (.iload_n 0, 1) := by decide +kernel
theorem dJ3_checkIndex_8e157_1 : decode cJ3_checkIndex_8e157 1 = .ok (.ifCond .lt 8, 3) := by decide +kernel
theorem dJ3_checkIndex_8e157_4 : decode cJ3_checkIndex_8e157 4 = .ok (.iload_n 0, 1) := by decide +kernel
theorem dJ3_checkIndex_8e157_5 : decode cJ3_checkIndex_8e157 5 = .ok (.iload_n 1, 1) := by decide +kernel
theorem dJ3_checkIndex_8e157_6 : decode cJ3_checkIndex_8e157 6 = .ok (.if_icmp .lt 10, 3) := by decide +kernel
theorem dJ3_checkIndex_8e157_16 : decode cJ3_checkIndex_8e157 16 = .ok (.iload_n 0, 1) := by decide +kernel
theorem dJ3_checkIndex_8e157_17 : decode cJ3_checkIndex_8e157 17 = .ok (.ireturn, 1) := by decide +kernel
theorem dJ0_checkIndex_df160_0 : decode cJ0_checkIndex_df160 0 = .ok (.iload_n 0, 1) := by decide +kernel
theorem dJ0_checkIndex_df160_1 : decode cJ0_checkIndex_df160 1 = .ok (.iload_n 1, 1) := by decide +kernel
theorem dJ0_checkIndex_df160_2 : decode cJ0_checkIndex_df160 2 = .ok (.getstatic 1053, 3) := by decide +kernel
theorem dJ0_checkIndex_df160_5 : decode cJ0_checkIndex_df160 5 = .ok (.invokestatic 1059, 3) := by decide +kernel
theorem dJ0_checkIndex_df160_8 : decode cJ0_checkIndex_df160 8 = .ok (.pop, 1) := by decide +kernel
theorem dJ0_checkIndex_df160_9 : decode cJ0_checkIndex_df160 9 = .ok (.return_, 1) := by decide +kernel
theorem dJ1_charAt_3b067_0 : decode cJ1_charAt_3b067 0 = .ok (.iload_n 1, 1) := by decide +kernel
theorem dJ1_charAt_3b067_1 : decode cJ1_charAt_3b067 1 = .ok (.aload_n 0, 1) := by decide +kernel
theorem dJ1_charAt_3b067_2 : decode cJ1_charAt_3b067 2 = .ok (.arraylength, 1) := by decide +kernel
theorem dJ1_charAt_3b067_3 : decode cJ1_charAt_3b067 3 = .ok (.invokestatic 9, 3) := by decide +kernel
theorem dJ1_charAt_3b067_6 : decode cJ1_charAt_3b067 6 = .ok (.aload_n 0, 1) := by decide +kernel
theorem dJ1_charAt_3b067_7 : decode cJ1_charAt_3b067 7 = .ok (.iload_n 1, 1) := by decide +kernel
theorem dJ1_charAt_3b067_8 : decode cJ1_charAt_3b067 8 = .ok (.baload, 1) := by decide +kernel
theorem dJ1_charAt_3b067_9 : decode cJ1_charAt_3b067 9 = .ok (.sipush 255, 3) := by decide +kernel
theorem dJ1_charAt_3b067_12 : decode cJ1_charAt_3b067 12 = .ok (.iand, 1) := by decide +kernel
theorem dJ1_charAt_3b067_13 : decode cJ1_charAt_3b067 13 = .ok (.i2c, 1) := by decide +kernel
theorem dJ1_charAt_3b067_14 : decode cJ1_charAt_3b067 14 = .ok (.ireturn, 1) := by decide +kernel
theorem dJ0_charAt_5068e_0 : decode cJ0_charAt_5068e 0 = .ok (.aload_n 0, 1) := by decide +kernel
theorem dJ0_charAt_5068e_1 : decode cJ0_charAt_5068e 1 = .ok (.invokevirtual 492, 3) := by decide +kernel
theorem dJ0_charAt_5068e_4 : decode cJ0_charAt_5068e 4 = .ok (.ifCond .eq 12, 3) := by decide +kernel
theorem dJ0_charAt_5068e_7 : decode cJ0_charAt_5068e 7 = .ok (.aload_n 0, 1) := by decide +kernel
theorem dJ0_charAt_5068e_8 : decode cJ0_charAt_5068e 8 = .ok (.getfield 9, 3) := by decide +kernel
theorem dJ0_charAt_5068e_11 : decode cJ0_charAt_5068e 11 = .ok (.iload_n 1, 1) := by decide +kernel
theorem dJ0_charAt_5068e_12 : decode cJ0_charAt_5068e 12 = .ok (.invokestatic 495, 3) := by decide +kernel
theorem dJ0_charAt_5068e_15 : decode cJ0_charAt_5068e 15 = .ok (.ireturn, 1) := by decide +kernel
theorem sc255 : (Int16.ofInt 255).toInt32 = 255 := by decide +kernel
theorem c_J0_coder (G : GG) (l : Launch) (i : Nat) (hi : i < 68) (μ : Mem) : CR G l yJ0_coder_7d493 (.code yJ0_coder_7d493 cJ0_coder_7d493 1 (some .byte)) 1 [.ref (gsK G i)] μ (some 0) := by
  refine CR.of (own := "java/lang/String") (L0 := [some (.ref (gsK G i))]) rfl rfl rfl (Nat.le_of_ble_eq_true rfl) (fun C hl hC => ?_)
  subst hl
  refine aw_getCS (pc := 0) hC kw623 dJ0_coder_7d493_0 ?_
  refine aw_if_eq_F (pc := 3) (tgt := 13) hC dJ0_coder_7d493_3 (by decide) (by decide) ?_
  refine aw_aload_n (pc := 6) (i := 0) hC dJ0_coder_7d493_6 rfl rfl ?_
  refine aw_getSC (pc := 7) hC hi kw1914 dJ0_coder_7d493_7 ?_
  refine aw_goto (pc := 10) (tgt := 14) hC dJ0_coder_7d493_10 (by decide) ?_
  exact aw_nretR hC rfl dJ0_coder_7d493_14
theorem c_J0_isLatin1 (G : GG) (l : Launch) (i : Nat) (hi : i < 68) (μ : Mem) : CR G l yJ0_isLatin1_aae02 (.code yJ0_isLatin1_aae02 cJ0_isLatin1_aae02 1 (some .boolean)) 1 [.ref (gsK G i)] μ (some 1) := by
  refine CR.of (own := "java/lang/String") (L0 := [some (.ref (gsK G i))]) rfl rfl rfl (Nat.le_of_ble_eq_true rfl) (fun C hl hC => ?_)
  subst hl
  refine aw_getCS (pc := 0) hC kw623 dJ0_isLatin1_aae02_0 ?_
  refine aw_if_eq_F (pc := 3) (tgt := 17) hC dJ0_isLatin1_aae02_3 (by decide) (by decide) ?_
  refine aw_aload_n (pc := 6) (i := 0) hC dJ0_isLatin1_aae02_6 rfl rfl ?_
  refine aw_getSC (pc := 7) hC hi kw1914 dJ0_isLatin1_aae02_7 ?_
  refine aw_if_ne_F (pc := 10) (tgt := 17) hC dJ0_isLatin1_aae02_10 (by decide) (by decide) ?_
  refine aw_iconst (pc := 13) (v := 1) hC dJ0_isLatin1_aae02_13 ic1 ?_
  refine aw_goto (pc := 14) (tgt := 18) hC dJ0_isLatin1_aae02_14 (by decide) ?_
  exact aw_zret1R hC dJ0_isLatin1_aae02_18
def f_J0_length_8abf5 (i : Nat) : Option Int32 := some (jshr (Int32.ofNat (strB.getD i []).length) 0)
theorem c_J0_length_8abf5 (G : GG) (l : Launch) (i : Nat) (hi : i < 68) (μ : Mem) : CR G l yJ0_length_8abf5 (.code yJ0_length_8abf5 cJ0_length_8abf5 1 (some .int)) 2 [.ref (gsK G i)] μ (f_J0_length_8abf5 i) := by
  refine CR.of (own := "java/lang/String") (L0 := [some (.ref (gsK G i))]) rfl rfl rfl (Nat.le_of_ble_eq_true rfl) (fun C hl hC => ?_)
  subst hl
  show AW G C (qR G C 0 0 μ) 0 0 1 μ 0 _ _ ((some (0 : Int32)).bind fun q => some (jshr (Int32.ofNat (strB.getD i []).length) q))
  refine aw_aload_n (pc := 0) (i := 0) hC dJ0_length_8abf5_0 rfl rfl ?_
  refine aw_getSV (pc := 1) hC hi kw1913 dJ0_length_8abf5_1 ?_
  refine aw_slenS (pc := 4) hC hi dJ0_length_8abf5_4 ?_
  refine aw_aload_n (pc := 5) (i := 0) hC dJ0_length_8abf5_5 rfl rfl ?_
  refine aw_callTR (pc := 6) (As := []) hC mb_J0_coder_7d493 kw619 (by decide) (c_J0_coder G C.2.1 i hi μ) hi rfl rfl (Nat.le_of_ble_eq_true rfl) dJ0_length_8abf5_6 (fun q => ?_)
  refine aw_ishr (pc := 9) hC dJ0_length_8abf5_9 ?_
  exact aw_iretR hC dJ0_length_8abf5_10
theorem c_J3_checkIndex (G : GG) (l : Launch) (v : Value) (hv : v = .null ∨ ∃ t, v = .ref t) (μ : Mem) (a n : Int32) : CR G l yJ3_checkIndex_8e157 (.code yJ3_checkIndex_8e157 cJ3_checkIndex_8e157 3 (some .int)) 1 [.int a, .int n, v] μ (if a < 0 then none else if a < n then some a else none) := by
  refine CR.of (own := "jdk/internal/util/Preconditions") (L0 := [some (.int a), some (.int n), some v]) rfl rfl rfl (by rcases hv with rfl | ⟨t, rfl⟩ <;> exact Nat.le_of_ble_eq_true rfl) (fun C hl hC => ?_)
  subst hl
  refine aw_iload_n (pc := 0) (i := 0) hC dJ3_checkIndex_8e157_0 rfl rfl ?_
  refine aw_if_lt (pc := 1) (tgt := 9) hC dJ3_checkIndex_8e157_1 (by decide) (fun _ => aw_none) (fun _ => ?_)
  refine aw_iload_n (pc := 4) (i := 0) hC dJ3_checkIndex_8e157_4 rfl rfl ?_
  refine aw_iload_n (pc := 5) (i := 1) hC dJ3_checkIndex_8e157_5 rfl rfl ?_
  refine aw_icmp_lt (pc := 6) (tgt := 16) hC dJ3_checkIndex_8e157_6 (by decide) (fun _ => ?_) (fun _ => aw_none)
  refine aw_iload_n (pc := 16) (i := 0) hC dJ3_checkIndex_8e157_16 rfl rfl ?_
  exact aw_iretR hC dJ3_checkIndex_8e157_17
theorem c_J0_checkIndex (G : GG) (l : Launch) (μ : Mem) (a n : Int32) : CV G l yJ0_checkIndex_df160 (.code yJ0_checkIndex_df160 cJ0_checkIndex_df160 2 none) 2 [.int a, .int n] μ ((if a < 0 then none else if a < n then some a else none).bind fun _ => some μ) := by
  refine CV.of (own := "java/lang/String") (L0 := [some (.int a), some (.int n)]) rfl rfl rfl (Nat.le_of_ble_eq_true rfl) (fun C hl hC => ?_)
  subst hl
  refine aw_iload_n (pc := 0) (i := 0) hC dJ0_checkIndex_df160_0 rfl rfl ?_
  refine aw_iload_n (pc := 1) (i := 1) hC dJ0_checkIndex_df160_1 rfl rfl ?_
  refine aw_getSF (pc := 2) hC kw639 dJ0_checkIndex_df160_2 (fun v hv => ?_)
  refine aw_callSR (pc := 5) (As := [.int a, .int n, v]) hC ms_J3_checkIndex_8e157 kw641 (by decide) (c_J3_checkIndex G C.2.1 v hv μ a n) rfl (Nat.le_of_ble_eq_true rfl) dJ0_checkIndex_df160_5 (fun q => ?_)
  refine aw_pop (pc := 8) hC dJ0_checkIndex_df160_8 rfl ?_
  exact aw_vret hC dJ0_checkIndex_df160_9
/-- the char at k -/
def chS (i : Nat) (k : Int32) : Int32 := (((strB.getD i []).getD k.toNatClampNeg 0 &&& 255).toUInt32 % 65536).toInt32
def f_J1_charAt (i : Nat) (k : Int32) (μ : Mem) : Option Int32 := ((if k < 0 then none else if k < Int32.ofNat (strB.getD i []).length then some k else none).bind fun _ => some μ).bind fun _ => ix k (strB.getD i []).length (some (chS i k))
theorem c_J1_charAt (G : GG) (l : Launch) (i : Nat) (hi : i < 68) (μ : Mem) (k : Int32) : CR G l yJ1_charAt_3b067 (.code yJ1_charAt_3b067 cJ1_charAt_3b067 2 (some .char)) 3 [.ref (gsV G i), .int k] μ (f_J1_charAt i k μ) := by
  refine CR.of (own := "java/lang/StringLatin1") (L0 := [some (.ref (gsV G i)), some (.int k)]) rfl rfl rfl (Nat.le_of_ble_eq_true rfl) (fun C hl hC => ?_)
  subst hl
  refine aw_iload_n (pc := 0) (i := 1) hC dJ1_charAt_3b067_0 rfl rfl ?_
  refine aw_aload_n (pc := 1) (i := 0) hC dJ1_charAt_3b067_1 rfl rfl ?_
  refine aw_slenS (pc := 2) hC hi dJ1_charAt_3b067_2 ?_
  delta f_J1_charAt
  refine aw_callSVe (pc := 3) (As := [.int k, .int (Int32.ofNat (strB.getD i []).length)]) (rest := []) hC ms_J0_checkIndex_df160 kw636 (by decide) (c_J0_checkIndex G C.2.1 μ k _) rfl (Nat.le_of_ble_eq_true rfl) dJ1_charAt_3b067_3 (fun q hE => ?_)
  have e2 : μ = q := by
    split at hE
    · cases hE
    · split at hE
      · exact Option.some.inj hE
      · cases hE
  subst e2
  refine aw_aload_n (pc := 6) (i := 0) hC dJ1_charAt_3b067_6 rfl rfl ?_
  refine aw_iload_n (pc := 7) (i := 1) hC dJ1_charAt_3b067_7 rfl rfl ?_
  refine aw_sbal (pc := 8) hC hi dJ1_charAt_3b067_8 ?_
  refine aw_sipush (pc := 9) (v := 255) hC dJ1_charAt_3b067_9 sc255 ?_
  refine aw_iand (pc := 12) hC dJ1_charAt_3b067_12 ?_
  refine aw_i2c (pc := 13) hC dJ1_charAt_3b067_13 ?_
  exact aw_nretR hC (pk_nc _) dJ1_charAt_3b067_14
def f_J0_charAt_5068e (i : Nat) (μ : Mem) (k : Int32) : Option Int32 := (some (1 : Int32)).bind fun p => if p = 0 then none else (f_J1_charAt i k μ).bind fun q => ix q 65536 (some q)
theorem c_J0_charAt_5068e (G : GG) (l : Launch) (i : Nat) (hi : i < 68) (μ : Mem) (k : Int32) : CR G l yJ0_charAt_5068e (.code yJ0_charAt_5068e cJ0_charAt_5068e 2 (some .char)) 4 [.ref (gsK G i), .int k] μ (f_J0_charAt_5068e i μ k) := by
  refine CR.of (own := "java/lang/String") (L0 := [some (.ref (gsK G i)), some (.int k)]) rfl rfl rfl (Nat.le_of_ble_eq_true rfl) (fun C hl hC => ?_)
  subst hl
  delta f_J0_charAt_5068e
  refine aw_aload_n (pc := 0) (i := 0) hC dJ0_charAt_5068e_0 rfl rfl ?_
  refine aw_callTR (pc := 1) (As := []) hC mb_J0_isLatin1_aae02 kw629 (by decide) (c_J0_isLatin1 G C.2.1 i hi μ) hi rfl rfl (Nat.le_of_ble_eq_true rfl) dJ0_charAt_5068e_1 (fun p => ?_)
  refine aw_if_eq (pc := 4) (tgt := 16) hC dJ0_charAt_5068e_4 (by decide) (fun _ => aw_none) (fun _ => ?_)
  refine aw_aload_n (pc := 7) (i := 0) hC dJ0_charAt_5068e_7 rfl rfl ?_
  refine aw_getSV (pc := 8) hC hi kw1913 dJ0_charAt_5068e_8 ?_
  refine aw_iload_n (pc := 11) (i := 1) hC dJ0_charAt_5068e_11 rfl rfl ?_
  refine aw_callSR (pc := 12) (As := [.ref (gsV G i), .int k]) (rest := []) hC ms_J1_charAt_3b067 kw633 (by decide) (c_J1_charAt G C.2.1 i hi μ k) rfl (Nat.le_of_ble_eq_true rfl) dJ0_charAt_5068e_12 (fun q => ?_)
  intro x hx
  obtain ⟨hv, hx⟩ := ix_some hx
  obtain ⟨j, hj, e⟩ := vp_in_of hv (by decide)
  exact aw_nretR hC (by rw [e]; exact (pk_charN hj).1) dJ0_charAt_5068e_15 x hx

