theorem icm1 : Int32.ofInt (-1) = (-1) := by decide +kernel
theorem ic0 : Int32.ofInt 0 = 0 := by decide +kernel
theorem ic1 : Int32.ofInt 1 = 1 := by decide +kernel
theorem ic2 : Int32.ofInt 2 = 2 := by decide +kernel
theorem ic4 : Int32.ofInt 4 = 4 := by decide +kernel
theorem bc8 : (Int8.ofInt 8).toInt32 = 8 := by decide +kernel
theorem bc16 : (Int8.ofInt 16).toInt32 = 16 := by decide +kernel
theorem bc32 : (Int8.ofInt 32).toInt32 = 32 := by decide +kernel
theorem bc50 : (Int8.ofInt 50).toInt32 = 50 := by decide +kernel
theorem bc63 : (Int8.ofInt 63).toInt32 = 63 := by decide +kernel
theorem bc99 : (Int8.ofInt 99).toInt32 = 99 := by decide +kernel
theorem bc127 : (Int8.ofInt 127).toInt32 = 127 := by decide +kernel
theorem sc400 : (Int16.ofInt 400).toInt32 = 400 := by decide +kernel
theorem sc9999 : (Int16.ofInt 9999).toInt32 = 9999 := by decide +kernel
theorem lc0 : Int64.ofNat ((0 : Fin 2) : Nat) = 0 := by decide +kernel
theorem lc1 : Int64.ofNat ((1 : Fin 2) : Nat) = 1 := by decide +kernel
theorem dJ6_bitCount_0f7a4_0 : decode cJ6_bitCount_0f7a4 0 = .ok (.iload_n 0, 1) := by decide +kernel
theorem dJ6_bitCount_0f7a4_1 : decode cJ6_bitCount_0f7a4 1 = .ok (.iload_n 0, 1) := by decide +kernel
theorem dJ6_bitCount_0f7a4_2 : decode cJ6_bitCount_0f7a4 2 = .ok (.iconst 1, 1) := by decide +kernel
theorem dJ6_bitCount_0f7a4_3 : decode cJ6_bitCount_0f7a4 3 = .ok (.iushr, 1) := by decide +kernel
theorem dJ6_bitCount_0f7a4_4 : decode cJ6_bitCount_0f7a4 4 = .ok (.ldc_w 265, 3) := by decide +kernel
theorem dJ6_bitCount_0f7a4_7 : decode cJ6_bitCount_0f7a4 7 = .ok (.iand, 1) := by decide +kernel
theorem dJ6_bitCount_0f7a4_8 : decode cJ6_bitCount_0f7a4 8 = .ok (.isub, 1) := by decide +kernel
theorem dJ6_bitCount_0f7a4_9 : decode cJ6_bitCount_0f7a4 9 = .ok (.istore_n 0, 1) := by decide +kernel
theorem dJ6_bitCount_0f7a4_10 : decode cJ6_bitCount_0f7a4 10 = .ok (.iload_n 0, 1) := by decide +kernel
theorem dJ6_bitCount_0f7a4_11 : decode cJ6_bitCount_0f7a4 11 = .ok (.ldc_w 266, 3) := by decide +kernel
theorem dJ6_bitCount_0f7a4_14 : decode cJ6_bitCount_0f7a4 14 = .ok (.iand, 1) := by decide +kernel
theorem dJ6_bitCount_0f7a4_15 : decode cJ6_bitCount_0f7a4 15 = .ok (.iload_n 0, 1) := by decide +kernel
theorem dJ6_bitCount_0f7a4_16 : decode cJ6_bitCount_0f7a4 16 = .ok (.iconst 2, 1) := by decide +kernel
theorem dJ6_bitCount_0f7a4_17 : decode cJ6_bitCount_0f7a4 17 = .ok (.iushr, 1) := by decide +kernel
theorem dJ6_bitCount_0f7a4_18 : decode cJ6_bitCount_0f7a4 18 = .ok (.ldc_w 266, 3) := by decide +kernel
theorem dJ6_bitCount_0f7a4_21 : decode cJ6_bitCount_0f7a4 21 = .ok (.iand, 1) := by decide +kernel
theorem dJ6_bitCount_0f7a4_22 : decode cJ6_bitCount_0f7a4 22 = .ok (.iadd, 1) := by decide +kernel
theorem dJ6_bitCount_0f7a4_23 : decode cJ6_bitCount_0f7a4 23 = .ok (.istore_n 0, 1) := by decide +kernel
theorem dJ6_bitCount_0f7a4_24 : decode cJ6_bitCount_0f7a4 24 = .ok (.iload_n 0, 1) := by decide +kernel
theorem dJ6_bitCount_0f7a4_25 : decode cJ6_bitCount_0f7a4 25 = .ok (.iload_n 0, 1) := by decide +kernel
theorem dJ6_bitCount_0f7a4_26 : decode cJ6_bitCount_0f7a4 26 = .ok (.iconst 4, 1) := by decide +kernel
theorem dJ6_bitCount_0f7a4_27 : decode cJ6_bitCount_0f7a4 27 = .ok (.iushr, 1) := by decide +kernel
theorem dJ6_bitCount_0f7a4_28 : decode cJ6_bitCount_0f7a4 28 = .ok (.iadd, 1) := by decide +kernel
theorem dJ6_bitCount_0f7a4_29 : decode cJ6_bitCount_0f7a4 29 = .ok (.ldc_w 267, 3) := by decide +kernel
theorem dJ6_bitCount_0f7a4_32 : decode cJ6_bitCount_0f7a4 32 = .ok (.iand, 1) := by decide +kernel
theorem dJ6_bitCount_0f7a4_33 : decode cJ6_bitCount_0f7a4 33 = .ok (.istore_n 0, 1) := by decide +kernel
theorem dJ6_bitCount_0f7a4_34 : decode cJ6_bitCount_0f7a4 34 = .ok (.iload_n 0, 1) := by decide +kernel
theorem dJ6_bitCount_0f7a4_35 : decode cJ6_bitCount_0f7a4 35 = .ok (.iload_n 0, 1) := by decide +kernel
theorem dJ6_bitCount_0f7a4_36 : decode cJ6_bitCount_0f7a4 36 = .ok (.bipush 8, 2) := by decide +kernel
theorem dJ6_bitCount_0f7a4_38 : decode cJ6_bitCount_0f7a4 38 = .ok (.iushr, 1) := by decide +kernel
theorem dJ6_bitCount_0f7a4_39 : decode cJ6_bitCount_0f7a4 39 = .ok (.iadd, 1) := by decide +kernel
theorem dJ6_bitCount_0f7a4_40 : decode cJ6_bitCount_0f7a4 40 = .ok (.istore_n 0, 1) := by decide +kernel
theorem dJ6_bitCount_0f7a4_41 : decode cJ6_bitCount_0f7a4 41 = .ok (.iload_n 0, 1) := by decide +kernel
theorem dJ6_bitCount_0f7a4_42 : decode cJ6_bitCount_0f7a4 42 = .ok (.iload_n 0, 1) := by decide +kernel
theorem dJ6_bitCount_0f7a4_43 : decode cJ6_bitCount_0f7a4 43 = .ok (.bipush 16, 2) := by decide +kernel
theorem dJ6_bitCount_0f7a4_45 : decode cJ6_bitCount_0f7a4 45 = .ok (.iushr, 1) := by decide +kernel
theorem dJ6_bitCount_0f7a4_46 : decode cJ6_bitCount_0f7a4 46 = .ok (.iadd, 1) := by decide +kernel
theorem dJ6_bitCount_0f7a4_47 : decode cJ6_bitCount_0f7a4 47 = .ok (.istore_n 0, 1) := by decide +kernel
theorem dJ6_bitCount_0f7a4_48 : decode cJ6_bitCount_0f7a4 48 = .ok (.iload_n 0, 1) := by decide +kernel
theorem dJ6_bitCount_0f7a4_49 : decode cJ6_bitCount_0f7a4 49 = .ok (.bipush 63, 2) := by decide +kernel
theorem dJ6_bitCount_0f7a4_51 : decode cJ6_bitCount_0f7a4 51 = .ok (.iand, 1) := by decide +kernel
theorem dJ6_bitCount_0f7a4_52 : decode cJ6_bitCount_0f7a4 52 = .ok (.ireturn, 1) := by decide +kernel
def f_J6_bitCount_0f7a4 (a1 : Int32) : Option (Int32) := nm (a1 - ((jushr a1 1) &&& 1431655765)) fun (x1 : Int32) => nm ((x1 &&& 858993459) + ((jushr x1 2) &&& 858993459)) fun (x2 : Int32) => nm ((x2 + (jushr x2 4)) &&& 252645135) fun (x3 : Int32) => nm ((x3 + (jushr x3 8)) + (jushr (x3 + (jushr x3 8)) 16)) fun (x4 : Int32) => some (x4 &&& 63)
set_option maxHeartbeats 4000000 in
set_option maxRecDepth 100000 in
theorem c_J6_bitCount_0f7a4 (G : GG) (l : Launch) (μ : Mem) (a1 : Int32) : CR G l yJ6_bitCount_0f7a4 (.code yJ6_bitCount_0f7a4 cJ6_bitCount_0f7a4 1 (some .int)) 1 [.int a1] μ (f_J6_bitCount_0f7a4 a1) := by
  refine CR.of (own := "java/lang/Integer") (L0 := [some (.int a1)]) rfl rfl rfl (Nat.le_of_ble_eq_true rfl) (fun C hl hC => ?_)
  subst hl
  delta f_J6_bitCount_0f7a4
  refine aw_iload_n (pc := 0) (i := 0) hC dJ6_bitCount_0f7a4_0 rfl rfl ?_
  refine aw_iload_n (pc := 1) (i := 0) hC dJ6_bitCount_0f7a4_1 rfl rfl ?_
  refine aw_iconst (pc := 2) (v := 1) hC dJ6_bitCount_0f7a4_2 ic1 ?_
  refine aw_iushr (pc := 3) hC dJ6_bitCount_0f7a4_3 ?_
  refine aw_ldcw (pc := 4) hC kw456 dJ6_bitCount_0f7a4_4 ?_
  refine aw_iand (pc := 7) hC dJ6_bitCount_0f7a4_7 ?_
  refine aw_isub (pc := 8) hC dJ6_bitCount_0f7a4_8 ?_
  refine aw_nmI (fun x1 _ => ?_)
  refine aw_istore_n (pc := 9) (i := 0) hC dJ6_bitCount_0f7a4_9 rfl rfl (by decide) ?_
  refine aw_iload_n (pc := 10) (i := 0) hC dJ6_bitCount_0f7a4_10 rfl rfl ?_
  refine aw_ldcw (pc := 11) hC kw457 dJ6_bitCount_0f7a4_11 ?_
  refine aw_iand (pc := 14) hC dJ6_bitCount_0f7a4_14 ?_
  refine aw_iload_n (pc := 15) (i := 0) hC dJ6_bitCount_0f7a4_15 rfl rfl ?_
  refine aw_iconst (pc := 16) (v := 2) hC dJ6_bitCount_0f7a4_16 ic2 ?_
  refine aw_iushr (pc := 17) hC dJ6_bitCount_0f7a4_17 ?_
  refine aw_ldcw (pc := 18) hC kw457 dJ6_bitCount_0f7a4_18 ?_
  refine aw_iand (pc := 21) hC dJ6_bitCount_0f7a4_21 ?_
  refine aw_iadd (pc := 22) hC dJ6_bitCount_0f7a4_22 ?_
  refine aw_nmI (fun x2 _ => ?_)
  refine aw_istore_n (pc := 23) (i := 0) hC dJ6_bitCount_0f7a4_23 rfl rfl (by decide) ?_
  refine aw_iload_n (pc := 24) (i := 0) hC dJ6_bitCount_0f7a4_24 rfl rfl ?_
  refine aw_iload_n (pc := 25) (i := 0) hC dJ6_bitCount_0f7a4_25 rfl rfl ?_
  refine aw_iconst (pc := 26) (v := 4) hC dJ6_bitCount_0f7a4_26 ic4 ?_
  refine aw_iushr (pc := 27) hC dJ6_bitCount_0f7a4_27 ?_
  refine aw_iadd (pc := 28) hC dJ6_bitCount_0f7a4_28 ?_
  refine aw_ldcw (pc := 29) hC kw458 dJ6_bitCount_0f7a4_29 ?_
  refine aw_iand (pc := 32) hC dJ6_bitCount_0f7a4_32 ?_
  refine aw_nmI (fun x3 _ => ?_)
  refine aw_istore_n (pc := 33) (i := 0) hC dJ6_bitCount_0f7a4_33 rfl rfl (by decide) ?_
  refine aw_iload_n (pc := 34) (i := 0) hC dJ6_bitCount_0f7a4_34 rfl rfl ?_
  refine aw_iload_n (pc := 35) (i := 0) hC dJ6_bitCount_0f7a4_35 rfl rfl ?_
  refine aw_bipush (pc := 36) (v := 8) hC dJ6_bitCount_0f7a4_36 bc8 ?_
  refine aw_iushr (pc := 38) hC dJ6_bitCount_0f7a4_38 ?_
  refine aw_iadd (pc := 39) hC dJ6_bitCount_0f7a4_39 ?_
  refine aw_istore_n (pc := 40) (i := 0) hC dJ6_bitCount_0f7a4_40 rfl rfl (by decide) ?_
  refine aw_iload_n (pc := 41) (i := 0) hC dJ6_bitCount_0f7a4_41 rfl rfl ?_
  refine aw_iload_n (pc := 42) (i := 0) hC dJ6_bitCount_0f7a4_42 rfl rfl ?_
  refine aw_bipush (pc := 43) (v := 16) hC dJ6_bitCount_0f7a4_43 bc16 ?_
  refine aw_iushr (pc := 45) hC dJ6_bitCount_0f7a4_45 ?_
  refine aw_iadd (pc := 46) hC dJ6_bitCount_0f7a4_46 ?_
  refine aw_nmI (fun x4 _ => ?_)
  refine aw_istore_n (pc := 47) (i := 0) hC dJ6_bitCount_0f7a4_47 rfl rfl (by decide) ?_
  refine aw_iload_n (pc := 48) (i := 0) hC dJ6_bitCount_0f7a4_48 rfl rfl ?_
  refine aw_bipush (pc := 49) (v := 63) hC dJ6_bitCount_0f7a4_49 bc63 ?_
  refine aw_iand (pc := 51) hC dJ6_bitCount_0f7a4_51 ?_
  exact aw_iretR hC dJ6_bitCount_0f7a4_52
theorem dJ13_bitCount_95d88_0 : decode cJ13_bitCount_95d88 0 = .ok (.lload_n 0, 1) := by decide +kernel
theorem dJ13_bitCount_95d88_1 : decode cJ13_bitCount_95d88 1 = .ok (.lload_n 0, 1) := by decide +kernel
theorem dJ13_bitCount_95d88_2 : decode cJ13_bitCount_95d88 2 = .ok (.iconst 1, 1) := by decide +kernel
theorem dJ13_bitCount_95d88_3 : decode cJ13_bitCount_95d88 3 = .ok (.lushr, 1) := by decide +kernel
theorem dJ13_bitCount_95d88_4 : decode cJ13_bitCount_95d88 4 = .ok (.ldc2_w 314, 3) := by decide +kernel
theorem dJ13_bitCount_95d88_7 : decode cJ13_bitCount_95d88 7 = .ok (.land, 1) := by decide +kernel
theorem dJ13_bitCount_95d88_8 : decode cJ13_bitCount_95d88 8 = .ok (.lsub, 1) := by decide +kernel
theorem dJ13_bitCount_95d88_9 : decode cJ13_bitCount_95d88 9 = .ok (.lstore_n 0, 1) := by decide +kernel
theorem dJ13_bitCount_95d88_10 : decode cJ13_bitCount_95d88 10 = .ok (.lload_n 0, 1) := by decide +kernel
theorem dJ13_bitCount_95d88_11 : decode cJ13_bitCount_95d88 11 = .ok (.ldc2_w 316, 3) := by decide +kernel
theorem dJ13_bitCount_95d88_14 : decode cJ13_bitCount_95d88 14 = .ok (.land, 1) := by decide +kernel
theorem dJ13_bitCount_95d88_15 : decode cJ13_bitCount_95d88 15 = .ok (.lload_n 0, 1) := by decide +kernel
theorem dJ13_bitCount_95d88_16 : decode cJ13_bitCount_95d88 16 = .ok (.iconst 2, 1) := by decide +kernel
theorem dJ13_bitCount_95d88_17 : decode cJ13_bitCount_95d88 17 = .ok (.lushr, 1) := by decide +kernel
theorem dJ13_bitCount_95d88_18 : decode cJ13_bitCount_95d88 18 = .ok (.ldc2_w 316, 3) := by decide +kernel
theorem dJ13_bitCount_95d88_21 : decode cJ13_bitCount_95d88 21 = .ok (.land, 1) := by decide +kernel
theorem dJ13_bitCount_95d88_22 : decode cJ13_bitCount_95d88 22 = .ok (.ladd, 1) := by decide +kernel
theorem dJ13_bitCount_95d88_23 : decode cJ13_bitCount_95d88 23 = .ok (.lstore_n 0, 1) := by decide +kernel
theorem dJ13_bitCount_95d88_24 : decode cJ13_bitCount_95d88 24 = .ok (.lload_n 0, 1) := by decide +kernel
theorem dJ13_bitCount_95d88_25 : decode cJ13_bitCount_95d88 25 = .ok (.lload_n 0, 1) := by decide +kernel
theorem dJ13_bitCount_95d88_26 : decode cJ13_bitCount_95d88 26 = .ok (.iconst 4, 1) := by decide +kernel
theorem dJ13_bitCount_95d88_27 : decode cJ13_bitCount_95d88 27 = .ok (.lushr, 1) := by decide +kernel
theorem dJ13_bitCount_95d88_28 : decode cJ13_bitCount_95d88 28 = .ok (.ladd, 1) := by decide +kernel
theorem dJ13_bitCount_95d88_29 : decode cJ13_bitCount_95d88 29 = .ok (.ldc2_w 318, 3) := by decide +kernel
theorem dJ13_bitCount_95d88_32 : decode cJ13_bitCount_95d88 32 = .ok (.land, 1) := by decide +kernel
theorem dJ13_bitCount_95d88_33 : decode cJ13_bitCount_95d88 33 = .ok (.lstore_n 0, 1) := by decide +kernel
theorem dJ13_bitCount_95d88_34 : decode cJ13_bitCount_95d88 34 = .ok (.lload_n 0, 1) := by decide +kernel
theorem dJ13_bitCount_95d88_35 : decode cJ13_bitCount_95d88 35 = .ok (.lload_n 0, 1) := by decide +kernel
theorem dJ13_bitCount_95d88_36 : decode cJ13_bitCount_95d88 36 = .ok (.bipush 8, 2) := by decide +kernel
theorem dJ13_bitCount_95d88_38 : decode cJ13_bitCount_95d88 38 = .ok (.lushr, 1) := by decide +kernel
theorem dJ13_bitCount_95d88_39 : decode cJ13_bitCount_95d88 39 = .ok (.ladd, 1) := by decide +kernel
theorem dJ13_bitCount_95d88_40 : decode cJ13_bitCount_95d88 40 = .ok (.lstore_n 0, 1) := by decide +kernel
theorem dJ13_bitCount_95d88_41 : decode cJ13_bitCount_95d88 41 = .ok (.lload_n 0, 1) := by decide +kernel
theorem dJ13_bitCount_95d88_42 : decode cJ13_bitCount_95d88 42 = .ok (.lload_n 0, 1) := by decide +kernel
theorem dJ13_bitCount_95d88_43 : decode cJ13_bitCount_95d88 43 = .ok (.bipush 16, 2) := by decide +kernel
theorem dJ13_bitCount_95d88_45 : decode cJ13_bitCount_95d88 45 = .ok (.lushr, 1) := by decide +kernel
theorem dJ13_bitCount_95d88_46 : decode cJ13_bitCount_95d88 46 = .ok (.ladd, 1) := by decide +kernel
theorem dJ13_bitCount_95d88_47 : decode cJ13_bitCount_95d88 47 = .ok (.lstore_n 0, 1) := by decide +kernel
theorem dJ13_bitCount_95d88_48 : decode cJ13_bitCount_95d88 48 = .ok (.lload_n 0, 1) := by decide +kernel
theorem dJ13_bitCount_95d88_49 : decode cJ13_bitCount_95d88 49 = .ok (.lload_n 0, 1) := by decide +kernel
theorem dJ13_bitCount_95d88_50 : decode cJ13_bitCount_95d88 50 = .ok (.bipush 32, 2) := by decide +kernel
theorem dJ13_bitCount_95d88_52 : decode cJ13_bitCount_95d88 52 = .ok (.lushr, 1) := by decide +kernel
theorem dJ13_bitCount_95d88_53 : decode cJ13_bitCount_95d88 53 = .ok (.ladd, 1) := by decide +kernel
theorem dJ13_bitCount_95d88_54 : decode cJ13_bitCount_95d88 54 = .ok (.lstore_n 0, 1) := by decide +kernel
theorem dJ13_bitCount_95d88_55 : decode cJ13_bitCount_95d88 55 = .ok (.lload_n 0, 1) := by decide +kernel
theorem dJ13_bitCount_95d88_56 : decode cJ13_bitCount_95d88 56 = .ok (.l2i, 1) := by decide +kernel
theorem dJ13_bitCount_95d88_57 : decode cJ13_bitCount_95d88 57 = .ok (.bipush 127, 2) := by decide +kernel
theorem dJ13_bitCount_95d88_59 : decode cJ13_bitCount_95d88 59 = .ok (.iand, 1) := by decide +kernel
theorem dJ13_bitCount_95d88_60 : decode cJ13_bitCount_95d88 60 = .ok (.ireturn, 1) := by decide +kernel
def f_J13_bitCount_95d88 (a1 : Int64) : Option (Int32) := nm (a1 - ((jlushr a1 1) &&& 6148914691236517205)) fun (x1 : Int64) => nm ((x1 &&& 3689348814741910323) + ((jlushr x1 2) &&& 3689348814741910323)) fun (x2 : Int64) => nm ((x2 + (jlushr x2 4)) &&& 1085102592571150095) fun (x3 : Int64) => nm ((x3 + (jlushr x3 8)) + (jlushr (x3 + (jlushr x3 8)) 16)) fun (x4 : Int64) => some (((x4 + (jlushr x4 32)).toInt32) &&& 127)
set_option maxHeartbeats 4000000 in
set_option maxRecDepth 100000 in
theorem c_J13_bitCount_95d88 (G : GG) (l : Launch) (μ : Mem) (a1 : Int64) : CR G l yJ13_bitCount_95d88 (.code yJ13_bitCount_95d88 cJ13_bitCount_95d88 2 (some .int)) 1 [.long a1] μ (f_J13_bitCount_95d88 a1) := by
  refine CR.of (own := "java/lang/Long") (L0 := [some (.long a1), none]) rfl rfl rfl (Nat.le_of_ble_eq_true rfl) (fun C hl hC => ?_)
  subst hl
  delta f_J13_bitCount_95d88
  refine aw_lload_n (pc := 0) (i := 0) hC dJ13_bitCount_95d88_0 rfl rfl ?_
  refine aw_lload_n (pc := 1) (i := 0) hC dJ13_bitCount_95d88_1 rfl rfl ?_
  refine aw_iconst (pc := 2) (v := 1) hC dJ13_bitCount_95d88_2 ic1 ?_
  refine aw_lushr (pc := 3) hC dJ13_bitCount_95d88_3 ?_
  refine aw_ldc2 (pc := 4) hC kw1205 dJ13_bitCount_95d88_4 ?_
  refine aw_land (pc := 7) hC dJ13_bitCount_95d88_7 ?_
  refine aw_lsub (pc := 8) hC dJ13_bitCount_95d88_8 ?_
  refine aw_nmL (fun x1 _ => ?_)
  refine aw_lstore_n (pc := 9) (i := 0) hC dJ13_bitCount_95d88_9 rfl rfl (by decide) ?_
  refine aw_lload_n (pc := 10) (i := 0) hC dJ13_bitCount_95d88_10 rfl rfl ?_
  refine aw_ldc2 (pc := 11) hC kw1206 dJ13_bitCount_95d88_11 ?_
  refine aw_land (pc := 14) hC dJ13_bitCount_95d88_14 ?_
  refine aw_lload_n (pc := 15) (i := 0) hC dJ13_bitCount_95d88_15 rfl rfl ?_
  refine aw_iconst (pc := 16) (v := 2) hC dJ13_bitCount_95d88_16 ic2 ?_
  refine aw_lushr (pc := 17) hC dJ13_bitCount_95d88_17 ?_
  refine aw_ldc2 (pc := 18) hC kw1206 dJ13_bitCount_95d88_18 ?_
  refine aw_land (pc := 21) hC dJ13_bitCount_95d88_21 ?_
  refine aw_ladd (pc := 22) hC dJ13_bitCount_95d88_22 ?_
  refine aw_nmL (fun x2 _ => ?_)
  refine aw_lstore_n (pc := 23) (i := 0) hC dJ13_bitCount_95d88_23 rfl rfl (by decide) ?_
  refine aw_lload_n (pc := 24) (i := 0) hC dJ13_bitCount_95d88_24 rfl rfl ?_
  refine aw_lload_n (pc := 25) (i := 0) hC dJ13_bitCount_95d88_25 rfl rfl ?_
  refine aw_iconst (pc := 26) (v := 4) hC dJ13_bitCount_95d88_26 ic4 ?_
  refine aw_lushr (pc := 27) hC dJ13_bitCount_95d88_27 ?_
  refine aw_ladd (pc := 28) hC dJ13_bitCount_95d88_28 ?_
  refine aw_ldc2 (pc := 29) hC kw1207 dJ13_bitCount_95d88_29 ?_
  refine aw_land (pc := 32) hC dJ13_bitCount_95d88_32 ?_
  refine aw_nmL (fun x3 _ => ?_)
  refine aw_lstore_n (pc := 33) (i := 0) hC dJ13_bitCount_95d88_33 rfl rfl (by decide) ?_
  refine aw_lload_n (pc := 34) (i := 0) hC dJ13_bitCount_95d88_34 rfl rfl ?_
  refine aw_lload_n (pc := 35) (i := 0) hC dJ13_bitCount_95d88_35 rfl rfl ?_
  refine aw_bipush (pc := 36) (v := 8) hC dJ13_bitCount_95d88_36 bc8 ?_
  refine aw_lushr (pc := 38) hC dJ13_bitCount_95d88_38 ?_
  refine aw_ladd (pc := 39) hC dJ13_bitCount_95d88_39 ?_
  refine aw_lstore_n (pc := 40) (i := 0) hC dJ13_bitCount_95d88_40 rfl rfl (by decide) ?_
  refine aw_lload_n (pc := 41) (i := 0) hC dJ13_bitCount_95d88_41 rfl rfl ?_
  refine aw_lload_n (pc := 42) (i := 0) hC dJ13_bitCount_95d88_42 rfl rfl ?_
  refine aw_bipush (pc := 43) (v := 16) hC dJ13_bitCount_95d88_43 bc16 ?_
  refine aw_lushr (pc := 45) hC dJ13_bitCount_95d88_45 ?_
  refine aw_ladd (pc := 46) hC dJ13_bitCount_95d88_46 ?_
  refine aw_nmL (fun x4 _ => ?_)
  refine aw_lstore_n (pc := 47) (i := 0) hC dJ13_bitCount_95d88_47 rfl rfl (by decide) ?_
  refine aw_lload_n (pc := 48) (i := 0) hC dJ13_bitCount_95d88_48 rfl rfl ?_
  refine aw_lload_n (pc := 49) (i := 0) hC dJ13_bitCount_95d88_49 rfl rfl ?_
  refine aw_bipush (pc := 50) (v := 32) hC dJ13_bitCount_95d88_50 bc32 ?_
  refine aw_lushr (pc := 52) hC dJ13_bitCount_95d88_52 ?_
  refine aw_ladd (pc := 53) hC dJ13_bitCount_95d88_53 ?_
  refine aw_lstore_n (pc := 54) (i := 0) hC dJ13_bitCount_95d88_54 rfl rfl (by decide) ?_
  refine aw_lload_n (pc := 55) (i := 0) hC dJ13_bitCount_95d88_55 rfl rfl ?_
  refine aw_l2i (pc := 56) hC dJ13_bitCount_95d88_56 ?_
  refine aw_bipush (pc := 57) (v := 127) hC dJ13_bitCount_95d88_57 bc127 ?_
  refine aw_iand (pc := 59) hC dJ13_bitCount_95d88_59 ?_
  exact aw_iretR hC dJ13_bitCount_95d88_60
theorem dJ9_floorMod_7cf53_0 : decode cJ9_floorMod_7cf53 0 = .ok (.iload_n 0, 1) := by decide +kernel
theorem dJ9_floorMod_7cf53_1 : decode cJ9_floorMod_7cf53 1 = .ok (.iload_n 1, 1) := by decide +kernel
theorem dJ9_floorMod_7cf53_2 : decode cJ9_floorMod_7cf53 2 = .ok (.irem, 1) := by decide +kernel
theorem dJ9_floorMod_7cf53_3 : decode cJ9_floorMod_7cf53 3 = .ok (.istore_n 2, 1) := by decide +kernel
theorem dJ9_floorMod_7cf53_4 : decode cJ9_floorMod_7cf53 4 = .ok (.iload_n 0, 1) := by decide +kernel
theorem dJ9_floorMod_7cf53_5 : decode cJ9_floorMod_7cf53 5 = .ok (.iload_n 1, 1) := by decide +kernel
theorem dJ9_floorMod_7cf53_6 : decode cJ9_floorMod_7cf53 6 = .ok (.ixor, 1) := by decide +kernel
theorem dJ9_floorMod_7cf53_7 : decode cJ9_floorMod_7cf53 7 = .ok (.ifCond .ge 11, 3) := by decide +kernel
theorem dJ9_floorMod_7cf53_10 : decode cJ9_floorMod_7cf53 10 = .ok (.iload_n 2, 1) := by decide +kernel
theorem dJ9_floorMod_7cf53_11 : decode cJ9_floorMod_7cf53 11 = .ok (.ifCond .eq 7, 3) := by decide +kernel
theorem dJ9_floorMod_7cf53_14 : decode cJ9_floorMod_7cf53 14 = .ok (.iload_n 2, 1) := by decide +kernel
theorem dJ9_floorMod_7cf53_15 : decode cJ9_floorMod_7cf53 15 = .ok (.iload_n 1, 1) := by decide +kernel
theorem dJ9_floorMod_7cf53_16 : decode cJ9_floorMod_7cf53 16 = .ok (.iadd, 1) := by decide +kernel
theorem dJ9_floorMod_7cf53_17 : decode cJ9_floorMod_7cf53 17 = .ok (.ireturn, 1) := by decide +kernel
theorem dJ9_floorMod_7cf53_18 : decode cJ9_floorMod_7cf53 18 = .ok (.iload_n 2, 1) := by decide +kernel
theorem dJ9_floorMod_7cf53_19 : decode cJ9_floorMod_7cf53 19 = .ok (.ireturn, 1) := by decide +kernel
def f_J9_floorMod_7cf53 (a1 : Int32) (a2 : Int32) : Option (Int32) := nz a2 (if 0 ≤ (a1 ^^^ a2) then (some (jrem a1 a2)) else (if (jrem a1 a2) = 0 then (some (jrem a1 a2)) else (some ((jrem a1 a2) + a2))))
set_option maxHeartbeats 4000000 in
set_option maxRecDepth 100000 in
theorem c_J9_floorMod_7cf53 (G : GG) (l : Launch) (μ : Mem) (a1 : Int32) (a2 : Int32) : CR G l yJ9_floorMod_7cf53 (.code yJ9_floorMod_7cf53 cJ9_floorMod_7cf53 3 (some .int)) 1 [.int a1, .int a2] μ (f_J9_floorMod_7cf53 a1 a2) := by
  refine CR.ofF (own := "java/lang/Math") (L0 := [some (.int a1), some (.int a2), none]) rfl (by decide +kernel) rfl (Nat.le_of_ble_eq_true rfl) (fun C hl hC => ?_)
  subst hl
  delta f_J9_floorMod_7cf53
  refine aw_iload_n (pc := 0) (i := 0) hC dJ9_floorMod_7cf53_0 rfl rfl ?_
  refine aw_iload_n (pc := 1) (i := 1) hC dJ9_floorMod_7cf53_1 rfl rfl ?_
  refine aw_iremZ (pc := 2) hC dJ9_floorMod_7cf53_2 ?_
  refine aw_istore_n (pc := 3) (i := 2) hC dJ9_floorMod_7cf53_3 rfl rfl (by decide) ?_
  refine aw_iload_n (pc := 4) (i := 0) hC dJ9_floorMod_7cf53_4 rfl rfl ?_
  refine aw_iload_n (pc := 5) (i := 1) hC dJ9_floorMod_7cf53_5 rfl rfl ?_
  refine aw_ixor (pc := 6) hC dJ9_floorMod_7cf53_6 ?_
  refine aw_if_ge (pc := 7) (tgt := 18) hC dJ9_floorMod_7cf53_7 (by decide) (fun _ => ?_) (fun _ => ?_)
  · skip
    refine aw_iload_n (pc := 18) (i := 2) hC dJ9_floorMod_7cf53_18 rfl rfl ?_
    exact aw_iretR hC dJ9_floorMod_7cf53_19
  · skip
    refine aw_iload_n (pc := 10) (i := 2) hC dJ9_floorMod_7cf53_10 rfl rfl ?_
    refine aw_if_eq (pc := 11) (tgt := 18) hC dJ9_floorMod_7cf53_11 (by decide) (fun _ => ?_) (fun _ => ?_)
    · skip
      refine aw_iload_n (pc := 18) (i := 2) hC dJ9_floorMod_7cf53_18 rfl rfl ?_
      exact aw_iretR hC dJ9_floorMod_7cf53_19
    · skip
      refine aw_iload_n (pc := 14) (i := 2) hC dJ9_floorMod_7cf53_14 rfl rfl ?_
      refine aw_iload_n (pc := 15) (i := 1) hC dJ9_floorMod_7cf53_15 rfl rfl ?_
      refine aw_iadd (pc := 16) hC dJ9_floorMod_7cf53_16 ?_
      exact aw_iretR hC dJ9_floorMod_7cf53_17
theorem dX9_holds_0 : decode cX9_holds 0 = .ok (.iload_n 0, 1) := by decide +kernel
theorem dX9_holds_1 : decode cX9_holds 1 = .ok (.iload_n 1, 1) := by decide +kernel
theorem dX9_holds_2 : decode cX9_holds 2 = .ok (.ishr, 1) := by decide +kernel
theorem dX9_holds_3 : decode cX9_holds 3 = .ok (.iconst 1, 1) := by decide +kernel
theorem dX9_holds_4 : decode cX9_holds 4 = .ok (.iand, 1) := by decide +kernel
theorem dX9_holds_5 : decode cX9_holds 5 = .ok (.iconst 1, 1) := by decide +kernel
theorem dX9_holds_6 : decode cX9_holds 6 = .ok (.if_icmp .ne 7, 3) := by decide +kernel
theorem dX9_holds_9 : decode cX9_holds 9 = .ok (.iconst 1, 1) := by decide +kernel
theorem dX9_holds_10 : decode cX9_holds 10 = .ok (.goto 4, 3) := by decide +kernel
theorem dX9_holds_13 : decode cX9_holds 13 = .ok (.iconst 0, 1) := by decide +kernel
theorem dX9_holds_14 : decode cX9_holds 14 = .ok (.ireturn, 1) := by decide +kernel
def f_X9_holds (a1 : Int32) (a2 : Int32) : Option (Int32) := if ((jshr a1 a2) &&& 1) = 1 then (some 1) else (some 0)
set_option maxHeartbeats 4000000 in
set_option maxRecDepth 100000 in
theorem c_X9_holds (G : GG) (l : Launch) (μ : Mem) (a1 : Int32) (a2 : Int32) : CR G l yX9_holds (.code yX9_holds cX9_holds 2 (some .boolean)) 1 [.int a1, .int a2] μ (f_X9_holds a1 a2) := by
  refine CR.of (own := "SaturdayKeep") (L0 := [some (.int a1), some (.int a2)]) rfl rfl rfl (Nat.le_of_ble_eq_true rfl) (fun C hl hC => ?_)
  subst hl
  delta f_X9_holds
  refine aw_iload_n (pc := 0) (i := 0) hC dX9_holds_0 rfl rfl ?_
  refine aw_iload_n (pc := 1) (i := 1) hC dX9_holds_1 rfl rfl ?_
  refine aw_ishr (pc := 2) hC dX9_holds_2 ?_
  refine aw_iconst (pc := 3) (v := 1) hC dX9_holds_3 ic1 ?_
  refine aw_iand (pc := 4) hC dX9_holds_4 ?_
  refine aw_iconst (pc := 5) (v := 1) hC dX9_holds_5 ic1 ?_
  refine aw_icmp_ne (pc := 6) (tgt := 13) hC dX9_holds_6 (by decide) (fun _ => ?_) (fun _ => ?_)
  · skip
    refine aw_iconst (pc := 9) (v := 1) hC dX9_holds_9 ic1 ?_
    refine aw_goto (pc := 10) (tgt := 14) hC dX9_holds_10 (by decide) ?_
    exact aw_zret1R hC dX9_holds_14
  · skip
    refine aw_iconst (pc := 13) (v := 0) hC dX9_holds_13 ic0 ?_
    exact aw_zret0R hC dX9_holds_14
theorem dX9_isRoom_0 : decode cX9_isRoom 0 = .ok (.iload_n 0, 1) := by decide +kernel
theorem dX9_isRoom_1 : decode cX9_isRoom 1 = .ok (.ifCond .lt 13, 3) := by decide +kernel
theorem dX9_isRoom_4 : decode cX9_isRoom 4 = .ok (.iload_n 0, 1) := by decide +kernel
theorem dX9_isRoom_5 : decode cX9_isRoom 5 = .ok (.bipush 8, 2) := by decide +kernel
theorem dX9_isRoom_7 : decode cX9_isRoom 7 = .ok (.if_icmp .ge 7, 3) := by decide +kernel
theorem dX9_isRoom_10 : decode cX9_isRoom 10 = .ok (.iconst 1, 1) := by decide +kernel
theorem dX9_isRoom_11 : decode cX9_isRoom 11 = .ok (.goto 4, 3) := by decide +kernel
theorem dX9_isRoom_14 : decode cX9_isRoom 14 = .ok (.iconst 0, 1) := by decide +kernel
theorem dX9_isRoom_15 : decode cX9_isRoom 15 = .ok (.ireturn, 1) := by decide +kernel
def f_X9_isRoom (a1 : Int32) : Option (Int32) := if a1 < 0 then (some 0) else (if 8 ≤ a1 then (some 0) else (some 1))
set_option maxHeartbeats 4000000 in
set_option maxRecDepth 100000 in
theorem c_X9_isRoom (G : GG) (l : Launch) (μ : Mem) (a1 : Int32) : CR G l yX9_isRoom (.code yX9_isRoom cX9_isRoom 1 (some .boolean)) 1 [.int a1] μ (f_X9_isRoom a1) := by
  refine CR.of (own := "SaturdayKeep") (L0 := [some (.int a1)]) rfl rfl rfl (Nat.le_of_ble_eq_true rfl) (fun C hl hC => ?_)
  subst hl
  delta f_X9_isRoom
  refine aw_iload_n (pc := 0) (i := 0) hC dX9_isRoom_0 rfl rfl ?_
  refine aw_if_lt (pc := 1) (tgt := 14) hC dX9_isRoom_1 (by decide) (fun _ => ?_) (fun _ => ?_)
  · skip
    refine aw_iconst (pc := 14) (v := 0) hC dX9_isRoom_14 ic0 ?_
    exact aw_zret0R hC dX9_isRoom_15
  · skip
    refine aw_iload_n (pc := 4) (i := 0) hC dX9_isRoom_4 rfl rfl ?_
    refine aw_bipush (pc := 5) (v := 8) hC dX9_isRoom_5 bc8 ?_
    refine aw_icmp_ge (pc := 7) (tgt := 14) hC dX9_isRoom_7 (by decide) (fun _ => ?_) (fun _ => ?_)
    · skip
      refine aw_iconst (pc := 14) (v := 0) hC dX9_isRoom_14 ic0 ?_
      exact aw_zret0R hC dX9_isRoom_15
    · skip
      refine aw_iconst (pc := 10) (v := 1) hC dX9_isRoom_10 ic1 ?_
      refine aw_goto (pc := 11) (tgt := 15) hC dX9_isRoom_11 (by decide) ?_
      exact aw_zret1R hC dX9_isRoom_15
theorem dX9_withMember_0 : decode cX9_withMember 0 = .ok (.iload_n 2, 1) := by decide +kernel
theorem dX9_withMember_1 : decode cX9_withMember 1 = .ok (.ifCond .eq 11, 3) := by decide +kernel
theorem dX9_withMember_4 : decode cX9_withMember 4 = .ok (.iload_n 0, 1) := by decide +kernel
theorem dX9_withMember_5 : decode cX9_withMember 5 = .ok (.iconst 1, 1) := by decide +kernel
theorem dX9_withMember_6 : decode cX9_withMember 6 = .ok (.iload_n 1, 1) := by decide +kernel
theorem dX9_withMember_7 : decode cX9_withMember 7 = .ok (.ishl, 1) := by decide +kernel
theorem dX9_withMember_8 : decode cX9_withMember 8 = .ok (.ior, 1) := by decide +kernel
theorem dX9_withMember_9 : decode cX9_withMember 9 = .ok (.goto 10, 3) := by decide +kernel
theorem dX9_withMember_12 : decode cX9_withMember 12 = .ok (.iload_n 0, 1) := by decide +kernel
theorem dX9_withMember_13 : decode cX9_withMember 13 = .ok (.iconst 1, 1) := by decide +kernel
theorem dX9_withMember_14 : decode cX9_withMember 14 = .ok (.iload_n 1, 1) := by decide +kernel
theorem dX9_withMember_15 : decode cX9_withMember 15 = .ok (.ishl, 1) := by decide +kernel
theorem dX9_withMember_16 : decode cX9_withMember 16 = .ok (.iconst (-1), 1) := by decide +kernel
theorem dX9_withMember_17 : decode cX9_withMember 17 = .ok (.ixor, 1) := by decide +kernel
theorem dX9_withMember_18 : decode cX9_withMember 18 = .ok (.iand, 1) := by decide +kernel
theorem dX9_withMember_19 : decode cX9_withMember 19 = .ok (.ireturn, 1) := by decide +kernel
def f_X9_withMember (a1 : Int32) (a2 : Int32) (a3 : Int32) : Option (Int32) := if a3 = 0 then (some (a1 &&& ((jshl 1 a2) ^^^ (-1)))) else (some (a1 ||| (jshl 1 a2)))
set_option maxHeartbeats 4000000 in
set_option maxRecDepth 100000 in
theorem c_X9_withMember (G : GG) (l : Launch) (μ : Mem) (a1 : Int32) (a2 : Int32) (a3 : Int32) : CR G l yX9_withMember (.code yX9_withMember cX9_withMember 3 (some .int)) 1 [.int a1, .int a2, .int a3] μ (f_X9_withMember a1 a2 a3) := by
  refine CR.of (own := "SaturdayKeep") (L0 := [some (.int a1), some (.int a2), some (.int a3)]) rfl rfl rfl (Nat.le_of_ble_eq_true rfl) (fun C hl hC => ?_)
  subst hl
  delta f_X9_withMember
  refine aw_iload_n (pc := 0) (i := 2) hC dX9_withMember_0 rfl rfl ?_
  refine aw_if_eq (pc := 1) (tgt := 12) hC dX9_withMember_1 (by decide) (fun _ => ?_) (fun _ => ?_)
  · skip
    refine aw_iload_n (pc := 12) (i := 0) hC dX9_withMember_12 rfl rfl ?_
    refine aw_iconst (pc := 13) (v := 1) hC dX9_withMember_13 ic1 ?_
    refine aw_iload_n (pc := 14) (i := 1) hC dX9_withMember_14 rfl rfl ?_
    refine aw_ishl (pc := 15) hC dX9_withMember_15 ?_
    refine aw_iconst (pc := 16) (v := (-1)) hC dX9_withMember_16 icm1 ?_
    refine aw_ixor (pc := 17) hC dX9_withMember_17 ?_
    refine aw_iand (pc := 18) hC dX9_withMember_18 ?_
    exact aw_iretR hC dX9_withMember_19
  · skip
    refine aw_iload_n (pc := 4) (i := 0) hC dX9_withMember_4 rfl rfl ?_
    refine aw_iconst (pc := 5) (v := 1) hC dX9_withMember_5 ic1 ?_
    refine aw_iload_n (pc := 6) (i := 1) hC dX9_withMember_6 rfl rfl ?_
    refine aw_ishl (pc := 7) hC dX9_withMember_7 ?_
    refine aw_ior (pc := 8) hC dX9_withMember_8 ?_
    refine aw_goto (pc := 9) (tgt := 19) hC dX9_withMember_9 (by decide) ?_
    exact aw_iretR hC dX9_withMember_19
theorem dX9_isCalendar_0 : decode cX9_isCalendar 0 = .ok (.iload_n 0, 1) := by decide +kernel
theorem dX9_isCalendar_1 : decode cX9_isCalendar 1 = .ok (.ifCond .eq 8, 3) := by decide +kernel
theorem dX9_isCalendar_4 : decode cX9_isCalendar 4 = .ok (.iload_n 0, 1) := by decide +kernel
theorem dX9_isCalendar_5 : decode cX9_isCalendar 5 = .ok (.iconst 1, 1) := by decide +kernel
theorem dX9_isCalendar_6 : decode cX9_isCalendar 6 = .ok (.if_icmp .ne 7, 3) := by decide +kernel
theorem dX9_isCalendar_9 : decode cX9_isCalendar 9 = .ok (.iconst 1, 1) := by decide +kernel
theorem dX9_isCalendar_10 : decode cX9_isCalendar 10 = .ok (.goto 4, 3) := by decide +kernel
theorem dX9_isCalendar_13 : decode cX9_isCalendar 13 = .ok (.iconst 0, 1) := by decide +kernel
theorem dX9_isCalendar_14 : decode cX9_isCalendar 14 = .ok (.ireturn, 1) := by decide +kernel
def f_X9_isCalendar (a1 : Int32) : Option (Int32) := if a1 = 0 then (some 1) else (if a1 = 1 then (some 1) else (some 0))
set_option maxHeartbeats 4000000 in
set_option maxRecDepth 100000 in
theorem c_X9_isCalendar (G : GG) (l : Launch) (μ : Mem) (a1 : Int32) : CR G l yX9_isCalendar (.code yX9_isCalendar cX9_isCalendar 1 (some .boolean)) 1 [.int a1] μ (f_X9_isCalendar a1) := by
  refine CR.of (own := "SaturdayKeep") (L0 := [some (.int a1)]) rfl rfl rfl (Nat.le_of_ble_eq_true rfl) (fun C hl hC => ?_)
  subst hl
  delta f_X9_isCalendar
  refine aw_iload_n (pc := 0) (i := 0) hC dX9_isCalendar_0 rfl rfl ?_
  refine aw_if_eq (pc := 1) (tgt := 9) hC dX9_isCalendar_1 (by decide) (fun _ => ?_) (fun _ => ?_)
  · skip
    refine aw_iconst (pc := 9) (v := 1) hC dX9_isCalendar_9 ic1 ?_
    refine aw_goto (pc := 10) (tgt := 14) hC dX9_isCalendar_10 (by decide) ?_
    exact aw_zret1R hC dX9_isCalendar_14
  · skip
    refine aw_iload_n (pc := 4) (i := 0) hC dX9_isCalendar_4 rfl rfl ?_
    refine aw_iconst (pc := 5) (v := 1) hC dX9_isCalendar_5 ic1 ?_
    refine aw_icmp_ne (pc := 6) (tgt := 13) hC dX9_isCalendar_6 (by decide) (fun _ => ?_) (fun _ => ?_)
    · skip
      refine aw_iconst (pc := 9) (v := 1) hC dX9_isCalendar_9 ic1 ?_
      refine aw_goto (pc := 10) (tgt := 14) hC dX9_isCalendar_10 (by decide) ?_
      exact aw_zret1R hC dX9_isCalendar_14
    · skip
      refine aw_iconst (pc := 13) (v := 0) hC dX9_isCalendar_13 ic0 ?_
      exact aw_zret0R hC dX9_isCalendar_14
theorem dX9_isFar_0 : decode cX9_isFar 0 = .ok (.iload_n 0, 1) := by decide +kernel
theorem dX9_isFar_1 : decode cX9_isFar 1 = .ok (.ifCond .lt 14, 3) := by decide +kernel
theorem dX9_isFar_4 : decode cX9_isFar 4 = .ok (.iload_n 0, 1) := by decide +kernel
theorem dX9_isFar_5 : decode cX9_isFar 5 = .ok (.sipush 400, 3) := by decide +kernel
theorem dX9_isFar_8 : decode cX9_isFar 8 = .ok (.if_icmp .gt 7, 3) := by decide +kernel
theorem dX9_isFar_11 : decode cX9_isFar 11 = .ok (.iconst 1, 1) := by decide +kernel
theorem dX9_isFar_12 : decode cX9_isFar 12 = .ok (.goto 4, 3) := by decide +kernel
theorem dX9_isFar_15 : decode cX9_isFar 15 = .ok (.iconst 0, 1) := by decide +kernel
theorem dX9_isFar_16 : decode cX9_isFar 16 = .ok (.ireturn, 1) := by decide +kernel
def f_X9_isFar (a1 : Int32) : Option (Int32) := if a1 < 0 then (some 0) else (if 400 < a1 then (some 0) else (some 1))
set_option maxHeartbeats 4000000 in
set_option maxRecDepth 100000 in
theorem c_X9_isFar (G : GG) (l : Launch) (μ : Mem) (a1 : Int32) : CR G l yX9_isFar (.code yX9_isFar cX9_isFar 1 (some .boolean)) 1 [.int a1] μ (f_X9_isFar a1) := by
  refine CR.of (own := "SaturdayKeep") (L0 := [some (.int a1)]) rfl rfl rfl (Nat.le_of_ble_eq_true rfl) (fun C hl hC => ?_)
  subst hl
  delta f_X9_isFar
  refine aw_iload_n (pc := 0) (i := 0) hC dX9_isFar_0 rfl rfl ?_
  refine aw_if_lt (pc := 1) (tgt := 15) hC dX9_isFar_1 (by decide) (fun _ => ?_) (fun _ => ?_)
  · skip
    refine aw_iconst (pc := 15) (v := 0) hC dX9_isFar_15 ic0 ?_
    exact aw_zret0R hC dX9_isFar_16
  · skip
    refine aw_iload_n (pc := 4) (i := 0) hC dX9_isFar_4 rfl rfl ?_
    refine aw_sipush (pc := 5) (v := 400) hC dX9_isFar_5 sc400 ?_
    refine aw_icmp_gt (pc := 8) (tgt := 15) hC dX9_isFar_8 (by decide) (fun _ => ?_) (fun _ => ?_)
    · skip
      refine aw_iconst (pc := 15) (v := 0) hC dX9_isFar_15 ic0 ?_
      exact aw_zret0R hC dX9_isFar_16
    · skip
      refine aw_iconst (pc := 11) (v := 1) hC dX9_isFar_11 ic1 ?_
      refine aw_goto (pc := 12) (tgt := 16) hC dX9_isFar_12 (by decide) ?_
      exact aw_zret1R hC dX9_isFar_16
theorem dX9_isTowers_0 : decode cX9_isTowers 0 = .ok (.iload_n 0, 1) := by decide +kernel
theorem dX9_isTowers_1 : decode cX9_isTowers 1 = .ok (.iconst 1, 1) := by decide +kernel
theorem dX9_isTowers_2 : decode cX9_isTowers 2 = .ok (.if_icmp .lt 14, 3) := by decide +kernel
theorem dX9_isTowers_5 : decode cX9_isTowers 5 = .ok (.iload_n 0, 1) := by decide +kernel
theorem dX9_isTowers_6 : decode cX9_isTowers 6 = .ok (.sipush 9999, 3) := by decide +kernel
theorem dX9_isTowers_9 : decode cX9_isTowers 9 = .ok (.if_icmp .gt 7, 3) := by decide +kernel
theorem dX9_isTowers_12 : decode cX9_isTowers 12 = .ok (.iconst 1, 1) := by decide +kernel
theorem dX9_isTowers_13 : decode cX9_isTowers 13 = .ok (.goto 4, 3) := by decide +kernel
theorem dX9_isTowers_16 : decode cX9_isTowers 16 = .ok (.iconst 0, 1) := by decide +kernel
theorem dX9_isTowers_17 : decode cX9_isTowers 17 = .ok (.ireturn, 1) := by decide +kernel
def f_X9_isTowers (a1 : Int32) : Option (Int32) := if a1 < 1 then (some 0) else (if 9999 < a1 then (some 0) else (some 1))
set_option maxHeartbeats 4000000 in
set_option maxRecDepth 100000 in
theorem c_X9_isTowers (G : GG) (l : Launch) (μ : Mem) (a1 : Int32) : CR G l yX9_isTowers (.code yX9_isTowers cX9_isTowers 1 (some .boolean)) 1 [.int a1] μ (f_X9_isTowers a1) := by
  refine CR.of (own := "SaturdayKeep") (L0 := [some (.int a1)]) rfl rfl rfl (Nat.le_of_ble_eq_true rfl) (fun C hl hC => ?_)
  subst hl
  delta f_X9_isTowers
  refine aw_iload_n (pc := 0) (i := 0) hC dX9_isTowers_0 rfl rfl ?_
  refine aw_iconst (pc := 1) (v := 1) hC dX9_isTowers_1 ic1 ?_
  refine aw_icmp_lt (pc := 2) (tgt := 16) hC dX9_isTowers_2 (by decide) (fun _ => ?_) (fun _ => ?_)
  · skip
    refine aw_iconst (pc := 16) (v := 0) hC dX9_isTowers_16 ic0 ?_
    exact aw_zret0R hC dX9_isTowers_17
  · skip
    refine aw_iload_n (pc := 5) (i := 0) hC dX9_isTowers_5 rfl rfl ?_
    refine aw_sipush (pc := 6) (v := 9999) hC dX9_isTowers_6 sc9999 ?_
    refine aw_icmp_gt (pc := 9) (tgt := 16) hC dX9_isTowers_9 (by decide) (fun _ => ?_) (fun _ => ?_)
    · skip
      refine aw_iconst (pc := 16) (v := 0) hC dX9_isTowers_16 ic0 ?_
      exact aw_zret0R hC dX9_isTowers_17
    · skip
      refine aw_iconst (pc := 12) (v := 1) hC dX9_isTowers_12 ic1 ?_
      refine aw_goto (pc := 13) (tgt := 17) hC dX9_isTowers_13 (by decide) ?_
      exact aw_zret1R hC dX9_isTowers_17
theorem dX1_copy_0 : decode cX1_copy 0 = .ok (.aload_n 1, 1) := by decide +kernel
theorem dX1_copy_1 : decode cX1_copy 1 = .ok (.getfield 9, 3) := by decide +kernel
theorem dX1_copy_4 : decode cX1_copy 4 = .ok (.iconst 0, 1) := by decide +kernel
theorem dX1_copy_5 : decode cX1_copy 5 = .ok (.aload_n 0, 1) := by decide +kernel
theorem dX1_copy_6 : decode cX1_copy 6 = .ok (.getfield 9, 3) := by decide +kernel
theorem dX1_copy_9 : decode cX1_copy 9 = .ok (.iconst 0, 1) := by decide +kernel
theorem dX1_copy_10 : decode cX1_copy 10 = .ok (.bipush 8, 2) := by decide +kernel
theorem dX1_copy_12 : decode cX1_copy 12 = .ok (.invokestatic 21, 3) := by decide +kernel
theorem dX1_copy_15 : decode cX1_copy 15 = .ok (.aload_n 1, 1) := by decide +kernel
theorem dX1_copy_16 : decode cX1_copy 16 = .ok (.getfield 15, 3) := by decide +kernel
theorem dX1_copy_19 : decode cX1_copy 19 = .ok (.iconst 0, 1) := by decide +kernel
theorem dX1_copy_20 : decode cX1_copy 20 = .ok (.aload_n 0, 1) := by decide +kernel
theorem dX1_copy_21 : decode cX1_copy 21 = .ok (.getfield 15, 3) := by decide +kernel
theorem dX1_copy_24 : decode cX1_copy 24 = .ok (.iconst 0, 1) := by decide +kernel
theorem dX1_copy_25 : decode cX1_copy 25 = .ok (.bipush 8, 2) := by decide +kernel
theorem dX1_copy_27 : decode cX1_copy 27 = .ok (.invokestatic 21, 3) := by decide +kernel
theorem dX1_copy_30 : decode cX1_copy 30 = .ok (.aload_n 1, 1) := by decide +kernel
theorem dX1_copy_31 : decode cX1_copy 31 = .ok (.getfield 18, 3) := by decide +kernel
theorem dX1_copy_34 : decode cX1_copy 34 = .ok (.iconst 0, 1) := by decide +kernel
theorem dX1_copy_35 : decode cX1_copy 35 = .ok (.aload_n 0, 1) := by decide +kernel
theorem dX1_copy_36 : decode cX1_copy 36 = .ok (.getfield 18, 3) := by decide +kernel
theorem dX1_copy_39 : decode cX1_copy 39 = .ok (.iconst 0, 1) := by decide +kernel
theorem dX1_copy_40 : decode cX1_copy 40 = .ok (.bipush 8, 2) := by decide +kernel
theorem dX1_copy_42 : decode cX1_copy 42 = .ok (.invokestatic 21, 3) := by decide +kernel
theorem dX1_copy_45 : decode cX1_copy 45 = .ok (.aload_n 0, 1) := by decide +kernel
theorem dX1_copy_46 : decode cX1_copy 46 = .ok (.aload_n 1, 1) := by decide +kernel
theorem dX1_copy_47 : decode cX1_copy 47 = .ok (.getfield 27, 3) := by decide +kernel
theorem dX1_copy_50 : decode cX1_copy 50 = .ok (.putfield 27, 3) := by decide +kernel
theorem dX1_copy_53 : decode cX1_copy 53 = .ok (.aload_n 0, 1) := by decide +kernel
theorem dX1_copy_54 : decode cX1_copy 54 = .ok (.aload_n 1, 1) := by decide +kernel
theorem dX1_copy_55 : decode cX1_copy 55 = .ok (.getfield 31, 3) := by decide +kernel
theorem dX1_copy_58 : decode cX1_copy 58 = .ok (.putfield 31, 3) := by decide +kernel
theorem dX1_copy_61 : decode cX1_copy 61 = .ok (.aload_n 0, 1) := by decide +kernel
theorem dX1_copy_62 : decode cX1_copy 62 = .ok (.aload_n 1, 1) := by decide +kernel
theorem dX1_copy_63 : decode cX1_copy 63 = .ok (.getfield 34, 3) := by decide +kernel
theorem dX1_copy_66 : decode cX1_copy 66 = .ok (.putfield 34, 3) := by decide +kernel
theorem dX1_copy_69 : decode cX1_copy 69 = .ok (.return_, 1) := by decide +kernel
def f_X1_copy (h h1 : Nat) (μ : Mem) : Option (Mem) := cpx 0 0 8 8 8 (nm (cpm μ (h1 + 1) 2 (Int32.toNatClampNeg 0) (h + 1) 2 (Int32.toNatClampNeg 0) (Int32.toNatClampNeg 8)) fun (μ1 : Mem) => cpx 0 0 8 8 8 (nm (cpm μ1 (h1 + 1) 3 (Int32.toNatClampNeg 0) (h + 1) 3 (Int32.toNatClampNeg 0) (Int32.toNatClampNeg 8)) fun (μ2 : Mem) => cpx 0 0 8 8 8 (nm (cpm μ2 (h1 + 1) 4 (Int32.toNatClampNeg 0) (h + 1) 4 (Int32.toNatClampNeg 0) (Int32.toNatClampNeg 8)) fun (μ3 : Mem) => nm (upm μ3 (h + 1) 1 3 (μ3 (h1 + 1) 1 3)) fun (μ4 : Mem) => nm (upm μ4 (h + 1) 1 4 (μ4 (h1 + 1) 1 4)) fun (μ5 : Mem) => nm (upm μ5 (h + 1) 1 5 (μ5 (h1 + 1) 1 5)) fun (μ6 : Mem) => some μ6)))
set_option maxHeartbeats 4000000 in
set_option maxRecDepth 100000 in
theorem c_X1_copy (G : GG) (l : Launch) (h h1 : Nat) (hh : h < 15) (hh1 : h1 < 15) (μ : Mem) : CV G l yX1_copy (.code yX1_copy cX1_copy 2 none) 2 [.ref (gad G (h + 1) 1), .ref (gad G (h1 + 1) 1)] μ (f_X1_copy h h1 μ) := by
  refine CV.of (own := "SaturdayKeep$Guests") (L0 := [some (.ref (gad G (h + 1) 1)), some (.ref (gad G (h1 + 1) 1))]) rfl rfl rfl (Nat.le_of_ble_eq_true rfl) (fun C hl hC => ?_)
  subst hl
  delta f_X1_copy
  refine aw_aload_n (pc := 0) (i := 1) hC dX1_copy_0 rfl rfl ?_
  refine aw_get (pc := 1) hC inX1 (vH (j := 1) hh1 (by decide)) rfl rfl 0 (by decide) kw140 rfl rfl dX1_copy_1 ?_
  refine aw_iconst (pc := 4) (v := 0) hC dX1_copy_4 ic0 ?_
  refine aw_aload_n (pc := 5) (i := 0) hC dX1_copy_5 rfl rfl ?_
  refine aw_get (pc := 6) hC inX1 (vH (j := 1) hh (by decide)) rfl rfl 0 (by decide) kw140 rfl rfl dX1_copy_6 ?_
  refine aw_iconst (pc := 9) (v := 0) hC dX1_copy_9 ic0 ?_
  refine aw_bipush (pc := 10) (v := 8) hC dX1_copy_10 bc8 ?_
  refine aw_copyN (pc := 12) hC kw354 kw356 kw355 kw17 (vH (j := 2) hh1 (by decide)) (vH (j := 2) hh (by decide)) rfl (fun _ => rfl) (by decide) (Nat.le_of_ble_eq_true rfl) dX1_copy_12 (fun μ1 => ?_)
  refine aw_aload_n (pc := 15) (i := 1) hC dX1_copy_15 rfl rfl ?_
  refine aw_get (pc := 16) hC inX1 (vH (j := 1) hh1 (by decide)) rfl rfl 1 (by decide) kw141 rfl rfl dX1_copy_16 ?_
  refine aw_iconst (pc := 19) (v := 0) hC dX1_copy_19 ic0 ?_
  refine aw_aload_n (pc := 20) (i := 0) hC dX1_copy_20 rfl rfl ?_
  refine aw_get (pc := 21) hC inX1 (vH (j := 1) hh (by decide)) rfl rfl 1 (by decide) kw141 rfl rfl dX1_copy_21 ?_
  refine aw_iconst (pc := 24) (v := 0) hC dX1_copy_24 ic0 ?_
  refine aw_bipush (pc := 25) (v := 8) hC dX1_copy_25 bc8 ?_
  refine aw_copyN (pc := 27) hC kw354 kw356 kw355 kw17 (vH (j := 3) hh1 (by decide)) (vH (j := 3) hh (by decide)) rfl (fun _ => rfl) (by decide) (Nat.le_of_ble_eq_true rfl) dX1_copy_27 (fun μ2 => ?_)
  refine aw_aload_n (pc := 30) (i := 1) hC dX1_copy_30 rfl rfl ?_
  refine aw_get (pc := 31) hC inX1 (vH (j := 1) hh1 (by decide)) rfl rfl 2 (by decide) kw142 rfl rfl dX1_copy_31 ?_
  refine aw_iconst (pc := 34) (v := 0) hC dX1_copy_34 ic0 ?_
  refine aw_aload_n (pc := 35) (i := 0) hC dX1_copy_35 rfl rfl ?_
  refine aw_get (pc := 36) hC inX1 (vH (j := 1) hh (by decide)) rfl rfl 2 (by decide) kw142 rfl rfl dX1_copy_36 ?_
  refine aw_iconst (pc := 39) (v := 0) hC dX1_copy_39 ic0 ?_
  refine aw_bipush (pc := 40) (v := 8) hC dX1_copy_40 bc8 ?_
  refine aw_copyN (pc := 42) hC kw354 kw356 kw355 kw17 (vH (j := 4) hh1 (by decide)) (vH (j := 4) hh (by decide)) rfl (fun _ => rfl) (by decide) (Nat.le_of_ble_eq_true rfl) dX1_copy_42 (fun μ3 => ?_)
  refine aw_aload_n (pc := 45) (i := 0) hC dX1_copy_45 rfl rfl ?_
  refine aw_aload_n (pc := 46) (i := 1) hC dX1_copy_46 rfl rfl ?_
  refine aw_get (pc := 47) hC inX1 (vH (j := 1) hh1 (by decide)) rfl rfl 3 (by decide) kw143 rfl rfl dX1_copy_47 ?_
  refine aw_putIN (pc := 50) hC inX1 (vH (j := 1) hh (by decide)) rfl rfl 3 (by decide) kw143 rfl tyX1 tyX1_ok nmX1 rfl rfl (Nat.le_of_ble_eq_true rfl) rfl dX1_copy_50 (fun μ4 => ?_)
  refine aw_aload_n (pc := 53) (i := 0) hC dX1_copy_53 rfl rfl ?_
  refine aw_aload_n (pc := 54) (i := 1) hC dX1_copy_54 rfl rfl ?_
  refine aw_get (pc := 55) hC inX1 (vH (j := 1) hh1 (by decide)) rfl rfl 4 (by decide) kw146 rfl rfl dX1_copy_55 ?_
  refine aw_putIN (pc := 58) hC inX1 (vH (j := 1) hh (by decide)) rfl rfl 4 (by decide) kw146 rfl tyX1 tyX1_ok nmX1 rfl rfl (Nat.le_of_ble_eq_true rfl) rfl dX1_copy_58 (fun μ5 => ?_)
  refine aw_aload_n (pc := 61) (i := 0) hC dX1_copy_61 rfl rfl ?_
  refine aw_aload_n (pc := 62) (i := 1) hC dX1_copy_62 rfl rfl ?_
  refine aw_get (pc := 63) hC inX1 (vH (j := 1) hh1 (by decide)) rfl rfl 5 (by decide) kw149 rfl rfl dX1_copy_63 ?_
  refine aw_putIN (pc := 66) hC inX1 (vH (j := 1) hh (by decide)) rfl rfl 5 (by decide) kw149 rfl tyX1 tyX1_ok nmX1 rfl rfl (Nat.le_of_ble_eq_true rfl) rfl dX1_copy_66 (fun μ6 => ?_)
  exact aw_vret hC dX1_copy_69
theorem dX1_isNumber_0 : decode cX1_isNumber 0 = .ok (.iload_n 0, 1) := by decide +kernel
theorem dX1_isNumber_1 : decode cX1_isNumber 1 = .ok (.ifCond .lt 13, 3) := by decide +kernel
theorem dX1_isNumber_4 : decode cX1_isNumber 4 = .ok (.iload_n 0, 1) := by decide +kernel
theorem dX1_isNumber_5 : decode cX1_isNumber 5 = .ok (.bipush 8, 2) := by decide +kernel
theorem dX1_isNumber_7 : decode cX1_isNumber 7 = .ok (.if_icmp .ge 7, 3) := by decide +kernel
theorem dX1_isNumber_10 : decode cX1_isNumber 10 = .ok (.iconst 1, 1) := by decide +kernel
theorem dX1_isNumber_11 : decode cX1_isNumber 11 = .ok (.goto 4, 3) := by decide +kernel
theorem dX1_isNumber_14 : decode cX1_isNumber 14 = .ok (.iconst 0, 1) := by decide +kernel
theorem dX1_isNumber_15 : decode cX1_isNumber 15 = .ok (.ireturn, 1) := by decide +kernel
def f_X1_isNumber (a1 : Int32) : Option (Int32) := if a1 < 0 then (some 0) else (if 8 ≤ a1 then (some 0) else (some 1))
set_option maxHeartbeats 4000000 in
set_option maxRecDepth 100000 in
theorem c_X1_isNumber (G : GG) (l : Launch) (μ : Mem) (a1 : Int32) : CR G l yX1_isNumber (.code yX1_isNumber cX1_isNumber 1 (some .boolean)) 1 [.int a1] μ (f_X1_isNumber a1) := by
  refine CR.of (own := "SaturdayKeep$Guests") (L0 := [some (.int a1)]) rfl rfl rfl (Nat.le_of_ble_eq_true rfl) (fun C hl hC => ?_)
  subst hl
  delta f_X1_isNumber
  refine aw_iload_n (pc := 0) (i := 0) hC dX1_isNumber_0 rfl rfl ?_
  refine aw_if_lt (pc := 1) (tgt := 14) hC dX1_isNumber_1 (by decide) (fun _ => ?_) (fun _ => ?_)
  · skip
    refine aw_iconst (pc := 14) (v := 0) hC dX1_isNumber_14 ic0 ?_
    exact aw_zret0R hC dX1_isNumber_15
  · skip
    refine aw_iload_n (pc := 4) (i := 0) hC dX1_isNumber_4 rfl rfl ?_
    refine aw_bipush (pc := 5) (v := 8) hC dX1_isNumber_5 bc8 ?_
    refine aw_icmp_ge (pc := 7) (tgt := 14) hC dX1_isNumber_7 (by decide) (fun _ => ?_) (fun _ => ?_)
    · skip
      refine aw_iconst (pc := 14) (v := 0) hC dX1_isNumber_14 ic0 ?_
      exact aw_zret0R hC dX1_isNumber_15
    · skip
      refine aw_iconst (pc := 10) (v := 1) hC dX1_isNumber_10 ic1 ?_
      refine aw_goto (pc := 11) (tgt := 15) hC dX1_isNumber_11 (by decide) ?_
      exact aw_zret1R hC dX1_isNumber_15
theorem dX1_roomOf_0 : decode cX1_roomOf 0 = .ok (.iload_n 1, 1) := by decide +kernel
theorem dX1_roomOf_1 : decode cX1_roomOf 1 = .ok (.invokestatic 41, 3) := by decide +kernel
theorem dX1_roomOf_4 : decode cX1_roomOf 4 = .ok (.ifCond .eq 12, 3) := by decide +kernel
theorem dX1_roomOf_7 : decode cX1_roomOf 7 = .ok (.aload_n 0, 1) := by decide +kernel
theorem dX1_roomOf_8 : decode cX1_roomOf 8 = .ok (.getfield 9, 3) := by decide +kernel
theorem dX1_roomOf_11 : decode cX1_roomOf 11 = .ok (.iload_n 1, 1) := by decide +kernel
theorem dX1_roomOf_12 : decode cX1_roomOf 12 = .ok (.iaload, 1) := by decide +kernel
theorem dX1_roomOf_13 : decode cX1_roomOf 13 = .ok (.goto 4, 3) := by decide +kernel
theorem dX1_roomOf_16 : decode cX1_roomOf 16 = .ok (.iconst (-1), 1) := by decide +kernel
theorem dX1_roomOf_17 : decode cX1_roomOf 17 = .ok (.ireturn, 1) := by decide +kernel
def f_X1_roomOf (h : Nat) (μ : Mem) (a1 : Int32) : Option (Int32) := (f_X1_isNumber a1).bind fun (q1 : Int32) => if q1 = 0 then (some (-1)) else (ix a1 8 (some (μ (h + 1) 2 a1.toNatClampNeg)))
set_option maxHeartbeats 4000000 in
set_option maxRecDepth 100000 in
theorem c_X1_roomOf (G : GG) (l : Launch) (h : Nat) (hh : h < 15) (μ : Mem) (a1 : Int32) : CR G l yX1_roomOf (.code yX1_roomOf cX1_roomOf 2 (some .int)) 2 [.ref (gad G (h + 1) 1), .int a1] μ (f_X1_roomOf h μ a1) := by
  refine CR.of (own := "SaturdayKeep$Guests") (L0 := [some (.ref (gad G (h + 1) 1)), some (.int a1)]) rfl rfl rfl (Nat.le_of_ble_eq_true rfl) (fun C hl hC => ?_)
  subst hl
  delta f_X1_roomOf
  refine aw_iload_n (pc := 0) (i := 1) hC dX1_roomOf_0 rfl rfl ?_
  refine aw_callSR (pc := 1) (As := [.int a1]) hC ms_X1_isNumber kw398 (by decide) (c_X1_isNumber G C.2.1   μ a1) rfl (Nat.le_of_ble_eq_true rfl) dX1_roomOf_1 (fun q1 => ?_)
  refine aw_if_eq (pc := 4) (tgt := 16) hC dX1_roomOf_4 (by decide) (fun _ => ?_) (fun _ => ?_)
  · skip
    refine aw_iconst (pc := 16) (v := (-1)) hC dX1_roomOf_16 icm1 ?_
    exact aw_iretR hC dX1_roomOf_17
  · skip
    refine aw_aload_n (pc := 7) (i := 0) hC dX1_roomOf_7 rfl rfl ?_
    refine aw_get (pc := 8) hC inX1 (vH (j := 1) hh (by decide)) rfl rfl 0 (by decide) kw140 rfl rfl dX1_roomOf_8 ?_
    refine aw_iload_n (pc := 11) (i := 1) hC dX1_roomOf_11 rfl rfl ?_
    refine aw_iaload (pc := 12) hC (vH (j := 2) hh (by decide)) rfl dX1_roomOf_12 ?_
    refine aw_goto (pc := 13) (tgt := 17) hC dX1_roomOf_13 (by decide) ?_
    exact aw_iretR hC dX1_roomOf_17
theorem dX1_doubtOf_0 : decode cX1_doubtOf 0 = .ok (.iload_n 1, 1) := by decide +kernel
theorem dX1_doubtOf_1 : decode cX1_doubtOf 1 = .ok (.invokestatic 41, 3) := by decide +kernel
theorem dX1_doubtOf_4 : decode cX1_doubtOf 4 = .ok (.ifCond .eq 12, 3) := by decide +kernel
theorem dX1_doubtOf_7 : decode cX1_doubtOf 7 = .ok (.aload_n 0, 1) := by decide +kernel
theorem dX1_doubtOf_8 : decode cX1_doubtOf 8 = .ok (.getfield 18, 3) := by decide +kernel
theorem dX1_doubtOf_11 : decode cX1_doubtOf 11 = .ok (.iload_n 1, 1) := by decide +kernel
theorem dX1_doubtOf_12 : decode cX1_doubtOf 12 = .ok (.iaload, 1) := by decide +kernel
theorem dX1_doubtOf_13 : decode cX1_doubtOf 13 = .ok (.goto 4, 3) := by decide +kernel
theorem dX1_doubtOf_16 : decode cX1_doubtOf 16 = .ok (.iconst 0, 1) := by decide +kernel
theorem dX1_doubtOf_17 : decode cX1_doubtOf 17 = .ok (.ireturn, 1) := by decide +kernel
def f_X1_doubtOf (h : Nat) (μ : Mem) (a1 : Int32) : Option (Int32) := (f_X1_isNumber a1).bind fun (q1 : Int32) => if q1 = 0 then (some 0) else (ix a1 8 (some (μ (h + 1) 4 a1.toNatClampNeg)))
set_option maxHeartbeats 4000000 in
set_option maxRecDepth 100000 in
theorem c_X1_doubtOf (G : GG) (l : Launch) (h : Nat) (hh : h < 15) (μ : Mem) (a1 : Int32) : CR G l yX1_doubtOf (.code yX1_doubtOf cX1_doubtOf 2 (some .int)) 2 [.ref (gad G (h + 1) 1), .int a1] μ (f_X1_doubtOf h μ a1) := by
  refine CR.of (own := "SaturdayKeep$Guests") (L0 := [some (.ref (gad G (h + 1) 1)), some (.int a1)]) rfl rfl rfl (Nat.le_of_ble_eq_true rfl) (fun C hl hC => ?_)
  subst hl
  delta f_X1_doubtOf
  refine aw_iload_n (pc := 0) (i := 1) hC dX1_doubtOf_0 rfl rfl ?_
  refine aw_callSR (pc := 1) (As := [.int a1]) hC ms_X1_isNumber kw398 (by decide) (c_X1_isNumber G C.2.1   μ a1) rfl (Nat.le_of_ble_eq_true rfl) dX1_doubtOf_1 (fun q1 => ?_)
  refine aw_if_eq (pc := 4) (tgt := 16) hC dX1_doubtOf_4 (by decide) (fun _ => ?_) (fun _ => ?_)
  · skip
    refine aw_iconst (pc := 16) (v := 0) hC dX1_doubtOf_16 ic0 ?_
    exact aw_iretR hC dX1_doubtOf_17
  · skip
    refine aw_aload_n (pc := 7) (i := 0) hC dX1_doubtOf_7 rfl rfl ?_
    refine aw_get (pc := 8) hC inX1 (vH (j := 1) hh (by decide)) rfl rfl 2 (by decide) kw142 rfl rfl dX1_doubtOf_8 ?_
    refine aw_iload_n (pc := 11) (i := 1) hC dX1_doubtOf_11 rfl rfl ?_
    refine aw_iaload (pc := 12) hC (vH (j := 4) hh (by decide)) rfl dX1_doubtOf_12 ?_
    refine aw_goto (pc := 13) (tgt := 17) hC dX1_doubtOf_13 (by decide) ?_
    exact aw_iretR hC dX1_doubtOf_17
theorem dX1_wishOf_0 : decode cX1_wishOf 0 = .ok (.iload_n 1, 1) := by decide +kernel
theorem dX1_wishOf_1 : decode cX1_wishOf 1 = .ok (.invokestatic 41, 3) := by decide +kernel
theorem dX1_wishOf_4 : decode cX1_wishOf 4 = .ok (.ifCond .eq 12, 3) := by decide +kernel
theorem dX1_wishOf_7 : decode cX1_wishOf 7 = .ok (.aload_n 0, 1) := by decide +kernel
theorem dX1_wishOf_8 : decode cX1_wishOf 8 = .ok (.getfield 15, 3) := by decide +kernel
theorem dX1_wishOf_11 : decode cX1_wishOf 11 = .ok (.iload_n 1, 1) := by decide +kernel
theorem dX1_wishOf_12 : decode cX1_wishOf 12 = .ok (.iaload, 1) := by decide +kernel
theorem dX1_wishOf_13 : decode cX1_wishOf 13 = .ok (.goto 4, 3) := by decide +kernel
theorem dX1_wishOf_16 : decode cX1_wishOf 16 = .ok (.iconst 0, 1) := by decide +kernel
theorem dX1_wishOf_17 : decode cX1_wishOf 17 = .ok (.ireturn, 1) := by decide +kernel
def f_X1_wishOf (h : Nat) (μ : Mem) (a1 : Int32) : Option (Int32) := (f_X1_isNumber a1).bind fun (q1 : Int32) => if q1 = 0 then (some 0) else (ix a1 8 (some (μ (h + 1) 3 a1.toNatClampNeg)))
set_option maxHeartbeats 4000000 in
set_option maxRecDepth 100000 in
theorem c_X1_wishOf (G : GG) (l : Launch) (h : Nat) (hh : h < 15) (μ : Mem) (a1 : Int32) : CR G l yX1_wishOf (.code yX1_wishOf cX1_wishOf 2 (some .int)) 2 [.ref (gad G (h + 1) 1), .int a1] μ (f_X1_wishOf h μ a1) := by
  refine CR.of (own := "SaturdayKeep$Guests") (L0 := [some (.ref (gad G (h + 1) 1)), some (.int a1)]) rfl rfl rfl (Nat.le_of_ble_eq_true rfl) (fun C hl hC => ?_)
  subst hl
  delta f_X1_wishOf
  refine aw_iload_n (pc := 0) (i := 1) hC dX1_wishOf_0 rfl rfl ?_
  refine aw_callSR (pc := 1) (As := [.int a1]) hC ms_X1_isNumber kw398 (by decide) (c_X1_isNumber G C.2.1   μ a1) rfl (Nat.le_of_ble_eq_true rfl) dX1_wishOf_1 (fun q1 => ?_)
  refine aw_if_eq (pc := 4) (tgt := 16) hC dX1_wishOf_4 (by decide) (fun _ => ?_) (fun _ => ?_)
  · skip
    refine aw_iconst (pc := 16) (v := 0) hC dX1_wishOf_16 ic0 ?_
    exact aw_iretR hC dX1_wishOf_17
  · skip
    refine aw_aload_n (pc := 7) (i := 0) hC dX1_wishOf_7 rfl rfl ?_
    refine aw_get (pc := 8) hC inX1 (vH (j := 1) hh (by decide)) rfl rfl 1 (by decide) kw141 rfl rfl dX1_wishOf_8 ?_
    refine aw_iload_n (pc := 11) (i := 1) hC dX1_wishOf_11 rfl rfl ?_
    refine aw_iaload (pc := 12) hC (vH (j := 3) hh (by decide)) rfl dX1_wishOf_12 ?_
    refine aw_goto (pc := 13) (tgt := 17) hC dX1_wishOf_13 (by decide) ?_
    exact aw_iretR hC dX1_wishOf_17
theorem dX1_risk_0 : decode cX1_risk 0 = .ok (.aload_n 0, 1) := by decide +kernel
theorem dX1_risk_1 : decode cX1_risk 1 = .ok (.iload_n 1, 1) := by decide +kernel
theorem dX1_risk_2 : decode cX1_risk 2 = .ok (.invokevirtual 54, 3) := by decide +kernel
theorem dX1_risk_5 : decode cX1_risk 5 = .ok (.bipush 50, 2) := by decide +kernel
theorem dX1_risk_7 : decode cX1_risk 7 = .ok (.if_icmp .lt 11, 3) := by decide +kernel
theorem dX1_risk_10 : decode cX1_risk 10 = .ok (.aload_n 0, 1) := by decide +kernel
theorem dX1_risk_11 : decode cX1_risk 11 = .ok (.iload_n 1, 1) := by decide +kernel
theorem dX1_risk_12 : decode cX1_risk 12 = .ok (.invokevirtual 58, 3) := by decide +kernel
theorem dX1_risk_15 : decode cX1_risk 15 = .ok (.goto 10, 3) := by decide +kernel
theorem dX1_risk_18 : decode cX1_risk 18 = .ok (.aload_n 0, 1) := by decide +kernel
theorem dX1_risk_19 : decode cX1_risk 19 = .ok (.iload_n 1, 1) := by decide +kernel
theorem dX1_risk_20 : decode cX1_risk 20 = .ok (.invokevirtual 58, 3) := by decide +kernel
theorem dX1_risk_23 : decode cX1_risk 23 = .ok (.iconst 2, 1) := by decide +kernel
theorem dX1_risk_24 : decode cX1_risk 24 = .ok (.idiv, 1) := by decide +kernel
theorem dX1_risk_25 : decode cX1_risk 25 = .ok (.ireturn, 1) := by decide +kernel
def f_X1_risk (h : Nat) (μ : Mem) (a1 : Int32) : Option (Int32) := (f_X1_doubtOf h μ a1).bind fun (q1 : Int32) => if q1 < 50 then ((f_X1_wishOf h μ a1).bind fun (q2 : Int32) => some (q2 / 2)) else ((f_X1_wishOf h μ a1).bind fun (q3 : Int32) => some q3)
set_option maxHeartbeats 4000000 in
set_option maxRecDepth 100000 in
theorem c_X1_risk (G : GG) (l : Launch) (h : Nat) (hh : h < 15) (μ : Mem) (a1 : Int32) : CR G l yX1_risk (.code yX1_risk cX1_risk 2 (some .int)) 3 [.ref (gad G (h + 1) 1), .int a1] μ (f_X1_risk h μ a1) := by
  refine CR.of (own := "SaturdayKeep$Guests") (L0 := [some (.ref (gad G (h + 1) 1)), some (.int a1)]) rfl rfl rfl (Nat.le_of_ble_eq_true rfl) (fun C hl hC => ?_)
  subst hl
  delta f_X1_risk
  refine aw_aload_n (pc := 0) (i := 0) hC dX1_risk_0 rfl rfl ?_
  refine aw_iload_n (pc := 1) (i := 1) hC dX1_risk_1 rfl rfl ?_
  refine aw_callVR (pc := 2) (As := [.int a1]) hC mb_X1_doubtOf kw420 (by decide) (c_X1_doubtOf G C.2.1 h (Nat.lt_of_lt_of_le hh (by decide)) μ a1) (vH (j := 1) hh (by decide)) rfl rfl rfl (Nat.le_of_ble_eq_true rfl) dX1_risk_2 (fun q1 => ?_)
  refine aw_bipush (pc := 5) (v := 50) hC dX1_risk_5 bc50 ?_
  refine aw_icmp_lt (pc := 7) (tgt := 18) hC dX1_risk_7 (by decide) (fun _ => ?_) (fun _ => ?_)
  · skip
    refine aw_aload_n (pc := 18) (i := 0) hC dX1_risk_18 rfl rfl ?_
    refine aw_iload_n (pc := 19) (i := 1) hC dX1_risk_19 rfl rfl ?_
    refine aw_callVR (pc := 20) (As := [.int a1]) hC mb_X1_wishOf kw424 (by decide) (c_X1_wishOf G C.2.1 h (Nat.lt_of_lt_of_le hh (by decide)) μ a1) (vH (j := 1) hh (by decide)) rfl rfl rfl (Nat.le_of_ble_eq_true rfl) dX1_risk_20 (fun q2 => ?_)
    refine aw_iconst (pc := 23) (v := 2) hC dX1_risk_23 ic2 ?_
    refine aw_idiv (pc := 24) hC dX1_risk_24 (by decide) ?_
    exact aw_iretR hC dX1_risk_25
  · skip
    refine aw_aload_n (pc := 10) (i := 0) hC dX1_risk_10 rfl rfl ?_
    refine aw_iload_n (pc := 11) (i := 1) hC dX1_risk_11 rfl rfl ?_
    refine aw_callVR (pc := 12) (As := [.int a1]) hC mb_X1_wishOf kw424 (by decide) (c_X1_wishOf G C.2.1 h (Nat.lt_of_lt_of_le hh (by decide)) μ a1) (vH (j := 1) hh (by decide)) rfl rfl rfl (Nat.le_of_ble_eq_true rfl) dX1_risk_12 (fun q3 => ?_)
    refine aw_goto (pc := 15) (tgt := 25) hC dX1_risk_15 (by decide) ?_
    exact aw_iretR hC dX1_risk_25
theorem dX1_hereIn_0 : decode cX1_hereIn 0 = .ok (.iconst 0, 1) := by decide +kernel
theorem dX1_hereIn_1 : decode cX1_hereIn 1 = .ok (.istore_n 2, 1) := by decide +kernel
theorem dX1_hereIn_2 : decode cX1_hereIn 2 = .ok (.iconst 0, 1) := by decide +kernel
theorem dX1_hereIn_3 : decode cX1_hereIn 3 = .ok (.istore_n 3, 1) := by decide +kernel
theorem dX1_hereIn_4 : decode cX1_hereIn 4 = .ok (.iload_n 3, 1) := by decide +kernel
theorem dX1_hereIn_5 : decode cX1_hereIn 5 = .ok (.bipush 8, 2) := by decide +kernel
theorem dX1_hereIn_7 : decode cX1_hereIn 7 = .ok (.if_icmp .ge 41, 3) := by decide +kernel
theorem dX1_hereIn_10 : decode cX1_hereIn 10 = .ok (.iload_n 2, 1) := by decide +kernel
theorem dX1_hereIn_11 : decode cX1_hereIn 11 = .ok (.iload_n 3, 1) := by decide +kernel
theorem dX1_hereIn_12 : decode cX1_hereIn 12 = .ok (.aload_n 0, 1) := by decide +kernel
theorem dX1_hereIn_13 : decode cX1_hereIn 13 = .ok (.getfield 34, 3) := by decide +kernel
theorem dX1_hereIn_16 : decode cX1_hereIn 16 = .ok (.iload_n 3, 1) := by decide +kernel
theorem dX1_hereIn_17 : decode cX1_hereIn 17 = .ok (.invokestatic 61, 3) := by decide +kernel
theorem dX1_hereIn_20 : decode cX1_hereIn 20 = .ok (.ifCond .eq 17, 3) := by decide +kernel
theorem dX1_hereIn_23 : decode cX1_hereIn 23 = .ok (.aload_n 0, 1) := by decide +kernel
theorem dX1_hereIn_24 : decode cX1_hereIn 24 = .ok (.getfield 9, 3) := by decide +kernel
theorem dX1_hereIn_27 : decode cX1_hereIn 27 = .ok (.iload_n 3, 1) := by decide +kernel
theorem dX1_hereIn_28 : decode cX1_hereIn 28 = .ok (.iaload, 1) := by decide +kernel
theorem dX1_hereIn_29 : decode cX1_hereIn 29 = .ok (.iload_n 1, 1) := by decide +kernel
theorem dX1_hereIn_30 : decode cX1_hereIn 30 = .ok (.if_icmp .ne 7, 3) := by decide +kernel
theorem dX1_hereIn_33 : decode cX1_hereIn 33 = .ok (.iconst 1, 1) := by decide +kernel
theorem dX1_hereIn_34 : decode cX1_hereIn 34 = .ok (.goto 4, 3) := by decide +kernel
theorem dX1_hereIn_37 : decode cX1_hereIn 37 = .ok (.iconst 0, 1) := by decide +kernel
theorem dX1_hereIn_38 : decode cX1_hereIn 38 = .ok (.invokestatic 37, 3) := by decide +kernel
theorem dX1_hereIn_41 : decode cX1_hereIn 41 = .ok (.istore_n 2, 1) := by decide +kernel
theorem dX1_hereIn_42 : decode cX1_hereIn 42 = .ok (.iinc 3 1, 3) := by decide +kernel
theorem dX1_hereIn_45 : decode cX1_hereIn 45 = .ok (.goto (-41), 3) := by decide +kernel
theorem dX1_hereIn_48 : decode cX1_hereIn 48 = .ok (.iload_n 2, 1) := by decide +kernel
theorem dX1_hereIn_49 : decode cX1_hereIn 49 = .ok (.ireturn, 1) := by decide +kernel
def lp_X1_hereIn_4 (a1 : Int32) (h : Nat) (μ : Mem) : Nat → Int32 → Int32 → Option (Int32)
  | 0, _, _ => none
  | n + 1, x1, x2 => if 8 ≤ x2 then (some x1) else ((f_X9_holds (μ (h + 1) 1 5) x2).bind fun (q3 : Int32) => nm (fun (x4 : Int32) => (f_X9_withMember x1 x2 x4).bind fun (q5 : Int32) => lp_X1_hereIn_4 a1 h μ n q5 (x2 + 1)) fun (J38 : Int32 → Option (Int32)) => nm (J38 0) fun (J37 : Option (Int32)) => if q3 = 0 then (J37) else (ix x2 8 (if (μ (h + 1) 2 x2.toNatClampNeg) = a1 then (J38 1) else (J37))))
def f_X1_hereIn (h : Nat) (μ : Mem) (a1 : Int32) : Option (Int32) := lp_X1_hereIn_4 a1 h μ 4096 0 0
set_option maxHeartbeats 4000000 in
set_option maxRecDepth 100000 in
theorem c_X1_hereIn (G : GG) (l : Launch) (h : Nat) (hh : h < 15) (μ : Mem) (a1 : Int32) : CR G l yX1_hereIn (.code yX1_hereIn cX1_hereIn 4 (some .int)) 2 [.ref (gad G (h + 1) 1), .int a1] μ (f_X1_hereIn h μ a1) := by
  refine CR.of (own := "SaturdayKeep$Guests") (L0 := [some (.ref (gad G (h + 1) 1)), some (.int a1), none, none]) rfl rfl rfl (Nat.le_of_ble_eq_true rfl) (fun C hl hC => ?_)
  subst hl
  delta f_X1_hereIn
  refine aw_iconst (pc := 0) (v := 0) hC dX1_hereIn_0 ic0 ?_
  refine aw_istore_n (pc := 1) (i := 2) hC dX1_hereIn_1 rfl rfl (by decide) ?_
  refine aw_iconst (pc := 2) (v := 0) hC dX1_hereIn_2 ic0 ?_
  refine aw_istore_n (pc := 3) (i := 3) hC dX1_hereIn_3 rfl rfl (by decide) ?_
  have hL4 : ∀ (n : Nat) (x1 : Int32) (x2 : Int32), AW G C (qR G C 0 0 μ) 0 0 4 μ 4 [some (.ref (gad G (h + 1) 1)), some (.int a1), some (.int x1), some (.int x2)] [] (lp_X1_hereIn_4 a1 h μ n x1 x2) := by
    intro n
    induction n with
    | zero => intro x1 x2; exact aw_none
    | succ n ih =>
      intro x1 x2
      rw [lp_X1_hereIn_4]
      refine aw_iload_n (pc := 4) (i := 3) hC dX1_hereIn_4 rfl rfl ?_
      refine aw_bipush (pc := 5) (v := 8) hC dX1_hereIn_5 bc8 ?_
      refine aw_icmp_ge (pc := 7) (tgt := 48) hC dX1_hereIn_7 (by decide) (fun _ => ?_) (fun _ => ?_)
      · skip
        refine aw_iload_n (pc := 48) (i := 2) hC dX1_hereIn_48 rfl rfl ?_
        exact aw_iretR hC dX1_hereIn_49
      · skip
        refine aw_iload_n (pc := 10) (i := 2) hC dX1_hereIn_10 rfl rfl ?_
        refine aw_iload_n (pc := 11) (i := 3) hC dX1_hereIn_11 rfl rfl ?_
        refine aw_aload_n (pc := 12) (i := 0) hC dX1_hereIn_12 rfl rfl ?_
        refine aw_get (pc := 13) hC inX1 (vH (j := 1) hh (by decide)) rfl rfl 5 (by decide) kw149 rfl rfl dX1_hereIn_13 ?_
        refine aw_iload_n (pc := 16) (i := 3) hC dX1_hereIn_16 rfl rfl ?_
        refine aw_callNR (pc := 17) (As := [.int (μ (h + 1) 1 5), .int x2]) hC ms_X9_holds kw451 (by decide) (c_X9_holds G C.2.1   μ (μ (h + 1) 1 5) x2) rfl (Nat.le_of_ble_eq_true rfl) dX1_hereIn_17 (fun q3 => ?_)
        refine aw_nmJ (fun (J38 : Int32 → Option (Int32)) => ∀ (x4 : Int32), AW G C (qR G C 0 0 μ) 0 0 4 μ 38 [some (.ref (gad G (h + 1) 1)), some (.int a1), none, some (.int x2)] [.int x4, .int x2, .int x1] (J38 x4)) (fun x4 => ?_) (fun J38 hJ38 => ?_)
        · skip
          refine aw_callNR (pc := 38) (As := [.int x1, .int x2, .int x4]) hC ms_X9_withMember kw452 (by decide) (c_X9_withMember G C.2.1   μ x1 x2 x4) rfl (Nat.le_of_ble_eq_true rfl) dX1_hereIn_38 (fun q5 => ?_)
          refine aw_istore_n (pc := 41) (i := 2) hC dX1_hereIn_41 rfl rfl (by decide) ?_
          refine aw_iinc (pc := 42) (v := x2 + 1) hC dX1_hereIn_42 rfl (congrArg (HAdd.hAdd _) ic1) rfl (by decide) ?_
          refine aw_goto (pc := 45) (tgt := 4) hC dX1_hereIn_45 (by decide) ?_
          exact ih q5 (x2 + 1)
        · skip
          refine aw_nmJ (fun (J37 : Option (Int32)) => AW G C (qR G C 0 0 μ) 0 0 4 μ 37 [some (.ref (gad G (h + 1) 1)), some (.int a1), none, some (.int x2)] [.int x2, .int x1] (J37)) ?_ (fun J37 hJ37 => ?_)
          · skip
            refine aw_iconst (pc := 37) (v := 0) hC dX1_hereIn_37 ic0 ?_
            exact hJ38 0
          · skip
            refine aw_if_eq (pc := 20) (tgt := 37) hC dX1_hereIn_20 (by decide) (fun _ => ?_) (fun _ => ?_)
            · skip
              exact aw_drop [2] (hJ37)
            · skip
              refine aw_aload_n (pc := 23) (i := 0) hC dX1_hereIn_23 rfl rfl ?_
              refine aw_get (pc := 24) hC inX1 (vH (j := 1) hh (by decide)) rfl rfl 0 (by decide) kw140 rfl rfl dX1_hereIn_24 ?_
              refine aw_iload_n (pc := 27) (i := 3) hC dX1_hereIn_27 rfl rfl ?_
              refine aw_iaload (pc := 28) hC (vH (j := 2) hh (by decide)) rfl dX1_hereIn_28 ?_
              refine aw_iload_n (pc := 29) (i := 1) hC dX1_hereIn_29 rfl rfl ?_
              refine aw_icmp_ne (pc := 30) (tgt := 37) hC dX1_hereIn_30 (by decide) (fun _ => ?_) (fun _ => ?_)
              · skip
                refine aw_iconst (pc := 33) (v := 1) hC dX1_hereIn_33 ic1 ?_
                refine aw_goto (pc := 34) (tgt := 38) hC dX1_hereIn_34 (by decide) ?_
                exact aw_drop [2] (hJ38 1)
              · skip
                exact aw_drop [2] (hJ37)
  exact hL4 4096 0 0
theorem dX1_roomsHere_0 : decode cX1_roomsHere 0 = .ok (.iconst 0, 1) := by decide +kernel
theorem dX1_roomsHere_1 : decode cX1_roomsHere 1 = .ok (.istore_n 1, 1) := by decide +kernel
theorem dX1_roomsHere_2 : decode cX1_roomsHere 2 = .ok (.iconst 0, 1) := by decide +kernel
theorem dX1_roomsHere_3 : decode cX1_roomsHere 3 = .ok (.istore_n 2, 1) := by decide +kernel
theorem dX1_roomsHere_4 : decode cX1_roomsHere 4 = .ok (.iload_n 2, 1) := by decide +kernel
theorem dX1_roomsHere_5 : decode cX1_roomsHere 5 = .ok (.bipush 8, 2) := by decide +kernel
theorem dX1_roomsHere_7 : decode cX1_roomsHere 7 = .ok (.if_icmp .ge 28, 3) := by decide +kernel
theorem dX1_roomsHere_10 : decode cX1_roomsHere 10 = .ok (.iload_n 1, 1) := by decide +kernel
theorem dX1_roomsHere_11 : decode cX1_roomsHere 11 = .ok (.iload_n 2, 1) := by decide +kernel
theorem dX1_roomsHere_12 : decode cX1_roomsHere 12 = .ok (.aload_n 0, 1) := by decide +kernel
theorem dX1_roomsHere_13 : decode cX1_roomsHere 13 = .ok (.iload_n 2, 1) := by decide +kernel
theorem dX1_roomsHere_14 : decode cX1_roomsHere 14 = .ok (.invokevirtual 68, 3) := by decide +kernel
theorem dX1_roomsHere_17 : decode cX1_roomsHere 17 = .ok (.ifCond .eq 7, 3) := by decide +kernel
theorem dX1_roomsHere_20 : decode cX1_roomsHere 20 = .ok (.iconst 1, 1) := by decide +kernel
theorem dX1_roomsHere_21 : decode cX1_roomsHere 21 = .ok (.goto 4, 3) := by decide +kernel
theorem dX1_roomsHere_24 : decode cX1_roomsHere 24 = .ok (.iconst 0, 1) := by decide +kernel
theorem dX1_roomsHere_25 : decode cX1_roomsHere 25 = .ok (.invokestatic 37, 3) := by decide +kernel
theorem dX1_roomsHere_28 : decode cX1_roomsHere 28 = .ok (.istore_n 1, 1) := by decide +kernel
theorem dX1_roomsHere_29 : decode cX1_roomsHere 29 = .ok (.iinc 2 1, 3) := by decide +kernel
theorem dX1_roomsHere_32 : decode cX1_roomsHere 32 = .ok (.goto (-28), 3) := by decide +kernel
theorem dX1_roomsHere_35 : decode cX1_roomsHere 35 = .ok (.iload_n 1, 1) := by decide +kernel
theorem dX1_roomsHere_36 : decode cX1_roomsHere 36 = .ok (.ireturn, 1) := by decide +kernel
def lp_X1_roomsHere_4 (h : Nat) (μ : Mem) : Nat → Int32 → Int32 → Option (Int32)
  | 0, _, _ => none
  | n + 1, x1, x2 => if 8 ≤ x2 then (some x1) else ((f_X1_hereIn h μ x2).bind fun (q3 : Int32) => nm (fun (x4 : Int32) => (f_X9_withMember x1 x2 x4).bind fun (q5 : Int32) => lp_X1_roomsHere_4 h μ n q5 (x2 + 1)) fun (J25 : Int32 → Option (Int32)) => if q3 = 0 then (J25 0) else (J25 1))
def f_X1_roomsHere (h : Nat) (μ : Mem) : Option (Int32) := lp_X1_roomsHere_4 h μ 4096 0 0
set_option maxHeartbeats 4000000 in
set_option maxRecDepth 100000 in
theorem c_X1_roomsHere (G : GG) (l : Launch) (h : Nat) (hh : h < 15) (μ : Mem) : CR G l yX1_roomsHere (.code yX1_roomsHere cX1_roomsHere 3 (some .int)) 3 [.ref (gad G (h + 1) 1)] μ (f_X1_roomsHere h μ) := by
  refine CR.of (own := "SaturdayKeep$Guests") (L0 := [some (.ref (gad G (h + 1) 1)), none, none]) rfl rfl rfl (Nat.le_of_ble_eq_true rfl) (fun C hl hC => ?_)
  subst hl
  delta f_X1_roomsHere
  refine aw_iconst (pc := 0) (v := 0) hC dX1_roomsHere_0 ic0 ?_
  refine aw_istore_n (pc := 1) (i := 1) hC dX1_roomsHere_1 rfl rfl (by decide) ?_
  refine aw_iconst (pc := 2) (v := 0) hC dX1_roomsHere_2 ic0 ?_
  refine aw_istore_n (pc := 3) (i := 2) hC dX1_roomsHere_3 rfl rfl (by decide) ?_
  have hL4 : ∀ (n : Nat) (x1 : Int32) (x2 : Int32), AW G C (qR G C 0 0 μ) 0 0 3 μ 4 [some (.ref (gad G (h + 1) 1)), some (.int x1), some (.int x2)] [] (lp_X1_roomsHere_4 h μ n x1 x2) := by
    intro n
    induction n with
    | zero => intro x1 x2; exact aw_none
    | succ n ih =>
      intro x1 x2
      rw [lp_X1_roomsHere_4]
      refine aw_iload_n (pc := 4) (i := 2) hC dX1_roomsHere_4 rfl rfl ?_
      refine aw_bipush (pc := 5) (v := 8) hC dX1_roomsHere_5 bc8 ?_
      refine aw_icmp_ge (pc := 7) (tgt := 35) hC dX1_roomsHere_7 (by decide) (fun _ => ?_) (fun _ => ?_)
      · skip
        refine aw_iload_n (pc := 35) (i := 1) hC dX1_roomsHere_35 rfl rfl ?_
        exact aw_iretR hC dX1_roomsHere_36
      · skip
        refine aw_iload_n (pc := 10) (i := 1) hC dX1_roomsHere_10 rfl rfl ?_
        refine aw_iload_n (pc := 11) (i := 2) hC dX1_roomsHere_11 rfl rfl ?_
        refine aw_aload_n (pc := 12) (i := 0) hC dX1_roomsHere_12 rfl rfl ?_
        refine aw_iload_n (pc := 13) (i := 2) hC dX1_roomsHere_13 rfl rfl ?_
        refine aw_callVR (pc := 14) (As := [.int x2]) hC mb_X1_hereIn kw447 (by decide) (c_X1_hereIn G C.2.1 h (Nat.lt_of_lt_of_le hh (by decide)) μ x2) (vH (j := 1) hh (by decide)) rfl rfl rfl (Nat.le_of_ble_eq_true rfl) dX1_roomsHere_14 (fun q3 => ?_)
        refine aw_nmJ (fun (J25 : Int32 → Option (Int32)) => ∀ (x4 : Int32), AW G C (qR G C 0 0 μ) 0 0 3 μ 25 [some (.ref (gad G (h + 1) 1)), none, some (.int x2)] [.int x4, .int x2, .int x1] (J25 x4)) (fun x4 => ?_) (fun J25 hJ25 => ?_)
        · skip
          refine aw_callNR (pc := 25) (As := [.int x1, .int x2, .int x4]) hC ms_X9_withMember kw452 (by decide) (c_X9_withMember G C.2.1   μ x1 x2 x4) rfl (Nat.le_of_ble_eq_true rfl) dX1_roomsHere_25 (fun q5 => ?_)
          refine aw_istore_n (pc := 28) (i := 1) hC dX1_roomsHere_28 rfl rfl (by decide) ?_
          refine aw_iinc (pc := 29) (v := x2 + 1) hC dX1_roomsHere_29 rfl (congrArg (HAdd.hAdd _) ic1) rfl (by decide) ?_
          refine aw_goto (pc := 32) (tgt := 4) hC dX1_roomsHere_32 (by decide) ?_
          exact ih q5 (x2 + 1)
        · skip
          refine aw_if_eq (pc := 17) (tgt := 24) hC dX1_roomsHere_17 (by decide) (fun _ => ?_) (fun _ => ?_)
          · skip
            refine aw_iconst (pc := 24) (v := 0) hC dX1_roomsHere_24 ic0 ?_
            exact aw_drop [1] (hJ25 0)
          · skip
            refine aw_iconst (pc := 20) (v := 1) hC dX1_roomsHere_20 ic1 ?_
            refine aw_goto (pc := 21) (tgt := 25) hC dX1_roomsHere_21 (by decide) ?_
            exact aw_drop [1] (hJ25 1)
  exact hL4 4096 0 0
theorem dX1_riskOf_0 : decode cX1_riskOf 0 = .ok (.iconst 0, 1) := by decide +kernel
theorem dX1_riskOf_1 : decode cX1_riskOf 1 = .ok (.istore_n 2, 1) := by decide +kernel
theorem dX1_riskOf_2 : decode cX1_riskOf 2 = .ok (.iconst 0, 1) := by decide +kernel
theorem dX1_riskOf_3 : decode cX1_riskOf 3 = .ok (.istore_n 3, 1) := by decide +kernel
theorem dX1_riskOf_4 : decode cX1_riskOf 4 = .ok (.iload_n 3, 1) := by decide +kernel
theorem dX1_riskOf_5 : decode cX1_riskOf 5 = .ok (.bipush 8, 2) := by decide +kernel
theorem dX1_riskOf_7 : decode cX1_riskOf 7 = .ok (.if_icmp .ge 29, 3) := by decide +kernel
theorem dX1_riskOf_10 : decode cX1_riskOf 10 = .ok (.iload_n 2, 1) := by decide +kernel
theorem dX1_riskOf_11 : decode cX1_riskOf 11 = .ok (.iload_n 1, 1) := by decide +kernel
theorem dX1_riskOf_12 : decode cX1_riskOf 12 = .ok (.iload_n 3, 1) := by decide +kernel
theorem dX1_riskOf_13 : decode cX1_riskOf 13 = .ok (.invokestatic 61, 3) := by decide +kernel
theorem dX1_riskOf_16 : decode cX1_riskOf 16 = .ok (.ifCond .eq 11, 3) := by decide +kernel
theorem dX1_riskOf_19 : decode cX1_riskOf 19 = .ok (.aload_n 0, 1) := by decide +kernel
theorem dX1_riskOf_20 : decode cX1_riskOf 20 = .ok (.iload_n 3, 1) := by decide +kernel
theorem dX1_riskOf_21 : decode cX1_riskOf 21 = .ok (.invokevirtual 65, 3) := by decide +kernel
theorem dX1_riskOf_24 : decode cX1_riskOf 24 = .ok (.goto 4, 3) := by decide +kernel
theorem dX1_riskOf_27 : decode cX1_riskOf 27 = .ok (.iconst 0, 1) := by decide +kernel
theorem dX1_riskOf_28 : decode cX1_riskOf 28 = .ok (.iadd, 1) := by decide +kernel
theorem dX1_riskOf_29 : decode cX1_riskOf 29 = .ok (.istore_n 2, 1) := by decide +kernel
theorem dX1_riskOf_30 : decode cX1_riskOf 30 = .ok (.iinc 3 1, 3) := by decide +kernel
theorem dX1_riskOf_33 : decode cX1_riskOf 33 = .ok (.goto (-29), 3) := by decide +kernel
theorem dX1_riskOf_36 : decode cX1_riskOf 36 = .ok (.iload_n 2, 1) := by decide +kernel
theorem dX1_riskOf_37 : decode cX1_riskOf 37 = .ok (.ireturn, 1) := by decide +kernel
def lp_X1_riskOf_4 (a1 : Int32) (h : Nat) (μ : Mem) : Nat → Int32 → Int32 → Option (Int32)
  | 0, _, _ => none
  | n + 1, x1, x2 => if 8 ≤ x2 then (some x1) else ((f_X9_holds a1 x2).bind fun (q3 : Int32) => if q3 = 0 then (lp_X1_riskOf_4 a1 h μ n (x1 + 0) (x2 + 1)) else ((f_X1_risk h μ x2).bind fun (q4 : Int32) => lp_X1_riskOf_4 a1 h μ n (x1 + q4) (x2 + 1)))
def f_X1_riskOf (h : Nat) (μ : Mem) (a1 : Int32) : Option (Int32) := lp_X1_riskOf_4 a1 h μ 4096 0 0
set_option maxHeartbeats 4000000 in
set_option maxRecDepth 100000 in
theorem c_X1_riskOf (G : GG) (l : Launch) (h : Nat) (hh : h < 15) (μ : Mem) (a1 : Int32) : CR G l yX1_riskOf (.code yX1_riskOf cX1_riskOf 4 (some .int)) 4 [.ref (gad G (h + 1) 1), .int a1] μ (f_X1_riskOf h μ a1) := by
  refine CR.of (own := "SaturdayKeep$Guests") (L0 := [some (.ref (gad G (h + 1) 1)), some (.int a1), none, none]) rfl rfl rfl (Nat.le_of_ble_eq_true rfl) (fun C hl hC => ?_)
  subst hl
  delta f_X1_riskOf
  refine aw_iconst (pc := 0) (v := 0) hC dX1_riskOf_0 ic0 ?_
  refine aw_istore_n (pc := 1) (i := 2) hC dX1_riskOf_1 rfl rfl (by decide) ?_
  refine aw_iconst (pc := 2) (v := 0) hC dX1_riskOf_2 ic0 ?_
  refine aw_istore_n (pc := 3) (i := 3) hC dX1_riskOf_3 rfl rfl (by decide) ?_
  have hL4 : ∀ (n : Nat) (x1 : Int32) (x2 : Int32), AW G C (qR G C 0 0 μ) 0 0 4 μ 4 [some (.ref (gad G (h + 1) 1)), some (.int a1), some (.int x1), some (.int x2)] [] (lp_X1_riskOf_4 a1 h μ n x1 x2) := by
    intro n
    induction n with
    | zero => intro x1 x2; exact aw_none
    | succ n ih =>
      intro x1 x2
      rw [lp_X1_riskOf_4]
      refine aw_iload_n (pc := 4) (i := 3) hC dX1_riskOf_4 rfl rfl ?_
      refine aw_bipush (pc := 5) (v := 8) hC dX1_riskOf_5 bc8 ?_
      refine aw_icmp_ge (pc := 7) (tgt := 36) hC dX1_riskOf_7 (by decide) (fun _ => ?_) (fun _ => ?_)
      · skip
        refine aw_iload_n (pc := 36) (i := 2) hC dX1_riskOf_36 rfl rfl ?_
        exact aw_iretR hC dX1_riskOf_37
      · skip
        refine aw_iload_n (pc := 10) (i := 2) hC dX1_riskOf_10 rfl rfl ?_
        refine aw_iload_n (pc := 11) (i := 1) hC dX1_riskOf_11 rfl rfl ?_
        refine aw_iload_n (pc := 12) (i := 3) hC dX1_riskOf_12 rfl rfl ?_
        refine aw_callNR (pc := 13) (As := [.int a1, .int x2]) hC ms_X9_holds kw451 (by decide) (c_X9_holds G C.2.1   μ a1 x2) rfl (Nat.le_of_ble_eq_true rfl) dX1_riskOf_13 (fun q3 => ?_)
        refine aw_if_eq (pc := 16) (tgt := 27) hC dX1_riskOf_16 (by decide) (fun _ => ?_) (fun _ => ?_)
        · skip
          refine aw_iconst (pc := 27) (v := 0) hC dX1_riskOf_27 ic0 ?_
          refine aw_iadd (pc := 28) hC dX1_riskOf_28 ?_
          refine aw_istore_n (pc := 29) (i := 2) hC dX1_riskOf_29 rfl rfl (by decide) ?_
          refine aw_iinc (pc := 30) (v := x2 + 1) hC dX1_riskOf_30 rfl (congrArg (HAdd.hAdd _) ic1) rfl (by decide) ?_
          refine aw_goto (pc := 33) (tgt := 4) hC dX1_riskOf_33 (by decide) ?_
          exact ih (x1 + 0) (x2 + 1)
        · skip
          refine aw_aload_n (pc := 19) (i := 0) hC dX1_riskOf_19 rfl rfl ?_
          refine aw_iload_n (pc := 20) (i := 3) hC dX1_riskOf_20 rfl rfl ?_
          refine aw_callVR (pc := 21) (As := [.int x2]) hC mb_X1_risk kw488 (by decide) (c_X1_risk G C.2.1 h (Nat.lt_of_lt_of_le hh (by decide)) μ x2) (vH (j := 1) hh (by decide)) rfl rfl rfl (Nat.le_of_ble_eq_true rfl) dX1_riskOf_21 (fun q4 => ?_)
          refine aw_goto (pc := 24) (tgt := 28) hC dX1_riskOf_24 (by decide) ?_
          refine aw_iadd (pc := 28) hC dX1_riskOf_28 ?_
          refine aw_istore_n (pc := 29) (i := 2) hC dX1_riskOf_29 rfl rfl (by decide) ?_
          refine aw_iinc (pc := 30) (v := x2 + 1) hC dX1_riskOf_30 rfl (congrArg (HAdd.hAdd _) ic1) rfl (by decide) ?_
          refine aw_goto (pc := 33) (tgt := 4) hC dX1_riskOf_33 (by decide) ?_
          exact ih (x1 + q4) (x2 + 1)
  exact hL4 4096 0 0
theorem dX1_lodger_0 : decode cX1_lodger 0 = .ok (.iconst 0, 1) := by decide +kernel
theorem dX1_lodger_1 : decode cX1_lodger 1 = .ok (.istore_n 2, 1) := by decide +kernel
theorem dX1_lodger_2 : decode cX1_lodger 2 = .ok (.iconst 0, 1) := by decide +kernel
theorem dX1_lodger_3 : decode cX1_lodger 3 = .ok (.istore_n 3, 1) := by decide +kernel
theorem dX1_lodger_4 : decode cX1_lodger 4 = .ok (.iload_n 3, 1) := by decide +kernel
theorem dX1_lodger_5 : decode cX1_lodger 5 = .ok (.bipush 8, 2) := by decide +kernel
theorem dX1_lodger_7 : decode cX1_lodger 7 = .ok (.if_icmp .ge 30, 3) := by decide +kernel
theorem dX1_lodger_10 : decode cX1_lodger 10 = .ok (.aload_n 0, 1) := by decide +kernel
theorem dX1_lodger_11 : decode cX1_lodger 11 = .ok (.getfield 34, 3) := by decide +kernel
theorem dX1_lodger_14 : decode cX1_lodger 14 = .ok (.iload_n 3, 1) := by decide +kernel
theorem dX1_lodger_15 : decode cX1_lodger 15 = .ok (.invokestatic 61, 3) := by decide +kernel
theorem dX1_lodger_18 : decode cX1_lodger 18 = .ok (.ifCond .eq 13, 3) := by decide +kernel
theorem dX1_lodger_21 : decode cX1_lodger 21 = .ok (.iload_n 2, 1) := by decide +kernel
theorem dX1_lodger_22 : decode cX1_lodger 22 = .ok (.iload_n 1, 1) := by decide +kernel
theorem dX1_lodger_23 : decode cX1_lodger 23 = .ok (.if_icmp .ne 5, 3) := by decide +kernel
theorem dX1_lodger_26 : decode cX1_lodger 26 = .ok (.iload_n 3, 1) := by decide +kernel
theorem dX1_lodger_27 : decode cX1_lodger 27 = .ok (.ireturn, 1) := by decide +kernel
theorem dX1_lodger_28 : decode cX1_lodger 28 = .ok (.iinc 2 1, 3) := by decide +kernel
theorem dX1_lodger_31 : decode cX1_lodger 31 = .ok (.iinc 3 1, 3) := by decide +kernel
theorem dX1_lodger_34 : decode cX1_lodger 34 = .ok (.goto (-30), 3) := by decide +kernel
theorem dX1_lodger_37 : decode cX1_lodger 37 = .ok (.iconst (-1), 1) := by decide +kernel
theorem dX1_lodger_38 : decode cX1_lodger 38 = .ok (.ireturn, 1) := by decide +kernel
def lp_X1_lodger_4 (a1 : Int32) (h : Nat) (μ : Mem) : Nat → Int32 → Int32 → Option (Int32)
  | 0, _, _ => none
  | n + 1, x1, x2 => if 8 ≤ x2 then (some (-1)) else ((f_X9_holds (μ (h + 1) 1 5) x2).bind fun (q3 : Int32) => if q3 = 0 then (lp_X1_lodger_4 a1 h μ n x1 (x2 + 1)) else (if x1 = a1 then (some x2) else (lp_X1_lodger_4 a1 h μ n (x1 + 1) (x2 + 1))))
def f_X1_lodger (h : Nat) (μ : Mem) (a1 : Int32) : Option (Int32) := lp_X1_lodger_4 a1 h μ 4096 0 0
set_option maxHeartbeats 4000000 in
set_option maxRecDepth 100000 in
theorem c_X1_lodger (G : GG) (l : Launch) (h : Nat) (hh : h < 15) (μ : Mem) (a1 : Int32) : CR G l yX1_lodger (.code yX1_lodger cX1_lodger 4 (some .int)) 2 [.ref (gad G (h + 1) 1), .int a1] μ (f_X1_lodger h μ a1) := by
  refine CR.of (own := "SaturdayKeep$Guests") (L0 := [some (.ref (gad G (h + 1) 1)), some (.int a1), none, none]) rfl rfl rfl (Nat.le_of_ble_eq_true rfl) (fun C hl hC => ?_)
  subst hl
  delta f_X1_lodger
  refine aw_iconst (pc := 0) (v := 0) hC dX1_lodger_0 ic0 ?_
  refine aw_istore_n (pc := 1) (i := 2) hC dX1_lodger_1 rfl rfl (by decide) ?_
  refine aw_iconst (pc := 2) (v := 0) hC dX1_lodger_2 ic0 ?_
  refine aw_istore_n (pc := 3) (i := 3) hC dX1_lodger_3 rfl rfl (by decide) ?_
  have hL4 : ∀ (n : Nat) (x1 : Int32) (x2 : Int32), AW G C (qR G C 0 0 μ) 0 0 4 μ 4 [some (.ref (gad G (h + 1) 1)), some (.int a1), some (.int x1), some (.int x2)] [] (lp_X1_lodger_4 a1 h μ n x1 x2) := by
    intro n
    induction n with
    | zero => intro x1 x2; exact aw_none
    | succ n ih =>
      intro x1 x2
      rw [lp_X1_lodger_4]
      refine aw_iload_n (pc := 4) (i := 3) hC dX1_lodger_4 rfl rfl ?_
      refine aw_bipush (pc := 5) (v := 8) hC dX1_lodger_5 bc8 ?_
      refine aw_icmp_ge (pc := 7) (tgt := 37) hC dX1_lodger_7 (by decide) (fun _ => ?_) (fun _ => ?_)
      · skip
        refine aw_iconst (pc := 37) (v := (-1)) hC dX1_lodger_37 icm1 ?_
        exact aw_iretR hC dX1_lodger_38
      · skip
        refine aw_aload_n (pc := 10) (i := 0) hC dX1_lodger_10 rfl rfl ?_
        refine aw_get (pc := 11) hC inX1 (vH (j := 1) hh (by decide)) rfl rfl 5 (by decide) kw149 rfl rfl dX1_lodger_11 ?_
        refine aw_iload_n (pc := 14) (i := 3) hC dX1_lodger_14 rfl rfl ?_
        refine aw_callNR (pc := 15) (As := [.int (μ (h + 1) 1 5), .int x2]) hC ms_X9_holds kw451 (by decide) (c_X9_holds G C.2.1   μ (μ (h + 1) 1 5) x2) rfl (Nat.le_of_ble_eq_true rfl) dX1_lodger_15 (fun q3 => ?_)
        refine aw_if_eq (pc := 18) (tgt := 31) hC dX1_lodger_18 (by decide) (fun _ => ?_) (fun _ => ?_)
        · skip
          refine aw_iinc (pc := 31) (v := x2 + 1) hC dX1_lodger_31 rfl (congrArg (HAdd.hAdd _) ic1) rfl (by decide) ?_
          refine aw_goto (pc := 34) (tgt := 4) hC dX1_lodger_34 (by decide) ?_
          exact ih x1 (x2 + 1)
        · skip
          refine aw_iload_n (pc := 21) (i := 2) hC dX1_lodger_21 rfl rfl ?_
          refine aw_iload_n (pc := 22) (i := 1) hC dX1_lodger_22 rfl rfl ?_
          refine aw_icmp_ne (pc := 23) (tgt := 28) hC dX1_lodger_23 (by decide) (fun _ => ?_) (fun _ => ?_)
          · skip
            refine aw_iload_n (pc := 26) (i := 3) hC dX1_lodger_26 rfl rfl ?_
            exact aw_iretR hC dX1_lodger_27
          · skip
            refine aw_iinc (pc := 28) (v := x1 + 1) hC dX1_lodger_28 rfl (congrArg (HAdd.hAdd _) ic1) rfl (by decide) ?_
            refine aw_iinc (pc := 31) (v := x2 + 1) hC dX1_lodger_31 rfl (congrArg (HAdd.hAdd _) ic1) rfl (by decide) ?_
            refine aw_goto (pc := 34) (tgt := 4) hC dX1_lodger_34 (by decide) ?_
            exact ih (x1 + 1) (x2 + 1)
  exact hL4 4096 0 0
theorem dX1_doubtHere_0 : decode cX1_doubtHere 0 = .ok (.iconst 0, 1) := by decide +kernel
theorem dX1_doubtHere_1 : decode cX1_doubtHere 1 = .ok (.istore_n 1, 1) := by decide +kernel
theorem dX1_doubtHere_2 : decode cX1_doubtHere 2 = .ok (.iconst 0, 1) := by decide +kernel
theorem dX1_doubtHere_3 : decode cX1_doubtHere 3 = .ok (.istore_n 2, 1) := by decide +kernel
theorem dX1_doubtHere_4 : decode cX1_doubtHere 4 = .ok (.iload_n 2, 1) := by decide +kernel
theorem dX1_doubtHere_5 : decode cX1_doubtHere 5 = .ok (.bipush 8, 2) := by decide +kernel
theorem dX1_doubtHere_7 : decode cX1_doubtHere 7 = .ok (.if_icmp .ge 33, 3) := by decide +kernel
theorem dX1_doubtHere_10 : decode cX1_doubtHere 10 = .ok (.iload_n 1, 1) := by decide +kernel
theorem dX1_doubtHere_11 : decode cX1_doubtHere 11 = .ok (.aload_n 0, 1) := by decide +kernel
theorem dX1_doubtHere_12 : decode cX1_doubtHere 12 = .ok (.getfield 34, 3) := by decide +kernel
theorem dX1_doubtHere_15 : decode cX1_doubtHere 15 = .ok (.iload_n 2, 1) := by decide +kernel
theorem dX1_doubtHere_16 : decode cX1_doubtHere 16 = .ok (.invokestatic 61, 3) := by decide +kernel
theorem dX1_doubtHere_19 : decode cX1_doubtHere 19 = .ok (.ifCond .eq 12, 3) := by decide +kernel
theorem dX1_doubtHere_22 : decode cX1_doubtHere 22 = .ok (.aload_n 0, 1) := by decide +kernel
theorem dX1_doubtHere_23 : decode cX1_doubtHere 23 = .ok (.getfield 18, 3) := by decide +kernel
theorem dX1_doubtHere_26 : decode cX1_doubtHere 26 = .ok (.iload_n 2, 1) := by decide +kernel
theorem dX1_doubtHere_27 : decode cX1_doubtHere 27 = .ok (.iaload, 1) := by decide +kernel
theorem dX1_doubtHere_28 : decode cX1_doubtHere 28 = .ok (.goto 4, 3) := by decide +kernel
theorem dX1_doubtHere_31 : decode cX1_doubtHere 31 = .ok (.iconst 0, 1) := by decide +kernel
theorem dX1_doubtHere_32 : decode cX1_doubtHere 32 = .ok (.iadd, 1) := by decide +kernel
theorem dX1_doubtHere_33 : decode cX1_doubtHere 33 = .ok (.istore_n 1, 1) := by decide +kernel
theorem dX1_doubtHere_34 : decode cX1_doubtHere 34 = .ok (.iinc 2 1, 3) := by decide +kernel
theorem dX1_doubtHere_37 : decode cX1_doubtHere 37 = .ok (.goto (-33), 3) := by decide +kernel
theorem dX1_doubtHere_40 : decode cX1_doubtHere 40 = .ok (.iload_n 1, 1) := by decide +kernel
theorem dX1_doubtHere_41 : decode cX1_doubtHere 41 = .ok (.ireturn, 1) := by decide +kernel
def lp_X1_doubtHere_4 (h : Nat) (μ : Mem) : Nat → Int32 → Int32 → Option (Int32)
  | 0, _, _ => none
  | n + 1, x1, x2 => if 8 ≤ x2 then (some x1) else ((f_X9_holds (μ (h + 1) 1 5) x2).bind fun (q3 : Int32) => if q3 = 0 then (lp_X1_doubtHere_4 h μ n (x1 + 0) (x2 + 1)) else (ix x2 8 (nm (x1 + (μ (h + 1) 4 x2.toNatClampNeg)) fun (x4 : Int32) => lp_X1_doubtHere_4 h μ n x4 (x2 + 1))))
def f_X1_doubtHere (h : Nat) (μ : Mem) : Option (Int32) := lp_X1_doubtHere_4 h μ 4096 0 0
set_option maxHeartbeats 4000000 in
set_option maxRecDepth 100000 in
theorem c_X1_doubtHere (G : GG) (l : Launch) (h : Nat) (hh : h < 15) (μ : Mem) : CR G l yX1_doubtHere (.code yX1_doubtHere cX1_doubtHere 3 (some .int)) 2 [.ref (gad G (h + 1) 1)] μ (f_X1_doubtHere h μ) := by
  refine CR.of (own := "SaturdayKeep$Guests") (L0 := [some (.ref (gad G (h + 1) 1)), none, none]) rfl rfl rfl (Nat.le_of_ble_eq_true rfl) (fun C hl hC => ?_)
  subst hl
  delta f_X1_doubtHere
  refine aw_iconst (pc := 0) (v := 0) hC dX1_doubtHere_0 ic0 ?_
  refine aw_istore_n (pc := 1) (i := 1) hC dX1_doubtHere_1 rfl rfl (by decide) ?_
  refine aw_iconst (pc := 2) (v := 0) hC dX1_doubtHere_2 ic0 ?_
  refine aw_istore_n (pc := 3) (i := 2) hC dX1_doubtHere_3 rfl rfl (by decide) ?_
  have hL4 : ∀ (n : Nat) (x1 : Int32) (x2 : Int32), AW G C (qR G C 0 0 μ) 0 0 3 μ 4 [some (.ref (gad G (h + 1) 1)), some (.int x1), some (.int x2)] [] (lp_X1_doubtHere_4 h μ n x1 x2) := by
    intro n
    induction n with
    | zero => intro x1 x2; exact aw_none
    | succ n ih =>
      intro x1 x2
      rw [lp_X1_doubtHere_4]
      refine aw_iload_n (pc := 4) (i := 2) hC dX1_doubtHere_4 rfl rfl ?_
      refine aw_bipush (pc := 5) (v := 8) hC dX1_doubtHere_5 bc8 ?_
      refine aw_icmp_ge (pc := 7) (tgt := 40) hC dX1_doubtHere_7 (by decide) (fun _ => ?_) (fun _ => ?_)
      · skip
        refine aw_iload_n (pc := 40) (i := 1) hC dX1_doubtHere_40 rfl rfl ?_
        exact aw_iretR hC dX1_doubtHere_41
      · skip
        refine aw_iload_n (pc := 10) (i := 1) hC dX1_doubtHere_10 rfl rfl ?_
        refine aw_aload_n (pc := 11) (i := 0) hC dX1_doubtHere_11 rfl rfl ?_
        refine aw_get (pc := 12) hC inX1 (vH (j := 1) hh (by decide)) rfl rfl 5 (by decide) kw149 rfl rfl dX1_doubtHere_12 ?_
        refine aw_iload_n (pc := 15) (i := 2) hC dX1_doubtHere_15 rfl rfl ?_
        refine aw_callNR (pc := 16) (As := [.int (μ (h + 1) 1 5), .int x2]) hC ms_X9_holds kw451 (by decide) (c_X9_holds G C.2.1   μ (μ (h + 1) 1 5) x2) rfl (Nat.le_of_ble_eq_true rfl) dX1_doubtHere_16 (fun q3 => ?_)
        refine aw_if_eq (pc := 19) (tgt := 31) hC dX1_doubtHere_19 (by decide) (fun _ => ?_) (fun _ => ?_)
        · skip
          refine aw_iconst (pc := 31) (v := 0) hC dX1_doubtHere_31 ic0 ?_
          refine aw_iadd (pc := 32) hC dX1_doubtHere_32 ?_
          refine aw_istore_n (pc := 33) (i := 1) hC dX1_doubtHere_33 rfl rfl (by decide) ?_
          refine aw_iinc (pc := 34) (v := x2 + 1) hC dX1_doubtHere_34 rfl (congrArg (HAdd.hAdd _) ic1) rfl (by decide) ?_
          refine aw_goto (pc := 37) (tgt := 4) hC dX1_doubtHere_37 (by decide) ?_
          exact ih (x1 + 0) (x2 + 1)
        · skip
          refine aw_aload_n (pc := 22) (i := 0) hC dX1_doubtHere_22 rfl rfl ?_
          refine aw_get (pc := 23) hC inX1 (vH (j := 1) hh (by decide)) rfl rfl 2 (by decide) kw142 rfl rfl dX1_doubtHere_23 ?_
          refine aw_iload_n (pc := 26) (i := 2) hC dX1_doubtHere_26 rfl rfl ?_
          refine aw_iaload (pc := 27) hC (vH (j := 4) hh (by decide)) rfl dX1_doubtHere_27 ?_
          refine aw_goto (pc := 28) (tgt := 32) hC dX1_doubtHere_28 (by decide) ?_
          refine aw_iadd (pc := 32) hC dX1_doubtHere_32 ?_
          refine aw_nmI (fun x4 _ => ?_)
          refine aw_istore_n (pc := 33) (i := 1) hC dX1_doubtHere_33 rfl rfl (by decide) ?_
          refine aw_iinc (pc := 34) (v := x2 + 1) hC dX1_doubtHere_34 rfl (congrArg (HAdd.hAdd _) ic1) rfl (by decide) ?_
          refine aw_goto (pc := 37) (tgt := 4) hC dX1_doubtHere_37 (by decide) ?_
          exact ih x4 (x2 + 1)
  exact hL4 4096 0 0
theorem dX1_add_0 : decode cX1_add 0 = .ok (.aload_n 0, 1) := by decide +kernel
theorem dX1_add_1 : decode cX1_add 1 = .ok (.getfield 27, 3) := by decide +kernel
theorem dX1_add_4 : decode cX1_add 4 = .ok (.ifCond .lt 12, 3) := by decide +kernel
theorem dX1_add_7 : decode cX1_add 7 = .ok (.aload_n 0, 1) := by decide +kernel
theorem dX1_add_8 : decode cX1_add 8 = .ok (.getfield 27, 3) := by decide +kernel
theorem dX1_add_11 : decode cX1_add 11 = .ok (.bipush 8, 2) := by decide +kernel
theorem dX1_add_13 : decode cX1_add 13 = .ok (.if_icmp .lt 4, 3) := by decide +kernel
theorem dX1_add_16 : decode cX1_add 16 = .ok (.return_, 1) := by decide +kernel
theorem dX1_add_17 : decode cX1_add 17 = .ok (.aload_n 0, 1) := by decide +kernel
theorem dX1_add_18 : decode cX1_add 18 = .ok (.getfield 9, 3) := by decide +kernel
theorem dX1_add_21 : decode cX1_add 21 = .ok (.aload_n 0, 1) := by decide +kernel
theorem dX1_add_22 : decode cX1_add 22 = .ok (.getfield 27, 3) := by decide +kernel
theorem dX1_add_25 : decode cX1_add 25 = .ok (.iload_n 1, 1) := by decide +kernel
theorem dX1_add_26 : decode cX1_add 26 = .ok (.iastore, 1) := by decide +kernel
theorem dX1_add_27 : decode cX1_add 27 = .ok (.aload_n 0, 1) := by decide +kernel
theorem dX1_add_28 : decode cX1_add 28 = .ok (.getfield 15, 3) := by decide +kernel
theorem dX1_add_31 : decode cX1_add 31 = .ok (.aload_n 0, 1) := by decide +kernel
theorem dX1_add_32 : decode cX1_add 32 = .ok (.getfield 27, 3) := by decide +kernel
theorem dX1_add_35 : decode cX1_add 35 = .ok (.iload_n 2, 1) := by decide +kernel
theorem dX1_add_36 : decode cX1_add 36 = .ok (.iastore, 1) := by decide +kernel
theorem dX1_add_37 : decode cX1_add 37 = .ok (.aload_n 0, 1) := by decide +kernel
theorem dX1_add_38 : decode cX1_add 38 = .ok (.getfield 18, 3) := by decide +kernel
theorem dX1_add_41 : decode cX1_add 41 = .ok (.aload_n 0, 1) := by decide +kernel
theorem dX1_add_42 : decode cX1_add 42 = .ok (.getfield 27, 3) := by decide +kernel
theorem dX1_add_45 : decode cX1_add 45 = .ok (.iload_n 3, 1) := by decide +kernel
theorem dX1_add_46 : decode cX1_add 46 = .ok (.iastore, 1) := by decide +kernel
theorem dX1_add_47 : decode cX1_add 47 = .ok (.aload_n 0, 1) := by decide +kernel
theorem dX1_add_48 : decode cX1_add 48 = .ok (.aload_n 0, 1) := by decide +kernel
theorem dX1_add_49 : decode cX1_add 49 = .ok (.getfield 31, 3) := by decide +kernel
theorem dX1_add_52 : decode cX1_add 52 = .ok (.aload_n 0, 1) := by decide +kernel
theorem dX1_add_53 : decode cX1_add 53 = .ok (.getfield 27, 3) := by decide +kernel
theorem dX1_add_56 : decode cX1_add 56 = .ok (.iload 4, 2) := by decide +kernel
theorem dX1_add_58 : decode cX1_add 58 = .ok (.invokestatic 37, 3) := by decide +kernel
theorem dX1_add_61 : decode cX1_add 61 = .ok (.putfield 31, 3) := by decide +kernel
theorem dX1_add_64 : decode cX1_add 64 = .ok (.aload_n 0, 1) := by decide +kernel
theorem dX1_add_65 : decode cX1_add 65 = .ok (.aload_n 0, 1) := by decide +kernel
theorem dX1_add_66 : decode cX1_add 66 = .ok (.getfield 34, 3) := by decide +kernel
theorem dX1_add_69 : decode cX1_add 69 = .ok (.aload_n 0, 1) := by decide +kernel
theorem dX1_add_70 : decode cX1_add 70 = .ok (.getfield 27, 3) := by decide +kernel
theorem dX1_add_73 : decode cX1_add 73 = .ok (.iconst 1, 1) := by decide +kernel
theorem dX1_add_74 : decode cX1_add 74 = .ok (.invokestatic 37, 3) := by decide +kernel
theorem dX1_add_77 : decode cX1_add 77 = .ok (.putfield 34, 3) := by decide +kernel
theorem dX1_add_80 : decode cX1_add 80 = .ok (.aload_n 0, 1) := by decide +kernel
theorem dX1_add_81 : decode cX1_add 81 = .ok (.dup, 1) := by decide +kernel
theorem dX1_add_82 : decode cX1_add 82 = .ok (.getfield 27, 3) := by decide +kernel
theorem dX1_add_85 : decode cX1_add 85 = .ok (.iconst 1, 1) := by decide +kernel
theorem dX1_add_86 : decode cX1_add 86 = .ok (.iadd, 1) := by decide +kernel
theorem dX1_add_87 : decode cX1_add 87 = .ok (.putfield 27, 3) := by decide +kernel
theorem dX1_add_90 : decode cX1_add 90 = .ok (.return_, 1) := by decide +kernel
def f_X1_add (h : Nat) (μ : Mem) (a1 : Int32) (a2 : Int32) (a3 : Int32) (a4 : Int32) : Option (Mem) := if (μ (h + 1) 1 3) < 0 then (some μ) else (if (μ (h + 1) 1 3) < 8 then (ix (μ (h + 1) 1 3) 8 (nm (upm μ (h + 1) 2 (μ (h + 1) 1 3).toNatClampNeg a1) fun (μ1 : Mem) => ix (μ1 (h + 1) 1 3) 8 (nm (upm μ1 (h + 1) 3 (μ1 (h + 1) 1 3).toNatClampNeg a2) fun (μ2 : Mem) => ix (μ2 (h + 1) 1 3) 8 (nm (upm μ2 (h + 1) 4 (μ2 (h + 1) 1 3).toNatClampNeg a3) fun (μ3 : Mem) => (f_X9_withMember (μ3 (h + 1) 1 4) (μ3 (h + 1) 1 3) a4).bind fun (q4 : Int32) => nm (upm μ3 (h + 1) 1 4 q4) fun (μ5 : Mem) => (f_X9_withMember (μ5 (h + 1) 1 5) (μ5 (h + 1) 1 3) 1).bind fun (q6 : Int32) => nm (upm μ5 (h + 1) 1 5 q6) fun (μ7 : Mem) => nm (upm μ7 (h + 1) 1 3 ((μ7 (h + 1) 1 3) + 1)) fun (μ8 : Mem) => some μ8)))) else (some μ))
set_option maxHeartbeats 4000000 in
set_option maxRecDepth 100000 in
theorem c_X1_add (G : GG) (l : Launch) (h : Nat) (hh : h < 15) (μ : Mem) (a1 : Int32) (a2 : Int32) (a3 : Int32) (a4 : Int32) : CV G l yX1_add (.code yX1_add cX1_add 5 none) 2 [.ref (gad G (h + 1) 1), .int a1, .int a2, .int a3, .int a4] μ (f_X1_add h μ a1 a2 a3 a4) := by
  refine CV.of (own := "SaturdayKeep$Guests") (L0 := [some (.ref (gad G (h + 1) 1)), some (.int a1), some (.int a2), some (.int a3), some (.int a4)]) rfl rfl rfl (Nat.le_of_ble_eq_true rfl) (fun C hl hC => ?_)
  subst hl
  delta f_X1_add
  refine aw_aload_n (pc := 0) (i := 0) hC dX1_add_0 rfl rfl ?_
  refine aw_get (pc := 1) hC inX1 (vH (j := 1) hh (by decide)) rfl rfl 3 (by decide) kw143 rfl rfl dX1_add_1 ?_
  refine aw_if_lt (pc := 4) (tgt := 16) hC dX1_add_4 (by decide) (fun _ => ?_) (fun _ => ?_)
  · skip
    exact aw_vret hC dX1_add_16
  · skip
    refine aw_aload_n (pc := 7) (i := 0) hC dX1_add_7 rfl rfl ?_
    refine aw_get (pc := 8) hC inX1 (vH (j := 1) hh (by decide)) rfl rfl 3 (by decide) kw143 rfl rfl dX1_add_8 ?_
    refine aw_bipush (pc := 11) (v := 8) hC dX1_add_11 bc8 ?_
    refine aw_icmp_lt (pc := 13) (tgt := 17) hC dX1_add_13 (by decide) (fun _ => ?_) (fun _ => ?_)
    · skip
      refine aw_aload_n (pc := 17) (i := 0) hC dX1_add_17 rfl rfl ?_
      refine aw_get (pc := 18) hC inX1 (vH (j := 1) hh (by decide)) rfl rfl 0 (by decide) kw140 rfl rfl dX1_add_18 ?_
      refine aw_aload_n (pc := 21) (i := 0) hC dX1_add_21 rfl rfl ?_
      refine aw_get (pc := 22) hC inX1 (vH (j := 1) hh (by decide)) rfl rfl 3 (by decide) kw143 rfl rfl dX1_add_22 ?_
      refine aw_iload_n (pc := 25) (i := 1) hC dX1_add_25 rfl rfl ?_
      refine aw_iastoreN (pc := 26) hC (vH (j := 2) hh (by decide)) (fun _ => rfl) dX1_add_26 (fun μ1 => ?_)
      refine aw_aload_n (pc := 27) (i := 0) hC dX1_add_27 rfl rfl ?_
      refine aw_get (pc := 28) hC inX1 (vH (j := 1) hh (by decide)) rfl rfl 1 (by decide) kw141 rfl rfl dX1_add_28 ?_
      refine aw_aload_n (pc := 31) (i := 0) hC dX1_add_31 rfl rfl ?_
      refine aw_get (pc := 32) hC inX1 (vH (j := 1) hh (by decide)) rfl rfl 3 (by decide) kw143 rfl rfl dX1_add_32 ?_
      refine aw_iload_n (pc := 35) (i := 2) hC dX1_add_35 rfl rfl ?_
      refine aw_iastoreN (pc := 36) hC (vH (j := 3) hh (by decide)) (fun _ => rfl) dX1_add_36 (fun μ2 => ?_)
      refine aw_aload_n (pc := 37) (i := 0) hC dX1_add_37 rfl rfl ?_
      refine aw_get (pc := 38) hC inX1 (vH (j := 1) hh (by decide)) rfl rfl 2 (by decide) kw142 rfl rfl dX1_add_38 ?_
      refine aw_aload_n (pc := 41) (i := 0) hC dX1_add_41 rfl rfl ?_
      refine aw_get (pc := 42) hC inX1 (vH (j := 1) hh (by decide)) rfl rfl 3 (by decide) kw143 rfl rfl dX1_add_42 ?_
      refine aw_iload_n (pc := 45) (i := 3) hC dX1_add_45 rfl rfl ?_
      refine aw_iastoreN (pc := 46) hC (vH (j := 4) hh (by decide)) (fun _ => rfl) dX1_add_46 (fun μ3 => ?_)
      refine aw_aload_n (pc := 47) (i := 0) hC dX1_add_47 rfl rfl ?_
      refine aw_aload_n (pc := 48) (i := 0) hC dX1_add_48 rfl rfl ?_
      refine aw_get (pc := 49) hC inX1 (vH (j := 1) hh (by decide)) rfl rfl 4 (by decide) kw146 rfl rfl dX1_add_49 ?_
      refine aw_aload_n (pc := 52) (i := 0) hC dX1_add_52 rfl rfl ?_
      refine aw_get (pc := 53) hC inX1 (vH (j := 1) hh (by decide)) rfl rfl 3 (by decide) kw143 rfl rfl dX1_add_53 ?_
      refine aw_iload (pc := 56) hC dX1_add_56 rfl ?_
      refine aw_callNR (pc := 58) (As := [.int (μ3 (h + 1) 1 4), .int (μ3 (h + 1) 1 3), .int a4]) hC ms_X9_withMember kw452 (by decide) (c_X9_withMember G C.2.1   μ3 (μ3 (h + 1) 1 4) (μ3 (h + 1) 1 3) a4) rfl (Nat.le_of_ble_eq_true rfl) dX1_add_58 (fun q4 => ?_)
      refine aw_putIN (pc := 61) hC inX1 (vH (j := 1) hh (by decide)) rfl rfl 4 (by decide) kw146 rfl tyX1 tyX1_ok nmX1 rfl rfl (Nat.le_of_ble_eq_true rfl) rfl dX1_add_61 (fun μ5 => ?_)
      refine aw_aload_n (pc := 64) (i := 0) hC dX1_add_64 rfl rfl ?_
      refine aw_aload_n (pc := 65) (i := 0) hC dX1_add_65 rfl rfl ?_
      refine aw_get (pc := 66) hC inX1 (vH (j := 1) hh (by decide)) rfl rfl 5 (by decide) kw149 rfl rfl dX1_add_66 ?_
      refine aw_aload_n (pc := 69) (i := 0) hC dX1_add_69 rfl rfl ?_
      refine aw_get (pc := 70) hC inX1 (vH (j := 1) hh (by decide)) rfl rfl 3 (by decide) kw143 rfl rfl dX1_add_70 ?_
      refine aw_iconst (pc := 73) (v := 1) hC dX1_add_73 ic1 ?_
      refine aw_callNR (pc := 74) (As := [.int (μ5 (h + 1) 1 5), .int (μ5 (h + 1) 1 3), .int 1]) hC ms_X9_withMember kw452 (by decide) (c_X9_withMember G C.2.1   μ5 (μ5 (h + 1) 1 5) (μ5 (h + 1) 1 3) 1) rfl (Nat.le_of_ble_eq_true rfl) dX1_add_74 (fun q6 => ?_)
      refine aw_putIN (pc := 77) hC inX1 (vH (j := 1) hh (by decide)) rfl rfl 5 (by decide) kw149 rfl tyX1 tyX1_ok nmX1 rfl rfl (Nat.le_of_ble_eq_true rfl) rfl dX1_add_77 (fun μ7 => ?_)
      refine aw_aload_n (pc := 80) (i := 0) hC dX1_add_80 rfl rfl ?_
      refine aw_dup (pc := 81) hC dX1_add_81 rfl ?_
      refine aw_get (pc := 82) hC inX1 (vH (j := 1) hh (by decide)) rfl rfl 3 (by decide) kw143 rfl rfl dX1_add_82 ?_
      refine aw_iconst (pc := 85) (v := 1) hC dX1_add_85 ic1 ?_
      refine aw_iadd (pc := 86) hC dX1_add_86 ?_
      refine aw_putIN (pc := 87) hC inX1 (vH (j := 1) hh (by decide)) rfl rfl 3 (by decide) kw143 rfl tyX1 tyX1_ok nmX1 rfl rfl (Nat.le_of_ble_eq_true rfl) rfl dX1_add_87 (fun μ8 => ?_)
      exact aw_vret hC dX1_add_90
    · skip
      exact aw_vret hC dX1_add_16
theorem dX1_put_0 : decode cX1_put 0 = .ok (.iload_n 1, 1) := by decide +kernel
theorem dX1_put_1 : decode cX1_put 1 = .ok (.invokestatic 41, 3) := by decide +kernel
theorem dX1_put_4 : decode cX1_put 4 = .ok (.ifCond .eq 10, 3) := by decide +kernel
theorem dX1_put_7 : decode cX1_put 7 = .ok (.aload_n 0, 1) := by decide +kernel
theorem dX1_put_8 : decode cX1_put 8 = .ok (.getfield 9, 3) := by decide +kernel
theorem dX1_put_11 : decode cX1_put 11 = .ok (.iload_n 1, 1) := by decide +kernel
theorem dX1_put_12 : decode cX1_put 12 = .ok (.iload_n 2, 1) := by decide +kernel
theorem dX1_put_13 : decode cX1_put 13 = .ok (.iastore, 1) := by decide +kernel
theorem dX1_put_14 : decode cX1_put 14 = .ok (.return_, 1) := by decide +kernel
def f_X1_put (h : Nat) (μ : Mem) (a1 : Int32) (a2 : Int32) : Option (Mem) := (f_X1_isNumber a1).bind fun (q1 : Int32) => if q1 = 0 then (some μ) else (ix a1 8 (nm (upm μ (h + 1) 2 a1.toNatClampNeg a2) fun (μ2 : Mem) => some μ2))
set_option maxHeartbeats 4000000 in
set_option maxRecDepth 100000 in
theorem c_X1_put (G : GG) (l : Launch) (h : Nat) (hh : h < 15) (μ : Mem) (a1 : Int32) (a2 : Int32) : CV G l yX1_put (.code yX1_put cX1_put 3 none) 2 [.ref (gad G (h + 1) 1), .int a1, .int a2] μ (f_X1_put h μ a1 a2) := by
  refine CV.of (own := "SaturdayKeep$Guests") (L0 := [some (.ref (gad G (h + 1) 1)), some (.int a1), some (.int a2)]) rfl rfl rfl (Nat.le_of_ble_eq_true rfl) (fun C hl hC => ?_)
  subst hl
  delta f_X1_put
  refine aw_iload_n (pc := 0) (i := 1) hC dX1_put_0 rfl rfl ?_
  refine aw_callSR (pc := 1) (As := [.int a1]) hC ms_X1_isNumber kw398 (by decide) (c_X1_isNumber G C.2.1   μ a1) rfl (Nat.le_of_ble_eq_true rfl) dX1_put_1 (fun q1 => ?_)
  refine aw_if_eq (pc := 4) (tgt := 14) hC dX1_put_4 (by decide) (fun _ => ?_) (fun _ => ?_)
  · skip
    exact aw_vret hC dX1_put_14
  · skip
    refine aw_aload_n (pc := 7) (i := 0) hC dX1_put_7 rfl rfl ?_
    refine aw_get (pc := 8) hC inX1 (vH (j := 1) hh (by decide)) rfl rfl 0 (by decide) kw140 rfl rfl dX1_put_8 ?_
    refine aw_iload_n (pc := 11) (i := 1) hC dX1_put_11 rfl rfl ?_
    refine aw_iload_n (pc := 12) (i := 2) hC dX1_put_12 rfl rfl ?_
    refine aw_iastoreN (pc := 13) hC (vH (j := 2) hh (by decide)) (fun _ => rfl) dX1_put_13 (fun μ2 => ?_)
    exact aw_vret hC dX1_put_14
theorem dX1_setDoubt_0 : decode cX1_setDoubt 0 = .ok (.iload_n 1, 1) := by decide +kernel
theorem dX1_setDoubt_1 : decode cX1_setDoubt 1 = .ok (.invokestatic 41, 3) := by decide +kernel
theorem dX1_setDoubt_4 : decode cX1_setDoubt 4 = .ok (.ifCond .eq 19, 3) := by decide +kernel
theorem dX1_setDoubt_7 : decode cX1_setDoubt 7 = .ok (.aload_n 0, 1) := by decide +kernel
theorem dX1_setDoubt_8 : decode cX1_setDoubt 8 = .ok (.getfield 18, 3) := by decide +kernel
theorem dX1_setDoubt_11 : decode cX1_setDoubt 11 = .ok (.iload_n 1, 1) := by decide +kernel
theorem dX1_setDoubt_12 : decode cX1_setDoubt 12 = .ok (.iconst 0, 1) := by decide +kernel
theorem dX1_setDoubt_13 : decode cX1_setDoubt 13 = .ok (.bipush 99, 2) := by decide +kernel
theorem dX1_setDoubt_15 : decode cX1_setDoubt 15 = .ok (.iload_n 2, 1) := by decide +kernel
theorem dX1_setDoubt_16 : decode cX1_setDoubt 16 = .ok (.invokestatic 45, 3) := by decide +kernel
theorem dX1_setDoubt_19 : decode cX1_setDoubt 19 = .ok (.invokestatic 51, 3) := by decide +kernel
theorem dX1_setDoubt_22 : decode cX1_setDoubt 22 = .ok (.iastore, 1) := by decide +kernel
theorem dX1_setDoubt_23 : decode cX1_setDoubt 23 = .ok (.return_, 1) := by decide +kernel
def f_X1_setDoubt (h : Nat) (μ : Mem) (a1 : Int32) (a2 : Int32) : Option (Mem) := (f_X1_isNumber a1).bind fun (q1 : Int32) => if q1 = 0 then (some μ) else (ix a1 8 (nm (upm μ (h + 1) 4 a1.toNatClampNeg (jmax 0 (jmin 99 a2))) fun (μ2 : Mem) => some μ2))
set_option maxHeartbeats 4000000 in
set_option maxRecDepth 100000 in
theorem c_X1_setDoubt (G : GG) (l : Launch) (h : Nat) (hh : h < 15) (μ : Mem) (a1 : Int32) (a2 : Int32) : CV G l yX1_setDoubt (.code yX1_setDoubt cX1_setDoubt 3 none) 2 [.ref (gad G (h + 1) 1), .int a1, .int a2] μ (f_X1_setDoubt h μ a1 a2) := by
  refine CV.of (own := "SaturdayKeep$Guests") (L0 := [some (.ref (gad G (h + 1) 1)), some (.int a1), some (.int a2)]) rfl rfl rfl (Nat.le_of_ble_eq_true rfl) (fun C hl hC => ?_)
  subst hl
  delta f_X1_setDoubt
  refine aw_iload_n (pc := 0) (i := 1) hC dX1_setDoubt_0 rfl rfl ?_
  refine aw_callSR (pc := 1) (As := [.int a1]) hC ms_X1_isNumber kw398 (by decide) (c_X1_isNumber G C.2.1   μ a1) rfl (Nat.le_of_ble_eq_true rfl) dX1_setDoubt_1 (fun q1 => ?_)
  refine aw_if_eq (pc := 4) (tgt := 23) hC dX1_setDoubt_4 (by decide) (fun _ => ?_) (fun _ => ?_)
  · skip
    exact aw_vret hC dX1_setDoubt_23
  · skip
    refine aw_aload_n (pc := 7) (i := 0) hC dX1_setDoubt_7 rfl rfl ?_
    refine aw_get (pc := 8) hC inX1 (vH (j := 1) hh (by decide)) rfl rfl 2 (by decide) kw142 rfl rfl dX1_setDoubt_8 ?_
    refine aw_iload_n (pc := 11) (i := 1) hC dX1_setDoubt_11 rfl rfl ?_
    refine aw_iconst (pc := 12) (v := 0) hC dX1_setDoubt_12 ic0 ?_
    refine aw_bipush (pc := 13) (v := 99) hC dX1_setDoubt_13 bc99 ?_
    refine aw_iload_n (pc := 15) (i := 2) hC dX1_setDoubt_15 rfl rfl ?_
    refine aw_mmin (pc := 16) hC kw1058 kw367 kw12 kw368 (by decide) (Nat.le_of_ble_eq_true rfl) dX1_setDoubt_16 ?_
    refine aw_mmax (pc := 19) hC kw1059 kw370 kw12 kw371 (by decide) (Nat.le_of_ble_eq_true rfl) dX1_setDoubt_19 ?_
    refine aw_iastoreN (pc := 22) hC (vH (j := 4) hh (by decide)) (fun _ => rfl) dX1_setDoubt_22 (fun μ2 => ?_)
    exact aw_vret hC dX1_setDoubt_23
theorem dX1_spreadHere_0 : decode cX1_spreadHere 0 = .ok (.bipush 99, 2) := by decide +kernel
theorem dX1_spreadHere_2 : decode cX1_spreadHere 2 = .ok (.istore_n 1, 1) := by decide +kernel
theorem dX1_spreadHere_3 : decode cX1_spreadHere 3 = .ok (.iconst 0, 1) := by decide +kernel
theorem dX1_spreadHere_4 : decode cX1_spreadHere 4 = .ok (.istore_n 2, 1) := by decide +kernel
theorem dX1_spreadHere_5 : decode cX1_spreadHere 5 = .ok (.iconst 0, 1) := by decide +kernel
theorem dX1_spreadHere_6 : decode cX1_spreadHere 6 = .ok (.istore_n 3, 1) := by decide +kernel
theorem dX1_spreadHere_7 : decode cX1_spreadHere 7 = .ok (.iload_n 3, 1) := by decide +kernel
theorem dX1_spreadHere_8 : decode cX1_spreadHere 8 = .ok (.bipush 8, 2) := by decide +kernel
theorem dX1_spreadHere_10 : decode cX1_spreadHere 10 = .ok (.if_icmp .ge 42, 3) := by decide +kernel
theorem dX1_spreadHere_13 : decode cX1_spreadHere 13 = .ok (.aload_n 0, 1) := by decide +kernel
theorem dX1_spreadHere_14 : decode cX1_spreadHere 14 = .ok (.getfield 34, 3) := by decide +kernel
theorem dX1_spreadHere_17 : decode cX1_spreadHere 17 = .ok (.iload_n 3, 1) := by decide +kernel
theorem dX1_spreadHere_18 : decode cX1_spreadHere 18 = .ok (.invokestatic 61, 3) := by decide +kernel
theorem dX1_spreadHere_21 : decode cX1_spreadHere 21 = .ok (.ifCond .eq 25, 3) := by decide +kernel
theorem dX1_spreadHere_24 : decode cX1_spreadHere 24 = .ok (.iload_n 1, 1) := by decide +kernel
theorem dX1_spreadHere_25 : decode cX1_spreadHere 25 = .ok (.aload_n 0, 1) := by decide +kernel
theorem dX1_spreadHere_26 : decode cX1_spreadHere 26 = .ok (.getfield 18, 3) := by decide +kernel
theorem dX1_spreadHere_29 : decode cX1_spreadHere 29 = .ok (.iload_n 3, 1) := by decide +kernel
theorem dX1_spreadHere_30 : decode cX1_spreadHere 30 = .ok (.iaload, 1) := by decide +kernel
theorem dX1_spreadHere_31 : decode cX1_spreadHere 31 = .ok (.invokestatic 45, 3) := by decide +kernel
theorem dX1_spreadHere_34 : decode cX1_spreadHere 34 = .ok (.istore_n 1, 1) := by decide +kernel
theorem dX1_spreadHere_35 : decode cX1_spreadHere 35 = .ok (.iload_n 2, 1) := by decide +kernel
theorem dX1_spreadHere_36 : decode cX1_spreadHere 36 = .ok (.aload_n 0, 1) := by decide +kernel
theorem dX1_spreadHere_37 : decode cX1_spreadHere 37 = .ok (.getfield 18, 3) := by decide +kernel
theorem dX1_spreadHere_40 : decode cX1_spreadHere 40 = .ok (.iload_n 3, 1) := by decide +kernel
theorem dX1_spreadHere_41 : decode cX1_spreadHere 41 = .ok (.iaload, 1) := by decide +kernel
theorem dX1_spreadHere_42 : decode cX1_spreadHere 42 = .ok (.invokestatic 51, 3) := by decide +kernel
theorem dX1_spreadHere_45 : decode cX1_spreadHere 45 = .ok (.istore_n 2, 1) := by decide +kernel
theorem dX1_spreadHere_46 : decode cX1_spreadHere 46 = .ok (.iinc 3 1, 3) := by decide +kernel
theorem dX1_spreadHere_49 : decode cX1_spreadHere 49 = .ok (.goto (-42), 3) := by decide +kernel
theorem dX1_spreadHere_52 : decode cX1_spreadHere 52 = .ok (.aload_n 0, 1) := by decide +kernel
theorem dX1_spreadHere_53 : decode cX1_spreadHere 53 = .ok (.getfield 34, 3) := by decide +kernel
theorem dX1_spreadHere_56 : decode cX1_spreadHere 56 = .ok (.ifCond .ne 7, 3) := by decide +kernel
theorem dX1_spreadHere_59 : decode cX1_spreadHere 59 = .ok (.iconst 0, 1) := by decide +kernel
theorem dX1_spreadHere_60 : decode cX1_spreadHere 60 = .ok (.goto 6, 3) := by decide +kernel
theorem dX1_spreadHere_63 : decode cX1_spreadHere 63 = .ok (.iload_n 2, 1) := by decide +kernel
theorem dX1_spreadHere_64 : decode cX1_spreadHere 64 = .ok (.iload_n 1, 1) := by decide +kernel
theorem dX1_spreadHere_65 : decode cX1_spreadHere 65 = .ok (.isub, 1) := by decide +kernel
theorem dX1_spreadHere_66 : decode cX1_spreadHere 66 = .ok (.ireturn, 1) := by decide +kernel
def lp_X1_spreadHere_7 (h : Nat) (μ : Mem) (k52 : Int32 → Int32 → Option (Int32)) : Nat → Int32 → Int32 → Int32 → Option (Int32)
  | 0, _, _, _ => none
  | n + 1, x3, x4, x5 => if 8 ≤ x5 then (k52 x3 x4) else ((f_X9_holds (μ (h + 1) 1 5) x5).bind fun (q6 : Int32) => if q6 = 0 then (lp_X1_spreadHere_7 h μ k52 n x3 x4 (x5 + 1)) else (ix x5 8 (nm (jmin x3 (μ (h + 1) 4 x5.toNatClampNeg)) fun (x7 : Int32) => ix x5 8 (nm (jmax x4 (μ (h + 1) 4 x5.toNatClampNeg)) fun (x8 : Int32) => lp_X1_spreadHere_7 h μ k52 n x7 x8 (x5 + 1)))))
def f_X1_spreadHere (h : Nat) (μ : Mem) : Option (Int32) := lp_X1_spreadHere_7 h μ (fun (x1 : Int32) (x2 : Int32) => if (μ (h + 1) 1 5) = 0 then (some 0) else (some (x2 - x1))) 4096 99 0 0
set_option maxHeartbeats 4000000 in
set_option maxRecDepth 100000 in
theorem c_X1_spreadHere (G : GG) (l : Launch) (h : Nat) (hh : h < 15) (μ : Mem) : CR G l yX1_spreadHere (.code yX1_spreadHere cX1_spreadHere 4 (some .int)) 2 [.ref (gad G (h + 1) 1)] μ (f_X1_spreadHere h μ) := by
  refine CR.of (own := "SaturdayKeep$Guests") (L0 := [some (.ref (gad G (h + 1) 1)), none, none, none]) rfl rfl rfl (Nat.le_of_ble_eq_true rfl) (fun C hl hC => ?_)
  subst hl
  delta f_X1_spreadHere
  refine aw_bipush (pc := 0) (v := 99) hC dX1_spreadHere_0 bc99 ?_
  refine aw_istore_n (pc := 2) (i := 1) hC dX1_spreadHere_2 rfl rfl (by decide) ?_
  refine aw_iconst (pc := 3) (v := 0) hC dX1_spreadHere_3 ic0 ?_
  refine aw_istore_n (pc := 4) (i := 2) hC dX1_spreadHere_4 rfl rfl (by decide) ?_
  refine aw_iconst (pc := 5) (v := 0) hC dX1_spreadHere_5 ic0 ?_
  refine aw_istore_n (pc := 6) (i := 3) hC dX1_spreadHere_6 rfl rfl (by decide) ?_
  have hL7 : ∀ (k52 : Int32 → Int32 → Option (Int32)) (hk52 : ∀ (x1 : Int32) (x2 : Int32), AW G C (qR G C 0 0 μ) 0 0 4 μ 52 [some (.ref (gad G (h + 1) 1)), some (.int x1), some (.int x2), none] [] (k52 x1 x2)) (n : Nat) (x3 : Int32) (x4 : Int32) (x5 : Int32), AW G C (qR G C 0 0 μ) 0 0 4 μ 7 [some (.ref (gad G (h + 1) 1)), some (.int x3), some (.int x4), some (.int x5)] [] (lp_X1_spreadHere_7 h μ k52 n x3 x4 x5) := by
    intro k52 hk52 n
    induction n with
    | zero => intro x3 x4 x5; exact aw_none
    | succ n ih =>
      intro x3 x4 x5
      rw [lp_X1_spreadHere_7]
      refine aw_iload_n (pc := 7) (i := 3) hC dX1_spreadHere_7 rfl rfl ?_
      refine aw_bipush (pc := 8) (v := 8) hC dX1_spreadHere_8 bc8 ?_
      refine aw_icmp_ge (pc := 10) (tgt := 52) hC dX1_spreadHere_10 (by decide) (fun _ => ?_) (fun _ => ?_)
      · skip
        exact aw_drop [3] (hk52 x3 x4)
      · skip
        refine aw_aload_n (pc := 13) (i := 0) hC dX1_spreadHere_13 rfl rfl ?_
        refine aw_get (pc := 14) hC inX1 (vH (j := 1) hh (by decide)) rfl rfl 5 (by decide) kw149 rfl rfl dX1_spreadHere_14 ?_
        refine aw_iload_n (pc := 17) (i := 3) hC dX1_spreadHere_17 rfl rfl ?_
        refine aw_callNR (pc := 18) (As := [.int (μ (h + 1) 1 5), .int x5]) hC ms_X9_holds kw451 (by decide) (c_X9_holds G C.2.1   μ (μ (h + 1) 1 5) x5) rfl (Nat.le_of_ble_eq_true rfl) dX1_spreadHere_18 (fun q6 => ?_)
        refine aw_if_eq (pc := 21) (tgt := 46) hC dX1_spreadHere_21 (by decide) (fun _ => ?_) (fun _ => ?_)
        · skip
          refine aw_iinc (pc := 46) (v := x5 + 1) hC dX1_spreadHere_46 rfl (congrArg (HAdd.hAdd _) ic1) rfl (by decide) ?_
          refine aw_goto (pc := 49) (tgt := 7) hC dX1_spreadHere_49 (by decide) ?_
          exact ih x3 x4 (x5 + 1)
        · skip
          refine aw_iload_n (pc := 24) (i := 1) hC dX1_spreadHere_24 rfl rfl ?_
          refine aw_aload_n (pc := 25) (i := 0) hC dX1_spreadHere_25 rfl rfl ?_
          refine aw_get (pc := 26) hC inX1 (vH (j := 1) hh (by decide)) rfl rfl 2 (by decide) kw142 rfl rfl dX1_spreadHere_26 ?_
          refine aw_iload_n (pc := 29) (i := 3) hC dX1_spreadHere_29 rfl rfl ?_
          refine aw_iaload (pc := 30) hC (vH (j := 4) hh (by decide)) rfl dX1_spreadHere_30 ?_
          refine aw_mmin (pc := 31) hC kw1058 kw367 kw12 kw368 (by decide) (Nat.le_of_ble_eq_true rfl) dX1_spreadHere_31 ?_
          refine aw_nmI (fun x7 _ => ?_)
          refine aw_istore_n (pc := 34) (i := 1) hC dX1_spreadHere_34 rfl rfl (by decide) ?_
          refine aw_iload_n (pc := 35) (i := 2) hC dX1_spreadHere_35 rfl rfl ?_
          refine aw_aload_n (pc := 36) (i := 0) hC dX1_spreadHere_36 rfl rfl ?_
          refine aw_get (pc := 37) hC inX1 (vH (j := 1) hh (by decide)) rfl rfl 2 (by decide) kw142 rfl rfl dX1_spreadHere_37 ?_
          refine aw_iload_n (pc := 40) (i := 3) hC dX1_spreadHere_40 rfl rfl ?_
          refine aw_iaload (pc := 41) hC (vH (j := 4) hh (by decide)) rfl dX1_spreadHere_41 ?_
          refine aw_mmax (pc := 42) hC kw1059 kw370 kw12 kw371 (by decide) (Nat.le_of_ble_eq_true rfl) dX1_spreadHere_42 ?_
          refine aw_nmI (fun x8 _ => ?_)
          refine aw_istore_n (pc := 45) (i := 2) hC dX1_spreadHere_45 rfl rfl (by decide) ?_
          refine aw_iinc (pc := 46) (v := x5 + 1) hC dX1_spreadHere_46 rfl (congrArg (HAdd.hAdd _) ic1) rfl (by decide) ?_
          refine aw_goto (pc := 49) (tgt := 7) hC dX1_spreadHere_49 (by decide) ?_
          exact ih x7 x8 (x5 + 1)
  refine hL7 (fun (x1 : Int32) (x2 : Int32) => if (μ (h + 1) 1 5) = 0 then (some 0) else (some (x2 - x1))) (fun x1 x2 => ?_) 4096 99 0 0
  · skip
    refine aw_aload_n (pc := 52) (i := 0) hC dX1_spreadHere_52 rfl rfl ?_
    refine aw_get (pc := 53) hC inX1 (vH (j := 1) hh (by decide)) rfl rfl 5 (by decide) kw149 rfl rfl dX1_spreadHere_53 ?_
    refine aw_if_ne (pc := 56) (tgt := 63) hC dX1_spreadHere_56 (by decide) (fun _ => ?_) (fun _ => ?_)
    · skip
      refine aw_iconst (pc := 59) (v := 0) hC dX1_spreadHere_59 ic0 ?_
      refine aw_goto (pc := 60) (tgt := 66) hC dX1_spreadHere_60 (by decide) ?_
      exact aw_iretR hC dX1_spreadHere_66
    · skip
      refine aw_iload_n (pc := 63) (i := 2) hC dX1_spreadHere_63 rfl rfl ?_
      refine aw_iload_n (pc := 64) (i := 1) hC dX1_spreadHere_64 rfl rfl ?_
      refine aw_isub (pc := 65) hC dX1_spreadHere_65 ?_
      exact aw_iretR hC dX1_spreadHere_66
